set_option maxRecDepth 20000 in
theorem gX10_least_X10_reachAll : GoodIn wsX10_least (wsV RX10 242 RX10 yX10_reachAll wsX10_reachAll) := goodIn_app (goodIn_of _ (by decide +kernel)) ggX10_least_X10_reachAll
set_option maxRecDepth 20000 in
theorem ggX10_least_X4_cheapestWith : GoodIn wsX10_least wsX4_cheapestWith := goodIn_r _ [64, 25, 26, 93, 94] (by decide +kernel) (by decide +kernel)
set_option maxRecDepth 20000 in
theorem gX10_least_X4_cheapestWith : GoodIn wsX10_least (wsV RX10 245 RX4 yX4_cheapestWith wsX4_cheapestWith) := goodIn_app (goodIn_of _ (by decide +kernel)) ggX10_least_X4_cheapestWith
set_option maxRecDepth 20000 in
theorem ggX10_least_X9_tell : GoodIn wsX10_least wsX9_tell := goodIn_r _ [69, 70, 95, 96, 97, 98, 99] (by decide +kernel) (by decide +kernel)
set_option maxRecDepth 20000 in
theorem gX10_least_X9_tell : GoodIn wsX10_least (wsV RX10 98 RX9 yX9_tell wsX9_tell) := goodIn_app (goodIn_of _ (by decide +kernel)) ggX10_least_X9_tell
set_option maxRecDepth 20000 in
theorem ggX10_least_X4_favoursOf : GoodIn wsX10_least wsX4_favoursOf := goodIn_r _ [74, 25, 26, 93, 94] (by decide +kernel) (by decide +kernel)
set_option maxRecDepth 20000 in
theorem gX10_least_X4_favoursOf : GoodIn wsX10_least (wsV RX10 248 RX4 yX4_favoursOf wsX4_favoursOf) := goodIn_app (goodIn_of _ (by decide +kernel)) ggX10_least_X4_favoursOf
theorem dX10_least_0 : decode cX10_least 0 = .ok (.aload_n 0, 1) := by decide +kernel
theorem dX10_least_1 : decode cX10_least 1 = .ok (.getfield 40, 3) := by decide +kernel
theorem dX10_least_4 : decode cX10_least 4 = .ok (.iload_n 1, 1) := by decide +kernel
theorem dX10_least_5 : decode cX10_least 5 = .ok (.invokevirtual 239, 3) := by decide +kernel
theorem dX10_least_8 : decode cX10_least 8 = .ok (.ifCond .ne 5, 3) := by decide +kernel
theorem dX10_least_11 : decode cX10_least 11 = .ok (.iconst (-1), 1) := by decide +kernel
theorem dX10_least_12 : decode cX10_least 12 = .ok (.ireturn, 1) := by decide +kernel
theorem dX10_least_13 : decode cX10_least 13 = .ok (.aload_n 0, 1) := by decide +kernel
theorem dX10_least_14 : decode cX10_least 14 = .ok (.invokevirtual 242, 3) := by decide +kernel
theorem dX10_least_17 : decode cX10_least 17 = .ok (.aload_n 0, 1) := by decide +kernel
theorem dX10_least_18 : decode cX10_least 18 = .ok (.getfield 54, 3) := by decide +kernel
theorem dX10_least_21 : decode cX10_least 21 = .ok (.iload_n 1, 1) := by decide +kernel
theorem dX10_least_22 : decode cX10_least 22 = .ok (.invokevirtual 245, 3) := by decide +kernel
theorem dX10_least_25 : decode cX10_least 25 = .ok (.istore_n 2, 1) := by decide +kernel
theorem dX10_least_26 : decode cX10_least 26 = .ok (.iload_n 2, 1) := by decide +kernel
theorem dX10_least_27 : decode cX10_least 27 = .ok (.bipush (-9), 2) := by decide +kernel
theorem dX10_least_29 : decode cX10_least 29 = .ok (.if_icmp .ne 6, 3) := by decide +kernel
theorem dX10_least_32 : decode cX10_least 32 = .ok (.bipush (-9), 2) := by decide +kernel
theorem dX10_least_34 : decode cX10_least 34 = .ok (.ireturn, 1) := by decide +kernel
theorem dX10_least_35 : decode cX10_least 35 = .ok (.aload_n 0, 1) := by decide +kernel
theorem dX10_least_36 : decode cX10_least 36 = .ok (.getfield 10, 3) := by decide +kernel
theorem dX10_least_39 : decode cX10_least 39 = .ok (.iload_n 2, 1) := by decide +kernel
theorem dX10_least_40 : decode cX10_least 40 = .ok (.invokevirtual 98, 3) := by decide +kernel
theorem dX10_least_43 : decode cX10_least 43 = .ok (.aload_n 0, 1) := by decide +kernel
theorem dX10_least_44 : decode cX10_least 44 = .ok (.getfield 54, 3) := by decide +kernel
theorem dX10_least_47 : decode cX10_least 47 = .ok (.iload_n 2, 1) := by decide +kernel
theorem dX10_least_48 : decode cX10_least 48 = .ok (.invokevirtual 248, 3) := by decide +kernel
theorem dX10_least_51 : decode cX10_least 51 = .ok (.ireturn, 1) := by decide +kernel
set_option maxRecDepth 20000 in
theorem ggX10_order_X2_isSet : GoodIn wsX10_order wsX2_isSet := goodIn_r _ [8, 9, 10, 11, 7, 12, 13, 108, 109, 110, 111, 112, 113, 114, 115] (by decide +kernel) (by decide +kernel)
set_option maxRecDepth 20000 in
theorem gX10_order_X2_isSet : GoodIn wsX10_order (wsV RX10 239 RX2 yX2_isSet wsX2_isSet) := goodIn_app (goodIn_of _ (by decide +kernel)) ggX10_order_X2_isSet
set_option maxRecDepth 20000 in
theorem ggX10_order_X6_isNumber : GoodIn wsX10_order wsX6_isNumber := goodIn_r _ [18] (by decide +kernel) (by decide +kernel)
set_option maxRecDepth 20000 in
theorem gX10_order_X6_isNumber : GoodIn wsX10_order (wsV RX10 79 RX6 yX6_isNumber wsX6_isNumber) := goodIn_app (goodIn_of _ (by decide +kernel)) ggX10_order_X6_isNumber
set_option maxRecDepth 20000 in
theorem ggX10_order_X3_findFirst : GoodIn wsX10_order wsX3_findFirst := goodIn_r _ [23, 24, 25, 26, 27, 22, 28, 29, 30, 31, 32, 33, 34, 10, 11, 7, 12, 13, 35, 36, 37, 38, 39, 40, 41, 42, 43, 44, 45, 46, 47, 48, 49, 50, 51, 52, 53, 54, 55, 56, 57, 58, 59, 60, 61, 62, 63, 64, 65, 66, 67, 68, 69, 70, 71, 72, 73, 116, 117, 118, 119, 108, 109, 110, 111, 112, 113, 114, 115] (by decide +kernel) (by decide +kernel)
set_option maxRecDepth 20000 in
theorem gX10_order_X3_findFirst : GoodIn wsX10_order (wsV RX10 251 RX3 yX3_findFirst wsX3_findFirst) := goodIn_app (goodIn_of _ (by decide +kernel)) ggX10_order_X3_findFirst
set_option maxRecDepth 20000 in
theorem ggX10_order_J6_bitCount_0f7a4 : GoodIn wsX10_order wsJ6_bitCount_0f7a4 := goodIn_r _ [54, 55, 56, 57] (by decide +kernel) (by decide +kernel)
set_option maxRecDepth 20000 in
theorem gX10_order_J6_bitCount_0f7a4 : GoodIn wsX10_order (va_wsS RX10 255 yJ6_bitCount_0f7a4 wsJ6_bitCount_0f7a4) := goodIn_app (goodIn_of _ (by decide +kernel)) ggX10_order_J6_bitCount_0f7a4
set_option maxRecDepth 20000 in
theorem ggX10_order_X6_make : GoodIn wsX10_order wsX6_make := goodIn_r _ [78, 79, 80, 81, 15, 16, 17, 18, 120, 121] (by decide +kernel) (by decide +kernel)
set_option maxRecDepth 20000 in
theorem gX10_order_X6_make : GoodIn wsX10_order (wsV RX10 87 RX6 yX6_make wsX6_make) := goodIn_app (goodIn_of _ (by decide +kernel)) ggX10_order_X6_make
set_option maxRecDepth 20000 in
theorem ggX10_order_X3_stepAt : GoodIn wsX10_order wsX3_stepAt := goodIn_r _ [85, 73, 116, 117, 118, 119] (by decide +kernel) (by decide +kernel)
set_option maxRecDepth 20000 in
theorem gX10_order_X3_stepAt : GoodIn wsX10_order (wsV RX10 260 RX3 yX3_stepAt wsX3_stepAt) := goodIn_app (goodIn_of _ (by decide +kernel)) ggX10_order_X3_stepAt
set_option maxRecDepth 20000 in
theorem ggX10_order_X6_set : GoodIn wsX10_order wsX6_set := goodIn_r _ [89, 80, 90, 91, 92, 17, 93, 94, 95, 96, 97, 79, 81, 15, 16, 18, 120, 121] (by decide +kernel) (by decide +kernel)
set_option maxRecDepth 20000 in
theorem gX10_order_X6_set : GoodIn wsX10_order (wsV RX10 102 RX6 yX6_set wsX6_set) := goodIn_app (goodIn_of _ (by decide +kernel)) ggX10_order_X6_set
theorem dX10_order_0 : decode cX10_order 0 = .ok (.aload_n 0, 1) := by decide +kernel
theorem dX10_order_1 : decode cX10_order 1 = .ok (.getfield 40, 3) := by decide +kernel
theorem dX10_order_4 : decode cX10_order 4 = .ok (.iload_n 1, 1) := by decide +kernel
theorem dX10_order_5 : decode cX10_order 5 = .ok (.invokevirtual 239, 3) := by decide +kernel
theorem dX10_order_8 : decode cX10_order 8 = .ok (.ifCond .eq 14, 3) := by decide +kernel
theorem dX10_order_11 : decode cX10_order 11 = .ok (.aload_n 0, 1) := by decide +kernel
theorem dX10_order_12 : decode cX10_order 12 = .ok (.getfield 19, 3) := by decide +kernel
theorem dX10_order_15 : decode cX10_order 15 = .ok (.iload_n 2, 1) := by decide +kernel
theorem dX10_order_16 : decode cX10_order 16 = .ok (.invokevirtual 79, 3) := by decide +kernel
theorem dX10_order_19 : decode cX10_order 19 = .ok (.ifCond .ne 5, 3) := by decide +kernel
theorem dX10_order_22 : decode cX10_order 22 = .ok (.iconst (-1), 1) := by decide +kernel
theorem dX10_order_23 : decode cX10_order 23 = .ok (.ireturn, 1) := by decide +kernel
theorem dX10_order_24 : decode cX10_order 24 = .ok (.aload_n 0, 1) := by decide +kernel
theorem dX10_order_25 : decode cX10_order 25 = .ok (.getfield 61, 3) := by decide +kernel
theorem dX10_order_28 : decode cX10_order 28 = .ok (.aload_n 0, 1) := by decide +kernel
theorem dX10_order_29 : decode cX10_order 29 = .ok (.getfield 40, 3) := by decide +kernel
theorem dX10_order_32 : decode cX10_order 32 = .ok (.iload_n 1, 1) := by decide +kernel
theorem dX10_order_33 : decode cX10_order 33 = .ok (.invokevirtual 251, 3) := by decide +kernel
theorem dX10_order_36 : decode cX10_order 36 = .ok (.istore_n 3, 1) := by decide +kernel
theorem dX10_order_37 : decode cX10_order 37 = .ok (.iload_n 3, 1) := by decide +kernel
theorem dX10_order_38 : decode cX10_order 38 = .ok (.bipush (-9), 2) := by decide +kernel
theorem dX10_order_40 : decode cX10_order 40 = .ok (.if_icmp .ne 6, 3) := by decide +kernel
theorem dX10_order_43 : decode cX10_order 43 = .ok (.bipush (-9), 2) := by decide +kernel
theorem dX10_order_45 : decode cX10_order 45 = .ok (.ireturn, 1) := by decide +kernel
theorem dX10_order_46 : decode cX10_order 46 = .ok (.iload_n 1, 1) := by decide +kernel
theorem dX10_order_47 : decode cX10_order 47 = .ok (.invokestatic 255, 3) := by decide +kernel
theorem dX10_order_50 : decode cX10_order 50 = .ok (.istore 4, 2) := by decide +kernel
theorem dX10_order_52 : decode cX10_order 52 = .ok (.aload_n 0, 1) := by decide +kernel
theorem dX10_order_53 : decode cX10_order 53 = .ok (.getfield 19, 3) := by decide +kernel
theorem dX10_order_56 : decode cX10_order 56 = .ok (.iload_n 2, 1) := by decide +kernel
theorem dX10_order_57 : decode cX10_order 57 = .ok (.iload 4, 2) := by decide +kernel
theorem dX10_order_59 : decode cX10_order 59 = .ok (.invokevirtual 87, 3) := by decide +kernel
theorem dX10_order_62 : decode cX10_order 62 = .ok (.iconst 0, 1) := by decide +kernel
theorem dX10_order_63 : decode cX10_order 63 = .ok (.istore 5, 2) := by decide +kernel
theorem dX10_order_65 : decode cX10_order 65 = .ok (.iload 5, 2) := by decide +kernel
theorem dX10_order_67 : decode cX10_order 67 = .ok (.iload 4, 2) := by decide +kernel
theorem dX10_order_69 : decode cX10_order 69 = .ok (.if_icmp .ge 28, 3) := by decide +kernel
theorem dX10_order_72 : decode cX10_order 72 = .ok (.aload_n 0, 1) := by decide +kernel
theorem dX10_order_73 : decode cX10_order 73 = .ok (.getfield 19, 3) := by decide +kernel
theorem dX10_order_76 : decode cX10_order 76 = .ok (.iload_n 2, 1) := by decide +kernel
theorem dX10_order_77 : decode cX10_order 77 = .ok (.iload 5, 2) := by decide +kernel
theorem dX10_order_79 : decode cX10_order 79 = .ok (.aload_n 0, 1) := by decide +kernel
theorem dX10_order_80 : decode cX10_order 80 = .ok (.getfield 61, 3) := by decide +kernel
theorem dX10_order_83 : decode cX10_order 83 = .ok (.iload 5, 2) := by decide +kernel
theorem dX10_order_85 : decode cX10_order 85 = .ok (.invokevirtual 260, 3) := by decide +kernel
theorem dX10_order_88 : decode cX10_order 88 = .ok (.invokevirtual 102, 3) := by decide +kernel
theorem dX10_order_91 : decode cX10_order 91 = .ok (.iinc 5 1, 3) := by decide +kernel
theorem dX10_order_94 : decode cX10_order 94 = .ok (.goto (-29), 3) := by decide +kernel
theorem dX10_order_97 : decode cX10_order 97 = .ok (.iload_n 3, 1) := by decide +kernel
theorem dX10_order_98 : decode cX10_order 98 = .ok (.ireturn, 1) := by decide +kernel
set_option maxRecDepth 20000 in
theorem ggX10_reached_X10_reachAll : GoodIn wsX10_reached wsX10_reachAll := goodIn_r _ [7, 2, 8, 9, 10, 11, 12, 13, 14, 15, 16, 17, 18, 19, 20, 21, 22, 23, 24, 25, 26, 27, 28, 29, 30, 31, 32, 33, 34, 35, 36, 37, 38, 39, 40, 41, 42, 43, 44, 45, 46, 47, 48, 49, 50, 51, 52, 53, 54, 55, 84, 85, 86, 87, 88, 89, 90, 91, 92, 93, 94, 95, 96, 97, 98, 99, 100, 101, 102, 103] (by decide +kernel) (by decide +kernel)
set_option maxRecDepth 20000 in
theorem gX10_reached_X10_reachAll : GoodIn wsX10_reached (wsV RX10 242 RX10 yX10_reachAll wsX10_reachAll) := goodIn_app (goodIn_of _ (by decide +kernel)) ggX10_reached_X10_reachAll
set_option maxRecDepth 20000 in
theorem ggX10_reached_X4_greatest : GoodIn wsX10_reached wsX4_greatest := goodIn_r _ [59, 20, 60, 61, 62, 18, 63, 64, 65, 66, 67, 21, 68, 69, 70, 71, 72, 39, 40, 41, 42, 43, 44, 102, 103] (by decide +kernel) (by decide +kernel)
set_option maxRecDepth 20000 in
theorem gX10_reached_X4_greatest : GoodIn wsX10_reached (wsV RX10 263 RX4 yX4_greatest wsX4_greatest) := goodIn_app (goodIn_of _ (by decide +kernel)) ggX10_reached_X4_greatest
set_option maxRecDepth 20000 in
theorem ggX10_reached_J6_bitCount_0f7a4 : GoodIn wsX10_reached wsJ6_bitCount_0f7a4 := goodIn_r _ [41, 42, 43, 44] (by decide +kernel) (by decide +kernel)
set_option maxRecDepth 20000 in
theorem gX10_reached_J6_bitCount_0f7a4 : GoodIn wsX10_reached (va_wsS RX10 255 yJ6_bitCount_0f7a4 wsJ6_bitCount_0f7a4) := goodIn_app (goodIn_of _ (by decide +kernel)) ggX10_reached_J6_bitCount_0f7a4
set_option maxRecDepth 20000 in
theorem ggX10_reached_X9_tell : GoodIn wsX10_reached wsX9_tell := goodIn_r _ [78, 79, 104, 105, 106, 107, 108] (by decide +kernel) (by decide +kernel)
set_option maxRecDepth 20000 in
theorem gX10_reached_X9_tell : GoodIn wsX10_reached (wsV RX10 98 RX9 yX9_tell wsX9_tell) := goodIn_app (goodIn_of _ (by decide +kernel)) ggX10_reached_X9_tell
set_option maxRecDepth 20000 in
theorem ggX10_reached_X4_howMany : GoodIn wsX10_reached wsX4_howMany := goodIn_r _ [83, 20, 60, 61, 62, 18, 63, 64, 65, 66, 67, 21, 102, 103] (by decide +kernel) (by decide +kernel)
set_option maxRecDepth 20000 in
theorem gX10_reached_X4_howMany : GoodIn wsX10_reached (wsV RX10 266 RX4 yX4_howMany wsX4_howMany) := goodIn_app (goodIn_of _ (by decide +kernel)) ggX10_reached_X4_howMany
theorem dX10_reached_0 : decode cX10_reached 0 = .ok (.aload_n 0, 1) := by decide +kernel
theorem dX10_reached_1 : decode cX10_reached 1 = .ok (.invokevirtual 242, 3) := by decide +kernel
theorem dX10_reached_4 : decode cX10_reached 4 = .ok (.aload_n 0, 1) := by decide +kernel
theorem dX10_reached_5 : decode cX10_reached 5 = .ok (.getfield 10, 3) := by decide +kernel
theorem dX10_reached_8 : decode cX10_reached 8 = .ok (.aload_n 0, 1) := by decide +kernel
theorem dX10_reached_9 : decode cX10_reached 9 = .ok (.getfield 54, 3) := by decide +kernel
theorem dX10_reached_12 : decode cX10_reached 12 = .ok (.invokevirtual 263, 3) := by decide +kernel
theorem dX10_reached_15 : decode cX10_reached 15 = .ok (.invokestatic 255, 3) := by decide +kernel
theorem dX10_reached_18 : decode cX10_reached 18 = .ok (.invokevirtual 98, 3) := by decide +kernel
theorem dX10_reached_21 : decode cX10_reached 21 = .ok (.aload_n 0, 1) := by decide +kernel
theorem dX10_reached_22 : decode cX10_reached 22 = .ok (.getfield 54, 3) := by decide +kernel
theorem dX10_reached_25 : decode cX10_reached 25 = .ok (.invokevirtual 266, 3) := by decide +kernel
theorem dX10_reached_28 : decode cX10_reached 28 = .ok (.ireturn, 1) := by decide +kernel
set_option maxRecDepth 20000 in
theorem ggX10_most_X10_reachAll : GoodIn wsX10_most wsX10_reachAll := goodIn_r _ [7, 1, 8, 9, 10, 11, 12, 13, 14, 15, 16, 17, 18, 19, 20, 21, 22, 23, 24, 25, 26, 27, 28, 29, 30, 31, 32, 33, 34, 35, 36, 37, 38, 39, 40, 41, 42, 43, 44, 45, 46, 47, 48, 49, 50, 51, 52, 53, 54, 55, 80, 81, 82, 83, 84, 85, 86, 87, 88, 89, 90, 91, 92, 93, 94, 95, 96, 97, 98, 99] (by decide +kernel) (by decide +kernel)
set_option maxRecDepth 20000 in
theorem gX10_most_X10_reachAll : GoodIn wsX10_most (wsV RX10 242 RX10 yX10_reachAll wsX10_reachAll) := goodIn_app (goodIn_of _ (by decide +kernel)) ggX10_most_X10_reachAll
set_option maxRecDepth 20000 in
theorem ggX10_most_X4_greatest : GoodIn wsX10_most wsX4_greatest := goodIn_r _ [59, 20, 60, 61, 62, 18, 63, 64, 65, 66, 67, 21, 68, 69, 70, 71, 72, 39, 40, 41, 42, 43, 44, 98, 99] (by decide +kernel) (by decide +kernel)
set_option maxRecDepth 20000 in
theorem gX10_most_X4_greatest : GoodIn wsX10_most (wsV RX10 263 RX4 yX4_greatest wsX4_greatest) := goodIn_app (goodIn_of _ (by decide +kernel)) ggX10_most_X4_greatest
set_option maxRecDepth 20000 in
theorem ggX10_most_X4_favoursOf : GoodIn wsX10_most wsX4_favoursOf := goodIn_r _ [67, 20, 21, 98, 99] (by decide +kernel) (by decide +kernel)
set_option maxRecDepth 20000 in
theorem gX10_most_X4_favoursOf : GoodIn wsX10_most (wsV RX10 248 RX4 yX4_favoursOf wsX4_favoursOf) := goodIn_app (goodIn_of _ (by decide +kernel)) ggX10_most_X4_favoursOf
set_option maxRecDepth 20000 in
theorem ggX10_most_X9_tell : GoodIn wsX10_most wsX9_tell := goodIn_r _ [78, 79, 100, 101, 102, 103, 104] (by decide +kernel) (by decide +kernel)
set_option maxRecDepth 20000 in
theorem gX10_most_X9_tell : GoodIn wsX10_most (wsV RX10 98 RX9 yX9_tell wsX9_tell) := goodIn_app (goodIn_of _ (by decide +kernel)) ggX10_most_X9_tell
theorem dX10_most_0 : decode cX10_most 0 = .ok (.aload_n 0, 1) := by decide +kernel
theorem dX10_most_1 : decode cX10_most 1 = .ok (.invokevirtual 242, 3) := by decide +kernel
theorem dX10_most_4 : decode cX10_most 4 = .ok (.aload_n 0, 1) := by decide +kernel
theorem dX10_most_5 : decode cX10_most 5 = .ok (.getfield 54, 3) := by decide +kernel
theorem dX10_most_8 : decode cX10_most 8 = .ok (.invokevirtual 263, 3) := by decide +kernel
theorem dX10_most_11 : decode cX10_most 11 = .ok (.istore_n 1, 1) := by decide +kernel
theorem dX10_most_12 : decode cX10_most 12 = .ok (.aload_n 0, 1) := by decide +kernel
theorem dX10_most_13 : decode cX10_most 13 = .ok (.getfield 10, 3) := by decide +kernel
theorem dX10_most_16 : decode cX10_most 16 = .ok (.aload_n 0, 1) := by decide +kernel
theorem dX10_most_17 : decode cX10_most 17 = .ok (.getfield 54, 3) := by decide +kernel
theorem dX10_most_20 : decode cX10_most 20 = .ok (.iload_n 1, 1) := by decide +kernel
theorem dX10_most_21 : decode cX10_most 21 = .ok (.invokevirtual 248, 3) := by decide +kernel
theorem dX10_most_24 : decode cX10_most 24 = .ok (.invokevirtual 98, 3) := by decide +kernel
theorem dX10_most_27 : decode cX10_most 27 = .ok (.iload_n 1, 1) := by decide +kernel
theorem dX10_most_28 : decode cX10_most 28 = .ok (.ireturn, 1) := by decide +kernel
set_option maxRecDepth 20000 in
theorem ggX10_ever_X10_reachAll : GoodIn wsX10_ever wsX10_reachAll := goodIn_r _ [8, 1, 3, 9, 10, 11, 12, 13, 14, 15, 16, 17, 18, 19, 20, 21, 22, 23, 24, 25, 26, 27, 28, 29, 30, 31, 32, 33, 34, 35, 36, 37, 38, 39, 40, 41, 42, 43, 44, 45, 46, 47, 48, 49, 50, 51, 52, 53, 54, 55, 74, 75, 76, 77, 78, 79, 80, 81, 82, 83, 84, 85, 86, 87, 88, 89, 90, 91, 92, 93] (by decide +kernel) (by decide +kernel)
set_option maxRecDepth 20000 in
theorem gX10_ever_X10_reachAll : GoodIn wsX10_ever (wsV RX10 242 RX10 yX10_reachAll wsX10_reachAll) := goodIn_app (goodIn_of _ (by decide +kernel)) ggX10_ever_X10_reachAll
set_option maxRecDepth 20000 in
theorem ggX10_ever_X4_inSome : GoodIn wsX10_ever wsX4_inSome := goodIn_r _ [59, 20, 60, 61, 62, 18, 63, 64, 65, 66, 67, 21, 92, 93] (by decide +kernel) (by decide +kernel)
set_option maxRecDepth 20000 in
theorem gX10_ever_X4_inSome : GoodIn wsX10_ever (wsV RX10 269 RX4 yX4_inSome wsX4_inSome) := goodIn_app (goodIn_of _ (by decide +kernel)) ggX10_ever_X4_inSome
set_option maxRecDepth 20000 in
theorem ggX10_ever_X2_everyone : GoodIn wsX10_ever wsX2_everyone := goodIn_r _ [13, 14, 84, 85, 86, 87, 88, 89, 90, 91] (by decide +kernel) (by decide +kernel)
set_option maxRecDepth 20000 in
theorem gX10_ever_X2_everyone : GoodIn wsX10_ever (wsV RX10 201 RX2 yX2_everyone wsX2_everyone) := goodIn_app (goodIn_of _ (by decide +kernel)) ggX10_ever_X2_everyone
set_option maxRecDepth 20000 in
theorem ggX10_ever_X9_tell : GoodIn wsX10_ever wsX9_tell := goodIn_r _ [72, 73, 94, 95, 96, 97, 98] (by decide +kernel) (by decide +kernel)
set_option maxRecDepth 20000 in
theorem gX10_ever_X9_tell : GoodIn wsX10_ever (wsV RX10 98 RX9 yX9_tell wsX9_tell) := goodIn_app (goodIn_of _ (by decide +kernel)) ggX10_ever_X9_tell
theorem dX10_ever_0 : decode cX10_ever 0 = .ok (.aload_n 0, 1) := by decide +kernel
theorem dX10_ever_1 : decode cX10_ever 1 = .ok (.invokevirtual 242, 3) := by decide +kernel
theorem dX10_ever_4 : decode cX10_ever 4 = .ok (.aload_n 0, 1) := by decide +kernel
theorem dX10_ever_5 : decode cX10_ever 5 = .ok (.getfield 54, 3) := by decide +kernel
theorem dX10_ever_8 : decode cX10_ever 8 = .ok (.invokevirtual 269, 3) := by decide +kernel
theorem dX10_ever_11 : decode cX10_ever 11 = .ok (.istore_n 1, 1) := by decide +kernel
theorem dX10_ever_12 : decode cX10_ever 12 = .ok (.aload_n 0, 1) := by decide +kernel
theorem dX10_ever_13 : decode cX10_ever 13 = .ok (.getfield 10, 3) := by decide +kernel
theorem dX10_ever_16 : decode cX10_ever 16 = .ok (.aload_n 0, 1) := by decide +kernel
theorem dX10_ever_17 : decode cX10_ever 17 = .ok (.getfield 40, 3) := by decide +kernel
theorem dX10_ever_20 : decode cX10_ever 20 = .ok (.invokevirtual 201, 3) := by decide +kernel
theorem dX10_ever_23 : decode cX10_ever 23 = .ok (.iload_n 1, 1) := by decide +kernel
theorem dX10_ever_24 : decode cX10_ever 24 = .ok (.iconst (-1), 1) := by decide +kernel
theorem dX10_ever_25 : decode cX10_ever 25 = .ok (.ixor, 1) := by decide +kernel
theorem dX10_ever_26 : decode cX10_ever 26 = .ok (.iand, 1) := by decide +kernel
theorem dX10_ever_27 : decode cX10_ever 27 = .ok (.invokevirtual 98, 3) := by decide +kernel
theorem dX10_ever_30 : decode cX10_ever 30 = .ok (.iload_n 1, 1) := by decide +kernel
theorem dX10_ever_31 : decode cX10_ever 31 = .ok (.ireturn, 1) := by decide +kernel
set_option maxRecDepth 20000 in
theorem ggX10_ways_X2_isSet : GoodIn wsX10_ways wsX2_isSet := goodIn_r _ [7, 8, 9, 10, 6, 11, 12, 68, 69, 70, 71, 72, 73, 74, 75] (by decide +kernel) (by decide +kernel)
set_option maxRecDepth 20000 in
theorem gX10_ways_X2_isSet : GoodIn wsX10_ways (wsV RX10 239 RX2 yX2_isSet wsX2_isSet) := goodIn_app (goodIn_of _ (by decide +kernel)) ggX10_ways_X2_isSet
set_option maxRecDepth 20000 in
theorem ggX10_ways_X3_howMany : GoodIn wsX10_ways wsX3_howMany := goodIn_r _ [17, 18, 19, 20, 21, 16, 22, 23, 9, 10, 6, 11, 12, 24, 25, 26, 27, 28, 29, 30, 31, 32, 33, 34, 35, 36, 37, 38, 39, 40, 41, 42, 43, 44, 45, 46, 47, 48, 49, 50, 51, 52, 53, 54, 55, 56, 57, 76, 77, 78, 79, 68, 69, 70, 71, 72, 73, 74, 75] (by decide +kernel) (by decide +kernel)
set_option maxRecDepth 20000 in
theorem gX10_ways_X3_howMany : GoodIn wsX10_ways (wsV RX10 272 RX3 yX3_howMany wsX3_howMany) := goodIn_app (goodIn_of _ (by decide +kernel)) ggX10_ways_X3_howMany
theorem dX10_ways_0 : decode cX10_ways 0 = .ok (.aload_n 0, 1) := by decide +kernel
theorem dX10_ways_1 : decode cX10_ways 1 = .ok (.getfield 40, 3) := by decide +kernel
theorem dX10_ways_4 : decode cX10_ways 4 = .ok (.iload_n 1, 1) := by decide +kernel
theorem dX10_ways_5 : decode cX10_ways 5 = .ok (.invokevirtual 239, 3) := by decide +kernel
theorem dX10_ways_8 : decode cX10_ways 8 = .ok (.ifCond .eq 18, 3) := by decide +kernel
theorem dX10_ways_11 : decode cX10_ways 11 = .ok (.aload_n 0, 1) := by decide +kernel
theorem dX10_ways_12 : decode cX10_ways 12 = .ok (.getfield 61, 3) := by decide +kernel
theorem dX10_ways_15 : decode cX10_ways 15 = .ok (.aload_n 0, 1) := by decide +kernel
theorem dX10_ways_16 : decode cX10_ways 16 = .ok (.getfield 40, 3) := by decide +kernel
theorem dX10_ways_19 : decode cX10_ways 19 = .ok (.iload_n 1, 1) := by decide +kernel
theorem dX10_ways_20 : decode cX10_ways 20 = .ok (.invokevirtual 272, 3) := by decide +kernel
theorem dX10_ways_23 : decode cX10_ways 23 = .ok (.goto 4, 3) := by decide +kernel
theorem dX10_ways_26 : decode cX10_ways 26 = .ok (.iconst (-1), 1) := by decide +kernel
theorem dX10_ways_27 : decode cX10_ways 27 = .ok (.ireturn, 1) := by decide +kernel
set_option maxRecDepth 20000 in
theorem ggX10_without_X2_isCell : GoodIn wsX10_without wsX2_isCell := goodIn_r _ [8, 9, 89, 90, 91, 92, 93, 94, 95, 96] (by decide +kernel) (by decide +kernel)
set_option maxRecDepth 20000 in
theorem gX10_without_X2_isCell : GoodIn wsX10_without (wsV RX10 165 RX2 yX2_isCell wsX2_isCell) := goodIn_app (goodIn_of _ (by decide +kernel)) ggX10_without_X2_isCell
set_option maxRecDepth 20000 in
theorem ggX10_without_X10_reachAll : GoodIn wsX10_without wsX10_reachAll := goodIn_r _ [14, 2, 1, 15, 16, 17, 7, 18, 9, 19, 20, 21, 22, 23, 24, 25, 26, 27, 28, 29, 30, 31, 32, 33, 34, 5, 6, 8, 35, 36, 37, 38, 39, 40, 41, 42, 43, 44, 45, 46, 47, 48, 49, 50, 51, 52, 53, 54, 55, 56, 79, 80, 81, 82, 83, 84, 85, 86, 87, 88, 89, 90, 91, 92, 93, 94, 95, 96, 97, 98] (by decide +kernel) (by decide +kernel)
set_option maxRecDepth 20000 in
theorem gX10_without_X10_reachAll : GoodIn wsX10_without (wsV RX10 242 RX10 yX10_reachAll wsX10_reachAll) := goodIn_app (goodIn_of _ (by decide +kernel)) ggX10_without_X10_reachAll
set_option maxRecDepth 20000 in
theorem ggX10_without_X4_howMany : GoodIn wsX10_without wsX4_howMany := goodIn_r _ [60, 24, 61, 62, 63, 22, 64, 65, 66, 67, 68, 25, 97, 98] (by decide +kernel) (by decide +kernel)
set_option maxRecDepth 20000 in
theorem gX10_without_X4_howMany : GoodIn wsX10_without (wsV RX10 266 RX4 yX4_howMany wsX4_howMany) := goodIn_app (goodIn_of _ (by decide +kernel)) ggX10_without_X4_howMany
set_option maxRecDepth 20000 in
theorem ggX10_without_X4_inSome : GoodIn wsX10_without wsX4_inSome := goodIn_r _ [72, 24, 61, 62, 63, 22, 64, 65, 66, 67, 68, 25, 97, 98] (by decide +kernel) (by decide +kernel)
set_option maxRecDepth 20000 in
theorem gX10_without_X4_inSome : GoodIn wsX10_without (wsV RX10 269 RX4 yX4_inSome wsX4_inSome) := goodIn_app (goodIn_of _ (by decide +kernel)) ggX10_without_X4_inSome
set_option maxRecDepth 20000 in
theorem ggX10_without_X2_everyone : GoodIn wsX10_without wsX2_everyone := goodIn_r _ [18, 9, 89, 90, 91, 92, 93, 94, 95, 96] (by decide +kernel) (by decide +kernel)
set_option maxRecDepth 20000 in
theorem gX10_without_X2_everyone : GoodIn wsX10_without (wsV RX10 201 RX2 yX2_everyone wsX2_everyone) := goodIn_app (goodIn_of _ (by decide +kernel)) ggX10_without_X2_everyone
set_option maxRecDepth 20000 in
theorem ggX10_without_X4_fill : GoodIn wsX10_without wsX4_fill := goodIn_r _ [23, 24, 25, 26, 27, 28, 7, 29, 30, 31, 32, 33, 34, 5, 6, 8, 9, 35, 36, 37, 38, 39, 40, 41, 42, 43, 44, 45, 46, 47, 48, 49, 50, 51, 52, 53, 54, 55, 56, 97, 98, 89, 90, 91, 92, 93, 94, 95, 96] (by decide +kernel) (by decide +kernel)
set_option maxRecDepth 20000 in
theorem gX10_without_X4_fill : GoodIn wsX10_without (wsV RX10 286 RX4 yX4_fill wsX4_fill) := goodIn_app (goodIn_of _ (by decide +kernel)) ggX10_without_X4_fill
set_option maxRecDepth 20000 in
theorem ggX10_without_X9_tell : GoodIn wsX10_without wsX9_tell := goodIn_r _ [77, 78, 99, 100, 101, 102, 103] (by decide +kernel) (by decide +kernel)
set_option maxRecDepth 20000 in
theorem gX10_without_X9_tell : GoodIn wsX10_without (wsV RX10 98 RX9 yX9_tell wsX9_tell) := goodIn_app (goodIn_of _ (by decide +kernel)) ggX10_without_X9_tell
theorem dX10_without_0 : decode cX10_without 0 = .ok (.aload_n 0, 1) := by decide +kernel
theorem dX10_without_1 : decode cX10_without 1 = .ok (.getfield 40, 3) := by decide +kernel
theorem dX10_without_4 : decode cX10_without 4 = .ok (.iload_n 1, 1) := by decide +kernel
theorem dX10_without_5 : decode cX10_without 5 = .ok (.invokevirtual 165, 3) := by decide +kernel
theorem dX10_without_8 : decode cX10_without 8 = .ok (.ifCond .ne 5, 3) := by decide +kernel
theorem dX10_without_11 : decode cX10_without 11 = .ok (.iconst (-1), 1) := by decide +kernel
theorem dX10_without_12 : decode cX10_without 12 = .ok (.ireturn, 1) := by decide +kernel
theorem dX10_without_13 : decode cX10_without 13 = .ok (.aload_n 0, 1) := by decide +kernel
theorem dX10_without_14 : decode cX10_without 14 = .ok (.invokevirtual 242, 3) := by decide +kernel
theorem dX10_without_17 : decode cX10_without 17 = .ok (.aload_n 0, 1) := by decide +kernel
theorem dX10_without_18 : decode cX10_without 18 = .ok (.getfield 54, 3) := by decide +kernel
theorem dX10_without_21 : decode cX10_without 21 = .ok (.invokevirtual 266, 3) := by decide +kernel
theorem dX10_without_24 : decode cX10_without 24 = .ok (.istore_n 2, 1) := by decide +kernel
theorem dX10_without_25 : decode cX10_without 25 = .ok (.aload_n 0, 1) := by decide +kernel
theorem dX10_without_26 : decode cX10_without 26 = .ok (.getfield 54, 3) := by decide +kernel
theorem dX10_without_29 : decode cX10_without 29 = .ok (.invokevirtual 269, 3) := by decide +kernel
theorem dX10_without_32 : decode cX10_without 32 = .ok (.istore_n 3, 1) := by decide +kernel
theorem dX10_without_33 : decode cX10_without 33 = .ok (.aload_n 0, 1) := by decide +kernel
theorem dX10_without_34 : decode cX10_without 34 = .ok (.getfield 40, 3) := by decide +kernel
theorem dX10_without_37 : decode cX10_without 37 = .ok (.invokevirtual 201, 3) := by decide +kernel
theorem dX10_without_40 : decode cX10_without 40 = .ok (.iconst 1, 1) := by decide +kernel
theorem dX10_without_41 : decode cX10_without 41 = .ok (.iload_n 1, 1) := by decide +kernel
theorem dX10_without_42 : decode cX10_without 42 = .ok (.ishl, 1) := by decide +kernel
theorem dX10_without_43 : decode cX10_without 43 = .ok (.iconst (-1), 1) := by decide +kernel
theorem dX10_without_44 : decode cX10_without 44 = .ok (.ixor, 1) := by decide +kernel
theorem dX10_without_45 : decode cX10_without 45 = .ok (.iand, 1) := by decide +kernel
theorem dX10_without_46 : decode cX10_without 46 = .ok (.istore 4, 2) := by decide +kernel
theorem dX10_without_48 : decode cX10_without 48 = .ok (.aload_n 0, 1) := by decide +kernel
theorem dX10_without_49 : decode cX10_without 49 = .ok (.getfield 54, 3) := by decide +kernel
theorem dX10_without_52 : decode cX10_without 52 = .ok (.aload_n 0, 1) := by decide +kernel
theorem dX10_without_53 : decode cX10_without 53 = .ok (.getfield 40, 3) := by decide +kernel
theorem dX10_without_56 : decode cX10_without 56 = .ok (.iload 4, 2) := by decide +kernel
theorem dX10_without_58 : decode cX10_without 58 = .ok (.invokevirtual 286, 3) := by decide +kernel
theorem dX10_without_61 : decode cX10_without 61 = .ok (.aload_n 0, 1) := by decide +kernel
theorem dX10_without_62 : decode cX10_without 62 = .ok (.getfield 10, 3) := by decide +kernel
theorem dX10_without_65 : decode cX10_without 65 = .ok (.iload_n 3, 1) := by decide +kernel
theorem dX10_without_66 : decode cX10_without 66 = .ok (.aload_n 0, 1) := by decide +kernel
theorem dX10_without_67 : decode cX10_without 67 = .ok (.getfield 54, 3) := by decide +kernel
theorem dX10_without_70 : decode cX10_without 70 = .ok (.invokevirtual 269, 3) := by decide +kernel
theorem dX10_without_73 : decode cX10_without 73 = .ok (.iconst (-1), 1) := by decide +kernel
theorem dX10_without_74 : decode cX10_without 74 = .ok (.ixor, 1) := by decide +kernel
theorem dX10_without_75 : decode cX10_without 75 = .ok (.iand, 1) := by decide +kernel
theorem dX10_without_76 : decode cX10_without 76 = .ok (.iload 4, 2) := by decide +kernel
theorem dX10_without_78 : decode cX10_without 78 = .ok (.iand, 1) := by decide +kernel
theorem dX10_without_79 : decode cX10_without 79 = .ok (.invokevirtual 98, 3) := by decide +kernel
theorem dX10_without_82 : decode cX10_without 82 = .ok (.iload_n 2, 1) := by decide +kernel
theorem dX10_without_83 : decode cX10_without 83 = .ok (.aload_n 0, 1) := by decide +kernel
theorem dX10_without_84 : decode cX10_without 84 = .ok (.getfield 54, 3) := by decide +kernel
theorem dX10_without_87 : decode cX10_without 87 = .ok (.invokevirtual 266, 3) := by decide +kernel
theorem dX10_without_90 : decode cX10_without 90 = .ok (.isub, 1) := by decide +kernel
theorem dX10_without_91 : decode cX10_without 91 = .ok (.ireturn, 1) := by decide +kernel
set_option maxRecDepth 20000 in
theorem ggX10_band_X2_isSet : GoodIn wsX10_band wsX2_isSet := goodIn_r _ [7, 8, 9, 10, 6, 11, 12, 78, 79, 80, 81, 82, 83, 84, 85] (by decide +kernel) (by decide +kernel)
set_option maxRecDepth 20000 in
theorem gX10_band_X2_isSet : GoodIn wsX10_band (wsV RX10 239 RX2 yX2_isSet wsX2_isSet) := goodIn_app (goodIn_of _ (by decide +kernel)) ggX10_band_X2_isSet
set_option maxRecDepth 20000 in
theorem ggX10_band_X10_getsOut : GoodIn wsX10_band wsX10_getsOut := goodIn_r _ [17, 2, 1, 18, 19, 20, 21, 22, 23, 24, 25, 26, 27, 6, 28, 29, 30, 31, 32, 33, 34, 35, 36, 12, 37, 38, 39, 40, 41, 42, 43, 44, 45, 46, 47, 48, 49, 50, 51, 52, 53, 54, 55, 56, 57, 58, 59, 60, 61, 62, 63, 64, 65, 66, 68, 69, 70, 71, 72, 73, 74, 75, 76, 77, 86, 87, 78, 79, 80, 81, 82, 83, 84, 85] (by decide +kernel) (by decide +kernel)
set_option maxRecDepth 20000 in
theorem gX10_band_X10_getsOut : GoodIn wsX10_band (wsV RX10 290 RX10 yX10_getsOut wsX10_getsOut) := goodIn_app (goodIn_of _ (by decide +kernel)) ggX10_band_X10_getsOut
set_option maxRecDepth 20000 in
theorem ggX10_band_X4_favoursOf : GoodIn wsX10_band wsX4_favoursOf := goodIn_r _ [66, 23, 24, 86, 87] (by decide +kernel) (by decide +kernel)
set_option maxRecDepth 20000 in
theorem gX10_band_X4_favoursOf : GoodIn wsX10_band (wsV RX10 248 RX4 yX4_favoursOf wsX4_favoursOf) := goodIn_app (goodIn_of _ (by decide +kernel)) ggX10_band_X4_favoursOf
theorem dX10_band_0 : decode cX10_band 0 = .ok (.aload_n 0, 1) := by decide +kernel
theorem dX10_band_1 : decode cX10_band 1 = .ok (.getfield 40, 3) := by decide +kernel
theorem dX10_band_4 : decode cX10_band 4 = .ok (.iload_n 1, 1) := by decide +kernel
theorem dX10_band_5 : decode cX10_band 5 = .ok (.invokevirtual 239, 3) := by decide +kernel
theorem dX10_band_8 : decode cX10_band 8 = .ok (.ifCond .eq 7, 3) := by decide +kernel
theorem dX10_band_11 : decode cX10_band 11 = .ok (.iload_n 1, 1) := by decide +kernel
theorem dX10_band_12 : decode cX10_band 12 = .ok (.ifCond .ne 5, 3) := by decide +kernel
theorem dX10_band_15 : decode cX10_band 15 = .ok (.iconst (-1), 1) := by decide +kernel
theorem dX10_band_16 : decode cX10_band 16 = .ok (.ireturn, 1) := by decide +kernel
theorem dX10_band_17 : decode cX10_band 17 = .ok (.aload_n 0, 1) := by decide +kernel
theorem dX10_band_18 : decode cX10_band 18 = .ok (.iload_n 1, 1) := by decide +kernel
theorem dX10_band_19 : decode cX10_band 19 = .ok (.invokevirtual 290, 3) := by decide +kernel
theorem dX10_band_22 : decode cX10_band 22 = .ok (.ifCond .eq 14, 3) := by decide +kernel
theorem dX10_band_25 : decode cX10_band 25 = .ok (.aload_n 0, 1) := by decide +kernel
theorem dX10_band_26 : decode cX10_band 26 = .ok (.getfield 54, 3) := by decide +kernel
theorem dX10_band_29 : decode cX10_band 29 = .ok (.iload_n 1, 1) := by decide +kernel
theorem dX10_band_30 : decode cX10_band 30 = .ok (.invokevirtual 248, 3) := by decide +kernel
theorem dX10_band_33 : decode cX10_band 33 = .ok (.goto 5, 3) := by decide +kernel
theorem dX10_band_36 : decode cX10_band 36 = .ok (.bipush (-9), 2) := by decide +kernel
theorem dX10_band_38 : decode cX10_band 38 = .ok (.ireturn, 1) := by decide +kernel
set_option maxRecDepth 20000 in
theorem ggX10_bands_X2_cells : GoodIn wsX10_bands wsX2_cells := goodIn_r _ [7, 8, 85, 86, 87, 88, 89, 90, 91, 92] (by decide +kernel) (by decide +kernel)
set_option maxRecDepth 20000 in
theorem gX10_bands_X2_cells : GoodIn wsX10_bands (wsV RX10 161 RX2 yX2_cells wsX2_cells) := goodIn_app (goodIn_of _ (by decide +kernel)) ggX10_bands_X2_cells
set_option maxRecDepth 20000 in
theorem ggX10_bands_X2_everyone : GoodIn wsX10_bands wsX2_everyone := goodIn_r _ [12, 8, 85, 86, 87, 88, 89, 90, 91, 92] (by decide +kernel) (by decide +kernel)
set_option maxRecDepth 20000 in
theorem gX10_bands_X2_everyone : GoodIn wsX10_bands (wsV RX10 201 RX2 yX2_everyone wsX2_everyone) := goodIn_app (goodIn_of _ (by decide +kernel)) ggX10_bands_X2_everyone
set_option maxRecDepth 20000 in
theorem ggX10_bands_J6_bitCount_0f7a4 : GoodIn wsX10_bands wsJ6_bitCount_0f7a4 := goodIn_r _ [16, 17, 18, 19] (by decide +kernel) (by decide +kernel)
set_option maxRecDepth 20000 in
theorem gX10_bands_J6_bitCount_0f7a4 : GoodIn wsX10_bands (va_wsS RX10 255 yJ6_bitCount_0f7a4 wsJ6_bitCount_0f7a4) := goodIn_app (goodIn_of _ (by decide +kernel)) ggX10_bands_J6_bitCount_0f7a4
set_option maxRecDepth 20000 in
theorem ggX10_bands_X10_getsOut : GoodIn wsX10_bands wsX10_getsOut := goodIn_r _ [24, 25, 1, 26, 27, 28, 29, 30, 31, 32, 33, 34, 35, 6, 36, 37, 38, 39, 40, 41, 42, 43, 44, 8, 45, 46, 47, 48, 49, 14, 15, 16, 17, 18, 19, 50, 51, 52, 53, 54, 55, 56, 57, 58, 59, 60, 61, 62, 63, 64, 65, 66, 67, 68, 75, 76, 77, 78, 79, 80, 81, 82, 83, 84, 93, 94, 85, 86, 87, 88, 89, 90, 91, 92] (by decide +kernel) (by decide +kernel)
set_option maxRecDepth 20000 in
theorem gX10_bands_X10_getsOut : GoodIn wsX10_bands (wsV RX10 290 RX10 yX10_getsOut wsX10_getsOut) := goodIn_app (goodIn_of _ (by decide +kernel)) ggX10_bands_X10_getsOut
set_option maxRecDepth 20000 in
theorem ggX10_bands_X9_tell : GoodIn wsX10_bands wsX9_tell := goodIn_r _ [73, 74, 95, 96, 97, 98, 99] (by decide +kernel) (by decide +kernel)
set_option maxRecDepth 20000 in
theorem gX10_bands_X9_tell : GoodIn wsX10_bands (wsV RX10 98 RX9 yX9_tell wsX9_tell) := goodIn_app (goodIn_of _ (by decide +kernel)) ggX10_bands_X9_tell
theorem dX10_bands_0 : decode cX10_bands 0 = .ok (.iload_n 1, 1) := by decide +kernel
theorem dX10_bands_1 : decode cX10_bands 1 = .ok (.iconst 1, 1) := by decide +kernel
theorem dX10_bands_2 : decode cX10_bands 2 = .ok (.if_icmp .lt 14, 3) := by decide +kernel
theorem dX10_bands_5 : decode cX10_bands 5 = .ok (.iload_n 1, 1) := by decide +kernel
theorem dX10_bands_6 : decode cX10_bands 6 = .ok (.aload_n 0, 1) := by decide +kernel
theorem dX10_bands_7 : decode cX10_bands 7 = .ok (.getfield 40, 3) := by decide +kernel
theorem dX10_bands_10 : decode cX10_bands 10 = .ok (.invokevirtual 161, 3) := by decide +kernel
theorem dX10_bands_13 : decode cX10_bands 13 = .ok (.if_icmp .le 5, 3) := by decide +kernel
theorem dX10_bands_16 : decode cX10_bands 16 = .ok (.iconst (-1), 1) := by decide +kernel
theorem dX10_bands_17 : decode cX10_bands 17 = .ok (.ireturn, 1) := by decide +kernel
theorem dX10_bands_18 : decode cX10_bands 18 = .ok (.iconst 0, 1) := by decide +kernel
theorem dX10_bands_19 : decode cX10_bands 19 = .ok (.istore_n 2, 1) := by decide +kernel
theorem dX10_bands_20 : decode cX10_bands 20 = .ok (.bipush (-9), 2) := by decide +kernel
theorem dX10_bands_22 : decode cX10_bands 22 = .ok (.istore_n 3, 1) := by decide +kernel
theorem dX10_bands_23 : decode cX10_bands 23 = .ok (.iconst 1, 1) := by decide +kernel
theorem dX10_bands_24 : decode cX10_bands 24 = .ok (.istore 4, 2) := by decide +kernel
theorem dX10_bands_26 : decode cX10_bands 26 = .ok (.iload 4, 2) := by decide +kernel
theorem dX10_bands_28 : decode cX10_bands 28 = .ok (.aload_n 0, 1) := by decide +kernel
theorem dX10_bands_29 : decode cX10_bands 29 = .ok (.getfield 40, 3) := by decide +kernel
theorem dX10_bands_32 : decode cX10_bands 32 = .ok (.invokevirtual 201, 3) := by decide +kernel
theorem dX10_bands_35 : decode cX10_bands 35 = .ok (.if_icmp .gt 41, 3) := by decide +kernel
theorem dX10_bands_38 : decode cX10_bands 38 = .ok (.iload 4, 2) := by decide +kernel
theorem dX10_bands_40 : decode cX10_bands 40 = .ok (.invokestatic 255, 3) := by decide +kernel
theorem dX10_bands_43 : decode cX10_bands 43 = .ok (.iload_n 1, 1) := by decide +kernel
theorem dX10_bands_44 : decode cX10_bands 44 = .ok (.if_icmp .ne 26, 3) := by decide +kernel
theorem dX10_bands_47 : decode cX10_bands 47 = .ok (.aload_n 0, 1) := by decide +kernel
theorem dX10_bands_48 : decode cX10_bands 48 = .ok (.iload 4, 2) := by decide +kernel
theorem dX10_bands_50 : decode cX10_bands 50 = .ok (.invokevirtual 290, 3) := by decide +kernel
theorem dX10_bands_53 : decode cX10_bands 53 = .ok (.ifCond .eq 17, 3) := by decide +kernel
theorem dX10_bands_56 : decode cX10_bands 56 = .ok (.iload_n 2, 1) := by decide +kernel
theorem dX10_bands_57 : decode cX10_bands 57 = .ok (.ifCond .ne 8, 3) := by decide +kernel
theorem dX10_bands_60 : decode cX10_bands 60 = .ok (.iload 4, 2) := by decide +kernel
theorem dX10_bands_62 : decode cX10_bands 62 = .ok (.goto 4, 3) := by decide +kernel
theorem dX10_bands_65 : decode cX10_bands 65 = .ok (.iload_n 3, 1) := by decide +kernel
theorem dX10_bands_66 : decode cX10_bands 66 = .ok (.istore_n 3, 1) := by decide +kernel
theorem dX10_bands_67 : decode cX10_bands 67 = .ok (.iinc 2 1, 3) := by decide +kernel
theorem dX10_bands_70 : decode cX10_bands 70 = .ok (.iinc 4 1, 3) := by decide +kernel
theorem dX10_bands_73 : decode cX10_bands 73 = .ok (.goto (-47), 3) := by decide +kernel
theorem dX10_bands_76 : decode cX10_bands 76 = .ok (.aload_n 0, 1) := by decide +kernel
theorem dX10_bands_77 : decode cX10_bands 77 = .ok (.getfield 10, 3) := by decide +kernel
theorem dX10_bands_80 : decode cX10_bands 80 = .ok (.iload_n 3, 1) := by decide +kernel
theorem dX10_bands_81 : decode cX10_bands 81 = .ok (.invokevirtual 98, 3) := by decide +kernel
theorem dX10_bands_84 : decode cX10_bands 84 = .ok (.iload_n 2, 1) := by decide +kernel
theorem dX10_bands_85 : decode cX10_bands 85 = .ok (.ireturn, 1) := by decide +kernel
set_option maxRecDepth 20000 in
theorem ggX10_dealt_X10_rowRefusal : GoodIn wsX10_dealt wsX10_rowRefusal := goodIn_r _ [8, 1, 3, 9, 10, 11, 12, 13, 14, 15, 16, 17, 18, 19, 20, 21, 22, 23, 24, 25, 26, 27, 28, 29, 30, 66, 67, 68, 69, 70, 71, 72, 73, 74, 75, 76, 77, 78, 79, 80, 81, 82] (by decide +kernel) (by decide +kernel)
set_option maxRecDepth 20000 in
theorem gX10_dealt_X10_rowRefusal : GoodIn wsX10_dealt (wsV RX10 106 RX10 yX10_rowRefusal wsX10_rowRefusal) := goodIn_app (goodIn_of _ (by decide +kernel)) ggX10_dealt_X10_rowRefusal
set_option maxRecDepth 20000 in
theorem ggX10_dealt_X6_sizeOf : GoodIn wsX10_dealt wsX6_sizeOf := goodIn_r _ [21, 22, 23, 10, 11, 12, 13, 76, 77] (by decide +kernel) (by decide +kernel)
set_option maxRecDepth 20000 in
theorem gX10_dealt_X6_sizeOf : GoodIn wsX10_dealt (wsV RX10 123 RX6 yX6_sizeOf wsX6_sizeOf) := goodIn_app (goodIn_of _ (by decide +kernel)) ggX10_dealt_X6_sizeOf
set_option maxRecDepth 20000 in
theorem ggX10_dealt_X2_cells : GoodIn wsX10_dealt wsX2_cells := goodIn_r _ [36, 37, 83, 84, 85, 86, 87, 88, 89, 90] (by decide +kernel) (by decide +kernel)
set_option maxRecDepth 20000 in
theorem gX10_dealt_X2_cells : GoodIn wsX10_dealt (wsV RX10 161 RX2 yX2_cells wsX2_cells) := goodIn_app (goodIn_of _ (by decide +kernel)) ggX10_dealt_X2_cells
set_option maxRecDepth 20000 in
theorem ggX10_dealt_X9_found : GoodIn wsX10_dealt wsX9_found := goodIn_r _ [28, 29, 30, 78, 79, 80, 81, 82] (by decide +kernel) (by decide +kernel)
set_option maxRecDepth 20000 in
theorem gX10_dealt_X9_found : GoodIn wsX10_dealt (wsV RX10 83 RX9 yX9_found wsX9_found) := goodIn_app (goodIn_of _ (by decide +kernel)) ggX10_dealt_X9_found
set_option maxRecDepth 20000 in
theorem ggX10_dealt_X2_isOf : GoodIn wsX10_dealt wsX2_isOf := goodIn_r _ [41, 42, 43, 44, 45, 35, 46, 37, 83, 84, 85, 86, 87, 88, 89, 90] (by decide +kernel) (by decide +kernel)
set_option maxRecDepth 20000 in
theorem gX10_dealt_X2_isOf : GoodIn wsX10_dealt (wsV RX10 171 RX2 yX2_isOf wsX2_isOf) := goodIn_app (goodIn_of _ (by decide +kernel)) ggX10_dealt_X2_isOf
set_option maxRecDepth 20000 in
theorem ggX10_dealt_X6_get : GoodIn wsX10_dealt wsX6_get := goodIn_r _ [50, 51, 52, 53, 54, 12, 55, 18, 19, 20, 21, 22, 23, 10, 11, 13, 76, 77] (by decide +kernel) (by decide +kernel)
set_option maxRecDepth 20000 in
theorem gX10_dealt_X6_get : GoodIn wsX10_dealt (wsV RX10 95 RX6 yX6_get wsX6_get) := goodIn_app (goodIn_of _ (by decide +kernel)) ggX10_dealt_X6_get
set_option maxRecDepth 20000 in
theorem ggX10_dealt_X2_mayKeep : GoodIn wsX10_dealt wsX2_mayKeep := goodIn_r _ [59, 42, 60, 43, 44, 45, 35, 46, 37, 83, 84, 85, 86, 87, 88, 89, 90] (by decide +kernel) (by decide +kernel)
set_option maxRecDepth 20000 in
theorem gX10_dealt_X2_mayKeep : GoodIn wsX10_dealt (wsV RX10 177 RX2 yX2_mayKeep wsX2_mayKeep) := goodIn_app (goodIn_of _ (by decide +kernel)) ggX10_dealt_X2_mayKeep
set_option maxRecDepth 20000 in
theorem ggX10_dealt_X2_setKeeper : GoodIn wsX10_dealt wsX2_setKeeper := goodIn_r _ [64, 65, 43, 44, 45, 35, 46, 37, 83, 84, 85, 86, 87, 88, 89, 90] (by decide +kernel) (by decide +kernel)
set_option maxRecDepth 20000 in
theorem gX10_dealt_X2_setKeeper : GoodIn wsX10_dealt (wsV RX10 183 RX2 yX2_setKeeper wsX2_setKeeper) := goodIn_app (goodIn_of _ (by decide +kernel)) ggX10_dealt_X2_setKeeper
theorem dX10_dealt_0 : decode cX10_dealt 0 = .ok (.aload_n 0, 1) := by decide +kernel
theorem dX10_dealt_1 : decode cX10_dealt 1 = .ok (.iload_n 1, 1) := by decide +kernel
theorem dX10_dealt_2 : decode cX10_dealt 2 = .ok (.invokevirtual 106, 3) := by decide +kernel
theorem dX10_dealt_5 : decode cX10_dealt 5 = .ok (.istore_n 2, 1) := by decide +kernel
theorem dX10_dealt_6 : decode cX10_dealt 6 = .ok (.iload_n 2, 1) := by decide +kernel
theorem dX10_dealt_7 : decode cX10_dealt 7 = .ok (.ifCond .eq 5, 3) := by decide +kernel
theorem dX10_dealt_10 : decode cX10_dealt 10 = .ok (.iload_n 2, 1) := by decide +kernel
theorem dX10_dealt_11 : decode cX10_dealt 11 = .ok (.ireturn, 1) := by decide +kernel
theorem dX10_dealt_12 : decode cX10_dealt 12 = .ok (.aload_n 0, 1) := by decide +kernel
theorem dX10_dealt_13 : decode cX10_dealt 13 = .ok (.getfield 19, 3) := by decide +kernel
theorem dX10_dealt_16 : decode cX10_dealt 16 = .ok (.iload_n 1, 1) := by decide +kernel
theorem dX10_dealt_17 : decode cX10_dealt 17 = .ok (.invokevirtual 123, 3) := by decide +kernel
theorem dX10_dealt_20 : decode cX10_dealt 20 = .ok (.aload_n 0, 1) := by decide +kernel
theorem dX10_dealt_21 : decode cX10_dealt 21 = .ok (.getfield 40, 3) := by decide +kernel
theorem dX10_dealt_24 : decode cX10_dealt 24 = .ok (.invokevirtual 161, 3) := by decide +kernel
theorem dX10_dealt_27 : decode cX10_dealt 27 = .ok (.if_icmp .eq 12, 3) := by decide +kernel
theorem dX10_dealt_30 : decode cX10_dealt 30 = .ok (.aload_n 0, 1) := by decide +kernel
theorem dX10_dealt_31 : decode cX10_dealt 31 = .ok (.getfield 10, 3) := by decide +kernel
theorem dX10_dealt_34 : decode cX10_dealt 34 = .ok (.iconst 5, 1) := by decide +kernel
theorem dX10_dealt_35 : decode cX10_dealt 35 = .ok (.invokevirtual 83, 3) := by decide +kernel
theorem dX10_dealt_38 : decode cX10_dealt 38 = .ok (.ireturn, 1) := by decide +kernel
theorem dX10_dealt_39 : decode cX10_dealt 39 = .ok (.iconst 0, 1) := by decide +kernel
theorem dX10_dealt_40 : decode cX10_dealt 40 = .ok (.istore_n 3, 1) := by decide +kernel
theorem dX10_dealt_41 : decode cX10_dealt 41 = .ok (.iload_n 3, 1) := by decide +kernel
theorem dX10_dealt_42 : decode cX10_dealt 42 = .ok (.aload_n 0, 1) := by decide +kernel
theorem dX10_dealt_43 : decode cX10_dealt 43 = .ok (.getfield 40, 3) := by decide +kernel
theorem dX10_dealt_46 : decode cX10_dealt 46 = .ok (.invokevirtual 161, 3) := by decide +kernel
theorem dX10_dealt_49 : decode cX10_dealt 49 = .ok (.if_icmp .ge 50, 3) := by decide +kernel
theorem dX10_dealt_52 : decode cX10_dealt 52 = .ok (.aload_n 0, 1) := by decide +kernel
theorem dX10_dealt_53 : decode cX10_dealt 53 = .ok (.getfield 40, 3) := by decide +kernel
theorem dX10_dealt_56 : decode cX10_dealt 56 = .ok (.iload_n 3, 1) := by decide +kernel
theorem dX10_dealt_57 : decode cX10_dealt 57 = .ok (.iconst 2, 1) := by decide +kernel
theorem dX10_dealt_58 : decode cX10_dealt 58 = .ok (.invokevirtual 171, 3) := by decide +kernel
theorem dX10_dealt_61 : decode cX10_dealt 61 = .ok (.ifCond .ne 32, 3) := by decide +kernel
theorem dX10_dealt_64 : decode cX10_dealt 64 = .ok (.aload_n 0, 1) := by decide +kernel
theorem dX10_dealt_65 : decode cX10_dealt 65 = .ok (.getfield 40, 3) := by decide +kernel
theorem dX10_dealt_68 : decode cX10_dealt 68 = .ok (.iload_n 3, 1) := by decide +kernel
theorem dX10_dealt_69 : decode cX10_dealt 69 = .ok (.aload_n 0, 1) := by decide +kernel
theorem dX10_dealt_70 : decode cX10_dealt 70 = .ok (.getfield 19, 3) := by decide +kernel
theorem dX10_dealt_73 : decode cX10_dealt 73 = .ok (.iload_n 1, 1) := by decide +kernel
theorem dX10_dealt_74 : decode cX10_dealt 74 = .ok (.iload_n 3, 1) := by decide +kernel
theorem dX10_dealt_75 : decode cX10_dealt 75 = .ok (.invokevirtual 95, 3) := by decide +kernel
theorem dX10_dealt_78 : decode cX10_dealt 78 = .ok (.invokevirtual 177, 3) := by decide +kernel
theorem dX10_dealt_81 : decode cX10_dealt 81 = .ok (.ifCond .ne 12, 3) := by decide +kernel
theorem dX10_dealt_84 : decode cX10_dealt 84 = .ok (.aload_n 0, 1) := by decide +kernel
theorem dX10_dealt_85 : decode cX10_dealt 85 = .ok (.getfield 10, 3) := by decide +kernel
theorem dX10_dealt_88 : decode cX10_dealt 88 = .ok (.iconst 3, 1) := by decide +kernel
theorem dX10_dealt_89 : decode cX10_dealt 89 = .ok (.invokevirtual 83, 3) := by decide +kernel
theorem dX10_dealt_92 : decode cX10_dealt 92 = .ok (.ireturn, 1) := by decide +kernel
theorem dX10_dealt_93 : decode cX10_dealt 93 = .ok (.iinc 3 1, 3) := by decide +kernel
theorem dX10_dealt_96 : decode cX10_dealt 96 = .ok (.goto (-55), 3) := by decide +kernel
theorem dX10_dealt_99 : decode cX10_dealt 99 = .ok (.iconst 0, 1) := by decide +kernel
theorem dX10_dealt_100 : decode cX10_dealt 100 = .ok (.istore_n 3, 1) := by decide +kernel
theorem dX10_dealt_101 : decode cX10_dealt 101 = .ok (.iload_n 3, 1) := by decide +kernel
theorem dX10_dealt_102 : decode cX10_dealt 102 = .ok (.aload_n 0, 1) := by decide +kernel
theorem dX10_dealt_103 : decode cX10_dealt 103 = .ok (.getfield 40, 3) := by decide +kernel
theorem dX10_dealt_106 : decode cX10_dealt 106 = .ok (.invokevirtual 161, 3) := by decide +kernel
theorem dX10_dealt_109 : decode cX10_dealt 109 = .ok (.if_icmp .ge 38, 3) := by decide +kernel
theorem dX10_dealt_112 : decode cX10_dealt 112 = .ok (.aload_n 0, 1) := by decide +kernel
theorem dX10_dealt_113 : decode cX10_dealt 113 = .ok (.getfield 40, 3) := by decide +kernel
theorem dX10_dealt_116 : decode cX10_dealt 116 = .ok (.iload_n 3, 1) := by decide +kernel
theorem dX10_dealt_117 : decode cX10_dealt 117 = .ok (.iconst 2, 1) := by decide +kernel
theorem dX10_dealt_118 : decode cX10_dealt 118 = .ok (.invokevirtual 171, 3) := by decide +kernel
theorem dX10_dealt_121 : decode cX10_dealt 121 = .ok (.ifCond .ne 20, 3) := by decide +kernel
theorem dX10_dealt_124 : decode cX10_dealt 124 = .ok (.aload_n 0, 1) := by decide +kernel
theorem dX10_dealt_125 : decode cX10_dealt 125 = .ok (.getfield 40, 3) := by decide +kernel
theorem dX10_dealt_128 : decode cX10_dealt 128 = .ok (.iload_n 3, 1) := by decide +kernel
theorem dX10_dealt_129 : decode cX10_dealt 129 = .ok (.aload_n 0, 1) := by decide +kernel
theorem dX10_dealt_130 : decode cX10_dealt 130 = .ok (.getfield 19, 3) := by decide +kernel
theorem dX10_dealt_133 : decode cX10_dealt 133 = .ok (.iload_n 1, 1) := by decide +kernel
theorem dX10_dealt_134 : decode cX10_dealt 134 = .ok (.iload_n 3, 1) := by decide +kernel
theorem dX10_dealt_135 : decode cX10_dealt 135 = .ok (.invokevirtual 95, 3) := by decide +kernel
theorem dX10_dealt_138 : decode cX10_dealt 138 = .ok (.invokevirtual 183, 3) := by decide +kernel
theorem dX10_dealt_141 : decode cX10_dealt 141 = .ok (.iinc 3 1, 3) := by decide +kernel
theorem dX10_dealt_144 : decode cX10_dealt 144 = .ok (.goto (-43), 3) := by decide +kernel
theorem dX10_dealt_147 : decode cX10_dealt 147 = .ok (.iconst 1, 1) := by decide +kernel
theorem dX10_dealt_148 : decode cX10_dealt 148 = .ok (.ireturn, 1) := by decide +kernel
set_option maxRecDepth 20000 in
theorem ggX10_trades_X0_tradeOnce : GoodIn wsX10_trades wsX0_tradeOnce := goodIn_r _ [7, 8, 9, 10, 11, 12, 13, 14, 15, 16, 17, 18, 19, 20, 21, 22, 23, 24, 25, 26, 27, 28, 29, 30, 31, 32, 33, 34, 35, 36, 37, 38, 39, 40, 41, 42, 43, 44, 45, 46, 47, 48, 49, 50, 51, 52, 53, 54, 55, 56, 57, 58, 59, 6, 60, 61, 62, 63, 64, 65, 66, 67, 68, 69, 70, 71, 72, 73, 74, 75, 76, 77, 78, 79, 80, 81, 82, 83, 84, 85, 86, 87, 88, 89, 90, 91, 92, 93, 94, 95, 96, 97, 98, 99, 100, 111, 112, 113, 114, 115, 116, 117, 118, 119, 120, 121, 122, 123, 124] (by decide +kernel) (by decide +kernel)
set_option maxRecDepth 20000 in
theorem gX10_trades_X0_tradeOnce : GoodIn wsX10_trades (wsV RX10 299 RX0 yX0_tradeOnce wsX0_tradeOnce) := goodIn_app (goodIn_of _ (by decide +kernel)) ggX10_trades_X0_tradeOnce
theorem dX10_trades_0 : decode cX10_trades 0 = .ok (.iconst 0, 1) := by decide +kernel
theorem dX10_trades_1 : decode cX10_trades 1 = .ok (.istore_n 1, 1) := by decide +kernel
theorem dX10_trades_2 : decode cX10_trades 2 = .ok (.iload_n 1, 1) := by decide +kernel
theorem dX10_trades_3 : decode cX10_trades 3 = .ok (.bipush 20, 2) := by decide +kernel
theorem dX10_trades_5 : decode cX10_trades 5 = .ok (.if_icmp .ge 23, 3) := by decide +kernel
theorem dX10_trades_8 : decode cX10_trades 8 = .ok (.aload_n 0, 1) := by decide +kernel
theorem dX10_trades_9 : decode cX10_trades 9 = .ok (.getfield 68, 3) := by decide +kernel
theorem dX10_trades_12 : decode cX10_trades 12 = .ok (.aload_n 0, 1) := by decide +kernel
theorem dX10_trades_13 : decode cX10_trades 13 = .ok (.getfield 40, 3) := by decide +kernel
theorem dX10_trades_16 : decode cX10_trades 16 = .ok (.invokevirtual 299, 3) := by decide +kernel
theorem dX10_trades_19 : decode cX10_trades 19 = .ok (.ifCond .eq 9, 3) := by decide +kernel
theorem dX10_trades_22 : decode cX10_trades 22 = .ok (.iinc 1 1, 3) := by decide +kernel
theorem dX10_trades_25 : decode cX10_trades 25 = .ok (.goto (-23), 3) := by decide +kernel
theorem dX10_trades_28 : decode cX10_trades 28 = .ok (.iload_n 1, 1) := by decide +kernel
theorem dX10_trades_29 : decode cX10_trades 29 = .ok (.ireturn, 1) := by decide +kernel
set_option maxRecDepth 20000 in
theorem ggX10_saw_X2_isCell : GoodIn wsX10_saw wsX2_isCell := goodIn_r _ [7, 8, 36, 37, 38, 39, 40, 41, 42, 43] (by decide +kernel) (by decide +kernel)
set_option maxRecDepth 20000 in
theorem gX10_saw_X2_isCell : GoodIn wsX10_saw (wsV RX10 165 RX2 yX2_isCell wsX2_isCell) := goodIn_app (goodIn_of _ (by decide +kernel)) ggX10_saw_X2_isCell
set_option maxRecDepth 20000 in
theorem ggX10_saw_X10_isYesOrNo : GoodIn wsX10_saw wsX10_isYesOrNo := goodIn_r _ [12] (by decide +kernel) (by decide +kernel)
set_option maxRecDepth 20000 in
theorem gX10_saw_X10_isYesOrNo : GoodIn wsX10_saw (va_wsS RX10 186 yX10_isYesOrNo wsX10_isYesOrNo) := goodIn_app (goodIn_of _ (by decide +kernel)) ggX10_saw_X10_isYesOrNo
set_option maxRecDepth 20000 in
theorem ggX10_saw_X7_isFull : GoodIn wsX10_saw wsX7_isFull := goodIn_r _ [17, 18, 44, 45, 46] (by decide +kernel) (by decide +kernel)
set_option maxRecDepth 20000 in
theorem gX10_saw_X7_isFull : GoodIn wsX10_saw (wsV RX10 303 RX7 yX7_isFull wsX7_isFull) := goodIn_app (goodIn_of _ (by decide +kernel)) ggX10_saw_X7_isFull
set_option maxRecDepth 20000 in
theorem ggX10_saw_X7_add : GoodIn wsX10_saw wsX7_add := goodIn_r _ [22, 18, 23, 24, 25, 14, 15, 16, 17, 44, 45, 46] (by decide +kernel) (by decide +kernel)
set_option maxRecDepth 20000 in
theorem gX10_saw_X7_add : GoodIn wsX10_saw (wsV RX10 307 RX7 yX7_add wsX7_add) := goodIn_app (goodIn_of _ (by decide +kernel)) ggX10_saw_X7_add
theorem dX10_saw_0 : decode cX10_saw 0 = .ok (.aload_n 0, 1) := by decide +kernel
theorem dX10_saw_1 : decode cX10_saw 1 = .ok (.getfield 40, 3) := by decide +kernel
theorem dX10_saw_4 : decode cX10_saw 4 = .ok (.iload_n 1, 1) := by decide +kernel
theorem dX10_saw_5 : decode cX10_saw 5 = .ok (.invokevirtual 165, 3) := by decide +kernel
theorem dX10_saw_8 : decode cX10_saw 8 = .ok (.ifCond .eq 10, 3) := by decide +kernel
theorem dX10_saw_11 : decode cX10_saw 11 = .ok (.iload_n 2, 1) := by decide +kernel
theorem dX10_saw_12 : decode cX10_saw 12 = .ok (.invokestatic 186, 3) := by decide +kernel
theorem dX10_saw_15 : decode cX10_saw 15 = .ok (.ifCond .ne 5, 3) := by decide +kernel
theorem dX10_saw_18 : decode cX10_saw 18 = .ok (.iconst (-1), 1) := by decide +kernel
theorem dX10_saw_19 : decode cX10_saw 19 = .ok (.ireturn, 1) := by decide +kernel
theorem dX10_saw_20 : decode cX10_saw 20 = .ok (.aload_n 0, 1) := by decide +kernel
theorem dX10_saw_21 : decode cX10_saw 21 = .ok (.getfield 75, 3) := by decide +kernel
theorem dX10_saw_24 : decode cX10_saw 24 = .ok (.invokevirtual 303, 3) := by decide +kernel
theorem dX10_saw_27 : decode cX10_saw 27 = .ok (.ifCond .eq 6, 3) := by decide +kernel
theorem dX10_saw_30 : decode cX10_saw 30 = .ok (.bipush (-2), 2) := by decide +kernel
theorem dX10_saw_32 : decode cX10_saw 32 = .ok (.ireturn, 1) := by decide +kernel
theorem dX10_saw_33 : decode cX10_saw 33 = .ok (.aload_n 0, 1) := by decide +kernel
theorem dX10_saw_34 : decode cX10_saw 34 = .ok (.getfield 75, 3) := by decide +kernel
theorem dX10_saw_37 : decode cX10_saw 37 = .ok (.iload_n 1, 1) := by decide +kernel
theorem dX10_saw_38 : decode cX10_saw 38 = .ok (.iload_n 2, 1) := by decide +kernel
theorem dX10_saw_39 : decode cX10_saw 39 = .ok (.invokevirtual 307, 3) := by decide +kernel
theorem dX10_saw_42 : decode cX10_saw 42 = .ok (.ireturn, 1) := by decide +kernel
set_option maxRecDepth 20000 in
theorem ggX10_forget_X7_size : GoodIn wsX10_forget wsX7_size := goodIn_r _ [6, 7, 22, 23, 24] (by decide +kernel) (by decide +kernel)
set_option maxRecDepth 20000 in
theorem gX10_forget_X7_size : GoodIn wsX10_forget (wsV RX10 310 RX7 yX7_size wsX7_size) := goodIn_app (goodIn_of _ (by decide +kernel)) ggX10_forget_X7_size
set_option maxRecDepth 20000 in
theorem ggX10_forget_X7_dropFrom : GoodIn wsX10_forget wsX7_dropFrom := goodIn_r _ [11, 7, 22, 23, 24] (by decide +kernel) (by decide +kernel)
set_option maxRecDepth 20000 in
theorem gX10_forget_X7_dropFrom : GoodIn wsX10_forget (wsV RX10 158 RX7 yX7_dropFrom wsX7_dropFrom) := goodIn_app (goodIn_of _ (by decide +kernel)) ggX10_forget_X7_dropFrom
theorem dX10_forget_0 : decode cX10_forget 0 = .ok (.iload_n 1, 1) := by decide +kernel
theorem dX10_forget_1 : decode cX10_forget 1 = .ok (.ifCond .lt 14, 3) := by decide +kernel
theorem dX10_forget_4 : decode cX10_forget 4 = .ok (.iload_n 1, 1) := by decide +kernel
theorem dX10_forget_5 : decode cX10_forget 5 = .ok (.aload_n 0, 1) := by decide +kernel
theorem dX10_forget_6 : decode cX10_forget 6 = .ok (.getfield 75, 3) := by decide +kernel
theorem dX10_forget_9 : decode cX10_forget 9 = .ok (.invokevirtual 310, 3) := by decide +kernel
theorem dX10_forget_12 : decode cX10_forget 12 = .ok (.if_icmp .le 5, 3) := by decide +kernel
theorem dX10_forget_15 : decode cX10_forget 15 = .ok (.iconst (-1), 1) := by decide +kernel
theorem dX10_forget_16 : decode cX10_forget 16 = .ok (.ireturn, 1) := by decide +kernel
theorem dX10_forget_17 : decode cX10_forget 17 = .ok (.aload_n 0, 1) := by decide +kernel
theorem dX10_forget_18 : decode cX10_forget 18 = .ok (.getfield 75, 3) := by decide +kernel
theorem dX10_forget_21 : decode cX10_forget 21 = .ok (.iload_n 1, 1) := by decide +kernel
theorem dX10_forget_22 : decode cX10_forget 22 = .ok (.invokevirtual 158, 3) := by decide +kernel
theorem dX10_forget_25 : decode cX10_forget 25 = .ok (.ireturn, 1) := by decide +kernel
set_option maxRecDepth 20000 in
theorem ggX10_culprits_X10_isFavours : GoodIn wsX10_culprits wsX10_isFavours := goodIn_r _ [6] (by decide +kernel) (by decide +kernel)
set_option maxRecDepth 20000 in
theorem gX10_culprits_X10_isFavours : GoodIn wsX10_culprits (va_wsS RX10 313 yX10_isFavours wsX10_isFavours) := goodIn_app (goodIn_of _ (by decide +kernel)) ggX10_culprits_X10_isFavours
set_option maxRecDepth 20000 in
theorem ggX10_culprits_X10_reachAll : GoodIn wsX10_culprits wsX10_reachAll := goodIn_r _ [10, 11, 1, 12, 13, 14, 15, 16, 17, 18, 19, 20, 21, 22, 23, 24, 25, 26, 27, 28, 29, 30, 31, 32, 33, 34, 35, 36, 37, 38, 39, 40, 41, 42, 43, 44, 45, 46, 47, 48, 49, 50, 51, 52, 53, 54, 55, 56, 57, 58, 87, 88, 89, 90, 91, 92, 93, 94, 95, 96, 97, 98, 99, 100, 101, 102, 103, 104, 105, 106] (by decide +kernel) (by decide +kernel)
set_option maxRecDepth 20000 in
theorem gX10_culprits_X10_reachAll : GoodIn wsX10_culprits (wsV RX10 242 RX10 yX10_reachAll wsX10_reachAll) := goodIn_app (goodIn_of _ (by decide +kernel)) ggX10_culprits_X10_reachAll
set_option maxRecDepth 20000 in
theorem ggX10_culprits_X2_everyone : GoodIn wsX10_culprits wsX2_everyone := goodIn_r _ [16, 17, 97, 98, 99, 100, 101, 102, 103, 104] (by decide +kernel) (by decide +kernel)
set_option maxRecDepth 20000 in
theorem gX10_culprits_X2_everyone : GoodIn wsX10_culprits (wsV RX10 201 RX2 yX2_everyone wsX2_everyone) := goodIn_app (goodIn_of _ (by decide +kernel)) ggX10_culprits_X2_everyone
set_option maxRecDepth 20000 in
theorem ggX10_culprits_X10_fitsNight : GoodIn wsX10_culprits wsX10_fitsNight := goodIn_r _ [62, 11, 63, 64, 65, 66, 21, 67, 68, 69, 70, 71, 23, 24, 72, 73, 74, 75, 76, 77, 78, 79, 80, 87, 88, 89, 90, 91, 92, 93, 94, 95, 96, 105, 106, 107, 108, 109] (by decide +kernel) (by decide +kernel)
set_option maxRecDepth 20000 in
theorem gX10_culprits_X10_fitsNight : GoodIn wsX10_culprits (wsV RX10 316 RX10 yX10_fitsNight wsX10_fitsNight) := goodIn_app (goodIn_of _ (by decide +kernel)) ggX10_culprits_X10_fitsNight
set_option maxRecDepth 20000 in
theorem ggX10_culprits_X9_tell : GoodIn wsX10_culprits wsX9_tell := goodIn_r _ [85, 86, 110, 111, 112, 113, 114] (by decide +kernel) (by decide +kernel)
set_option maxRecDepth 20000 in
theorem gX10_culprits_X9_tell : GoodIn wsX10_culprits (wsV RX10 98 RX9 yX9_tell wsX9_tell) := goodIn_app (goodIn_of _ (by decide +kernel)) ggX10_culprits_X9_tell
theorem dX10_culprits_0 : decode cX10_culprits 0 = .ok (.iload_n 1, 1) := by decide +kernel
theorem dX10_culprits_1 : decode cX10_culprits 1 = .ok (.invokestatic 313, 3) := by decide +kernel
theorem dX10_culprits_4 : decode cX10_culprits 4 = .ok (.ifCond .ne 5, 3) := by decide +kernel
theorem dX10_culprits_7 : decode cX10_culprits 7 = .ok (.iconst (-1), 1) := by decide +kernel
theorem dX10_culprits_8 : decode cX10_culprits 8 = .ok (.ireturn, 1) := by decide +kernel
theorem dX10_culprits_9 : decode cX10_culprits 9 = .ok (.aload_n 0, 1) := by decide +kernel
theorem dX10_culprits_10 : decode cX10_culprits 10 = .ok (.invokevirtual 242, 3) := by decide +kernel
theorem dX10_culprits_13 : decode cX10_culprits 13 = .ok (.iconst 0, 1) := by decide +kernel
theorem dX10_culprits_14 : decode cX10_culprits 14 = .ok (.istore_n 2, 1) := by decide +kernel
theorem dX10_culprits_15 : decode cX10_culprits 15 = .ok (.aload_n 0, 1) := by decide +kernel
theorem dX10_culprits_16 : decode cX10_culprits 16 = .ok (.getfield 40, 3) := by decide +kernel
theorem dX10_culprits_19 : decode cX10_culprits 19 = .ok (.invokevirtual 201, 3) := by decide +kernel
theorem dX10_culprits_22 : decode cX10_culprits 22 = .ok (.istore_n 3, 1) := by decide +kernel
theorem dX10_culprits_23 : decode cX10_culprits 23 = .ok (.iconst 0, 1) := by decide +kernel
theorem dX10_culprits_24 : decode cX10_culprits 24 = .ok (.istore 4, 2) := by decide +kernel
theorem dX10_culprits_26 : decode cX10_culprits 26 = .ok (.iconst 0, 1) := by decide +kernel
theorem dX10_culprits_27 : decode cX10_culprits 27 = .ok (.istore 5, 2) := by decide +kernel
theorem dX10_culprits_29 : decode cX10_culprits 29 = .ok (.iload 5, 2) := by decide +kernel
theorem dX10_culprits_31 : decode cX10_culprits 31 = .ok (.aload_n 0, 1) := by decide +kernel
theorem dX10_culprits_32 : decode cX10_culprits 32 = .ok (.getfield 40, 3) := by decide +kernel
theorem dX10_culprits_35 : decode cX10_culprits 35 = .ok (.invokevirtual 201, 3) := by decide +kernel
theorem dX10_culprits_38 : decode cX10_culprits 38 = .ok (.if_icmp .gt 32, 3) := by decide +kernel
theorem dX10_culprits_41 : decode cX10_culprits 41 = .ok (.aload_n 0, 1) := by decide +kernel
theorem dX10_culprits_42 : decode cX10_culprits 42 = .ok (.iload 5, 2) := by decide +kernel
theorem dX10_culprits_44 : decode cX10_culprits 44 = .ok (.iload_n 1, 1) := by decide +kernel
theorem dX10_culprits_45 : decode cX10_culprits 45 = .ok (.invokevirtual 316, 3) := by decide +kernel
theorem dX10_culprits_48 : decode cX10_culprits 48 = .ok (.ifCond .eq 16, 3) := by decide +kernel
theorem dX10_culprits_51 : decode cX10_culprits 51 = .ok (.iconst 1, 1) := by decide +kernel
theorem dX10_culprits_52 : decode cX10_culprits 52 = .ok (.istore 4, 2) := by decide +kernel
theorem dX10_culprits_54 : decode cX10_culprits 54 = .ok (.iload_n 2, 1) := by decide +kernel
theorem dX10_culprits_55 : decode cX10_culprits 55 = .ok (.iload 5, 2) := by decide +kernel
theorem dX10_culprits_57 : decode cX10_culprits 57 = .ok (.ior, 1) := by decide +kernel
theorem dX10_culprits_58 : decode cX10_culprits 58 = .ok (.istore_n 2, 1) := by decide +kernel
theorem dX10_culprits_59 : decode cX10_culprits 59 = .ok (.iload_n 3, 1) := by decide +kernel
theorem dX10_culprits_60 : decode cX10_culprits 60 = .ok (.iload 5, 2) := by decide +kernel
theorem dX10_culprits_62 : decode cX10_culprits 62 = .ok (.iand, 1) := by decide +kernel
theorem dX10_culprits_63 : decode cX10_culprits 63 = .ok (.istore_n 3, 1) := by decide +kernel
theorem dX10_culprits_64 : decode cX10_culprits 64 = .ok (.iinc 5 1, 3) := by decide +kernel
theorem dX10_culprits_67 : decode cX10_culprits 67 = .ok (.goto (-38), 3) := by decide +kernel
theorem dX10_culprits_70 : decode cX10_culprits 70 = .ok (.iload 4, 2) := by decide +kernel
theorem dX10_culprits_72 : decode cX10_culprits 72 = .ok (.ifCond .ne 6, 3) := by decide +kernel
theorem dX10_culprits_75 : decode cX10_culprits 75 = .ok (.bipush (-9), 2) := by decide +kernel
theorem dX10_culprits_77 : decode cX10_culprits 77 = .ok (.ireturn, 1) := by decide +kernel
theorem dX10_culprits_78 : decode cX10_culprits 78 = .ok (.aload_n 0, 1) := by decide +kernel
theorem dX10_culprits_79 : decode cX10_culprits 79 = .ok (.getfield 10, 3) := by decide +kernel
theorem dX10_culprits_82 : decode cX10_culprits 82 = .ok (.iload_n 3, 1) := by decide +kernel
theorem dX10_culprits_83 : decode cX10_culprits 83 = .ok (.invokevirtual 98, 3) := by decide +kernel
theorem dX10_culprits_86 : decode cX10_culprits 86 = .ok (.iload_n 2, 1) := by decide +kernel
theorem dX10_culprits_87 : decode cX10_culprits 87 = .ok (.ireturn, 1) := by decide +kernel
set_option maxRecDepth 20000 in
theorem ggX10_odds_X10_isFavours : GoodIn wsX10_odds wsX10_isFavours := goodIn_r _ [6] (by decide +kernel) (by decide +kernel)
set_option maxRecDepth 20000 in
theorem gX10_odds_X10_isFavours : GoodIn wsX10_odds (va_wsS RX10 313 yX10_isFavours wsX10_isFavours) := goodIn_app (goodIn_of _ (by decide +kernel)) ggX10_odds_X10_isFavours
set_option maxRecDepth 20000 in
theorem ggX10_odds_X2_isCell : GoodIn wsX10_odds wsX2_isCell := goodIn_r _ [11, 12, 105, 106, 107, 108, 109, 110, 111, 112] (by decide +kernel) (by decide +kernel)
set_option maxRecDepth 20000 in
theorem gX10_odds_X2_isCell : GoodIn wsX10_odds (wsV RX10 165 RX2 yX2_isCell wsX2_isCell) := goodIn_app (goodIn_of _ (by decide +kernel)) ggX10_odds_X2_isCell
set_option maxRecDepth 20000 in
theorem ggX10_odds_X10_reachAll : GoodIn wsX10_odds wsX10_reachAll := goodIn_r _ [16, 17, 1, 18, 19, 20, 10, 21, 12, 22, 23, 24, 25, 26, 27, 28, 29, 30, 31, 32, 33, 34, 35, 36, 37, 8, 9, 11, 38, 39, 40, 41, 42, 43, 44, 45, 46, 47, 48, 49, 50, 51, 52, 53, 54, 55, 56, 57, 58, 59, 95, 96, 97, 98, 99, 100, 101, 102, 103, 104, 105, 106, 107, 108, 109, 110, 111, 112, 113, 114] (by decide +kernel) (by decide +kernel)
set_option maxRecDepth 20000 in
theorem gX10_odds_X10_reachAll : GoodIn wsX10_odds (wsV RX10 242 RX10 yX10_reachAll wsX10_reachAll) := goodIn_app (goodIn_of _ (by decide +kernel)) ggX10_odds_X10_reachAll
set_option maxRecDepth 20000 in
theorem ggX10_odds_X2_everyone : GoodIn wsX10_odds wsX2_everyone := goodIn_r _ [21, 12, 105, 106, 107, 108, 109, 110, 111, 112] (by decide +kernel) (by decide +kernel)
set_option maxRecDepth 20000 in
theorem gX10_odds_X2_everyone : GoodIn wsX10_odds (wsV RX10 201 RX2 yX2_everyone wsX2_everyone) := goodIn_app (goodIn_of _ (by decide +kernel)) ggX10_odds_X2_everyone
set_option maxRecDepth 20000 in
theorem ggX10_odds_X10_fitsNight : GoodIn wsX10_odds wsX10_fitsNight := goodIn_r _ [63, 17, 64, 65, 66, 67, 25, 68, 69, 70, 71, 72, 27, 28, 73, 74, 75, 76, 77, 78, 79, 80, 81, 95, 96, 97, 98, 99, 100, 101, 102, 103, 104, 113, 114, 115, 116, 117] (by decide +kernel) (by decide +kernel)
set_option maxRecDepth 20000 in
theorem gX10_odds_X10_fitsNight : GoodIn wsX10_odds (wsV RX10 316 RX10 yX10_fitsNight wsX10_fitsNight) := goodIn_app (goodIn_of _ (by decide +kernel)) ggX10_odds_X10_fitsNight
set_option maxRecDepth 20000 in
theorem ggX10_odds_X9_found : GoodIn wsX10_odds wsX9_found := goodIn_r _ [86, 87, 88, 118, 119, 120, 121, 122] (by decide +kernel) (by decide +kernel)
set_option maxRecDepth 20000 in
theorem gX10_odds_X9_found : GoodIn wsX10_odds (wsV RX10 83 RX9 yX9_found wsX9_found) := goodIn_app (goodIn_of _ (by decide +kernel)) ggX10_odds_X9_found
set_option maxRecDepth 20000 in
theorem ggX10_odds_X9_tellFraction : GoodIn wsX10_odds wsX9_tellFraction := goodIn_r _ [92, 93, 94, 118, 119, 120, 121, 122] (by decide +kernel) (by decide +kernel)
set_option maxRecDepth 20000 in
theorem gX10_odds_X9_tellFraction : GoodIn wsX10_odds (wsV RX10 319 RX9 yX9_tellFraction wsX9_tellFraction) := goodIn_app (goodIn_of _ (by decide +kernel)) ggX10_odds_X9_tellFraction
theorem dX10_odds_0 : decode cX10_odds 0 = .ok (.iload_n 1, 1) := by decide +kernel
theorem dX10_odds_1 : decode cX10_odds 1 = .ok (.invokestatic 313, 3) := by decide +kernel
theorem dX10_odds_4 : decode cX10_odds 4 = .ok (.ifCond .eq 14, 3) := by decide +kernel
theorem dX10_odds_7 : decode cX10_odds 7 = .ok (.aload_n 0, 1) := by decide +kernel
theorem dX10_odds_8 : decode cX10_odds 8 = .ok (.getfield 40, 3) := by decide +kernel
theorem dX10_odds_11 : decode cX10_odds 11 = .ok (.iload_n 2, 1) := by decide +kernel
theorem dX10_odds_12 : decode cX10_odds 12 = .ok (.invokevirtual 165, 3) := by decide +kernel
theorem dX10_odds_15 : decode cX10_odds 15 = .ok (.ifCond .ne 5, 3) := by decide +kernel
theorem dX10_odds_18 : decode cX10_odds 18 = .ok (.iconst (-1), 1) := by decide +kernel
theorem dX10_odds_19 : decode cX10_odds 19 = .ok (.ireturn, 1) := by decide +kernel
theorem dX10_odds_20 : decode cX10_odds 20 = .ok (.aload_n 0, 1) := by decide +kernel
theorem dX10_odds_21 : decode cX10_odds 21 = .ok (.invokevirtual 242, 3) := by decide +kernel
theorem dX10_odds_24 : decode cX10_odds 24 = .ok (.iconst 0, 1) := by decide +kernel
theorem dX10_odds_25 : decode cX10_odds 25 = .ok (.istore_n 3, 1) := by decide +kernel
theorem dX10_odds_26 : decode cX10_odds 26 = .ok (.iconst 0, 1) := by decide +kernel
theorem dX10_odds_27 : decode cX10_odds 27 = .ok (.istore 4, 2) := by decide +kernel
theorem dX10_odds_29 : decode cX10_odds 29 = .ok (.iconst 0, 1) := by decide +kernel
theorem dX10_odds_30 : decode cX10_odds 30 = .ok (.istore 5, 2) := by decide +kernel
theorem dX10_odds_32 : decode cX10_odds 32 = .ok (.iload 5, 2) := by decide +kernel
theorem dX10_odds_34 : decode cX10_odds 34 = .ok (.aload_n 0, 1) := by decide +kernel
theorem dX10_odds_35 : decode cX10_odds 35 = .ok (.getfield 40, 3) := by decide +kernel
theorem dX10_odds_38 : decode cX10_odds 38 = .ok (.invokevirtual 201, 3) := by decide +kernel
theorem dX10_odds_41 : decode cX10_odds 41 = .ok (.if_icmp .gt 33, 3) := by decide +kernel
theorem dX10_odds_44 : decode cX10_odds 44 = .ok (.aload_n 0, 1) := by decide +kernel
theorem dX10_odds_45 : decode cX10_odds 45 = .ok (.iload 5, 2) := by decide +kernel
theorem dX10_odds_47 : decode cX10_odds 47 = .ok (.iload_n 1, 1) := by decide +kernel
theorem dX10_odds_48 : decode cX10_odds 48 = .ok (.invokevirtual 316, 3) := by decide +kernel
theorem dX10_odds_51 : decode cX10_odds 51 = .ok (.ifCond .eq 17, 3) := by decide +kernel
theorem dX10_odds_54 : decode cX10_odds 54 = .ok (.iinc 3 1, 3) := by decide +kernel
theorem dX10_odds_57 : decode cX10_odds 57 = .ok (.iload 4, 2) := by decide +kernel
theorem dX10_odds_59 : decode cX10_odds 59 = .ok (.iload 5, 2) := by decide +kernel
theorem dX10_odds_61 : decode cX10_odds 61 = .ok (.iload_n 2, 1) := by decide +kernel
theorem dX10_odds_62 : decode cX10_odds 62 = .ok (.ishr, 1) := by decide +kernel
theorem dX10_odds_63 : decode cX10_odds 63 = .ok (.iconst 1, 1) := by decide +kernel
theorem dX10_odds_64 : decode cX10_odds 64 = .ok (.iand, 1) := by decide +kernel
theorem dX10_odds_65 : decode cX10_odds 65 = .ok (.iadd, 1) := by decide +kernel
theorem dX10_odds_66 : decode cX10_odds 66 = .ok (.istore 4, 2) := by decide +kernel
theorem dX10_odds_68 : decode cX10_odds 68 = .ok (.iinc 5 1, 3) := by decide +kernel
theorem dX10_odds_71 : decode cX10_odds 71 = .ok (.goto (-39), 3) := by decide +kernel
theorem dX10_odds_74 : decode cX10_odds 74 = .ok (.iload_n 3, 1) := by decide +kernel
theorem dX10_odds_75 : decode cX10_odds 75 = .ok (.ifCond .ne 12, 3) := by decide +kernel
theorem dX10_odds_78 : decode cX10_odds 78 = .ok (.aload_n 0, 1) := by decide +kernel
theorem dX10_odds_79 : decode cX10_odds 79 = .ok (.getfield 10, 3) := by decide +kernel
theorem dX10_odds_82 : decode cX10_odds 82 = .ok (.iconst 4, 1) := by decide +kernel
theorem dX10_odds_83 : decode cX10_odds 83 = .ok (.invokevirtual 83, 3) := by decide +kernel
theorem dX10_odds_86 : decode cX10_odds 86 = .ok (.ireturn, 1) := by decide +kernel
theorem dX10_odds_87 : decode cX10_odds 87 = .ok (.aload_n 0, 1) := by decide +kernel
theorem dX10_odds_88 : decode cX10_odds 88 = .ok (.getfield 10, 3) := by decide +kernel
theorem dX10_odds_91 : decode cX10_odds 91 = .ok (.iload 4, 2) := by decide +kernel
theorem dX10_odds_93 : decode cX10_odds 93 = .ok (.iload_n 3, 1) := by decide +kernel
theorem dX10_odds_94 : decode cX10_odds 94 = .ok (.invokevirtual 319, 3) := by decide +kernel
theorem dX10_odds_97 : decode cX10_odds 97 = .ok (.iload 4, 2) := by decide +kernel
theorem dX10_odds_99 : decode cX10_odds 99 = .ok (.ireturn, 1) := by decide +kernel
set_option maxRecDepth 20000 in
theorem ggX10_asked_X9_latest : GoodIn wsX10_asked wsX9_latest := goodIn_r _ [6, 7, 18, 19, 20, 21, 22] (by decide +kernel) (by decide +kernel)
set_option maxRecDepth 20000 in
theorem gX10_asked_X9_latest : GoodIn wsX10_asked (wsV RX10 322 RX9 yX9_latest wsX9_latest) := goodIn_app (goodIn_of _ (by decide +kernel)) ggX10_asked_X9_latest
theorem dX10_asked_0 : decode cX10_asked 0 = .ok (.aload_n 0, 1) := by decide +kernel
theorem dX10_asked_1 : decode cX10_asked 1 = .ok (.getfield 10, 3) := by decide +kernel
theorem dX10_asked_4 : decode cX10_asked 4 = .ok (.invokevirtual 322, 3) := by decide +kernel
theorem dX10_asked_7 : decode cX10_asked 7 = .ok (.ireturn, 1) := by decide +kernel
set_option maxRecDepth 20000 in
theorem ggX10_upper_X9_upperNumber : GoodIn wsX10_upper wsX9_upperNumber := goodIn_r _ [6, 7, 18, 19, 20, 21, 22] (by decide +kernel) (by decide +kernel)
set_option maxRecDepth 20000 in
theorem gX10_upper_X9_upperNumber : GoodIn wsX10_upper (wsV RX10 325 RX9 yX9_upperNumber wsX9_upperNumber) := goodIn_app (goodIn_of _ (by decide +kernel)) ggX10_upper_X9_upperNumber
theorem dX10_upper_0 : decode cX10_upper 0 = .ok (.aload_n 0, 1) := by decide +kernel
theorem dX10_upper_1 : decode cX10_upper 1 = .ok (.getfield 10, 3) := by decide +kernel
theorem dX10_upper_4 : decode cX10_upper 4 = .ok (.invokevirtual 325, 3) := by decide +kernel
theorem dX10_upper_7 : decode cX10_upper 7 = .ok (.lreturn, 1) := by decide +kernel
set_option maxRecDepth 20000 in
theorem ggX10_lower_X9_lowerNumber : GoodIn wsX10_lower wsX9_lowerNumber := goodIn_r _ [6, 7, 18, 19, 20, 21, 22] (by decide +kernel) (by decide +kernel)
set_option maxRecDepth 20000 in
theorem gX10_lower_X9_lowerNumber : GoodIn wsX10_lower (wsV RX10 329 RX9 yX9_lowerNumber wsX9_lowerNumber) := goodIn_app (goodIn_of _ (by decide +kernel)) ggX10_lower_X9_lowerNumber
theorem dX10_lower_0 : decode cX10_lower 0 = .ok (.aload_n 0, 1) := by decide +kernel
theorem dX10_lower_1 : decode cX10_lower 1 = .ok (.getfield 10, 3) := by decide +kernel
theorem dX10_lower_4 : decode cX10_lower 4 = .ok (.invokevirtual 329, 3) := by decide +kernel
theorem dX10_lower_7 : decode cX10_lower 7 = .ok (.lreturn, 1) := by decide +kernel
set_option maxRecDepth 20000 in
theorem ggX10_count_X2_cells : GoodIn wsX10_count wsX2_cells := goodIn_r _ [10, 11, 96, 97, 98, 99, 100, 101, 102, 103] (by decide +kernel) (by decide +kernel)
set_option maxRecDepth 20000 in
theorem gX10_count_X2_cells : GoodIn wsX10_count (wsV RX10 161 RX2 yX2_cells wsX2_cells) := goodIn_app (goodIn_of _ (by decide +kernel)) ggX10_count_X2_cells
set_option maxRecDepth 20000 in
theorem ggX10_count_X1_howManyOut : GoodIn wsX10_count wsX1_howManyOut := goodIn_r _ [16, 17, 18, 19, 20, 21, 22, 23, 24, 104, 105, 106, 107] (by decide +kernel) (by decide +kernel)
set_option maxRecDepth 20000 in
theorem gX10_count_X1_howManyOut : GoodIn wsX10_count (wsV RX10 217 RX1 yX1_howManyOut wsX1_howManyOut) := goodIn_app (goodIn_of _ (by decide +kernel)) ggX10_count_X1_howManyOut
set_option maxRecDepth 20000 in
theorem ggX10_count_X2_doorsOf : GoodIn wsX10_count wsX2_doorsOf := goodIn_r _ [28, 11, 29, 30, 31, 9, 32, 33, 34, 35, 36, 37, 96, 97, 98, 99, 100, 101, 102, 103] (by decide +kernel) (by decide +kernel)
set_option maxRecDepth 20000 in
theorem gX10_count_X2_doorsOf : GoodIn wsX10_count (wsV RX10 332 RX2 yX2_doorsOf wsX2_doorsOf) := goodIn_app (goodIn_of _ (by decide +kernel)) ggX10_count_X2_doorsOf
set_option maxRecDepth 20000 in
theorem ggX10_count_X2_quarrels : GoodIn wsX10_count wsX2_quarrels := goodIn_r _ [41, 11, 42, 43, 19, 20, 21, 22, 23, 24, 96, 97, 98, 99, 100, 101, 102, 103] (by decide +kernel) (by decide +kernel)
set_option maxRecDepth 20000 in
theorem gX10_count_X2_quarrels : GoodIn wsX10_count (wsV RX10 335 RX2 yX2_quarrels wsX2_quarrels) := goodIn_app (goodIn_of _ (by decide +kernel)) ggX10_count_X2_quarrels
set_option maxRecDepth 20000 in
theorem ggX10_count_X7_size : GoodIn wsX10_count wsX7_size := goodIn_r _ [48, 49, 108, 109, 110] (by decide +kernel) (by decide +kernel)
set_option maxRecDepth 20000 in
theorem gX10_count_X7_size : GoodIn wsX10_count (wsV RX10 310 RX7 yX7_size wsX7_size) := goodIn_app (goodIn_of _ (by decide +kernel)) ggX10_count_X7_size
set_option maxRecDepth 20000 in
theorem ggX10_count_X6_howMany : GoodIn wsX10_count wsX6_howMany := goodIn_r _ [54, 55, 56, 57, 53, 58, 59, 60, 61, 62, 63, 64, 65, 66, 67, 111, 112] (by decide +kernel) (by decide +kernel)
set_option maxRecDepth 20000 in
theorem gX10_count_X6_howMany : GoodIn wsX10_count (wsV RX10 338 RX6 yX6_howMany wsX6_howMany) := goodIn_app (goodIn_of _ (by decide +kernel)) ggX10_count_X6_howMany
set_option maxRecDepth 20000 in
theorem ggX10_count_X8_howMany : GoodIn wsX10_count wsX8_howMany := goodIn_r _ [72, 73, 74, 75, 71, 76, 77, 78, 79, 80, 81, 82, 83, 84, 85, 113, 114] (by decide +kernel) (by decide +kernel)
set_option maxRecDepth 20000 in
theorem gX10_count_X8_howMany : GoodIn wsX10_count (wsV RX10 339 RX8 yX8_howMany wsX8_howMany) := goodIn_app (goodIn_of _ (by decide +kernel)) ggX10_count_X8_howMany
theorem dX10_count_0 : decode cX10_count 0 = .ok (.iload_n 1, 1) := by decide +kernel
theorem dX10_count_1 : decode cX10_count 1 = .ok (.tableswitch 113 0 7 #[47, 55, 63, 72, 81, 89, 97, 105], 47) := by decide +kernel
theorem dX10_count_48 : decode cX10_count 48 = .ok (.aload_n 0, 1) := by decide +kernel
theorem dX10_count_49 : decode cX10_count 49 = .ok (.getfield 40, 3) := by decide +kernel
theorem dX10_count_52 : decode cX10_count 52 = .ok (.invokevirtual 161, 3) := by decide +kernel
theorem dX10_count_55 : decode cX10_count 55 = .ok (.ireturn, 1) := by decide +kernel
theorem dX10_count_56 : decode cX10_count 56 = .ok (.aload_n 0, 1) := by decide +kernel
theorem dX10_count_57 : decode cX10_count 57 = .ok (.getfield 47, 3) := by decide +kernel
theorem dX10_count_60 : decode cX10_count 60 = .ok (.invokevirtual 217, 3) := by decide +kernel
theorem dX10_count_63 : decode cX10_count 63 = .ok (.ireturn, 1) := by decide +kernel
theorem dX10_count_64 : decode cX10_count 64 = .ok (.aload_n 0, 1) := by decide +kernel
theorem dX10_count_65 : decode cX10_count 65 = .ok (.getfield 40, 3) := by decide +kernel
theorem dX10_count_68 : decode cX10_count 68 = .ok (.iconst 1, 1) := by decide +kernel
theorem dX10_count_69 : decode cX10_count 69 = .ok (.invokevirtual 332, 3) := by decide +kernel
theorem dX10_count_72 : decode cX10_count 72 = .ok (.ireturn, 1) := by decide +kernel
theorem dX10_count_73 : decode cX10_count 73 = .ok (.aload_n 0, 1) := by decide +kernel
theorem dX10_count_74 : decode cX10_count 74 = .ok (.getfield 40, 3) := by decide +kernel
theorem dX10_count_77 : decode cX10_count 77 = .ok (.iconst 3, 1) := by decide +kernel
theorem dX10_count_78 : decode cX10_count 78 = .ok (.invokevirtual 332, 3) := by decide +kernel
theorem dX10_count_81 : decode cX10_count 81 = .ok (.ireturn, 1) := by decide +kernel
theorem dX10_count_82 : decode cX10_count 82 = .ok (.aload_n 0, 1) := by decide +kernel
theorem dX10_count_83 : decode cX10_count 83 = .ok (.getfield 40, 3) := by decide +kernel
theorem dX10_count_86 : decode cX10_count 86 = .ok (.invokevirtual 335, 3) := by decide +kernel
theorem dX10_count_89 : decode cX10_count 89 = .ok (.ireturn, 1) := by decide +kernel
theorem dX10_count_90 : decode cX10_count 90 = .ok (.aload_n 0, 1) := by decide +kernel
theorem dX10_count_91 : decode cX10_count 91 = .ok (.getfield 75, 3) := by decide +kernel
theorem dX10_count_94 : decode cX10_count 94 = .ok (.invokevirtual 310, 3) := by decide +kernel
theorem dX10_count_97 : decode cX10_count 97 = .ok (.ireturn, 1) := by decide +kernel
theorem dX10_count_98 : decode cX10_count 98 = .ok (.aload_n 0, 1) := by decide +kernel
theorem dX10_count_99 : decode cX10_count 99 = .ok (.getfield 19, 3) := by decide +kernel
theorem dX10_count_102 : decode cX10_count 102 = .ok (.invokevirtual 338, 3) := by decide +kernel
theorem dX10_count_105 : decode cX10_count 105 = .ok (.ireturn, 1) := by decide +kernel
theorem dX10_count_106 : decode cX10_count 106 = .ok (.aload_n 0, 1) := by decide +kernel
theorem dX10_count_107 : decode cX10_count 107 = .ok (.getfield 26, 3) := by decide +kernel
theorem dX10_count_110 : decode cX10_count 110 = .ok (.invokevirtual 339, 3) := by decide +kernel
theorem dX10_count_113 : decode cX10_count 113 = .ok (.ireturn, 1) := by decide +kernel
theorem dX10_count_114 : decode cX10_count 114 = .ok (.iconst (-1), 1) := by decide +kernel
theorem dX10_count_115 : decode cX10_count 115 = .ok (.ireturn, 1) := by decide +kernel
set_option maxRecDepth 20000 in
theorem ggX10_digest_X10_count : GoodIn wsX10_digest wsX10_count := goodIn_r _ [12, 4, 3, 5, 6, 7, 13, 14, 15, 16, 17, 18, 19, 20, 21, 22, 23, 24, 25, 26, 27, 28, 29, 30, 31, 32, 33, 34, 35, 36, 37, 38, 39, 40, 41, 42, 43, 44, 45, 46, 47, 48, 49, 50, 51, 52, 53, 54, 55, 56, 57, 58, 59, 60, 61, 62, 63, 64, 65, 66, 67, 68, 69, 70, 71, 72, 73, 74, 75, 76, 77, 78, 79, 80, 81, 82, 83, 84, 85, 86, 87, 88, 89, 90, 91, 92, 164, 165, 166, 167, 168, 169, 170, 171, 172, 173, 174, 175, 176, 177, 178, 179, 180, 181, 182, 183, 184, 185, 186, 187, 188, 189, 190, 191, 192] (by decide +kernel) (by decide +kernel)
set_option maxRecDepth 20000 in
theorem gX10_digest_X10_count : GoodIn wsX10_digest (wsV RX10 350 RX10 yX10_count wsX10_count) := goodIn_app (goodIn_of _ (by decide +kernel)) ggX10_digest_X10_count
set_option maxRecDepth 20000 in
theorem ggX10_digest_X1_whoIsOut : GoodIn wsX10_digest wsX1_whoIsOut := goodIn_r _ [96, 24, 182, 183, 184, 185] (by decide +kernel) (by decide +kernel)
set_option maxRecDepth 20000 in
theorem gX10_digest_X1_whoIsOut : GoodIn wsX10_digest (wsV RX10 198 RX1 yX1_whoIsOut wsX1_whoIsOut) := goodIn_app (goodIn_of _ (by decide +kernel)) ggX10_digest_X1_whoIsOut
set_option maxRecDepth 20000 in
theorem ggX10_digest_X1_favours : GoodIn wsX10_digest wsX1_favours := goodIn_r _ [100, 101, 182, 183, 184, 185] (by decide +kernel) (by decide +kernel)
set_option maxRecDepth 20000 in
theorem gX10_digest_X1_favours : GoodIn wsX10_digest (wsV RX10 214 RX1 yX1_favours wsX1_favours) := goodIn_app (goodIn_of _ (by decide +kernel)) ggX10_digest_X1_favours
set_option maxRecDepth 20000 in
theorem ggX10_digest_X2_mix : GoodIn wsX10_digest wsX2_mix := goodIn_r _ [105, 18, 106, 49, 107, 108, 109, 16, 110, 40, 111, 112, 113, 41, 42, 43, 44, 174, 175, 176, 177, 178, 179, 180, 181] (by decide +kernel) (by decide +kernel)
set_option maxRecDepth 20000 in
theorem gX10_digest_X2_mix : GoodIn wsX10_digest (wsV RX10 353 RX2 yX2_mix wsX2_mix) := goodIn_app (goodIn_of _ (by decide +kernel)) ggX10_digest_X2_mix
set_option maxRecDepth 20000 in
theorem ggX10_digest_X7_mix : GoodIn wsX10_digest wsX7_mix := goodIn_r _ [117, 56, 118, 119, 120, 186, 187, 188] (by decide +kernel) (by decide +kernel)
set_option maxRecDepth 20000 in
theorem gX10_digest_X7_mix : GoodIn wsX10_digest (wsV RX10 357 RX7 yX7_mix wsX7_mix) := goodIn_app (goodIn_of _ (by decide +kernel)) ggX10_digest_X7_mix
set_option maxRecDepth 20000 in
theorem ggX10_digest_X1_mixKept : GoodIn wsX10_digest wsX1_mixKept := goodIn_r _ [124, 125, 126, 127, 128, 129, 130, 22, 131, 132, 133, 134, 135, 182, 183, 184, 185] (by decide +kernel) (by decide +kernel)
set_option maxRecDepth 20000 in
theorem gX10_digest_X1_mixKept : GoodIn wsX10_digest (wsV RX10 358 RX1 yX1_mixKept wsX1_mixKept) := goodIn_app (goodIn_of _ (by decide +kernel)) ggX10_digest_X1_mixKept
set_option maxRecDepth 20000 in
theorem ggX10_digest_X6_mix : GoodIn wsX10_digest wsX6_mix := goodIn_r _ [139, 140, 66, 67, 68, 60, 69, 70, 71, 72, 73, 74, 141, 142, 143, 144, 145, 146, 147, 148, 149, 189, 190] (by decide +kernel) (by decide +kernel)
set_option maxRecDepth 20000 in
theorem gX10_digest_X6_mix : GoodIn wsX10_digest (wsV RX10 361 RX6 yX6_mix wsX6_mix) := goodIn_app (goodIn_of _ (by decide +kernel)) ggX10_digest_X6_mix
set_option maxRecDepth 20000 in
theorem ggX10_digest_X8_mix : GoodIn wsX10_digest wsX8_mix := goodIn_r _ [153, 154, 84, 85, 86, 78, 87, 88, 89, 90, 91, 92, 155, 156, 157, 158, 159, 160, 161, 162, 163, 191, 192] (by decide +kernel) (by decide +kernel)
set_option maxRecDepth 20000 in
theorem gX10_digest_X8_mix : GoodIn wsX10_digest (wsV RX10 362 RX8 yX8_mix wsX8_mix) := goodIn_app (goodIn_of _ (by decide +kernel)) ggX10_digest_X8_mix
theorem dX10_digest_0 : decode cX10_digest 0 = .ok (.ldc2_w 346, 3) := by decide +kernel
theorem dX10_digest_3 : decode cX10_digest 3 = .ok (.lstore_n 1, 1) := by decide +kernel
theorem dX10_digest_4 : decode cX10_digest 4 = .ok (.iconst 0, 1) := by decide +kernel
theorem dX10_digest_5 : decode cX10_digest 5 = .ok (.istore_n 3, 1) := by decide +kernel
theorem dX10_digest_6 : decode cX10_digest 6 = .ok (.iload_n 3, 1) := by decide +kernel
theorem dX10_digest_7 : decode cX10_digest 7 = .ok (.bipush 8, 2) := by decide +kernel
theorem dX10_digest_9 : decode cX10_digest 9 = .ok (.if_icmp .ge 22, 3) := by decide +kernel
theorem dX10_digest_12 : decode cX10_digest 12 = .ok (.ldc2_w 348, 3) := by decide +kernel
theorem dX10_digest_15 : decode cX10_digest 15 = .ok (.lload_n 1, 1) := by decide +kernel
theorem dX10_digest_16 : decode cX10_digest 16 = .ok (.lmul, 1) := by decide +kernel
theorem dX10_digest_17 : decode cX10_digest 17 = .ok (.aload_n 0, 1) := by decide +kernel
theorem dX10_digest_18 : decode cX10_digest 18 = .ok (.iload_n 3, 1) := by decide +kernel
theorem dX10_digest_19 : decode cX10_digest 19 = .ok (.invokevirtual 350, 3) := by decide +kernel
theorem dX10_digest_22 : decode cX10_digest 22 = .ok (.i2l, 1) := by decide +kernel
theorem dX10_digest_23 : decode cX10_digest 23 = .ok (.ladd, 1) := by decide +kernel
theorem dX10_digest_24 : decode cX10_digest 24 = .ok (.lstore_n 1, 1) := by decide +kernel
theorem dX10_digest_25 : decode cX10_digest 25 = .ok (.iinc 3 1, 3) := by decide +kernel
theorem dX10_digest_28 : decode cX10_digest 28 = .ok (.goto (-22), 3) := by decide +kernel
theorem dX10_digest_31 : decode cX10_digest 31 = .ok (.ldc2_w 348, 3) := by decide +kernel
theorem dX10_digest_34 : decode cX10_digest 34 = .ok (.lload_n 1, 1) := by decide +kernel
theorem dX10_digest_35 : decode cX10_digest 35 = .ok (.lmul, 1) := by decide +kernel
theorem dX10_digest_36 : decode cX10_digest 36 = .ok (.aload_n 0, 1) := by decide +kernel
theorem dX10_digest_37 : decode cX10_digest 37 = .ok (.getfield 47, 3) := by decide +kernel
theorem dX10_digest_40 : decode cX10_digest 40 = .ok (.invokevirtual 198, 3) := by decide +kernel
theorem dX10_digest_43 : decode cX10_digest 43 = .ok (.i2l, 1) := by decide +kernel
theorem dX10_digest_44 : decode cX10_digest 44 = .ok (.ladd, 1) := by decide +kernel
theorem dX10_digest_45 : decode cX10_digest 45 = .ok (.lstore_n 1, 1) := by decide +kernel
theorem dX10_digest_46 : decode cX10_digest 46 = .ok (.ldc2_w 348, 3) := by decide +kernel
theorem dX10_digest_49 : decode cX10_digest 49 = .ok (.lload_n 1, 1) := by decide +kernel
theorem dX10_digest_50 : decode cX10_digest 50 = .ok (.lmul, 1) := by decide +kernel
theorem dX10_digest_51 : decode cX10_digest 51 = .ok (.aload_n 0, 1) := by decide +kernel
theorem dX10_digest_52 : decode cX10_digest 52 = .ok (.getfield 47, 3) := by decide +kernel
theorem dX10_digest_55 : decode cX10_digest 55 = .ok (.invokevirtual 214, 3) := by decide +kernel
theorem dX10_digest_58 : decode cX10_digest 58 = .ok (.i2l, 1) := by decide +kernel
theorem dX10_digest_59 : decode cX10_digest 59 = .ok (.ladd, 1) := by decide +kernel
theorem dX10_digest_60 : decode cX10_digest 60 = .ok (.lstore_n 1, 1) := by decide +kernel
theorem dX10_digest_61 : decode cX10_digest 61 = .ok (.aload_n 0, 1) := by decide +kernel
theorem dX10_digest_62 : decode cX10_digest 62 = .ok (.getfield 40, 3) := by decide +kernel
theorem dX10_digest_65 : decode cX10_digest 65 = .ok (.lload_n 1, 1) := by decide +kernel
theorem dX10_digest_66 : decode cX10_digest 66 = .ok (.invokevirtual 353, 3) := by decide +kernel
theorem dX10_digest_69 : decode cX10_digest 69 = .ok (.lstore_n 1, 1) := by decide +kernel
theorem dX10_digest_70 : decode cX10_digest 70 = .ok (.aload_n 0, 1) := by decide +kernel
theorem dX10_digest_71 : decode cX10_digest 71 = .ok (.getfield 75, 3) := by decide +kernel
theorem dX10_digest_74 : decode cX10_digest 74 = .ok (.lload_n 1, 1) := by decide +kernel
theorem dX10_digest_75 : decode cX10_digest 75 = .ok (.invokevirtual 357, 3) := by decide +kernel
theorem dX10_digest_78 : decode cX10_digest 78 = .ok (.lstore_n 1, 1) := by decide +kernel
theorem dX10_digest_79 : decode cX10_digest 79 = .ok (.aload_n 0, 1) := by decide +kernel
theorem dX10_digest_80 : decode cX10_digest 80 = .ok (.getfield 47, 3) := by decide +kernel
theorem dX10_digest_83 : decode cX10_digest 83 = .ok (.lload_n 1, 1) := by decide +kernel
theorem dX10_digest_84 : decode cX10_digest 84 = .ok (.invokevirtual 358, 3) := by decide +kernel
theorem dX10_digest_87 : decode cX10_digest 87 = .ok (.lstore_n 1, 1) := by decide +kernel
theorem dX10_digest_88 : decode cX10_digest 88 = .ok (.aload_n 0, 1) := by decide +kernel
theorem dX10_digest_89 : decode cX10_digest 89 = .ok (.getfield 19, 3) := by decide +kernel
theorem dX10_digest_92 : decode cX10_digest 92 = .ok (.lload_n 1, 1) := by decide +kernel
theorem dX10_digest_93 : decode cX10_digest 93 = .ok (.invokevirtual 361, 3) := by decide +kernel
theorem dX10_digest_96 : decode cX10_digest 96 = .ok (.lstore_n 1, 1) := by decide +kernel
theorem dX10_digest_97 : decode cX10_digest 97 = .ok (.aload_n 0, 1) := by decide +kernel
theorem dX10_digest_98 : decode cX10_digest 98 = .ok (.getfield 26, 3) := by decide +kernel
theorem dX10_digest_101 : decode cX10_digest 101 = .ok (.lload_n 1, 1) := by decide +kernel
theorem dX10_digest_102 : decode cX10_digest 102 = .ok (.invokevirtual 362, 3) := by decide +kernel
theorem dX10_digest_105 : decode cX10_digest 105 = .ok (.lreturn, 1) := by decide +kernel
set_option maxRecDepth 20000 in
theorem ggX10_rowRefusal_X6_isNumber : GoodIn wsX10_rowRefusal wsX6_isNumber := goodIn_r _ [7] (by decide +kernel) (by decide +kernel)
set_option maxRecDepth 20000 in
theorem gX10_rowRefusal_X6_isNumber : GoodIn wsX10_rowRefusal (wsV RX10 79 RX6 yX6_isNumber wsX6_isNumber) := goodIn_app (goodIn_of _ (by decide +kernel)) ggX10_rowRefusal_X6_isNumber
set_option maxRecDepth 20000 in
theorem ggX10_rowRefusal_X6_isThere : GoodIn wsX10_rowRefusal wsX6_isThere := goodIn_r _ [11, 12, 13, 14, 6, 15, 16, 17, 4, 5, 7, 35, 36] (by decide +kernel) (by decide +kernel)
set_option maxRecDepth 20000 in
theorem gX10_rowRefusal_X6_isThere : GoodIn wsX10_rowRefusal (wsV RX10 112 RX6 yX6_isThere wsX6_isThere) := goodIn_app (goodIn_of _ (by decide +kernel)) ggX10_rowRefusal_X6_isThere
set_option maxRecDepth 20000 in
theorem ggX10_rowRefusal_X9_found : GoodIn wsX10_rowRefusal wsX9_found := goodIn_r _ [22, 23, 24, 37, 38, 39, 40, 41] (by decide +kernel) (by decide +kernel)
set_option maxRecDepth 20000 in
theorem gX10_rowRefusal_X9_found : GoodIn wsX10_rowRefusal (wsV RX10 83 RX9 yX9_found wsX9_found) := goodIn_app (goodIn_of _ (by decide +kernel)) ggX10_rowRefusal_X9_found
theorem dX10_rowRefusal_0 : decode cX10_rowRefusal 0 = .ok (.aload_n 0, 1) := by decide +kernel
theorem dX10_rowRefusal_1 : decode cX10_rowRefusal 1 = .ok (.getfield 19, 3) := by decide +kernel
theorem dX10_rowRefusal_4 : decode cX10_rowRefusal 4 = .ok (.iload_n 1, 1) := by decide +kernel
theorem dX10_rowRefusal_5 : decode cX10_rowRefusal 5 = .ok (.invokevirtual 79, 3) := by decide +kernel
theorem dX10_rowRefusal_8 : decode cX10_rowRefusal 8 = .ok (.ifCond .ne 5, 3) := by decide +kernel
theorem dX10_rowRefusal_11 : decode cX10_rowRefusal 11 = .ok (.iconst (-1), 1) := by decide +kernel
theorem dX10_rowRefusal_12 : decode cX10_rowRefusal 12 = .ok (.ireturn, 1) := by decide +kernel
theorem dX10_rowRefusal_13 : decode cX10_rowRefusal 13 = .ok (.aload_n 0, 1) := by decide +kernel
theorem dX10_rowRefusal_14 : decode cX10_rowRefusal 14 = .ok (.getfield 19, 3) := by decide +kernel
theorem dX10_rowRefusal_17 : decode cX10_rowRefusal 17 = .ok (.iload_n 1, 1) := by decide +kernel
theorem dX10_rowRefusal_18 : decode cX10_rowRefusal 18 = .ok (.invokevirtual 112, 3) := by decide +kernel
theorem dX10_rowRefusal_21 : decode cX10_rowRefusal 21 = .ok (.ifCond .eq 7, 3) := by decide +kernel
theorem dX10_rowRefusal_24 : decode cX10_rowRefusal 24 = .ok (.iconst 0, 1) := by decide +kernel
theorem dX10_rowRefusal_25 : decode cX10_rowRefusal 25 = .ok (.goto 11, 3) := by decide +kernel
theorem dX10_rowRefusal_28 : decode cX10_rowRefusal 28 = .ok (.aload_n 0, 1) := by decide +kernel
theorem dX10_rowRefusal_29 : decode cX10_rowRefusal 29 = .ok (.getfield 10, 3) := by decide +kernel
theorem dX10_rowRefusal_32 : decode cX10_rowRefusal 32 = .ok (.iconst 1, 1) := by decide +kernel
theorem dX10_rowRefusal_33 : decode cX10_rowRefusal 33 = .ok (.invokevirtual 83, 3) := by decide +kernel
theorem dX10_rowRefusal_36 : decode cX10_rowRefusal 36 = .ok (.ireturn, 1) := by decide +kernel
set_option maxRecDepth 20000 in
theorem ggX10_placeRefusal_X10_rowRefusal : GoodIn wsX10_placeRefusal wsX10_rowRefusal := goodIn_r _ [7, 1, 2, 8, 9, 10, 11, 12, 13, 14, 15, 16, 17, 18, 19, 20, 21, 22, 23, 24, 25, 26, 27, 28, 29, 34, 35, 36, 37, 38, 39, 40, 41, 42, 43, 44, 45, 46, 47, 48, 49, 50] (by decide +kernel) (by decide +kernel)
set_option maxRecDepth 20000 in
theorem gX10_placeRefusal_X10_rowRefusal : GoodIn wsX10_placeRefusal (wsV RX10 106 RX10 yX10_rowRefusal wsX10_rowRefusal) := goodIn_app (goodIn_of _ (by decide +kernel)) ggX10_placeRefusal_X10_rowRefusal
set_option maxRecDepth 20000 in
theorem ggX10_placeRefusal_X6_isPlace : GoodIn wsX10_placeRefusal wsX6_isPlace := goodIn_r _ [33, 17, 18, 19, 11, 20, 21, 22, 9, 10, 12, 44, 45] (by decide +kernel) (by decide +kernel)
set_option maxRecDepth 20000 in
theorem gX10_placeRefusal_X6_isPlace : GoodIn wsX10_placeRefusal (wsV RX10 363 RX6 yX6_isPlace wsX6_isPlace) := goodIn_app (goodIn_of _ (by decide +kernel)) ggX10_placeRefusal_X6_isPlace
set_option maxRecDepth 20000 in
theorem ggX10_placeRefusal_X9_found : GoodIn wsX10_placeRefusal wsX9_found := goodIn_r _ [27, 28, 29, 46, 47, 48, 49, 50] (by decide +kernel) (by decide +kernel)
set_option maxRecDepth 20000 in
theorem gX10_placeRefusal_X9_found : GoodIn wsX10_placeRefusal (wsV RX10 83 RX9 yX9_found wsX9_found) := goodIn_app (goodIn_of _ (by decide +kernel)) ggX10_placeRefusal_X9_found
theorem dX10_placeRefusal_0 : decode cX10_placeRefusal 0 = .ok (.aload_n 0, 1) := by decide +kernel
theorem dX10_placeRefusal_1 : decode cX10_placeRefusal 1 = .ok (.iload_n 1, 1) := by decide +kernel
theorem dX10_placeRefusal_2 : decode cX10_placeRefusal 2 = .ok (.invokevirtual 106, 3) := by decide +kernel
theorem dX10_placeRefusal_5 : decode cX10_placeRefusal 5 = .ok (.istore_n 3, 1) := by decide +kernel
theorem dX10_placeRefusal_6 : decode cX10_placeRefusal 6 = .ok (.iload_n 3, 1) := by decide +kernel
theorem dX10_placeRefusal_7 : decode cX10_placeRefusal 7 = .ok (.ifCond .eq 5, 3) := by decide +kernel
theorem dX10_placeRefusal_10 : decode cX10_placeRefusal 10 = .ok (.iload_n 3, 1) := by decide +kernel
theorem dX10_placeRefusal_11 : decode cX10_placeRefusal 11 = .ok (.ireturn, 1) := by decide +kernel
theorem dX10_placeRefusal_12 : decode cX10_placeRefusal 12 = .ok (.aload_n 0, 1) := by decide +kernel
theorem dX10_placeRefusal_13 : decode cX10_placeRefusal 13 = .ok (.getfield 19, 3) := by decide +kernel
theorem dX10_placeRefusal_16 : decode cX10_placeRefusal 16 = .ok (.iload_n 1, 1) := by decide +kernel
theorem dX10_placeRefusal_17 : decode cX10_placeRefusal 17 = .ok (.iload_n 2, 1) := by decide +kernel
theorem dX10_placeRefusal_18 : decode cX10_placeRefusal 18 = .ok (.invokevirtual 363, 3) := by decide +kernel
theorem dX10_placeRefusal_21 : decode cX10_placeRefusal 21 = .ok (.ifCond .eq 7, 3) := by decide +kernel
theorem dX10_placeRefusal_24 : decode cX10_placeRefusal 24 = .ok (.iconst 0, 1) := by decide +kernel
theorem dX10_placeRefusal_25 : decode cX10_placeRefusal 25 = .ok (.goto 11, 3) := by decide +kernel
theorem dX10_placeRefusal_28 : decode cX10_placeRefusal 28 = .ok (.aload_n 0, 1) := by decide +kernel
theorem dX10_placeRefusal_29 : decode cX10_placeRefusal 29 = .ok (.getfield 10, 3) := by decide +kernel
theorem dX10_placeRefusal_32 : decode cX10_placeRefusal 32 = .ok (.iconst 2, 1) := by decide +kernel
theorem dX10_placeRefusal_33 : decode cX10_placeRefusal 33 = .ok (.invokevirtual 83, 3) := by decide +kernel
theorem dX10_placeRefusal_36 : decode cX10_placeRefusal 36 = .ok (.ireturn, 1) := by decide +kernel
set_option maxRecDepth 20000 in
theorem ggX10_textRefusal_X8_isNumber : GoodIn wsX10_textRefusal wsX8_isNumber := goodIn_r _ [7] (by decide +kernel) (by decide +kernel)
set_option maxRecDepth 20000 in
theorem gX10_textRefusal_X8_isNumber : GoodIn wsX10_textRefusal (wsV RX10 130 RX8 yX8_isNumber wsX8_isNumber) := goodIn_app (goodIn_of _ (by decide +kernel)) ggX10_textRefusal_X8_isNumber
set_option maxRecDepth 20000 in
theorem ggX10_textRefusal_X8_isThere : GoodIn wsX10_textRefusal wsX8_isThere := goodIn_r _ [11, 12, 13, 14, 6, 15, 16, 17, 4, 5, 7, 35, 36] (by decide +kernel) (by decide +kernel)
set_option maxRecDepth 20000 in
theorem gX10_textRefusal_X8_isThere : GoodIn wsX10_textRefusal (wsV RX10 364 RX8 yX8_isThere wsX8_isThere) := goodIn_app (goodIn_of _ (by decide +kernel)) ggX10_textRefusal_X8_isThere
set_option maxRecDepth 20000 in
theorem ggX10_textRefusal_X9_found : GoodIn wsX10_textRefusal wsX9_found := goodIn_r _ [22, 23, 24, 37, 38, 39, 40, 41] (by decide +kernel) (by decide +kernel)
set_option maxRecDepth 20000 in
theorem gX10_textRefusal_X9_found : GoodIn wsX10_textRefusal (wsV RX10 83 RX9 yX9_found wsX9_found) := goodIn_app (goodIn_of _ (by decide +kernel)) ggX10_textRefusal_X9_found
theorem dX10_textRefusal_0 : decode cX10_textRefusal 0 = .ok (.aload_n 0, 1) := by decide +kernel
theorem dX10_textRefusal_1 : decode cX10_textRefusal 1 = .ok (.getfield 26, 3) := by decide +kernel
theorem dX10_textRefusal_4 : decode cX10_textRefusal 4 = .ok (.iload_n 1, 1) := by decide +kernel
theorem dX10_textRefusal_5 : decode cX10_textRefusal 5 = .ok (.invokevirtual 130, 3) := by decide +kernel
theorem dX10_textRefusal_8 : decode cX10_textRefusal 8 = .ok (.ifCond .ne 5, 3) := by decide +kernel
theorem dX10_textRefusal_11 : decode cX10_textRefusal 11 = .ok (.iconst (-1), 1) := by decide +kernel
theorem dX10_textRefusal_12 : decode cX10_textRefusal 12 = .ok (.ireturn, 1) := by decide +kernel
theorem dX10_textRefusal_13 : decode cX10_textRefusal 13 = .ok (.aload_n 0, 1) := by decide +kernel
theorem dX10_textRefusal_14 : decode cX10_textRefusal 14 = .ok (.getfield 26, 3) := by decide +kernel
theorem dX10_textRefusal_17 : decode cX10_textRefusal 17 = .ok (.iload_n 1, 1) := by decide +kernel
theorem dX10_textRefusal_18 : decode cX10_textRefusal 18 = .ok (.invokevirtual 364, 3) := by decide +kernel
theorem dX10_textRefusal_21 : decode cX10_textRefusal 21 = .ok (.ifCond .eq 7, 3) := by decide +kernel
theorem dX10_textRefusal_24 : decode cX10_textRefusal 24 = .ok (.iconst 0, 1) := by decide +kernel
theorem dX10_textRefusal_25 : decode cX10_textRefusal 25 = .ok (.goto 11, 3) := by decide +kernel
theorem dX10_textRefusal_28 : decode cX10_textRefusal 28 = .ok (.aload_n 0, 1) := by decide +kernel
theorem dX10_textRefusal_29 : decode cX10_textRefusal 29 = .ok (.getfield 10, 3) := by decide +kernel
theorem dX10_textRefusal_32 : decode cX10_textRefusal 32 = .ok (.iconst 1, 1) := by decide +kernel
theorem dX10_textRefusal_33 : decode cX10_textRefusal 33 = .ok (.invokevirtual 83, 3) := by decide +kernel
theorem dX10_textRefusal_36 : decode cX10_textRefusal 36 = .ok (.ireturn, 1) := by decide +kernel
theorem dX10_isYesOrNo_0 : decode cX10_isYesOrNo 0 = .ok (.iload_n 0, 1) := by decide +kernel
theorem dX10_isYesOrNo_1 : decode cX10_isYesOrNo 1 = .ok (.ifCond .eq 8, 3) := by decide +kernel
theorem dX10_isYesOrNo_4 : decode cX10_isYesOrNo 4 = .ok (.iload_n 0, 1) := by decide +kernel
theorem dX10_isYesOrNo_5 : decode cX10_isYesOrNo 5 = .ok (.iconst 1, 1) := by decide +kernel
theorem dX10_isYesOrNo_6 : decode cX10_isYesOrNo 6 = .ok (.if_icmp .ne 7, 3) := by decide +kernel
theorem dX10_isYesOrNo_9 : decode cX10_isYesOrNo 9 = .ok (.iconst 1, 1) := by decide +kernel
theorem dX10_isYesOrNo_10 : decode cX10_isYesOrNo 10 = .ok (.goto 4, 3) := by decide +kernel
theorem dX10_isYesOrNo_13 : decode cX10_isYesOrNo 13 = .ok (.iconst 0, 1) := by decide +kernel
theorem dX10_isYesOrNo_14 : decode cX10_isYesOrNo 14 = .ok (.ireturn, 1) := by decide +kernel
theorem dX10_isFavours_0 : decode cX10_isFavours 0 = .ok (.iload_n 0, 1) := by decide +kernel
theorem dX10_isFavours_1 : decode cX10_isFavours 1 = .ok (.ifCond .lt 13, 3) := by decide +kernel
theorem dX10_isFavours_4 : decode cX10_isFavours 4 = .ok (.iload_n 0, 1) := by decide +kernel
theorem dX10_isFavours_5 : decode cX10_isFavours 5 = .ok (.bipush 99, 2) := by decide +kernel
theorem dX10_isFavours_7 : decode cX10_isFavours 7 = .ok (.if_icmp .gt 7, 3) := by decide +kernel
theorem dX10_isFavours_10 : decode cX10_isFavours 10 = .ok (.iconst 1, 1) := by decide +kernel
theorem dX10_isFavours_11 : decode cX10_isFavours 11 = .ok (.goto 4, 3) := by decide +kernel
theorem dX10_isFavours_14 : decode cX10_isFavours 14 = .ok (.iconst 0, 1) := by decide +kernel
theorem dX10_isFavours_15 : decode cX10_isFavours 15 = .ok (.ireturn, 1) := by decide +kernel
set_option maxRecDepth 20000 in
theorem ggX10_reachAll_X2_everyone : GoodIn wsX10_reachAll wsX2_everyone := goodIn_r _ [7, 8, 60, 61, 62, 63, 64, 65, 66, 67] (by decide +kernel) (by decide +kernel)
set_option maxRecDepth 20000 in
theorem gX10_reachAll_X2_everyone : GoodIn wsX10_reachAll (wsV RX10 201 RX2 yX2_everyone wsX2_everyone) := goodIn_app (goodIn_of _ (by decide +kernel)) ggX10_reachAll_X2_everyone
set_option maxRecDepth 20000 in
theorem ggX10_reachAll_X4_fill : GoodIn wsX10_reachAll wsX4_fill := goodIn_r _ [13, 14, 15, 16, 17, 18, 6, 19, 20, 21, 22, 23, 24, 25, 26, 27, 8, 28, 29, 30, 31, 32, 33, 34, 35, 36, 37, 38, 39, 40, 41, 42, 43, 44, 45, 46, 47, 48, 49, 68, 69, 60, 61, 62, 63, 64, 65, 66, 67] (by decide +kernel) (by decide +kernel)
set_option maxRecDepth 20000 in
theorem gX10_reachAll_X4_fill : GoodIn wsX10_reachAll (wsV RX10 286 RX4 yX4_fill wsX4_fill) := goodIn_app (goodIn_of _ (by decide +kernel)) ggX10_reachAll_X4_fill
theorem dX10_reachAll_0 : decode cX10_reachAll 0 = .ok (.aload_n 0, 1) := by decide +kernel
theorem dX10_reachAll_1 : decode cX10_reachAll 1 = .ok (.getfield 54, 3) := by decide +kernel
theorem dX10_reachAll_4 : decode cX10_reachAll 4 = .ok (.aload_n 0, 1) := by decide +kernel
theorem dX10_reachAll_5 : decode cX10_reachAll 5 = .ok (.getfield 40, 3) := by decide +kernel
theorem dX10_reachAll_8 : decode cX10_reachAll 8 = .ok (.aload_n 0, 1) := by decide +kernel
theorem dX10_reachAll_9 : decode cX10_reachAll 9 = .ok (.getfield 40, 3) := by decide +kernel
theorem dX10_reachAll_12 : decode cX10_reachAll 12 = .ok (.invokevirtual 201, 3) := by decide +kernel
theorem dX10_reachAll_15 : decode cX10_reachAll 15 = .ok (.invokevirtual 286, 3) := by decide +kernel
theorem dX10_reachAll_18 : decode cX10_reachAll 18 = .ok (.return_, 1) := by decide +kernel
set_option maxRecDepth 20000 in
theorem ggX10_getsOut_X4_fill : GoodIn wsX10_getsOut wsX4_fill := goodIn_r _ [7, 8, 9, 10, 11, 12, 13, 14, 15, 16, 17, 18, 19, 20, 21, 22, 23, 24, 25, 26, 27, 28, 29, 30, 31, 32, 33, 34, 35, 36, 37, 38, 39, 40, 41, 42, 43, 44, 45, 64, 65, 66, 67, 68, 69, 70, 71, 72, 73] (by decide +kernel) (by decide +kernel)
set_option maxRecDepth 20000 in
theorem gX10_getsOut_X4_fill : GoodIn wsX10_getsOut (wsV RX10 286 RX4 yX4_fill wsX4_fill) := goodIn_app (goodIn_of _ (by decide +kernel)) ggX10_getsOut_X4_fill
set_option maxRecDepth 20000 in
theorem ggX10_getsOut_X4_has : GoodIn wsX10_getsOut wsX4_has := goodIn_r _ [49, 50, 51, 52, 6, 53, 8, 9, 64, 65] (by decide +kernel) (by decide +kernel)
set_option maxRecDepth 20000 in
theorem gX10_getsOut_X4_has : GoodIn wsX10_getsOut (wsV RX10 365 RX4 yX4_has wsX4_has) := goodIn_app (goodIn_of _ (by decide +kernel)) ggX10_getsOut_X4_has
theorem dX10_getsOut_0 : decode cX10_getsOut 0 = .ok (.aload_n 0, 1) := by decide +kernel
theorem dX10_getsOut_1 : decode cX10_getsOut 1 = .ok (.getfield 54, 3) := by decide +kernel
theorem dX10_getsOut_4 : decode cX10_getsOut 4 = .ok (.aload_n 0, 1) := by decide +kernel
theorem dX10_getsOut_5 : decode cX10_getsOut 5 = .ok (.getfield 40, 3) := by decide +kernel
theorem dX10_getsOut_8 : decode cX10_getsOut 8 = .ok (.iload_n 1, 1) := by decide +kernel
theorem dX10_getsOut_9 : decode cX10_getsOut 9 = .ok (.invokevirtual 286, 3) := by decide +kernel
theorem dX10_getsOut_12 : decode cX10_getsOut 12 = .ok (.aload_n 0, 1) := by decide +kernel
theorem dX10_getsOut_13 : decode cX10_getsOut 13 = .ok (.getfield 54, 3) := by decide +kernel
theorem dX10_getsOut_16 : decode cX10_getsOut 16 = .ok (.iload_n 1, 1) := by decide +kernel
theorem dX10_getsOut_17 : decode cX10_getsOut 17 = .ok (.invokevirtual 365, 3) := by decide +kernel
theorem dX10_getsOut_20 : decode cX10_getsOut 20 = .ok (.ireturn, 1) := by decide +kernel
set_option maxRecDepth 20000 in
theorem ggX10_fitsNight_X4_has : GoodIn wsX10_fitsNight wsX4_has := goodIn_r _ [7, 8, 9, 10, 6, 11, 12, 13, 33, 34] (by decide +kernel) (by decide +kernel)
set_option maxRecDepth 20000 in
theorem gX10_fitsNight_X4_has : GoodIn wsX10_fitsNight (wsV RX10 365 RX4 yX4_has wsX4_has) := goodIn_app (goodIn_of _ (by decide +kernel)) ggX10_fitsNight_X4_has
set_option maxRecDepth 20000 in
theorem ggX10_fitsNight_X4_favoursOf : GoodIn wsX10_fitsNight wsX4_favoursOf := goodIn_r _ [11, 12, 13, 33, 34] (by decide +kernel) (by decide +kernel)
set_option maxRecDepth 20000 in
theorem gX10_fitsNight_X4_favoursOf : GoodIn wsX10_fitsNight (wsV RX10 248 RX4 yX4_favoursOf wsX4_favoursOf) := goodIn_app (goodIn_of _ (by decide +kernel)) ggX10_fitsNight_X4_favoursOf
set_option maxRecDepth 20000 in
theorem ggX10_fitsNight_X7_fit : GoodIn wsX10_fitsNight wsX7_fit := goodIn_r _ [19, 20, 21, 22, 35, 36, 37] (by decide +kernel) (by decide +kernel)
set_option maxRecDepth 20000 in
theorem gX10_fitsNight_X7_fit : GoodIn wsX10_fitsNight (wsV RX10 368 RX7 yX7_fit wsX7_fit) := goodIn_app (goodIn_of _ (by decide +kernel)) ggX10_fitsNight_X7_fit
theorem dX10_fitsNight_0 : decode cX10_fitsNight 0 = .ok (.aload_n 0, 1) := by decide +kernel
theorem dX10_fitsNight_1 : decode cX10_fitsNight 1 = .ok (.getfield 54, 3) := by decide +kernel
theorem dX10_fitsNight_4 : decode cX10_fitsNight 4 = .ok (.iload_n 1, 1) := by decide +kernel
theorem dX10_fitsNight_5 : decode cX10_fitsNight 5 = .ok (.invokevirtual 365, 3) := by decide +kernel
theorem dX10_fitsNight_8 : decode cX10_fitsNight 8 = .ok (.ifCond .eq 30, 3) := by decide +kernel
theorem dX10_fitsNight_11 : decode cX10_fitsNight 11 = .ok (.aload_n 0, 1) := by decide +kernel
theorem dX10_fitsNight_12 : decode cX10_fitsNight 12 = .ok (.getfield 54, 3) := by decide +kernel
theorem dX10_fitsNight_15 : decode cX10_fitsNight 15 = .ok (.iload_n 1, 1) := by decide +kernel
theorem dX10_fitsNight_16 : decode cX10_fitsNight 16 = .ok (.invokevirtual 248, 3) := by decide +kernel
theorem dX10_fitsNight_19 : decode cX10_fitsNight 19 = .ok (.iload_n 2, 1) := by decide +kernel
theorem dX10_fitsNight_20 : decode cX10_fitsNight 20 = .ok (.if_icmp .gt 18, 3) := by decide +kernel
theorem dX10_fitsNight_23 : decode cX10_fitsNight 23 = .ok (.aload_n 0, 1) := by decide +kernel
theorem dX10_fitsNight_24 : decode cX10_fitsNight 24 = .ok (.getfield 75, 3) := by decide +kernel
theorem dX10_fitsNight_27 : decode cX10_fitsNight 27 = .ok (.iload_n 1, 1) := by decide +kernel
theorem dX10_fitsNight_28 : decode cX10_fitsNight 28 = .ok (.invokevirtual 368, 3) := by decide +kernel
theorem dX10_fitsNight_31 : decode cX10_fitsNight 31 = .ok (.ifCond .eq 7, 3) := by decide +kernel
theorem dX10_fitsNight_34 : decode cX10_fitsNight 34 = .ok (.iconst 1, 1) := by decide +kernel
theorem dX10_fitsNight_35 : decode cX10_fitsNight 35 = .ok (.goto 4, 3) := by decide +kernel
theorem dX10_fitsNight_38 : decode cX10_fitsNight 38 = .ok (.iconst 0, 1) := by decide +kernel
theorem dX10_fitsNight_39 : decode cX10_fitsNight 39 = .ok (.ireturn, 1) := by decide +kernel
set_option maxRecDepth 20000 in
theorem ggX10_tellsUnlikeCells_X6_sizeOf : GoodIn wsX10_tellsUnlikeCells wsX6_sizeOf := goodIn_r _ [7, 8, 9, 10, 11, 6, 12, 39, 40] (by decide +kernel) (by decide +kernel)
set_option maxRecDepth 20000 in
theorem gX10_tellsUnlikeCells_X6_sizeOf : GoodIn wsX10_tellsUnlikeCells (wsV RX10 123 RX6 yX6_sizeOf wsX6_sizeOf) := goodIn_app (goodIn_of _ (by decide +kernel)) ggX10_tellsUnlikeCells_X6_sizeOf
set_option maxRecDepth 20000 in
theorem ggX10_tellsUnlikeCells_X6_get : GoodIn wsX10_tellsUnlikeCells wsX6_get := goodIn_r _ [16, 17, 18, 19, 20, 6, 21, 22, 4, 5, 7, 8, 9, 10, 11, 12, 39, 40] (by decide +kernel) (by decide +kernel)
set_option maxRecDepth 20000 in
theorem gX10_tellsUnlikeCells_X6_get : GoodIn wsX10_tellsUnlikeCells (wsV RX10 95 RX6 yX6_get wsX6_get) := goodIn_app (goodIn_of _ (by decide +kernel)) ggX10_tellsUnlikeCells_X6_get
set_option maxRecDepth 20000 in
theorem ggX10_tellsUnlikeCells_X2_isCell : GoodIn wsX10_tellsUnlikeCells wsX2_isCell := goodIn_r _ [27, 28, 41, 42, 43, 44, 45, 46, 47, 48] (by decide +kernel) (by decide +kernel)
set_option maxRecDepth 20000 in
theorem gX10_tellsUnlikeCells_X2_isCell : GoodIn wsX10_tellsUnlikeCells (wsV RX10 165 RX2 yX2_isCell wsX2_isCell) := goodIn_app (goodIn_of _ (by decide +kernel)) ggX10_tellsUnlikeCells_X2_isCell
theorem dX10_tellsUnlikeCells_0 : decode cX10_tellsUnlikeCells 0 = .ok (.iconst 0, 1) := by decide +kernel
theorem dX10_tellsUnlikeCells_1 : decode cX10_tellsUnlikeCells 1 = .ok (.istore_n 2, 1) := by decide +kernel
theorem dX10_tellsUnlikeCells_2 : decode cX10_tellsUnlikeCells 2 = .ok (.iconst 0, 1) := by decide +kernel
theorem dX10_tellsUnlikeCells_3 : decode cX10_tellsUnlikeCells 3 = .ok (.istore_n 3, 1) := by decide +kernel
theorem dX10_tellsUnlikeCells_4 : decode cX10_tellsUnlikeCells 4 = .ok (.iload_n 3, 1) := by decide +kernel
theorem dX10_tellsUnlikeCells_5 : decode cX10_tellsUnlikeCells 5 = .ok (.aload_n 0, 1) := by decide +kernel
theorem dX10_tellsUnlikeCells_6 : decode cX10_tellsUnlikeCells 6 = .ok (.getfield 19, 3) := by decide +kernel
theorem dX10_tellsUnlikeCells_9 : decode cX10_tellsUnlikeCells 9 = .ok (.iload_n 1, 1) := by decide +kernel
theorem dX10_tellsUnlikeCells_10 : decode cX10_tellsUnlikeCells 10 = .ok (.invokevirtual 123, 3) := by decide +kernel
theorem dX10_tellsUnlikeCells_13 : decode cX10_tellsUnlikeCells 13 = .ok (.if_icmp .ge 51, 3) := by decide +kernel
theorem dX10_tellsUnlikeCells_16 : decode cX10_tellsUnlikeCells 16 = .ok (.aload_n 0, 1) := by decide +kernel
theorem dX10_tellsUnlikeCells_17 : decode cX10_tellsUnlikeCells 17 = .ok (.getfield 19, 3) := by decide +kernel
theorem dX10_tellsUnlikeCells_20 : decode cX10_tellsUnlikeCells 20 = .ok (.iload_n 1, 1) := by decide +kernel
theorem dX10_tellsUnlikeCells_21 : decode cX10_tellsUnlikeCells 21 = .ok (.iload_n 3, 1) := by decide +kernel
theorem dX10_tellsUnlikeCells_22 : decode cX10_tellsUnlikeCells 22 = .ok (.invokevirtual 95, 3) := by decide +kernel
theorem dX10_tellsUnlikeCells_25 : decode cX10_tellsUnlikeCells 25 = .ok (.istore 4, 2) := by decide +kernel
theorem dX10_tellsUnlikeCells_27 : decode cX10_tellsUnlikeCells 27 = .ok (.aload_n 0, 1) := by decide +kernel
theorem dX10_tellsUnlikeCells_28 : decode cX10_tellsUnlikeCells 28 = .ok (.getfield 40, 3) := by decide +kernel
theorem dX10_tellsUnlikeCells_31 : decode cX10_tellsUnlikeCells 31 = .ok (.iload 4, 2) := by decide +kernel
theorem dX10_tellsUnlikeCells_33 : decode cX10_tellsUnlikeCells 33 = .ok (.invokevirtual 165, 3) := by decide +kernel
theorem dX10_tellsUnlikeCells_36 : decode cX10_tellsUnlikeCells 36 = .ok (.ifCond .eq 13, 3) := by decide +kernel
theorem dX10_tellsUnlikeCells_39 : decode cX10_tellsUnlikeCells 39 = .ok (.iload_n 2, 1) := by decide +kernel
theorem dX10_tellsUnlikeCells_40 : decode cX10_tellsUnlikeCells 40 = .ok (.iload 4, 2) := by decide +kernel
theorem dX10_tellsUnlikeCells_42 : decode cX10_tellsUnlikeCells 42 = .ok (.ishr, 1) := by decide +kernel
theorem dX10_tellsUnlikeCells_43 : decode cX10_tellsUnlikeCells 43 = .ok (.iconst 1, 1) := by decide +kernel
theorem dX10_tellsUnlikeCells_44 : decode cX10_tellsUnlikeCells 44 = .ok (.iand, 1) := by decide +kernel
theorem dX10_tellsUnlikeCells_45 : decode cX10_tellsUnlikeCells 45 = .ok (.iconst 1, 1) := by decide +kernel
theorem dX10_tellsUnlikeCells_46 : decode cX10_tellsUnlikeCells 46 = .ok (.if_icmp .ne 5, 3) := by decide +kernel
theorem dX10_tellsUnlikeCells_49 : decode cX10_tellsUnlikeCells 49 = .ok (.iconst 0, 1) := by decide +kernel
theorem dX10_tellsUnlikeCells_50 : decode cX10_tellsUnlikeCells 50 = .ok (.ireturn, 1) := by decide +kernel
theorem dX10_tellsUnlikeCells_51 : decode cX10_tellsUnlikeCells 51 = .ok (.iload_n 2, 1) := by decide +kernel
theorem dX10_tellsUnlikeCells_52 : decode cX10_tellsUnlikeCells 52 = .ok (.iconst 1, 1) := by decide +kernel
theorem dX10_tellsUnlikeCells_53 : decode cX10_tellsUnlikeCells 53 = .ok (.iload 4, 2) := by decide +kernel
theorem dX10_tellsUnlikeCells_55 : decode cX10_tellsUnlikeCells 55 = .ok (.ishl, 1) := by decide +kernel
theorem dX10_tellsUnlikeCells_56 : decode cX10_tellsUnlikeCells 56 = .ok (.ior, 1) := by decide +kernel
theorem dX10_tellsUnlikeCells_57 : decode cX10_tellsUnlikeCells 57 = .ok (.istore_n 2, 1) := by decide +kernel
theorem dX10_tellsUnlikeCells_58 : decode cX10_tellsUnlikeCells 58 = .ok (.iinc 3 1, 3) := by decide +kernel
theorem dX10_tellsUnlikeCells_61 : decode cX10_tellsUnlikeCells 61 = .ok (.goto (-57), 3) := by decide +kernel
theorem dX10_tellsUnlikeCells_64 : decode cX10_tellsUnlikeCells 64 = .ok (.iconst 1, 1) := by decide +kernel
theorem dX10_tellsUnlikeCells_65 : decode cX10_tellsUnlikeCells 65 = .ok (.ireturn, 1) := by decide +kernel
set_option maxRecDepth 20000 in
theorem ggX10_letRowOut_X6_sizeOf : GoodIn wsX10_letRowOut wsX6_sizeOf := goodIn_r _ [8, 9, 10, 11, 12, 7, 13, 80, 81] (by decide +kernel) (by decide +kernel)
set_option maxRecDepth 20000 in
theorem gX10_letRowOut_X6_sizeOf : GoodIn wsX10_letRowOut (wsV RX10 123 RX6 yX6_sizeOf wsX6_sizeOf) := goodIn_app (goodIn_of _ (by decide +kernel)) ggX10_letRowOut_X6_sizeOf
set_option maxRecDepth 20000 in
theorem ggX10_letRowOut_X6_get : GoodIn wsX10_letRowOut wsX6_get := goodIn_r _ [17, 18, 19, 20, 21, 7, 22, 23, 5, 6, 8, 9, 10, 11, 12, 13, 80, 81] (by decide +kernel) (by decide +kernel)
set_option maxRecDepth 20000 in
theorem gX10_letRowOut_X6_get : GoodIn wsX10_letRowOut (wsV RX10 95 RX6 yX6_get wsX6_get) := goodIn_app (goodIn_of _ (by decide +kernel)) ggX10_letRowOut_X6_get
set_option maxRecDepth 20000 in
theorem ggX10_letRowOut_X2_everyone : GoodIn wsX10_letRowOut wsX2_everyone := goodIn_r _ [28, 29, 82, 83, 84, 85, 86, 87, 88, 89] (by decide +kernel) (by decide +kernel)
set_option maxRecDepth 20000 in
theorem gX10_letRowOut_X2_everyone : GoodIn wsX10_letRowOut (wsV RX10 201 RX2 yX2_everyone wsX2_everyone) := goodIn_app (goodIn_of _ (by decide +kernel)) ggX10_letRowOut_X2_everyone
set_option maxRecDepth 20000 in
theorem ggX10_letRowOut_X2_favoursFor : GoodIn wsX10_letRowOut wsX2_favoursFor := goodIn_r _ [33, 34, 35, 36, 37, 38, 39, 40, 27, 41, 29, 42, 43, 44, 45, 46, 47, 48, 49, 50, 51, 52, 53, 54, 55, 56, 57, 58, 59, 60, 61, 62, 63, 82, 83, 84, 85, 86, 87, 88, 89] (by decide +kernel) (by decide +kernel)
set_option maxRecDepth 20000 in
theorem gX10_letRowOut_X2_favoursFor : GoodIn wsX10_letRowOut (wsV RX10 204 RX2 yX2_favoursFor wsX2_favoursFor) := goodIn_app (goodIn_of _ (by decide +kernel)) ggX10_letRowOut_X2_favoursFor
set_option maxRecDepth 20000 in
theorem ggX10_letRowOut_X9_tell : GoodIn wsX10_letRowOut wsX9_tell := goodIn_r _ [68, 69, 90, 91, 92, 93, 94] (by decide +kernel) (by decide +kernel)
set_option maxRecDepth 20000 in
theorem gX10_letRowOut_X9_tell : GoodIn wsX10_letRowOut (wsV RX10 98 RX9 yX9_tell wsX9_tell) := goodIn_app (goodIn_of _ (by decide +kernel)) ggX10_letRowOut_X9_tell
theorem dX10_letRowOut_0 : decode cX10_letRowOut 0 = .ok (.iconst 0, 1) := by decide +kernel
theorem dX10_letRowOut_1 : decode cX10_letRowOut 1 = .ok (.istore_n 2, 1) := by decide +kernel
theorem dX10_letRowOut_2 : decode cX10_letRowOut 2 = .ok (.iconst 0, 1) := by decide +kernel
theorem dX10_letRowOut_3 : decode cX10_letRowOut 3 = .ok (.istore_n 3, 1) := by decide +kernel
theorem dX10_letRowOut_4 : decode cX10_letRowOut 4 = .ok (.iconst 0, 1) := by decide +kernel
theorem dX10_letRowOut_5 : decode cX10_letRowOut 5 = .ok (.istore 4, 2) := by decide +kernel
theorem dX10_letRowOut_7 : decode cX10_letRowOut 7 = .ok (.iconst 0, 1) := by decide +kernel
theorem dX10_letRowOut_8 : decode cX10_letRowOut 8 = .ok (.istore 5, 2) := by decide +kernel
theorem dX10_letRowOut_10 : decode cX10_letRowOut 10 = .ok (.iload 5, 2) := by decide +kernel
theorem dX10_letRowOut_12 : decode cX10_letRowOut 12 = .ok (.aload_n 0, 1) := by decide +kernel
theorem dX10_letRowOut_13 : decode cX10_letRowOut 13 = .ok (.getfield 19, 3) := by decide +kernel
theorem dX10_letRowOut_16 : decode cX10_letRowOut 16 = .ok (.iload_n 1, 1) := by decide +kernel
theorem dX10_letRowOut_17 : decode cX10_letRowOut 17 = .ok (.invokevirtual 123, 3) := by decide +kernel
theorem dX10_letRowOut_20 : decode cX10_letRowOut 20 = .ok (.if_icmp .ge 63, 3) := by decide +kernel
theorem dX10_letRowOut_23 : decode cX10_letRowOut 23 = .ok (.aload_n 0, 1) := by decide +kernel
theorem dX10_letRowOut_24 : decode cX10_letRowOut 24 = .ok (.getfield 19, 3) := by decide +kernel
theorem dX10_letRowOut_27 : decode cX10_letRowOut 27 = .ok (.iload_n 1, 1) := by decide +kernel
theorem dX10_letRowOut_28 : decode cX10_letRowOut 28 = .ok (.iload 5, 2) := by decide +kernel
theorem dX10_letRowOut_30 : decode cX10_letRowOut 30 = .ok (.invokevirtual 95, 3) := by decide +kernel
theorem dX10_letRowOut_33 : decode cX10_letRowOut 33 = .ok (.istore 6, 2) := by decide +kernel
theorem dX10_letRowOut_35 : decode cX10_letRowOut 35 = .ok (.aload_n 0, 1) := by decide +kernel
theorem dX10_letRowOut_36 : decode cX10_letRowOut 36 = .ok (.getfield 40, 3) := by decide +kernel
theorem dX10_letRowOut_39 : decode cX10_letRowOut 39 = .ok (.iload 6, 2) := by decide +kernel
theorem dX10_letRowOut_41 : decode cX10_letRowOut 41 = .ok (.iload_n 2, 1) := by decide +kernel
theorem dX10_letRowOut_42 : decode cX10_letRowOut 42 = .ok (.aload_n 0, 1) := by decide +kernel
theorem dX10_letRowOut_43 : decode cX10_letRowOut 43 = .ok (.getfield 40, 3) := by decide +kernel
theorem dX10_letRowOut_46 : decode cX10_letRowOut 46 = .ok (.invokevirtual 201, 3) := by decide +kernel
theorem dX10_letRowOut_49 : decode cX10_letRowOut 49 = .ok (.invokevirtual 204, 3) := by decide +kernel
theorem dX10_letRowOut_52 : decode cX10_letRowOut 52 = .ok (.istore 7, 2) := by decide +kernel
theorem dX10_letRowOut_54 : decode cX10_letRowOut 54 = .ok (.iload 7, 2) := by decide +kernel
theorem dX10_letRowOut_56 : decode cX10_letRowOut 56 = .ok (.ifCond .ge 6, 3) := by decide +kernel
theorem dX10_letRowOut_59 : decode cX10_letRowOut 59 = .ok (.goto 24, 3) := by decide +kernel
theorem dX10_letRowOut_62 : decode cX10_letRowOut 62 = .ok (.iload_n 2, 1) := by decide +kernel
theorem dX10_letRowOut_63 : decode cX10_letRowOut 63 = .ok (.iconst 1, 1) := by decide +kernel
theorem dX10_letRowOut_64 : decode cX10_letRowOut 64 = .ok (.iload 6, 2) := by decide +kernel
theorem dX10_letRowOut_66 : decode cX10_letRowOut 66 = .ok (.ishl, 1) := by decide +kernel
theorem dX10_letRowOut_67 : decode cX10_letRowOut 67 = .ok (.ior, 1) := by decide +kernel
theorem dX10_letRowOut_68 : decode cX10_letRowOut 68 = .ok (.istore_n 2, 1) := by decide +kernel
theorem dX10_letRowOut_69 : decode cX10_letRowOut 69 = .ok (.iload_n 3, 1) := by decide +kernel
theorem dX10_letRowOut_70 : decode cX10_letRowOut 70 = .ok (.iload 7, 2) := by decide +kernel
theorem dX10_letRowOut_72 : decode cX10_letRowOut 72 = .ok (.iadd, 1) := by decide +kernel
theorem dX10_letRowOut_73 : decode cX10_letRowOut 73 = .ok (.istore_n 3, 1) := by decide +kernel
theorem dX10_letRowOut_74 : decode cX10_letRowOut 74 = .ok (.iinc 4 1, 3) := by decide +kernel
theorem dX10_letRowOut_77 : decode cX10_letRowOut 77 = .ok (.iinc 5 1, 3) := by decide +kernel
theorem dX10_letRowOut_80 : decode cX10_letRowOut 80 = .ok (.goto (-70), 3) := by decide +kernel
theorem dX10_letRowOut_83 : decode cX10_letRowOut 83 = .ok (.aload_n 0, 1) := by decide +kernel
theorem dX10_letRowOut_84 : decode cX10_letRowOut 84 = .ok (.getfield 10, 3) := by decide +kernel
theorem dX10_letRowOut_87 : decode cX10_letRowOut 87 = .ok (.iload_n 3, 1) := by decide +kernel
theorem dX10_letRowOut_88 : decode cX10_letRowOut 88 = .ok (.invokevirtual 98, 3) := by decide +kernel
theorem dX10_letRowOut_91 : decode cX10_letRowOut 91 = .ok (.iload 4, 2) := by decide +kernel
theorem dX10_letRowOut_93 : decode cX10_letRowOut 93 = .ok (.ireturn, 1) := by decide +kernel
theorem dJ6_bitCount_0f7a4_0 : decode cJ6_bitCount_0f7a4 0 = .ok (.iload_n 0, 1) := by decide +kernel
theorem dJ6_bitCount_0f7a4_1 : decode cJ6_bitCount_0f7a4 1 = .ok (.iload_n 0, 1) := by decide +kernel
theorem dJ6_bitCount_0f7a4_2 : decode cJ6_bitCount_0f7a4 2 = .ok (.iconst 1, 1) := by decide +kernel
theorem dJ6_bitCount_0f7a4_3 : decode cJ6_bitCount_0f7a4 3 = .ok (.iushr, 1) := by decide +kernel
theorem dJ6_bitCount_0f7a4_4 : decode cJ6_bitCount_0f7a4 4 = .ok (.ldc_w 265, 3) := by decide +kernel
theorem dJ6_bitCount_0f7a4_7 : decode cJ6_bitCount_0f7a4 7 = .ok (.iand, 1) := by decide +kernel
theorem dJ6_bitCount_0f7a4_8 : decode cJ6_bitCount_0f7a4 8 = .ok (.isub, 1) := by decide +kernel
theorem dJ6_bitCount_0f7a4_9 : decode cJ6_bitCount_0f7a4 9 = .ok (.istore_n 0, 1) := by decide +kernel
theorem dJ6_bitCount_0f7a4_10 : decode cJ6_bitCount_0f7a4 10 = .ok (.iload_n 0, 1) := by decide +kernel
theorem dJ6_bitCount_0f7a4_11 : decode cJ6_bitCount_0f7a4 11 = .ok (.ldc_w 266, 3) := by decide +kernel
theorem dJ6_bitCount_0f7a4_14 : decode cJ6_bitCount_0f7a4 14 = .ok (.iand, 1) := by decide +kernel
theorem dJ6_bitCount_0f7a4_15 : decode cJ6_bitCount_0f7a4 15 = .ok (.iload_n 0, 1) := by decide +kernel
theorem dJ6_bitCount_0f7a4_16 : decode cJ6_bitCount_0f7a4 16 = .ok (.iconst 2, 1) := by decide +kernel
theorem dJ6_bitCount_0f7a4_17 : decode cJ6_bitCount_0f7a4 17 = .ok (.iushr, 1) := by decide +kernel
theorem dJ6_bitCount_0f7a4_18 : decode cJ6_bitCount_0f7a4 18 = .ok (.ldc_w 266, 3) := by decide +kernel
theorem dJ6_bitCount_0f7a4_21 : decode cJ6_bitCount_0f7a4 21 = .ok (.iand, 1) := by decide +kernel
theorem dJ6_bitCount_0f7a4_22 : decode cJ6_bitCount_0f7a4 22 = .ok (.iadd, 1) := by decide +kernel
theorem dJ6_bitCount_0f7a4_23 : decode cJ6_bitCount_0f7a4 23 = .ok (.istore_n 0, 1) := by decide +kernel
theorem dJ6_bitCount_0f7a4_24 : decode cJ6_bitCount_0f7a4 24 = .ok (.iload_n 0, 1) := by decide +kernel
theorem dJ6_bitCount_0f7a4_25 : decode cJ6_bitCount_0f7a4 25 = .ok (.iload_n 0, 1) := by decide +kernel
theorem dJ6_bitCount_0f7a4_26 : decode cJ6_bitCount_0f7a4 26 = .ok (.iconst 4, 1) := by decide +kernel
theorem dJ6_bitCount_0f7a4_27 : decode cJ6_bitCount_0f7a4 27 = .ok (.iushr, 1) := by decide +kernel
theorem dJ6_bitCount_0f7a4_28 : decode cJ6_bitCount_0f7a4 28 = .ok (.iadd, 1) := by decide +kernel
theorem dJ6_bitCount_0f7a4_29 : decode cJ6_bitCount_0f7a4 29 = .ok (.ldc_w 267, 3) := by decide +kernel
theorem dJ6_bitCount_0f7a4_32 : decode cJ6_bitCount_0f7a4 32 = .ok (.iand, 1) := by decide +kernel
theorem dJ6_bitCount_0f7a4_33 : decode cJ6_bitCount_0f7a4 33 = .ok (.istore_n 0, 1) := by decide +kernel
theorem dJ6_bitCount_0f7a4_34 : decode cJ6_bitCount_0f7a4 34 = .ok (.iload_n 0, 1) := by decide +kernel
theorem dJ6_bitCount_0f7a4_35 : decode cJ6_bitCount_0f7a4 35 = .ok (.iload_n 0, 1) := by decide +kernel
theorem dJ6_bitCount_0f7a4_36 : decode cJ6_bitCount_0f7a4 36 = .ok (.bipush 8, 2) := by decide +kernel
theorem dJ6_bitCount_0f7a4_38 : decode cJ6_bitCount_0f7a4 38 = .ok (.iushr, 1) := by decide +kernel
theorem dJ6_bitCount_0f7a4_39 : decode cJ6_bitCount_0f7a4 39 = .ok (.iadd, 1) := by decide +kernel
theorem dJ6_bitCount_0f7a4_40 : decode cJ6_bitCount_0f7a4 40 = .ok (.istore_n 0, 1) := by decide +kernel
theorem dJ6_bitCount_0f7a4_41 : decode cJ6_bitCount_0f7a4 41 = .ok (.iload_n 0, 1) := by decide +kernel
theorem dJ6_bitCount_0f7a4_42 : decode cJ6_bitCount_0f7a4 42 = .ok (.iload_n 0, 1) := by decide +kernel
theorem dJ6_bitCount_0f7a4_43 : decode cJ6_bitCount_0f7a4 43 = .ok (.bipush 16, 2) := by decide +kernel
theorem dJ6_bitCount_0f7a4_45 : decode cJ6_bitCount_0f7a4 45 = .ok (.iushr, 1) := by decide +kernel
theorem dJ6_bitCount_0f7a4_46 : decode cJ6_bitCount_0f7a4 46 = .ok (.iadd, 1) := by decide +kernel
theorem dJ6_bitCount_0f7a4_47 : decode cJ6_bitCount_0f7a4 47 = .ok (.istore_n 0, 1) := by decide +kernel
theorem dJ6_bitCount_0f7a4_48 : decode cJ6_bitCount_0f7a4 48 = .ok (.iload_n 0, 1) := by decide +kernel
theorem dJ6_bitCount_0f7a4_49 : decode cJ6_bitCount_0f7a4 49 = .ok (.bipush 63, 2) := by decide +kernel
theorem dJ6_bitCount_0f7a4_51 : decode cJ6_bitCount_0f7a4 51 = .ok (.iand, 1) := by decide +kernel
theorem dJ6_bitCount_0f7a4_52 : decode cJ6_bitCount_0f7a4 52 = .ok (.ireturn, 1) := by decide +kernel
set_option maxRecDepth 20000 in
theorem ggJ0_length_8abf5_J0_coder_7d493 : GoodIn wsJ0_length_8abf5 wsJ0_coder_7d493 := goodIn_r _ [6, 7, 8] (by decide +kernel) (by decide +kernel)
set_option maxRecDepth 20000 in
theorem gJ0_length_8abf5_J0_coder_7d493 : GoodIn wsJ0_length_8abf5 (wsV RJ0 335 RJ0 yJ0_coder_7d493 wsJ0_coder_7d493) := goodIn_app (goodIn_of _ (by decide +kernel)) ggJ0_length_8abf5_J0_coder_7d493
theorem dJ0_length_8abf5_0 : decode cJ0_length_8abf5 0 = .ok (.aload_n 0, 1) := by decide +kernel
theorem dJ0_length_8abf5_1 : decode cJ0_length_8abf5 1 = .ok (.getfield 9, 3) := by decide +kernel
theorem dJ0_length_8abf5_4 : decode cJ0_length_8abf5 4 = .ok (.arraylength, 1) := by decide +kernel
theorem dJ0_length_8abf5_5 : decode cJ0_length_8abf5 5 = .ok (.aload_n 0, 1) := by decide +kernel
theorem dJ0_length_8abf5_6 : decode cJ0_length_8abf5 6 = .ok (.invokevirtual 335, 3) := by decide +kernel
theorem dJ0_length_8abf5_9 : decode cJ0_length_8abf5 9 = .ok (.ishr, 1) := by decide +kernel
theorem dJ0_length_8abf5_10 : decode cJ0_length_8abf5 10 = .ok (.ireturn, 1) := by decide +kernel
theorem dJ0_isEmpty_aae02_0 : decode cJ0_isEmpty_aae02 0 = .ok (.aload_n 0, 1) := by decide +kernel
theorem dJ0_isEmpty_aae02_1 : decode cJ0_isEmpty_aae02 1 = .ok (.getfield 9, 3) := by decide +kernel
theorem dJ0_isEmpty_aae02_4 : decode cJ0_isEmpty_aae02 4 = .ok (.arraylength, 1) := by decide +kernel
theorem dJ0_isEmpty_aae02_5 : decode cJ0_isEmpty_aae02 5 = .ok (.ifCond .ne 7, 3) := by decide +kernel
theorem dJ0_isEmpty_aae02_8 : decode cJ0_isEmpty_aae02 8 = .ok (.iconst 1, 1) := by decide +kernel
theorem dJ0_isEmpty_aae02_9 : decode cJ0_isEmpty_aae02 9 = .ok (.goto 4, 3) := by decide +kernel
theorem dJ0_isEmpty_aae02_12 : decode cJ0_isEmpty_aae02 12 = .ok (.iconst 0, 1) := by decide +kernel
theorem dJ0_isEmpty_aae02_13 : decode cJ0_isEmpty_aae02 13 = .ok (.ireturn, 1) := by decide +kernel
set_option maxRecDepth 20000 in
theorem ggJ0_charAt_5068e_J0_isLatin1_aae02 : GoodIn wsJ0_charAt_5068e wsJ0_isLatin1_aae02 := goodIn_r _ [6, 7, 8] (by decide +kernel) (by decide +kernel)
set_option maxRecDepth 20000 in
theorem gJ0_charAt_5068e_J0_isLatin1_aae02 : GoodIn wsJ0_charAt_5068e (wsV RJ0 492 RJ0 yJ0_isLatin1_aae02 wsJ0_isLatin1_aae02) := goodIn_app (goodIn_of _ (by decide +kernel)) ggJ0_charAt_5068e_J0_isLatin1_aae02
set_option maxRecDepth 20000 in
theorem ggJ0_charAt_5068e_J1_charAt_3b067 : GoodIn wsJ0_charAt_5068e wsJ1_charAt_3b067 := goodIn_r _ [12, 13, 14, 5, 15, 16, 17, 18, 19, 20] (by decide +kernel) (by decide +kernel)
set_option maxRecDepth 20000 in
theorem gJ0_charAt_5068e_J1_charAt_3b067 : GoodIn wsJ0_charAt_5068e (va_wsS RJ0 495 yJ1_charAt_3b067 wsJ1_charAt_3b067) := goodIn_app (goodIn_of _ (by decide +kernel)) ggJ0_charAt_5068e_J1_charAt_3b067
set_option maxRecDepth 20000 in
theorem ggJ0_charAt_5068e_J2_charAt_3b067 : GoodIn wsJ0_charAt_5068e wsJ2_charAt_3b067 := goodIn_r _ [24, 25, 26, 23, 27, 28, 29, 30, 31, 14, 5, 15, 16, 17, 18, 19, 20, 32, 33, 34, 35, 36, 37] (by decide +kernel) (by decide +kernel)
set_option maxRecDepth 20000 in
theorem gJ0_charAt_5068e_J2_charAt_3b067 : GoodIn wsJ0_charAt_5068e (va_wsS RJ0 498 yJ2_charAt_3b067 wsJ2_charAt_3b067) := goodIn_app (goodIn_of _ (by decide +kernel)) ggJ0_charAt_5068e_J2_charAt_3b067
theorem dJ0_charAt_5068e_0 : decode cJ0_charAt_5068e 0 = .ok (.aload_n 0, 1) := by decide +kernel
theorem dJ0_charAt_5068e_1 : decode cJ0_charAt_5068e 1 = .ok (.invokevirtual 492, 3) := by decide +kernel
theorem dJ0_charAt_5068e_4 : decode cJ0_charAt_5068e 4 = .ok (.ifCond .eq 12, 3) := by decide +kernel
theorem dJ0_charAt_5068e_7 : decode cJ0_charAt_5068e 7 = .ok (.aload_n 0, 1) := by decide +kernel
theorem dJ0_charAt_5068e_8 : decode cJ0_charAt_5068e 8 = .ok (.getfield 9, 3) := by decide +kernel
theorem dJ0_charAt_5068e_11 : decode cJ0_charAt_5068e 11 = .ok (.iload_n 1, 1) := by decide +kernel
theorem dJ0_charAt_5068e_12 : decode cJ0_charAt_5068e 12 = .ok (.invokestatic 495, 3) := by decide +kernel
theorem dJ0_charAt_5068e_15 : decode cJ0_charAt_5068e 15 = .ok (.ireturn, 1) := by decide +kernel
theorem dJ0_charAt_5068e_16 : decode cJ0_charAt_5068e 16 = .ok (.aload_n 0, 1) := by decide +kernel
theorem dJ0_charAt_5068e_17 : decode cJ0_charAt_5068e 17 = .ok (.getfield 9, 3) := by decide +kernel
theorem dJ0_charAt_5068e_20 : decode cJ0_charAt_5068e 20 = .ok (.iload_n 1, 1) := by decide +kernel
theorem dJ0_charAt_5068e_21 : decode cJ0_charAt_5068e 21 = .ok (.invokestatic 498, 3) := by decide +kernel
theorem dJ0_charAt_5068e_24 : decode cJ0_charAt_5068e 24 = .ok (.ireturn, 1) := by decide +kernel
theorem dJ0_coder_7d493_0 : decode cJ0_coder_7d493 0 = .ok (.getstatic 38, 3) := by decide +kernel
theorem dJ0_coder_7d493_3 : decode cJ0_coder_7d493 3 = .ok (.ifCond .eq 10, 3) := by decide +kernel
theorem dJ0_coder_7d493_6 : decode cJ0_coder_7d493 6 = .ok (.aload_n 0, 1) := by decide +kernel
theorem dJ0_coder_7d493_7 : decode cJ0_coder_7d493 7 = .ok (.getfield 15, 3) := by decide +kernel
theorem dJ0_coder_7d493_10 : decode cJ0_coder_7d493 10 = .ok (.goto 4, 3) := by decide +kernel
theorem dJ0_coder_7d493_13 : decode cJ0_coder_7d493 13 = .ok (.iconst 1, 1) := by decide +kernel
theorem dJ0_coder_7d493_14 : decode cJ0_coder_7d493 14 = .ok (.ireturn, 1) := by decide +kernel
theorem dJ0_isLatin1_aae02_0 : decode cJ0_isLatin1_aae02 0 = .ok (.getstatic 38, 3) := by decide +kernel
theorem dJ0_isLatin1_aae02_3 : decode cJ0_isLatin1_aae02 3 = .ok (.ifCond .eq 14, 3) := by decide +kernel
theorem dJ0_isLatin1_aae02_6 : decode cJ0_isLatin1_aae02 6 = .ok (.aload_n 0, 1) := by decide +kernel
theorem dJ0_isLatin1_aae02_7 : decode cJ0_isLatin1_aae02 7 = .ok (.getfield 15, 3) := by decide +kernel
theorem dJ0_isLatin1_aae02_10 : decode cJ0_isLatin1_aae02 10 = .ok (.ifCond .ne 7, 3) := by decide +kernel
theorem dJ0_isLatin1_aae02_13 : decode cJ0_isLatin1_aae02 13 = .ok (.iconst 1, 1) := by decide +kernel
theorem dJ0_isLatin1_aae02_14 : decode cJ0_isLatin1_aae02 14 = .ok (.goto 4, 3) := by decide +kernel
theorem dJ0_isLatin1_aae02_17 : decode cJ0_isLatin1_aae02 17 = .ok (.iconst 0, 1) := by decide +kernel
theorem dJ0_isLatin1_aae02_18 : decode cJ0_isLatin1_aae02 18 = .ok (.ireturn, 1) := by decide +kernel
set_option maxRecDepth 20000 in
theorem ggJ0_checkIndex_df160_J3_checkIndex_8e157 : GoodIn wsJ0_checkIndex_df160 wsJ3_checkIndex_8e157 := goodIn_r _ [5] (by decide +kernel) (by decide +kernel)
set_option maxRecDepth 20000 in
theorem gJ0_checkIndex_df160_J3_checkIndex_8e157 : GoodIn wsJ0_checkIndex_df160 (va_wsS RJ0 1059 yJ3_checkIndex_8e157 wsJ3_checkIndex_8e157) := goodIn_app (goodIn_of _ (by decide +kernel)) ggJ0_checkIndex_df160_J3_checkIndex_8e157
theorem dJ0_checkIndex_df160_0 : decode cJ0_checkIndex_df160 0 = .ok (.iload_n 0, 1) := by decide +kernel
theorem dJ0_checkIndex_df160_1 : decode cJ0_checkIndex_df160 1 = .ok (.iload_n 1, 1) := by decide +kernel
theorem dJ0_checkIndex_df160_2 : decode cJ0_checkIndex_df160 2 = .ok (.getstatic 1053, 3) := by decide +kernel
theorem dJ0_checkIndex_df160_5 : decode cJ0_checkIndex_df160 5 = .ok (.invokestatic 1059, 3) := by decide +kernel
theorem dJ0_checkIndex_df160_8 : decode cJ0_checkIndex_df160 8 = .ok (.pop, 1) := by decide +kernel
theorem dJ0_checkIndex_df160_9 : decode cJ0_checkIndex_df160 9 = .ok (.return_, 1) := by decide +kernel
set_option maxRecDepth 20000 in
theorem ggJ1_charAt_3b067_J0_checkIndex_df160 : GoodIn wsJ1_charAt_3b067 wsJ0_checkIndex_df160 := goodIn_r _ [4, 5, 6, 7, 8, 9] (by decide +kernel) (by decide +kernel)
set_option maxRecDepth 20000 in
theorem gJ1_charAt_3b067_J0_checkIndex_df160 : GoodIn wsJ1_charAt_3b067 (va_wsS RJ1 9 yJ0_checkIndex_df160 wsJ0_checkIndex_df160) := goodIn_app (goodIn_of _ (by decide +kernel)) ggJ1_charAt_3b067_J0_checkIndex_df160
theorem dJ1_charAt_3b067_0 : decode cJ1_charAt_3b067 0 = .ok (.iload_n 1, 1) := by decide +kernel
theorem dJ1_charAt_3b067_1 : decode cJ1_charAt_3b067 1 = .ok (.aload_n 0, 1) := by decide +kernel
theorem dJ1_charAt_3b067_2 : decode cJ1_charAt_3b067 2 = .ok (.arraylength, 1) := by decide +kernel
theorem dJ1_charAt_3b067_3 : decode cJ1_charAt_3b067 3 = .ok (.invokestatic 9, 3) := by decide +kernel
theorem dJ1_charAt_3b067_6 : decode cJ1_charAt_3b067 6 = .ok (.aload_n 0, 1) := by decide +kernel
theorem dJ1_charAt_3b067_7 : decode cJ1_charAt_3b067 7 = .ok (.iload_n 1, 1) := by decide +kernel
theorem dJ1_charAt_3b067_8 : decode cJ1_charAt_3b067 8 = .ok (.baload, 1) := by decide +kernel
theorem dJ1_charAt_3b067_9 : decode cJ1_charAt_3b067 9 = .ok (.sipush 255, 3) := by decide +kernel
theorem dJ1_charAt_3b067_12 : decode cJ1_charAt_3b067 12 = .ok (.iand, 1) := by decide +kernel
theorem dJ1_charAt_3b067_13 : decode cJ1_charAt_3b067 13 = .ok (.i2c, 1) := by decide +kernel
theorem dJ1_charAt_3b067_14 : decode cJ1_charAt_3b067 14 = .ok (.ireturn, 1) := by decide +kernel
set_option maxRecDepth 20000 in
theorem ggJ2_getChar_3b067_J2_length_9d52b : GoodIn wsJ2_getChar_3b067 wsJ2_length_9d52b := goodIn_r _ [7] (by decide +kernel) (by decide +kernel)
set_option maxRecDepth 20000 in
theorem gJ2_getChar_3b067_J2_length_9d52b : GoodIn wsJ2_getChar_3b067 (va_wsS RJ2 48 yJ2_length_9d52b wsJ2_length_9d52b) := goodIn_app (goodIn_of _ (by decide +kernel)) ggJ2_getChar_3b067_J2_length_9d52b
theorem dJ2_getChar_3b067_0 : decode cJ2_getChar_3b067 0 = .ok (.getstatic 44, 3) := by decide +kernel
theorem dJ2_getChar_3b067_3 : decode cJ2_getChar_3b067 3 = .ok (.ifCond .ne 25, 3) := by decide +kernel
theorem dJ2_getChar_3b067_6 : decode cJ2_getChar_3b067 6 = .ok (.iload_n 1, 1) := by decide +kernel
theorem dJ2_getChar_3b067_7 : decode cJ2_getChar_3b067 7 = .ok (.ifCond .lt 11, 3) := by decide +kernel
theorem dJ2_getChar_3b067_10 : decode cJ2_getChar_3b067 10 = .ok (.iload_n 1, 1) := by decide +kernel
theorem dJ2_getChar_3b067_11 : decode cJ2_getChar_3b067 11 = .ok (.aload_n 0, 1) := by decide +kernel
theorem dJ2_getChar_3b067_12 : decode cJ2_getChar_3b067 12 = .ok (.invokestatic 48, 3) := by decide +kernel
theorem dJ2_getChar_3b067_15 : decode cJ2_getChar_3b067 15 = .ok (.if_icmp .lt 13, 3) := by decide +kernel
theorem dJ2_getChar_3b067_18 : decode cJ2_getChar_3b067 18 = .ok (.new 52, 3) := by decide +kernel
theorem dJ2_getChar_3b067_21 : decode cJ2_getChar_3b067 21 = .ok (.dup, 1) := by decide +kernel
theorem dJ2_getChar_3b067_22 : decode cJ2_getChar_3b067 22 = .ok (.ldc 54, 2) := by decide +kernel
theorem dJ2_getChar_3b067_24 : decode cJ2_getChar_3b067 24 = .ok (.invokespecial 56, 3) := by decide +kernel
theorem dJ2_getChar_3b067_27 : decode cJ2_getChar_3b067 27 = .ok (.athrow, 1) := by decide +kernel
theorem dJ2_getChar_3b067_28 : decode cJ2_getChar_3b067 28 = .ok (.iload_n 1, 1) := by decide +kernel
theorem dJ2_getChar_3b067_29 : decode cJ2_getChar_3b067 29 = .ok (.iconst 1, 1) := by decide +kernel
theorem dJ2_getChar_3b067_30 : decode cJ2_getChar_3b067 30 = .ok (.ishl, 1) := by decide +kernel
theorem dJ2_getChar_3b067_31 : decode cJ2_getChar_3b067 31 = .ok (.istore_n 1, 1) := by decide +kernel
theorem dJ2_getChar_3b067_32 : decode cJ2_getChar_3b067 32 = .ok (.aload_n 0, 1) := by decide +kernel
theorem dJ2_getChar_3b067_33 : decode cJ2_getChar_3b067 33 = .ok (.iload_n 1, 1) := by decide +kernel
theorem dJ2_getChar_3b067_34 : decode cJ2_getChar_3b067 34 = .ok (.iinc 1 1, 3) := by decide +kernel
theorem dJ2_getChar_3b067_37 : decode cJ2_getChar_3b067 37 = .ok (.baload, 1) := by decide +kernel
theorem dJ2_getChar_3b067_38 : decode cJ2_getChar_3b067 38 = .ok (.sipush 255, 3) := by decide +kernel
theorem dJ2_getChar_3b067_41 : decode cJ2_getChar_3b067 41 = .ok (.iand, 1) := by decide +kernel
theorem dJ2_getChar_3b067_42 : decode cJ2_getChar_3b067 42 = .ok (.getstatic 59, 3) := by decide +kernel
theorem dJ2_getChar_3b067_45 : decode cJ2_getChar_3b067 45 = .ok (.ishl, 1) := by decide +kernel
theorem dJ2_getChar_3b067_46 : decode cJ2_getChar_3b067 46 = .ok (.aload_n 0, 1) := by decide +kernel
theorem dJ2_getChar_3b067_47 : decode cJ2_getChar_3b067 47 = .ok (.iload_n 1, 1) := by decide +kernel
theorem dJ2_getChar_3b067_48 : decode cJ2_getChar_3b067 48 = .ok (.baload, 1) := by decide +kernel
theorem dJ2_getChar_3b067_49 : decode cJ2_getChar_3b067 49 = .ok (.sipush 255, 3) := by decide +kernel
theorem dJ2_getChar_3b067_52 : decode cJ2_getChar_3b067 52 = .ok (.iand, 1) := by decide +kernel
theorem dJ2_getChar_3b067_53 : decode cJ2_getChar_3b067 53 = .ok (.getstatic 63, 3) := by decide +kernel
theorem dJ2_getChar_3b067_56 : decode cJ2_getChar_3b067 56 = .ok (.ishl, 1) := by decide +kernel
theorem dJ2_getChar_3b067_57 : decode cJ2_getChar_3b067 57 = .ok (.ior, 1) := by decide +kernel
theorem dJ2_getChar_3b067_58 : decode cJ2_getChar_3b067 58 = .ok (.i2c, 1) := by decide +kernel
theorem dJ2_getChar_3b067_59 : decode cJ2_getChar_3b067 59 = .ok (.ireturn, 1) := by decide +kernel
theorem dJ2_length_9d52b_0 : decode cJ2_length_9d52b 0 = .ok (.aload_n 0, 1) := by decide +kernel
theorem dJ2_length_9d52b_1 : decode cJ2_length_9d52b 1 = .ok (.arraylength, 1) := by decide +kernel
theorem dJ2_length_9d52b_2 : decode cJ2_length_9d52b 2 = .ok (.iconst 1, 1) := by decide +kernel
theorem dJ2_length_9d52b_3 : decode cJ2_length_9d52b 3 = .ok (.ishr, 1) := by decide +kernel
theorem dJ2_length_9d52b_4 : decode cJ2_length_9d52b 4 = .ok (.ireturn, 1) := by decide +kernel
set_option maxRecDepth 20000 in
theorem ggJ2_charAt_3b067_J2_checkIndex_2214a : GoodIn wsJ2_charAt_3b067 wsJ2_checkIndex_2214a := goodIn_r _ [4, 5, 6, 3, 7, 8, 9, 10, 11, 12, 13, 14, 15, 16] (by decide +kernel) (by decide +kernel)
set_option maxRecDepth 20000 in
theorem gJ2_charAt_3b067_J2_checkIndex_2214a : GoodIn wsJ2_charAt_3b067 (va_wsS RJ2 67 yJ2_checkIndex_2214a wsJ2_checkIndex_2214a) := goodIn_app (goodIn_of _ (by decide +kernel)) ggJ2_charAt_3b067_J2_checkIndex_2214a
set_option maxRecDepth 20000 in
theorem ggJ2_charAt_3b067_J2_getChar_3b067 : GoodIn wsJ2_charAt_3b067 wsJ2_getChar_3b067 := goodIn_r _ [19, 20, 21, 22, 5, 6, 3, 7] (by decide +kernel) (by decide +kernel)
set_option maxRecDepth 20000 in
theorem gJ2_charAt_3b067_J2_getChar_3b067 : GoodIn wsJ2_charAt_3b067 (va_wsS RJ2 71 yJ2_getChar_3b067 wsJ2_getChar_3b067) := goodIn_app (goodIn_of _ (by decide +kernel)) ggJ2_charAt_3b067_J2_getChar_3b067
theorem dJ2_charAt_3b067_0 : decode cJ2_charAt_3b067 0 = .ok (.iload_n 1, 1) := by decide +kernel
theorem dJ2_charAt_3b067_1 : decode cJ2_charAt_3b067 1 = .ok (.aload_n 0, 1) := by decide +kernel
theorem dJ2_charAt_3b067_2 : decode cJ2_charAt_3b067 2 = .ok (.invokestatic 67, 3) := by decide +kernel
theorem dJ2_charAt_3b067_5 : decode cJ2_charAt_3b067 5 = .ok (.aload_n 0, 1) := by decide +kernel
theorem dJ2_charAt_3b067_6 : decode cJ2_charAt_3b067 6 = .ok (.iload_n 1, 1) := by decide +kernel
theorem dJ2_charAt_3b067_7 : decode cJ2_charAt_3b067 7 = .ok (.invokestatic 71, 3) := by decide +kernel
theorem dJ2_charAt_3b067_10 : decode cJ2_charAt_3b067 10 = .ok (.ireturn, 1) := by decide +kernel
set_option maxRecDepth 20000 in
theorem ggJ2_checkIndex_2214a_J2_length_9d52b : GoodIn wsJ2_checkIndex_2214a wsJ2_length_9d52b := goodIn_r _ [4] (by decide +kernel) (by decide +kernel)
set_option maxRecDepth 20000 in
theorem gJ2_checkIndex_2214a_J2_length_9d52b : GoodIn wsJ2_checkIndex_2214a (va_wsS RJ2 48 yJ2_length_9d52b wsJ2_length_9d52b) := goodIn_app (goodIn_of _ (by decide +kernel)) ggJ2_checkIndex_2214a_J2_length_9d52b
set_option maxRecDepth 20000 in
theorem ggJ2_checkIndex_2214a_J0_checkIndex_df160 : GoodIn wsJ2_checkIndex_2214a wsJ0_checkIndex_df160 := goodIn_r _ [8, 9, 10, 11, 12, 13] (by decide +kernel) (by decide +kernel)
set_option maxRecDepth 20000 in
theorem gJ2_checkIndex_2214a_J0_checkIndex_df160 : GoodIn wsJ2_checkIndex_2214a (va_wsS RJ2 414 yJ0_checkIndex_df160 wsJ0_checkIndex_df160) := goodIn_app (goodIn_of _ (by decide +kernel)) ggJ2_checkIndex_2214a_J0_checkIndex_df160
theorem dJ2_checkIndex_2214a_0 : decode cJ2_checkIndex_2214a 0 = .ok (.iload_n 0, 1) := by decide +kernel
theorem dJ2_checkIndex_2214a_1 : decode cJ2_checkIndex_2214a 1 = .ok (.aload_n 1, 1) := by decide +kernel
theorem dJ2_checkIndex_2214a_2 : decode cJ2_checkIndex_2214a 2 = .ok (.invokestatic 48, 3) := by decide +kernel
theorem dJ2_checkIndex_2214a_5 : decode cJ2_checkIndex_2214a 5 = .ok (.invokestatic 414, 3) := by decide +kernel
theorem dJ2_checkIndex_2214a_8 : decode cJ2_checkIndex_2214a 8 = .ok (.return_, 1) := by decide +kernel
theorem dJ3_checkIndex_8e157_0 : decode cJ3_checkIndex_8e157 0 = .ok (.iload_n 0, 1) := by decide +kernel
theorem dJ3_checkIndex_8e157_1 : decode cJ3_checkIndex_8e157 1 = .ok (.ifCond .lt 8, 3) := by decide +kernel
theorem dJ3_checkIndex_8e157_4 : decode cJ3_checkIndex_8e157 4 = .ok (.iload_n 0, 1) := by decide +kernel
theorem dJ3_checkIndex_8e157_5 : decode cJ3_checkIndex_8e157 5 = .ok (.iload_n 1, 1) := by decide +kernel
theorem dJ3_checkIndex_8e157_6 : decode cJ3_checkIndex_8e157 6 = .ok (.if_icmp .lt 10, 3) := by decide +kernel
theorem dJ3_checkIndex_8e157_9 : decode cJ3_checkIndex_8e157 9 = .ok (.aload_n 2, 1) := by decide +kernel
theorem dJ3_checkIndex_8e157_10 : decode cJ3_checkIndex_8e157 10 = .ok (.iload_n 0, 1) := by decide +kernel
theorem dJ3_checkIndex_8e157_11 : decode cJ3_checkIndex_8e157 11 = .ok (.iload_n 1, 1) := by decide +kernel
theorem dJ3_checkIndex_8e157_12 : decode cJ3_checkIndex_8e157 12 = .ok (.invokestatic 95, 3) := by decide +kernel
theorem dJ3_checkIndex_8e157_15 : decode cJ3_checkIndex_8e157 15 = .ok (.athrow, 1) := by decide +kernel
theorem dJ3_checkIndex_8e157_16 : decode cJ3_checkIndex_8e157 16 = .ok (.iload_n 0, 1) := by decide +kernel
theorem dJ3_checkIndex_8e157_17 : decode cJ3_checkIndex_8e157 17 = .ok (.ireturn, 1) := by decide +kernel
theorem dL_cell_0 : decode cL_cell 0 = .ok (.iload_n 1, 1) := by decide +kernel
theorem dL_cell_1 : decode cL_cell 1 = .ok (.aload_n 0, 1) := by decide +kernel
theorem dL_cell_2 : decode cL_cell 2 = .ok (.arraylength, 1) := by decide +kernel
theorem dL_cell_3 : decode cL_cell 3 = .ok (.if_icmp .ge 12, 3) := by decide +kernel
theorem dL_cell_6 : decode cL_cell 6 = .ok (.aload_n 0, 1) := by decide +kernel
theorem dL_cell_7 : decode cL_cell 7 = .ok (.iload_n 1, 1) := by decide +kernel
theorem dL_cell_8 : decode cL_cell 8 = .ok (.iaload, 1) := by decide +kernel
theorem dL_cell_9 : decode cL_cell 9 = .ok (.ldc 7, 2) := by decide +kernel
theorem dL_cell_11 : decode cL_cell 11 = .ok (.iand, 1) := by decide +kernel
theorem dL_cell_12 : decode cL_cell 12 = .ok (.goto 14, 3) := by decide +kernel
theorem dL_cell_15 : decode cL_cell 15 = .ok (.bipush 61, 2) := by decide +kernel
theorem dL_cell_17 : decode cL_cell 17 = .ok (.iload_n 1, 1) := by decide +kernel
theorem dL_cell_18 : decode cL_cell 18 = .ok (.imul, 1) := by decide +kernel
theorem dL_cell_19 : decode cL_cell 19 = .ok (.bipush 7, 2) := by decide +kernel
theorem dL_cell_21 : decode cL_cell 21 = .ok (.iadd, 1) := by decide +kernel
theorem dL_cell_22 : decode cL_cell 22 = .ok (.iload_n 1, 1) := by decide +kernel
theorem dL_cell_23 : decode cL_cell 23 = .ok (.iconst 3, 1) := by decide +kernel
theorem dL_cell_24 : decode cL_cell 24 = .ok (.iadd, 1) := by decide +kernel
theorem dL_cell_25 : decode cL_cell 25 = .ok (.imul, 1) := by decide +kernel
theorem dL_cell_26 : decode cL_cell 26 = .ok (.ireturn, 1) := by decide +kernel
set_option maxRecDepth 20000 in
theorem ggL_put_X10_put : GoodIn wsL_put wsX10_put := goodIn_r _ [5, 6, 7, 8, 9, 10, 4, 11, 12, 13, 14, 15, 16, 17, 18, 19, 20, 21, 22, 23, 24, 25, 26, 27, 28, 29, 30, 31, 32, 33, 34, 35, 36, 37, 38, 39, 40, 41, 42, 43, 44, 45, 46, 47, 48, 49, 50, 51, 52, 53, 54, 55, 56, 57, 58, 59, 60, 61, 62, 63, 64] (by decide +kernel) (by decide +kernel)
set_option maxRecDepth 20000 in
theorem gL_put_X10_put : GoodIn wsL_put (wsV RL 8 RX10 yX10_put wsX10_put) := goodIn_app (goodIn_of _ (by decide +kernel)) ggL_put_X10_put
theorem dL_put_0 : decode cL_put 0 = .ok (.iload_n 1, 1) := by decide +kernel
theorem dL_put_1 : decode cL_put 1 = .ok (.ifCond .lt 22, 3) := by decide +kernel
theorem dL_put_4 : decode cL_put 4 = .ok (.aload_n 0, 1) := by decide +kernel
theorem dL_put_5 : decode cL_put 5 = .ok (.iconst 3, 1) := by decide +kernel
theorem dL_put_6 : decode cL_put 6 = .ok (.iload_n 1, 1) := by decide +kernel
theorem dL_put_7 : decode cL_put 7 = .ok (.iload_n 2, 1) := by decide +kernel
theorem dL_put_8 : decode cL_put 8 = .ok (.invokevirtual 8, 3) := by decide +kernel
theorem dL_put_11 : decode cL_put 11 = .ok (.sipush 1032, 3) := by decide +kernel
theorem dL_put_14 : decode cL_put 14 = .ok (.if_icmp .ne 9, 3) := by decide +kernel
theorem dL_put_17 : decode cL_put 17 = .ok (.iload_n 1, 1) := by decide +kernel
theorem dL_put_18 : decode cL_put 18 = .ok (.iconst 1, 1) := by decide +kernel
theorem dL_put_19 : decode cL_put 19 = .ok (.iadd, 1) := by decide +kernel
theorem dL_put_20 : decode cL_put 20 = .ok (.goto 6, 3) := by decide +kernel
theorem dL_put_23 : decode cL_put 23 = .ok (.sipush (-1000), 3) := by decide +kernel
theorem dL_put_26 : decode cL_put 26 = .ok (.ireturn, 1) := by decide +kernel
set_option maxRecDepth 20000 in
theorem ggL_numbers_L_cell : GoodIn wsL_numbers wsL_cell := goodIn_r _ [4, 5] (by decide +kernel) (by decide +kernel)
set_option maxRecDepth 20000 in
theorem gL_numbers_L_cell : GoodIn wsL_numbers (va_wsS RL 14 yL_cell wsL_cell) := goodIn_app (goodIn_of _ (by decide +kernel)) ggL_numbers_L_cell
theorem dL_numbers_0 : decode cL_numbers 0 = .ok (.iconst 2, 1) := by decide +kernel
theorem dL_numbers_1 : decode cL_numbers 1 = .ok (.aload_n 0, 1) := by decide +kernel
theorem dL_numbers_2 : decode cL_numbers 2 = .ok (.iload_n 1, 1) := by decide +kernel
theorem dL_numbers_3 : decode cL_numbers 3 = .ok (.invokestatic 14, 3) := by decide +kernel
theorem dL_numbers_6 : decode cL_numbers 6 = .ok (.iload_n 2, 1) := by decide +kernel
theorem dL_numbers_7 : decode cL_numbers 7 = .ok (.iconst 1, 1) := by decide +kernel
theorem dL_numbers_8 : decode cL_numbers 8 = .ok (.isub, 1) := by decide +kernel
theorem dL_numbers_9 : decode cL_numbers 9 = .ok (.irem, 1) := by decide +kernel
theorem dL_numbers_10 : decode cL_numbers 10 = .ok (.iadd, 1) := by decide +kernel
theorem dL_numbers_11 : decode cL_numbers 11 = .ok (.istore 4, 2) := by decide +kernel
theorem dL_numbers_13 : decode cL_numbers 13 = .ok (.aload_n 3, 1) := by decide +kernel
theorem dL_numbers_14 : decode cL_numbers 14 = .ok (.iconst 0, 1) := by decide +kernel
theorem dL_numbers_15 : decode cL_numbers 15 = .ok (.iload 4, 2) := by decide +kernel
theorem dL_numbers_17 : decode cL_numbers 17 = .ok (.iastore, 1) := by decide +kernel
theorem dL_numbers_18 : decode cL_numbers 18 = .ok (.iconst 0, 1) := by decide +kernel
theorem dL_numbers_19 : decode cL_numbers 19 = .ok (.istore 5, 2) := by decide +kernel
theorem dL_numbers_21 : decode cL_numbers 21 = .ok (.iload 5, 2) := by decide +kernel
theorem dL_numbers_23 : decode cL_numbers 23 = .ok (.iload 4, 2) := by decide +kernel
theorem dL_numbers_25 : decode cL_numbers 25 = .ok (.if_icmp .ge 302, 3) := by decide +kernel
theorem dL_numbers_28 : decode cL_numbers 28 = .ok (.aload_n 0, 1) := by decide +kernel
theorem dL_numbers_29 : decode cL_numbers 29 = .ok (.iload_n 1, 1) := by decide +kernel
theorem dL_numbers_30 : decode cL_numbers 30 = .ok (.iconst 1, 1) := by decide +kernel
theorem dL_numbers_31 : decode cL_numbers 31 = .ok (.iadd, 1) := by decide +kernel
theorem dL_numbers_32 : decode cL_numbers 32 = .ok (.iload 5, 2) := by decide +kernel
theorem dL_numbers_34 : decode cL_numbers 34 = .ok (.iadd, 1) := by decide +kernel
theorem dL_numbers_35 : decode cL_numbers 35 = .ok (.invokestatic 14, 3) := by decide +kernel
theorem dL_numbers_38 : decode cL_numbers 38 = .ok (.istore 6, 2) := by decide +kernel
theorem dL_numbers_40 : decode cL_numbers 40 = .ok (.iload 6, 2) := by decide +kernel
theorem dL_numbers_42 : decode cL_numbers 42 = .ok (.bipush 16, 2) := by decide +kernel
theorem dL_numbers_44 : decode cL_numbers 44 = .ok (.irem, 1) := by decide +kernel
theorem dL_numbers_45 : decode cL_numbers 45 = .ok (.bipush 6, 2) := by decide +kernel
theorem dL_numbers_47 : decode cL_numbers 47 = .ok (.if_icmp .ge 7, 3) := by decide +kernel
theorem dL_numbers_50 : decode cL_numbers 50 = .ok (.iconst 0, 1) := by decide +kernel
theorem dL_numbers_51 : decode cL_numbers 51 = .ok (.goto 60, 3) := by decide +kernel
theorem dL_numbers_54 : decode cL_numbers 54 = .ok (.iload 6, 2) := by decide +kernel
theorem dL_numbers_56 : decode cL_numbers 56 = .ok (.bipush 16, 2) := by decide +kernel
theorem dL_numbers_58 : decode cL_numbers 58 = .ok (.irem, 1) := by decide +kernel
theorem dL_numbers_59 : decode cL_numbers 59 = .ok (.bipush 8, 2) := by decide +kernel
theorem dL_numbers_61 : decode cL_numbers 61 = .ok (.if_icmp .ge 7, 3) := by decide +kernel
theorem dL_numbers_64 : decode cL_numbers 64 = .ok (.iconst 1, 1) := by decide +kernel
theorem dL_numbers_65 : decode cL_numbers 65 = .ok (.goto 46, 3) := by decide +kernel
theorem dL_numbers_68 : decode cL_numbers 68 = .ok (.iload 6, 2) := by decide +kernel
theorem dL_numbers_70 : decode cL_numbers 70 = .ok (.bipush 16, 2) := by decide +kernel
theorem dL_numbers_72 : decode cL_numbers 72 = .ok (.irem, 1) := by decide +kernel
theorem dL_numbers_73 : decode cL_numbers 73 = .ok (.bipush 10, 2) := by decide +kernel
theorem dL_numbers_75 : decode cL_numbers 75 = .ok (.if_icmp .ge 7, 3) := by decide +kernel
theorem dL_numbers_78 : decode cL_numbers 78 = .ok (.iconst 2, 1) := by decide +kernel
theorem dL_numbers_79 : decode cL_numbers 79 = .ok (.goto 32, 3) := by decide +kernel
theorem dL_numbers_82 : decode cL_numbers 82 = .ok (.iload 6, 2) := by decide +kernel
theorem dL_numbers_84 : decode cL_numbers 84 = .ok (.bipush 16, 2) := by decide +kernel
theorem dL_numbers_86 : decode cL_numbers 86 = .ok (.irem, 1) := by decide +kernel
theorem dL_numbers_87 : decode cL_numbers 87 = .ok (.bipush 12, 2) := by decide +kernel
theorem dL_numbers_89 : decode cL_numbers 89 = .ok (.if_icmp .ge 7, 3) := by decide +kernel
theorem dL_numbers_92 : decode cL_numbers 92 = .ok (.iconst 3, 1) := by decide +kernel
theorem dL_numbers_93 : decode cL_numbers 93 = .ok (.goto 18, 3) := by decide +kernel
theorem dL_numbers_96 : decode cL_numbers 96 = .ok (.iload 6, 2) := by decide +kernel
theorem dL_numbers_98 : decode cL_numbers 98 = .ok (.bipush 16, 2) := by decide +kernel
theorem dL_numbers_100 : decode cL_numbers 100 = .ok (.irem, 1) := by decide +kernel
theorem dL_numbers_101 : decode cL_numbers 101 = .ok (.bipush 14, 2) := by decide +kernel
theorem dL_numbers_103 : decode cL_numbers 103 = .ok (.if_icmp .ge 7, 3) := by decide +kernel
theorem dL_numbers_106 : decode cL_numbers 106 = .ok (.iconst 4, 1) := by decide +kernel
theorem dL_numbers_107 : decode cL_numbers 107 = .ok (.goto 4, 3) := by decide +kernel
theorem dL_numbers_110 : decode cL_numbers 110 = .ok (.iconst 5, 1) := by decide +kernel
theorem dL_numbers_111 : decode cL_numbers 111 = .ok (.istore 7, 2) := by decide +kernel
theorem dL_numbers_113 : decode cL_numbers 113 = .ok (.iload 4, 2) := by decide +kernel
theorem dL_numbers_115 : decode cL_numbers 115 = .ok (.iconst 2, 1) := by decide +kernel
theorem dL_numbers_116 : decode cL_numbers 116 = .ok (.if_icmp .ne 19, 3) := by decide +kernel
theorem dL_numbers_119 : decode cL_numbers 119 = .ok (.iload 7, 2) := by decide +kernel
theorem dL_numbers_121 : decode cL_numbers 121 = .ok (.iconst 1, 1) := by decide +kernel
theorem dL_numbers_122 : decode cL_numbers 122 = .ok (.if_icmp .eq 9, 3) := by decide +kernel
theorem dL_numbers_125 : decode cL_numbers 125 = .ok (.iload 7, 2) := by decide +kernel
theorem dL_numbers_127 : decode cL_numbers 127 = .ok (.iconst 5, 1) := by decide +kernel
theorem dL_numbers_128 : decode cL_numbers 128 = .ok (.if_icmp .ne 7, 3) := by decide +kernel
theorem dL_numbers_131 : decode cL_numbers 131 = .ok (.iconst 0, 1) := by decide +kernel
theorem dL_numbers_132 : decode cL_numbers 132 = .ok (.goto 5, 3) := by decide +kernel
theorem dL_numbers_135 : decode cL_numbers 135 = .ok (.iload 7, 2) := by decide +kernel
theorem dL_numbers_137 : decode cL_numbers 137 = .ok (.istore 7, 2) := by decide +kernel
theorem dL_numbers_139 : decode cL_numbers 139 = .ok (.iload 5, 2) := by decide +kernel
theorem dL_numbers_141 : decode cL_numbers 141 = .ok (.iconst 1, 1) := by decide +kernel
theorem dL_numbers_142 : decode cL_numbers 142 = .ok (.iadd, 1) := by decide +kernel
theorem dL_numbers_143 : decode cL_numbers 143 = .ok (.iload 6, 2) := by decide +kernel
theorem dL_numbers_145 : decode cL_numbers 145 = .ok (.bipush 16, 2) := by decide +kernel
theorem dL_numbers_147 : decode cL_numbers 147 = .ok (.idiv, 1) := by decide +kernel
theorem dL_numbers_148 : decode cL_numbers 148 = .ok (.iload 4, 2) := by decide +kernel
theorem dL_numbers_150 : decode cL_numbers 150 = .ok (.iconst 1, 1) := by decide +kernel
theorem dL_numbers_151 : decode cL_numbers 151 = .ok (.isub, 1) := by decide +kernel
theorem dL_numbers_152 : decode cL_numbers 152 = .ok (.irem, 1) := by decide +kernel
theorem dL_numbers_153 : decode cL_numbers 153 = .ok (.iadd, 1) := by decide +kernel
theorem dL_numbers_154 : decode cL_numbers 154 = .ok (.iload 4, 2) := by decide +kernel
theorem dL_numbers_156 : decode cL_numbers 156 = .ok (.irem, 1) := by decide +kernel
theorem dL_numbers_157 : decode cL_numbers 157 = .ok (.istore 8, 2) := by decide +kernel
theorem dL_numbers_159 : decode cL_numbers 159 = .ok (.iload 8, 2) := by decide +kernel
theorem dL_numbers_161 : decode cL_numbers 161 = .ok (.iconst 1, 1) := by decide +kernel
theorem dL_numbers_162 : decode cL_numbers 162 = .ok (.iadd, 1) := by decide +kernel
theorem dL_numbers_163 : decode cL_numbers 163 = .ok (.iload 6, 2) := by decide +kernel
theorem dL_numbers_165 : decode cL_numbers 165 = .ok (.sipush 256, 3) := by decide +kernel
theorem dL_numbers_168 : decode cL_numbers 168 = .ok (.idiv, 1) := by decide +kernel
theorem dL_numbers_169 : decode cL_numbers 169 = .ok (.iload 4, 2) := by decide +kernel
theorem dL_numbers_171 : decode cL_numbers 171 = .ok (.iconst 1, 1) := by decide +kernel
theorem dL_numbers_172 : decode cL_numbers 172 = .ok (.isub, 1) := by decide +kernel
theorem dL_numbers_173 : decode cL_numbers 173 = .ok (.irem, 1) := by decide +kernel
theorem dL_numbers_174 : decode cL_numbers 174 = .ok (.iadd, 1) := by decide +kernel
theorem dL_numbers_175 : decode cL_numbers 175 = .ok (.iload 4, 2) := by decide +kernel
theorem dL_numbers_177 : decode cL_numbers 177 = .ok (.irem, 1) := by decide +kernel
theorem dL_numbers_178 : decode cL_numbers 178 = .ok (.istore 9, 2) := by decide +kernel
theorem dL_numbers_180 : decode cL_numbers 180 = .ok (.iload 9, 2) := by decide +kernel
theorem dL_numbers_182 : decode cL_numbers 182 = .ok (.iload 5, 2) := by decide +kernel
theorem dL_numbers_184 : decode cL_numbers 184 = .ok (.if_icmp .ne 35, 3) := by decide +kernel
theorem dL_numbers_187 : decode cL_numbers 187 = .ok (.iload 9, 2) := by decide +kernel
theorem dL_numbers_189 : decode cL_numbers 189 = .ok (.iconst 1, 1) := by decide +kernel
theorem dL_numbers_190 : decode cL_numbers 190 = .ok (.iadd, 1) := by decide +kernel
theorem dL_numbers_191 : decode cL_numbers 191 = .ok (.iload 4, 2) := by decide +kernel
theorem dL_numbers_193 : decode cL_numbers 193 = .ok (.irem, 1) := by decide +kernel
theorem dL_numbers_194 : decode cL_numbers 194 = .ok (.iload 8, 2) := by decide +kernel
theorem dL_numbers_196 : decode cL_numbers 196 = .ok (.if_icmp .ne 13, 3) := by decide +kernel
theorem dL_numbers_199 : decode cL_numbers 199 = .ok (.iload 9, 2) := by decide +kernel
theorem dL_numbers_201 : decode cL_numbers 201 = .ok (.iconst 2, 1) := by decide +kernel
theorem dL_numbers_202 : decode cL_numbers 202 = .ok (.iadd, 1) := by decide +kernel
theorem dL_numbers_203 : decode cL_numbers 203 = .ok (.iload 4, 2) := by decide +kernel
theorem dL_numbers_205 : decode cL_numbers 205 = .ok (.irem, 1) := by decide +kernel
theorem dL_numbers_206 : decode cL_numbers 206 = .ok (.goto 15, 3) := by decide +kernel
theorem dL_numbers_209 : decode cL_numbers 209 = .ok (.iload 9, 2) := by decide +kernel
theorem dL_numbers_211 : decode cL_numbers 211 = .ok (.iconst 1, 1) := by decide +kernel
theorem dL_numbers_212 : decode cL_numbers 212 = .ok (.iadd, 1) := by decide +kernel
theorem dL_numbers_213 : decode cL_numbers 213 = .ok (.iload 4, 2) := by decide +kernel
theorem dL_numbers_215 : decode cL_numbers 215 = .ok (.irem, 1) := by decide +kernel
theorem dL_numbers_216 : decode cL_numbers 216 = .ok (.goto 5, 3) := by decide +kernel
theorem dL_numbers_219 : decode cL_numbers 219 = .ok (.iload 9, 2) := by decide +kernel
theorem dL_numbers_221 : decode cL_numbers 221 = .ok (.istore 9, 2) := by decide +kernel
theorem dL_numbers_223 : decode cL_numbers 223 = .ok (.aload_n 3, 1) := by decide +kernel
theorem dL_numbers_224 : decode cL_numbers 224 = .ok (.iconst 1, 1) := by decide +kernel
theorem dL_numbers_225 : decode cL_numbers 225 = .ok (.iconst 4, 1) := by decide +kernel
theorem dL_numbers_226 : decode cL_numbers 226 = .ok (.iload 5, 2) := by decide +kernel
theorem dL_numbers_228 : decode cL_numbers 228 = .ok (.imul, 1) := by decide +kernel
theorem dL_numbers_229 : decode cL_numbers 229 = .ok (.iadd, 1) := by decide +kernel
theorem dL_numbers_230 : decode cL_numbers 230 = .ok (.iload 7, 2) := by decide +kernel
theorem dL_numbers_232 : decode cL_numbers 232 = .ok (.iastore, 1) := by decide +kernel
theorem dL_numbers_233 : decode cL_numbers 233 = .ok (.aload_n 3, 1) := by decide +kernel
theorem dL_numbers_234 : decode cL_numbers 234 = .ok (.iconst 2, 1) := by decide +kernel
theorem dL_numbers_235 : decode cL_numbers 235 = .ok (.iconst 4, 1) := by decide +kernel
theorem dL_numbers_236 : decode cL_numbers 236 = .ok (.iload 5, 2) := by decide +kernel
theorem dL_numbers_238 : decode cL_numbers 238 = .ok (.imul, 1) := by decide +kernel
theorem dL_numbers_239 : decode cL_numbers 239 = .ok (.iadd, 1) := by decide +kernel
theorem dL_numbers_240 : decode cL_numbers 240 = .ok (.iload 7, 2) := by decide +kernel
theorem dL_numbers_242 : decode cL_numbers 242 = .ok (.iconst 2, 1) := by decide +kernel
theorem dL_numbers_243 : decode cL_numbers 243 = .ok (.if_icmp .ne 8, 3) := by decide +kernel
theorem dL_numbers_246 : decode cL_numbers 246 = .ok (.bipush (-9), 2) := by decide +kernel
theorem dL_numbers_248 : decode cL_numbers 248 = .ok (.goto 5, 3) := by decide +kernel
theorem dL_numbers_251 : decode cL_numbers 251 = .ok (.iload 8, 2) := by decide +kernel
theorem dL_numbers_253 : decode cL_numbers 253 = .ok (.iastore, 1) := by decide +kernel
theorem dL_numbers_254 : decode cL_numbers 254 = .ok (.aload_n 3, 1) := by decide +kernel
theorem dL_numbers_255 : decode cL_numbers 255 = .ok (.iconst 3, 1) := by decide +kernel
theorem dL_numbers_256 : decode cL_numbers 256 = .ok (.iconst 4, 1) := by decide +kernel
theorem dL_numbers_257 : decode cL_numbers 257 = .ok (.iload 5, 2) := by decide +kernel
theorem dL_numbers_259 : decode cL_numbers 259 = .ok (.imul, 1) := by decide +kernel
theorem dL_numbers_260 : decode cL_numbers 260 = .ok (.iadd, 1) := by decide +kernel
theorem dL_numbers_261 : decode cL_numbers 261 = .ok (.iload 7, 2) := by decide +kernel
theorem dL_numbers_263 : decode cL_numbers 263 = .ok (.iconst 1, 1) := by decide +kernel
theorem dL_numbers_264 : decode cL_numbers 264 = .ok (.if_icmp .eq 9, 3) := by decide +kernel
theorem dL_numbers_267 : decode cL_numbers 267 = .ok (.iload 7, 2) := by decide +kernel
theorem dL_numbers_269 : decode cL_numbers 269 = .ok (.iconst 5, 1) := by decide +kernel
theorem dL_numbers_270 : decode cL_numbers 270 = .ok (.if_icmp .ne 8, 3) := by decide +kernel
theorem dL_numbers_273 : decode cL_numbers 273 = .ok (.iload 9, 2) := by decide +kernel
theorem dL_numbers_275 : decode cL_numbers 275 = .ok (.goto 5, 3) := by decide +kernel
theorem dL_numbers_278 : decode cL_numbers 278 = .ok (.bipush (-9), 2) := by decide +kernel
theorem dL_numbers_280 : decode cL_numbers 280 = .ok (.iastore, 1) := by decide +kernel
theorem dL_numbers_281 : decode cL_numbers 281 = .ok (.aload_n 3, 1) := by decide +kernel
theorem dL_numbers_282 : decode cL_numbers 282 = .ok (.iconst 4, 1) := by decide +kernel
theorem dL_numbers_283 : decode cL_numbers 283 = .ok (.iconst 4, 1) := by decide +kernel
theorem dL_numbers_284 : decode cL_numbers 284 = .ok (.iload 5, 2) := by decide +kernel
theorem dL_numbers_286 : decode cL_numbers 286 = .ok (.imul, 1) := by decide +kernel
theorem dL_numbers_287 : decode cL_numbers 287 = .ok (.iadd, 1) := by decide +kernel
theorem dL_numbers_288 : decode cL_numbers 288 = .ok (.iload 7, 2) := by decide +kernel
theorem dL_numbers_290 : decode cL_numbers 290 = .ok (.iconst 3, 1) := by decide +kernel
theorem dL_numbers_291 : decode cL_numbers 291 = .ok (.if_icmp .eq 9, 3) := by decide +kernel
theorem dL_numbers_294 : decode cL_numbers 294 = .ok (.iload 7, 2) := by decide +kernel
theorem dL_numbers_296 : decode cL_numbers 296 = .ok (.iconst 4, 1) := by decide +kernel
theorem dL_numbers_297 : decode cL_numbers 297 = .ok (.if_icmp .ne 14, 3) := by decide +kernel
theorem dL_numbers_300 : decode cL_numbers 300 = .ok (.iload 6, 2) := by decide +kernel
theorem dL_numbers_302 : decode cL_numbers 302 = .ok (.sipush 4096, 3) := by decide +kernel
theorem dL_numbers_305 : decode cL_numbers 305 = .ok (.idiv, 1) := by decide +kernel
theorem dL_numbers_306 : decode cL_numbers 306 = .ok (.iconst 4, 1) := by decide +kernel
theorem dL_numbers_307 : decode cL_numbers 307 = .ok (.irem, 1) := by decide +kernel
theorem dL_numbers_308 : decode cL_numbers 308 = .ok (.goto 4, 3) := by decide +kernel
theorem dL_numbers_311 : decode cL_numbers 311 = .ok (.iconst 0, 1) := by decide +kernel
theorem dL_numbers_312 : decode cL_numbers 312 = .ok (.iastore, 1) := by decide +kernel
theorem dL_numbers_313 : decode cL_numbers 313 = .ok (.aload_n 3, 1) := by decide +kernel
theorem dL_numbers_314 : decode cL_numbers 314 = .ok (.bipush 33, 2) := by decide +kernel
theorem dL_numbers_316 : decode cL_numbers 316 = .ok (.iload 5, 2) := by decide +kernel
theorem dL_numbers_318 : decode cL_numbers 318 = .ok (.iadd, 1) := by decide +kernel
theorem dL_numbers_319 : decode cL_numbers 319 = .ok (.iconst 0, 1) := by decide +kernel
theorem dL_numbers_320 : decode cL_numbers 320 = .ok (.iastore, 1) := by decide +kernel
theorem dL_numbers_321 : decode cL_numbers 321 = .ok (.iinc 5 1, 3) := by decide +kernel
theorem dL_numbers_324 : decode cL_numbers 324 = .ok (.goto (-303), 3) := by decide +kernel
theorem dL_numbers_327 : decode cL_numbers 327 = .ok (.iconst 0, 1) := by decide +kernel
theorem dL_numbers_328 : decode cL_numbers 328 = .ok (.istore 5, 2) := by decide +kernel
theorem dL_numbers_330 : decode cL_numbers 330 = .ok (.iload 5, 2) := by decide +kernel
theorem dL_numbers_332 : decode cL_numbers 332 = .ok (.iload 4, 2) := by decide +kernel
theorem dL_numbers_334 : decode cL_numbers 334 = .ok (.if_icmp .ge 78, 3) := by decide +kernel
theorem dL_numbers_337 : decode cL_numbers 337 = .ok (.iload 5, 2) := by decide +kernel
theorem dL_numbers_339 : decode cL_numbers 339 = .ok (.iconst 1, 1) := by decide +kernel
theorem dL_numbers_340 : decode cL_numbers 340 = .ok (.iadd, 1) := by decide +kernel
theorem dL_numbers_341 : decode cL_numbers 341 = .ok (.istore 6, 2) := by decide +kernel
theorem dL_numbers_343 : decode cL_numbers 343 = .ok (.iload 6, 2) := by decide +kernel
theorem dL_numbers_345 : decode cL_numbers 345 = .ok (.iload 4, 2) := by decide +kernel
theorem dL_numbers_347 : decode cL_numbers 347 = .ok (.if_icmp .ge 59, 3) := by decide +kernel
