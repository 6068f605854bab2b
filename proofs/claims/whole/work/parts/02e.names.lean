set_option maxRecDepth 20000 in
theorem gX10_row_X6_make : GoodIn wsX10_row (wsV RX10 87 RX6 yX6_make wsX6_make) := goodIn_app (goodIn_of _ (by decide +kernel)) ggX10_row_X6_make
theorem dX10_row_0 : decode cX10_row 0 = .ok (.aload_n 0, 1) := by decide +kernel
theorem dX10_row_1 : decode cX10_row 1 = .ok (.getfield 19, 3) := by decide +kernel
theorem dX10_row_4 : decode cX10_row 4 = .ok (.iload_n 1, 1) := by decide +kernel
theorem dX10_row_5 : decode cX10_row 5 = .ok (.invokevirtual 79, 3) := by decide +kernel
theorem dX10_row_8 : decode cX10_row 8 = .ok (.ifCond .eq 9, 3) := by decide +kernel
theorem dX10_row_11 : decode cX10_row 11 = .ok (.iload_n 2, 1) := by decide +kernel
theorem dX10_row_12 : decode cX10_row 12 = .ok (.bipush 60, 2) := by decide +kernel
theorem dX10_row_14 : decode cX10_row 14 = .ok (.if_icmp .le 5, 3) := by decide +kernel
theorem dX10_row_17 : decode cX10_row 17 = .ok (.iconst (-1), 1) := by decide +kernel
theorem dX10_row_18 : decode cX10_row 18 = .ok (.ireturn, 1) := by decide +kernel
theorem dX10_row_19 : decode cX10_row 19 = .ok (.iload_n 2, 1) := by decide +kernel
theorem dX10_row_20 : decode cX10_row 20 = .ok (.ifCond .ge 12, 3) := by decide +kernel
theorem dX10_row_23 : decode cX10_row 23 = .ok (.aload_n 0, 1) := by decide +kernel
theorem dX10_row_24 : decode cX10_row 24 = .ok (.getfield 10, 3) := by decide +kernel
theorem dX10_row_27 : decode cX10_row 27 = .ok (.iconst 5, 1) := by decide +kernel
theorem dX10_row_28 : decode cX10_row 28 = .ok (.invokevirtual 83, 3) := by decide +kernel
theorem dX10_row_31 : decode cX10_row 31 = .ok (.ireturn, 1) := by decide +kernel
theorem dX10_row_32 : decode cX10_row 32 = .ok (.aload_n 0, 1) := by decide +kernel
theorem dX10_row_33 : decode cX10_row 33 = .ok (.getfield 19, 3) := by decide +kernel
theorem dX10_row_36 : decode cX10_row 36 = .ok (.iload_n 1, 1) := by decide +kernel
theorem dX10_row_37 : decode cX10_row 37 = .ok (.iload_n 2, 1) := by decide +kernel
theorem dX10_row_38 : decode cX10_row 38 = .ok (.invokevirtual 87, 3) := by decide +kernel
theorem dX10_row_41 : decode cX10_row 41 = .ok (.iload_n 2, 1) := by decide +kernel
theorem dX10_row_42 : decode cX10_row 42 = .ok (.ireturn, 1) := by decide +kernel
set_option maxRecDepth 20000 in
theorem ggX10_lay_X10_placeRefusal : GoodIn wsX10_lay wsX10_placeRefusal := goodIn_r _ [7, 2, 1, 8, 9, 10, 6, 11, 12, 13, 14, 15, 16, 17, 18, 19, 20, 21, 22, 23, 24, 25, 26, 27, 28, 29, 30, 31, 32, 33, 34, 35, 36, 37, 53, 54, 55, 56, 57, 58, 59, 60, 61, 62, 63, 64, 65, 66, 67, 68, 69] (by decide +kernel) (by decide +kernel)
set_option maxRecDepth 20000 in
theorem gX10_lay_X10_placeRefusal : GoodIn wsX10_lay (wsV RX10 91 RX10 yX10_placeRefusal wsX10_placeRefusal) := goodIn_app (goodIn_of _ (by decide +kernel)) ggX10_lay_X10_placeRefusal
set_option maxRecDepth 20000 in
theorem ggX10_lay_X6_get : GoodIn wsX10_lay wsX6_get := goodIn_r _ [41, 42, 43, 35, 36, 15, 37, 21, 22, 23, 24, 25, 26, 13, 14, 16, 63, 64] (by decide +kernel) (by decide +kernel)
set_option maxRecDepth 20000 in
theorem gX10_lay_X6_get : GoodIn wsX10_lay (wsV RX10 95 RX6 yX6_get wsX6_get) := goodIn_app (goodIn_of _ (by decide +kernel)) ggX10_lay_X6_get
set_option maxRecDepth 20000 in
theorem ggX10_lay_X9_tell : GoodIn wsX10_lay wsX9_tell := goodIn_r _ [47, 48, 65, 66, 67, 68, 69] (by decide +kernel) (by decide +kernel)
set_option maxRecDepth 20000 in
theorem gX10_lay_X9_tell : GoodIn wsX10_lay (wsV RX10 98 RX9 yX9_tell wsX9_tell) := goodIn_app (goodIn_of _ (by decide +kernel)) ggX10_lay_X9_tell
set_option maxRecDepth 20000 in
theorem ggX10_lay_X6_set : GoodIn wsX10_lay wsX6_set := goodIn_r _ [52, 42, 43, 35, 36, 15, 37, 21, 22, 23, 24, 25, 26, 13, 14, 16, 63, 64] (by decide +kernel) (by decide +kernel)
set_option maxRecDepth 20000 in
theorem gX10_lay_X6_set : GoodIn wsX10_lay (wsV RX10 102 RX6 yX6_set wsX6_set) := goodIn_app (goodIn_of _ (by decide +kernel)) ggX10_lay_X6_set
theorem dX10_lay_0 : decode cX10_lay 0 = .ok (.aload_n 0, 1) := by decide +kernel
theorem dX10_lay_1 : decode cX10_lay 1 = .ok (.iload_n 1, 1) := by decide +kernel
theorem dX10_lay_2 : decode cX10_lay 2 = .ok (.iload_n 2, 1) := by decide +kernel
theorem dX10_lay_3 : decode cX10_lay 3 = .ok (.invokevirtual 91, 3) := by decide +kernel
theorem dX10_lay_6 : decode cX10_lay 6 = .ok (.istore 4, 2) := by decide +kernel
theorem dX10_lay_8 : decode cX10_lay 8 = .ok (.iload 4, 2) := by decide +kernel
theorem dX10_lay_10 : decode cX10_lay 10 = .ok (.ifCond .eq 6, 3) := by decide +kernel
theorem dX10_lay_13 : decode cX10_lay 13 = .ok (.iload 4, 2) := by decide +kernel
theorem dX10_lay_15 : decode cX10_lay 15 = .ok (.ireturn, 1) := by decide +kernel
theorem dX10_lay_16 : decode cX10_lay 16 = .ok (.aload_n 0, 1) := by decide +kernel
theorem dX10_lay_17 : decode cX10_lay 17 = .ok (.getfield 10, 3) := by decide +kernel
theorem dX10_lay_20 : decode cX10_lay 20 = .ok (.aload_n 0, 1) := by decide +kernel
theorem dX10_lay_21 : decode cX10_lay 21 = .ok (.getfield 19, 3) := by decide +kernel
theorem dX10_lay_24 : decode cX10_lay 24 = .ok (.iload_n 1, 1) := by decide +kernel
theorem dX10_lay_25 : decode cX10_lay 25 = .ok (.iload_n 2, 1) := by decide +kernel
theorem dX10_lay_26 : decode cX10_lay 26 = .ok (.invokevirtual 95, 3) := by decide +kernel
theorem dX10_lay_29 : decode cX10_lay 29 = .ok (.invokevirtual 98, 3) := by decide +kernel
theorem dX10_lay_32 : decode cX10_lay 32 = .ok (.aload_n 0, 1) := by decide +kernel
theorem dX10_lay_33 : decode cX10_lay 33 = .ok (.getfield 19, 3) := by decide +kernel
theorem dX10_lay_36 : decode cX10_lay 36 = .ok (.iload_n 1, 1) := by decide +kernel
theorem dX10_lay_37 : decode cX10_lay 37 = .ok (.iload_n 2, 1) := by decide +kernel
theorem dX10_lay_38 : decode cX10_lay 38 = .ok (.iload_n 3, 1) := by decide +kernel
theorem dX10_lay_39 : decode cX10_lay 39 = .ok (.invokevirtual 102, 3) := by decide +kernel
theorem dX10_lay_42 : decode cX10_lay 42 = .ok (.iconst 1, 1) := by decide +kernel
theorem dX10_lay_43 : decode cX10_lay 43 = .ok (.ireturn, 1) := by decide +kernel
set_option maxRecDepth 20000 in
theorem ggX10_at_X10_placeRefusal : GoodIn wsX10_at wsX10_placeRefusal := goodIn_r _ [7, 2, 1, 8, 9, 10, 6, 11, 12, 13, 14, 15, 16, 17, 18, 19, 20, 21, 22, 23, 24, 25, 26, 27, 28, 29, 30, 31, 32, 33, 34, 35, 36, 37, 49, 50, 51, 52, 53, 54, 55, 56, 57, 58, 59, 60, 61, 62, 63, 64, 65] (by decide +kernel) (by decide +kernel)
set_option maxRecDepth 20000 in
theorem gX10_at_X10_placeRefusal : GoodIn wsX10_at (wsV RX10 91 RX10 yX10_placeRefusal wsX10_placeRefusal) := goodIn_app (goodIn_of _ (by decide +kernel)) ggX10_at_X10_placeRefusal
set_option maxRecDepth 20000 in
theorem ggX10_at_X6_get : GoodIn wsX10_at wsX6_get := goodIn_r _ [41, 42, 43, 35, 36, 15, 37, 21, 22, 23, 24, 25, 26, 13, 14, 16, 59, 60] (by decide +kernel) (by decide +kernel)
set_option maxRecDepth 20000 in
theorem gX10_at_X6_get : GoodIn wsX10_at (wsV RX10 95 RX6 yX6_get wsX6_get) := goodIn_app (goodIn_of _ (by decide +kernel)) ggX10_at_X6_get
set_option maxRecDepth 20000 in
theorem ggX10_at_X9_tell : GoodIn wsX10_at wsX9_tell := goodIn_r _ [47, 48, 61, 62, 63, 64, 65] (by decide +kernel) (by decide +kernel)
set_option maxRecDepth 20000 in
theorem gX10_at_X9_tell : GoodIn wsX10_at (wsV RX10 98 RX9 yX9_tell wsX9_tell) := goodIn_app (goodIn_of _ (by decide +kernel)) ggX10_at_X9_tell
theorem dX10_at_0 : decode cX10_at 0 = .ok (.aload_n 0, 1) := by decide +kernel
theorem dX10_at_1 : decode cX10_at 1 = .ok (.iload_n 1, 1) := by decide +kernel
theorem dX10_at_2 : decode cX10_at 2 = .ok (.iload_n 2, 1) := by decide +kernel
theorem dX10_at_3 : decode cX10_at 3 = .ok (.invokevirtual 91, 3) := by decide +kernel
theorem dX10_at_6 : decode cX10_at 6 = .ok (.istore_n 3, 1) := by decide +kernel
theorem dX10_at_7 : decode cX10_at 7 = .ok (.iload_n 3, 1) := by decide +kernel
theorem dX10_at_8 : decode cX10_at 8 = .ok (.ifCond .eq 5, 3) := by decide +kernel
theorem dX10_at_11 : decode cX10_at 11 = .ok (.iload_n 3, 1) := by decide +kernel
theorem dX10_at_12 : decode cX10_at 12 = .ok (.ireturn, 1) := by decide +kernel
theorem dX10_at_13 : decode cX10_at 13 = .ok (.aload_n 0, 1) := by decide +kernel
theorem dX10_at_14 : decode cX10_at 14 = .ok (.getfield 10, 3) := by decide +kernel
theorem dX10_at_17 : decode cX10_at 17 = .ok (.aload_n 0, 1) := by decide +kernel
theorem dX10_at_18 : decode cX10_at 18 = .ok (.getfield 19, 3) := by decide +kernel
theorem dX10_at_21 : decode cX10_at 21 = .ok (.iload_n 1, 1) := by decide +kernel
theorem dX10_at_22 : decode cX10_at 22 = .ok (.iload_n 2, 1) := by decide +kernel
theorem dX10_at_23 : decode cX10_at 23 = .ok (.invokevirtual 95, 3) := by decide +kernel
theorem dX10_at_26 : decode cX10_at 26 = .ok (.invokevirtual 98, 3) := by decide +kernel
theorem dX10_at_29 : decode cX10_at 29 = .ok (.iconst 1, 1) := by decide +kernel
theorem dX10_at_30 : decode cX10_at 30 = .ok (.ireturn, 1) := by decide +kernel
set_option maxRecDepth 20000 in
theorem ggX10_tear_X10_rowRefusal : GoodIn wsX10_tear wsX10_rowRefusal := goodIn_r _ [6, 1, 7, 8, 9, 10, 11, 12, 13, 14, 15, 16, 17, 18, 19, 20, 21, 22, 23, 24, 25, 26, 27, 28, 29, 34, 35, 36, 37, 38, 39, 40, 41, 42, 43, 44, 45, 46, 47, 48, 49, 50] (by decide +kernel) (by decide +kernel)
set_option maxRecDepth 20000 in
theorem gX10_tear_X10_rowRefusal : GoodIn wsX10_tear (wsV RX10 106 RX10 yX10_rowRefusal wsX10_rowRefusal) := goodIn_app (goodIn_of _ (by decide +kernel)) ggX10_tear_X10_rowRefusal
set_option maxRecDepth 20000 in
theorem ggX10_tear_X6_remove : GoodIn wsX10_tear wsX6_remove := goodIn_r _ [33, 21, 22, 9, 10, 11, 12, 44, 45] (by decide +kernel) (by decide +kernel)
set_option maxRecDepth 20000 in
theorem gX10_tear_X6_remove : GoodIn wsX10_tear (wsV RX10 109 RX6 yX6_remove wsX6_remove) := goodIn_app (goodIn_of _ (by decide +kernel)) ggX10_tear_X6_remove
theorem dX10_tear_0 : decode cX10_tear 0 = .ok (.aload_n 0, 1) := by decide +kernel
theorem dX10_tear_1 : decode cX10_tear 1 = .ok (.iload_n 1, 1) := by decide +kernel
theorem dX10_tear_2 : decode cX10_tear 2 = .ok (.invokevirtual 106, 3) := by decide +kernel
theorem dX10_tear_5 : decode cX10_tear 5 = .ok (.istore_n 2, 1) := by decide +kernel
theorem dX10_tear_6 : decode cX10_tear 6 = .ok (.iload_n 2, 1) := by decide +kernel
theorem dX10_tear_7 : decode cX10_tear 7 = .ok (.ifCond .eq 5, 3) := by decide +kernel
theorem dX10_tear_10 : decode cX10_tear 10 = .ok (.iload_n 2, 1) := by decide +kernel
theorem dX10_tear_11 : decode cX10_tear 11 = .ok (.ireturn, 1) := by decide +kernel
theorem dX10_tear_12 : decode cX10_tear 12 = .ok (.aload_n 0, 1) := by decide +kernel
theorem dX10_tear_13 : decode cX10_tear 13 = .ok (.getfield 19, 3) := by decide +kernel
theorem dX10_tear_16 : decode cX10_tear 16 = .ok (.iload_n 1, 1) := by decide +kernel
theorem dX10_tear_17 : decode cX10_tear 17 = .ok (.invokevirtual 109, 3) := by decide +kernel
theorem dX10_tear_20 : decode cX10_tear 20 = .ok (.iconst 1, 1) := by decide +kernel
theorem dX10_tear_21 : decode cX10_tear 21 = .ok (.ireturn, 1) := by decide +kernel
set_option maxRecDepth 20000 in
theorem ggX10_copy_X6_isNumber : GoodIn wsX10_copy wsX6_isNumber := goodIn_r _ [7] (by decide +kernel) (by decide +kernel)
set_option maxRecDepth 20000 in
theorem gX10_copy_X6_isNumber : GoodIn wsX10_copy (wsV RX10 79 RX6 yX6_isNumber wsX6_isNumber) := goodIn_app (goodIn_of _ (by decide +kernel)) ggX10_copy_X6_isNumber
set_option maxRecDepth 20000 in
theorem ggX10_copy_X9_found : GoodIn wsX10_copy wsX9_found := goodIn_r _ [12, 13, 14, 49, 50, 51, 52, 53] (by decide +kernel) (by decide +kernel)
set_option maxRecDepth 20000 in
theorem gX10_copy_X9_found : GoodIn wsX10_copy (wsV RX10 83 RX9 yX9_found wsX9_found) := goodIn_app (goodIn_of _ (by decide +kernel)) ggX10_copy_X9_found
set_option maxRecDepth 20000 in
theorem ggX10_copy_X6_isThere : GoodIn wsX10_copy wsX6_isThere := goodIn_r _ [18, 19, 20, 21, 6, 22, 23, 24, 4, 5, 7, 54, 55] (by decide +kernel) (by decide +kernel)
set_option maxRecDepth 20000 in
theorem gX10_copy_X6_isThere : GoodIn wsX10_copy (wsV RX10 112 RX6 yX6_isThere wsX6_isThere) := goodIn_app (goodIn_of _ (by decide +kernel)) ggX10_copy_X6_isThere
set_option maxRecDepth 20000 in
theorem ggX10_copy_X6_hasPlaces : GoodIn wsX10_copy wsX6_hasPlaces := goodIn_r _ [28, 19, 20, 21, 6, 22, 23, 24, 4, 5, 7, 54, 55] (by decide +kernel) (by decide +kernel)
set_option maxRecDepth 20000 in
theorem gX10_copy_X6_hasPlaces : GoodIn wsX10_copy (wsV RX10 115 RX6 yX6_hasPlaces wsX6_hasPlaces) := goodIn_app (goodIn_of _ (by decide +kernel)) ggX10_copy_X6_hasPlaces
set_option maxRecDepth 20000 in
theorem ggX10_copy_X6_move : GoodIn wsX10_copy wsX6_move := goodIn_r _ [32, 33, 34, 35, 36, 37, 38, 26, 27, 6, 28, 19, 20, 21, 22, 23, 24, 4, 5, 7, 54, 55] (by decide +kernel) (by decide +kernel)
set_option maxRecDepth 20000 in
theorem gX10_copy_X6_move : GoodIn wsX10_copy (wsV RX10 119 RX6 yX6_move wsX6_move) := goodIn_app (goodIn_of _ (by decide +kernel)) ggX10_copy_X6_move
theorem dX10_copy_0 : decode cX10_copy 0 = .ok (.aload_n 0, 1) := by decide +kernel
theorem dX10_copy_1 : decode cX10_copy 1 = .ok (.getfield 19, 3) := by decide +kernel
theorem dX10_copy_4 : decode cX10_copy 4 = .ok (.iload_n 1, 1) := by decide +kernel
theorem dX10_copy_5 : decode cX10_copy 5 = .ok (.invokevirtual 79, 3) := by decide +kernel
theorem dX10_copy_8 : decode cX10_copy 8 = .ok (.ifCond .eq 14, 3) := by decide +kernel
theorem dX10_copy_11 : decode cX10_copy 11 = .ok (.aload_n 0, 1) := by decide +kernel
theorem dX10_copy_12 : decode cX10_copy 12 = .ok (.getfield 19, 3) := by decide +kernel
theorem dX10_copy_15 : decode cX10_copy 15 = .ok (.iload_n 3, 1) := by decide +kernel
theorem dX10_copy_16 : decode cX10_copy 16 = .ok (.invokevirtual 79, 3) := by decide +kernel
theorem dX10_copy_19 : decode cX10_copy 19 = .ok (.ifCond .ne 5, 3) := by decide +kernel
theorem dX10_copy_22 : decode cX10_copy 22 = .ok (.iconst (-1), 1) := by decide +kernel
theorem dX10_copy_23 : decode cX10_copy 23 = .ok (.ireturn, 1) := by decide +kernel
theorem dX10_copy_24 : decode cX10_copy 24 = .ok (.iload 5, 2) := by decide +kernel
theorem dX10_copy_26 : decode cX10_copy 26 = .ok (.ifCond .ge 12, 3) := by decide +kernel
theorem dX10_copy_29 : decode cX10_copy 29 = .ok (.aload_n 0, 1) := by decide +kernel
theorem dX10_copy_30 : decode cX10_copy 30 = .ok (.getfield 10, 3) := by decide +kernel
theorem dX10_copy_33 : decode cX10_copy 33 = .ok (.iconst 5, 1) := by decide +kernel
theorem dX10_copy_34 : decode cX10_copy 34 = .ok (.invokevirtual 83, 3) := by decide +kernel
theorem dX10_copy_37 : decode cX10_copy 37 = .ok (.ireturn, 1) := by decide +kernel
theorem dX10_copy_38 : decode cX10_copy 38 = .ok (.aload_n 0, 1) := by decide +kernel
theorem dX10_copy_39 : decode cX10_copy 39 = .ok (.getfield 19, 3) := by decide +kernel
theorem dX10_copy_42 : decode cX10_copy 42 = .ok (.iload_n 1, 1) := by decide +kernel
theorem dX10_copy_43 : decode cX10_copy 43 = .ok (.invokevirtual 112, 3) := by decide +kernel
theorem dX10_copy_46 : decode cX10_copy 46 = .ok (.ifCond .eq 14, 3) := by decide +kernel
theorem dX10_copy_49 : decode cX10_copy 49 = .ok (.aload_n 0, 1) := by decide +kernel
theorem dX10_copy_50 : decode cX10_copy 50 = .ok (.getfield 19, 3) := by decide +kernel
theorem dX10_copy_53 : decode cX10_copy 53 = .ok (.iload_n 3, 1) := by decide +kernel
theorem dX10_copy_54 : decode cX10_copy 54 = .ok (.invokevirtual 112, 3) := by decide +kernel
theorem dX10_copy_57 : decode cX10_copy 57 = .ok (.ifCond .ne 12, 3) := by decide +kernel
theorem dX10_copy_60 : decode cX10_copy 60 = .ok (.aload_n 0, 1) := by decide +kernel
theorem dX10_copy_61 : decode cX10_copy 61 = .ok (.getfield 10, 3) := by decide +kernel
theorem dX10_copy_64 : decode cX10_copy 64 = .ok (.iconst 1, 1) := by decide +kernel
theorem dX10_copy_65 : decode cX10_copy 65 = .ok (.invokevirtual 83, 3) := by decide +kernel
theorem dX10_copy_68 : decode cX10_copy 68 = .ok (.ireturn, 1) := by decide +kernel
theorem dX10_copy_69 : decode cX10_copy 69 = .ok (.aload_n 0, 1) := by decide +kernel
theorem dX10_copy_70 : decode cX10_copy 70 = .ok (.getfield 19, 3) := by decide +kernel
theorem dX10_copy_73 : decode cX10_copy 73 = .ok (.iload_n 1, 1) := by decide +kernel
theorem dX10_copy_74 : decode cX10_copy 74 = .ok (.iload_n 2, 1) := by decide +kernel
theorem dX10_copy_75 : decode cX10_copy 75 = .ok (.iload 5, 2) := by decide +kernel
theorem dX10_copy_77 : decode cX10_copy 77 = .ok (.invokevirtual 115, 3) := by decide +kernel
theorem dX10_copy_80 : decode cX10_copy 80 = .ok (.ifCond .eq 18, 3) := by decide +kernel
theorem dX10_copy_83 : decode cX10_copy 83 = .ok (.aload_n 0, 1) := by decide +kernel
theorem dX10_copy_84 : decode cX10_copy 84 = .ok (.getfield 19, 3) := by decide +kernel
theorem dX10_copy_87 : decode cX10_copy 87 = .ok (.iload_n 3, 1) := by decide +kernel
theorem dX10_copy_88 : decode cX10_copy 88 = .ok (.iload 4, 2) := by decide +kernel
theorem dX10_copy_90 : decode cX10_copy 90 = .ok (.iload 5, 2) := by decide +kernel
theorem dX10_copy_92 : decode cX10_copy 92 = .ok (.invokevirtual 115, 3) := by decide +kernel
theorem dX10_copy_95 : decode cX10_copy 95 = .ok (.ifCond .ne 12, 3) := by decide +kernel
theorem dX10_copy_98 : decode cX10_copy 98 = .ok (.aload_n 0, 1) := by decide +kernel
theorem dX10_copy_99 : decode cX10_copy 99 = .ok (.getfield 10, 3) := by decide +kernel
theorem dX10_copy_102 : decode cX10_copy 102 = .ok (.iconst 2, 1) := by decide +kernel
theorem dX10_copy_103 : decode cX10_copy 103 = .ok (.invokevirtual 83, 3) := by decide +kernel
theorem dX10_copy_106 : decode cX10_copy 106 = .ok (.ireturn, 1) := by decide +kernel
theorem dX10_copy_107 : decode cX10_copy 107 = .ok (.aload_n 0, 1) := by decide +kernel
theorem dX10_copy_108 : decode cX10_copy 108 = .ok (.getfield 19, 3) := by decide +kernel
theorem dX10_copy_111 : decode cX10_copy 111 = .ok (.iload_n 1, 1) := by decide +kernel
theorem dX10_copy_112 : decode cX10_copy 112 = .ok (.iload_n 2, 1) := by decide +kernel
theorem dX10_copy_113 : decode cX10_copy 113 = .ok (.iload_n 3, 1) := by decide +kernel
theorem dX10_copy_114 : decode cX10_copy 114 = .ok (.iload 4, 2) := by decide +kernel
theorem dX10_copy_116 : decode cX10_copy 116 = .ok (.iload 5, 2) := by decide +kernel
theorem dX10_copy_118 : decode cX10_copy 118 = .ok (.invokevirtual 119, 3) := by decide +kernel
theorem dX10_copy_121 : decode cX10_copy 121 = .ok (.iconst 1, 1) := by decide +kernel
theorem dX10_copy_122 : decode cX10_copy 122 = .ok (.ireturn, 1) := by decide +kernel
set_option maxRecDepth 20000 in
theorem ggX10_mean_X10_rowRefusal : GoodIn wsX10_mean wsX10_rowRefusal := goodIn_r _ [7, 1, 2, 8, 9, 10, 11, 12, 13, 14, 15, 16, 17, 18, 19, 20, 21, 22, 23, 24, 25, 26, 27, 28, 29, 49, 50, 51, 52, 53, 54, 55, 56, 57, 58, 59, 60, 61, 62, 63, 64, 65] (by decide +kernel) (by decide +kernel)
set_option maxRecDepth 20000 in
theorem gX10_mean_X10_rowRefusal : GoodIn wsX10_mean (wsV RX10 106 RX10 yX10_rowRefusal wsX10_rowRefusal) := goodIn_app (goodIn_of _ (by decide +kernel)) ggX10_mean_X10_rowRefusal
set_option maxRecDepth 20000 in
theorem ggX10_mean_X6_sizeOf : GoodIn wsX10_mean wsX6_sizeOf := goodIn_r _ [20, 21, 22, 9, 10, 11, 12, 59, 60] (by decide +kernel) (by decide +kernel)
set_option maxRecDepth 20000 in
theorem gX10_mean_X6_sizeOf : GoodIn wsX10_mean (wsV RX10 123 RX6 yX6_sizeOf wsX6_sizeOf) := goodIn_app (goodIn_of _ (by decide +kernel)) ggX10_mean_X6_sizeOf
set_option maxRecDepth 20000 in
theorem ggX10_mean_X9_found : GoodIn wsX10_mean wsX9_found := goodIn_r _ [27, 28, 29, 61, 62, 63, 64, 65] (by decide +kernel) (by decide +kernel)
set_option maxRecDepth 20000 in
theorem gX10_mean_X9_found : GoodIn wsX10_mean (wsV RX10 83 RX9 yX9_found wsX9_found) := goodIn_app (goodIn_of _ (by decide +kernel)) ggX10_mean_X9_found
set_option maxRecDepth 20000 in
theorem ggX10_mean_X6_sumOf : GoodIn wsX10_mean wsX6_sumOf := goodIn_r _ [34, 17, 18, 19, 11, 20, 21, 22, 9, 10, 12, 35, 36, 37, 38, 39, 40, 41, 42, 43, 59, 60] (by decide +kernel) (by decide +kernel)
set_option maxRecDepth 20000 in
theorem gX10_mean_X6_sumOf : GoodIn wsX10_mean (wsV RX10 126 RX6 yX6_sumOf wsX6_sumOf) := goodIn_app (goodIn_of _ (by decide +kernel)) ggX10_mean_X6_sumOf
set_option maxRecDepth 20000 in
theorem ggX10_mean_X9_tell : GoodIn wsX10_mean wsX9_tell := goodIn_r _ [47, 48, 61, 62, 63, 64, 65] (by decide +kernel) (by decide +kernel)
set_option maxRecDepth 20000 in
theorem gX10_mean_X9_tell : GoodIn wsX10_mean (wsV RX10 98 RX9 yX9_tell wsX9_tell) := goodIn_app (goodIn_of _ (by decide +kernel)) ggX10_mean_X9_tell
theorem dX10_mean_0 : decode cX10_mean 0 = .ok (.aload_n 0, 1) := by decide +kernel
theorem dX10_mean_1 : decode cX10_mean 1 = .ok (.iload_n 1, 1) := by decide +kernel
theorem dX10_mean_2 : decode cX10_mean 2 = .ok (.invokevirtual 106, 3) := by decide +kernel
theorem dX10_mean_5 : decode cX10_mean 5 = .ok (.istore_n 2, 1) := by decide +kernel
theorem dX10_mean_6 : decode cX10_mean 6 = .ok (.iload_n 2, 1) := by decide +kernel
theorem dX10_mean_7 : decode cX10_mean 7 = .ok (.ifCond .eq 5, 3) := by decide +kernel
theorem dX10_mean_10 : decode cX10_mean 10 = .ok (.iload_n 2, 1) := by decide +kernel
theorem dX10_mean_11 : decode cX10_mean 11 = .ok (.ireturn, 1) := by decide +kernel
theorem dX10_mean_12 : decode cX10_mean 12 = .ok (.aload_n 0, 1) := by decide +kernel
theorem dX10_mean_13 : decode cX10_mean 13 = .ok (.getfield 19, 3) := by decide +kernel
theorem dX10_mean_16 : decode cX10_mean 16 = .ok (.iload_n 1, 1) := by decide +kernel
theorem dX10_mean_17 : decode cX10_mean 17 = .ok (.invokevirtual 123, 3) := by decide +kernel
theorem dX10_mean_20 : decode cX10_mean 20 = .ok (.istore_n 3, 1) := by decide +kernel
theorem dX10_mean_21 : decode cX10_mean 21 = .ok (.iload_n 3, 1) := by decide +kernel
theorem dX10_mean_22 : decode cX10_mean 22 = .ok (.iconst 1, 1) := by decide +kernel
theorem dX10_mean_23 : decode cX10_mean 23 = .ok (.if_icmp .ge 12, 3) := by decide +kernel
theorem dX10_mean_26 : decode cX10_mean 26 = .ok (.aload_n 0, 1) := by decide +kernel
theorem dX10_mean_27 : decode cX10_mean 27 = .ok (.getfield 10, 3) := by decide +kernel
theorem dX10_mean_30 : decode cX10_mean 30 = .ok (.iconst 4, 1) := by decide +kernel
theorem dX10_mean_31 : decode cX10_mean 31 = .ok (.invokevirtual 83, 3) := by decide +kernel
theorem dX10_mean_34 : decode cX10_mean 34 = .ok (.ireturn, 1) := by decide +kernel
theorem dX10_mean_35 : decode cX10_mean 35 = .ok (.aload_n 0, 1) := by decide +kernel
theorem dX10_mean_36 : decode cX10_mean 36 = .ok (.getfield 10, 3) := by decide +kernel
theorem dX10_mean_39 : decode cX10_mean 39 = .ok (.aload_n 0, 1) := by decide +kernel
theorem dX10_mean_40 : decode cX10_mean 40 = .ok (.getfield 19, 3) := by decide +kernel
theorem dX10_mean_43 : decode cX10_mean 43 = .ok (.iload_n 1, 1) := by decide +kernel
theorem dX10_mean_44 : decode cX10_mean 44 = .ok (.invokevirtual 126, 3) := by decide +kernel
theorem dX10_mean_47 : decode cX10_mean 47 = .ok (.iload_n 3, 1) := by decide +kernel
theorem dX10_mean_48 : decode cX10_mean 48 = .ok (.i2l, 1) := by decide +kernel
theorem dX10_mean_49 : decode cX10_mean 49 = .ok (.ldiv, 1) := by decide +kernel
theorem dX10_mean_50 : decode cX10_mean 50 = .ok (.l2i, 1) := by decide +kernel
theorem dX10_mean_51 : decode cX10_mean 51 = .ok (.invokevirtual 98, 3) := by decide +kernel
theorem dX10_mean_54 : decode cX10_mean 54 = .ok (.iconst 1, 1) := by decide +kernel
theorem dX10_mean_55 : decode cX10_mean 55 = .ok (.ireturn, 1) := by decide +kernel
set_option maxRecDepth 20000 in
theorem ggX10_text_X8_isNumber : GoodIn wsX10_text wsX8_isNumber := goodIn_r _ [7] (by decide +kernel) (by decide +kernel)
set_option maxRecDepth 20000 in
theorem gX10_text_X8_isNumber : GoodIn wsX10_text (wsV RX10 130 RX8 yX8_isNumber wsX8_isNumber) := goodIn_app (goodIn_of _ (by decide +kernel)) ggX10_text_X8_isNumber
set_option maxRecDepth 20000 in
theorem ggX10_text_X9_found : GoodIn wsX10_text wsX9_found := goodIn_r _ [12, 13, 14, 32, 33, 34, 35, 36] (by decide +kernel) (by decide +kernel)
set_option maxRecDepth 20000 in
theorem gX10_text_X9_found : GoodIn wsX10_text (wsV RX10 83 RX9 yX9_found wsX9_found) := goodIn_app (goodIn_of _ (by decide +kernel)) ggX10_text_X9_found
set_option maxRecDepth 20000 in
theorem ggX10_text_X8_make : GoodIn wsX10_text wsX8_make := goodIn_r _ [18, 19, 20, 21, 4, 5, 6, 7, 37, 38] (by decide +kernel) (by decide +kernel)
set_option maxRecDepth 20000 in
theorem gX10_text_X8_make : GoodIn wsX10_text (wsV RX10 131 RX8 yX8_make wsX8_make) := goodIn_app (goodIn_of _ (by decide +kernel)) ggX10_text_X8_make
theorem dX10_text_0 : decode cX10_text 0 = .ok (.aload_n 0, 1) := by decide +kernel
theorem dX10_text_1 : decode cX10_text 1 = .ok (.getfield 26, 3) := by decide +kernel
theorem dX10_text_4 : decode cX10_text 4 = .ok (.iload_n 1, 1) := by decide +kernel
theorem dX10_text_5 : decode cX10_text 5 = .ok (.invokevirtual 130, 3) := by decide +kernel
theorem dX10_text_8 : decode cX10_text 8 = .ok (.ifCond .eq 9, 3) := by decide +kernel
theorem dX10_text_11 : decode cX10_text 11 = .ok (.iload_n 2, 1) := by decide +kernel
theorem dX10_text_12 : decode cX10_text 12 = .ok (.bipush 100, 2) := by decide +kernel
theorem dX10_text_14 : decode cX10_text 14 = .ok (.if_icmp .le 5, 3) := by decide +kernel
theorem dX10_text_17 : decode cX10_text 17 = .ok (.iconst (-1), 1) := by decide +kernel
theorem dX10_text_18 : decode cX10_text 18 = .ok (.ireturn, 1) := by decide +kernel
theorem dX10_text_19 : decode cX10_text 19 = .ok (.iload_n 2, 1) := by decide +kernel
theorem dX10_text_20 : decode cX10_text 20 = .ok (.ifCond .ge 12, 3) := by decide +kernel
theorem dX10_text_23 : decode cX10_text 23 = .ok (.aload_n 0, 1) := by decide +kernel
theorem dX10_text_24 : decode cX10_text 24 = .ok (.getfield 10, 3) := by decide +kernel
theorem dX10_text_27 : decode cX10_text 27 = .ok (.iconst 5, 1) := by decide +kernel
theorem dX10_text_28 : decode cX10_text 28 = .ok (.invokevirtual 83, 3) := by decide +kernel
theorem dX10_text_31 : decode cX10_text 31 = .ok (.ireturn, 1) := by decide +kernel
theorem dX10_text_32 : decode cX10_text 32 = .ok (.aload_n 0, 1) := by decide +kernel
theorem dX10_text_33 : decode cX10_text 33 = .ok (.getfield 26, 3) := by decide +kernel
theorem dX10_text_36 : decode cX10_text 36 = .ok (.iload_n 1, 1) := by decide +kernel
theorem dX10_text_37 : decode cX10_text 37 = .ok (.iload_n 2, 1) := by decide +kernel
theorem dX10_text_38 : decode cX10_text 38 = .ok (.invokevirtual 131, 3) := by decide +kernel
theorem dX10_text_41 : decode cX10_text 41 = .ok (.iload_n 2, 1) := by decide +kernel
theorem dX10_text_42 : decode cX10_text 42 = .ok (.ireturn, 1) := by decide +kernel
set_option maxRecDepth 20000 in
theorem ggX10_put_X10_textRefusal : GoodIn wsX10_put wsX10_textRefusal := goodIn_r _ [7, 1, 2, 8, 9, 10, 11, 12, 13, 14, 15, 16, 17, 18, 19, 20, 21, 22, 23, 24, 25, 26, 27, 28, 29, 44, 45, 46, 47, 48, 49, 50, 51, 52, 53, 54, 55, 56, 57, 58, 59, 60] (by decide +kernel) (by decide +kernel)
set_option maxRecDepth 20000 in
theorem gX10_put_X10_textRefusal : GoodIn wsX10_put (wsV RX10 132 RX10 yX10_textRefusal wsX10_textRefusal) := goodIn_app (goodIn_of _ (by decide +kernel)) ggX10_put_X10_textRefusal
set_option maxRecDepth 20000 in
theorem ggX10_put_X8_isPlace : GoodIn wsX10_put wsX8_isPlace := goodIn_r _ [33, 17, 18, 19, 11, 20, 21, 22, 9, 10, 12, 54, 55] (by decide +kernel) (by decide +kernel)
set_option maxRecDepth 20000 in
theorem gX10_put_X8_isPlace : GoodIn wsX10_put (wsV RX10 135 RX8 yX8_isPlace wsX8_isPlace) := goodIn_app (goodIn_of _ (by decide +kernel)) ggX10_put_X8_isPlace
set_option maxRecDepth 20000 in
theorem ggX10_put_X9_found : GoodIn wsX10_put wsX9_found := goodIn_r _ [27, 28, 29, 56, 57, 58, 59, 60] (by decide +kernel) (by decide +kernel)
set_option maxRecDepth 20000 in
theorem gX10_put_X9_found : GoodIn wsX10_put (wsV RX10 83 RX9 yX9_found wsX9_found) := goodIn_app (goodIn_of _ (by decide +kernel)) ggX10_put_X9_found
set_option maxRecDepth 20000 in
theorem ggX10_put_X8_get : GoodIn wsX10_put wsX8_get := goodIn_r _ [37, 38, 39, 31, 32, 11, 33, 17, 18, 19, 20, 21, 22, 9, 10, 12, 54, 55] (by decide +kernel) (by decide +kernel)
set_option maxRecDepth 20000 in
theorem gX10_put_X8_get : GoodIn wsX10_put (wsV RX10 139 RX8 yX8_get wsX8_get) := goodIn_app (goodIn_of _ (by decide +kernel)) ggX10_put_X8_get
set_option maxRecDepth 20000 in
theorem ggX10_put_X8_set : GoodIn wsX10_put wsX8_set := goodIn_r _ [43, 38, 39, 31, 32, 11, 33, 17, 18, 19, 20, 21, 22, 9, 10, 12, 54, 55] (by decide +kernel) (by decide +kernel)
set_option maxRecDepth 20000 in
theorem gX10_put_X8_set : GoodIn wsX10_put (wsV RX10 140 RX8 yX8_set wsX8_set) := goodIn_app (goodIn_of _ (by decide +kernel)) ggX10_put_X8_set
theorem dX10_put_0 : decode cX10_put 0 = .ok (.aload_n 0, 1) := by decide +kernel
theorem dX10_put_1 : decode cX10_put 1 = .ok (.iload_n 1, 1) := by decide +kernel
theorem dX10_put_2 : decode cX10_put 2 = .ok (.invokevirtual 132, 3) := by decide +kernel
theorem dX10_put_5 : decode cX10_put 5 = .ok (.istore 4, 2) := by decide +kernel
theorem dX10_put_7 : decode cX10_put 7 = .ok (.iload 4, 2) := by decide +kernel
theorem dX10_put_9 : decode cX10_put 9 = .ok (.ifCond .eq 6, 3) := by decide +kernel
theorem dX10_put_12 : decode cX10_put 12 = .ok (.iload 4, 2) := by decide +kernel
theorem dX10_put_14 : decode cX10_put 14 = .ok (.ireturn, 1) := by decide +kernel
theorem dX10_put_15 : decode cX10_put 15 = .ok (.aload_n 0, 1) := by decide +kernel
theorem dX10_put_16 : decode cX10_put 16 = .ok (.getfield 26, 3) := by decide +kernel
theorem dX10_put_19 : decode cX10_put 19 = .ok (.iload_n 1, 1) := by decide +kernel
theorem dX10_put_20 : decode cX10_put 20 = .ok (.iload_n 2, 1) := by decide +kernel
theorem dX10_put_21 : decode cX10_put 21 = .ok (.invokevirtual 135, 3) := by decide +kernel
theorem dX10_put_24 : decode cX10_put 24 = .ok (.ifCond .ne 12, 3) := by decide +kernel
theorem dX10_put_27 : decode cX10_put 27 = .ok (.aload_n 0, 1) := by decide +kernel
theorem dX10_put_28 : decode cX10_put 28 = .ok (.getfield 10, 3) := by decide +kernel
theorem dX10_put_31 : decode cX10_put 31 = .ok (.iconst 2, 1) := by decide +kernel
theorem dX10_put_32 : decode cX10_put 32 = .ok (.invokevirtual 83, 3) := by decide +kernel
theorem dX10_put_35 : decode cX10_put 35 = .ok (.ireturn, 1) := by decide +kernel
theorem dX10_put_36 : decode cX10_put 36 = .ok (.aload_n 0, 1) := by decide +kernel
theorem dX10_put_37 : decode cX10_put 37 = .ok (.getfield 26, 3) := by decide +kernel
theorem dX10_put_40 : decode cX10_put 40 = .ok (.iload_n 1, 1) := by decide +kernel
theorem dX10_put_41 : decode cX10_put 41 = .ok (.iload_n 2, 1) := by decide +kernel
theorem dX10_put_42 : decode cX10_put 42 = .ok (.invokevirtual 139, 3) := by decide +kernel
theorem dX10_put_45 : decode cX10_put 45 = .ok (.istore 5, 2) := by decide +kernel
theorem dX10_put_47 : decode cX10_put 47 = .ok (.aload_n 0, 1) := by decide +kernel
theorem dX10_put_48 : decode cX10_put 48 = .ok (.getfield 26, 3) := by decide +kernel
theorem dX10_put_51 : decode cX10_put 51 = .ok (.iload_n 1, 1) := by decide +kernel
theorem dX10_put_52 : decode cX10_put 52 = .ok (.iload_n 2, 1) := by decide +kernel
theorem dX10_put_53 : decode cX10_put 53 = .ok (.iload_n 3, 1) := by decide +kernel
theorem dX10_put_54 : decode cX10_put 54 = .ok (.i2b, 1) := by decide +kernel
theorem dX10_put_55 : decode cX10_put 55 = .ok (.invokevirtual 140, 3) := by decide +kernel
theorem dX10_put_58 : decode cX10_put 58 = .ok (.iload 5, 2) := by decide +kernel
theorem dX10_put_60 : decode cX10_put 60 = .ok (.sipush 1000, 3) := by decide +kernel
theorem dX10_put_63 : decode cX10_put 63 = .ok (.iadd, 1) := by decide +kernel
theorem dX10_put_64 : decode cX10_put 64 = .ok (.ireturn, 1) := by decide +kernel
set_option maxRecDepth 20000 in
theorem ggX10_fault_X10_textRefusal : GoodIn wsX10_fault wsX10_textRefusal := goodIn_r _ [7, 2, 8, 9, 10, 11, 12, 13, 14, 15, 16, 17, 18, 19, 20, 21, 22, 23, 24, 25, 26, 27, 28, 29, 30, 154, 155, 156, 157, 158, 159, 160, 161, 162, 163, 164, 165, 166, 167, 168, 169, 170] (by decide +kernel) (by decide +kernel)
set_option maxRecDepth 20000 in
theorem gX10_fault_X10_textRefusal : GoodIn wsX10_fault (wsV RX10 132 RX10 yX10_textRefusal wsX10_textRefusal) := goodIn_app (goodIn_of _ (by decide +kernel)) ggX10_fault_X10_textRefusal
set_option maxRecDepth 20000 in
theorem ggX10_fault_X5_read : GoodIn wsX10_fault wsX5_read := goodIn_r _ [35, 36, 37, 38, 39, 19, 20, 12, 21, 22, 23, 10, 11, 13, 40, 41, 42, 43, 44, 45, 46, 47, 48, 18, 49, 50, 51, 34, 52, 53, 54, 55, 56, 57, 58, 59, 60, 61, 62, 63, 64, 65, 66, 67, 68, 69, 70, 71, 72, 73, 74, 75, 76, 77, 78, 79, 80, 81, 82, 83, 84, 85, 86, 87, 88, 89, 90, 91, 92, 93, 94, 95, 96, 97, 98, 99, 100, 101, 102, 103, 104, 105, 106, 107, 108, 109, 110, 111, 112, 113, 114, 115, 116, 117, 118, 119, 120, 121, 122, 123, 124, 125, 126, 127, 128, 129, 130, 131, 132, 133, 134, 135, 136, 137, 138, 139, 140, 141, 142, 143, 144, 145, 146, 147, 148, 149, 150, 151, 152, 153, 171, 172, 173, 174, 175, 164, 165, 176, 177, 178, 179, 180, 181, 182, 183] (by decide +kernel) (by decide +kernel)
set_option maxRecDepth 20000 in
theorem gX10_fault_X5_read : GoodIn wsX10_fault (wsV RX10 143 RX5 yX5_read wsX5_read) := goodIn_app (goodIn_of _ (by decide +kernel)) ggX10_fault_X5_read
theorem dX10_fault_0 : decode cX10_fault 0 = .ok (.aload_n 0, 1) := by decide +kernel
theorem dX10_fault_1 : decode cX10_fault 1 = .ok (.iload_n 1, 1) := by decide +kernel
theorem dX10_fault_2 : decode cX10_fault 2 = .ok (.invokevirtual 132, 3) := by decide +kernel
theorem dX10_fault_5 : decode cX10_fault 5 = .ok (.istore_n 2, 1) := by decide +kernel
theorem dX10_fault_6 : decode cX10_fault 6 = .ok (.iload_n 2, 1) := by decide +kernel
theorem dX10_fault_7 : decode cX10_fault 7 = .ok (.ifCond .eq 5, 3) := by decide +kernel
theorem dX10_fault_10 : decode cX10_fault 10 = .ok (.iload_n 2, 1) := by decide +kernel
theorem dX10_fault_11 : decode cX10_fault 11 = .ok (.ireturn, 1) := by decide +kernel
theorem dX10_fault_12 : decode cX10_fault 12 = .ok (.aload_n 0, 1) := by decide +kernel
theorem dX10_fault_13 : decode cX10_fault 13 = .ok (.getfield 33, 3) := by decide +kernel
theorem dX10_fault_16 : decode cX10_fault 16 = .ok (.aload_n 0, 1) := by decide +kernel
theorem dX10_fault_17 : decode cX10_fault 17 = .ok (.getfield 26, 3) := by decide +kernel
theorem dX10_fault_20 : decode cX10_fault 20 = .ok (.iload_n 1, 1) := by decide +kernel
theorem dX10_fault_21 : decode cX10_fault 21 = .ok (.invokevirtual 143, 3) := by decide +kernel
theorem dX10_fault_24 : decode cX10_fault 24 = .ok (.ireturn, 1) := by decide +kernel
set_option maxRecDepth 20000 in
theorem ggX10_jail_X10_textRefusal : GoodIn wsX10_jail wsX10_textRefusal := goodIn_r _ [10, 2, 11, 12, 13, 14, 15, 16, 17, 18, 19, 20, 21, 22, 23, 24, 25, 26, 27, 28, 29, 30, 31, 32, 33, 193, 194, 195, 196, 197, 198, 199, 200, 201, 202, 203, 204, 205, 206, 207, 208, 209] (by decide +kernel) (by decide +kernel)
set_option maxRecDepth 20000 in
theorem gX10_jail_X10_textRefusal : GoodIn wsX10_jail (wsV RX10 132 RX10 yX10_textRefusal wsX10_textRefusal) := goodIn_app (goodIn_of _ (by decide +kernel)) ggX10_jail_X10_textRefusal
set_option maxRecDepth 20000 in
theorem ggX10_jail_X5_read : GoodIn wsX10_jail wsX5_read := goodIn_r _ [38, 39, 40, 41, 42, 22, 23, 15, 24, 25, 26, 13, 14, 16, 43, 44, 45, 46, 47, 48, 49, 50, 51, 21, 52, 53, 54, 37, 55, 56, 57, 58, 59, 60, 61, 62, 63, 64, 65, 66, 67, 68, 69, 70, 71, 72, 73, 74, 75, 76, 77, 78, 79, 80, 81, 82, 83, 84, 85, 86, 87, 88, 89, 90, 91, 92, 93, 94, 95, 96, 97, 98, 99, 100, 101, 102, 103, 104, 105, 106, 107, 108, 109, 110, 111, 112, 113, 114, 115, 116, 117, 118, 119, 120, 121, 122, 123, 124, 125, 126, 127, 128, 129, 130, 131, 132, 133, 134, 135, 136, 137, 138, 139, 140, 141, 142, 143, 144, 145, 146, 147, 148, 149, 150, 151, 152, 153, 154, 155, 156, 210, 211, 212, 213, 214, 203, 204, 215, 216, 217, 218, 219, 220, 221, 222] (by decide +kernel) (by decide +kernel)
set_option maxRecDepth 20000 in
theorem gX10_jail_X5_read : GoodIn wsX10_jail (wsV RX10 143 RX5 yX5_read wsX5_read) := goodIn_app (goodIn_of _ (by decide +kernel)) ggX10_jail_X5_read
set_option maxRecDepth 20000 in
theorem ggX10_jail_X5_draft : GoodIn wsX10_jail wsX5_draft := goodIn_r _ [160, 121, 210, 211, 212, 213, 214] (by decide +kernel) (by decide +kernel)
set_option maxRecDepth 20000 in
theorem gX10_jail_X5_draft : GoodIn wsX10_jail (wsV RX10 147 RX5 yX5_draft wsX5_draft) := goodIn_app (goodIn_of _ (by decide +kernel)) ggX10_jail_X5_draft
set_option maxRecDepth 20000 in
theorem ggX10_jail_X2_become : GoodIn wsX10_jail wsX2_become := goodIn_r _ [164, 127, 147, 148, 149, 150, 142, 165, 137, 138, 125, 139, 140, 141, 143, 144, 145, 146, 151, 123, 124, 126, 215, 216, 217, 218, 219, 220, 221, 222] (by decide +kernel) (by decide +kernel)
set_option maxRecDepth 20000 in
theorem gX10_jail_X2_become : GoodIn wsX10_jail (wsV RX10 151 RX2 yX2_become wsX2_become) := goodIn_app (goodIn_of _ (by decide +kernel)) ggX10_jail_X2_become
set_option maxRecDepth 20000 in
theorem ggX10_jail_X1_clear : GoodIn wsX10_jail wsX1_clear := goodIn_r _ [170, 171, 172, 173, 169, 174, 175, 176, 177, 178, 179, 180, 181, 182, 223, 224, 225, 226] (by decide +kernel) (by decide +kernel)
set_option maxRecDepth 20000 in
theorem gX10_jail_X1_clear : GoodIn wsX10_jail (wsV RX10 155 RX1 yX1_clear wsX1_clear) := goodIn_app (goodIn_of _ (by decide +kernel)) ggX10_jail_X1_clear
set_option maxRecDepth 20000 in
theorem ggX10_jail_X7_dropFrom : GoodIn wsX10_jail wsX7_dropFrom := goodIn_r _ [187, 188, 227, 228, 229] (by decide +kernel) (by decide +kernel)
set_option maxRecDepth 20000 in
theorem gX10_jail_X7_dropFrom : GoodIn wsX10_jail (wsV RX10 158 RX7 yX7_dropFrom wsX7_dropFrom) := goodIn_app (goodIn_of _ (by decide +kernel)) ggX10_jail_X7_dropFrom
set_option maxRecDepth 20000 in
theorem ggX10_jail_X2_cells : GoodIn wsX10_jail wsX2_cells := goodIn_r _ [192, 127, 215, 216, 217, 218, 219, 220, 221, 222] (by decide +kernel) (by decide +kernel)
set_option maxRecDepth 20000 in
theorem gX10_jail_X2_cells : GoodIn wsX10_jail (wsV RX10 161 RX2 yX2_cells wsX2_cells) := goodIn_app (goodIn_of _ (by decide +kernel)) ggX10_jail_X2_cells
theorem dX10_jail_0 : decode cX10_jail 0 = .ok (.aload_n 0, 1) := by decide +kernel
theorem dX10_jail_1 : decode cX10_jail 1 = .ok (.iload_n 1, 1) := by decide +kernel
theorem dX10_jail_2 : decode cX10_jail 2 = .ok (.invokevirtual 132, 3) := by decide +kernel
theorem dX10_jail_5 : decode cX10_jail 5 = .ok (.istore_n 2, 1) := by decide +kernel
theorem dX10_jail_6 : decode cX10_jail 6 = .ok (.iload_n 2, 1) := by decide +kernel
theorem dX10_jail_7 : decode cX10_jail 7 = .ok (.ifCond .eq 5, 3) := by decide +kernel
theorem dX10_jail_10 : decode cX10_jail 10 = .ok (.iload_n 2, 1) := by decide +kernel
theorem dX10_jail_11 : decode cX10_jail 11 = .ok (.ireturn, 1) := by decide +kernel
theorem dX10_jail_12 : decode cX10_jail 12 = .ok (.aload_n 0, 1) := by decide +kernel
theorem dX10_jail_13 : decode cX10_jail 13 = .ok (.getfield 33, 3) := by decide +kernel
theorem dX10_jail_16 : decode cX10_jail 16 = .ok (.aload_n 0, 1) := by decide +kernel
theorem dX10_jail_17 : decode cX10_jail 17 = .ok (.getfield 26, 3) := by decide +kernel
theorem dX10_jail_20 : decode cX10_jail 20 = .ok (.iload_n 1, 1) := by decide +kernel
theorem dX10_jail_21 : decode cX10_jail 21 = .ok (.invokevirtual 143, 3) := by decide +kernel
theorem dX10_jail_24 : decode cX10_jail 24 = .ok (.bipush (-9), 2) := by decide +kernel
theorem dX10_jail_26 : decode cX10_jail 26 = .ok (.if_icmp .eq 6, 3) := by decide +kernel
theorem dX10_jail_29 : decode cX10_jail 29 = .ok (.bipush (-4), 2) := by decide +kernel
theorem dX10_jail_31 : decode cX10_jail 31 = .ok (.ireturn, 1) := by decide +kernel
theorem dX10_jail_32 : decode cX10_jail 32 = .ok (.aload_n 0, 1) := by decide +kernel
theorem dX10_jail_33 : decode cX10_jail 33 = .ok (.getfield 40, 3) := by decide +kernel
theorem dX10_jail_36 : decode cX10_jail 36 = .ok (.aload_n 0, 1) := by decide +kernel
theorem dX10_jail_37 : decode cX10_jail 37 = .ok (.getfield 33, 3) := by decide +kernel
theorem dX10_jail_40 : decode cX10_jail 40 = .ok (.invokevirtual 147, 3) := by decide +kernel
theorem dX10_jail_43 : decode cX10_jail 43 = .ok (.invokevirtual 151, 3) := by decide +kernel
theorem dX10_jail_46 : decode cX10_jail 46 = .ok (.aload_n 0, 1) := by decide +kernel
theorem dX10_jail_47 : decode cX10_jail 47 = .ok (.getfield 47, 3) := by decide +kernel
theorem dX10_jail_50 : decode cX10_jail 50 = .ok (.invokevirtual 155, 3) := by decide +kernel
theorem dX10_jail_53 : decode cX10_jail 53 = .ok (.aload_n 0, 1) := by decide +kernel
theorem dX10_jail_54 : decode cX10_jail 54 = .ok (.getfield 75, 3) := by decide +kernel
theorem dX10_jail_57 : decode cX10_jail 57 = .ok (.iconst 0, 1) := by decide +kernel
theorem dX10_jail_58 : decode cX10_jail 58 = .ok (.invokevirtual 158, 3) := by decide +kernel
theorem dX10_jail_61 : decode cX10_jail 61 = .ok (.pop, 1) := by decide +kernel
theorem dX10_jail_62 : decode cX10_jail 62 = .ok (.aload_n 0, 1) := by decide +kernel
theorem dX10_jail_63 : decode cX10_jail 63 = .ok (.getfield 40, 3) := by decide +kernel
theorem dX10_jail_66 : decode cX10_jail 66 = .ok (.invokevirtual 161, 3) := by decide +kernel
theorem dX10_jail_69 : decode cX10_jail 69 = .ok (.ireturn, 1) := by decide +kernel
set_option maxRecDepth 20000 in
theorem ggX10_door_X2_isCell : GoodIn wsX10_door wsX2_isCell := goodIn_r _ [7, 8, 34, 35, 36, 37, 38, 39, 40, 41] (by decide +kernel) (by decide +kernel)
set_option maxRecDepth 20000 in
theorem gX10_door_X2_isCell : GoodIn wsX10_door (wsV RX10 165 RX2 yX2_isCell wsX2_isCell) := goodIn_app (goodIn_of _ (by decide +kernel)) ggX10_door_X2_isCell
set_option maxRecDepth 20000 in
theorem ggX10_door_X2_doorAnswer : GoodIn wsX10_door wsX2_doorAnswer := goodIn_r _ [12, 13, 14, 15, 16, 17, 4, 5, 6, 7, 8, 34, 35, 36, 37, 38, 39, 40, 41] (by decide +kernel) (by decide +kernel)
set_option maxRecDepth 20000 in
theorem gX10_door_X2_doorAnswer : GoodIn wsX10_door (wsV RX10 168 RX2 yX2_doorAnswer wsX2_doorAnswer) := goodIn_app (goodIn_of _ (by decide +kernel)) ggX10_door_X2_doorAnswer
set_option maxRecDepth 20000 in
theorem ggX10_door_X9_tell : GoodIn wsX10_door wsX9_tell := goodIn_r _ [22, 23, 42, 43, 44, 45, 46] (by decide +kernel) (by decide +kernel)
set_option maxRecDepth 20000 in
theorem gX10_door_X9_tell : GoodIn wsX10_door (wsV RX10 98 RX9 yX9_tell wsX9_tell) := goodIn_app (goodIn_of _ (by decide +kernel)) ggX10_door_X9_tell
theorem dX10_door_0 : decode cX10_door 0 = .ok (.aload_n 0, 1) := by decide +kernel
theorem dX10_door_1 : decode cX10_door 1 = .ok (.getfield 40, 3) := by decide +kernel
theorem dX10_door_4 : decode cX10_door 4 = .ok (.iload_n 1, 1) := by decide +kernel
theorem dX10_door_5 : decode cX10_door 5 = .ok (.invokevirtual 165, 3) := by decide +kernel
theorem dX10_door_8 : decode cX10_door 8 = .ok (.ifCond .eq 12, 3) := by decide +kernel
theorem dX10_door_11 : decode cX10_door 11 = .ok (.iload_n 2, 1) := by decide +kernel
theorem dX10_door_12 : decode cX10_door 12 = .ok (.ifCond .lt 8, 3) := by decide +kernel
theorem dX10_door_15 : decode cX10_door 15 = .ok (.iload_n 2, 1) := by decide +kernel
theorem dX10_door_16 : decode cX10_door 16 = .ok (.iconst 4, 1) := by decide +kernel
theorem dX10_door_17 : decode cX10_door 17 = .ok (.if_icmp .lt 5, 3) := by decide +kernel
theorem dX10_door_20 : decode cX10_door 20 = .ok (.iconst (-1), 1) := by decide +kernel
theorem dX10_door_21 : decode cX10_door 21 = .ok (.ireturn, 1) := by decide +kernel
theorem dX10_door_22 : decode cX10_door 22 = .ok (.aload_n 0, 1) := by decide +kernel
theorem dX10_door_23 : decode cX10_door 23 = .ok (.getfield 10, 3) := by decide +kernel
theorem dX10_door_26 : decode cX10_door 26 = .ok (.aload_n 0, 1) := by decide +kernel
theorem dX10_door_27 : decode cX10_door 27 = .ok (.getfield 40, 3) := by decide +kernel
theorem dX10_door_30 : decode cX10_door 30 = .ok (.iload_n 1, 1) := by decide +kernel
theorem dX10_door_31 : decode cX10_door 31 = .ok (.iload_n 2, 1) := by decide +kernel
theorem dX10_door_32 : decode cX10_door 32 = .ok (.invokevirtual 168, 3) := by decide +kernel
theorem dX10_door_35 : decode cX10_door 35 = .ok (.invokevirtual 98, 3) := by decide +kernel
theorem dX10_door_38 : decode cX10_door 38 = .ok (.iconst 1, 1) := by decide +kernel
theorem dX10_door_39 : decode cX10_door 39 = .ok (.ireturn, 1) := by decide +kernel
set_option maxRecDepth 20000 in
theorem ggX10_mark_X2_isCell : GoodIn wsX10_mark wsX2_isCell := goodIn_r _ [7, 8, 50, 51, 52, 53, 54, 55, 56, 57] (by decide +kernel) (by decide +kernel)
set_option maxRecDepth 20000 in
theorem gX10_mark_X2_isCell : GoodIn wsX10_mark (wsV RX10 165 RX2 yX2_isCell wsX2_isCell) := goodIn_app (goodIn_of _ (by decide +kernel)) ggX10_mark_X2_isCell
set_option maxRecDepth 20000 in
theorem ggX10_mark_X2_isOf : GoodIn wsX10_mark wsX2_isOf := goodIn_r _ [12, 13, 14, 4, 5, 6, 7, 8, 50, 51, 52, 53, 54, 55, 56, 57] (by decide +kernel) (by decide +kernel)
set_option maxRecDepth 20000 in
theorem gX10_mark_X2_isOf : GoodIn wsX10_mark (wsV RX10 171 RX2 yX2_isOf wsX2_isOf) := goodIn_app (goodIn_of _ (by decide +kernel)) ggX10_mark_X2_isOf
set_option maxRecDepth 20000 in
theorem ggX10_mark_X9_found : GoodIn wsX10_mark wsX9_found := goodIn_r _ [19, 20, 21, 58, 59, 60, 61, 62] (by decide +kernel) (by decide +kernel)
set_option maxRecDepth 20000 in
theorem gX10_mark_X9_found : GoodIn wsX10_mark (wsV RX10 83 RX9 yX9_found wsX9_found) := goodIn_app (goodIn_of _ (by decide +kernel)) ggX10_mark_X9_found
set_option maxRecDepth 20000 in
theorem ggX10_mark_X2_markOf : GoodIn wsX10_mark wsX2_markOf := goodIn_r _ [25, 26, 27, 28, 29, 30, 31, 32, 33, 34, 35, 14, 4, 5, 6, 7, 8, 36, 37, 38, 39, 50, 51, 52, 53, 54, 55, 56, 57] (by decide +kernel) (by decide +kernel)
set_option maxRecDepth 20000 in
theorem gX10_mark_X2_markOf : GoodIn wsX10_mark (wsV RX10 174 RX2 yX2_markOf wsX2_markOf) := goodIn_app (goodIn_of _ (by decide +kernel)) ggX10_mark_X2_markOf
theorem dX10_mark_0 : decode cX10_mark 0 = .ok (.aload_n 0, 1) := by decide +kernel
theorem dX10_mark_1 : decode cX10_mark 1 = .ok (.getfield 40, 3) := by decide +kernel
theorem dX10_mark_4 : decode cX10_mark 4 = .ok (.iload_n 1, 1) := by decide +kernel
theorem dX10_mark_5 : decode cX10_mark 5 = .ok (.invokevirtual 165, 3) := by decide +kernel
theorem dX10_mark_8 : decode cX10_mark 8 = .ok (.ifCond .eq 12, 3) := by decide +kernel
theorem dX10_mark_11 : decode cX10_mark 11 = .ok (.iload_n 2, 1) := by decide +kernel
theorem dX10_mark_12 : decode cX10_mark 12 = .ok (.ifCond .le 8, 3) := by decide +kernel
theorem dX10_mark_15 : decode cX10_mark 15 = .ok (.iload_n 2, 1) := by decide +kernel
theorem dX10_mark_16 : decode cX10_mark 16 = .ok (.iconst 5, 1) := by decide +kernel
theorem dX10_mark_17 : decode cX10_mark 17 = .ok (.if_icmp .le 5, 3) := by decide +kernel
theorem dX10_mark_20 : decode cX10_mark 20 = .ok (.iconst (-1), 1) := by decide +kernel
theorem dX10_mark_21 : decode cX10_mark 21 = .ok (.ireturn, 1) := by decide +kernel
theorem dX10_mark_22 : decode cX10_mark 22 = .ok (.aload_n 0, 1) := by decide +kernel
theorem dX10_mark_23 : decode cX10_mark 23 = .ok (.getfield 40, 3) := by decide +kernel
theorem dX10_mark_26 : decode cX10_mark 26 = .ok (.iload_n 1, 1) := by decide +kernel
theorem dX10_mark_27 : decode cX10_mark 27 = .ok (.iload_n 2, 1) := by decide +kernel
theorem dX10_mark_28 : decode cX10_mark 28 = .ok (.invokevirtual 171, 3) := by decide +kernel
theorem dX10_mark_31 : decode cX10_mark 31 = .ok (.ifCond .ne 12, 3) := by decide +kernel
theorem dX10_mark_34 : decode cX10_mark 34 = .ok (.aload_n 0, 1) := by decide +kernel
theorem dX10_mark_35 : decode cX10_mark 35 = .ok (.getfield 10, 3) := by decide +kernel
theorem dX10_mark_38 : decode cX10_mark 38 = .ok (.iconst 3, 1) := by decide +kernel
theorem dX10_mark_39 : decode cX10_mark 39 = .ok (.invokevirtual 83, 3) := by decide +kernel
theorem dX10_mark_42 : decode cX10_mark 42 = .ok (.ireturn, 1) := by decide +kernel
theorem dX10_mark_43 : decode cX10_mark 43 = .ok (.aload_n 0, 1) := by decide +kernel
theorem dX10_mark_44 : decode cX10_mark 44 = .ok (.getfield 40, 3) := by decide +kernel
theorem dX10_mark_47 : decode cX10_mark 47 = .ok (.iload_n 1, 1) := by decide +kernel
theorem dX10_mark_48 : decode cX10_mark 48 = .ok (.iload_n 2, 1) := by decide +kernel
theorem dX10_mark_49 : decode cX10_mark 49 = .ok (.invokevirtual 174, 3) := by decide +kernel
theorem dX10_mark_52 : decode cX10_mark 52 = .ok (.ireturn, 1) := by decide +kernel
set_option maxRecDepth 20000 in
theorem ggX10_key_X2_isCell : GoodIn wsX10_key wsX2_isCell := goodIn_r _ [7, 8, 42, 43, 44, 45, 46, 47, 48, 49] (by decide +kernel) (by decide +kernel)
set_option maxRecDepth 20000 in
theorem gX10_key_X2_isCell : GoodIn wsX10_key (wsV RX10 165 RX2 yX2_isCell wsX2_isCell) := goodIn_app (goodIn_of _ (by decide +kernel)) ggX10_key_X2_isCell
set_option maxRecDepth 20000 in
theorem ggX10_key_X2_mayKeep : GoodIn wsX10_key wsX2_mayKeep := goodIn_r _ [12, 13, 14, 15, 4, 5, 6, 7, 8, 42, 43, 44, 45, 46, 47, 48, 49] (by decide +kernel) (by decide +kernel)
set_option maxRecDepth 20000 in
theorem gX10_key_X2_mayKeep : GoodIn wsX10_key (wsV RX10 177 RX2 yX2_mayKeep wsX2_mayKeep) := goodIn_app (goodIn_of _ (by decide +kernel)) ggX10_key_X2_mayKeep
set_option maxRecDepth 20000 in
theorem ggX10_key_X9_found : GoodIn wsX10_key wsX9_found := goodIn_r _ [20, 21, 22, 50, 51, 52, 53, 54] (by decide +kernel) (by decide +kernel)
set_option maxRecDepth 20000 in
theorem gX10_key_X9_found : GoodIn wsX10_key (wsV RX10 83 RX9 yX9_found wsX9_found) := goodIn_app (goodIn_of _ (by decide +kernel)) ggX10_key_X9_found
set_option maxRecDepth 20000 in
theorem ggX10_key_X2_keeperOf : GoodIn wsX10_key wsX2_keeperOf := goodIn_r _ [26, 27, 15, 4, 5, 6, 7, 8, 42, 43, 44, 45, 46, 47, 48, 49] (by decide +kernel) (by decide +kernel)
set_option maxRecDepth 20000 in
theorem gX10_key_X2_keeperOf : GoodIn wsX10_key (wsV RX10 180 RX2 yX2_keeperOf wsX2_keeperOf) := goodIn_app (goodIn_of _ (by decide +kernel)) ggX10_key_X2_keeperOf
set_option maxRecDepth 20000 in
theorem ggX10_key_X2_setKeeper : GoodIn wsX10_key wsX2_setKeeper := goodIn_r _ [31, 27, 15, 4, 5, 6, 7, 8, 42, 43, 44, 45, 46, 47, 48, 49] (by decide +kernel) (by decide +kernel)
set_option maxRecDepth 20000 in
theorem gX10_key_X2_setKeeper : GoodIn wsX10_key (wsV RX10 183 RX2 yX2_setKeeper wsX2_setKeeper) := goodIn_app (goodIn_of _ (by decide +kernel)) ggX10_key_X2_setKeeper
theorem dX10_key_0 : decode cX10_key 0 = .ok (.aload_n 0, 1) := by decide +kernel
theorem dX10_key_1 : decode cX10_key 1 = .ok (.getfield 40, 3) := by decide +kernel
theorem dX10_key_4 : decode cX10_key 4 = .ok (.iload_n 1, 1) := by decide +kernel
theorem dX10_key_5 : decode cX10_key 5 = .ok (.invokevirtual 165, 3) := by decide +kernel
theorem dX10_key_8 : decode cX10_key 8 = .ok (.ifCond .eq 19, 3) := by decide +kernel
theorem dX10_key_11 : decode cX10_key 11 = .ok (.aload_n 0, 1) := by decide +kernel
theorem dX10_key_12 : decode cX10_key 12 = .ok (.getfield 40, 3) := by decide +kernel
theorem dX10_key_15 : decode cX10_key 15 = .ok (.iload_n 2, 1) := by decide +kernel
theorem dX10_key_16 : decode cX10_key 16 = .ok (.invokevirtual 165, 3) := by decide +kernel
theorem dX10_key_19 : decode cX10_key 19 = .ok (.ifCond .eq 8, 3) := by decide +kernel
theorem dX10_key_22 : decode cX10_key 22 = .ok (.iload_n 1, 1) := by decide +kernel
theorem dX10_key_23 : decode cX10_key 23 = .ok (.iload_n 2, 1) := by decide +kernel
theorem dX10_key_24 : decode cX10_key 24 = .ok (.if_icmp .ne 5, 3) := by decide +kernel
theorem dX10_key_27 : decode cX10_key 27 = .ok (.iconst (-1), 1) := by decide +kernel
theorem dX10_key_28 : decode cX10_key 28 = .ok (.ireturn, 1) := by decide +kernel
theorem dX10_key_29 : decode cX10_key 29 = .ok (.aload_n 0, 1) := by decide +kernel
theorem dX10_key_30 : decode cX10_key 30 = .ok (.getfield 40, 3) := by decide +kernel
theorem dX10_key_33 : decode cX10_key 33 = .ok (.iload_n 1, 1) := by decide +kernel
theorem dX10_key_34 : decode cX10_key 34 = .ok (.iload_n 2, 1) := by decide +kernel
theorem dX10_key_35 : decode cX10_key 35 = .ok (.invokevirtual 177, 3) := by decide +kernel
theorem dX10_key_38 : decode cX10_key 38 = .ok (.ifCond .ne 12, 3) := by decide +kernel
theorem dX10_key_41 : decode cX10_key 41 = .ok (.aload_n 0, 1) := by decide +kernel
theorem dX10_key_42 : decode cX10_key 42 = .ok (.getfield 10, 3) := by decide +kernel
theorem dX10_key_45 : decode cX10_key 45 = .ok (.iconst 3, 1) := by decide +kernel
theorem dX10_key_46 : decode cX10_key 46 = .ok (.invokevirtual 83, 3) := by decide +kernel
theorem dX10_key_49 : decode cX10_key 49 = .ok (.ireturn, 1) := by decide +kernel
theorem dX10_key_50 : decode cX10_key 50 = .ok (.aload_n 0, 1) := by decide +kernel
theorem dX10_key_51 : decode cX10_key 51 = .ok (.getfield 40, 3) := by decide +kernel
theorem dX10_key_54 : decode cX10_key 54 = .ok (.iload_n 1, 1) := by decide +kernel
theorem dX10_key_55 : decode cX10_key 55 = .ok (.invokevirtual 180, 3) := by decide +kernel
theorem dX10_key_58 : decode cX10_key 58 = .ok (.istore_n 3, 1) := by decide +kernel
theorem dX10_key_59 : decode cX10_key 59 = .ok (.aload_n 0, 1) := by decide +kernel
theorem dX10_key_60 : decode cX10_key 60 = .ok (.getfield 40, 3) := by decide +kernel
theorem dX10_key_63 : decode cX10_key 63 = .ok (.iload_n 1, 1) := by decide +kernel
theorem dX10_key_64 : decode cX10_key 64 = .ok (.iload_n 2, 1) := by decide +kernel
theorem dX10_key_65 : decode cX10_key 65 = .ok (.invokevirtual 183, 3) := by decide +kernel
theorem dX10_key_68 : decode cX10_key 68 = .ok (.iload_n 3, 1) := by decide +kernel
theorem dX10_key_69 : decode cX10_key 69 = .ok (.ireturn, 1) := by decide +kernel
set_option maxRecDepth 20000 in
theorem ggX10_quarrel_X2_isCell : GoodIn wsX10_quarrel wsX2_isCell := goodIn_r _ [6, 7, 32, 33, 34, 35, 36, 37, 38, 39] (by decide +kernel) (by decide +kernel)
set_option maxRecDepth 20000 in
theorem gX10_quarrel_X2_isCell : GoodIn wsX10_quarrel (wsV RX10 165 RX2 yX2_isCell wsX2_isCell) := goodIn_app (goodIn_of _ (by decide +kernel)) ggX10_quarrel_X2_isCell
set_option maxRecDepth 20000 in
theorem ggX10_quarrel_X10_isYesOrNo : GoodIn wsX10_quarrel wsX10_isYesOrNo := goodIn_r _ [11] (by decide +kernel) (by decide +kernel)
set_option maxRecDepth 20000 in
theorem gX10_quarrel_X10_isYesOrNo : GoodIn wsX10_quarrel (va_wsS RX10 186 yX10_isYesOrNo wsX10_isYesOrNo) := goodIn_app (goodIn_of _ (by decide +kernel)) ggX10_quarrel_X10_isYesOrNo
set_option maxRecDepth 20000 in
theorem ggX10_quarrel_X2_foesOf : GoodIn wsX10_quarrel wsX2_foesOf := goodIn_r _ [15, 16, 17, 3, 4, 5, 6, 7, 32, 33, 34, 35, 36, 37, 38, 39] (by decide +kernel) (by decide +kernel)
set_option maxRecDepth 20000 in
theorem gX10_quarrel_X2_foesOf : GoodIn wsX10_quarrel (wsV RX10 189 RX2 yX2_foesOf wsX2_foesOf) := goodIn_app (goodIn_of _ (by decide +kernel)) ggX10_quarrel_X2_foesOf
set_option maxRecDepth 20000 in
theorem ggX10_quarrel_X2_setQuarrel : GoodIn wsX10_quarrel wsX2_setQuarrel := goodIn_r _ [21, 16, 17, 3, 4, 5, 6, 7, 32, 33, 34, 35, 36, 37, 38, 39] (by decide +kernel) (by decide +kernel)
set_option maxRecDepth 20000 in
theorem gX10_quarrel_X2_setQuarrel : GoodIn wsX10_quarrel (wsV RX10 192 RX2 yX2_setQuarrel wsX2_setQuarrel) := goodIn_app (goodIn_of _ (by decide +kernel)) ggX10_quarrel_X2_setQuarrel
theorem dX10_quarrel_0 : decode cX10_quarrel 0 = .ok (.aload_n 0, 1) := by decide +kernel
theorem dX10_quarrel_1 : decode cX10_quarrel 1 = .ok (.getfield 40, 3) := by decide +kernel
theorem dX10_quarrel_4 : decode cX10_quarrel 4 = .ok (.iload_n 1, 1) := by decide +kernel
theorem dX10_quarrel_5 : decode cX10_quarrel 5 = .ok (.invokevirtual 165, 3) := by decide +kernel
theorem dX10_quarrel_8 : decode cX10_quarrel 8 = .ok (.ifCond .eq 26, 3) := by decide +kernel
theorem dX10_quarrel_11 : decode cX10_quarrel 11 = .ok (.aload_n 0, 1) := by decide +kernel
theorem dX10_quarrel_12 : decode cX10_quarrel 12 = .ok (.getfield 40, 3) := by decide +kernel
theorem dX10_quarrel_15 : decode cX10_quarrel 15 = .ok (.iload_n 2, 1) := by decide +kernel
theorem dX10_quarrel_16 : decode cX10_quarrel 16 = .ok (.invokevirtual 165, 3) := by decide +kernel
theorem dX10_quarrel_19 : decode cX10_quarrel 19 = .ok (.ifCond .eq 15, 3) := by decide +kernel
theorem dX10_quarrel_22 : decode cX10_quarrel 22 = .ok (.iload_n 1, 1) := by decide +kernel
theorem dX10_quarrel_23 : decode cX10_quarrel 23 = .ok (.iload_n 2, 1) := by decide +kernel
theorem dX10_quarrel_24 : decode cX10_quarrel 24 = .ok (.if_icmp .eq 10, 3) := by decide +kernel
theorem dX10_quarrel_27 : decode cX10_quarrel 27 = .ok (.iload_n 3, 1) := by decide +kernel
theorem dX10_quarrel_28 : decode cX10_quarrel 28 = .ok (.invokestatic 186, 3) := by decide +kernel
theorem dX10_quarrel_31 : decode cX10_quarrel 31 = .ok (.ifCond .ne 5, 3) := by decide +kernel
theorem dX10_quarrel_34 : decode cX10_quarrel 34 = .ok (.iconst (-1), 1) := by decide +kernel
theorem dX10_quarrel_35 : decode cX10_quarrel 35 = .ok (.ireturn, 1) := by decide +kernel
theorem dX10_quarrel_36 : decode cX10_quarrel 36 = .ok (.aload_n 0, 1) := by decide +kernel
theorem dX10_quarrel_37 : decode cX10_quarrel 37 = .ok (.getfield 40, 3) := by decide +kernel
theorem dX10_quarrel_40 : decode cX10_quarrel 40 = .ok (.iload_n 1, 1) := by decide +kernel
theorem dX10_quarrel_41 : decode cX10_quarrel 41 = .ok (.invokevirtual 189, 3) := by decide +kernel
theorem dX10_quarrel_44 : decode cX10_quarrel 44 = .ok (.iload_n 2, 1) := by decide +kernel
theorem dX10_quarrel_45 : decode cX10_quarrel 45 = .ok (.ishr, 1) := by decide +kernel
theorem dX10_quarrel_46 : decode cX10_quarrel 46 = .ok (.iconst 1, 1) := by decide +kernel
theorem dX10_quarrel_47 : decode cX10_quarrel 47 = .ok (.iand, 1) := by decide +kernel
theorem dX10_quarrel_48 : decode cX10_quarrel 48 = .ok (.istore 4, 2) := by decide +kernel
theorem dX10_quarrel_50 : decode cX10_quarrel 50 = .ok (.aload_n 0, 1) := by decide +kernel
theorem dX10_quarrel_51 : decode cX10_quarrel 51 = .ok (.getfield 40, 3) := by decide +kernel
theorem dX10_quarrel_54 : decode cX10_quarrel 54 = .ok (.iload_n 1, 1) := by decide +kernel
theorem dX10_quarrel_55 : decode cX10_quarrel 55 = .ok (.iload_n 2, 1) := by decide +kernel
theorem dX10_quarrel_56 : decode cX10_quarrel 56 = .ok (.iload_n 3, 1) := by decide +kernel
theorem dX10_quarrel_57 : decode cX10_quarrel 57 = .ok (.invokevirtual 192, 3) := by decide +kernel
theorem dX10_quarrel_60 : decode cX10_quarrel 60 = .ok (.iload 4, 2) := by decide +kernel
theorem dX10_quarrel_62 : decode cX10_quarrel 62 = .ok (.ireturn, 1) := by decide +kernel
set_option maxRecDepth 20000 in
theorem ggX10_foes_X2_isCell : GoodIn wsX10_foes wsX2_isCell := goodIn_r _ [6, 7, 24, 25, 26, 27, 28, 29, 30, 31] (by decide +kernel) (by decide +kernel)
set_option maxRecDepth 20000 in
theorem gX10_foes_X2_isCell : GoodIn wsX10_foes (wsV RX10 165 RX2 yX2_isCell wsX2_isCell) := goodIn_app (goodIn_of _ (by decide +kernel)) ggX10_foes_X2_isCell
set_option maxRecDepth 20000 in
theorem ggX10_foes_X2_foesOf : GoodIn wsX10_foes wsX2_foesOf := goodIn_r _ [11, 12, 13, 3, 4, 5, 6, 7, 24, 25, 26, 27, 28, 29, 30, 31] (by decide +kernel) (by decide +kernel)
set_option maxRecDepth 20000 in
theorem gX10_foes_X2_foesOf : GoodIn wsX10_foes (wsV RX10 189 RX2 yX2_foesOf wsX2_foesOf) := goodIn_app (goodIn_of _ (by decide +kernel)) ggX10_foes_X2_foesOf
theorem dX10_foes_0 : decode cX10_foes 0 = .ok (.aload_n 0, 1) := by decide +kernel
theorem dX10_foes_1 : decode cX10_foes 1 = .ok (.getfield 40, 3) := by decide +kernel
theorem dX10_foes_4 : decode cX10_foes 4 = .ok (.iload_n 1, 1) := by decide +kernel
theorem dX10_foes_5 : decode cX10_foes 5 = .ok (.invokevirtual 165, 3) := by decide +kernel
theorem dX10_foes_8 : decode cX10_foes 8 = .ok (.ifCond .eq 14, 3) := by decide +kernel
theorem dX10_foes_11 : decode cX10_foes 11 = .ok (.aload_n 0, 1) := by decide +kernel
theorem dX10_foes_12 : decode cX10_foes 12 = .ok (.getfield 40, 3) := by decide +kernel
theorem dX10_foes_15 : decode cX10_foes 15 = .ok (.iload_n 1, 1) := by decide +kernel
theorem dX10_foes_16 : decode cX10_foes 16 = .ok (.invokevirtual 189, 3) := by decide +kernel
theorem dX10_foes_19 : decode cX10_foes 19 = .ok (.goto 4, 3) := by decide +kernel
theorem dX10_foes_22 : decode cX10_foes 22 = .ok (.iconst (-1), 1) := by decide +kernel
theorem dX10_foes_23 : decode cX10_foes 23 = .ok (.ireturn, 1) := by decide +kernel
set_option maxRecDepth 20000 in
theorem ggX10_can_X2_isCell : GoodIn wsX10_can wsX2_isCell := goodIn_r _ [7, 8, 64, 65, 66, 67, 68, 69, 70, 71] (by decide +kernel) (by decide +kernel)
set_option maxRecDepth 20000 in
theorem gX10_can_X2_isCell : GoodIn wsX10_can (wsV RX10 165 RX2 yX2_isCell wsX2_isCell) := goodIn_app (goodIn_of _ (by decide +kernel)) ggX10_can_X2_isCell
set_option maxRecDepth 20000 in
theorem ggX10_can_X1_hasOut : GoodIn wsX10_can wsX1_hasOut := goodIn_r _ [13, 14, 72, 73, 74, 75] (by decide +kernel) (by decide +kernel)
set_option maxRecDepth 20000 in
theorem gX10_can_X1_hasOut : GoodIn wsX10_can (wsV RX10 195 RX1 yX1_hasOut wsX1_hasOut) := goodIn_app (goodIn_of _ (by decide +kernel)) ggX10_can_X1_hasOut
set_option maxRecDepth 20000 in
theorem ggX10_can_X1_whoIsOut : GoodIn wsX10_can wsX1_whoIsOut := goodIn_r _ [18, 14, 72, 73, 74, 75] (by decide +kernel) (by decide +kernel)
set_option maxRecDepth 20000 in
theorem gX10_can_X1_whoIsOut : GoodIn wsX10_can (wsV RX10 198 RX1 yX1_whoIsOut wsX1_whoIsOut) := goodIn_app (goodIn_of _ (by decide +kernel)) ggX10_can_X1_whoIsOut
set_option maxRecDepth 20000 in
theorem ggX10_can_X2_everyone : GoodIn wsX10_can wsX2_everyone := goodIn_r _ [22, 8, 64, 65, 66, 67, 68, 69, 70, 71] (by decide +kernel) (by decide +kernel)
set_option maxRecDepth 20000 in
theorem gX10_can_X2_everyone : GoodIn wsX10_can (wsV RX10 201 RX2 yX2_everyone wsX2_everyone) := goodIn_app (goodIn_of _ (by decide +kernel)) ggX10_can_X2_everyone
set_option maxRecDepth 20000 in
theorem ggX10_can_X2_favoursFor : GoodIn wsX10_can wsX2_favoursFor := goodIn_r _ [26, 27, 28, 29, 30, 31, 4, 5, 6, 7, 8, 32, 33, 34, 35, 36, 37, 38, 39, 40, 41, 42, 43, 44, 45, 46, 47, 48, 49, 50, 51, 52, 53, 64, 65, 66, 67, 68, 69, 70, 71] (by decide +kernel) (by decide +kernel)
set_option maxRecDepth 20000 in
theorem gX10_can_X2_favoursFor : GoodIn wsX10_can (wsV RX10 204 RX2 yX2_favoursFor wsX2_favoursFor) := goodIn_app (goodIn_of _ (by decide +kernel)) ggX10_can_X2_favoursFor
theorem dX10_can_0 : decode cX10_can 0 = .ok (.aload_n 0, 1) := by decide +kernel
theorem dX10_can_1 : decode cX10_can 1 = .ok (.getfield 40, 3) := by decide +kernel
theorem dX10_can_4 : decode cX10_can 4 = .ok (.iload_n 1, 1) := by decide +kernel
theorem dX10_can_5 : decode cX10_can 5 = .ok (.invokevirtual 165, 3) := by decide +kernel
theorem dX10_can_8 : decode cX10_can 8 = .ok (.ifCond .ne 5, 3) := by decide +kernel
theorem dX10_can_11 : decode cX10_can 11 = .ok (.iconst (-1), 1) := by decide +kernel
theorem dX10_can_12 : decode cX10_can 12 = .ok (.ireturn, 1) := by decide +kernel
theorem dX10_can_13 : decode cX10_can 13 = .ok (.aload_n 0, 1) := by decide +kernel
theorem dX10_can_14 : decode cX10_can 14 = .ok (.getfield 47, 3) := by decide +kernel
theorem dX10_can_17 : decode cX10_can 17 = .ok (.iload_n 1, 1) := by decide +kernel
theorem dX10_can_18 : decode cX10_can 18 = .ok (.invokevirtual 195, 3) := by decide +kernel
theorem dX10_can_21 : decode cX10_can 21 = .ok (.ifCond .eq 6, 3) := by decide +kernel
theorem dX10_can_24 : decode cX10_can 24 = .ok (.bipush (-4), 2) := by decide +kernel
theorem dX10_can_26 : decode cX10_can 26 = .ok (.ireturn, 1) := by decide +kernel
theorem dX10_can_27 : decode cX10_can 27 = .ok (.aload_n 0, 1) := by decide +kernel
theorem dX10_can_28 : decode cX10_can 28 = .ok (.getfield 40, 3) := by decide +kernel
theorem dX10_can_31 : decode cX10_can 31 = .ok (.iload_n 1, 1) := by decide +kernel
theorem dX10_can_32 : decode cX10_can 32 = .ok (.aload_n 0, 1) := by decide +kernel
theorem dX10_can_33 : decode cX10_can 33 = .ok (.getfield 47, 3) := by decide +kernel
theorem dX10_can_36 : decode cX10_can 36 = .ok (.invokevirtual 198, 3) := by decide +kernel
theorem dX10_can_39 : decode cX10_can 39 = .ok (.aload_n 0, 1) := by decide +kernel
theorem dX10_can_40 : decode cX10_can 40 = .ok (.getfield 40, 3) := by decide +kernel
theorem dX10_can_43 : decode cX10_can 43 = .ok (.invokevirtual 201, 3) := by decide +kernel
theorem dX10_can_46 : decode cX10_can 46 = .ok (.invokevirtual 204, 3) := by decide +kernel
theorem dX10_can_49 : decode cX10_can 49 = .ok (.ireturn, 1) := by decide +kernel
set_option maxRecDepth 20000 in
theorem ggX10_let_X10_can : GoodIn wsX10_let wsX10_can := goodIn_r _ [6, 7, 1, 8, 9, 10, 11, 12, 13, 14, 15, 16, 17, 18, 19, 20, 21, 22, 23, 24, 25, 26, 27, 28, 29, 30, 31, 32, 33, 34, 35, 36, 37, 38, 39, 40, 41, 42, 43, 44, 45, 46, 47, 48, 49, 50, 51, 52, 53, 54, 55, 56, 57, 58, 64, 65, 66, 67, 68, 69, 70, 71, 72, 73, 74, 75, 76, 77, 78, 79, 80, 81, 82, 83, 84, 85] (by decide +kernel) (by decide +kernel)
set_option maxRecDepth 20000 in
theorem gX10_let_X10_can : GoodIn wsX10_let (wsV RX10 208 RX10 yX10_can wsX10_can) := goodIn_app (goodIn_of _ (by decide +kernel)) ggX10_let_X10_can
set_option maxRecDepth 20000 in
theorem ggX10_let_X1_addOut : GoodIn wsX10_let wsX1_addOut := goodIn_r _ [62, 19, 63, 82, 83, 84, 85] (by decide +kernel) (by decide +kernel)
set_option maxRecDepth 20000 in
theorem gX10_let_X1_addOut : GoodIn wsX10_let (wsV RX10 211 RX1 yX1_addOut wsX1_addOut) := goodIn_app (goodIn_of _ (by decide +kernel)) ggX10_let_X1_addOut
theorem dX10_let_0 : decode cX10_let 0 = .ok (.aload_n 0, 1) := by decide +kernel
theorem dX10_let_1 : decode cX10_let 1 = .ok (.iload_n 1, 1) := by decide +kernel
theorem dX10_let_2 : decode cX10_let 2 = .ok (.invokevirtual 208, 3) := by decide +kernel
theorem dX10_let_5 : decode cX10_let 5 = .ok (.istore_n 2, 1) := by decide +kernel
theorem dX10_let_6 : decode cX10_let 6 = .ok (.iload_n 2, 1) := by decide +kernel
theorem dX10_let_7 : decode cX10_let 7 = .ok (.ifCond .lt 12, 3) := by decide +kernel
theorem dX10_let_10 : decode cX10_let 10 = .ok (.aload_n 0, 1) := by decide +kernel
theorem dX10_let_11 : decode cX10_let 11 = .ok (.getfield 47, 3) := by decide +kernel
theorem dX10_let_14 : decode cX10_let 14 = .ok (.iload_n 1, 1) := by decide +kernel
theorem dX10_let_15 : decode cX10_let 15 = .ok (.iload_n 2, 1) := by decide +kernel
theorem dX10_let_16 : decode cX10_let 16 = .ok (.invokevirtual 211, 3) := by decide +kernel
theorem dX10_let_19 : decode cX10_let 19 = .ok (.iload_n 2, 1) := by decide +kernel
theorem dX10_let_20 : decode cX10_let 20 = .ok (.ireturn, 1) := by decide +kernel
set_option maxRecDepth 20000 in
theorem ggX10_out_X1_favours : GoodIn wsX10_out wsX1_favours := goodIn_r _ [7, 8, 30, 31, 32, 33] (by decide +kernel) (by decide +kernel)
set_option maxRecDepth 20000 in
theorem gX10_out_X1_favours : GoodIn wsX10_out (wsV RX10 214 RX1 yX1_favours wsX1_favours) := goodIn_app (goodIn_of _ (by decide +kernel)) ggX10_out_X1_favours
set_option maxRecDepth 20000 in
theorem ggX10_out_X9_tell : GoodIn wsX10_out wsX9_tell := goodIn_r _ [13, 14, 34, 35, 36, 37, 38] (by decide +kernel) (by decide +kernel)
set_option maxRecDepth 20000 in
theorem gX10_out_X9_tell : GoodIn wsX10_out (wsV RX10 98 RX9 yX9_tell wsX9_tell) := goodIn_app (goodIn_of _ (by decide +kernel)) ggX10_out_X9_tell
set_option maxRecDepth 20000 in
theorem ggX10_out_X1_whoIsOut : GoodIn wsX10_out wsX1_whoIsOut := goodIn_r _ [18, 19, 30, 31, 32, 33] (by decide +kernel) (by decide +kernel)
set_option maxRecDepth 20000 in
theorem gX10_out_X1_whoIsOut : GoodIn wsX10_out (wsV RX10 198 RX1 yX1_whoIsOut wsX1_whoIsOut) := goodIn_app (goodIn_of _ (by decide +kernel)) ggX10_out_X1_whoIsOut
theorem dX10_out_0 : decode cX10_out 0 = .ok (.aload_n 0, 1) := by decide +kernel
theorem dX10_out_1 : decode cX10_out 1 = .ok (.getfield 10, 3) := by decide +kernel
theorem dX10_out_4 : decode cX10_out 4 = .ok (.aload_n 0, 1) := by decide +kernel
theorem dX10_out_5 : decode cX10_out 5 = .ok (.getfield 47, 3) := by decide +kernel
theorem dX10_out_8 : decode cX10_out 8 = .ok (.invokevirtual 214, 3) := by decide +kernel
theorem dX10_out_11 : decode cX10_out 11 = .ok (.invokevirtual 98, 3) := by decide +kernel
theorem dX10_out_14 : decode cX10_out 14 = .ok (.aload_n 0, 1) := by decide +kernel
theorem dX10_out_15 : decode cX10_out 15 = .ok (.getfield 47, 3) := by decide +kernel
theorem dX10_out_18 : decode cX10_out 18 = .ok (.invokevirtual 198, 3) := by decide +kernel
theorem dX10_out_21 : decode cX10_out 21 = .ok (.ireturn, 1) := by decide +kernel
set_option maxRecDepth 20000 in
theorem ggX10_bell_X1_howManyOut : GoodIn wsX10_bell wsX1_howManyOut := goodIn_r _ [6, 7, 8, 9, 10, 11, 12, 13, 14, 30, 31, 32, 33] (by decide +kernel) (by decide +kernel)
set_option maxRecDepth 20000 in
theorem gX10_bell_X1_howManyOut : GoodIn wsX10_bell (wsV RX10 217 RX1 yX1_howManyOut wsX1_howManyOut) := goodIn_app (goodIn_of _ (by decide +kernel)) ggX10_bell_X1_howManyOut
set_option maxRecDepth 20000 in
theorem ggX10_bell_X1_allIn : GoodIn wsX10_bell wsX1_allIn := goodIn_r _ [18, 7, 19, 30, 31, 32, 33] (by decide +kernel) (by decide +kernel)
set_option maxRecDepth 20000 in
theorem gX10_bell_X1_allIn : GoodIn wsX10_bell (wsV RX10 220 RX1 yX1_allIn wsX1_allIn) := goodIn_app (goodIn_of _ (by decide +kernel)) ggX10_bell_X1_allIn
theorem dX10_bell_0 : decode cX10_bell 0 = .ok (.aload_n 0, 1) := by decide +kernel
theorem dX10_bell_1 : decode cX10_bell 1 = .ok (.getfield 47, 3) := by decide +kernel
theorem dX10_bell_4 : decode cX10_bell 4 = .ok (.invokevirtual 217, 3) := by decide +kernel
theorem dX10_bell_7 : decode cX10_bell 7 = .ok (.istore_n 1, 1) := by decide +kernel
theorem dX10_bell_8 : decode cX10_bell 8 = .ok (.aload_n 0, 1) := by decide +kernel
theorem dX10_bell_9 : decode cX10_bell 9 = .ok (.getfield 47, 3) := by decide +kernel
theorem dX10_bell_12 : decode cX10_bell 12 = .ok (.invokevirtual 220, 3) := by decide +kernel
theorem dX10_bell_15 : decode cX10_bell 15 = .ok (.iload_n 1, 1) := by decide +kernel
theorem dX10_bell_16 : decode cX10_bell 16 = .ok (.ireturn, 1) := by decide +kernel
set_option maxRecDepth 20000 in
theorem ggX10_keep_X1_isNumber : GoodIn wsX10_keep wsX1_isNumber := goodIn_r _ [6] (by decide +kernel) (by decide +kernel)
set_option maxRecDepth 20000 in
theorem gX10_keep_X1_isNumber : GoodIn wsX10_keep (wsV RX10 223 RX1 yX1_isNumber wsX1_isNumber) := goodIn_app (goodIn_of _ (by decide +kernel)) ggX10_keep_X1_isNumber
set_option maxRecDepth 20000 in
theorem ggX10_keep_X1_store : GoodIn wsX10_keep wsX1_store := goodIn_r _ [10, 11, 12, 13, 14, 15, 3, 4, 5, 6, 37, 38, 39, 40] (by decide +kernel) (by decide +kernel)
set_option maxRecDepth 20000 in
theorem gX10_keep_X1_store : GoodIn wsX10_keep (wsV RX10 224 RX1 yX1_store wsX1_store) := goodIn_app (goodIn_of _ (by decide +kernel)) ggX10_keep_X1_store
set_option maxRecDepth 20000 in
theorem ggX10_keep_X1_howManyOut : GoodIn wsX10_keep wsX1_howManyOut := goodIn_r _ [19, 12, 20, 21, 22, 23, 24, 25, 26, 37, 38, 39, 40] (by decide +kernel) (by decide +kernel)
set_option maxRecDepth 20000 in
theorem gX10_keep_X1_howManyOut : GoodIn wsX10_keep (wsV RX10 217 RX1 yX1_howManyOut wsX1_howManyOut) := goodIn_app (goodIn_of _ (by decide +kernel)) ggX10_keep_X1_howManyOut
theorem dX10_keep_0 : decode cX10_keep 0 = .ok (.aload_n 0, 1) := by decide +kernel
theorem dX10_keep_1 : decode cX10_keep 1 = .ok (.getfield 47, 3) := by decide +kernel
theorem dX10_keep_4 : decode cX10_keep 4 = .ok (.iload_n 1, 1) := by decide +kernel
theorem dX10_keep_5 : decode cX10_keep 5 = .ok (.invokevirtual 223, 3) := by decide +kernel
theorem dX10_keep_8 : decode cX10_keep 8 = .ok (.ifCond .ne 5, 3) := by decide +kernel
theorem dX10_keep_11 : decode cX10_keep 11 = .ok (.iconst (-1), 1) := by decide +kernel
theorem dX10_keep_12 : decode cX10_keep 12 = .ok (.ireturn, 1) := by decide +kernel
theorem dX10_keep_13 : decode cX10_keep 13 = .ok (.aload_n 0, 1) := by decide +kernel
theorem dX10_keep_14 : decode cX10_keep 14 = .ok (.getfield 47, 3) := by decide +kernel
theorem dX10_keep_17 : decode cX10_keep 17 = .ok (.iload_n 1, 1) := by decide +kernel
theorem dX10_keep_18 : decode cX10_keep 18 = .ok (.invokevirtual 224, 3) := by decide +kernel
theorem dX10_keep_21 : decode cX10_keep 21 = .ok (.aload_n 0, 1) := by decide +kernel
theorem dX10_keep_22 : decode cX10_keep 22 = .ok (.getfield 47, 3) := by decide +kernel
theorem dX10_keep_25 : decode cX10_keep 25 = .ok (.invokevirtual 217, 3) := by decide +kernel
theorem dX10_keep_28 : decode cX10_keep 28 = .ok (.ireturn, 1) := by decide +kernel
set_option maxRecDepth 20000 in
theorem ggX10_on_X1_isNumber : GoodIn wsX10_on wsX1_isNumber := goodIn_r _ [7] (by decide +kernel) (by decide +kernel)
set_option maxRecDepth 20000 in
theorem gX10_on_X1_isNumber : GoodIn wsX10_on (wsV RX10 223 RX1 yX1_isNumber wsX1_isNumber) := goodIn_app (goodIn_of _ (by decide +kernel)) ggX10_on_X1_isNumber
set_option maxRecDepth 20000 in
theorem ggX10_on_X1_isKept : GoodIn wsX10_on wsX1_isKept := goodIn_r _ [11, 12, 13, 4, 5, 6, 7, 50, 51, 52, 53] (by decide +kernel) (by decide +kernel)
set_option maxRecDepth 20000 in
theorem gX10_on_X1_isKept : GoodIn wsX10_on (wsV RX10 227 RX1 yX1_isKept wsX1_isKept) := goodIn_app (goodIn_of _ (by decide +kernel)) ggX10_on_X1_isKept
set_option maxRecDepth 20000 in
theorem ggX10_on_X9_found : GoodIn wsX10_on wsX9_found := goodIn_r _ [18, 19, 20, 54, 55, 56, 57, 58] (by decide +kernel) (by decide +kernel)
set_option maxRecDepth 20000 in
theorem gX10_on_X9_found : GoodIn wsX10_on (wsV RX10 83 RX9 yX9_found wsX9_found) := goodIn_app (goodIn_of _ (by decide +kernel)) ggX10_on_X9_found
set_option maxRecDepth 20000 in
theorem ggX10_on_X1_restore : GoodIn wsX10_on wsX1_restore := goodIn_r _ [24, 12, 25, 26, 27, 28, 9, 10, 6, 11, 13, 4, 5, 7, 50, 51, 52, 53] (by decide +kernel) (by decide +kernel)
set_option maxRecDepth 20000 in
theorem gX10_on_X1_restore : GoodIn wsX10_on (wsV RX10 230 RX1 yX1_restore wsX1_restore) := goodIn_app (goodIn_of _ (by decide +kernel)) ggX10_on_X1_restore
set_option maxRecDepth 20000 in
theorem ggX10_on_X1_howManyOut : GoodIn wsX10_on wsX1_howManyOut := goodIn_r _ [32, 25, 33, 34, 35, 36, 37, 38, 39, 50, 51, 52, 53] (by decide +kernel) (by decide +kernel)
set_option maxRecDepth 20000 in
theorem gX10_on_X1_howManyOut : GoodIn wsX10_on (wsV RX10 217 RX1 yX1_howManyOut wsX1_howManyOut) := goodIn_app (goodIn_of _ (by decide +kernel)) ggX10_on_X1_howManyOut
theorem dX10_on_0 : decode cX10_on 0 = .ok (.aload_n 0, 1) := by decide +kernel
theorem dX10_on_1 : decode cX10_on 1 = .ok (.getfield 47, 3) := by decide +kernel
theorem dX10_on_4 : decode cX10_on 4 = .ok (.iload_n 1, 1) := by decide +kernel
theorem dX10_on_5 : decode cX10_on 5 = .ok (.invokevirtual 223, 3) := by decide +kernel
theorem dX10_on_8 : decode cX10_on 8 = .ok (.ifCond .ne 5, 3) := by decide +kernel
theorem dX10_on_11 : decode cX10_on 11 = .ok (.iconst (-1), 1) := by decide +kernel
theorem dX10_on_12 : decode cX10_on 12 = .ok (.ireturn, 1) := by decide +kernel
theorem dX10_on_13 : decode cX10_on 13 = .ok (.aload_n 0, 1) := by decide +kernel
theorem dX10_on_14 : decode cX10_on 14 = .ok (.getfield 47, 3) := by decide +kernel
theorem dX10_on_17 : decode cX10_on 17 = .ok (.iload_n 1, 1) := by decide +kernel
theorem dX10_on_18 : decode cX10_on 18 = .ok (.invokevirtual 227, 3) := by decide +kernel
theorem dX10_on_21 : decode cX10_on 21 = .ok (.ifCond .ne 12, 3) := by decide +kernel
theorem dX10_on_24 : decode cX10_on 24 = .ok (.aload_n 0, 1) := by decide +kernel
theorem dX10_on_25 : decode cX10_on 25 = .ok (.getfield 10, 3) := by decide +kernel
theorem dX10_on_28 : decode cX10_on 28 = .ok (.iconst 1, 1) := by decide +kernel
theorem dX10_on_29 : decode cX10_on 29 = .ok (.invokevirtual 83, 3) := by decide +kernel
theorem dX10_on_32 : decode cX10_on 32 = .ok (.ireturn, 1) := by decide +kernel
theorem dX10_on_33 : decode cX10_on 33 = .ok (.aload_n 0, 1) := by decide +kernel
theorem dX10_on_34 : decode cX10_on 34 = .ok (.getfield 47, 3) := by decide +kernel
theorem dX10_on_37 : decode cX10_on 37 = .ok (.iload_n 1, 1) := by decide +kernel
theorem dX10_on_38 : decode cX10_on 38 = .ok (.invokevirtual 230, 3) := by decide +kernel
theorem dX10_on_41 : decode cX10_on 41 = .ok (.aload_n 0, 1) := by decide +kernel
theorem dX10_on_42 : decode cX10_on 42 = .ok (.getfield 47, 3) := by decide +kernel
theorem dX10_on_45 : decode cX10_on 45 = .ok (.invokevirtual 217, 3) := by decide +kernel
theorem dX10_on_48 : decode cX10_on 48 = .ok (.ireturn, 1) := by decide +kernel
set_option maxRecDepth 20000 in
theorem ggX10_lets_X10_rowRefusal : GoodIn wsX10_lets wsX10_rowRefusal := goodIn_r _ [8, 1, 3, 9, 10, 11, 12, 13, 14, 15, 16, 17, 18, 19, 20, 21, 22, 23, 24, 25, 26, 27, 28, 29, 30, 99, 100, 101, 102, 103, 104, 105, 106, 107, 108, 109, 110, 111, 112, 113, 114, 115] (by decide +kernel) (by decide +kernel)
set_option maxRecDepth 20000 in
theorem gX10_lets_X10_rowRefusal : GoodIn wsX10_lets (wsV RX10 106 RX10 yX10_rowRefusal wsX10_rowRefusal) := goodIn_app (goodIn_of _ (by decide +kernel)) ggX10_lets_X10_rowRefusal
set_option maxRecDepth 20000 in
theorem ggX10_lets_X6_sizeOf : GoodIn wsX10_lets wsX6_sizeOf := goodIn_r _ [21, 22, 23, 10, 11, 12, 13, 109, 110] (by decide +kernel) (by decide +kernel)
set_option maxRecDepth 20000 in
theorem gX10_lets_X6_sizeOf : GoodIn wsX10_lets (wsV RX10 123 RX6 yX6_sizeOf wsX6_sizeOf) := goodIn_app (goodIn_of _ (by decide +kernel)) ggX10_lets_X6_sizeOf
set_option maxRecDepth 20000 in
theorem ggX10_lets_X2_cells : GoodIn wsX10_lets wsX2_cells := goodIn_r _ [36, 37, 116, 117, 118, 119, 120, 121, 122, 123] (by decide +kernel) (by decide +kernel)
set_option maxRecDepth 20000 in
theorem gX10_lets_X2_cells : GoodIn wsX10_lets (wsV RX10 161 RX2 yX2_cells wsX2_cells) := goodIn_app (goodIn_of _ (by decide +kernel)) ggX10_lets_X2_cells
set_option maxRecDepth 20000 in
theorem ggX10_lets_X9_found : GoodIn wsX10_lets wsX9_found := goodIn_r _ [28, 29, 30, 111, 112, 113, 114, 115] (by decide +kernel) (by decide +kernel)
set_option maxRecDepth 20000 in
theorem gX10_lets_X9_found : GoodIn wsX10_lets (wsV RX10 83 RX9 yX9_found wsX9_found) := goodIn_app (goodIn_of _ (by decide +kernel)) ggX10_lets_X9_found
set_option maxRecDepth 20000 in
theorem ggX10_lets_X10_tellsUnlikeCells : GoodIn wsX10_lets wsX10_tellsUnlikeCells := goodIn_r _ [41, 1, 2, 31, 19, 20, 12, 21, 22, 23, 10, 11, 13, 42, 43, 44, 45, 46, 47, 48, 49, 50, 18, 51, 52, 53, 35, 54, 37, 99, 100, 101, 102, 103, 104, 105, 106, 107, 108, 109, 110, 116, 117, 118, 119, 120, 121, 122, 123] (by decide +kernel) (by decide +kernel)
set_option maxRecDepth 20000 in
theorem gX10_lets_X10_tellsUnlikeCells : GoodIn wsX10_lets (wsV RX10 233 RX10 yX10_tellsUnlikeCells wsX10_tellsUnlikeCells) := goodIn_app (goodIn_of _ (by decide +kernel)) ggX10_lets_X10_tellsUnlikeCells
set_option maxRecDepth 20000 in
theorem ggX10_lets_X10_letRowOut : GoodIn wsX10_lets wsX10_letRowOut := goodIn_r _ [58, 1, 2, 3, 31, 19, 20, 12, 21, 22, 23, 10, 11, 13, 42, 43, 44, 45, 46, 47, 48, 49, 50, 18, 59, 60, 61, 35, 62, 37, 63, 64, 65, 66, 67, 68, 69, 70, 71, 52, 53, 54, 72, 73, 74, 75, 76, 77, 78, 79, 80, 81, 82, 83, 84, 85, 86, 87, 88, 89, 90, 91, 92, 93, 94, 95, 96, 27, 97, 98, 99, 100, 101, 102, 103, 104, 105, 106, 107, 108, 109, 110, 116, 117, 118, 119, 120, 121, 122, 123, 111, 112, 113, 114, 115] (by decide +kernel) (by decide +kernel)
set_option maxRecDepth 20000 in
theorem gX10_lets_X10_letRowOut : GoodIn wsX10_lets (wsV RX10 236 RX10 yX10_letRowOut wsX10_letRowOut) := goodIn_app (goodIn_of _ (by decide +kernel)) ggX10_lets_X10_letRowOut
theorem dX10_lets_0 : decode cX10_lets 0 = .ok (.aload_n 0, 1) := by decide +kernel
theorem dX10_lets_1 : decode cX10_lets 1 = .ok (.iload_n 1, 1) := by decide +kernel
theorem dX10_lets_2 : decode cX10_lets 2 = .ok (.invokevirtual 106, 3) := by decide +kernel
theorem dX10_lets_5 : decode cX10_lets 5 = .ok (.istore_n 2, 1) := by decide +kernel
theorem dX10_lets_6 : decode cX10_lets 6 = .ok (.iload_n 2, 1) := by decide +kernel
theorem dX10_lets_7 : decode cX10_lets 7 = .ok (.ifCond .eq 5, 3) := by decide +kernel
theorem dX10_lets_10 : decode cX10_lets 10 = .ok (.iload_n 2, 1) := by decide +kernel
theorem dX10_lets_11 : decode cX10_lets 11 = .ok (.ireturn, 1) := by decide +kernel
theorem dX10_lets_12 : decode cX10_lets 12 = .ok (.aload_n 0, 1) := by decide +kernel
theorem dX10_lets_13 : decode cX10_lets 13 = .ok (.getfield 19, 3) := by decide +kernel
theorem dX10_lets_16 : decode cX10_lets 16 = .ok (.iload_n 1, 1) := by decide +kernel
theorem dX10_lets_17 : decode cX10_lets 17 = .ok (.invokevirtual 123, 3) := by decide +kernel
theorem dX10_lets_20 : decode cX10_lets 20 = .ok (.aload_n 0, 1) := by decide +kernel
theorem dX10_lets_21 : decode cX10_lets 21 = .ok (.getfield 40, 3) := by decide +kernel
theorem dX10_lets_24 : decode cX10_lets 24 = .ok (.invokevirtual 161, 3) := by decide +kernel
theorem dX10_lets_27 : decode cX10_lets 27 = .ok (.if_icmp .le 12, 3) := by decide +kernel
theorem dX10_lets_30 : decode cX10_lets 30 = .ok (.aload_n 0, 1) := by decide +kernel
theorem dX10_lets_31 : decode cX10_lets 31 = .ok (.getfield 10, 3) := by decide +kernel
theorem dX10_lets_34 : decode cX10_lets 34 = .ok (.iconst 5, 1) := by decide +kernel
theorem dX10_lets_35 : decode cX10_lets 35 = .ok (.invokevirtual 83, 3) := by decide +kernel
theorem dX10_lets_38 : decode cX10_lets 38 = .ok (.ireturn, 1) := by decide +kernel
theorem dX10_lets_39 : decode cX10_lets 39 = .ok (.aload_n 0, 1) := by decide +kernel
theorem dX10_lets_40 : decode cX10_lets 40 = .ok (.iload_n 1, 1) := by decide +kernel
theorem dX10_lets_41 : decode cX10_lets 41 = .ok (.invokevirtual 233, 3) := by decide +kernel
theorem dX10_lets_44 : decode cX10_lets 44 = .ok (.ifCond .ne 12, 3) := by decide +kernel
theorem dX10_lets_47 : decode cX10_lets 47 = .ok (.aload_n 0, 1) := by decide +kernel
theorem dX10_lets_48 : decode cX10_lets 48 = .ok (.getfield 10, 3) := by decide +kernel
theorem dX10_lets_51 : decode cX10_lets 51 = .ok (.iconst 3, 1) := by decide +kernel
theorem dX10_lets_52 : decode cX10_lets 52 = .ok (.invokevirtual 83, 3) := by decide +kernel
theorem dX10_lets_55 : decode cX10_lets 55 = .ok (.ireturn, 1) := by decide +kernel
theorem dX10_lets_56 : decode cX10_lets 56 = .ok (.aload_n 0, 1) := by decide +kernel
theorem dX10_lets_57 : decode cX10_lets 57 = .ok (.iload_n 1, 1) := by decide +kernel
theorem dX10_lets_58 : decode cX10_lets 58 = .ok (.invokevirtual 236, 3) := by decide +kernel
theorem dX10_lets_61 : decode cX10_lets 61 = .ok (.ireturn, 1) := by decide +kernel
set_option maxRecDepth 20000 in
theorem ggX10_least_X2_isSet : GoodIn wsX10_least wsX2_isSet := goodIn_r _ [8, 9, 10, 11, 7, 12, 13, 85, 86, 87, 88, 89, 90, 91, 92] (by decide +kernel) (by decide +kernel)
set_option maxRecDepth 20000 in
theorem gX10_least_X2_isSet : GoodIn wsX10_least (wsV RX10 239 RX2 yX2_isSet wsX2_isSet) := goodIn_app (goodIn_of _ (by decide +kernel)) ggX10_least_X2_isSet
set_option maxRecDepth 20000 in
theorem ggX10_least_X10_reachAll : GoodIn wsX10_least wsX10_reachAll := goodIn_r _ [18, 2, 1, 19, 10, 11, 7, 12, 13, 20, 21, 22, 23, 24, 25, 26, 27, 28, 29, 30, 31, 32, 33, 34, 35, 36, 37, 38, 39, 40, 41, 42, 43, 44, 45, 46, 47, 48, 49, 50, 51, 52, 53, 54, 55, 56, 57, 58, 59, 60, 75, 76, 77, 78, 79, 80, 81, 82, 83, 84, 85, 86, 87, 88, 89, 90, 91, 92, 93, 94] (by decide +kernel) (by decide +kernel)
set_option maxRecDepth 20000 in
theorem gX10_least_X10_reachAll : GoodIn wsX10_least (wsV RX10 242 RX10 yX10_reachAll wsX10_reachAll) := goodIn_app (goodIn_of _ (by decide +kernel)) ggX10_least_X10_reachAll
set_option maxRecDepth 20000 in
theorem ggX10_least_X4_cheapestWith : GoodIn wsX10_least wsX4_cheapestWith := goodIn_r _ [64, 25, 26, 93, 94] (by decide +kernel) (by decide +kernel)
set_option maxRecDepth 20000 in
theorem gX10_least_X4_cheapestWith : GoodIn wsX10_least (wsV RX10 245 RX4 yX4_cheapestWith wsX4_cheapestWith) := goodIn_app (goodIn_of _ (by decide +kernel)) ggX10_least_X4_cheapestWith
set_option maxRecDepth 20000 in
theorem ggX10_least_X9_tell : GoodIn wsX10_least wsX9_tell := goodIn_r _ [69, 70, 95, 96, 97, 98, 99] (by decide +kernel) (by decide +kernel)
set_option maxRecDepth 20000 in
theorem gX10_least_X9_tell : GoodIn wsX10_least (wsV RX10 98 RX9 yX9_tell wsX9_tell) := goodIn_app (goodIn_of _ (by decide +kernel)) ggX10_least_X9_tell
set_option maxRecDepth 20000 in
theorem ggX10_least_X4_favoursOf : GoodIn wsX10_least wsX4_favoursOf := goodIn_r _ [74, 25, 26, 93, 94] (by decide +kernel) (by decide +kernel)
set_option maxRecDepth 20000 in
theorem gX10_least_X4_favoursOf : GoodIn wsX10_least (wsV RX10 248 RX4 yX4_favoursOf wsX4_favoursOf) := goodIn_app (goodIn_of _ (by decide +kernel)) ggX10_least_X4_favoursOf
theorem dX10_least_0 : decode cX10_least 0 = .ok (.aload_n 0, 1) := by decide +kernel
theorem dX10_least_1 : decode cX10_least 1 = .ok (.getfield 40, 3) := by decide +kernel
theorem dX10_least_4 : decode cX10_least 4 = .ok (.iload_n 1, 1) := by decide +kernel
theorem dX10_least_5 : decode cX10_least 5 = .ok (.invokevirtual 239, 3) := by decide +kernel
theorem dX10_least_8 : decode cX10_least 8 = .ok (.ifCond .ne 5, 3) := by decide +kernel
theorem dX10_least_11 : decode cX10_least 11 = .ok (.iconst (-1), 1) := by decide +kernel
theorem dX10_least_12 : decode cX10_least 12 = .ok (.ireturn, 1) := by decide +kernel
theorem dX10_least_13 : decode cX10_least 13 = .ok (.aload_n 0, 1) := by decide +kernel
theorem dX10_least_14 : decode cX10_least 14 = .ok (.invokevirtual 242, 3) := by decide +kernel
theorem dX10_least_17 : decode cX10_least 17 = .ok (.aload_n 0, 1) := by decide +kernel
theorem dX10_least_18 : decode cX10_least 18 = .ok (.getfield 54, 3) := by decide +kernel
theorem dX10_least_21 : decode cX10_least 21 = .ok (.iload_n 1, 1) := by decide +kernel
theorem dX10_least_22 : decode cX10_least 22 = .ok (.invokevirtual 245, 3) := by decide +kernel
theorem dX10_least_25 : decode cX10_least 25 = .ok (.istore_n 2, 1) := by decide +kernel
theorem dX10_least_26 : decode cX10_least 26 = .ok (.iload_n 2, 1) := by decide +kernel
theorem dX10_least_27 : decode cX10_least 27 = .ok (.bipush (-9), 2) := by decide +kernel
theorem dX10_least_29 : decode cX10_least 29 = .ok (.if_icmp .ne 6, 3) := by decide +kernel
theorem dX10_least_32 : decode cX10_least 32 = .ok (.bipush (-9), 2) := by decide +kernel
theorem dX10_least_34 : decode cX10_least 34 = .ok (.ireturn, 1) := by decide +kernel
theorem dX10_least_35 : decode cX10_least 35 = .ok (.aload_n 0, 1) := by decide +kernel
theorem dX10_least_36 : decode cX10_least 36 = .ok (.getfield 10, 3) := by decide +kernel
theorem dX10_least_39 : decode cX10_least 39 = .ok (.iload_n 2, 1) := by decide +kernel
theorem dX10_least_40 : decode cX10_least 40 = .ok (.invokevirtual 98, 3) := by decide +kernel
theorem dX10_least_43 : decode cX10_least 43 = .ok (.aload_n 0, 1) := by decide +kernel
theorem dX10_least_44 : decode cX10_least 44 = .ok (.getfield 54, 3) := by decide +kernel
theorem dX10_least_47 : decode cX10_least 47 = .ok (.iload_n 2, 1) := by decide +kernel
theorem dX10_least_48 : decode cX10_least 48 = .ok (.invokevirtual 248, 3) := by decide +kernel
theorem dX10_least_51 : decode cX10_least 51 = .ok (.ireturn, 1) := by decide +kernel
set_option maxRecDepth 20000 in
theorem ggX10_order_X2_isSet : GoodIn wsX10_order wsX2_isSet := goodIn_r _ [8, 9, 10, 11, 7, 12, 13, 108, 109, 110, 111, 112, 113, 114, 115] (by decide +kernel) (by decide +kernel)
set_option maxRecDepth 20000 in
theorem gX10_order_X2_isSet : GoodIn wsX10_order (wsV RX10 239 RX2 yX2_isSet wsX2_isSet) := goodIn_app (goodIn_of _ (by decide +kernel)) ggX10_order_X2_isSet
set_option maxRecDepth 20000 in
theorem ggX10_order_X6_isNumber : GoodIn wsX10_order wsX6_isNumber := goodIn_r _ [18] (by decide +kernel) (by decide +kernel)
set_option maxRecDepth 20000 in
theorem gX10_order_X6_isNumber : GoodIn wsX10_order (wsV RX10 79 RX6 yX6_isNumber wsX6_isNumber) := goodIn_app (goodIn_of _ (by decide +kernel)) ggX10_order_X6_isNumber
set_option maxRecDepth 20000 in
theorem ggX10_order_X3_findFirst : GoodIn wsX10_order wsX3_findFirst := goodIn_r _ [23, 24, 25, 26, 27, 22, 28, 29, 30, 31, 32, 33, 34, 10, 11, 7, 12, 13, 35, 36, 37, 38, 39, 40, 41, 42, 43, 44, 45, 46, 47, 48, 49, 50, 51, 52, 53, 54, 55, 56, 57, 58, 59, 60, 61, 62, 63, 64, 65, 66, 67, 68, 69, 70, 71, 72, 73, 116, 117, 118, 119, 108, 109, 110, 111, 112, 113, 114, 115] (by decide +kernel) (by decide +kernel)
set_option maxRecDepth 20000 in
theorem gX10_order_X3_findFirst : GoodIn wsX10_order (wsV RX10 251 RX3 yX3_findFirst wsX3_findFirst) := goodIn_app (goodIn_of _ (by decide +kernel)) ggX10_order_X3_findFirst
set_option maxRecDepth 20000 in
theorem ggX10_order_J6_bitCount_0f7a4 : GoodIn wsX10_order wsJ6_bitCount_0f7a4 := goodIn_r _ [54, 55, 56, 57] (by decide +kernel) (by decide +kernel)
set_option maxRecDepth 20000 in
theorem gX10_order_J6_bitCount_0f7a4 : GoodIn wsX10_order (va_wsS RX10 255 yJ6_bitCount_0f7a4 wsJ6_bitCount_0f7a4) := goodIn_app (goodIn_of _ (by decide +kernel)) ggX10_order_J6_bitCount_0f7a4
set_option maxRecDepth 20000 in
theorem ggX10_order_X6_make : GoodIn wsX10_order wsX6_make := goodIn_r _ [78, 79, 80, 81, 15, 16, 17, 18, 120, 121] (by decide +kernel) (by decide +kernel)
set_option maxRecDepth 20000 in
theorem gX10_order_X6_make : GoodIn wsX10_order (wsV RX10 87 RX6 yX6_make wsX6_make) := goodIn_app (goodIn_of _ (by decide +kernel)) ggX10_order_X6_make
set_option maxRecDepth 20000 in
theorem ggX10_order_X3_stepAt : GoodIn wsX10_order wsX3_stepAt := goodIn_r _ [85, 73, 116, 117, 118, 119] (by decide +kernel) (by decide +kernel)
set_option maxRecDepth 20000 in
theorem gX10_order_X3_stepAt : GoodIn wsX10_order (wsV RX10 260 RX3 yX3_stepAt wsX3_stepAt) := goodIn_app (goodIn_of _ (by decide +kernel)) ggX10_order_X3_stepAt
set_option maxRecDepth 20000 in
theorem ggX10_order_X6_set : GoodIn wsX10_order wsX6_set := goodIn_r _ [89, 80, 90, 91, 92, 17, 93, 94, 95, 96, 97, 79, 81, 15, 16, 18, 120, 121] (by decide +kernel) (by decide +kernel)
set_option maxRecDepth 20000 in
theorem gX10_order_X6_set : GoodIn wsX10_order (wsV RX10 102 RX6 yX6_set wsX6_set) := goodIn_app (goodIn_of _ (by decide +kernel)) ggX10_order_X6_set
theorem dX10_order_0 : decode cX10_order 0 = .ok (.aload_n 0, 1) := by decide +kernel
theorem dX10_order_1 : decode cX10_order 1 = .ok (.getfield 40, 3) := by decide +kernel
theorem dX10_order_4 : decode cX10_order 4 = .ok (.iload_n 1, 1) := by decide +kernel
theorem dX10_order_5 : decode cX10_order 5 = .ok (.invokevirtual 239, 3) := by decide +kernel
theorem dX10_order_8 : decode cX10_order 8 = .ok (.ifCond .eq 14, 3) := by decide +kernel
theorem dX10_order_11 : decode cX10_order 11 = .ok (.aload_n 0, 1) := by decide +kernel
theorem dX10_order_12 : decode cX10_order 12 = .ok (.getfield 19, 3) := by decide +kernel
theorem dX10_order_15 : decode cX10_order 15 = .ok (.iload_n 2, 1) := by decide +kernel
theorem dX10_order_16 : decode cX10_order 16 = .ok (.invokevirtual 79, 3) := by decide +kernel
theorem dX10_order_19 : decode cX10_order 19 = .ok (.ifCond .ne 5, 3) := by decide +kernel
theorem dX10_order_22 : decode cX10_order 22 = .ok (.iconst (-1), 1) := by decide +kernel
theorem dX10_order_23 : decode cX10_order 23 = .ok (.ireturn, 1) := by decide +kernel
theorem dX10_order_24 : decode cX10_order 24 = .ok (.aload_n 0, 1) := by decide +kernel
theorem dX10_order_25 : decode cX10_order 25 = .ok (.getfield 61, 3) := by decide +kernel
theorem dX10_order_28 : decode cX10_order 28 = .ok (.aload_n 0, 1) := by decide +kernel
theorem dX10_order_29 : decode cX10_order 29 = .ok (.getfield 40, 3) := by decide +kernel
theorem dX10_order_32 : decode cX10_order 32 = .ok (.iload_n 1, 1) := by decide +kernel
theorem dX10_order_33 : decode cX10_order 33 = .ok (.invokevirtual 251, 3) := by decide +kernel
theorem dX10_order_36 : decode cX10_order 36 = .ok (.istore_n 3, 1) := by decide +kernel
theorem dX10_order_37 : decode cX10_order 37 = .ok (.iload_n 3, 1) := by decide +kernel
theorem dX10_order_38 : decode cX10_order 38 = .ok (.bipush (-9), 2) := by decide +kernel
theorem dX10_order_40 : decode cX10_order 40 = .ok (.if_icmp .ne 6, 3) := by decide +kernel
theorem dX10_order_43 : decode cX10_order 43 = .ok (.bipush (-9), 2) := by decide +kernel
theorem dX10_order_45 : decode cX10_order 45 = .ok (.ireturn, 1) := by decide +kernel
theorem dX10_order_46 : decode cX10_order 46 = .ok (.iload_n 1, 1) := by decide +kernel
theorem dX10_order_47 : decode cX10_order 47 = .ok (.invokestatic 255, 3) := by decide +kernel
theorem dX10_order_50 : decode cX10_order 50 = .ok (.istore 4, 2) := by decide +kernel
theorem dX10_order_52 : decode cX10_order 52 = .ok (.aload_n 0, 1) := by decide +kernel
theorem dX10_order_53 : decode cX10_order 53 = .ok (.getfield 19, 3) := by decide +kernel
theorem dX10_order_56 : decode cX10_order 56 = .ok (.iload_n 2, 1) := by decide +kernel
theorem dX10_order_57 : decode cX10_order 57 = .ok (.iload 4, 2) := by decide +kernel
theorem dX10_order_59 : decode cX10_order 59 = .ok (.invokevirtual 87, 3) := by decide +kernel
theorem dX10_order_62 : decode cX10_order 62 = .ok (.iconst 0, 1) := by decide +kernel
theorem dX10_order_63 : decode cX10_order 63 = .ok (.istore 5, 2) := by decide +kernel
theorem dX10_order_65 : decode cX10_order 65 = .ok (.iload 5, 2) := by decide +kernel
theorem dX10_order_67 : decode cX10_order 67 = .ok (.iload 4, 2) := by decide +kernel
theorem dX10_order_69 : decode cX10_order 69 = .ok (.if_icmp .ge 28, 3) := by decide +kernel
theorem dX10_order_72 : decode cX10_order 72 = .ok (.aload_n 0, 1) := by decide +kernel
theorem dX10_order_73 : decode cX10_order 73 = .ok (.getfield 19, 3) := by decide +kernel
theorem dX10_order_76 : decode cX10_order 76 = .ok (.iload_n 2, 1) := by decide +kernel
theorem dX10_order_77 : decode cX10_order 77 = .ok (.iload 5, 2) := by decide +kernel
theorem dX10_order_79 : decode cX10_order 79 = .ok (.aload_n 0, 1) := by decide +kernel
theorem dX10_order_80 : decode cX10_order 80 = .ok (.getfield 61, 3) := by decide +kernel
theorem dX10_order_83 : decode cX10_order 83 = .ok (.iload 5, 2) := by decide +kernel
theorem dX10_order_85 : decode cX10_order 85 = .ok (.invokevirtual 260, 3) := by decide +kernel
theorem dX10_order_88 : decode cX10_order 88 = .ok (.invokevirtual 102, 3) := by decide +kernel
theorem dX10_order_91 : decode cX10_order 91 = .ok (.iinc 5 1, 3) := by decide +kernel
theorem dX10_order_94 : decode cX10_order 94 = .ok (.goto (-29), 3) := by decide +kernel
theorem dX10_order_97 : decode cX10_order 97 = .ok (.iload_n 3, 1) := by decide +kernel
theorem dX10_order_98 : decode cX10_order 98 = .ok (.ireturn, 1) := by decide +kernel
set_option maxRecDepth 20000 in
theorem ggX10_reached_X10_reachAll : GoodIn wsX10_reached wsX10_reachAll := goodIn_r _ [7, 2, 8, 9, 10, 11, 12, 13, 14, 15, 16, 17, 18, 19, 20, 21, 22, 23, 24, 25, 26, 27, 28, 29, 30, 31, 32, 33, 34, 35, 36, 37, 38, 39, 40, 41, 42, 43, 44, 45, 46, 47, 48, 49, 50, 51, 52, 53, 54, 55, 84, 85, 86, 87, 88, 89, 90, 91, 92, 93, 94, 95, 96, 97, 98, 99, 100, 101, 102, 103] (by decide +kernel) (by decide +kernel)
set_option maxRecDepth 20000 in
theorem gX10_reached_X10_reachAll : GoodIn wsX10_reached (wsV RX10 242 RX10 yX10_reachAll wsX10_reachAll) := goodIn_app (goodIn_of _ (by decide +kernel)) ggX10_reached_X10_reachAll
set_option maxRecDepth 20000 in
theorem ggX10_reached_X4_greatest : GoodIn wsX10_reached wsX4_greatest := goodIn_r _ [59, 20, 60, 61, 62, 18, 63, 64, 65, 66, 67, 21, 68, 69, 70, 71, 72, 39, 40, 41, 42, 43, 44, 102, 103] (by decide +kernel) (by decide +kernel)
set_option maxRecDepth 20000 in
theorem gX10_reached_X4_greatest : GoodIn wsX10_reached (wsV RX10 263 RX4 yX4_greatest wsX4_greatest) := goodIn_app (goodIn_of _ (by decide +kernel)) ggX10_reached_X4_greatest
set_option maxRecDepth 20000 in
theorem ggX10_reached_J6_bitCount_0f7a4 : GoodIn wsX10_reached wsJ6_bitCount_0f7a4 := goodIn_r _ [41, 42, 43, 44] (by decide +kernel) (by decide +kernel)
set_option maxRecDepth 20000 in
theorem gX10_reached_J6_bitCount_0f7a4 : GoodIn wsX10_reached (va_wsS RX10 255 yJ6_bitCount_0f7a4 wsJ6_bitCount_0f7a4) := goodIn_app (goodIn_of _ (by decide +kernel)) ggX10_reached_J6_bitCount_0f7a4
set_option maxRecDepth 20000 in
theorem ggX10_reached_X9_tell : GoodIn wsX10_reached wsX9_tell := goodIn_r _ [78, 79, 104, 105, 106, 107, 108] (by decide +kernel) (by decide +kernel)
set_option maxRecDepth 20000 in
theorem gX10_reached_X9_tell : GoodIn wsX10_reached (wsV RX10 98 RX9 yX9_tell wsX9_tell) := goodIn_app (goodIn_of _ (by decide +kernel)) ggX10_reached_X9_tell
set_option maxRecDepth 20000 in
theorem ggX10_reached_X4_howMany : GoodIn wsX10_reached wsX4_howMany := goodIn_r _ [83, 20, 60, 61, 62, 18, 63, 64, 65, 66, 67, 21, 102, 103] (by decide +kernel) (by decide +kernel)
set_option maxRecDepth 20000 in
theorem gX10_reached_X4_howMany : GoodIn wsX10_reached (wsV RX10 266 RX4 yX4_howMany wsX4_howMany) := goodIn_app (goodIn_of _ (by decide +kernel)) ggX10_reached_X4_howMany
theorem dX10_reached_0 : decode cX10_reached 0 = .ok (.aload_n 0, 1) := by decide +kernel
theorem dX10_reached_1 : decode cX10_reached 1 = .ok (.invokevirtual 242, 3) := by decide +kernel
theorem dX10_reached_4 : decode cX10_reached 4 = .ok (.aload_n 0, 1) := by decide +kernel
theorem dX10_reached_5 : decode cX10_reached 5 = .ok (.getfield 10, 3) := by decide +kernel
theorem dX10_reached_8 : decode cX10_reached 8 = .ok (.aload_n 0, 1) := by decide +kernel
theorem dX10_reached_9 : decode cX10_reached 9 = .ok (.getfield 54, 3) := by decide +kernel
theorem dX10_reached_12 : decode cX10_reached 12 = .ok (.invokevirtual 263, 3) := by decide +kernel
theorem dX10_reached_15 : decode cX10_reached 15 = .ok (.invokestatic 255, 3) := by decide +kernel
theorem dX10_reached_18 : decode cX10_reached 18 = .ok (.invokevirtual 98, 3) := by decide +kernel
theorem dX10_reached_21 : decode cX10_reached 21 = .ok (.aload_n 0, 1) := by decide +kernel
theorem dX10_reached_22 : decode cX10_reached 22 = .ok (.getfield 54, 3) := by decide +kernel
theorem dX10_reached_25 : decode cX10_reached 25 = .ok (.invokevirtual 266, 3) := by decide +kernel
theorem dX10_reached_28 : decode cX10_reached 28 = .ok (.ireturn, 1) := by decide +kernel
set_option maxRecDepth 20000 in
theorem ggX10_most_X10_reachAll : GoodIn wsX10_most wsX10_reachAll := goodIn_r _ [7, 1, 8, 9, 10, 11, 12, 13, 14, 15, 16, 17, 18, 19, 20, 21, 22, 23, 24, 25, 26, 27, 28, 29, 30, 31, 32, 33, 34, 35, 36, 37, 38, 39, 40, 41, 42, 43, 44, 45, 46, 47, 48, 49, 50, 51, 52, 53, 54, 55, 80, 81, 82, 83, 84, 85, 86, 87, 88, 89, 90, 91, 92, 93, 94, 95, 96, 97, 98, 99] (by decide +kernel) (by decide +kernel)
set_option maxRecDepth 20000 in
theorem gX10_most_X10_reachAll : GoodIn wsX10_most (wsV RX10 242 RX10 yX10_reachAll wsX10_reachAll) := goodIn_app (goodIn_of _ (by decide +kernel)) ggX10_most_X10_reachAll
set_option maxRecDepth 20000 in
theorem ggX10_most_X4_greatest : GoodIn wsX10_most wsX4_greatest := goodIn_r _ [59, 20, 60, 61, 62, 18, 63, 64, 65, 66, 67, 21, 68, 69, 70, 71, 72, 39, 40, 41, 42, 43, 44, 98, 99] (by decide +kernel) (by decide +kernel)
set_option maxRecDepth 20000 in
theorem gX10_most_X4_greatest : GoodIn wsX10_most (wsV RX10 263 RX4 yX4_greatest wsX4_greatest) := goodIn_app (goodIn_of _ (by decide +kernel)) ggX10_most_X4_greatest
set_option maxRecDepth 20000 in
theorem ggX10_most_X4_favoursOf : GoodIn wsX10_most wsX4_favoursOf := goodIn_r _ [67, 20, 21, 98, 99] (by decide +kernel) (by decide +kernel)
set_option maxRecDepth 20000 in
theorem gX10_most_X4_favoursOf : GoodIn wsX10_most (wsV RX10 248 RX4 yX4_favoursOf wsX4_favoursOf) := goodIn_app (goodIn_of _ (by decide +kernel)) ggX10_most_X4_favoursOf
set_option maxRecDepth 20000 in
theorem ggX10_most_X9_tell : GoodIn wsX10_most wsX9_tell := goodIn_r _ [78, 79, 100, 101, 102, 103, 104] (by decide +kernel) (by decide +kernel)
set_option maxRecDepth 20000 in
theorem gX10_most_X9_tell : GoodIn wsX10_most (wsV RX10 98 RX9 yX9_tell wsX9_tell) := goodIn_app (goodIn_of _ (by decide +kernel)) ggX10_most_X9_tell
theorem dX10_most_0 : decode cX10_most 0 = .ok (.aload_n 0, 1) := by decide +kernel
theorem dX10_most_1 : decode cX10_most 1 = .ok (.invokevirtual 242, 3) := by decide +kernel
theorem dX10_most_4 : decode cX10_most 4 = .ok (.aload_n 0, 1) := by decide +kernel
theorem dX10_most_5 : decode cX10_most 5 = .ok (.getfield 54, 3) := by decide +kernel
theorem dX10_most_8 : decode cX10_most 8 = .ok (.invokevirtual 263, 3) := by decide +kernel
theorem dX10_most_11 : decode cX10_most 11 = .ok (.istore_n 1, 1) := by decide +kernel
theorem dX10_most_12 : decode cX10_most 12 = .ok (.aload_n 0, 1) := by decide +kernel
theorem dX10_most_13 : decode cX10_most 13 = .ok (.getfield 10, 3) := by decide +kernel
theorem dX10_most_16 : decode cX10_most 16 = .ok (.aload_n 0, 1) := by decide +kernel
theorem dX10_most_17 : decode cX10_most 17 = .ok (.getfield 54, 3) := by decide +kernel
theorem dX10_most_20 : decode cX10_most 20 = .ok (.iload_n 1, 1) := by decide +kernel
theorem dX10_most_21 : decode cX10_most 21 = .ok (.invokevirtual 248, 3) := by decide +kernel
theorem dX10_most_24 : decode cX10_most 24 = .ok (.invokevirtual 98, 3) := by decide +kernel
theorem dX10_most_27 : decode cX10_most 27 = .ok (.iload_n 1, 1) := by decide +kernel
theorem dX10_most_28 : decode cX10_most 28 = .ok (.ireturn, 1) := by decide +kernel
set_option maxRecDepth 20000 in
theorem ggX10_ever_X10_reachAll : GoodIn wsX10_ever wsX10_reachAll := goodIn_r _ [8, 1, 3, 9, 10, 11, 12, 13, 14, 15, 16, 17, 18, 19, 20, 21, 22, 23, 24, 25, 26, 27, 28, 29, 30, 31, 32, 33, 34, 35, 36, 37, 38, 39, 40, 41, 42, 43, 44, 45, 46, 47, 48, 49, 50, 51, 52, 53, 54, 55, 74, 75, 76, 77, 78, 79, 80, 81, 82, 83, 84, 85, 86, 87, 88, 89, 90, 91, 92, 93] (by decide +kernel) (by decide +kernel)
set_option maxRecDepth 20000 in
theorem gX10_ever_X10_reachAll : GoodIn wsX10_ever (wsV RX10 242 RX10 yX10_reachAll wsX10_reachAll) := goodIn_app (goodIn_of _ (by decide +kernel)) ggX10_ever_X10_reachAll
set_option maxRecDepth 20000 in
theorem ggX10_ever_X4_inSome : GoodIn wsX10_ever wsX4_inSome := goodIn_r _ [59, 20, 60, 61, 62, 18, 63, 64, 65, 66, 67, 21, 92, 93] (by decide +kernel) (by decide +kernel)
set_option maxRecDepth 20000 in
theorem gX10_ever_X4_inSome : GoodIn wsX10_ever (wsV RX10 269 RX4 yX4_inSome wsX4_inSome) := goodIn_app (goodIn_of _ (by decide +kernel)) ggX10_ever_X4_inSome
set_option maxRecDepth 20000 in
theorem ggX10_ever_X2_everyone : GoodIn wsX10_ever wsX2_everyone := goodIn_r _ [13, 14, 84, 85, 86, 87, 88, 89, 90, 91] (by decide +kernel) (by decide +kernel)
set_option maxRecDepth 20000 in
theorem gX10_ever_X2_everyone : GoodIn wsX10_ever (wsV RX10 201 RX2 yX2_everyone wsX2_everyone) := goodIn_app (goodIn_of _ (by decide +kernel)) ggX10_ever_X2_everyone
set_option maxRecDepth 20000 in
theorem ggX10_ever_X9_tell : GoodIn wsX10_ever wsX9_tell := goodIn_r _ [72, 73, 94, 95, 96, 97, 98] (by decide +kernel) (by decide +kernel)
set_option maxRecDepth 20000 in
theorem gX10_ever_X9_tell : GoodIn wsX10_ever (wsV RX10 98 RX9 yX9_tell wsX9_tell) := goodIn_app (goodIn_of _ (by decide +kernel)) ggX10_ever_X9_tell
theorem dX10_ever_0 : decode cX10_ever 0 = .ok (.aload_n 0, 1) := by decide +kernel
theorem dX10_ever_1 : decode cX10_ever 1 = .ok (.invokevirtual 242, 3) := by decide +kernel
theorem dX10_ever_4 : decode cX10_ever 4 = .ok (.aload_n 0, 1) := by decide +kernel
theorem dX10_ever_5 : decode cX10_ever 5 = .ok (.getfield 54, 3) := by decide +kernel
theorem dX10_ever_8 : decode cX10_ever 8 = .ok (.invokevirtual 269, 3) := by decide +kernel
theorem dX10_ever_11 : decode cX10_ever 11 = .ok (.istore_n 1, 1) := by decide +kernel
theorem dX10_ever_12 : decode cX10_ever 12 = .ok (.aload_n 0, 1) := by decide +kernel
theorem dX10_ever_13 : decode cX10_ever 13 = .ok (.getfield 10, 3) := by decide +kernel
theorem dX10_ever_16 : decode cX10_ever 16 = .ok (.aload_n 0, 1) := by decide +kernel
theorem dX10_ever_17 : decode cX10_ever 17 = .ok (.getfield 40, 3) := by decide +kernel
theorem dX10_ever_20 : decode cX10_ever 20 = .ok (.invokevirtual 201, 3) := by decide +kernel
theorem dX10_ever_23 : decode cX10_ever 23 = .ok (.iload_n 1, 1) := by decide +kernel
theorem dX10_ever_24 : decode cX10_ever 24 = .ok (.iconst (-1), 1) := by decide +kernel
theorem dX10_ever_25 : decode cX10_ever 25 = .ok (.ixor, 1) := by decide +kernel
theorem dX10_ever_26 : decode cX10_ever 26 = .ok (.iand, 1) := by decide +kernel
theorem dX10_ever_27 : decode cX10_ever 27 = .ok (.invokevirtual 98, 3) := by decide +kernel
theorem dX10_ever_30 : decode cX10_ever 30 = .ok (.iload_n 1, 1) := by decide +kernel
theorem dX10_ever_31 : decode cX10_ever 31 = .ok (.ireturn, 1) := by decide +kernel
set_option maxRecDepth 20000 in
theorem ggX10_ways_X2_isSet : GoodIn wsX10_ways wsX2_isSet := goodIn_r _ [7, 8, 9, 10, 6, 11, 12, 68, 69, 70, 71, 72, 73, 74, 75] (by decide +kernel) (by decide +kernel)
set_option maxRecDepth 20000 in
theorem gX10_ways_X2_isSet : GoodIn wsX10_ways (wsV RX10 239 RX2 yX2_isSet wsX2_isSet) := goodIn_app (goodIn_of _ (by decide +kernel)) ggX10_ways_X2_isSet
set_option maxRecDepth 20000 in
theorem ggX10_ways_X3_howMany : GoodIn wsX10_ways wsX3_howMany := goodIn_r _ [17, 18, 19, 20, 21, 16, 22, 23, 9, 10, 6, 11, 12, 24, 25, 26, 27, 28, 29, 30, 31, 32, 33, 34, 35, 36, 37, 38, 39, 40, 41, 42, 43, 44, 45, 46, 47, 48, 49, 50, 51, 52, 53, 54, 55, 56, 57, 76, 77, 78, 79, 68, 69, 70, 71, 72, 73, 74, 75] (by decide +kernel) (by decide +kernel)
set_option maxRecDepth 20000 in
theorem gX10_ways_X3_howMany : GoodIn wsX10_ways (wsV RX10 272 RX3 yX3_howMany wsX3_howMany) := goodIn_app (goodIn_of _ (by decide +kernel)) ggX10_ways_X3_howMany
theorem dX10_ways_0 : decode cX10_ways 0 = .ok (.aload_n 0, 1) := by decide +kernel
theorem dX10_ways_1 : decode cX10_ways 1 = .ok (.getfield 40, 3) := by decide +kernel
theorem dX10_ways_4 : decode cX10_ways 4 = .ok (.iload_n 1, 1) := by decide +kernel
theorem dX10_ways_5 : decode cX10_ways 5 = .ok (.invokevirtual 239, 3) := by decide +kernel
theorem dX10_ways_8 : decode cX10_ways 8 = .ok (.ifCond .eq 18, 3) := by decide +kernel
theorem dX10_ways_11 : decode cX10_ways 11 = .ok (.aload_n 0, 1) := by decide +kernel
theorem dX10_ways_12 : decode cX10_ways 12 = .ok (.getfield 61, 3) := by decide +kernel
theorem dX10_ways_15 : decode cX10_ways 15 = .ok (.aload_n 0, 1) := by decide +kernel
theorem dX10_ways_16 : decode cX10_ways 16 = .ok (.getfield 40, 3) := by decide +kernel
theorem dX10_ways_19 : decode cX10_ways 19 = .ok (.iload_n 1, 1) := by decide +kernel
theorem dX10_ways_20 : decode cX10_ways 20 = .ok (.invokevirtual 272, 3) := by decide +kernel
theorem dX10_ways_23 : decode cX10_ways 23 = .ok (.goto 4, 3) := by decide +kernel
theorem dX10_ways_26 : decode cX10_ways 26 = .ok (.iconst (-1), 1) := by decide +kernel
theorem dX10_ways_27 : decode cX10_ways 27 = .ok (.ireturn, 1) := by decide +kernel
set_option maxRecDepth 20000 in
theorem ggX10_ring_X2_isCell : GoodIn wsX10_ring wsX2_isCell := goodIn_r _ [7, 8, 42, 43, 44, 45, 46, 47, 48, 49] (by decide +kernel) (by decide +kernel)
set_option maxRecDepth 20000 in
theorem gX10_ring_X2_isCell : GoodIn wsX10_ring (wsV RX10 165 RX2 yX2_isCell wsX2_isCell) := goodIn_app (goodIn_of _ (by decide +kernel)) ggX10_ring_X2_isCell
set_option maxRecDepth 20000 in
theorem ggX10_ring_X2_farFrom : GoodIn wsX10_ring wsX2_farFrom := goodIn_r _ [12, 8, 13, 14, 4, 5, 6, 7, 42, 43, 44, 45, 46, 47, 48, 49] (by decide +kernel) (by decide +kernel)
set_option maxRecDepth 20000 in
theorem gX10_ring_X2_farFrom : GoodIn wsX10_ring (wsV RX10 274 RX2 yX2_farFrom wsX2_farFrom) := goodIn_app (goodIn_of _ (by decide +kernel)) ggX10_ring_X2_farFrom
set_option maxRecDepth 20000 in
theorem ggX10_ring_X2_metFrom : GoodIn wsX10_ring wsX2_metFrom := goodIn_r _ [18, 13, 14, 4, 5, 6, 7, 8, 19, 20, 21, 22, 23, 24, 25, 42, 43, 44, 45, 46, 47, 48, 49] (by decide +kernel) (by decide +kernel)
set_option maxRecDepth 20000 in
theorem gX10_ring_X2_metFrom : GoodIn wsX10_ring (wsV RX10 277 RX2 yX2_metFrom wsX2_metFrom) := goodIn_app (goodIn_of _ (by decide +kernel)) ggX10_ring_X2_metFrom
set_option maxRecDepth 20000 in
theorem ggX10_ring_X9_tell : GoodIn wsX10_ring wsX9_tell := goodIn_r _ [30, 31, 50, 51, 52, 53, 54] (by decide +kernel) (by decide +kernel)
set_option maxRecDepth 20000 in
theorem gX10_ring_X9_tell : GoodIn wsX10_ring (wsV RX10 98 RX9 yX9_tell wsX9_tell) := goodIn_app (goodIn_of _ (by decide +kernel)) ggX10_ring_X9_tell
theorem dX10_ring_0 : decode cX10_ring 0 = .ok (.aload_n 0, 1) := by decide +kernel
theorem dX10_ring_1 : decode cX10_ring 1 = .ok (.getfield 40, 3) := by decide +kernel
theorem dX10_ring_4 : decode cX10_ring 4 = .ok (.iload_n 1, 1) := by decide +kernel
theorem dX10_ring_5 : decode cX10_ring 5 = .ok (.invokevirtual 165, 3) := by decide +kernel
theorem dX10_ring_8 : decode cX10_ring 8 = .ok (.ifCond .ne 5, 3) := by decide +kernel
theorem dX10_ring_11 : decode cX10_ring 11 = .ok (.iconst (-1), 1) := by decide +kernel
theorem dX10_ring_12 : decode cX10_ring 12 = .ok (.ireturn, 1) := by decide +kernel
theorem dX10_ring_13 : decode cX10_ring 13 = .ok (.aload_n 0, 1) := by decide +kernel
theorem dX10_ring_14 : decode cX10_ring 14 = .ok (.getfield 10, 3) := by decide +kernel
theorem dX10_ring_17 : decode cX10_ring 17 = .ok (.aload_n 0, 1) := by decide +kernel
theorem dX10_ring_18 : decode cX10_ring 18 = .ok (.getfield 40, 3) := by decide +kernel
theorem dX10_ring_21 : decode cX10_ring 21 = .ok (.aload_n 0, 1) := by decide +kernel
theorem dX10_ring_22 : decode cX10_ring 22 = .ok (.getfield 40, 3) := by decide +kernel
theorem dX10_ring_25 : decode cX10_ring 25 = .ok (.iload_n 1, 1) := by decide +kernel
theorem dX10_ring_26 : decode cX10_ring 26 = .ok (.invokevirtual 274, 3) := by decide +kernel
theorem dX10_ring_29 : decode cX10_ring 29 = .ok (.invokevirtual 277, 3) := by decide +kernel
theorem dX10_ring_32 : decode cX10_ring 32 = .ok (.invokevirtual 98, 3) := by decide +kernel
theorem dX10_ring_35 : decode cX10_ring 35 = .ok (.aload_n 0, 1) := by decide +kernel
theorem dX10_ring_36 : decode cX10_ring 36 = .ok (.getfield 40, 3) := by decide +kernel
theorem dX10_ring_39 : decode cX10_ring 39 = .ok (.iload_n 1, 1) := by decide +kernel
theorem dX10_ring_40 : decode cX10_ring 40 = .ok (.invokevirtual 277, 3) := by decide +kernel
theorem dX10_ring_43 : decode cX10_ring 43 = .ok (.ireturn, 1) := by decide +kernel
set_option maxRecDepth 20000 in
theorem ggX10_ill_X2_isCell : GoodIn wsX10_ill wsX2_isCell := goodIn_r _ [8, 9, 97, 98, 99, 100, 101, 102, 103, 104] (by decide +kernel) (by decide +kernel)
set_option maxRecDepth 20000 in
theorem gX10_ill_X2_isCell : GoodIn wsX10_ill (wsV RX10 165 RX2 yX2_isCell wsX2_isCell) := goodIn_app (goodIn_of _ (by decide +kernel)) ggX10_ill_X2_isCell
set_option maxRecDepth 20000 in
theorem ggX10_ill_X10_reachAll : GoodIn wsX10_ill wsX10_reachAll := goodIn_r _ [14, 2, 1, 15, 16, 17, 7, 18, 9, 19, 20, 21, 22, 23, 24, 25, 26, 27, 28, 29, 30, 31, 32, 33, 34, 5, 6, 8, 35, 36, 37, 38, 39, 40, 41, 42, 43, 44, 45, 46, 47, 48, 49, 50, 51, 52, 53, 54, 55, 56, 87, 88, 89, 90, 91, 92, 93, 94, 95, 96, 97, 98, 99, 100, 101, 102, 103, 104, 105, 106] (by decide +kernel) (by decide +kernel)
set_option maxRecDepth 20000 in
theorem gX10_ill_X10_reachAll : GoodIn wsX10_ill (wsV RX10 242 RX10 yX10_reachAll wsX10_reachAll) := goodIn_app (goodIn_of _ (by decide +kernel)) ggX10_ill_X10_reachAll
set_option maxRecDepth 20000 in
theorem ggX10_ill_X2_everyone : GoodIn wsX10_ill wsX2_everyone := goodIn_r _ [18, 9, 97, 98, 99, 100, 101, 102, 103, 104] (by decide +kernel) (by decide +kernel)
set_option maxRecDepth 20000 in
theorem gX10_ill_X2_everyone : GoodIn wsX10_ill (wsV RX10 201 RX2 yX2_everyone wsX2_everyone) := goodIn_app (goodIn_of _ (by decide +kernel)) ggX10_ill_X2_everyone
set_option maxRecDepth 20000 in
theorem ggX10_ill_X2_foesOf : GoodIn wsX10_ill wsX2_foesOf := goodIn_r _ [60, 50, 34, 5, 6, 7, 8, 9, 97, 98, 99, 100, 101, 102, 103, 104] (by decide +kernel) (by decide +kernel)
set_option maxRecDepth 20000 in
theorem gX10_ill_X2_foesOf : GoodIn wsX10_ill (wsV RX10 189 RX2 yX2_foesOf wsX2_foesOf) := goodIn_app (goodIn_of _ (by decide +kernel)) ggX10_ill_X2_foesOf
set_option maxRecDepth 20000 in
theorem ggX10_ill_X2_sprungOnes : GoodIn wsX10_ill wsX2_sprungOnes := goodIn_r _ [64, 51, 97, 98, 99, 100, 101, 102, 103, 104] (by decide +kernel) (by decide +kernel)
set_option maxRecDepth 20000 in
theorem gX10_ill_X2_sprungOnes : GoodIn wsX10_ill (wsV RX10 280 RX2 yX2_sprungOnes wsX2_sprungOnes) := goodIn_app (goodIn_of _ (by decide +kernel)) ggX10_ill_X2_sprungOnes
set_option maxRecDepth 20000 in
theorem ggX10_ill_X2_cells : GoodIn wsX10_ill wsX2_cells := goodIn_r _ [68, 9, 97, 98, 99, 100, 101, 102, 103, 104] (by decide +kernel) (by decide +kernel)
set_option maxRecDepth 20000 in
theorem gX10_ill_X2_cells : GoodIn wsX10_ill (wsV RX10 161 RX2 yX2_cells wsX2_cells) := goodIn_app (goodIn_of _ (by decide +kernel)) ggX10_ill_X2_cells
set_option maxRecDepth 20000 in
theorem ggX10_ill_X4_leastFor : GoodIn wsX10_ill wsX4_leastFor := goodIn_r _ [72, 73, 74, 75, 22, 76, 24, 25, 77, 78, 79, 80, 105, 106] (by decide +kernel) (by decide +kernel)
set_option maxRecDepth 20000 in
theorem gX10_ill_X4_leastFor : GoodIn wsX10_ill (wsV RX10 283 RX4 yX4_leastFor wsX4_leastFor) := goodIn_app (goodIn_of _ (by decide +kernel)) ggX10_ill_X4_leastFor
set_option maxRecDepth 20000 in
theorem ggX10_ill_X9_tell : GoodIn wsX10_ill wsX9_tell := goodIn_r _ [85, 86, 107, 108, 109, 110, 111] (by decide +kernel) (by decide +kernel)
set_option maxRecDepth 20000 in
theorem gX10_ill_X9_tell : GoodIn wsX10_ill (wsV RX10 98 RX9 yX9_tell wsX9_tell) := goodIn_app (goodIn_of _ (by decide +kernel)) ggX10_ill_X9_tell
theorem dX10_ill_0 : decode cX10_ill 0 = .ok (.aload_n 0, 1) := by decide +kernel
theorem dX10_ill_1 : decode cX10_ill 1 = .ok (.getfield 40, 3) := by decide +kernel
theorem dX10_ill_4 : decode cX10_ill 4 = .ok (.iload_n 1, 1) := by decide +kernel
theorem dX10_ill_5 : decode cX10_ill 5 = .ok (.invokevirtual 165, 3) := by decide +kernel
theorem dX10_ill_8 : decode cX10_ill 8 = .ok (.ifCond .ne 5, 3) := by decide +kernel
theorem dX10_ill_11 : decode cX10_ill 11 = .ok (.iconst (-1), 1) := by decide +kernel
theorem dX10_ill_12 : decode cX10_ill 12 = .ok (.ireturn, 1) := by decide +kernel
theorem dX10_ill_13 : decode cX10_ill 13 = .ok (.aload_n 0, 1) := by decide +kernel
theorem dX10_ill_14 : decode cX10_ill 14 = .ok (.invokevirtual 242, 3) := by decide +kernel
theorem dX10_ill_17 : decode cX10_ill 17 = .ok (.aload_n 0, 1) := by decide +kernel
theorem dX10_ill_18 : decode cX10_ill 18 = .ok (.getfield 40, 3) := by decide +kernel
theorem dX10_ill_21 : decode cX10_ill 21 = .ok (.invokevirtual 201, 3) := by decide +kernel
theorem dX10_ill_24 : decode cX10_ill 24 = .ok (.aload_n 0, 1) := by decide +kernel
theorem dX10_ill_25 : decode cX10_ill 25 = .ok (.getfield 40, 3) := by decide +kernel
theorem dX10_ill_28 : decode cX10_ill 28 = .ok (.iload_n 1, 1) := by decide +kernel
theorem dX10_ill_29 : decode cX10_ill 29 = .ok (.invokevirtual 189, 3) := by decide +kernel
theorem dX10_ill_32 : decode cX10_ill 32 = .ok (.iconst (-1), 1) := by decide +kernel
theorem dX10_ill_33 : decode cX10_ill 33 = .ok (.ixor, 1) := by decide +kernel
theorem dX10_ill_34 : decode cX10_ill 34 = .ok (.iand, 1) := by decide +kernel
theorem dX10_ill_35 : decode cX10_ill 35 = .ok (.aload_n 0, 1) := by decide +kernel
theorem dX10_ill_36 : decode cX10_ill 36 = .ok (.getfield 40, 3) := by decide +kernel
theorem dX10_ill_39 : decode cX10_ill 39 = .ok (.invokevirtual 280, 3) := by decide +kernel
theorem dX10_ill_42 : decode cX10_ill 42 = .ok (.iconst (-1), 1) := by decide +kernel
theorem dX10_ill_43 : decode cX10_ill 43 = .ok (.ixor, 1) := by decide +kernel
theorem dX10_ill_44 : decode cX10_ill 44 = .ok (.iand, 1) := by decide +kernel
theorem dX10_ill_45 : decode cX10_ill 45 = .ok (.iconst 1, 1) := by decide +kernel
theorem dX10_ill_46 : decode cX10_ill 46 = .ok (.iload_n 1, 1) := by decide +kernel
theorem dX10_ill_47 : decode cX10_ill 47 = .ok (.ishl, 1) := by decide +kernel
theorem dX10_ill_48 : decode cX10_ill 48 = .ok (.iconst (-1), 1) := by decide +kernel
theorem dX10_ill_49 : decode cX10_ill 49 = .ok (.ixor, 1) := by decide +kernel
theorem dX10_ill_50 : decode cX10_ill 50 = .ok (.iand, 1) := by decide +kernel
theorem dX10_ill_51 : decode cX10_ill 51 = .ok (.istore_n 2, 1) := by decide +kernel
theorem dX10_ill_52 : decode cX10_ill 52 = .ok (.bipush (-9), 2) := by decide +kernel
theorem dX10_ill_54 : decode cX10_ill 54 = .ok (.istore_n 3, 1) := by decide +kernel
theorem dX10_ill_55 : decode cX10_ill 55 = .ok (.bipush (-9), 2) := by decide +kernel
theorem dX10_ill_57 : decode cX10_ill 57 = .ok (.istore 4, 2) := by decide +kernel
theorem dX10_ill_59 : decode cX10_ill 59 = .ok (.iconst 0, 1) := by decide +kernel
theorem dX10_ill_60 : decode cX10_ill 60 = .ok (.istore 5, 2) := by decide +kernel
theorem dX10_ill_62 : decode cX10_ill 62 = .ok (.iload 5, 2) := by decide +kernel
theorem dX10_ill_64 : decode cX10_ill 64 = .ok (.aload_n 0, 1) := by decide +kernel
theorem dX10_ill_65 : decode cX10_ill 65 = .ok (.getfield 40, 3) := by decide +kernel
theorem dX10_ill_68 : decode cX10_ill 68 = .ok (.invokevirtual 161, 3) := by decide +kernel
theorem dX10_ill_71 : decode cX10_ill 71 = .ok (.if_icmp .ge 61, 3) := by decide +kernel
theorem dX10_ill_74 : decode cX10_ill 74 = .ok (.iload_n 2, 1) := by decide +kernel
theorem dX10_ill_75 : decode cX10_ill 75 = .ok (.iload 5, 2) := by decide +kernel
theorem dX10_ill_77 : decode cX10_ill 77 = .ok (.ishr, 1) := by decide +kernel
theorem dX10_ill_78 : decode cX10_ill 78 = .ok (.iconst 1, 1) := by decide +kernel
theorem dX10_ill_79 : decode cX10_ill 79 = .ok (.iand, 1) := by decide +kernel
theorem dX10_ill_80 : decode cX10_ill 80 = .ok (.iconst 1, 1) := by decide +kernel
theorem dX10_ill_81 : decode cX10_ill 81 = .ok (.if_icmp .ne 15, 3) := by decide +kernel
theorem dX10_ill_84 : decode cX10_ill 84 = .ok (.aload_n 0, 1) := by decide +kernel
theorem dX10_ill_85 : decode cX10_ill 85 = .ok (.getfield 54, 3) := by decide +kernel
theorem dX10_ill_88 : decode cX10_ill 88 = .ok (.iload 5, 2) := by decide +kernel
theorem dX10_ill_90 : decode cX10_ill 90 = .ok (.invokevirtual 283, 3) := by decide +kernel
theorem dX10_ill_93 : decode cX10_ill 93 = .ok (.goto 5, 3) := by decide +kernel
theorem dX10_ill_96 : decode cX10_ill 96 = .ok (.bipush (-9), 2) := by decide +kernel
theorem dX10_ill_98 : decode cX10_ill 98 = .ok (.istore 6, 2) := by decide +kernel
theorem dX10_ill_100 : decode cX10_ill 100 = .ok (.iload 6, 2) := by decide +kernel
theorem dX10_ill_102 : decode cX10_ill 102 = .ok (.bipush (-9), 2) := by decide +kernel
theorem dX10_ill_104 : decode cX10_ill 104 = .ok (.if_icmp .eq 22, 3) := by decide +kernel
theorem dX10_ill_107 : decode cX10_ill 107 = .ok (.iload_n 3, 1) := by decide +kernel
theorem dX10_ill_108 : decode cX10_ill 108 = .ok (.bipush (-9), 2) := by decide +kernel
theorem dX10_ill_110 : decode cX10_ill 110 = .ok (.if_icmp .eq 9, 3) := by decide +kernel
theorem dX10_ill_113 : decode cX10_ill 113 = .ok (.iload 6, 2) := by decide +kernel
theorem dX10_ill_115 : decode cX10_ill 115 = .ok (.iload_n 3, 1) := by decide +kernel
theorem dX10_ill_116 : decode cX10_ill 116 = .ok (.if_icmp .ge 10, 3) := by decide +kernel
theorem dX10_ill_119 : decode cX10_ill 119 = .ok (.iload 6, 2) := by decide +kernel
theorem dX10_ill_121 : decode cX10_ill 121 = .ok (.istore_n 3, 1) := by decide +kernel
theorem dX10_ill_122 : decode cX10_ill 122 = .ok (.iload 5, 2) := by decide +kernel
theorem dX10_ill_124 : decode cX10_ill 124 = .ok (.istore 4, 2) := by decide +kernel
theorem dX10_ill_126 : decode cX10_ill 126 = .ok (.iinc 5 1, 3) := by decide +kernel
theorem dX10_ill_129 : decode cX10_ill 129 = .ok (.goto (-67), 3) := by decide +kernel
theorem dX10_ill_132 : decode cX10_ill 132 = .ok (.iload_n 3, 1) := by decide +kernel
theorem dX10_ill_133 : decode cX10_ill 133 = .ok (.bipush (-9), 2) := by decide +kernel
theorem dX10_ill_135 : decode cX10_ill 135 = .ok (.if_icmp .eq 12, 3) := by decide +kernel
theorem dX10_ill_138 : decode cX10_ill 138 = .ok (.aload_n 0, 1) := by decide +kernel
theorem dX10_ill_139 : decode cX10_ill 139 = .ok (.getfield 10, 3) := by decide +kernel
theorem dX10_ill_142 : decode cX10_ill 142 = .ok (.iload 4, 2) := by decide +kernel
theorem dX10_ill_144 : decode cX10_ill 144 = .ok (.invokevirtual 98, 3) := by decide +kernel
theorem dX10_ill_147 : decode cX10_ill 147 = .ok (.iload_n 3, 1) := by decide +kernel
theorem dX10_ill_148 : decode cX10_ill 148 = .ok (.ireturn, 1) := by decide +kernel
set_option maxRecDepth 20000 in
theorem ggX10_without_X2_isCell : GoodIn wsX10_without wsX2_isCell := goodIn_r _ [8, 9, 89, 90, 91, 92, 93, 94, 95, 96] (by decide +kernel) (by decide +kernel)
set_option maxRecDepth 20000 in
theorem gX10_without_X2_isCell : GoodIn wsX10_without (wsV RX10 165 RX2 yX2_isCell wsX2_isCell) := goodIn_app (goodIn_of _ (by decide +kernel)) ggX10_without_X2_isCell
set_option maxRecDepth 20000 in
theorem ggX10_without_X10_reachAll : GoodIn wsX10_without wsX10_reachAll := goodIn_r _ [14, 2, 1, 15, 16, 17, 7, 18, 9, 19, 20, 21, 22, 23, 24, 25, 26, 27, 28, 29, 30, 31, 32, 33, 34, 5, 6, 8, 35, 36, 37, 38, 39, 40, 41, 42, 43, 44, 45, 46, 47, 48, 49, 50, 51, 52, 53, 54, 55, 56, 79, 80, 81, 82, 83, 84, 85, 86, 87, 88, 89, 90, 91, 92, 93, 94, 95, 96, 97, 98] (by decide +kernel) (by decide +kernel)
set_option maxRecDepth 20000 in
theorem gX10_without_X10_reachAll : GoodIn wsX10_without (wsV RX10 242 RX10 yX10_reachAll wsX10_reachAll) := goodIn_app (goodIn_of _ (by decide +kernel)) ggX10_without_X10_reachAll
set_option maxRecDepth 20000 in
theorem ggX10_without_X4_howMany : GoodIn wsX10_without wsX4_howMany := goodIn_r _ [60, 24, 61, 62, 63, 22, 64, 65, 66, 67, 68, 25, 97, 98] (by decide +kernel) (by decide +kernel)
set_option maxRecDepth 20000 in
theorem gX10_without_X4_howMany : GoodIn wsX10_without (wsV RX10 266 RX4 yX4_howMany wsX4_howMany) := goodIn_app (goodIn_of _ (by decide +kernel)) ggX10_without_X4_howMany
set_option maxRecDepth 20000 in
theorem ggX10_without_X4_inSome : GoodIn wsX10_without wsX4_inSome := goodIn_r _ [72, 24, 61, 62, 63, 22, 64, 65, 66, 67, 68, 25, 97, 98] (by decide +kernel) (by decide +kernel)
set_option maxRecDepth 20000 in
theorem gX10_without_X4_inSome : GoodIn wsX10_without (wsV RX10 269 RX4 yX4_inSome wsX4_inSome) := goodIn_app (goodIn_of _ (by decide +kernel)) ggX10_without_X4_inSome
set_option maxRecDepth 20000 in
theorem ggX10_without_X2_everyone : GoodIn wsX10_without wsX2_everyone := goodIn_r _ [18, 9, 89, 90, 91, 92, 93, 94, 95, 96] (by decide +kernel) (by decide +kernel)
set_option maxRecDepth 20000 in
theorem gX10_without_X2_everyone : GoodIn wsX10_without (wsV RX10 201 RX2 yX2_everyone wsX2_everyone) := goodIn_app (goodIn_of _ (by decide +kernel)) ggX10_without_X2_everyone
set_option maxRecDepth 20000 in
theorem ggX10_without_X4_fill : GoodIn wsX10_without wsX4_fill := goodIn_r _ [23, 24, 25, 26, 27, 28, 7, 29, 30, 31, 32, 33, 34, 5, 6, 8, 9, 35, 36, 37, 38, 39, 40, 41, 42, 43, 44, 45, 46, 47, 48, 49, 50, 51, 52, 53, 54, 55, 56, 97, 98, 89, 90, 91, 92, 93, 94, 95, 96] (by decide +kernel) (by decide +kernel)
set_option maxRecDepth 20000 in
theorem gX10_without_X4_fill : GoodIn wsX10_without (wsV RX10 286 RX4 yX4_fill wsX4_fill) := goodIn_app (goodIn_of _ (by decide +kernel)) ggX10_without_X4_fill
set_option maxRecDepth 20000 in
theorem ggX10_without_X9_tell : GoodIn wsX10_without wsX9_tell := goodIn_r _ [77, 78, 99, 100, 101, 102, 103] (by decide +kernel) (by decide +kernel)
set_option maxRecDepth 20000 in
theorem gX10_without_X9_tell : GoodIn wsX10_without (wsV RX10 98 RX9 yX9_tell wsX9_tell) := goodIn_app (goodIn_of _ (by decide +kernel)) ggX10_without_X9_tell
theorem dX10_without_0 : decode cX10_without 0 = .ok (.aload_n 0, 1) := by decide +kernel
theorem dX10_without_1 : decode cX10_without 1 = .ok (.getfield 40, 3) := by decide +kernel
theorem dX10_without_4 : decode cX10_without 4 = .ok (.iload_n 1, 1) := by decide +kernel
theorem dX10_without_5 : decode cX10_without 5 = .ok (.invokevirtual 165, 3) := by decide +kernel
theorem dX10_without_8 : decode cX10_without 8 = .ok (.ifCond .ne 5, 3) := by decide +kernel
theorem dX10_without_11 : decode cX10_without 11 = .ok (.iconst (-1), 1) := by decide +kernel
theorem dX10_without_12 : decode cX10_without 12 = .ok (.ireturn, 1) := by decide +kernel
theorem dX10_without_13 : decode cX10_without 13 = .ok (.aload_n 0, 1) := by decide +kernel
theorem dX10_without_14 : decode cX10_without 14 = .ok (.invokevirtual 242, 3) := by decide +kernel
theorem dX10_without_17 : decode cX10_without 17 = .ok (.aload_n 0, 1) := by decide +kernel
theorem dX10_without_18 : decode cX10_without 18 = .ok (.getfield 54, 3) := by decide +kernel
theorem dX10_without_21 : decode cX10_without 21 = .ok (.invokevirtual 266, 3) := by decide +kernel
theorem dX10_without_24 : decode cX10_without 24 = .ok (.istore_n 2, 1) := by decide +kernel
theorem dX10_without_25 : decode cX10_without 25 = .ok (.aload_n 0, 1) := by decide +kernel
theorem dX10_without_26 : decode cX10_without 26 = .ok (.getfield 54, 3) := by decide +kernel
theorem dX10_without_29 : decode cX10_without 29 = .ok (.invokevirtual 269, 3) := by decide +kernel
theorem dX10_without_32 : decode cX10_without 32 = .ok (.istore_n 3, 1) := by decide +kernel
theorem dX10_without_33 : decode cX10_without 33 = .ok (.aload_n 0, 1) := by decide +kernel
theorem dX10_without_34 : decode cX10_without 34 = .ok (.getfield 40, 3) := by decide +kernel
theorem dX10_without_37 : decode cX10_without 37 = .ok (.invokevirtual 201, 3) := by decide +kernel
theorem dX10_without_40 : decode cX10_without 40 = .ok (.iconst 1, 1) := by decide +kernel
theorem dX10_without_41 : decode cX10_without 41 = .ok (.iload_n 1, 1) := by decide +kernel
theorem dX10_without_42 : decode cX10_without 42 = .ok (.ishl, 1) := by decide +kernel
theorem dX10_without_43 : decode cX10_without 43 = .ok (.iconst (-1), 1) := by decide +kernel
theorem dX10_without_44 : decode cX10_without 44 = .ok (.ixor, 1) := by decide +kernel
theorem dX10_without_45 : decode cX10_without 45 = .ok (.iand, 1) := by decide +kernel
theorem dX10_without_46 : decode cX10_without 46 = .ok (.istore 4, 2) := by decide +kernel
theorem dX10_without_48 : decode cX10_without 48 = .ok (.aload_n 0, 1) := by decide +kernel
theorem dX10_without_49 : decode cX10_without 49 = .ok (.getfield 54, 3) := by decide +kernel
theorem dX10_without_52 : decode cX10_without 52 = .ok (.aload_n 0, 1) := by decide +kernel
theorem dX10_without_53 : decode cX10_without 53 = .ok (.getfield 40, 3) := by decide +kernel
theorem dX10_without_56 : decode cX10_without 56 = .ok (.iload 4, 2) := by decide +kernel
theorem dX10_without_58 : decode cX10_without 58 = .ok (.invokevirtual 286, 3) := by decide +kernel
theorem dX10_without_61 : decode cX10_without 61 = .ok (.aload_n 0, 1) := by decide +kernel
theorem dX10_without_62 : decode cX10_without 62 = .ok (.getfield 10, 3) := by decide +kernel
theorem dX10_without_65 : decode cX10_without 65 = .ok (.iload_n 3, 1) := by decide +kernel
theorem dX10_without_66 : decode cX10_without 66 = .ok (.aload_n 0, 1) := by decide +kernel
theorem dX10_without_67 : decode cX10_without 67 = .ok (.getfield 54, 3) := by decide +kernel
theorem dX10_without_70 : decode cX10_without 70 = .ok (.invokevirtual 269, 3) := by decide +kernel
theorem dX10_without_73 : decode cX10_without 73 = .ok (.iconst (-1), 1) := by decide +kernel
theorem dX10_without_74 : decode cX10_without 74 = .ok (.ixor, 1) := by decide +kernel
theorem dX10_without_75 : decode cX10_without 75 = .ok (.iand, 1) := by decide +kernel
theorem dX10_without_76 : decode cX10_without 76 = .ok (.iload 4, 2) := by decide +kernel
theorem dX10_without_78 : decode cX10_without 78 = .ok (.iand, 1) := by decide +kernel
theorem dX10_without_79 : decode cX10_without 79 = .ok (.invokevirtual 98, 3) := by decide +kernel
theorem dX10_without_82 : decode cX10_without 82 = .ok (.iload_n 2, 1) := by decide +kernel
theorem dX10_without_83 : decode cX10_without 83 = .ok (.aload_n 0, 1) := by decide +kernel
theorem dX10_without_84 : decode cX10_without 84 = .ok (.getfield 54, 3) := by decide +kernel
theorem dX10_without_87 : decode cX10_without 87 = .ok (.invokevirtual 266, 3) := by decide +kernel
theorem dX10_without_90 : decode cX10_without 90 = .ok (.isub, 1) := by decide +kernel
theorem dX10_without_91 : decode cX10_without 91 = .ok (.ireturn, 1) := by decide +kernel
set_option maxRecDepth 20000 in
theorem ggX10_band_X2_isSet : GoodIn wsX10_band wsX2_isSet := goodIn_r _ [7, 8, 9, 10, 6, 11, 12, 78, 79, 80, 81, 82, 83, 84, 85] (by decide +kernel) (by decide +kernel)
set_option maxRecDepth 20000 in
theorem gX10_band_X2_isSet : GoodIn wsX10_band (wsV RX10 239 RX2 yX2_isSet wsX2_isSet) := goodIn_app (goodIn_of _ (by decide +kernel)) ggX10_band_X2_isSet
set_option maxRecDepth 20000 in
theorem ggX10_band_X10_getsOut : GoodIn wsX10_band wsX10_getsOut := goodIn_r _ [17, 2, 1, 18, 19, 20, 21, 22, 23, 24, 25, 26, 27, 6, 28, 29, 30, 31, 32, 33, 34, 35, 36, 12, 37, 38, 39, 40, 41, 42, 43, 44, 45, 46, 47, 48, 49, 50, 51, 52, 53, 54, 55, 56, 57, 58, 59, 60, 61, 62, 63, 64, 65, 66, 68, 69, 70, 71, 72, 73, 74, 75, 76, 77, 86, 87, 78, 79, 80, 81, 82, 83, 84, 85] (by decide +kernel) (by decide +kernel)
set_option maxRecDepth 20000 in
theorem gX10_band_X10_getsOut : GoodIn wsX10_band (wsV RX10 290 RX10 yX10_getsOut wsX10_getsOut) := goodIn_app (goodIn_of _ (by decide +kernel)) ggX10_band_X10_getsOut
set_option maxRecDepth 20000 in
theorem ggX10_band_X4_favoursOf : GoodIn wsX10_band wsX4_favoursOf := goodIn_r _ [66, 23, 24, 86, 87] (by decide +kernel) (by decide +kernel)
set_option maxRecDepth 20000 in
theorem gX10_band_X4_favoursOf : GoodIn wsX10_band (wsV RX10 248 RX4 yX4_favoursOf wsX4_favoursOf) := goodIn_app (goodIn_of _ (by decide +kernel)) ggX10_band_X4_favoursOf
theorem dX10_band_0 : decode cX10_band 0 = .ok (.aload_n 0, 1) := by decide +kernel
theorem dX10_band_1 : decode cX10_band 1 = .ok (.getfield 40, 3) := by decide +kernel
theorem dX10_band_4 : decode cX10_band 4 = .ok (.iload_n 1, 1) := by decide +kernel
theorem dX10_band_5 : decode cX10_band 5 = .ok (.invokevirtual 239, 3) := by decide +kernel
theorem dX10_band_8 : decode cX10_band 8 = .ok (.ifCond .eq 7, 3) := by decide +kernel
theorem dX10_band_11 : decode cX10_band 11 = .ok (.iload_n 1, 1) := by decide +kernel
theorem dX10_band_12 : decode cX10_band 12 = .ok (.ifCond .ne 5, 3) := by decide +kernel
theorem dX10_band_15 : decode cX10_band 15 = .ok (.iconst (-1), 1) := by decide +kernel
theorem dX10_band_16 : decode cX10_band 16 = .ok (.ireturn, 1) := by decide +kernel
theorem dX10_band_17 : decode cX10_band 17 = .ok (.aload_n 0, 1) := by decide +kernel
theorem dX10_band_18 : decode cX10_band 18 = .ok (.iload_n 1, 1) := by decide +kernel
theorem dX10_band_19 : decode cX10_band 19 = .ok (.invokevirtual 290, 3) := by decide +kernel
theorem dX10_band_22 : decode cX10_band 22 = .ok (.ifCond .eq 14, 3) := by decide +kernel
theorem dX10_band_25 : decode cX10_band 25 = .ok (.aload_n 0, 1) := by decide +kernel
theorem dX10_band_26 : decode cX10_band 26 = .ok (.getfield 54, 3) := by decide +kernel
theorem dX10_band_29 : decode cX10_band 29 = .ok (.iload_n 1, 1) := by decide +kernel
theorem dX10_band_30 : decode cX10_band 30 = .ok (.invokevirtual 248, 3) := by decide +kernel
theorem dX10_band_33 : decode cX10_band 33 = .ok (.goto 5, 3) := by decide +kernel
theorem dX10_band_36 : decode cX10_band 36 = .ok (.bipush (-9), 2) := by decide +kernel
theorem dX10_band_38 : decode cX10_band 38 = .ok (.ireturn, 1) := by decide +kernel
set_option maxRecDepth 20000 in
theorem ggX10_bands_X2_cells : GoodIn wsX10_bands wsX2_cells := goodIn_r _ [7, 8, 85, 86, 87, 88, 89, 90, 91, 92] (by decide +kernel) (by decide +kernel)
set_option maxRecDepth 20000 in
theorem gX10_bands_X2_cells : GoodIn wsX10_bands (wsV RX10 161 RX2 yX2_cells wsX2_cells) := goodIn_app (goodIn_of _ (by decide +kernel)) ggX10_bands_X2_cells
set_option maxRecDepth 20000 in
theorem ggX10_bands_X2_everyone : GoodIn wsX10_bands wsX2_everyone := goodIn_r _ [12, 8, 85, 86, 87, 88, 89, 90, 91, 92] (by decide +kernel) (by decide +kernel)
set_option maxRecDepth 20000 in
theorem gX10_bands_X2_everyone : GoodIn wsX10_bands (wsV RX10 201 RX2 yX2_everyone wsX2_everyone) := goodIn_app (goodIn_of _ (by decide +kernel)) ggX10_bands_X2_everyone
set_option maxRecDepth 20000 in
theorem ggX10_bands_J6_bitCount_0f7a4 : GoodIn wsX10_bands wsJ6_bitCount_0f7a4 := goodIn_r _ [16, 17, 18, 19] (by decide +kernel) (by decide +kernel)
set_option maxRecDepth 20000 in
theorem gX10_bands_J6_bitCount_0f7a4 : GoodIn wsX10_bands (va_wsS RX10 255 yJ6_bitCount_0f7a4 wsJ6_bitCount_0f7a4) := goodIn_app (goodIn_of _ (by decide +kernel)) ggX10_bands_J6_bitCount_0f7a4
set_option maxRecDepth 20000 in
theorem ggX10_bands_X10_getsOut : GoodIn wsX10_bands wsX10_getsOut := goodIn_r _ [24, 25, 1, 26, 27, 28, 29, 30, 31, 32, 33, 34, 35, 6, 36, 37, 38, 39, 40, 41, 42, 43, 44, 8, 45, 46, 47, 48, 49, 14, 15, 16, 17, 18, 19, 50, 51, 52, 53, 54, 55, 56, 57, 58, 59, 60, 61, 62, 63, 64, 65, 66, 67, 68, 75, 76, 77, 78, 79, 80, 81, 82, 83, 84, 93, 94, 85, 86, 87, 88, 89, 90, 91, 92] (by decide +kernel) (by decide +kernel)
set_option maxRecDepth 20000 in
theorem gX10_bands_X10_getsOut : GoodIn wsX10_bands (wsV RX10 290 RX10 yX10_getsOut wsX10_getsOut) := goodIn_app (goodIn_of _ (by decide +kernel)) ggX10_bands_X10_getsOut
set_option maxRecDepth 20000 in
theorem ggX10_bands_X9_tell : GoodIn wsX10_bands wsX9_tell := goodIn_r _ [73, 74, 95, 96, 97, 98, 99] (by decide +kernel) (by decide +kernel)
set_option maxRecDepth 20000 in
theorem gX10_bands_X9_tell : GoodIn wsX10_bands (wsV RX10 98 RX9 yX9_tell wsX9_tell) := goodIn_app (goodIn_of _ (by decide +kernel)) ggX10_bands_X9_tell
theorem dX10_bands_0 : decode cX10_bands 0 = .ok (.iload_n 1, 1) := by decide +kernel
theorem dX10_bands_1 : decode cX10_bands 1 = .ok (.iconst 1, 1) := by decide +kernel
theorem dX10_bands_2 : decode cX10_bands 2 = .ok (.if_icmp .lt 14, 3) := by decide +kernel
theorem dX10_bands_5 : decode cX10_bands 5 = .ok (.iload_n 1, 1) := by decide +kernel
theorem dX10_bands_6 : decode cX10_bands 6 = .ok (.aload_n 0, 1) := by decide +kernel
theorem dX10_bands_7 : decode cX10_bands 7 = .ok (.getfield 40, 3) := by decide +kernel
theorem dX10_bands_10 : decode cX10_bands 10 = .ok (.invokevirtual 161, 3) := by decide +kernel
theorem dX10_bands_13 : decode cX10_bands 13 = .ok (.if_icmp .le 5, 3) := by decide +kernel
theorem dX10_bands_16 : decode cX10_bands 16 = .ok (.iconst (-1), 1) := by decide +kernel
theorem dX10_bands_17 : decode cX10_bands 17 = .ok (.ireturn, 1) := by decide +kernel
theorem dX10_bands_18 : decode cX10_bands 18 = .ok (.iconst 0, 1) := by decide +kernel
theorem dX10_bands_19 : decode cX10_bands 19 = .ok (.istore_n 2, 1) := by decide +kernel
theorem dX10_bands_20 : decode cX10_bands 20 = .ok (.bipush (-9), 2) := by decide +kernel
theorem dX10_bands_22 : decode cX10_bands 22 = .ok (.istore_n 3, 1) := by decide +kernel
theorem dX10_bands_23 : decode cX10_bands 23 = .ok (.iconst 1, 1) := by decide +kernel
theorem dX10_bands_24 : decode cX10_bands 24 = .ok (.istore 4, 2) := by decide +kernel
theorem dX10_bands_26 : decode cX10_bands 26 = .ok (.iload 4, 2) := by decide +kernel
theorem dX10_bands_28 : decode cX10_bands 28 = .ok (.aload_n 0, 1) := by decide +kernel
theorem dX10_bands_29 : decode cX10_bands 29 = .ok (.getfield 40, 3) := by decide +kernel
theorem dX10_bands_32 : decode cX10_bands 32 = .ok (.invokevirtual 201, 3) := by decide +kernel
theorem dX10_bands_35 : decode cX10_bands 35 = .ok (.if_icmp .gt 41, 3) := by decide +kernel
theorem dX10_bands_38 : decode cX10_bands 38 = .ok (.iload 4, 2) := by decide +kernel
theorem dX10_bands_40 : decode cX10_bands 40 = .ok (.invokestatic 255, 3) := by decide +kernel
theorem dX10_bands_43 : decode cX10_bands 43 = .ok (.iload_n 1, 1) := by decide +kernel
theorem dX10_bands_44 : decode cX10_bands 44 = .ok (.if_icmp .ne 26, 3) := by decide +kernel
theorem dX10_bands_47 : decode cX10_bands 47 = .ok (.aload_n 0, 1) := by decide +kernel
theorem dX10_bands_48 : decode cX10_bands 48 = .ok (.iload 4, 2) := by decide +kernel
theorem dX10_bands_50 : decode cX10_bands 50 = .ok (.invokevirtual 290, 3) := by decide +kernel
theorem dX10_bands_53 : decode cX10_bands 53 = .ok (.ifCond .eq 17, 3) := by decide +kernel
theorem dX10_bands_56 : decode cX10_bands 56 = .ok (.iload_n 2, 1) := by decide +kernel
theorem dX10_bands_57 : decode cX10_bands 57 = .ok (.ifCond .ne 8, 3) := by decide +kernel
theorem dX10_bands_60 : decode cX10_bands 60 = .ok (.iload 4, 2) := by decide +kernel
theorem dX10_bands_62 : decode cX10_bands 62 = .ok (.goto 4, 3) := by decide +kernel
theorem dX10_bands_65 : decode cX10_bands 65 = .ok (.iload_n 3, 1) := by decide +kernel
theorem dX10_bands_66 : decode cX10_bands 66 = .ok (.istore_n 3, 1) := by decide +kernel
theorem dX10_bands_67 : decode cX10_bands 67 = .ok (.iinc 2 1, 3) := by decide +kernel
theorem dX10_bands_70 : decode cX10_bands 70 = .ok (.iinc 4 1, 3) := by decide +kernel
theorem dX10_bands_73 : decode cX10_bands 73 = .ok (.goto (-47), 3) := by decide +kernel
theorem dX10_bands_76 : decode cX10_bands 76 = .ok (.aload_n 0, 1) := by decide +kernel
theorem dX10_bands_77 : decode cX10_bands 77 = .ok (.getfield 10, 3) := by decide +kernel
theorem dX10_bands_80 : decode cX10_bands 80 = .ok (.iload_n 3, 1) := by decide +kernel
theorem dX10_bands_81 : decode cX10_bands 81 = .ok (.invokevirtual 98, 3) := by decide +kernel
theorem dX10_bands_84 : decode cX10_bands 84 = .ok (.iload_n 2, 1) := by decide +kernel
theorem dX10_bands_85 : decode cX10_bands 85 = .ok (.ireturn, 1) := by decide +kernel
set_option maxRecDepth 20000 in
theorem ggX10_deals_X2_cells : GoodIn wsX10_deals wsX2_cells := goodIn_r _ [8, 9, 148, 149, 150, 151, 152, 153, 154, 155] (by decide +kernel) (by decide +kernel)
set_option maxRecDepth 20000 in
theorem gX10_deals_X2_cells : GoodIn wsX10_deals (wsV RX10 161 RX2 yX2_cells wsX2_cells) := goodIn_app (goodIn_of _ (by decide +kernel)) ggX10_deals_X2_cells
set_option maxRecDepth 20000 in
theorem ggX10_deals_X6_isNumber : GoodIn wsX10_deals wsX6_isNumber := goodIn_r _ [14] (by decide +kernel) (by decide +kernel)
set_option maxRecDepth 20000 in
theorem gX10_deals_X6_isNumber : GoodIn wsX10_deals (wsV RX10 79 RX6 yX6_isNumber wsX6_isNumber) := goodIn_app (goodIn_of _ (by decide +kernel)) ggX10_deals_X6_isNumber
set_option maxRecDepth 20000 in
theorem ggX10_deals_X0_dealAll : GoodIn wsX10_deals wsX0_dealAll := goodIn_r _ [19, 20, 21, 5, 6, 7, 8, 9, 22, 23, 24, 25, 26, 27, 28, 29, 30, 31, 32, 33, 34, 35, 36, 37, 38, 39, 40, 41, 42, 43, 44, 45, 46, 47, 18, 48, 49, 50, 51, 52, 53, 54, 55, 56, 57, 58, 59, 60, 61, 62, 63, 64, 65, 66, 67, 68, 69, 70, 71, 72, 73, 74, 75, 76, 77, 78, 79, 80, 81, 82, 83, 84, 85, 86, 87, 88, 89, 90, 91, 92, 93, 94, 95, 96, 97, 98, 99, 100, 101, 102, 103, 104, 105, 106, 107, 108, 109, 110, 111, 112, 113, 114, 156, 157, 158, 159, 148, 149, 150, 151, 152, 153, 154, 155, 160, 161] (by decide +kernel) (by decide +kernel)
set_option maxRecDepth 20000 in
theorem gX10_deals_X0_dealAll : GoodIn wsX10_deals (wsV RX10 293 RX0 yX0_dealAll wsX0_dealAll) := goodIn_app (goodIn_of _ (by decide +kernel)) ggX10_deals_X0_dealAll
set_option maxRecDepth 20000 in
theorem ggX10_deals_X6_make : GoodIn wsX10_deals wsX6_make := goodIn_r _ [118, 119, 120, 121, 11, 12, 13, 14, 162, 163] (by decide +kernel) (by decide +kernel)
set_option maxRecDepth 20000 in
theorem gX10_deals_X6_make : GoodIn wsX10_deals (wsV RX10 87 RX6 yX6_make wsX6_make) := goodIn_app (goodIn_of _ (by decide +kernel)) ggX10_deals_X6_make
set_option maxRecDepth 20000 in
theorem ggX10_deals_X0_firstKeeperOf : GoodIn wsX10_deals wsX0_firstKeeperOf := goodIn_r _ [125, 110, 156, 157, 158, 159] (by decide +kernel) (by decide +kernel)
set_option maxRecDepth 20000 in
theorem gX10_deals_X0_firstKeeperOf : GoodIn wsX10_deals (wsV RX10 296 RX0 yX0_firstKeeperOf wsX0_firstKeeperOf) := goodIn_app (goodIn_of _ (by decide +kernel)) ggX10_deals_X0_firstKeeperOf
set_option maxRecDepth 20000 in
theorem ggX10_deals_X6_set : GoodIn wsX10_deals wsX6_set := goodIn_r _ [129, 120, 130, 131, 132, 13, 133, 134, 135, 136, 137, 119, 121, 11, 12, 14, 162, 163] (by decide +kernel) (by decide +kernel)
set_option maxRecDepth 20000 in
theorem gX10_deals_X6_set : GoodIn wsX10_deals (wsV RX10 102 RX6 yX6_set wsX6_set) := goodIn_app (goodIn_of _ (by decide +kernel)) ggX10_deals_X6_set
theorem dX10_deals_0 : decode cX10_deals 0 = .ok (.iload_n 1, 1) := by decide +kernel
theorem dX10_deals_1 : decode cX10_deals 1 = .ok (.iconst 1, 1) := by decide +kernel
theorem dX10_deals_2 : decode cX10_deals 2 = .ok (.if_icmp .lt 30, 3) := by decide +kernel
theorem dX10_deals_5 : decode cX10_deals 5 = .ok (.iload_n 1, 1) := by decide +kernel
theorem dX10_deals_6 : decode cX10_deals 6 = .ok (.iconst 5, 1) := by decide +kernel
theorem dX10_deals_7 : decode cX10_deals 7 = .ok (.if_icmp .gt 25, 3) := by decide +kernel
theorem dX10_deals_10 : decode cX10_deals 10 = .ok (.iload_n 1, 1) := by decide +kernel
theorem dX10_deals_11 : decode cX10_deals 11 = .ok (.aload_n 0, 1) := by decide +kernel
theorem dX10_deals_12 : decode cX10_deals 12 = .ok (.getfield 40, 3) := by decide +kernel
theorem dX10_deals_15 : decode cX10_deals 15 = .ok (.invokevirtual 161, 3) := by decide +kernel
theorem dX10_deals_18 : decode cX10_deals 18 = .ok (.if_icmp .gt 14, 3) := by decide +kernel
theorem dX10_deals_21 : decode cX10_deals 21 = .ok (.aload_n 0, 1) := by decide +kernel
theorem dX10_deals_22 : decode cX10_deals 22 = .ok (.getfield 19, 3) := by decide +kernel
theorem dX10_deals_25 : decode cX10_deals 25 = .ok (.iload_n 2, 1) := by decide +kernel
theorem dX10_deals_26 : decode cX10_deals 26 = .ok (.invokevirtual 79, 3) := by decide +kernel
theorem dX10_deals_29 : decode cX10_deals 29 = .ok (.ifCond .ne 5, 3) := by decide +kernel
theorem dX10_deals_32 : decode cX10_deals 32 = .ok (.iconst (-1), 1) := by decide +kernel
theorem dX10_deals_33 : decode cX10_deals 33 = .ok (.ireturn, 1) := by decide +kernel
theorem dX10_deals_34 : decode cX10_deals 34 = .ok (.aload_n 0, 1) := by decide +kernel
theorem dX10_deals_35 : decode cX10_deals 35 = .ok (.getfield 40, 3) := by decide +kernel
theorem dX10_deals_38 : decode cX10_deals 38 = .ok (.invokevirtual 161, 3) := by decide +kernel
theorem dX10_deals_41 : decode cX10_deals 41 = .ok (.iconst 5, 1) := by decide +kernel
theorem dX10_deals_42 : decode cX10_deals 42 = .ok (.if_icmp .le 6, 3) := by decide +kernel
theorem dX10_deals_45 : decode cX10_deals 45 = .ok (.bipush (-6), 2) := by decide +kernel
theorem dX10_deals_47 : decode cX10_deals 47 = .ok (.ireturn, 1) := by decide +kernel
theorem dX10_deals_48 : decode cX10_deals 48 = .ok (.aload_n 0, 1) := by decide +kernel
theorem dX10_deals_49 : decode cX10_deals 49 = .ok (.getfield 68, 3) := by decide +kernel
theorem dX10_deals_52 : decode cX10_deals 52 = .ok (.aload_n 0, 1) := by decide +kernel
theorem dX10_deals_53 : decode cX10_deals 53 = .ok (.getfield 40, 3) := by decide +kernel
theorem dX10_deals_56 : decode cX10_deals 56 = .ok (.iload_n 1, 1) := by decide +kernel
theorem dX10_deals_57 : decode cX10_deals 57 = .ok (.invokevirtual 293, 3) := by decide +kernel
theorem dX10_deals_60 : decode cX10_deals 60 = .ok (.istore_n 3, 1) := by decide +kernel
theorem dX10_deals_61 : decode cX10_deals 61 = .ok (.iload_n 3, 1) := by decide +kernel
theorem dX10_deals_62 : decode cX10_deals 62 = .ok (.ifCond .le 58, 3) := by decide +kernel
theorem dX10_deals_65 : decode cX10_deals 65 = .ok (.aload_n 0, 1) := by decide +kernel
theorem dX10_deals_66 : decode cX10_deals 66 = .ok (.getfield 19, 3) := by decide +kernel
theorem dX10_deals_69 : decode cX10_deals 69 = .ok (.iload_n 2, 1) := by decide +kernel
theorem dX10_deals_70 : decode cX10_deals 70 = .ok (.aload_n 0, 1) := by decide +kernel
theorem dX10_deals_71 : decode cX10_deals 71 = .ok (.getfield 40, 3) := by decide +kernel
theorem dX10_deals_74 : decode cX10_deals 74 = .ok (.invokevirtual 161, 3) := by decide +kernel
theorem dX10_deals_77 : decode cX10_deals 77 = .ok (.invokevirtual 87, 3) := by decide +kernel
theorem dX10_deals_80 : decode cX10_deals 80 = .ok (.iconst 0, 1) := by decide +kernel
theorem dX10_deals_81 : decode cX10_deals 81 = .ok (.istore 4, 2) := by decide +kernel
theorem dX10_deals_83 : decode cX10_deals 83 = .ok (.iload 4, 2) := by decide +kernel
theorem dX10_deals_85 : decode cX10_deals 85 = .ok (.aload_n 0, 1) := by decide +kernel
theorem dX10_deals_86 : decode cX10_deals 86 = .ok (.getfield 40, 3) := by decide +kernel
theorem dX10_deals_89 : decode cX10_deals 89 = .ok (.invokevirtual 161, 3) := by decide +kernel
theorem dX10_deals_92 : decode cX10_deals 92 = .ok (.if_icmp .ge 28, 3) := by decide +kernel
theorem dX10_deals_95 : decode cX10_deals 95 = .ok (.aload_n 0, 1) := by decide +kernel
theorem dX10_deals_96 : decode cX10_deals 96 = .ok (.getfield 19, 3) := by decide +kernel
theorem dX10_deals_99 : decode cX10_deals 99 = .ok (.iload_n 2, 1) := by decide +kernel
theorem dX10_deals_100 : decode cX10_deals 100 = .ok (.iload 4, 2) := by decide +kernel
theorem dX10_deals_102 : decode cX10_deals 102 = .ok (.aload_n 0, 1) := by decide +kernel
theorem dX10_deals_103 : decode cX10_deals 103 = .ok (.getfield 68, 3) := by decide +kernel
theorem dX10_deals_106 : decode cX10_deals 106 = .ok (.iload 4, 2) := by decide +kernel
theorem dX10_deals_108 : decode cX10_deals 108 = .ok (.invokevirtual 296, 3) := by decide +kernel
theorem dX10_deals_111 : decode cX10_deals 111 = .ok (.invokevirtual 102, 3) := by decide +kernel
theorem dX10_deals_114 : decode cX10_deals 114 = .ok (.iinc 4 1, 3) := by decide +kernel
theorem dX10_deals_117 : decode cX10_deals 117 = .ok (.goto (-34), 3) := by decide +kernel
theorem dX10_deals_120 : decode cX10_deals 120 = .ok (.iload_n 3, 1) := by decide +kernel
theorem dX10_deals_121 : decode cX10_deals 121 = .ok (.ireturn, 1) := by decide +kernel
set_option maxRecDepth 20000 in
theorem ggX10_dealt_X10_rowRefusal : GoodIn wsX10_dealt wsX10_rowRefusal := goodIn_r _ [8, 1, 3, 9, 10, 11, 12, 13, 14, 15, 16, 17, 18, 19, 20, 21, 22, 23, 24, 25, 26, 27, 28, 29, 30, 66, 67, 68, 69, 70, 71, 72, 73, 74, 75, 76, 77, 78, 79, 80, 81, 82] (by decide +kernel) (by decide +kernel)
set_option maxRecDepth 20000 in
theorem gX10_dealt_X10_rowRefusal : GoodIn wsX10_dealt (wsV RX10 106 RX10 yX10_rowRefusal wsX10_rowRefusal) := goodIn_app (goodIn_of _ (by decide +kernel)) ggX10_dealt_X10_rowRefusal
set_option maxRecDepth 20000 in
theorem ggX10_dealt_X6_sizeOf : GoodIn wsX10_dealt wsX6_sizeOf := goodIn_r _ [21, 22, 23, 10, 11, 12, 13, 76, 77] (by decide +kernel) (by decide +kernel)
set_option maxRecDepth 20000 in
theorem gX10_dealt_X6_sizeOf : GoodIn wsX10_dealt (wsV RX10 123 RX6 yX6_sizeOf wsX6_sizeOf) := goodIn_app (goodIn_of _ (by decide +kernel)) ggX10_dealt_X6_sizeOf
set_option maxRecDepth 20000 in
theorem ggX10_dealt_X2_cells : GoodIn wsX10_dealt wsX2_cells := goodIn_r _ [36, 37, 83, 84, 85, 86, 87, 88, 89, 90] (by decide +kernel) (by decide +kernel)
set_option maxRecDepth 20000 in
theorem gX10_dealt_X2_cells : GoodIn wsX10_dealt (wsV RX10 161 RX2 yX2_cells wsX2_cells) := goodIn_app (goodIn_of _ (by decide +kernel)) ggX10_dealt_X2_cells
set_option maxRecDepth 20000 in
theorem ggX10_dealt_X9_found : GoodIn wsX10_dealt wsX9_found := goodIn_r _ [28, 29, 30, 78, 79, 80, 81, 82] (by decide +kernel) (by decide +kernel)
set_option maxRecDepth 20000 in
theorem gX10_dealt_X9_found : GoodIn wsX10_dealt (wsV RX10 83 RX9 yX9_found wsX9_found) := goodIn_app (goodIn_of _ (by decide +kernel)) ggX10_dealt_X9_found
set_option maxRecDepth 20000 in
theorem ggX10_dealt_X2_isOf : GoodIn wsX10_dealt wsX2_isOf := goodIn_r _ [41, 42, 43, 44, 45, 35, 46, 37, 83, 84, 85, 86, 87, 88, 89, 90] (by decide +kernel) (by decide +kernel)
set_option maxRecDepth 20000 in
theorem gX10_dealt_X2_isOf : GoodIn wsX10_dealt (wsV RX10 171 RX2 yX2_isOf wsX2_isOf) := goodIn_app (goodIn_of _ (by decide +kernel)) ggX10_dealt_X2_isOf
set_option maxRecDepth 20000 in
theorem ggX10_dealt_X6_get : GoodIn wsX10_dealt wsX6_get := goodIn_r _ [50, 51, 52, 53, 54, 12, 55, 18, 19, 20, 21, 22, 23, 10, 11, 13, 76, 77] (by decide +kernel) (by decide +kernel)
set_option maxRecDepth 20000 in
theorem gX10_dealt_X6_get : GoodIn wsX10_dealt (wsV RX10 95 RX6 yX6_get wsX6_get) := goodIn_app (goodIn_of _ (by decide +kernel)) ggX10_dealt_X6_get
set_option maxRecDepth 20000 in
theorem ggX10_dealt_X2_mayKeep : GoodIn wsX10_dealt wsX2_mayKeep := goodIn_r _ [59, 42, 60, 43, 44, 45, 35, 46, 37, 83, 84, 85, 86, 87, 88, 89, 90] (by decide +kernel) (by decide +kernel)
set_option maxRecDepth 20000 in
theorem gX10_dealt_X2_mayKeep : GoodIn wsX10_dealt (wsV RX10 177 RX2 yX2_mayKeep wsX2_mayKeep) := goodIn_app (goodIn_of _ (by decide +kernel)) ggX10_dealt_X2_mayKeep
set_option maxRecDepth 20000 in
theorem ggX10_dealt_X2_setKeeper : GoodIn wsX10_dealt wsX2_setKeeper := goodIn_r _ [64, 65, 43, 44, 45, 35, 46, 37, 83, 84, 85, 86, 87, 88, 89, 90] (by decide +kernel) (by decide +kernel)
set_option maxRecDepth 20000 in
theorem gX10_dealt_X2_setKeeper : GoodIn wsX10_dealt (wsV RX10 183 RX2 yX2_setKeeper wsX2_setKeeper) := goodIn_app (goodIn_of _ (by decide +kernel)) ggX10_dealt_X2_setKeeper
theorem dX10_dealt_0 : decode cX10_dealt 0 = .ok (.aload_n 0, 1) := by decide +kernel
theorem dX10_dealt_1 : decode cX10_dealt 1 = .ok (.iload_n 1, 1) := by decide +kernel
theorem dX10_dealt_2 : decode cX10_dealt 2 = .ok (.invokevirtual 106, 3) := by decide +kernel
theorem dX10_dealt_5 : decode cX10_dealt 5 = .ok (.istore_n 2, 1) := by decide +kernel
theorem dX10_dealt_6 : decode cX10_dealt 6 = .ok (.iload_n 2, 1) := by decide +kernel
theorem dX10_dealt_7 : decode cX10_dealt 7 = .ok (.ifCond .eq 5, 3) := by decide +kernel
theorem dX10_dealt_10 : decode cX10_dealt 10 = .ok (.iload_n 2, 1) := by decide +kernel
theorem dX10_dealt_11 : decode cX10_dealt 11 = .ok (.ireturn, 1) := by decide +kernel
theorem dX10_dealt_12 : decode cX10_dealt 12 = .ok (.aload_n 0, 1) := by decide +kernel
theorem dX10_dealt_13 : decode cX10_dealt 13 = .ok (.getfield 19, 3) := by decide +kernel
theorem dX10_dealt_16 : decode cX10_dealt 16 = .ok (.iload_n 1, 1) := by decide +kernel
theorem dX10_dealt_17 : decode cX10_dealt 17 = .ok (.invokevirtual 123, 3) := by decide +kernel
theorem dX10_dealt_20 : decode cX10_dealt 20 = .ok (.aload_n 0, 1) := by decide +kernel
theorem dX10_dealt_21 : decode cX10_dealt 21 = .ok (.getfield 40, 3) := by decide +kernel
theorem dX10_dealt_24 : decode cX10_dealt 24 = .ok (.invokevirtual 161, 3) := by decide +kernel
theorem dX10_dealt_27 : decode cX10_dealt 27 = .ok (.if_icmp .eq 12, 3) := by decide +kernel
theorem dX10_dealt_30 : decode cX10_dealt 30 = .ok (.aload_n 0, 1) := by decide +kernel
theorem dX10_dealt_31 : decode cX10_dealt 31 = .ok (.getfield 10, 3) := by decide +kernel
theorem dX10_dealt_34 : decode cX10_dealt 34 = .ok (.iconst 5, 1) := by decide +kernel
theorem dX10_dealt_35 : decode cX10_dealt 35 = .ok (.invokevirtual 83, 3) := by decide +kernel
theorem dX10_dealt_38 : decode cX10_dealt 38 = .ok (.ireturn, 1) := by decide +kernel
theorem dX10_dealt_39 : decode cX10_dealt 39 = .ok (.iconst 0, 1) := by decide +kernel
theorem dX10_dealt_40 : decode cX10_dealt 40 = .ok (.istore_n 3, 1) := by decide +kernel
theorem dX10_dealt_41 : decode cX10_dealt 41 = .ok (.iload_n 3, 1) := by decide +kernel
theorem dX10_dealt_42 : decode cX10_dealt 42 = .ok (.aload_n 0, 1) := by decide +kernel
theorem dX10_dealt_43 : decode cX10_dealt 43 = .ok (.getfield 40, 3) := by decide +kernel
theorem dX10_dealt_46 : decode cX10_dealt 46 = .ok (.invokevirtual 161, 3) := by decide +kernel
theorem dX10_dealt_49 : decode cX10_dealt 49 = .ok (.if_icmp .ge 50, 3) := by decide +kernel
theorem dX10_dealt_52 : decode cX10_dealt 52 = .ok (.aload_n 0, 1) := by decide +kernel
theorem dX10_dealt_53 : decode cX10_dealt 53 = .ok (.getfield 40, 3) := by decide +kernel
theorem dX10_dealt_56 : decode cX10_dealt 56 = .ok (.iload_n 3, 1) := by decide +kernel
theorem dX10_dealt_57 : decode cX10_dealt 57 = .ok (.iconst 2, 1) := by decide +kernel
theorem dX10_dealt_58 : decode cX10_dealt 58 = .ok (.invokevirtual 171, 3) := by decide +kernel
theorem dX10_dealt_61 : decode cX10_dealt 61 = .ok (.ifCond .ne 32, 3) := by decide +kernel
theorem dX10_dealt_64 : decode cX10_dealt 64 = .ok (.aload_n 0, 1) := by decide +kernel
theorem dX10_dealt_65 : decode cX10_dealt 65 = .ok (.getfield 40, 3) := by decide +kernel
theorem dX10_dealt_68 : decode cX10_dealt 68 = .ok (.iload_n 3, 1) := by decide +kernel
theorem dX10_dealt_69 : decode cX10_dealt 69 = .ok (.aload_n 0, 1) := by decide +kernel
theorem dX10_dealt_70 : decode cX10_dealt 70 = .ok (.getfield 19, 3) := by decide +kernel
theorem dX10_dealt_73 : decode cX10_dealt 73 = .ok (.iload_n 1, 1) := by decide +kernel
theorem dX10_dealt_74 : decode cX10_dealt 74 = .ok (.iload_n 3, 1) := by decide +kernel
theorem dX10_dealt_75 : decode cX10_dealt 75 = .ok (.invokevirtual 95, 3) := by decide +kernel
theorem dX10_dealt_78 : decode cX10_dealt 78 = .ok (.invokevirtual 177, 3) := by decide +kernel
theorem dX10_dealt_81 : decode cX10_dealt 81 = .ok (.ifCond .ne 12, 3) := by decide +kernel
theorem dX10_dealt_84 : decode cX10_dealt 84 = .ok (.aload_n 0, 1) := by decide +kernel
theorem dX10_dealt_85 : decode cX10_dealt 85 = .ok (.getfield 10, 3) := by decide +kernel
theorem dX10_dealt_88 : decode cX10_dealt 88 = .ok (.iconst 3, 1) := by decide +kernel
theorem dX10_dealt_89 : decode cX10_dealt 89 = .ok (.invokevirtual 83, 3) := by decide +kernel
theorem dX10_dealt_92 : decode cX10_dealt 92 = .ok (.ireturn, 1) := by decide +kernel
theorem dX10_dealt_93 : decode cX10_dealt 93 = .ok (.iinc 3 1, 3) := by decide +kernel
theorem dX10_dealt_96 : decode cX10_dealt 96 = .ok (.goto (-55), 3) := by decide +kernel
theorem dX10_dealt_99 : decode cX10_dealt 99 = .ok (.iconst 0, 1) := by decide +kernel
theorem dX10_dealt_100 : decode cX10_dealt 100 = .ok (.istore_n 3, 1) := by decide +kernel
theorem dX10_dealt_101 : decode cX10_dealt 101 = .ok (.iload_n 3, 1) := by decide +kernel
theorem dX10_dealt_102 : decode cX10_dealt 102 = .ok (.aload_n 0, 1) := by decide +kernel
theorem dX10_dealt_103 : decode cX10_dealt 103 = .ok (.getfield 40, 3) := by decide +kernel
theorem dX10_dealt_106 : decode cX10_dealt 106 = .ok (.invokevirtual 161, 3) := by decide +kernel
theorem dX10_dealt_109 : decode cX10_dealt 109 = .ok (.if_icmp .ge 38, 3) := by decide +kernel
theorem dX10_dealt_112 : decode cX10_dealt 112 = .ok (.aload_n 0, 1) := by decide +kernel
theorem dX10_dealt_113 : decode cX10_dealt 113 = .ok (.getfield 40, 3) := by decide +kernel
theorem dX10_dealt_116 : decode cX10_dealt 116 = .ok (.iload_n 3, 1) := by decide +kernel
theorem dX10_dealt_117 : decode cX10_dealt 117 = .ok (.iconst 2, 1) := by decide +kernel
theorem dX10_dealt_118 : decode cX10_dealt 118 = .ok (.invokevirtual 171, 3) := by decide +kernel
theorem dX10_dealt_121 : decode cX10_dealt 121 = .ok (.ifCond .ne 20, 3) := by decide +kernel
theorem dX10_dealt_124 : decode cX10_dealt 124 = .ok (.aload_n 0, 1) := by decide +kernel
theorem dX10_dealt_125 : decode cX10_dealt 125 = .ok (.getfield 40, 3) := by decide +kernel
theorem dX10_dealt_128 : decode cX10_dealt 128 = .ok (.iload_n 3, 1) := by decide +kernel
theorem dX10_dealt_129 : decode cX10_dealt 129 = .ok (.aload_n 0, 1) := by decide +kernel
theorem dX10_dealt_130 : decode cX10_dealt 130 = .ok (.getfield 19, 3) := by decide +kernel
theorem dX10_dealt_133 : decode cX10_dealt 133 = .ok (.iload_n 1, 1) := by decide +kernel
theorem dX10_dealt_134 : decode cX10_dealt 134 = .ok (.iload_n 3, 1) := by decide +kernel
theorem dX10_dealt_135 : decode cX10_dealt 135 = .ok (.invokevirtual 95, 3) := by decide +kernel
theorem dX10_dealt_138 : decode cX10_dealt 138 = .ok (.invokevirtual 183, 3) := by decide +kernel
theorem dX10_dealt_141 : decode cX10_dealt 141 = .ok (.iinc 3 1, 3) := by decide +kernel
theorem dX10_dealt_144 : decode cX10_dealt 144 = .ok (.goto (-43), 3) := by decide +kernel
theorem dX10_dealt_147 : decode cX10_dealt 147 = .ok (.iconst 1, 1) := by decide +kernel
theorem dX10_dealt_148 : decode cX10_dealt 148 = .ok (.ireturn, 1) := by decide +kernel
set_option maxRecDepth 20000 in
theorem ggX10_trades_X0_tradeOnce : GoodIn wsX10_trades wsX0_tradeOnce := goodIn_r _ [7, 8, 9, 10, 11, 12, 13, 14, 15, 16, 17, 18, 19, 20, 21, 22, 23, 24, 25, 26, 27, 28, 29, 30, 31, 32, 33, 34, 35, 36, 37, 38, 39, 40, 41, 42, 43, 44, 45, 46, 47, 48, 49, 50, 51, 52, 53, 54, 55, 56, 57, 58, 59, 6, 60, 61, 62, 63, 64, 65, 66, 67, 68, 69, 70, 71, 72, 73, 74, 75, 76, 77, 78, 79, 80, 81, 82, 83, 84, 85, 86, 87, 88, 89, 90, 91, 92, 93, 94, 95, 96, 97, 98, 99, 100, 111, 112, 113, 114, 115, 116, 117, 118, 119, 120, 121, 122, 123, 124] (by decide +kernel) (by decide +kernel)
set_option maxRecDepth 20000 in
theorem gX10_trades_X0_tradeOnce : GoodIn wsX10_trades (wsV RX10 299 RX0 yX0_tradeOnce wsX0_tradeOnce) := goodIn_app (goodIn_of _ (by decide +kernel)) ggX10_trades_X0_tradeOnce
theorem dX10_trades_0 : decode cX10_trades 0 = .ok (.iconst 0, 1) := by decide +kernel
theorem dX10_trades_1 : decode cX10_trades 1 = .ok (.istore_n 1, 1) := by decide +kernel
theorem dX10_trades_2 : decode cX10_trades 2 = .ok (.iload_n 1, 1) := by decide +kernel
theorem dX10_trades_3 : decode cX10_trades 3 = .ok (.bipush 20, 2) := by decide +kernel
theorem dX10_trades_5 : decode cX10_trades 5 = .ok (.if_icmp .ge 23, 3) := by decide +kernel
theorem dX10_trades_8 : decode cX10_trades 8 = .ok (.aload_n 0, 1) := by decide +kernel
theorem dX10_trades_9 : decode cX10_trades 9 = .ok (.getfield 68, 3) := by decide +kernel
theorem dX10_trades_12 : decode cX10_trades 12 = .ok (.aload_n 0, 1) := by decide +kernel
theorem dX10_trades_13 : decode cX10_trades 13 = .ok (.getfield 40, 3) := by decide +kernel
theorem dX10_trades_16 : decode cX10_trades 16 = .ok (.invokevirtual 299, 3) := by decide +kernel
theorem dX10_trades_19 : decode cX10_trades 19 = .ok (.ifCond .eq 9, 3) := by decide +kernel
theorem dX10_trades_22 : decode cX10_trades 22 = .ok (.iinc 1 1, 3) := by decide +kernel
theorem dX10_trades_25 : decode cX10_trades 25 = .ok (.goto (-23), 3) := by decide +kernel
theorem dX10_trades_28 : decode cX10_trades 28 = .ok (.iload_n 1, 1) := by decide +kernel
theorem dX10_trades_29 : decode cX10_trades 29 = .ok (.ireturn, 1) := by decide +kernel
set_option maxRecDepth 20000 in
theorem ggX10_saw_X2_isCell : GoodIn wsX10_saw wsX2_isCell := goodIn_r _ [7, 8, 36, 37, 38, 39, 40, 41, 42, 43] (by decide +kernel) (by decide +kernel)
set_option maxRecDepth 20000 in
theorem gX10_saw_X2_isCell : GoodIn wsX10_saw (wsV RX10 165 RX2 yX2_isCell wsX2_isCell) := goodIn_app (goodIn_of _ (by decide +kernel)) ggX10_saw_X2_isCell
set_option maxRecDepth 20000 in
theorem ggX10_saw_X10_isYesOrNo : GoodIn wsX10_saw wsX10_isYesOrNo := goodIn_r _ [12] (by decide +kernel) (by decide +kernel)
set_option maxRecDepth 20000 in
theorem gX10_saw_X10_isYesOrNo : GoodIn wsX10_saw (va_wsS RX10 186 yX10_isYesOrNo wsX10_isYesOrNo) := goodIn_app (goodIn_of _ (by decide +kernel)) ggX10_saw_X10_isYesOrNo
set_option maxRecDepth 20000 in
theorem ggX10_saw_X7_isFull : GoodIn wsX10_saw wsX7_isFull := goodIn_r _ [17, 18, 44, 45, 46] (by decide +kernel) (by decide +kernel)
set_option maxRecDepth 20000 in
theorem gX10_saw_X7_isFull : GoodIn wsX10_saw (wsV RX10 303 RX7 yX7_isFull wsX7_isFull) := goodIn_app (goodIn_of _ (by decide +kernel)) ggX10_saw_X7_isFull
set_option maxRecDepth 20000 in
theorem ggX10_saw_X7_add : GoodIn wsX10_saw wsX7_add := goodIn_r _ [22, 18, 23, 24, 25, 14, 15, 16, 17, 44, 45, 46] (by decide +kernel) (by decide +kernel)
set_option maxRecDepth 20000 in
theorem gX10_saw_X7_add : GoodIn wsX10_saw (wsV RX10 307 RX7 yX7_add wsX7_add) := goodIn_app (goodIn_of _ (by decide +kernel)) ggX10_saw_X7_add
theorem dX10_saw_0 : decode cX10_saw 0 = .ok (.aload_n 0, 1) := by decide +kernel
theorem dX10_saw_1 : decode cX10_saw 1 = .ok (.getfield 40, 3) := by decide +kernel
theorem dX10_saw_4 : decode cX10_saw 4 = .ok (.iload_n 1, 1) := by decide +kernel
theorem dX10_saw_5 : decode cX10_saw 5 = .ok (.invokevirtual 165, 3) := by decide +kernel
theorem dX10_saw_8 : decode cX10_saw 8 = .ok (.ifCond .eq 10, 3) := by decide +kernel
theorem dX10_saw_11 : decode cX10_saw 11 = .ok (.iload_n 2, 1) := by decide +kernel
theorem dX10_saw_12 : decode cX10_saw 12 = .ok (.invokestatic 186, 3) := by decide +kernel
theorem dX10_saw_15 : decode cX10_saw 15 = .ok (.ifCond .ne 5, 3) := by decide +kernel
theorem dX10_saw_18 : decode cX10_saw 18 = .ok (.iconst (-1), 1) := by decide +kernel
theorem dX10_saw_19 : decode cX10_saw 19 = .ok (.ireturn, 1) := by decide +kernel
theorem dX10_saw_20 : decode cX10_saw 20 = .ok (.aload_n 0, 1) := by decide +kernel
theorem dX10_saw_21 : decode cX10_saw 21 = .ok (.getfield 75, 3) := by decide +kernel
theorem dX10_saw_24 : decode cX10_saw 24 = .ok (.invokevirtual 303, 3) := by decide +kernel
theorem dX10_saw_27 : decode cX10_saw 27 = .ok (.ifCond .eq 6, 3) := by decide +kernel
theorem dX10_saw_30 : decode cX10_saw 30 = .ok (.bipush (-2), 2) := by decide +kernel
theorem dX10_saw_32 : decode cX10_saw 32 = .ok (.ireturn, 1) := by decide +kernel
theorem dX10_saw_33 : decode cX10_saw 33 = .ok (.aload_n 0, 1) := by decide +kernel
theorem dX10_saw_34 : decode cX10_saw 34 = .ok (.getfield 75, 3) := by decide +kernel
theorem dX10_saw_37 : decode cX10_saw 37 = .ok (.iload_n 1, 1) := by decide +kernel
theorem dX10_saw_38 : decode cX10_saw 38 = .ok (.iload_n 2, 1) := by decide +kernel
