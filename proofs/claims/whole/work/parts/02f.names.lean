theorem dX10_saw_39 : decode cX10_saw 39 = .ok (.invokevirtual 307, 3) := by decide +kernel
theorem dX10_saw_42 : decode cX10_saw 42 = .ok (.ireturn, 1) := by decide +kernel
set_option maxRecDepth 20000 in
theorem ggX10_forget_X7_size : GoodIn wsX10_forget wsX7_size := goodIn_r _ [6, 7, 22, 23, 24] (by decide +kernel) (by decide +kernel)
set_option maxRecDepth 20000 in
theorem gX10_forget_X7_size : GoodIn wsX10_forget (wsV RX10 310 RX7 yX7_size wsX7_size) := goodIn_app (goodIn_of _ (by decide +kernel)) ggX10_forget_X7_size
set_option maxRecDepth 20000 in
theorem ggX10_forget_X7_dropFrom : GoodIn wsX10_forget wsX7_dropFrom := goodIn_r _ [11, 7, 22, 23, 24] (by decide +kernel) (by decide +kernel)
set_option maxRecDepth 20000 in
theorem gX10_forget_X7_dropFrom : GoodIn wsX10_forget (wsV RX10 158 RX7 yX7_dropFrom wsX7_dropFrom) := goodIn_app (goodIn_of _ (by decide +kernel)) ggX10_forget_X7_dropFrom
theorem dX10_forget_0 : decode cX10_forget 0 = .ok (.iload_n 1, 1) := by decide +kernel
theorem dX10_forget_1 : decode cX10_forget 1 = .ok (.ifCond .lt 14, 3) := by decide +kernel
theorem dX10_forget_4 : decode cX10_forget 4 = .ok (.iload_n 1, 1) := by decide +kernel
theorem dX10_forget_5 : decode cX10_forget 5 = .ok (.aload_n 0, 1) := by decide +kernel
theorem dX10_forget_6 : decode cX10_forget 6 = .ok (.getfield 75, 3) := by decide +kernel
theorem dX10_forget_9 : decode cX10_forget 9 = .ok (.invokevirtual 310, 3) := by decide +kernel
theorem dX10_forget_12 : decode cX10_forget 12 = .ok (.if_icmp .le 5, 3) := by decide +kernel
theorem dX10_forget_15 : decode cX10_forget 15 = .ok (.iconst (-1), 1) := by decide +kernel
theorem dX10_forget_16 : decode cX10_forget 16 = .ok (.ireturn, 1) := by decide +kernel
theorem dX10_forget_17 : decode cX10_forget 17 = .ok (.aload_n 0, 1) := by decide +kernel
theorem dX10_forget_18 : decode cX10_forget 18 = .ok (.getfield 75, 3) := by decide +kernel
theorem dX10_forget_21 : decode cX10_forget 21 = .ok (.iload_n 1, 1) := by decide +kernel
theorem dX10_forget_22 : decode cX10_forget 22 = .ok (.invokevirtual 158, 3) := by decide +kernel
theorem dX10_forget_25 : decode cX10_forget 25 = .ok (.ireturn, 1) := by decide +kernel
set_option maxRecDepth 20000 in
theorem ggX10_culprits_X10_isFavours : GoodIn wsX10_culprits wsX10_isFavours := goodIn_r _ [6] (by decide +kernel) (by decide +kernel)
set_option maxRecDepth 20000 in
theorem gX10_culprits_X10_isFavours : GoodIn wsX10_culprits (va_wsS RX10 313 yX10_isFavours wsX10_isFavours) := goodIn_app (goodIn_of _ (by decide +kernel)) ggX10_culprits_X10_isFavours
set_option maxRecDepth 20000 in
theorem ggX10_culprits_X10_reachAll : GoodIn wsX10_culprits wsX10_reachAll := goodIn_r _ [10, 11, 1, 12, 13, 14, 15, 16, 17, 18, 19, 20, 21, 22, 23, 24, 25, 26, 27, 28, 29, 30, 31, 32, 33, 34, 35, 36, 37, 38, 39, 40, 41, 42, 43, 44, 45, 46, 47, 48, 49, 50, 51, 52, 53, 54, 55, 56, 57, 58, 87, 88, 89, 90, 91, 92, 93, 94, 95, 96, 97, 98, 99, 100, 101, 102, 103, 104, 105, 106] (by decide +kernel) (by decide +kernel)
set_option maxRecDepth 20000 in
theorem gX10_culprits_X10_reachAll : GoodIn wsX10_culprits (wsV RX10 242 RX10 yX10_reachAll wsX10_reachAll) := goodIn_app (goodIn_of _ (by decide +kernel)) ggX10_culprits_X10_reachAll
set_option maxRecDepth 20000 in
theorem ggX10_culprits_X2_everyone : GoodIn wsX10_culprits wsX2_everyone := goodIn_r _ [16, 17, 97, 98, 99, 100, 101, 102, 103, 104] (by decide +kernel) (by decide +kernel)
set_option maxRecDepth 20000 in
theorem gX10_culprits_X2_everyone : GoodIn wsX10_culprits (wsV RX10 201 RX2 yX2_everyone wsX2_everyone) := goodIn_app (goodIn_of _ (by decide +kernel)) ggX10_culprits_X2_everyone
set_option maxRecDepth 20000 in
theorem ggX10_culprits_X10_fitsNight : GoodIn wsX10_culprits wsX10_fitsNight := goodIn_r _ [62, 11, 63, 64, 65, 66, 21, 67, 68, 69, 70, 71, 23, 24, 72, 73, 74, 75, 76, 77, 78, 79, 80, 87, 88, 89, 90, 91, 92, 93, 94, 95, 96, 105, 106, 107, 108, 109] (by decide +kernel) (by decide +kernel)
set_option maxRecDepth 20000 in
theorem gX10_culprits_X10_fitsNight : GoodIn wsX10_culprits (wsV RX10 316 RX10 yX10_fitsNight wsX10_fitsNight) := goodIn_app (goodIn_of _ (by decide +kernel)) ggX10_culprits_X10_fitsNight
set_option maxRecDepth 20000 in
theorem ggX10_culprits_X9_tell : GoodIn wsX10_culprits wsX9_tell := goodIn_r _ [85, 86, 110, 111, 112, 113, 114] (by decide +kernel) (by decide +kernel)
set_option maxRecDepth 20000 in
theorem gX10_culprits_X9_tell : GoodIn wsX10_culprits (wsV RX10 98 RX9 yX9_tell wsX9_tell) := goodIn_app (goodIn_of _ (by decide +kernel)) ggX10_culprits_X9_tell
theorem dX10_culprits_0 : decode cX10_culprits 0 = .ok (.iload_n 1, 1) := by decide +kernel
theorem dX10_culprits_1 : decode cX10_culprits 1 = .ok (.invokestatic 313, 3) := by decide +kernel
theorem dX10_culprits_4 : decode cX10_culprits 4 = .ok (.ifCond .ne 5, 3) := by decide +kernel
theorem dX10_culprits_7 : decode cX10_culprits 7 = .ok (.iconst (-1), 1) := by decide +kernel
theorem dX10_culprits_8 : decode cX10_culprits 8 = .ok (.ireturn, 1) := by decide +kernel
theorem dX10_culprits_9 : decode cX10_culprits 9 = .ok (.aload_n 0, 1) := by decide +kernel
theorem dX10_culprits_10 : decode cX10_culprits 10 = .ok (.invokevirtual 242, 3) := by decide +kernel
theorem dX10_culprits_13 : decode cX10_culprits 13 = .ok (.iconst 0, 1) := by decide +kernel
theorem dX10_culprits_14 : decode cX10_culprits 14 = .ok (.istore_n 2, 1) := by decide +kernel
theorem dX10_culprits_15 : decode cX10_culprits 15 = .ok (.aload_n 0, 1) := by decide +kernel
theorem dX10_culprits_16 : decode cX10_culprits 16 = .ok (.getfield 40, 3) := by decide +kernel
theorem dX10_culprits_19 : decode cX10_culprits 19 = .ok (.invokevirtual 201, 3) := by decide +kernel
theorem dX10_culprits_22 : decode cX10_culprits 22 = .ok (.istore_n 3, 1) := by decide +kernel
theorem dX10_culprits_23 : decode cX10_culprits 23 = .ok (.iconst 0, 1) := by decide +kernel
theorem dX10_culprits_24 : decode cX10_culprits 24 = .ok (.istore 4, 2) := by decide +kernel
theorem dX10_culprits_26 : decode cX10_culprits 26 = .ok (.iconst 0, 1) := by decide +kernel
theorem dX10_culprits_27 : decode cX10_culprits 27 = .ok (.istore 5, 2) := by decide +kernel
theorem dX10_culprits_29 : decode cX10_culprits 29 = .ok (.iload 5, 2) := by decide +kernel
theorem dX10_culprits_31 : decode cX10_culprits 31 = .ok (.aload_n 0, 1) := by decide +kernel
theorem dX10_culprits_32 : decode cX10_culprits 32 = .ok (.getfield 40, 3) := by decide +kernel
theorem dX10_culprits_35 : decode cX10_culprits 35 = .ok (.invokevirtual 201, 3) := by decide +kernel
theorem dX10_culprits_38 : decode cX10_culprits 38 = .ok (.if_icmp .gt 32, 3) := by decide +kernel
theorem dX10_culprits_41 : decode cX10_culprits 41 = .ok (.aload_n 0, 1) := by decide +kernel
theorem dX10_culprits_42 : decode cX10_culprits 42 = .ok (.iload 5, 2) := by decide +kernel
theorem dX10_culprits_44 : decode cX10_culprits 44 = .ok (.iload_n 1, 1) := by decide +kernel
theorem dX10_culprits_45 : decode cX10_culprits 45 = .ok (.invokevirtual 316, 3) := by decide +kernel
theorem dX10_culprits_48 : decode cX10_culprits 48 = .ok (.ifCond .eq 16, 3) := by decide +kernel
theorem dX10_culprits_51 : decode cX10_culprits 51 = .ok (.iconst 1, 1) := by decide +kernel
theorem dX10_culprits_52 : decode cX10_culprits 52 = .ok (.istore 4, 2) := by decide +kernel
theorem dX10_culprits_54 : decode cX10_culprits 54 = .ok (.iload_n 2, 1) := by decide +kernel
theorem dX10_culprits_55 : decode cX10_culprits 55 = .ok (.iload 5, 2) := by decide +kernel
theorem dX10_culprits_57 : decode cX10_culprits 57 = .ok (.ior, 1) := by decide +kernel
theorem dX10_culprits_58 : decode cX10_culprits 58 = .ok (.istore_n 2, 1) := by decide +kernel
theorem dX10_culprits_59 : decode cX10_culprits 59 = .ok (.iload_n 3, 1) := by decide +kernel
theorem dX10_culprits_60 : decode cX10_culprits 60 = .ok (.iload 5, 2) := by decide +kernel
theorem dX10_culprits_62 : decode cX10_culprits 62 = .ok (.iand, 1) := by decide +kernel
theorem dX10_culprits_63 : decode cX10_culprits 63 = .ok (.istore_n 3, 1) := by decide +kernel
theorem dX10_culprits_64 : decode cX10_culprits 64 = .ok (.iinc 5 1, 3) := by decide +kernel
theorem dX10_culprits_67 : decode cX10_culprits 67 = .ok (.goto (-38), 3) := by decide +kernel
theorem dX10_culprits_70 : decode cX10_culprits 70 = .ok (.iload 4, 2) := by decide +kernel
theorem dX10_culprits_72 : decode cX10_culprits 72 = .ok (.ifCond .ne 6, 3) := by decide +kernel
theorem dX10_culprits_75 : decode cX10_culprits 75 = .ok (.bipush (-9), 2) := by decide +kernel
theorem dX10_culprits_77 : decode cX10_culprits 77 = .ok (.ireturn, 1) := by decide +kernel
theorem dX10_culprits_78 : decode cX10_culprits 78 = .ok (.aload_n 0, 1) := by decide +kernel
theorem dX10_culprits_79 : decode cX10_culprits 79 = .ok (.getfield 10, 3) := by decide +kernel
theorem dX10_culprits_82 : decode cX10_culprits 82 = .ok (.iload_n 3, 1) := by decide +kernel
theorem dX10_culprits_83 : decode cX10_culprits 83 = .ok (.invokevirtual 98, 3) := by decide +kernel
theorem dX10_culprits_86 : decode cX10_culprits 86 = .ok (.iload_n 2, 1) := by decide +kernel
theorem dX10_culprits_87 : decode cX10_culprits 87 = .ok (.ireturn, 1) := by decide +kernel
set_option maxRecDepth 20000 in
theorem ggX10_odds_X10_isFavours : GoodIn wsX10_odds wsX10_isFavours := goodIn_r _ [6] (by decide +kernel) (by decide +kernel)
set_option maxRecDepth 20000 in
theorem gX10_odds_X10_isFavours : GoodIn wsX10_odds (va_wsS RX10 313 yX10_isFavours wsX10_isFavours) := goodIn_app (goodIn_of _ (by decide +kernel)) ggX10_odds_X10_isFavours
set_option maxRecDepth 20000 in
theorem ggX10_odds_X2_isCell : GoodIn wsX10_odds wsX2_isCell := goodIn_r _ [11, 12, 105, 106, 107, 108, 109, 110, 111, 112] (by decide +kernel) (by decide +kernel)
set_option maxRecDepth 20000 in
theorem gX10_odds_X2_isCell : GoodIn wsX10_odds (wsV RX10 165 RX2 yX2_isCell wsX2_isCell) := goodIn_app (goodIn_of _ (by decide +kernel)) ggX10_odds_X2_isCell
set_option maxRecDepth 20000 in
theorem ggX10_odds_X10_reachAll : GoodIn wsX10_odds wsX10_reachAll := goodIn_r _ [16, 17, 1, 18, 19, 20, 10, 21, 12, 22, 23, 24, 25, 26, 27, 28, 29, 30, 31, 32, 33, 34, 35, 36, 37, 8, 9, 11, 38, 39, 40, 41, 42, 43, 44, 45, 46, 47, 48, 49, 50, 51, 52, 53, 54, 55, 56, 57, 58, 59, 95, 96, 97, 98, 99, 100, 101, 102, 103, 104, 105, 106, 107, 108, 109, 110, 111, 112, 113, 114] (by decide +kernel) (by decide +kernel)
set_option maxRecDepth 20000 in
theorem gX10_odds_X10_reachAll : GoodIn wsX10_odds (wsV RX10 242 RX10 yX10_reachAll wsX10_reachAll) := goodIn_app (goodIn_of _ (by decide +kernel)) ggX10_odds_X10_reachAll
set_option maxRecDepth 20000 in
theorem ggX10_odds_X2_everyone : GoodIn wsX10_odds wsX2_everyone := goodIn_r _ [21, 12, 105, 106, 107, 108, 109, 110, 111, 112] (by decide +kernel) (by decide +kernel)
set_option maxRecDepth 20000 in
theorem gX10_odds_X2_everyone : GoodIn wsX10_odds (wsV RX10 201 RX2 yX2_everyone wsX2_everyone) := goodIn_app (goodIn_of _ (by decide +kernel)) ggX10_odds_X2_everyone
set_option maxRecDepth 20000 in
theorem ggX10_odds_X10_fitsNight : GoodIn wsX10_odds wsX10_fitsNight := goodIn_r _ [63, 17, 64, 65, 66, 67, 25, 68, 69, 70, 71, 72, 27, 28, 73, 74, 75, 76, 77, 78, 79, 80, 81, 95, 96, 97, 98, 99, 100, 101, 102, 103, 104, 113, 114, 115, 116, 117] (by decide +kernel) (by decide +kernel)
set_option maxRecDepth 20000 in
theorem gX10_odds_X10_fitsNight : GoodIn wsX10_odds (wsV RX10 316 RX10 yX10_fitsNight wsX10_fitsNight) := goodIn_app (goodIn_of _ (by decide +kernel)) ggX10_odds_X10_fitsNight
set_option maxRecDepth 20000 in
theorem ggX10_odds_X9_found : GoodIn wsX10_odds wsX9_found := goodIn_r _ [86, 87, 88, 118, 119, 120, 121, 122] (by decide +kernel) (by decide +kernel)
set_option maxRecDepth 20000 in
theorem gX10_odds_X9_found : GoodIn wsX10_odds (wsV RX10 83 RX9 yX9_found wsX9_found) := goodIn_app (goodIn_of _ (by decide +kernel)) ggX10_odds_X9_found
set_option maxRecDepth 20000 in
theorem ggX10_odds_X9_tellFraction : GoodIn wsX10_odds wsX9_tellFraction := goodIn_r _ [92, 93, 94, 118, 119, 120, 121, 122] (by decide +kernel) (by decide +kernel)
set_option maxRecDepth 20000 in
theorem gX10_odds_X9_tellFraction : GoodIn wsX10_odds (wsV RX10 319 RX9 yX9_tellFraction wsX9_tellFraction) := goodIn_app (goodIn_of _ (by decide +kernel)) ggX10_odds_X9_tellFraction
theorem dX10_odds_0 : decode cX10_odds 0 = .ok (.iload_n 1, 1) := by decide +kernel
theorem dX10_odds_1 : decode cX10_odds 1 = .ok (.invokestatic 313, 3) := by decide +kernel
theorem dX10_odds_4 : decode cX10_odds 4 = .ok (.ifCond .eq 14, 3) := by decide +kernel
theorem dX10_odds_7 : decode cX10_odds 7 = .ok (.aload_n 0, 1) := by decide +kernel
theorem dX10_odds_8 : decode cX10_odds 8 = .ok (.getfield 40, 3) := by decide +kernel
theorem dX10_odds_11 : decode cX10_odds 11 = .ok (.iload_n 2, 1) := by decide +kernel
theorem dX10_odds_12 : decode cX10_odds 12 = .ok (.invokevirtual 165, 3) := by decide +kernel
theorem dX10_odds_15 : decode cX10_odds 15 = .ok (.ifCond .ne 5, 3) := by decide +kernel
theorem dX10_odds_18 : decode cX10_odds 18 = .ok (.iconst (-1), 1) := by decide +kernel
theorem dX10_odds_19 : decode cX10_odds 19 = .ok (.ireturn, 1) := by decide +kernel
theorem dX10_odds_20 : decode cX10_odds 20 = .ok (.aload_n 0, 1) := by decide +kernel
theorem dX10_odds_21 : decode cX10_odds 21 = .ok (.invokevirtual 242, 3) := by decide +kernel
theorem dX10_odds_24 : decode cX10_odds 24 = .ok (.iconst 0, 1) := by decide +kernel
theorem dX10_odds_25 : decode cX10_odds 25 = .ok (.istore_n 3, 1) := by decide +kernel
theorem dX10_odds_26 : decode cX10_odds 26 = .ok (.iconst 0, 1) := by decide +kernel
theorem dX10_odds_27 : decode cX10_odds 27 = .ok (.istore 4, 2) := by decide +kernel
theorem dX10_odds_29 : decode cX10_odds 29 = .ok (.iconst 0, 1) := by decide +kernel
theorem dX10_odds_30 : decode cX10_odds 30 = .ok (.istore 5, 2) := by decide +kernel
theorem dX10_odds_32 : decode cX10_odds 32 = .ok (.iload 5, 2) := by decide +kernel
theorem dX10_odds_34 : decode cX10_odds 34 = .ok (.aload_n 0, 1) := by decide +kernel
theorem dX10_odds_35 : decode cX10_odds 35 = .ok (.getfield 40, 3) := by decide +kernel
theorem dX10_odds_38 : decode cX10_odds 38 = .ok (.invokevirtual 201, 3) := by decide +kernel
theorem dX10_odds_41 : decode cX10_odds 41 = .ok (.if_icmp .gt 33, 3) := by decide +kernel
theorem dX10_odds_44 : decode cX10_odds 44 = .ok (.aload_n 0, 1) := by decide +kernel
theorem dX10_odds_45 : decode cX10_odds 45 = .ok (.iload 5, 2) := by decide +kernel
theorem dX10_odds_47 : decode cX10_odds 47 = .ok (.iload_n 1, 1) := by decide +kernel
theorem dX10_odds_48 : decode cX10_odds 48 = .ok (.invokevirtual 316, 3) := by decide +kernel
theorem dX10_odds_51 : decode cX10_odds 51 = .ok (.ifCond .eq 17, 3) := by decide +kernel
theorem dX10_odds_54 : decode cX10_odds 54 = .ok (.iinc 3 1, 3) := by decide +kernel
theorem dX10_odds_57 : decode cX10_odds 57 = .ok (.iload 4, 2) := by decide +kernel
theorem dX10_odds_59 : decode cX10_odds 59 = .ok (.iload 5, 2) := by decide +kernel
theorem dX10_odds_61 : decode cX10_odds 61 = .ok (.iload_n 2, 1) := by decide +kernel
theorem dX10_odds_62 : decode cX10_odds 62 = .ok (.ishr, 1) := by decide +kernel
theorem dX10_odds_63 : decode cX10_odds 63 = .ok (.iconst 1, 1) := by decide +kernel
theorem dX10_odds_64 : decode cX10_odds 64 = .ok (.iand, 1) := by decide +kernel
theorem dX10_odds_65 : decode cX10_odds 65 = .ok (.iadd, 1) := by decide +kernel
theorem dX10_odds_66 : decode cX10_odds 66 = .ok (.istore 4, 2) := by decide +kernel
theorem dX10_odds_68 : decode cX10_odds 68 = .ok (.iinc 5 1, 3) := by decide +kernel
theorem dX10_odds_71 : decode cX10_odds 71 = .ok (.goto (-39), 3) := by decide +kernel
theorem dX10_odds_74 : decode cX10_odds 74 = .ok (.iload_n 3, 1) := by decide +kernel
theorem dX10_odds_75 : decode cX10_odds 75 = .ok (.ifCond .ne 12, 3) := by decide +kernel
theorem dX10_odds_78 : decode cX10_odds 78 = .ok (.aload_n 0, 1) := by decide +kernel
theorem dX10_odds_79 : decode cX10_odds 79 = .ok (.getfield 10, 3) := by decide +kernel
theorem dX10_odds_82 : decode cX10_odds 82 = .ok (.iconst 4, 1) := by decide +kernel
theorem dX10_odds_83 : decode cX10_odds 83 = .ok (.invokevirtual 83, 3) := by decide +kernel
theorem dX10_odds_86 : decode cX10_odds 86 = .ok (.ireturn, 1) := by decide +kernel
theorem dX10_odds_87 : decode cX10_odds 87 = .ok (.aload_n 0, 1) := by decide +kernel
theorem dX10_odds_88 : decode cX10_odds 88 = .ok (.getfield 10, 3) := by decide +kernel
theorem dX10_odds_91 : decode cX10_odds 91 = .ok (.iload 4, 2) := by decide +kernel
theorem dX10_odds_93 : decode cX10_odds 93 = .ok (.iload_n 3, 1) := by decide +kernel
theorem dX10_odds_94 : decode cX10_odds 94 = .ok (.invokevirtual 319, 3) := by decide +kernel
theorem dX10_odds_97 : decode cX10_odds 97 = .ok (.iload 4, 2) := by decide +kernel
theorem dX10_odds_99 : decode cX10_odds 99 = .ok (.ireturn, 1) := by decide +kernel
set_option maxRecDepth 20000 in
theorem ggX10_asked_X9_latest : GoodIn wsX10_asked wsX9_latest := goodIn_r _ [6, 7, 18, 19, 20, 21, 22] (by decide +kernel) (by decide +kernel)
set_option maxRecDepth 20000 in
theorem gX10_asked_X9_latest : GoodIn wsX10_asked (wsV RX10 322 RX9 yX9_latest wsX9_latest) := goodIn_app (goodIn_of _ (by decide +kernel)) ggX10_asked_X9_latest
theorem dX10_asked_0 : decode cX10_asked 0 = .ok (.aload_n 0, 1) := by decide +kernel
theorem dX10_asked_1 : decode cX10_asked 1 = .ok (.getfield 10, 3) := by decide +kernel
theorem dX10_asked_4 : decode cX10_asked 4 = .ok (.invokevirtual 322, 3) := by decide +kernel
theorem dX10_asked_7 : decode cX10_asked 7 = .ok (.ireturn, 1) := by decide +kernel
set_option maxRecDepth 20000 in
theorem ggX10_upper_X9_upperNumber : GoodIn wsX10_upper wsX9_upperNumber := goodIn_r _ [6, 7, 18, 19, 20, 21, 22] (by decide +kernel) (by decide +kernel)
set_option maxRecDepth 20000 in
theorem gX10_upper_X9_upperNumber : GoodIn wsX10_upper (wsV RX10 325 RX9 yX9_upperNumber wsX9_upperNumber) := goodIn_app (goodIn_of _ (by decide +kernel)) ggX10_upper_X9_upperNumber
theorem dX10_upper_0 : decode cX10_upper 0 = .ok (.aload_n 0, 1) := by decide +kernel
theorem dX10_upper_1 : decode cX10_upper 1 = .ok (.getfield 10, 3) := by decide +kernel
theorem dX10_upper_4 : decode cX10_upper 4 = .ok (.invokevirtual 325, 3) := by decide +kernel
theorem dX10_upper_7 : decode cX10_upper 7 = .ok (.lreturn, 1) := by decide +kernel
set_option maxRecDepth 20000 in
theorem ggX10_lower_X9_lowerNumber : GoodIn wsX10_lower wsX9_lowerNumber := goodIn_r _ [6, 7, 18, 19, 20, 21, 22] (by decide +kernel) (by decide +kernel)
set_option maxRecDepth 20000 in
theorem gX10_lower_X9_lowerNumber : GoodIn wsX10_lower (wsV RX10 329 RX9 yX9_lowerNumber wsX9_lowerNumber) := goodIn_app (goodIn_of _ (by decide +kernel)) ggX10_lower_X9_lowerNumber
theorem dX10_lower_0 : decode cX10_lower 0 = .ok (.aload_n 0, 1) := by decide +kernel
theorem dX10_lower_1 : decode cX10_lower 1 = .ok (.getfield 10, 3) := by decide +kernel
theorem dX10_lower_4 : decode cX10_lower 4 = .ok (.invokevirtual 329, 3) := by decide +kernel
theorem dX10_lower_7 : decode cX10_lower 7 = .ok (.lreturn, 1) := by decide +kernel
set_option maxRecDepth 20000 in
theorem ggX10_count_X2_cells : GoodIn wsX10_count wsX2_cells := goodIn_r _ [10, 11, 96, 97, 98, 99, 100, 101, 102, 103] (by decide +kernel) (by decide +kernel)
set_option maxRecDepth 20000 in
theorem gX10_count_X2_cells : GoodIn wsX10_count (wsV RX10 161 RX2 yX2_cells wsX2_cells) := goodIn_app (goodIn_of _ (by decide +kernel)) ggX10_count_X2_cells
set_option maxRecDepth 20000 in
theorem ggX10_count_X1_howManyOut : GoodIn wsX10_count wsX1_howManyOut := goodIn_r _ [16, 17, 18, 19, 20, 21, 22, 23, 24, 104, 105, 106, 107] (by decide +kernel) (by decide +kernel)
set_option maxRecDepth 20000 in
theorem gX10_count_X1_howManyOut : GoodIn wsX10_count (wsV RX10 217 RX1 yX1_howManyOut wsX1_howManyOut) := goodIn_app (goodIn_of _ (by decide +kernel)) ggX10_count_X1_howManyOut
set_option maxRecDepth 20000 in
theorem ggX10_count_X2_doorsOf : GoodIn wsX10_count wsX2_doorsOf := goodIn_r _ [28, 11, 29, 30, 31, 9, 32, 33, 34, 35, 36, 37, 96, 97, 98, 99, 100, 101, 102, 103] (by decide +kernel) (by decide +kernel)
set_option maxRecDepth 20000 in
theorem gX10_count_X2_doorsOf : GoodIn wsX10_count (wsV RX10 332 RX2 yX2_doorsOf wsX2_doorsOf) := goodIn_app (goodIn_of _ (by decide +kernel)) ggX10_count_X2_doorsOf
set_option maxRecDepth 20000 in
theorem ggX10_count_X2_quarrels : GoodIn wsX10_count wsX2_quarrels := goodIn_r _ [41, 11, 42, 43, 19, 20, 21, 22, 23, 24, 96, 97, 98, 99, 100, 101, 102, 103] (by decide +kernel) (by decide +kernel)
set_option maxRecDepth 20000 in
theorem gX10_count_X2_quarrels : GoodIn wsX10_count (wsV RX10 335 RX2 yX2_quarrels wsX2_quarrels) := goodIn_app (goodIn_of _ (by decide +kernel)) ggX10_count_X2_quarrels
set_option maxRecDepth 20000 in
theorem ggX10_count_X7_size : GoodIn wsX10_count wsX7_size := goodIn_r _ [48, 49, 108, 109, 110] (by decide +kernel) (by decide +kernel)
set_option maxRecDepth 20000 in
theorem gX10_count_X7_size : GoodIn wsX10_count (wsV RX10 310 RX7 yX7_size wsX7_size) := goodIn_app (goodIn_of _ (by decide +kernel)) ggX10_count_X7_size
set_option maxRecDepth 20000 in
theorem ggX10_count_X6_howMany : GoodIn wsX10_count wsX6_howMany := goodIn_r _ [54, 55, 56, 57, 53, 58, 59, 60, 61, 62, 63, 64, 65, 66, 67, 111, 112] (by decide +kernel) (by decide +kernel)
set_option maxRecDepth 20000 in
theorem gX10_count_X6_howMany : GoodIn wsX10_count (wsV RX10 338 RX6 yX6_howMany wsX6_howMany) := goodIn_app (goodIn_of _ (by decide +kernel)) ggX10_count_X6_howMany
set_option maxRecDepth 20000 in
theorem ggX10_count_X8_howMany : GoodIn wsX10_count wsX8_howMany := goodIn_r _ [72, 73, 74, 75, 71, 76, 77, 78, 79, 80, 81, 82, 83, 84, 85, 113, 114] (by decide +kernel) (by decide +kernel)
set_option maxRecDepth 20000 in
theorem gX10_count_X8_howMany : GoodIn wsX10_count (wsV RX10 339 RX8 yX8_howMany wsX8_howMany) := goodIn_app (goodIn_of _ (by decide +kernel)) ggX10_count_X8_howMany
theorem dX10_count_0 : decode cX10_count 0 = .ok (.iload_n 1, 1) := by decide +kernel
theorem dX10_count_1 : decode cX10_count 1 = .ok (.tableswitch 113 0 7 #[47, 55, 63, 72, 81, 89, 97, 105], 47) := by decide +kernel
theorem dX10_count_48 : decode cX10_count 48 = .ok (.aload_n 0, 1) := by decide +kernel
theorem dX10_count_49 : decode cX10_count 49 = .ok (.getfield 40, 3) := by decide +kernel
theorem dX10_count_52 : decode cX10_count 52 = .ok (.invokevirtual 161, 3) := by decide +kernel
theorem dX10_count_55 : decode cX10_count 55 = .ok (.ireturn, 1) := by decide +kernel
theorem dX10_count_56 : decode cX10_count 56 = .ok (.aload_n 0, 1) := by decide +kernel
theorem dX10_count_57 : decode cX10_count 57 = .ok (.getfield 47, 3) := by decide +kernel
theorem dX10_count_60 : decode cX10_count 60 = .ok (.invokevirtual 217, 3) := by decide +kernel
theorem dX10_count_63 : decode cX10_count 63 = .ok (.ireturn, 1) := by decide +kernel
theorem dX10_count_64 : decode cX10_count 64 = .ok (.aload_n 0, 1) := by decide +kernel
theorem dX10_count_65 : decode cX10_count 65 = .ok (.getfield 40, 3) := by decide +kernel
theorem dX10_count_68 : decode cX10_count 68 = .ok (.iconst 1, 1) := by decide +kernel
theorem dX10_count_69 : decode cX10_count 69 = .ok (.invokevirtual 332, 3) := by decide +kernel
theorem dX10_count_72 : decode cX10_count 72 = .ok (.ireturn, 1) := by decide +kernel
theorem dX10_count_73 : decode cX10_count 73 = .ok (.aload_n 0, 1) := by decide +kernel
theorem dX10_count_74 : decode cX10_count 74 = .ok (.getfield 40, 3) := by decide +kernel
theorem dX10_count_77 : decode cX10_count 77 = .ok (.iconst 3, 1) := by decide +kernel
theorem dX10_count_78 : decode cX10_count 78 = .ok (.invokevirtual 332, 3) := by decide +kernel
theorem dX10_count_81 : decode cX10_count 81 = .ok (.ireturn, 1) := by decide +kernel
theorem dX10_count_82 : decode cX10_count 82 = .ok (.aload_n 0, 1) := by decide +kernel
theorem dX10_count_83 : decode cX10_count 83 = .ok (.getfield 40, 3) := by decide +kernel
theorem dX10_count_86 : decode cX10_count 86 = .ok (.invokevirtual 335, 3) := by decide +kernel
theorem dX10_count_89 : decode cX10_count 89 = .ok (.ireturn, 1) := by decide +kernel
theorem dX10_count_90 : decode cX10_count 90 = .ok (.aload_n 0, 1) := by decide +kernel
theorem dX10_count_91 : decode cX10_count 91 = .ok (.getfield 75, 3) := by decide +kernel
theorem dX10_count_94 : decode cX10_count 94 = .ok (.invokevirtual 310, 3) := by decide +kernel
theorem dX10_count_97 : decode cX10_count 97 = .ok (.ireturn, 1) := by decide +kernel
theorem dX10_count_98 : decode cX10_count 98 = .ok (.aload_n 0, 1) := by decide +kernel
theorem dX10_count_99 : decode cX10_count 99 = .ok (.getfield 19, 3) := by decide +kernel
theorem dX10_count_102 : decode cX10_count 102 = .ok (.invokevirtual 338, 3) := by decide +kernel
theorem dX10_count_105 : decode cX10_count 105 = .ok (.ireturn, 1) := by decide +kernel
theorem dX10_count_106 : decode cX10_count 106 = .ok (.aload_n 0, 1) := by decide +kernel
theorem dX10_count_107 : decode cX10_count 107 = .ok (.getfield 26, 3) := by decide +kernel
theorem dX10_count_110 : decode cX10_count 110 = .ok (.invokevirtual 339, 3) := by decide +kernel
theorem dX10_count_113 : decode cX10_count 113 = .ok (.ireturn, 1) := by decide +kernel
theorem dX10_count_114 : decode cX10_count 114 = .ok (.iconst (-1), 1) := by decide +kernel
theorem dX10_count_115 : decode cX10_count 115 = .ok (.ireturn, 1) := by decide +kernel
set_option maxRecDepth 20000 in
theorem ggX10_finding_X9_latestFinding : GoodIn wsX10_finding wsX9_latestFinding := goodIn_r _ [6, 7, 18, 19, 20, 21, 22] (by decide +kernel) (by decide +kernel)
set_option maxRecDepth 20000 in
theorem gX10_finding_X9_latestFinding : GoodIn wsX10_finding (wsV RX10 340 RX9 yX9_latestFinding wsX9_latestFinding) := goodIn_app (goodIn_of _ (by decide +kernel)) ggX10_finding_X9_latestFinding
theorem dX10_finding_0 : decode cX10_finding 0 = .ok (.aload_n 0, 1) := by decide +kernel
theorem dX10_finding_1 : decode cX10_finding 1 = .ok (.getfield 10, 3) := by decide +kernel
theorem dX10_finding_4 : decode cX10_finding 4 = .ok (.invokevirtual 340, 3) := by decide +kernel
theorem dX10_finding_7 : decode cX10_finding 7 = .ok (.ireturn, 1) := by decide +kernel
set_option maxRecDepth 20000 in
theorem ggX10_findings_X9_howOften : GoodIn wsX10_findings wsX9_howOften := goodIn_r _ [6, 7, 18, 19, 20, 21, 22] (by decide +kernel) (by decide +kernel)
set_option maxRecDepth 20000 in
theorem gX10_findings_X9_howOften : GoodIn wsX10_findings (wsV RX10 343 RX9 yX9_howOften wsX9_howOften) := goodIn_app (goodIn_of _ (by decide +kernel)) ggX10_findings_X9_howOften
theorem dX10_findings_0 : decode cX10_findings 0 = .ok (.iload_n 1, 1) := by decide +kernel
theorem dX10_findings_1 : decode cX10_findings 1 = .ok (.iconst 1, 1) := by decide +kernel
theorem dX10_findings_2 : decode cX10_findings 2 = .ok (.if_icmp .lt 8, 3) := by decide +kernel
theorem dX10_findings_5 : decode cX10_findings 5 = .ok (.iload_n 1, 1) := by decide +kernel
theorem dX10_findings_6 : decode cX10_findings 6 = .ok (.iconst 5, 1) := by decide +kernel
theorem dX10_findings_7 : decode cX10_findings 7 = .ok (.if_icmp .le 7, 3) := by decide +kernel
theorem dX10_findings_10 : decode cX10_findings 10 = .ok (.iconst (-1), 1) := by decide +kernel
theorem dX10_findings_11 : decode cX10_findings 11 = .ok (.goto 11, 3) := by decide +kernel
theorem dX10_findings_14 : decode cX10_findings 14 = .ok (.aload_n 0, 1) := by decide +kernel
theorem dX10_findings_15 : decode cX10_findings 15 = .ok (.getfield 10, 3) := by decide +kernel
theorem dX10_findings_18 : decode cX10_findings 18 = .ok (.iload_n 1, 1) := by decide +kernel
theorem dX10_findings_19 : decode cX10_findings 19 = .ok (.invokevirtual 343, 3) := by decide +kernel
theorem dX10_findings_22 : decode cX10_findings 22 = .ok (.ireturn, 1) := by decide +kernel
set_option maxRecDepth 20000 in
theorem ggX10_digest_X10_count : GoodIn wsX10_digest wsX10_count := goodIn_r _ [12, 4, 3, 5, 6, 7, 13, 14, 15, 16, 17, 18, 19, 20, 21, 22, 23, 24, 25, 26, 27, 28, 29, 30, 31, 32, 33, 34, 35, 36, 37, 38, 39, 40, 41, 42, 43, 44, 45, 46, 47, 48, 49, 50, 51, 52, 53, 54, 55, 56, 57, 58, 59, 60, 61, 62, 63, 64, 65, 66, 67, 68, 69, 70, 71, 72, 73, 74, 75, 76, 77, 78, 79, 80, 81, 82, 83, 84, 85, 86, 87, 88, 89, 90, 91, 92, 164, 165, 166, 167, 168, 169, 170, 171, 172, 173, 174, 175, 176, 177, 178, 179, 180, 181, 182, 183, 184, 185, 186, 187, 188, 189, 190, 191, 192] (by decide +kernel) (by decide +kernel)
set_option maxRecDepth 20000 in
theorem gX10_digest_X10_count : GoodIn wsX10_digest (wsV RX10 350 RX10 yX10_count wsX10_count) := goodIn_app (goodIn_of _ (by decide +kernel)) ggX10_digest_X10_count
set_option maxRecDepth 20000 in
theorem ggX10_digest_X1_whoIsOut : GoodIn wsX10_digest wsX1_whoIsOut := goodIn_r _ [96, 24, 182, 183, 184, 185] (by decide +kernel) (by decide +kernel)
set_option maxRecDepth 20000 in
theorem gX10_digest_X1_whoIsOut : GoodIn wsX10_digest (wsV RX10 198 RX1 yX1_whoIsOut wsX1_whoIsOut) := goodIn_app (goodIn_of _ (by decide +kernel)) ggX10_digest_X1_whoIsOut
set_option maxRecDepth 20000 in
theorem ggX10_digest_X1_favours : GoodIn wsX10_digest wsX1_favours := goodIn_r _ [100, 101, 182, 183, 184, 185] (by decide +kernel) (by decide +kernel)
set_option maxRecDepth 20000 in
theorem gX10_digest_X1_favours : GoodIn wsX10_digest (wsV RX10 214 RX1 yX1_favours wsX1_favours) := goodIn_app (goodIn_of _ (by decide +kernel)) ggX10_digest_X1_favours
set_option maxRecDepth 20000 in
theorem ggX10_digest_X2_mix : GoodIn wsX10_digest wsX2_mix := goodIn_r _ [105, 18, 106, 49, 107, 108, 109, 16, 110, 40, 111, 112, 113, 41, 42, 43, 44, 174, 175, 176, 177, 178, 179, 180, 181] (by decide +kernel) (by decide +kernel)
set_option maxRecDepth 20000 in
theorem gX10_digest_X2_mix : GoodIn wsX10_digest (wsV RX10 353 RX2 yX2_mix wsX2_mix) := goodIn_app (goodIn_of _ (by decide +kernel)) ggX10_digest_X2_mix
set_option maxRecDepth 20000 in
theorem ggX10_digest_X7_mix : GoodIn wsX10_digest wsX7_mix := goodIn_r _ [117, 56, 118, 119, 120, 186, 187, 188] (by decide +kernel) (by decide +kernel)
set_option maxRecDepth 20000 in
theorem gX10_digest_X7_mix : GoodIn wsX10_digest (wsV RX10 357 RX7 yX7_mix wsX7_mix) := goodIn_app (goodIn_of _ (by decide +kernel)) ggX10_digest_X7_mix
set_option maxRecDepth 20000 in
theorem ggX10_digest_X1_mixKept : GoodIn wsX10_digest wsX1_mixKept := goodIn_r _ [124, 125, 126, 127, 128, 129, 130, 22, 131, 132, 133, 134, 135, 182, 183, 184, 185] (by decide +kernel) (by decide +kernel)
set_option maxRecDepth 20000 in
theorem gX10_digest_X1_mixKept : GoodIn wsX10_digest (wsV RX10 358 RX1 yX1_mixKept wsX1_mixKept) := goodIn_app (goodIn_of _ (by decide +kernel)) ggX10_digest_X1_mixKept
set_option maxRecDepth 20000 in
theorem ggX10_digest_X6_mix : GoodIn wsX10_digest wsX6_mix := goodIn_r _ [139, 140, 66, 67, 68, 60, 69, 70, 71, 72, 73, 74, 141, 142, 143, 144, 145, 146, 147, 148, 149, 189, 190] (by decide +kernel) (by decide +kernel)
set_option maxRecDepth 20000 in
theorem gX10_digest_X6_mix : GoodIn wsX10_digest (wsV RX10 361 RX6 yX6_mix wsX6_mix) := goodIn_app (goodIn_of _ (by decide +kernel)) ggX10_digest_X6_mix
set_option maxRecDepth 20000 in
theorem ggX10_digest_X8_mix : GoodIn wsX10_digest wsX8_mix := goodIn_r _ [153, 154, 84, 85, 86, 78, 87, 88, 89, 90, 91, 92, 155, 156, 157, 158, 159, 160, 161, 162, 163, 191, 192] (by decide +kernel) (by decide +kernel)
set_option maxRecDepth 20000 in
theorem gX10_digest_X8_mix : GoodIn wsX10_digest (wsV RX10 362 RX8 yX8_mix wsX8_mix) := goodIn_app (goodIn_of _ (by decide +kernel)) ggX10_digest_X8_mix
theorem dX10_digest_0 : decode cX10_digest 0 = .ok (.ldc2_w 346, 3) := by decide +kernel
theorem dX10_digest_3 : decode cX10_digest 3 = .ok (.lstore_n 1, 1) := by decide +kernel
theorem dX10_digest_4 : decode cX10_digest 4 = .ok (.iconst 0, 1) := by decide +kernel
theorem dX10_digest_5 : decode cX10_digest 5 = .ok (.istore_n 3, 1) := by decide +kernel
theorem dX10_digest_6 : decode cX10_digest 6 = .ok (.iload_n 3, 1) := by decide +kernel
theorem dX10_digest_7 : decode cX10_digest 7 = .ok (.bipush 8, 2) := by decide +kernel
theorem dX10_digest_9 : decode cX10_digest 9 = .ok (.if_icmp .ge 22, 3) := by decide +kernel
theorem dX10_digest_12 : decode cX10_digest 12 = .ok (.ldc2_w 348, 3) := by decide +kernel
theorem dX10_digest_15 : decode cX10_digest 15 = .ok (.lload_n 1, 1) := by decide +kernel
theorem dX10_digest_16 : decode cX10_digest 16 = .ok (.lmul, 1) := by decide +kernel
theorem dX10_digest_17 : decode cX10_digest 17 = .ok (.aload_n 0, 1) := by decide +kernel
theorem dX10_digest_18 : decode cX10_digest 18 = .ok (.iload_n 3, 1) := by decide +kernel
theorem dX10_digest_19 : decode cX10_digest 19 = .ok (.invokevirtual 350, 3) := by decide +kernel
theorem dX10_digest_22 : decode cX10_digest 22 = .ok (.i2l, 1) := by decide +kernel
theorem dX10_digest_23 : decode cX10_digest 23 = .ok (.ladd, 1) := by decide +kernel
theorem dX10_digest_24 : decode cX10_digest 24 = .ok (.lstore_n 1, 1) := by decide +kernel
theorem dX10_digest_25 : decode cX10_digest 25 = .ok (.iinc 3 1, 3) := by decide +kernel
theorem dX10_digest_28 : decode cX10_digest 28 = .ok (.goto (-22), 3) := by decide +kernel
theorem dX10_digest_31 : decode cX10_digest 31 = .ok (.ldc2_w 348, 3) := by decide +kernel
theorem dX10_digest_34 : decode cX10_digest 34 = .ok (.lload_n 1, 1) := by decide +kernel
theorem dX10_digest_35 : decode cX10_digest 35 = .ok (.lmul, 1) := by decide +kernel
theorem dX10_digest_36 : decode cX10_digest 36 = .ok (.aload_n 0, 1) := by decide +kernel
theorem dX10_digest_37 : decode cX10_digest 37 = .ok (.getfield 47, 3) := by decide +kernel
theorem dX10_digest_40 : decode cX10_digest 40 = .ok (.invokevirtual 198, 3) := by decide +kernel
theorem dX10_digest_43 : decode cX10_digest 43 = .ok (.i2l, 1) := by decide +kernel
theorem dX10_digest_44 : decode cX10_digest 44 = .ok (.ladd, 1) := by decide +kernel
theorem dX10_digest_45 : decode cX10_digest 45 = .ok (.lstore_n 1, 1) := by decide +kernel
theorem dX10_digest_46 : decode cX10_digest 46 = .ok (.ldc2_w 348, 3) := by decide +kernel
theorem dX10_digest_49 : decode cX10_digest 49 = .ok (.lload_n 1, 1) := by decide +kernel
theorem dX10_digest_50 : decode cX10_digest 50 = .ok (.lmul, 1) := by decide +kernel
theorem dX10_digest_51 : decode cX10_digest 51 = .ok (.aload_n 0, 1) := by decide +kernel
theorem dX10_digest_52 : decode cX10_digest 52 = .ok (.getfield 47, 3) := by decide +kernel
theorem dX10_digest_55 : decode cX10_digest 55 = .ok (.invokevirtual 214, 3) := by decide +kernel
theorem dX10_digest_58 : decode cX10_digest 58 = .ok (.i2l, 1) := by decide +kernel
theorem dX10_digest_59 : decode cX10_digest 59 = .ok (.ladd, 1) := by decide +kernel
theorem dX10_digest_60 : decode cX10_digest 60 = .ok (.lstore_n 1, 1) := by decide +kernel
theorem dX10_digest_61 : decode cX10_digest 61 = .ok (.aload_n 0, 1) := by decide +kernel
theorem dX10_digest_62 : decode cX10_digest 62 = .ok (.getfield 40, 3) := by decide +kernel
theorem dX10_digest_65 : decode cX10_digest 65 = .ok (.lload_n 1, 1) := by decide +kernel
theorem dX10_digest_66 : decode cX10_digest 66 = .ok (.invokevirtual 353, 3) := by decide +kernel
theorem dX10_digest_69 : decode cX10_digest 69 = .ok (.lstore_n 1, 1) := by decide +kernel
theorem dX10_digest_70 : decode cX10_digest 70 = .ok (.aload_n 0, 1) := by decide +kernel
theorem dX10_digest_71 : decode cX10_digest 71 = .ok (.getfield 75, 3) := by decide +kernel
theorem dX10_digest_74 : decode cX10_digest 74 = .ok (.lload_n 1, 1) := by decide +kernel
theorem dX10_digest_75 : decode cX10_digest 75 = .ok (.invokevirtual 357, 3) := by decide +kernel
theorem dX10_digest_78 : decode cX10_digest 78 = .ok (.lstore_n 1, 1) := by decide +kernel
theorem dX10_digest_79 : decode cX10_digest 79 = .ok (.aload_n 0, 1) := by decide +kernel
theorem dX10_digest_80 : decode cX10_digest 80 = .ok (.getfield 47, 3) := by decide +kernel
theorem dX10_digest_83 : decode cX10_digest 83 = .ok (.lload_n 1, 1) := by decide +kernel
theorem dX10_digest_84 : decode cX10_digest 84 = .ok (.invokevirtual 358, 3) := by decide +kernel
theorem dX10_digest_87 : decode cX10_digest 87 = .ok (.lstore_n 1, 1) := by decide +kernel
theorem dX10_digest_88 : decode cX10_digest 88 = .ok (.aload_n 0, 1) := by decide +kernel
theorem dX10_digest_89 : decode cX10_digest 89 = .ok (.getfield 19, 3) := by decide +kernel
theorem dX10_digest_92 : decode cX10_digest 92 = .ok (.lload_n 1, 1) := by decide +kernel
theorem dX10_digest_93 : decode cX10_digest 93 = .ok (.invokevirtual 361, 3) := by decide +kernel
theorem dX10_digest_96 : decode cX10_digest 96 = .ok (.lstore_n 1, 1) := by decide +kernel
theorem dX10_digest_97 : decode cX10_digest 97 = .ok (.aload_n 0, 1) := by decide +kernel
theorem dX10_digest_98 : decode cX10_digest 98 = .ok (.getfield 26, 3) := by decide +kernel
theorem dX10_digest_101 : decode cX10_digest 101 = .ok (.lload_n 1, 1) := by decide +kernel
theorem dX10_digest_102 : decode cX10_digest 102 = .ok (.invokevirtual 362, 3) := by decide +kernel
theorem dX10_digest_105 : decode cX10_digest 105 = .ok (.lreturn, 1) := by decide +kernel
set_option maxRecDepth 20000 in
theorem ggX10_rowRefusal_X6_isNumber : GoodIn wsX10_rowRefusal wsX6_isNumber := goodIn_r _ [7] (by decide +kernel) (by decide +kernel)
set_option maxRecDepth 20000 in
theorem gX10_rowRefusal_X6_isNumber : GoodIn wsX10_rowRefusal (wsV RX10 79 RX6 yX6_isNumber wsX6_isNumber) := goodIn_app (goodIn_of _ (by decide +kernel)) ggX10_rowRefusal_X6_isNumber
set_option maxRecDepth 20000 in
theorem ggX10_rowRefusal_X6_isThere : GoodIn wsX10_rowRefusal wsX6_isThere := goodIn_r _ [11, 12, 13, 14, 6, 15, 16, 17, 4, 5, 7, 35, 36] (by decide +kernel) (by decide +kernel)
set_option maxRecDepth 20000 in
theorem gX10_rowRefusal_X6_isThere : GoodIn wsX10_rowRefusal (wsV RX10 112 RX6 yX6_isThere wsX6_isThere) := goodIn_app (goodIn_of _ (by decide +kernel)) ggX10_rowRefusal_X6_isThere
set_option maxRecDepth 20000 in
theorem ggX10_rowRefusal_X9_found : GoodIn wsX10_rowRefusal wsX9_found := goodIn_r _ [22, 23, 24, 37, 38, 39, 40, 41] (by decide +kernel) (by decide +kernel)
set_option maxRecDepth 20000 in
theorem gX10_rowRefusal_X9_found : GoodIn wsX10_rowRefusal (wsV RX10 83 RX9 yX9_found wsX9_found) := goodIn_app (goodIn_of _ (by decide +kernel)) ggX10_rowRefusal_X9_found
theorem dX10_rowRefusal_0 : decode cX10_rowRefusal 0 = .ok (.aload_n 0, 1) := by decide +kernel
theorem dX10_rowRefusal_1 : decode cX10_rowRefusal 1 = .ok (.getfield 19, 3) := by decide +kernel
theorem dX10_rowRefusal_4 : decode cX10_rowRefusal 4 = .ok (.iload_n 1, 1) := by decide +kernel
theorem dX10_rowRefusal_5 : decode cX10_rowRefusal 5 = .ok (.invokevirtual 79, 3) := by decide +kernel
theorem dX10_rowRefusal_8 : decode cX10_rowRefusal 8 = .ok (.ifCond .ne 5, 3) := by decide +kernel
theorem dX10_rowRefusal_11 : decode cX10_rowRefusal 11 = .ok (.iconst (-1), 1) := by decide +kernel
theorem dX10_rowRefusal_12 : decode cX10_rowRefusal 12 = .ok (.ireturn, 1) := by decide +kernel
theorem dX10_rowRefusal_13 : decode cX10_rowRefusal 13 = .ok (.aload_n 0, 1) := by decide +kernel
theorem dX10_rowRefusal_14 : decode cX10_rowRefusal 14 = .ok (.getfield 19, 3) := by decide +kernel
theorem dX10_rowRefusal_17 : decode cX10_rowRefusal 17 = .ok (.iload_n 1, 1) := by decide +kernel
theorem dX10_rowRefusal_18 : decode cX10_rowRefusal 18 = .ok (.invokevirtual 112, 3) := by decide +kernel
theorem dX10_rowRefusal_21 : decode cX10_rowRefusal 21 = .ok (.ifCond .eq 7, 3) := by decide +kernel
theorem dX10_rowRefusal_24 : decode cX10_rowRefusal 24 = .ok (.iconst 0, 1) := by decide +kernel
theorem dX10_rowRefusal_25 : decode cX10_rowRefusal 25 = .ok (.goto 11, 3) := by decide +kernel
theorem dX10_rowRefusal_28 : decode cX10_rowRefusal 28 = .ok (.aload_n 0, 1) := by decide +kernel
theorem dX10_rowRefusal_29 : decode cX10_rowRefusal 29 = .ok (.getfield 10, 3) := by decide +kernel
theorem dX10_rowRefusal_32 : decode cX10_rowRefusal 32 = .ok (.iconst 1, 1) := by decide +kernel
theorem dX10_rowRefusal_33 : decode cX10_rowRefusal 33 = .ok (.invokevirtual 83, 3) := by decide +kernel
theorem dX10_rowRefusal_36 : decode cX10_rowRefusal 36 = .ok (.ireturn, 1) := by decide +kernel
set_option maxRecDepth 20000 in
theorem ggX10_placeRefusal_X10_rowRefusal : GoodIn wsX10_placeRefusal wsX10_rowRefusal := goodIn_r _ [7, 1, 2, 8, 9, 10, 11, 12, 13, 14, 15, 16, 17, 18, 19, 20, 21, 22, 23, 24, 25, 26, 27, 28, 29, 34, 35, 36, 37, 38, 39, 40, 41, 42, 43, 44, 45, 46, 47, 48, 49, 50] (by decide +kernel) (by decide +kernel)
set_option maxRecDepth 20000 in
theorem gX10_placeRefusal_X10_rowRefusal : GoodIn wsX10_placeRefusal (wsV RX10 106 RX10 yX10_rowRefusal wsX10_rowRefusal) := goodIn_app (goodIn_of _ (by decide +kernel)) ggX10_placeRefusal_X10_rowRefusal
set_option maxRecDepth 20000 in
theorem ggX10_placeRefusal_X6_isPlace : GoodIn wsX10_placeRefusal wsX6_isPlace := goodIn_r _ [33, 17, 18, 19, 11, 20, 21, 22, 9, 10, 12, 44, 45] (by decide +kernel) (by decide +kernel)
set_option maxRecDepth 20000 in
theorem gX10_placeRefusal_X6_isPlace : GoodIn wsX10_placeRefusal (wsV RX10 363 RX6 yX6_isPlace wsX6_isPlace) := goodIn_app (goodIn_of _ (by decide +kernel)) ggX10_placeRefusal_X6_isPlace
set_option maxRecDepth 20000 in
theorem ggX10_placeRefusal_X9_found : GoodIn wsX10_placeRefusal wsX9_found := goodIn_r _ [27, 28, 29, 46, 47, 48, 49, 50] (by decide +kernel) (by decide +kernel)
set_option maxRecDepth 20000 in
theorem gX10_placeRefusal_X9_found : GoodIn wsX10_placeRefusal (wsV RX10 83 RX9 yX9_found wsX9_found) := goodIn_app (goodIn_of _ (by decide +kernel)) ggX10_placeRefusal_X9_found
theorem dX10_placeRefusal_0 : decode cX10_placeRefusal 0 = .ok (.aload_n 0, 1) := by decide +kernel
theorem dX10_placeRefusal_1 : decode cX10_placeRefusal 1 = .ok (.iload_n 1, 1) := by decide +kernel
theorem dX10_placeRefusal_2 : decode cX10_placeRefusal 2 = .ok (.invokevirtual 106, 3) := by decide +kernel
theorem dX10_placeRefusal_5 : decode cX10_placeRefusal 5 = .ok (.istore_n 3, 1) := by decide +kernel
theorem dX10_placeRefusal_6 : decode cX10_placeRefusal 6 = .ok (.iload_n 3, 1) := by decide +kernel
theorem dX10_placeRefusal_7 : decode cX10_placeRefusal 7 = .ok (.ifCond .eq 5, 3) := by decide +kernel
theorem dX10_placeRefusal_10 : decode cX10_placeRefusal 10 = .ok (.iload_n 3, 1) := by decide +kernel
theorem dX10_placeRefusal_11 : decode cX10_placeRefusal 11 = .ok (.ireturn, 1) := by decide +kernel
theorem dX10_placeRefusal_12 : decode cX10_placeRefusal 12 = .ok (.aload_n 0, 1) := by decide +kernel
theorem dX10_placeRefusal_13 : decode cX10_placeRefusal 13 = .ok (.getfield 19, 3) := by decide +kernel
theorem dX10_placeRefusal_16 : decode cX10_placeRefusal 16 = .ok (.iload_n 1, 1) := by decide +kernel
theorem dX10_placeRefusal_17 : decode cX10_placeRefusal 17 = .ok (.iload_n 2, 1) := by decide +kernel
theorem dX10_placeRefusal_18 : decode cX10_placeRefusal 18 = .ok (.invokevirtual 363, 3) := by decide +kernel
theorem dX10_placeRefusal_21 : decode cX10_placeRefusal 21 = .ok (.ifCond .eq 7, 3) := by decide +kernel
theorem dX10_placeRefusal_24 : decode cX10_placeRefusal 24 = .ok (.iconst 0, 1) := by decide +kernel
theorem dX10_placeRefusal_25 : decode cX10_placeRefusal 25 = .ok (.goto 11, 3) := by decide +kernel
theorem dX10_placeRefusal_28 : decode cX10_placeRefusal 28 = .ok (.aload_n 0, 1) := by decide +kernel
theorem dX10_placeRefusal_29 : decode cX10_placeRefusal 29 = .ok (.getfield 10, 3) := by decide +kernel
theorem dX10_placeRefusal_32 : decode cX10_placeRefusal 32 = .ok (.iconst 2, 1) := by decide +kernel
theorem dX10_placeRefusal_33 : decode cX10_placeRefusal 33 = .ok (.invokevirtual 83, 3) := by decide +kernel
theorem dX10_placeRefusal_36 : decode cX10_placeRefusal 36 = .ok (.ireturn, 1) := by decide +kernel
set_option maxRecDepth 20000 in
theorem ggX10_textRefusal_X8_isNumber : GoodIn wsX10_textRefusal wsX8_isNumber := goodIn_r _ [7] (by decide +kernel) (by decide +kernel)
set_option maxRecDepth 20000 in
theorem gX10_textRefusal_X8_isNumber : GoodIn wsX10_textRefusal (wsV RX10 130 RX8 yX8_isNumber wsX8_isNumber) := goodIn_app (goodIn_of _ (by decide +kernel)) ggX10_textRefusal_X8_isNumber
set_option maxRecDepth 20000 in
theorem ggX10_textRefusal_X8_isThere : GoodIn wsX10_textRefusal wsX8_isThere := goodIn_r _ [11, 12, 13, 14, 6, 15, 16, 17, 4, 5, 7, 35, 36] (by decide +kernel) (by decide +kernel)
set_option maxRecDepth 20000 in
theorem gX10_textRefusal_X8_isThere : GoodIn wsX10_textRefusal (wsV RX10 364 RX8 yX8_isThere wsX8_isThere) := goodIn_app (goodIn_of _ (by decide +kernel)) ggX10_textRefusal_X8_isThere
set_option maxRecDepth 20000 in
theorem ggX10_textRefusal_X9_found : GoodIn wsX10_textRefusal wsX9_found := goodIn_r _ [22, 23, 24, 37, 38, 39, 40, 41] (by decide +kernel) (by decide +kernel)
set_option maxRecDepth 20000 in
theorem gX10_textRefusal_X9_found : GoodIn wsX10_textRefusal (wsV RX10 83 RX9 yX9_found wsX9_found) := goodIn_app (goodIn_of _ (by decide +kernel)) ggX10_textRefusal_X9_found
theorem dX10_textRefusal_0 : decode cX10_textRefusal 0 = .ok (.aload_n 0, 1) := by decide +kernel
theorem dX10_textRefusal_1 : decode cX10_textRefusal 1 = .ok (.getfield 26, 3) := by decide +kernel
theorem dX10_textRefusal_4 : decode cX10_textRefusal 4 = .ok (.iload_n 1, 1) := by decide +kernel
theorem dX10_textRefusal_5 : decode cX10_textRefusal 5 = .ok (.invokevirtual 130, 3) := by decide +kernel
theorem dX10_textRefusal_8 : decode cX10_textRefusal 8 = .ok (.ifCond .ne 5, 3) := by decide +kernel
theorem dX10_textRefusal_11 : decode cX10_textRefusal 11 = .ok (.iconst (-1), 1) := by decide +kernel
theorem dX10_textRefusal_12 : decode cX10_textRefusal 12 = .ok (.ireturn, 1) := by decide +kernel
theorem dX10_textRefusal_13 : decode cX10_textRefusal 13 = .ok (.aload_n 0, 1) := by decide +kernel
theorem dX10_textRefusal_14 : decode cX10_textRefusal 14 = .ok (.getfield 26, 3) := by decide +kernel
theorem dX10_textRefusal_17 : decode cX10_textRefusal 17 = .ok (.iload_n 1, 1) := by decide +kernel
theorem dX10_textRefusal_18 : decode cX10_textRefusal 18 = .ok (.invokevirtual 364, 3) := by decide +kernel
theorem dX10_textRefusal_21 : decode cX10_textRefusal 21 = .ok (.ifCond .eq 7, 3) := by decide +kernel
theorem dX10_textRefusal_24 : decode cX10_textRefusal 24 = .ok (.iconst 0, 1) := by decide +kernel
theorem dX10_textRefusal_25 : decode cX10_textRefusal 25 = .ok (.goto 11, 3) := by decide +kernel
theorem dX10_textRefusal_28 : decode cX10_textRefusal 28 = .ok (.aload_n 0, 1) := by decide +kernel
theorem dX10_textRefusal_29 : decode cX10_textRefusal 29 = .ok (.getfield 10, 3) := by decide +kernel
theorem dX10_textRefusal_32 : decode cX10_textRefusal 32 = .ok (.iconst 1, 1) := by decide +kernel
theorem dX10_textRefusal_33 : decode cX10_textRefusal 33 = .ok (.invokevirtual 83, 3) := by decide +kernel
theorem dX10_textRefusal_36 : decode cX10_textRefusal 36 = .ok (.ireturn, 1) := by decide +kernel
theorem dX10_isYesOrNo_0 : decode cX10_isYesOrNo 0 = .ok (.iload_n 0, 1) := by decide +kernel
theorem dX10_isYesOrNo_1 : decode cX10_isYesOrNo 1 = .ok (.ifCond .eq 8, 3) := by decide +kernel
theorem dX10_isYesOrNo_4 : decode cX10_isYesOrNo 4 = .ok (.iload_n 0, 1) := by decide +kernel
theorem dX10_isYesOrNo_5 : decode cX10_isYesOrNo 5 = .ok (.iconst 1, 1) := by decide +kernel
theorem dX10_isYesOrNo_6 : decode cX10_isYesOrNo 6 = .ok (.if_icmp .ne 7, 3) := by decide +kernel
theorem dX10_isYesOrNo_9 : decode cX10_isYesOrNo 9 = .ok (.iconst 1, 1) := by decide +kernel
theorem dX10_isYesOrNo_10 : decode cX10_isYesOrNo 10 = .ok (.goto 4, 3) := by decide +kernel
theorem dX10_isYesOrNo_13 : decode cX10_isYesOrNo 13 = .ok (.iconst 0, 1) := by decide +kernel
theorem dX10_isYesOrNo_14 : decode cX10_isYesOrNo 14 = .ok (.ireturn, 1) := by decide +kernel
theorem dX10_isFavours_0 : decode cX10_isFavours 0 = .ok (.iload_n 0, 1) := by decide +kernel
theorem dX10_isFavours_1 : decode cX10_isFavours 1 = .ok (.ifCond .lt 13, 3) := by decide +kernel
theorem dX10_isFavours_4 : decode cX10_isFavours 4 = .ok (.iload_n 0, 1) := by decide +kernel
theorem dX10_isFavours_5 : decode cX10_isFavours 5 = .ok (.bipush 99, 2) := by decide +kernel
theorem dX10_isFavours_7 : decode cX10_isFavours 7 = .ok (.if_icmp .gt 7, 3) := by decide +kernel
theorem dX10_isFavours_10 : decode cX10_isFavours 10 = .ok (.iconst 1, 1) := by decide +kernel
theorem dX10_isFavours_11 : decode cX10_isFavours 11 = .ok (.goto 4, 3) := by decide +kernel
theorem dX10_isFavours_14 : decode cX10_isFavours 14 = .ok (.iconst 0, 1) := by decide +kernel
theorem dX10_isFavours_15 : decode cX10_isFavours 15 = .ok (.ireturn, 1) := by decide +kernel
set_option maxRecDepth 20000 in
theorem ggX10_reachAll_X2_everyone : GoodIn wsX10_reachAll wsX2_everyone := goodIn_r _ [7, 8, 60, 61, 62, 63, 64, 65, 66, 67] (by decide +kernel) (by decide +kernel)
set_option maxRecDepth 20000 in
theorem gX10_reachAll_X2_everyone : GoodIn wsX10_reachAll (wsV RX10 201 RX2 yX2_everyone wsX2_everyone) := goodIn_app (goodIn_of _ (by decide +kernel)) ggX10_reachAll_X2_everyone
set_option maxRecDepth 20000 in
theorem ggX10_reachAll_X4_fill : GoodIn wsX10_reachAll wsX4_fill := goodIn_r _ [13, 14, 15, 16, 17, 18, 6, 19, 20, 21, 22, 23, 24, 25, 26, 27, 8, 28, 29, 30, 31, 32, 33, 34, 35, 36, 37, 38, 39, 40, 41, 42, 43, 44, 45, 46, 47, 48, 49, 68, 69, 60, 61, 62, 63, 64, 65, 66, 67] (by decide +kernel) (by decide +kernel)
set_option maxRecDepth 20000 in
theorem gX10_reachAll_X4_fill : GoodIn wsX10_reachAll (wsV RX10 286 RX4 yX4_fill wsX4_fill) := goodIn_app (goodIn_of _ (by decide +kernel)) ggX10_reachAll_X4_fill
theorem dX10_reachAll_0 : decode cX10_reachAll 0 = .ok (.aload_n 0, 1) := by decide +kernel
theorem dX10_reachAll_1 : decode cX10_reachAll 1 = .ok (.getfield 54, 3) := by decide +kernel
theorem dX10_reachAll_4 : decode cX10_reachAll 4 = .ok (.aload_n 0, 1) := by decide +kernel
theorem dX10_reachAll_5 : decode cX10_reachAll 5 = .ok (.getfield 40, 3) := by decide +kernel
theorem dX10_reachAll_8 : decode cX10_reachAll 8 = .ok (.aload_n 0, 1) := by decide +kernel
theorem dX10_reachAll_9 : decode cX10_reachAll 9 = .ok (.getfield 40, 3) := by decide +kernel
theorem dX10_reachAll_12 : decode cX10_reachAll 12 = .ok (.invokevirtual 201, 3) := by decide +kernel
theorem dX10_reachAll_15 : decode cX10_reachAll 15 = .ok (.invokevirtual 286, 3) := by decide +kernel
theorem dX10_reachAll_18 : decode cX10_reachAll 18 = .ok (.return_, 1) := by decide +kernel
set_option maxRecDepth 20000 in
theorem ggX10_getsOut_X4_fill : GoodIn wsX10_getsOut wsX4_fill := goodIn_r _ [7, 8, 9, 10, 11, 12, 13, 14, 15, 16, 17, 18, 19, 20, 21, 22, 23, 24, 25, 26, 27, 28, 29, 30, 31, 32, 33, 34, 35, 36, 37, 38, 39, 40, 41, 42, 43, 44, 45, 64, 65, 66, 67, 68, 69, 70, 71, 72, 73] (by decide +kernel) (by decide +kernel)
set_option maxRecDepth 20000 in
theorem gX10_getsOut_X4_fill : GoodIn wsX10_getsOut (wsV RX10 286 RX4 yX4_fill wsX4_fill) := goodIn_app (goodIn_of _ (by decide +kernel)) ggX10_getsOut_X4_fill
set_option maxRecDepth 20000 in
theorem ggX10_getsOut_X4_has : GoodIn wsX10_getsOut wsX4_has := goodIn_r _ [49, 50, 51, 52, 6, 53, 8, 9, 64, 65] (by decide +kernel) (by decide +kernel)
set_option maxRecDepth 20000 in
theorem gX10_getsOut_X4_has : GoodIn wsX10_getsOut (wsV RX10 365 RX4 yX4_has wsX4_has) := goodIn_app (goodIn_of _ (by decide +kernel)) ggX10_getsOut_X4_has
theorem dX10_getsOut_0 : decode cX10_getsOut 0 = .ok (.aload_n 0, 1) := by decide +kernel
theorem dX10_getsOut_1 : decode cX10_getsOut 1 = .ok (.getfield 54, 3) := by decide +kernel
theorem dX10_getsOut_4 : decode cX10_getsOut 4 = .ok (.aload_n 0, 1) := by decide +kernel
theorem dX10_getsOut_5 : decode cX10_getsOut 5 = .ok (.getfield 40, 3) := by decide +kernel
theorem dX10_getsOut_8 : decode cX10_getsOut 8 = .ok (.iload_n 1, 1) := by decide +kernel
theorem dX10_getsOut_9 : decode cX10_getsOut 9 = .ok (.invokevirtual 286, 3) := by decide +kernel
theorem dX10_getsOut_12 : decode cX10_getsOut 12 = .ok (.aload_n 0, 1) := by decide +kernel
theorem dX10_getsOut_13 : decode cX10_getsOut 13 = .ok (.getfield 54, 3) := by decide +kernel
theorem dX10_getsOut_16 : decode cX10_getsOut 16 = .ok (.iload_n 1, 1) := by decide +kernel
theorem dX10_getsOut_17 : decode cX10_getsOut 17 = .ok (.invokevirtual 365, 3) := by decide +kernel
theorem dX10_getsOut_20 : decode cX10_getsOut 20 = .ok (.ireturn, 1) := by decide +kernel
set_option maxRecDepth 20000 in
theorem ggX10_fitsNight_X4_has : GoodIn wsX10_fitsNight wsX4_has := goodIn_r _ [7, 8, 9, 10, 6, 11, 12, 13, 33, 34] (by decide +kernel) (by decide +kernel)
set_option maxRecDepth 20000 in
theorem gX10_fitsNight_X4_has : GoodIn wsX10_fitsNight (wsV RX10 365 RX4 yX4_has wsX4_has) := goodIn_app (goodIn_of _ (by decide +kernel)) ggX10_fitsNight_X4_has
set_option maxRecDepth 20000 in
theorem ggX10_fitsNight_X4_favoursOf : GoodIn wsX10_fitsNight wsX4_favoursOf := goodIn_r _ [11, 12, 13, 33, 34] (by decide +kernel) (by decide +kernel)
set_option maxRecDepth 20000 in
theorem gX10_fitsNight_X4_favoursOf : GoodIn wsX10_fitsNight (wsV RX10 248 RX4 yX4_favoursOf wsX4_favoursOf) := goodIn_app (goodIn_of _ (by decide +kernel)) ggX10_fitsNight_X4_favoursOf
set_option maxRecDepth 20000 in
theorem ggX10_fitsNight_X7_fit : GoodIn wsX10_fitsNight wsX7_fit := goodIn_r _ [19, 20, 21, 22, 35, 36, 37] (by decide +kernel) (by decide +kernel)
set_option maxRecDepth 20000 in
theorem gX10_fitsNight_X7_fit : GoodIn wsX10_fitsNight (wsV RX10 368 RX7 yX7_fit wsX7_fit) := goodIn_app (goodIn_of _ (by decide +kernel)) ggX10_fitsNight_X7_fit
theorem dX10_fitsNight_0 : decode cX10_fitsNight 0 = .ok (.aload_n 0, 1) := by decide +kernel
theorem dX10_fitsNight_1 : decode cX10_fitsNight 1 = .ok (.getfield 54, 3) := by decide +kernel
theorem dX10_fitsNight_4 : decode cX10_fitsNight 4 = .ok (.iload_n 1, 1) := by decide +kernel
theorem dX10_fitsNight_5 : decode cX10_fitsNight 5 = .ok (.invokevirtual 365, 3) := by decide +kernel
theorem dX10_fitsNight_8 : decode cX10_fitsNight 8 = .ok (.ifCond .eq 30, 3) := by decide +kernel
theorem dX10_fitsNight_11 : decode cX10_fitsNight 11 = .ok (.aload_n 0, 1) := by decide +kernel
theorem dX10_fitsNight_12 : decode cX10_fitsNight 12 = .ok (.getfield 54, 3) := by decide +kernel
theorem dX10_fitsNight_15 : decode cX10_fitsNight 15 = .ok (.iload_n 1, 1) := by decide +kernel
theorem dX10_fitsNight_16 : decode cX10_fitsNight 16 = .ok (.invokevirtual 248, 3) := by decide +kernel
theorem dX10_fitsNight_19 : decode cX10_fitsNight 19 = .ok (.iload_n 2, 1) := by decide +kernel
theorem dX10_fitsNight_20 : decode cX10_fitsNight 20 = .ok (.if_icmp .gt 18, 3) := by decide +kernel
theorem dX10_fitsNight_23 : decode cX10_fitsNight 23 = .ok (.aload_n 0, 1) := by decide +kernel
theorem dX10_fitsNight_24 : decode cX10_fitsNight 24 = .ok (.getfield 75, 3) := by decide +kernel
theorem dX10_fitsNight_27 : decode cX10_fitsNight 27 = .ok (.iload_n 1, 1) := by decide +kernel
theorem dX10_fitsNight_28 : decode cX10_fitsNight 28 = .ok (.invokevirtual 368, 3) := by decide +kernel
theorem dX10_fitsNight_31 : decode cX10_fitsNight 31 = .ok (.ifCond .eq 7, 3) := by decide +kernel
theorem dX10_fitsNight_34 : decode cX10_fitsNight 34 = .ok (.iconst 1, 1) := by decide +kernel
theorem dX10_fitsNight_35 : decode cX10_fitsNight 35 = .ok (.goto 4, 3) := by decide +kernel
theorem dX10_fitsNight_38 : decode cX10_fitsNight 38 = .ok (.iconst 0, 1) := by decide +kernel
theorem dX10_fitsNight_39 : decode cX10_fitsNight 39 = .ok (.ireturn, 1) := by decide +kernel
set_option maxRecDepth 20000 in
theorem ggX10_tellsUnlikeCells_X6_sizeOf : GoodIn wsX10_tellsUnlikeCells wsX6_sizeOf := goodIn_r _ [7, 8, 9, 10, 11, 6, 12, 39, 40] (by decide +kernel) (by decide +kernel)
set_option maxRecDepth 20000 in
theorem gX10_tellsUnlikeCells_X6_sizeOf : GoodIn wsX10_tellsUnlikeCells (wsV RX10 123 RX6 yX6_sizeOf wsX6_sizeOf) := goodIn_app (goodIn_of _ (by decide +kernel)) ggX10_tellsUnlikeCells_X6_sizeOf
set_option maxRecDepth 20000 in
theorem ggX10_tellsUnlikeCells_X6_get : GoodIn wsX10_tellsUnlikeCells wsX6_get := goodIn_r _ [16, 17, 18, 19, 20, 6, 21, 22, 4, 5, 7, 8, 9, 10, 11, 12, 39, 40] (by decide +kernel) (by decide +kernel)
set_option maxRecDepth 20000 in
theorem gX10_tellsUnlikeCells_X6_get : GoodIn wsX10_tellsUnlikeCells (wsV RX10 95 RX6 yX6_get wsX6_get) := goodIn_app (goodIn_of _ (by decide +kernel)) ggX10_tellsUnlikeCells_X6_get
set_option maxRecDepth 20000 in
theorem ggX10_tellsUnlikeCells_X2_isCell : GoodIn wsX10_tellsUnlikeCells wsX2_isCell := goodIn_r _ [27, 28, 41, 42, 43, 44, 45, 46, 47, 48] (by decide +kernel) (by decide +kernel)
set_option maxRecDepth 20000 in
theorem gX10_tellsUnlikeCells_X2_isCell : GoodIn wsX10_tellsUnlikeCells (wsV RX10 165 RX2 yX2_isCell wsX2_isCell) := goodIn_app (goodIn_of _ (by decide +kernel)) ggX10_tellsUnlikeCells_X2_isCell
theorem dX10_tellsUnlikeCells_0 : decode cX10_tellsUnlikeCells 0 = .ok (.iconst 0, 1) := by decide +kernel
theorem dX10_tellsUnlikeCells_1 : decode cX10_tellsUnlikeCells 1 = .ok (.istore_n 2, 1) := by decide +kernel
theorem dX10_tellsUnlikeCells_2 : decode cX10_tellsUnlikeCells 2 = .ok (.iconst 0, 1) := by decide +kernel
theorem dX10_tellsUnlikeCells_3 : decode cX10_tellsUnlikeCells 3 = .ok (.istore_n 3, 1) := by decide +kernel
theorem dX10_tellsUnlikeCells_4 : decode cX10_tellsUnlikeCells 4 = .ok (.iload_n 3, 1) := by decide +kernel
theorem dX10_tellsUnlikeCells_5 : decode cX10_tellsUnlikeCells 5 = .ok (.aload_n 0, 1) := by decide +kernel
theorem dX10_tellsUnlikeCells_6 : decode cX10_tellsUnlikeCells 6 = .ok (.getfield 19, 3) := by decide +kernel
theorem dX10_tellsUnlikeCells_9 : decode cX10_tellsUnlikeCells 9 = .ok (.iload_n 1, 1) := by decide +kernel
theorem dX10_tellsUnlikeCells_10 : decode cX10_tellsUnlikeCells 10 = .ok (.invokevirtual 123, 3) := by decide +kernel
theorem dX10_tellsUnlikeCells_13 : decode cX10_tellsUnlikeCells 13 = .ok (.if_icmp .ge 51, 3) := by decide +kernel
theorem dX10_tellsUnlikeCells_16 : decode cX10_tellsUnlikeCells 16 = .ok (.aload_n 0, 1) := by decide +kernel
theorem dX10_tellsUnlikeCells_17 : decode cX10_tellsUnlikeCells 17 = .ok (.getfield 19, 3) := by decide +kernel
theorem dX10_tellsUnlikeCells_20 : decode cX10_tellsUnlikeCells 20 = .ok (.iload_n 1, 1) := by decide +kernel
theorem dX10_tellsUnlikeCells_21 : decode cX10_tellsUnlikeCells 21 = .ok (.iload_n 3, 1) := by decide +kernel
theorem dX10_tellsUnlikeCells_22 : decode cX10_tellsUnlikeCells 22 = .ok (.invokevirtual 95, 3) := by decide +kernel
theorem dX10_tellsUnlikeCells_25 : decode cX10_tellsUnlikeCells 25 = .ok (.istore 4, 2) := by decide +kernel
theorem dX10_tellsUnlikeCells_27 : decode cX10_tellsUnlikeCells 27 = .ok (.aload_n 0, 1) := by decide +kernel
theorem dX10_tellsUnlikeCells_28 : decode cX10_tellsUnlikeCells 28 = .ok (.getfield 40, 3) := by decide +kernel
theorem dX10_tellsUnlikeCells_31 : decode cX10_tellsUnlikeCells 31 = .ok (.iload 4, 2) := by decide +kernel
theorem dX10_tellsUnlikeCells_33 : decode cX10_tellsUnlikeCells 33 = .ok (.invokevirtual 165, 3) := by decide +kernel
theorem dX10_tellsUnlikeCells_36 : decode cX10_tellsUnlikeCells 36 = .ok (.ifCond .eq 13, 3) := by decide +kernel
theorem dX10_tellsUnlikeCells_39 : decode cX10_tellsUnlikeCells 39 = .ok (.iload_n 2, 1) := by decide +kernel
theorem dX10_tellsUnlikeCells_40 : decode cX10_tellsUnlikeCells 40 = .ok (.iload 4, 2) := by decide +kernel
theorem dX10_tellsUnlikeCells_42 : decode cX10_tellsUnlikeCells 42 = .ok (.ishr, 1) := by decide +kernel
theorem dX10_tellsUnlikeCells_43 : decode cX10_tellsUnlikeCells 43 = .ok (.iconst 1, 1) := by decide +kernel
theorem dX10_tellsUnlikeCells_44 : decode cX10_tellsUnlikeCells 44 = .ok (.iand, 1) := by decide +kernel
theorem dX10_tellsUnlikeCells_45 : decode cX10_tellsUnlikeCells 45 = .ok (.iconst 1, 1) := by decide +kernel
theorem dX10_tellsUnlikeCells_46 : decode cX10_tellsUnlikeCells 46 = .ok (.if_icmp .ne 5, 3) := by decide +kernel
theorem dX10_tellsUnlikeCells_49 : decode cX10_tellsUnlikeCells 49 = .ok (.iconst 0, 1) := by decide +kernel
theorem dX10_tellsUnlikeCells_50 : decode cX10_tellsUnlikeCells 50 = .ok (.ireturn, 1) := by decide +kernel
theorem dX10_tellsUnlikeCells_51 : decode cX10_tellsUnlikeCells 51 = .ok (.iload_n 2, 1) := by decide +kernel
theorem dX10_tellsUnlikeCells_52 : decode cX10_tellsUnlikeCells 52 = .ok (.iconst 1, 1) := by decide +kernel
theorem dX10_tellsUnlikeCells_53 : decode cX10_tellsUnlikeCells 53 = .ok (.iload 4, 2) := by decide +kernel
theorem dX10_tellsUnlikeCells_55 : decode cX10_tellsUnlikeCells 55 = .ok (.ishl, 1) := by decide +kernel
theorem dX10_tellsUnlikeCells_56 : decode cX10_tellsUnlikeCells 56 = .ok (.ior, 1) := by decide +kernel
theorem dX10_tellsUnlikeCells_57 : decode cX10_tellsUnlikeCells 57 = .ok (.istore_n 2, 1) := by decide +kernel
theorem dX10_tellsUnlikeCells_58 : decode cX10_tellsUnlikeCells 58 = .ok (.iinc 3 1, 3) := by decide +kernel
theorem dX10_tellsUnlikeCells_61 : decode cX10_tellsUnlikeCells 61 = .ok (.goto (-57), 3) := by decide +kernel
theorem dX10_tellsUnlikeCells_64 : decode cX10_tellsUnlikeCells 64 = .ok (.iconst 1, 1) := by decide +kernel
theorem dX10_tellsUnlikeCells_65 : decode cX10_tellsUnlikeCells 65 = .ok (.ireturn, 1) := by decide +kernel
set_option maxRecDepth 20000 in
theorem ggX10_letRowOut_X6_sizeOf : GoodIn wsX10_letRowOut wsX6_sizeOf := goodIn_r _ [8, 9, 10, 11, 12, 7, 13, 80, 81] (by decide +kernel) (by decide +kernel)
set_option maxRecDepth 20000 in
theorem gX10_letRowOut_X6_sizeOf : GoodIn wsX10_letRowOut (wsV RX10 123 RX6 yX6_sizeOf wsX6_sizeOf) := goodIn_app (goodIn_of _ (by decide +kernel)) ggX10_letRowOut_X6_sizeOf
set_option maxRecDepth 20000 in
theorem ggX10_letRowOut_X6_get : GoodIn wsX10_letRowOut wsX6_get := goodIn_r _ [17, 18, 19, 20, 21, 7, 22, 23, 5, 6, 8, 9, 10, 11, 12, 13, 80, 81] (by decide +kernel) (by decide +kernel)
set_option maxRecDepth 20000 in
theorem gX10_letRowOut_X6_get : GoodIn wsX10_letRowOut (wsV RX10 95 RX6 yX6_get wsX6_get) := goodIn_app (goodIn_of _ (by decide +kernel)) ggX10_letRowOut_X6_get
set_option maxRecDepth 20000 in
theorem ggX10_letRowOut_X2_everyone : GoodIn wsX10_letRowOut wsX2_everyone := goodIn_r _ [28, 29, 82, 83, 84, 85, 86, 87, 88, 89] (by decide +kernel) (by decide +kernel)
set_option maxRecDepth 20000 in
theorem gX10_letRowOut_X2_everyone : GoodIn wsX10_letRowOut (wsV RX10 201 RX2 yX2_everyone wsX2_everyone) := goodIn_app (goodIn_of _ (by decide +kernel)) ggX10_letRowOut_X2_everyone
set_option maxRecDepth 20000 in
theorem ggX10_letRowOut_X2_favoursFor : GoodIn wsX10_letRowOut wsX2_favoursFor := goodIn_r _ [33, 34, 35, 36, 37, 38, 39, 40, 27, 41, 29, 42, 43, 44, 45, 46, 47, 48, 49, 50, 51, 52, 53, 54, 55, 56, 57, 58, 59, 60, 61, 62, 63, 82, 83, 84, 85, 86, 87, 88, 89] (by decide +kernel) (by decide +kernel)
set_option maxRecDepth 20000 in
theorem gX10_letRowOut_X2_favoursFor : GoodIn wsX10_letRowOut (wsV RX10 204 RX2 yX2_favoursFor wsX2_favoursFor) := goodIn_app (goodIn_of _ (by decide +kernel)) ggX10_letRowOut_X2_favoursFor
set_option maxRecDepth 20000 in
theorem ggX10_letRowOut_X9_tell : GoodIn wsX10_letRowOut wsX9_tell := goodIn_r _ [68, 69, 90, 91, 92, 93, 94] (by decide +kernel) (by decide +kernel)
set_option maxRecDepth 20000 in
theorem gX10_letRowOut_X9_tell : GoodIn wsX10_letRowOut (wsV RX10 98 RX9 yX9_tell wsX9_tell) := goodIn_app (goodIn_of _ (by decide +kernel)) ggX10_letRowOut_X9_tell
theorem dX10_letRowOut_0 : decode cX10_letRowOut 0 = .ok (.iconst 0, 1) := by decide +kernel
theorem dX10_letRowOut_1 : decode cX10_letRowOut 1 = .ok (.istore_n 2, 1) := by decide +kernel
theorem dX10_letRowOut_2 : decode cX10_letRowOut 2 = .ok (.iconst 0, 1) := by decide +kernel
theorem dX10_letRowOut_3 : decode cX10_letRowOut 3 = .ok (.istore_n 3, 1) := by decide +kernel
theorem dX10_letRowOut_4 : decode cX10_letRowOut 4 = .ok (.iconst 0, 1) := by decide +kernel
theorem dX10_letRowOut_5 : decode cX10_letRowOut 5 = .ok (.istore 4, 2) := by decide +kernel
theorem dX10_letRowOut_7 : decode cX10_letRowOut 7 = .ok (.iconst 0, 1) := by decide +kernel
theorem dX10_letRowOut_8 : decode cX10_letRowOut 8 = .ok (.istore 5, 2) := by decide +kernel
theorem dX10_letRowOut_10 : decode cX10_letRowOut 10 = .ok (.iload 5, 2) := by decide +kernel
theorem dX10_letRowOut_12 : decode cX10_letRowOut 12 = .ok (.aload_n 0, 1) := by decide +kernel
theorem dX10_letRowOut_13 : decode cX10_letRowOut 13 = .ok (.getfield 19, 3) := by decide +kernel
theorem dX10_letRowOut_16 : decode cX10_letRowOut 16 = .ok (.iload_n 1, 1) := by decide +kernel
theorem dX10_letRowOut_17 : decode cX10_letRowOut 17 = .ok (.invokevirtual 123, 3) := by decide +kernel
theorem dX10_letRowOut_20 : decode cX10_letRowOut 20 = .ok (.if_icmp .ge 63, 3) := by decide +kernel
theorem dX10_letRowOut_23 : decode cX10_letRowOut 23 = .ok (.aload_n 0, 1) := by decide +kernel
theorem dX10_letRowOut_24 : decode cX10_letRowOut 24 = .ok (.getfield 19, 3) := by decide +kernel
theorem dX10_letRowOut_27 : decode cX10_letRowOut 27 = .ok (.iload_n 1, 1) := by decide +kernel
theorem dX10_letRowOut_28 : decode cX10_letRowOut 28 = .ok (.iload 5, 2) := by decide +kernel
theorem dX10_letRowOut_30 : decode cX10_letRowOut 30 = .ok (.invokevirtual 95, 3) := by decide +kernel
theorem dX10_letRowOut_33 : decode cX10_letRowOut 33 = .ok (.istore 6, 2) := by decide +kernel
theorem dX10_letRowOut_35 : decode cX10_letRowOut 35 = .ok (.aload_n 0, 1) := by decide +kernel
theorem dX10_letRowOut_36 : decode cX10_letRowOut 36 = .ok (.getfield 40, 3) := by decide +kernel
theorem dX10_letRowOut_39 : decode cX10_letRowOut 39 = .ok (.iload 6, 2) := by decide +kernel
theorem dX10_letRowOut_41 : decode cX10_letRowOut 41 = .ok (.iload_n 2, 1) := by decide +kernel
theorem dX10_letRowOut_42 : decode cX10_letRowOut 42 = .ok (.aload_n 0, 1) := by decide +kernel
theorem dX10_letRowOut_43 : decode cX10_letRowOut 43 = .ok (.getfield 40, 3) := by decide +kernel
theorem dX10_letRowOut_46 : decode cX10_letRowOut 46 = .ok (.invokevirtual 201, 3) := by decide +kernel
theorem dX10_letRowOut_49 : decode cX10_letRowOut 49 = .ok (.invokevirtual 204, 3) := by decide +kernel
theorem dX10_letRowOut_52 : decode cX10_letRowOut 52 = .ok (.istore 7, 2) := by decide +kernel
theorem dX10_letRowOut_54 : decode cX10_letRowOut 54 = .ok (.iload 7, 2) := by decide +kernel
theorem dX10_letRowOut_56 : decode cX10_letRowOut 56 = .ok (.ifCond .ge 6, 3) := by decide +kernel
theorem dX10_letRowOut_59 : decode cX10_letRowOut 59 = .ok (.goto 24, 3) := by decide +kernel
theorem dX10_letRowOut_62 : decode cX10_letRowOut 62 = .ok (.iload_n 2, 1) := by decide +kernel
theorem dX10_letRowOut_63 : decode cX10_letRowOut 63 = .ok (.iconst 1, 1) := by decide +kernel
theorem dX10_letRowOut_64 : decode cX10_letRowOut 64 = .ok (.iload 6, 2) := by decide +kernel
theorem dX10_letRowOut_66 : decode cX10_letRowOut 66 = .ok (.ishl, 1) := by decide +kernel
theorem dX10_letRowOut_67 : decode cX10_letRowOut 67 = .ok (.ior, 1) := by decide +kernel
theorem dX10_letRowOut_68 : decode cX10_letRowOut 68 = .ok (.istore_n 2, 1) := by decide +kernel
theorem dX10_letRowOut_69 : decode cX10_letRowOut 69 = .ok (.iload_n 3, 1) := by decide +kernel
theorem dX10_letRowOut_70 : decode cX10_letRowOut 70 = .ok (.iload 7, 2) := by decide +kernel
theorem dX10_letRowOut_72 : decode cX10_letRowOut 72 = .ok (.iadd, 1) := by decide +kernel
theorem dX10_letRowOut_73 : decode cX10_letRowOut 73 = .ok (.istore_n 3, 1) := by decide +kernel
theorem dX10_letRowOut_74 : decode cX10_letRowOut 74 = .ok (.iinc 4 1, 3) := by decide +kernel
theorem dX10_letRowOut_77 : decode cX10_letRowOut 77 = .ok (.iinc 5 1, 3) := by decide +kernel
theorem dX10_letRowOut_80 : decode cX10_letRowOut 80 = .ok (.goto (-70), 3) := by decide +kernel
theorem dX10_letRowOut_83 : decode cX10_letRowOut 83 = .ok (.aload_n 0, 1) := by decide +kernel
theorem dX10_letRowOut_84 : decode cX10_letRowOut 84 = .ok (.getfield 10, 3) := by decide +kernel
theorem dX10_letRowOut_87 : decode cX10_letRowOut 87 = .ok (.iload_n 3, 1) := by decide +kernel
theorem dX10_letRowOut_88 : decode cX10_letRowOut 88 = .ok (.invokevirtual 98, 3) := by decide +kernel
theorem dX10_letRowOut_91 : decode cX10_letRowOut 91 = .ok (.iload 4, 2) := by decide +kernel
theorem dX10_letRowOut_93 : decode cX10_letRowOut 93 = .ok (.ireturn, 1) := by decide +kernel
theorem dX11_init_0 : decode cX11_init 0 = .ok (.aload_n 0, 1) := by decide +kernel
theorem dX11_init_1 : decode cX11_init 1 = .ok (.invokespecial 1, 3) := by decide +kernel
theorem dX11_init_4 : decode cX11_init 4 = .ok (.aload_n 0, 1) := by decide +kernel
theorem dX11_init_5 : decode cX11_init 5 = .ok (.bipush 6, 2) := by decide +kernel
theorem dX11_init_7 : decode cX11_init 7 = .ok (.newarray .int, 2) := by decide +kernel
theorem dX11_init_9 : decode cX11_init 9 = .ok (.putfield 7, 3) := by decide +kernel
theorem dX11_init_12 : decode cX11_init 12 = .ok (.aload_n 0, 1) := by decide +kernel
theorem dX11_init_13 : decode cX11_init 13 = .ok (.bipush 6, 2) := by decide +kernel
theorem dX11_init_15 : decode cX11_init 15 = .ok (.newarray .int, 2) := by decide +kernel
theorem dX11_init_17 : decode cX11_init 17 = .ok (.putfield 13, 3) := by decide +kernel
theorem dX11_init_20 : decode cX11_init 20 = .ok (.aload_n 0, 1) := by decide +kernel
theorem dX11_init_21 : decode cX11_init 21 = .ok (.sipush 360, 3) := by decide +kernel
theorem dX11_init_24 : decode cX11_init 24 = .ok (.newarray .int, 2) := by decide +kernel
theorem dX11_init_26 : decode cX11_init 26 = .ok (.putfield 16, 3) := by decide +kernel
theorem dX11_init_29 : decode cX11_init 29 = .ok (.aload_n 0, 1) := by decide +kernel
theorem dX11_init_30 : decode cX11_init 30 = .ok (.bipush 60, 2) := by decide +kernel
theorem dX11_init_32 : decode cX11_init 32 = .ok (.newarray .int, 2) := by decide +kernel
theorem dX11_init_34 : decode cX11_init 34 = .ok (.putfield 19, 3) := by decide +kernel
theorem dX11_init_37 : decode cX11_init 37 = .ok (.aload_n 0, 1) := by decide +kernel
theorem dX11_init_38 : decode cX11_init 38 = .ok (.iconst 4, 1) := by decide +kernel
theorem dX11_init_39 : decode cX11_init 39 = .ok (.newarray .int, 2) := by decide +kernel
theorem dX11_init_41 : decode cX11_init 41 = .ok (.putfield 22, 3) := by decide +kernel
theorem dX11_init_44 : decode cX11_init 44 = .ok (.aload_n 0, 1) := by decide +kernel
theorem dX11_init_45 : decode cX11_init 45 = .ok (.sipush 400, 3) := by decide +kernel
theorem dX11_init_48 : decode cX11_init 48 = .ok (.newarray .byte, 2) := by decide +kernel
theorem dX11_init_50 : decode cX11_init 50 = .ok (.putfield 25, 3) := by decide +kernel
theorem dX11_init_53 : decode cX11_init 53 = .ok (.aload_n 0, 1) := by decide +kernel
theorem dX11_init_54 : decode cX11_init 54 = .ok (.bipush 32, 2) := by decide +kernel
theorem dX11_init_56 : decode cX11_init 56 = .ok (.newarray .int, 2) := by decide +kernel
theorem dX11_init_58 : decode cX11_init 58 = .ok (.putfield 29, 3) := by decide +kernel
theorem dX11_init_61 : decode cX11_init 61 = .ok (.aload_n 0, 1) := by decide +kernel
theorem dX11_init_62 : decode cX11_init 62 = .ok (.bipush 8, 2) := by decide +kernel
theorem dX11_init_64 : decode cX11_init 64 = .ok (.newarray .int, 2) := by decide +kernel
theorem dX11_init_66 : decode cX11_init 66 = .ok (.putfield 32, 3) := by decide +kernel
theorem dX11_init_69 : decode cX11_init 69 = .ok (.aload_n 0, 1) := by decide +kernel
theorem dX11_init_70 : decode cX11_init 70 = .ok (.bipush 32, 2) := by decide +kernel
theorem dX11_init_72 : decode cX11_init 72 = .ok (.newarray .int, 2) := by decide +kernel
theorem dX11_init_74 : decode cX11_init 74 = .ok (.putfield 35, 3) := by decide +kernel
theorem dX11_init_77 : decode cX11_init 77 = .ok (.aload_n 0, 1) := by decide +kernel
theorem dX11_init_78 : decode cX11_init 78 = .ok (.bipush 8, 2) := by decide +kernel
theorem dX11_init_80 : decode cX11_init 80 = .ok (.newarray .int, 2) := by decide +kernel
theorem dX11_init_82 : decode cX11_init 82 = .ok (.putfield 38, 3) := by decide +kernel
theorem dX11_init_85 : decode cX11_init 85 = .ok (.aload_n 0, 1) := by decide +kernel
theorem dX11_init_86 : decode cX11_init 86 = .ok (.iconst 3, 1) := by decide +kernel
theorem dX11_init_87 : decode cX11_init 87 = .ok (.newarray .int, 2) := by decide +kernel
theorem dX11_init_89 : decode cX11_init 89 = .ok (.putfield 41, 3) := by decide +kernel
theorem dX11_init_92 : decode cX11_init 92 = .ok (.aload_n 0, 1) := by decide +kernel
theorem dX11_init_93 : decode cX11_init 93 = .ok (.iconst 3, 1) := by decide +kernel
theorem dX11_init_94 : decode cX11_init 94 = .ok (.newarray .int, 2) := by decide +kernel
theorem dX11_init_96 : decode cX11_init 96 = .ok (.putfield 44, 3) := by decide +kernel
theorem dX11_init_99 : decode cX11_init 99 = .ok (.aload_n 0, 1) := by decide +kernel
theorem dX11_init_100 : decode cX11_init 100 = .ok (.sipush 256, 3) := by decide +kernel
theorem dX11_init_103 : decode cX11_init 103 = .ok (.newarray .int, 2) := by decide +kernel
theorem dX11_init_105 : decode cX11_init 105 = .ok (.putfield 47, 3) := by decide +kernel
theorem dX11_init_108 : decode cX11_init 108 = .ok (.aload_n 0, 1) := by decide +kernel
theorem dX11_init_109 : decode cX11_init 109 = .ok (.sipush 256, 3) := by decide +kernel
theorem dX11_init_112 : decode cX11_init 112 = .ok (.newarray .int, 2) := by decide +kernel
theorem dX11_init_114 : decode cX11_init 114 = .ok (.putfield 50, 3) := by decide +kernel
theorem dX11_init_117 : decode cX11_init 117 = .ok (.aload_n 0, 1) := by decide +kernel
theorem dX11_init_118 : decode cX11_init 118 = .ok (.sipush 256, 3) := by decide +kernel
theorem dX11_init_121 : decode cX11_init 121 = .ok (.newarray .int, 2) := by decide +kernel
theorem dX11_init_123 : decode cX11_init 123 = .ok (.putfield 53, 3) := by decide +kernel
theorem dX11_init_126 : decode cX11_init 126 = .ok (.aload_n 0, 1) := by decide +kernel
theorem dX11_init_127 : decode cX11_init 127 = .ok (.bipush 8, 2) := by decide +kernel
theorem dX11_init_129 : decode cX11_init 129 = .ok (.newarray .int, 2) := by decide +kernel
theorem dX11_init_131 : decode cX11_init 131 = .ok (.putfield 56, 3) := by decide +kernel
theorem dX11_init_134 : decode cX11_init 134 = .ok (.aload_n 0, 1) := by decide +kernel
theorem dX11_init_135 : decode cX11_init 135 = .ok (.bipush 8, 2) := by decide +kernel
theorem dX11_init_137 : decode cX11_init 137 = .ok (.newarray .int, 2) := by decide +kernel
theorem dX11_init_139 : decode cX11_init 139 = .ok (.putfield 59, 3) := by decide +kernel
theorem dX11_init_142 : decode cX11_init 142 = .ok (.aload_n 0, 1) := by decide +kernel
theorem dX11_init_143 : decode cX11_init 143 = .ok (.bipush 8, 2) := by decide +kernel
theorem dX11_init_145 : decode cX11_init 145 = .ok (.newarray .int, 2) := by decide +kernel
theorem dX11_init_147 : decode cX11_init 147 = .ok (.putfield 62, 3) := by decide +kernel
theorem dX11_init_150 : decode cX11_init 150 = .ok (.aload_n 0, 1) := by decide +kernel
theorem dX11_init_151 : decode cX11_init 151 = .ok (.bipush 8, 2) := by decide +kernel
theorem dX11_init_153 : decode cX11_init 153 = .ok (.newarray .int, 2) := by decide +kernel
theorem dX11_init_155 : decode cX11_init 155 = .ok (.putfield 65, 3) := by decide +kernel
theorem dX11_init_158 : decode cX11_init 158 = .ok (.aload_n 0, 1) := by decide +kernel
theorem dX11_init_159 : decode cX11_init 159 = .ok (.lconst 1, 1) := by decide +kernel
theorem dX11_init_160 : decode cX11_init 160 = .ok (.putfield 68, 3) := by decide +kernel
theorem dX11_init_163 : decode cX11_init 163 = .ok (.iconst 0, 1) := by decide +kernel
theorem dX11_init_164 : decode cX11_init 164 = .ok (.istore_n 1, 1) := by decide +kernel
theorem dX11_init_165 : decode cX11_init 165 = .ok (.iload_n 1, 1) := by decide +kernel
theorem dX11_init_166 : decode cX11_init 166 = .ok (.bipush 6, 2) := by decide +kernel
theorem dX11_init_168 : decode cX11_init 168 = .ok (.if_icmp .ge 16, 3) := by decide +kernel
theorem dX11_init_171 : decode cX11_init 171 = .ok (.aload_n 0, 1) := by decide +kernel
theorem dX11_init_172 : decode cX11_init 172 = .ok (.getfield 13, 3) := by decide +kernel
theorem dX11_init_175 : decode cX11_init 175 = .ok (.iload_n 1, 1) := by decide +kernel
theorem dX11_init_176 : decode cX11_init 176 = .ok (.iconst (-1), 1) := by decide +kernel
theorem dX11_init_177 : decode cX11_init 177 = .ok (.iastore, 1) := by decide +kernel
theorem dX11_init_178 : decode cX11_init 178 = .ok (.iinc 1 1, 3) := by decide +kernel
theorem dX11_init_181 : decode cX11_init 181 = .ok (.goto (-16), 3) := by decide +kernel
theorem dX11_init_184 : decode cX11_init 184 = .ok (.iconst 0, 1) := by decide +kernel
theorem dX11_init_185 : decode cX11_init 185 = .ok (.istore_n 1, 1) := by decide +kernel
theorem dX11_init_186 : decode cX11_init 186 = .ok (.iload_n 1, 1) := by decide +kernel
theorem dX11_init_187 : decode cX11_init 187 = .ok (.iconst 4, 1) := by decide +kernel
theorem dX11_init_188 : decode cX11_init 188 = .ok (.if_icmp .ge 16, 3) := by decide +kernel
theorem dX11_init_191 : decode cX11_init 191 = .ok (.aload_n 0, 1) := by decide +kernel
theorem dX11_init_192 : decode cX11_init 192 = .ok (.getfield 22, 3) := by decide +kernel
theorem dX11_init_195 : decode cX11_init 195 = .ok (.iload_n 1, 1) := by decide +kernel
theorem dX11_init_196 : decode cX11_init 196 = .ok (.iconst (-1), 1) := by decide +kernel
theorem dX11_init_197 : decode cX11_init 197 = .ok (.iastore, 1) := by decide +kernel
theorem dX11_init_198 : decode cX11_init 198 = .ok (.iinc 1 1, 3) := by decide +kernel
theorem dX11_init_201 : decode cX11_init 201 = .ok (.goto (-15), 3) := by decide +kernel
theorem dX11_init_204 : decode cX11_init 204 = .ok (.iconst 0, 1) := by decide +kernel
theorem dX11_init_205 : decode cX11_init 205 = .ok (.istore_n 1, 1) := by decide +kernel
theorem dX11_init_206 : decode cX11_init 206 = .ok (.iload_n 1, 1) := by decide +kernel
theorem dX11_init_207 : decode cX11_init 207 = .ok (.iconst 3, 1) := by decide +kernel
theorem dX11_init_208 : decode cX11_init 208 = .ok (.if_icmp .ge 16, 3) := by decide +kernel
theorem dX11_init_211 : decode cX11_init 211 = .ok (.aload_n 0, 1) := by decide +kernel
theorem dX11_init_212 : decode cX11_init 212 = .ok (.getfield 41, 3) := by decide +kernel
theorem dX11_init_215 : decode cX11_init 215 = .ok (.iload_n 1, 1) := by decide +kernel
theorem dX11_init_216 : decode cX11_init 216 = .ok (.iconst (-1), 1) := by decide +kernel
theorem dX11_init_217 : decode cX11_init 217 = .ok (.iastore, 1) := by decide +kernel
theorem dX11_init_218 : decode cX11_init 218 = .ok (.iinc 1 1, 3) := by decide +kernel
theorem dX11_init_221 : decode cX11_init 221 = .ok (.goto (-15), 3) := by decide +kernel
theorem dX11_init_224 : decode cX11_init 224 = .ok (.return_, 1) := by decide +kernel
theorem dX11_in_0 : decode cX11_in 0 = .ok (.iload_n 0, 1) := by decide +kernel
theorem dX11_in_1 : decode cX11_in 1 = .ok (.iload_n 1, 1) := by decide +kernel
theorem dX11_in_2 : decode cX11_in 2 = .ok (.if_icmp .lt 12, 3) := by decide +kernel
theorem dX11_in_5 : decode cX11_in 5 = .ok (.iload_n 0, 1) := by decide +kernel
theorem dX11_in_6 : decode cX11_in 6 = .ok (.iload_n 2, 1) := by decide +kernel
theorem dX11_in_7 : decode cX11_in 7 = .ok (.if_icmp .gt 7, 3) := by decide +kernel
theorem dX11_in_10 : decode cX11_in 10 = .ok (.iconst 1, 1) := by decide +kernel
theorem dX11_in_11 : decode cX11_in 11 = .ok (.goto 4, 3) := by decide +kernel
theorem dX11_in_14 : decode cX11_in 14 = .ok (.iconst 0, 1) := by decide +kernel
theorem dX11_in_15 : decode cX11_in 15 = .ok (.ireturn, 1) := by decide +kernel
theorem dX11_has_0 : decode cX11_has 0 = .ok (.iload_n 0, 1) := by decide +kernel
theorem dX11_has_1 : decode cX11_has 1 = .ok (.iload_n 1, 1) := by decide +kernel
theorem dX11_has_2 : decode cX11_has 2 = .ok (.ishr, 1) := by decide +kernel
theorem dX11_has_3 : decode cX11_has 3 = .ok (.iconst 1, 1) := by decide +kernel
theorem dX11_has_4 : decode cX11_has 4 = .ok (.iand, 1) := by decide +kernel
theorem dX11_has_5 : decode cX11_has 5 = .ok (.iconst 1, 1) := by decide +kernel
theorem dX11_has_6 : decode cX11_has 6 = .ok (.if_icmp .ne 7, 3) := by decide +kernel
theorem dX11_has_9 : decode cX11_has 9 = .ok (.iconst 1, 1) := by decide +kernel
theorem dX11_has_10 : decode cX11_has 10 = .ok (.goto 4, 3) := by decide +kernel
theorem dX11_has_13 : decode cX11_has 13 = .ok (.iconst 0, 1) := by decide +kernel
theorem dX11_has_14 : decode cX11_has 14 = .ok (.ireturn, 1) := by decide +kernel
theorem dX11_bits_0 : decode cX11_bits 0 = .ok (.iconst 0, 1) := by decide +kernel
theorem dX11_bits_1 : decode cX11_bits 1 = .ok (.istore_n 1, 1) := by decide +kernel
theorem dX11_bits_2 : decode cX11_bits 2 = .ok (.iload_n 0, 1) := by decide +kernel
theorem dX11_bits_3 : decode cX11_bits 3 = .ok (.istore_n 2, 1) := by decide +kernel
theorem dX11_bits_4 : decode cX11_bits 4 = .ok (.iload_n 2, 1) := by decide +kernel
theorem dX11_bits_5 : decode cX11_bits 5 = .ok (.ifCond .eq 15, 3) := by decide +kernel
theorem dX11_bits_8 : decode cX11_bits 8 = .ok (.iinc 1 1, 3) := by decide +kernel
theorem dX11_bits_11 : decode cX11_bits 11 = .ok (.iload_n 2, 1) := by decide +kernel
theorem dX11_bits_12 : decode cX11_bits 12 = .ok (.iload_n 2, 1) := by decide +kernel
theorem dX11_bits_13 : decode cX11_bits 13 = .ok (.iconst 1, 1) := by decide +kernel
theorem dX11_bits_14 : decode cX11_bits 14 = .ok (.isub, 1) := by decide +kernel
theorem dX11_bits_15 : decode cX11_bits 15 = .ok (.iand, 1) := by decide +kernel
theorem dX11_bits_16 : decode cX11_bits 16 = .ok (.istore_n 2, 1) := by decide +kernel
theorem dX11_bits_17 : decode cX11_bits 17 = .ok (.goto (-13), 3) := by decide +kernel
theorem dX11_bits_20 : decode cX11_bits 20 = .ok (.iload_n 1, 1) := by decide +kernel
theorem dX11_bits_21 : decode cX11_bits 21 = .ok (.ireturn, 1) := by decide +kernel
theorem dX11_lesser_0 : decode cX11_lesser 0 = .ok (.iload_n 0, 1) := by decide +kernel
theorem dX11_lesser_1 : decode cX11_lesser 1 = .ok (.iload_n 1, 1) := by decide +kernel
theorem dX11_lesser_2 : decode cX11_lesser 2 = .ok (.if_icmp .ge 7, 3) := by decide +kernel
theorem dX11_lesser_5 : decode cX11_lesser 5 = .ok (.iload_n 0, 1) := by decide +kernel
theorem dX11_lesser_6 : decode cX11_lesser 6 = .ok (.goto 4, 3) := by decide +kernel
theorem dX11_lesser_9 : decode cX11_lesser 9 = .ok (.iload_n 1, 1) := by decide +kernel
theorem dX11_lesser_10 : decode cX11_lesser 10 = .ok (.ireturn, 1) := by decide +kernel
theorem dX11_greater_0 : decode cX11_greater 0 = .ok (.iload_n 0, 1) := by decide +kernel
theorem dX11_greater_1 : decode cX11_greater 1 = .ok (.iload_n 1, 1) := by decide +kernel
theorem dX11_greater_2 : decode cX11_greater 2 = .ok (.if_icmp .le 7, 3) := by decide +kernel
theorem dX11_greater_5 : decode cX11_greater 5 = .ok (.iload_n 0, 1) := by decide +kernel
theorem dX11_greater_6 : decode cX11_greater 6 = .ok (.goto 4, 3) := by decide +kernel
theorem dX11_greater_9 : decode cX11_greater 9 = .ok (.iload_n 1, 1) := by decide +kernel
theorem dX11_greater_10 : decode cX11_greater 10 = .ok (.ireturn, 1) := by decide +kernel
theorem dX11_far_0 : decode cX11_far 0 = .ok (.iload_n 0, 1) := by decide +kernel
theorem dX11_far_1 : decode cX11_far 1 = .ok (.iload_n 1, 1) := by decide +kernel
theorem dX11_far_2 : decode cX11_far 2 = .ok (.if_icmp .ge 9, 3) := by decide +kernel
theorem dX11_far_5 : decode cX11_far 5 = .ok (.iload_n 1, 1) := by decide +kernel
theorem dX11_far_6 : decode cX11_far 6 = .ok (.iload_n 0, 1) := by decide +kernel
theorem dX11_far_7 : decode cX11_far 7 = .ok (.isub, 1) := by decide +kernel
theorem dX11_far_8 : decode cX11_far 8 = .ok (.goto 6, 3) := by decide +kernel
theorem dX11_far_11 : decode cX11_far 11 = .ok (.iload_n 0, 1) := by decide +kernel
theorem dX11_far_12 : decode cX11_far 12 = .ok (.iload_n 1, 1) := by decide +kernel
theorem dX11_far_13 : decode cX11_far 13 = .ok (.isub, 1) := by decide +kernel
theorem dX11_far_14 : decode cX11_far 14 = .ok (.ireturn, 1) := by decide +kernel
theorem dX11_meets_0 : decode cX11_meets 0 = .ok (.aload_n 0, 1) := by decide +kernel
theorem dX11_meets_1 : decode cX11_meets 1 = .ok (.iload_n 1, 1) := by decide +kernel
theorem dX11_meets_2 : decode cX11_meets 2 = .ok (.putfield 72, 3) := by decide +kernel
theorem dX11_meets_5 : decode cX11_meets 5 = .ok (.aload_n 0, 1) := by decide +kernel
theorem dX11_meets_6 : decode cX11_meets 6 = .ok (.getfield 7, 3) := by decide +kernel
theorem dX11_meets_9 : decode cX11_meets 9 = .ok (.iload_n 1, 1) := by decide +kernel
theorem dX11_meets_10 : decode cX11_meets 10 = .ok (.dup2, 1) := by decide +kernel
theorem dX11_meets_11 : decode cX11_meets 11 = .ok (.iaload, 1) := by decide +kernel
theorem dX11_meets_12 : decode cX11_meets 12 = .ok (.iconst 1, 1) := by decide +kernel
theorem dX11_meets_13 : decode cX11_meets 13 = .ok (.iadd, 1) := by decide +kernel
theorem dX11_meets_14 : decode cX11_meets 14 = .ok (.iastore, 1) := by decide +kernel
theorem dX11_meets_15 : decode cX11_meets 15 = .ok (.bipush (-3), 2) := by decide +kernel
theorem dX11_meets_17 : decode cX11_meets 17 = .ok (.ireturn, 1) := by decide +kernel
theorem dX11_finding_0 : decode cX11_finding 0 = .ok (.aload_n 0, 1) := by decide +kernel
theorem dX11_finding_1 : decode cX11_finding 1 = .ok (.getfield 72, 3) := by decide +kernel
theorem dX11_finding_4 : decode cX11_finding 4 = .ok (.ireturn, 1) := by decide +kernel
set_option maxRecDepth 20000 in
theorem ggX11_findings_X11_in : GoodIn wsX11_findings wsX11_in := goodIn_r _ [5] (by decide +kernel) (by decide +kernel)
set_option maxRecDepth 20000 in
theorem gX11_findings_X11_in : GoodIn wsX11_findings (va_wsS RX11 76 yX11_in wsX11_in) := goodIn_app (goodIn_of _ (by decide +kernel)) ggX11_findings_X11_in
theorem dX11_findings_0 : decode cX11_findings 0 = .ok (.iload_n 1, 1) := by decide +kernel
theorem dX11_findings_1 : decode cX11_findings 1 = .ok (.iconst 1, 1) := by decide +kernel
theorem dX11_findings_2 : decode cX11_findings 2 = .ok (.iconst 5, 1) := by decide +kernel
theorem dX11_findings_3 : decode cX11_findings 3 = .ok (.invokestatic 76, 3) := by decide +kernel
theorem dX11_findings_6 : decode cX11_findings 6 = .ok (.ifCond .eq 12, 3) := by decide +kernel
theorem dX11_findings_9 : decode cX11_findings 9 = .ok (.aload_n 0, 1) := by decide +kernel
theorem dX11_findings_10 : decode cX11_findings 10 = .ok (.getfield 7, 3) := by decide +kernel
theorem dX11_findings_13 : decode cX11_findings 13 = .ok (.iload_n 1, 1) := by decide +kernel
theorem dX11_findings_14 : decode cX11_findings 14 = .ok (.iaload, 1) := by decide +kernel
theorem dX11_findings_15 : decode cX11_findings 15 = .ok (.goto 4, 3) := by decide +kernel
theorem dX11_findings_18 : decode cX11_findings 18 = .ok (.iconst (-1), 1) := by decide +kernel
theorem dX11_findings_19 : decode cX11_findings 19 = .ok (.ireturn, 1) := by decide +kernel
theorem dX11_tells_0 : decode cX11_tells 0 = .ok (.aload_n 0, 1) := by decide +kernel
theorem dX11_tells_1 : decode cX11_tells 1 = .ok (.iload_n 1, 1) := by decide +kernel
theorem dX11_tells_2 : decode cX11_tells 2 = .ok (.putfield 80, 3) := by decide +kernel
theorem dX11_tells_5 : decode cX11_tells 5 = .ok (.iload_n 2, 1) := by decide +kernel
theorem dX11_tells_6 : decode cX11_tells 6 = .ok (.ireturn, 1) := by decide +kernel
theorem dX11_asked_0 : decode cX11_asked 0 = .ok (.aload_n 0, 1) := by decide +kernel
theorem dX11_asked_1 : decode cX11_asked 1 = .ok (.getfield 80, 3) := by decide +kernel
theorem dX11_asked_4 : decode cX11_asked 4 = .ok (.ireturn, 1) := by decide +kernel
theorem dX11_fraction_0 : decode cX11_fraction 0 = .ok (.lload_n 1, 1) := by decide +kernel
theorem dX11_fraction_1 : decode cX11_fraction 1 = .ok (.lstore 6, 2) := by decide +kernel
theorem dX11_fraction_3 : decode cX11_fraction 3 = .ok (.lload_n 3, 1) := by decide +kernel
theorem dX11_fraction_4 : decode cX11_fraction 4 = .ok (.lstore 8, 2) := by decide +kernel
theorem dX11_fraction_6 : decode cX11_fraction 6 = .ok (.lload 8, 2) := by decide +kernel
theorem dX11_fraction_8 : decode cX11_fraction 8 = .ok (.lconst 0, 1) := by decide +kernel
theorem dX11_fraction_9 : decode cX11_fraction 9 = .ok (.lcmp, 1) := by decide +kernel
theorem dX11_fraction_10 : decode cX11_fraction 10 = .ok (.ifCond .eq 21, 3) := by decide +kernel
theorem dX11_fraction_13 : decode cX11_fraction 13 = .ok (.lload 6, 2) := by decide +kernel
theorem dX11_fraction_15 : decode cX11_fraction 15 = .ok (.lload 8, 2) := by decide +kernel
theorem dX11_fraction_17 : decode cX11_fraction 17 = .ok (.lrem, 1) := by decide +kernel
theorem dX11_fraction_18 : decode cX11_fraction 18 = .ok (.lstore 10, 2) := by decide +kernel
theorem dX11_fraction_20 : decode cX11_fraction 20 = .ok (.lload 8, 2) := by decide +kernel
theorem dX11_fraction_22 : decode cX11_fraction 22 = .ok (.lstore 6, 2) := by decide +kernel
theorem dX11_fraction_24 : decode cX11_fraction 24 = .ok (.lload 10, 2) := by decide +kernel
theorem dX11_fraction_26 : decode cX11_fraction 26 = .ok (.lstore 8, 2) := by decide +kernel
theorem dX11_fraction_28 : decode cX11_fraction 28 = .ok (.goto (-22), 3) := by decide +kernel
theorem dX11_fraction_31 : decode cX11_fraction 31 = .ok (.aload_n 0, 1) := by decide +kernel
theorem dX11_fraction_32 : decode cX11_fraction 32 = .ok (.lload_n 1, 1) := by decide +kernel
theorem dX11_fraction_33 : decode cX11_fraction 33 = .ok (.lload 6, 2) := by decide +kernel
theorem dX11_fraction_35 : decode cX11_fraction 35 = .ok (.ldiv, 1) := by decide +kernel
theorem dX11_fraction_36 : decode cX11_fraction 36 = .ok (.putfield 83, 3) := by decide +kernel
theorem dX11_fraction_39 : decode cX11_fraction 39 = .ok (.aload_n 0, 1) := by decide +kernel
theorem dX11_fraction_40 : decode cX11_fraction 40 = .ok (.lload_n 3, 1) := by decide +kernel
theorem dX11_fraction_41 : decode cX11_fraction 41 = .ok (.lload 6, 2) := by decide +kernel
theorem dX11_fraction_43 : decode cX11_fraction 43 = .ok (.ldiv, 1) := by decide +kernel
theorem dX11_fraction_44 : decode cX11_fraction 44 = .ok (.putfield 68, 3) := by decide +kernel
theorem dX11_fraction_47 : decode cX11_fraction 47 = .ok (.iload 5, 2) := by decide +kernel
theorem dX11_fraction_49 : decode cX11_fraction 49 = .ok (.ireturn, 1) := by decide +kernel
theorem dX11_upper_0 : decode cX11_upper 0 = .ok (.aload_n 0, 1) := by decide +kernel
theorem dX11_upper_1 : decode cX11_upper 1 = .ok (.getfield 83, 3) := by decide +kernel
theorem dX11_upper_4 : decode cX11_upper 4 = .ok (.lreturn, 1) := by decide +kernel
theorem dX11_lower_0 : decode cX11_lower 0 = .ok (.aload_n 0, 1) := by decide +kernel
theorem dX11_lower_1 : decode cX11_lower 1 = .ok (.getfield 68, 3) := by decide +kernel
theorem dX11_lower_4 : decode cX11_lower 4 = .ok (.lreturn, 1) := by decide +kernel
set_option maxRecDepth 20000 in
theorem ggX11_isRow_X11_in : GoodIn wsX11_isRow wsX11_in := goodIn_r _ [4] (by decide +kernel) (by decide +kernel)
set_option maxRecDepth 20000 in
theorem gX11_isRow_X11_in : GoodIn wsX11_isRow (va_wsS RX11 76 yX11_in wsX11_in) := goodIn_app (goodIn_of _ (by decide +kernel)) ggX11_isRow_X11_in
theorem dX11_isRow_0 : decode cX11_isRow 0 = .ok (.iload_n 0, 1) := by decide +kernel
theorem dX11_isRow_1 : decode cX11_isRow 1 = .ok (.iconst 0, 1) := by decide +kernel
theorem dX11_isRow_2 : decode cX11_isRow 2 = .ok (.iconst 5, 1) := by decide +kernel
theorem dX11_isRow_3 : decode cX11_isRow 3 = .ok (.invokestatic 76, 3) := by decide +kernel
theorem dX11_isRow_6 : decode cX11_isRow 6 = .ok (.ireturn, 1) := by decide +kernel
theorem dX11_rowAt_0 : decode cX11_rowAt 0 = .ok (.aload_n 0, 1) := by decide +kernel
theorem dX11_rowAt_1 : decode cX11_rowAt 1 = .ok (.getfield 16, 3) := by decide +kernel
theorem dX11_rowAt_4 : decode cX11_rowAt 4 = .ok (.bipush 60, 2) := by decide +kernel
theorem dX11_rowAt_6 : decode cX11_rowAt 6 = .ok (.iload_n 1, 1) := by decide +kernel
theorem dX11_rowAt_7 : decode cX11_rowAt 7 = .ok (.imul, 1) := by decide +kernel
theorem dX11_rowAt_8 : decode cX11_rowAt 8 = .ok (.iload_n 2, 1) := by decide +kernel
theorem dX11_rowAt_9 : decode cX11_rowAt 9 = .ok (.iadd, 1) := by decide +kernel
theorem dX11_rowAt_10 : decode cX11_rowAt 10 = .ok (.iaload, 1) := by decide +kernel
theorem dX11_rowAt_11 : decode cX11_rowAt 11 = .ok (.ireturn, 1) := by decide +kernel
set_option maxRecDepth 20000 in
theorem ggX11_row_X11_isRow : GoodIn wsX11_row wsX11_isRow := goodIn_r _ [6, 7, 8, 5, 9] (by decide +kernel) (by decide +kernel)
set_option maxRecDepth 20000 in
theorem gX11_row_X11_isRow : GoodIn wsX11_row (va_wsS RX11 86 yX11_isRow wsX11_isRow) := goodIn_app (goodIn_of _ (by decide +kernel)) ggX11_row_X11_isRow
set_option maxRecDepth 20000 in
theorem ggX11_row_X11_meets : GoodIn wsX11_row wsX11_meets := goodIn_r _ [13, 14, 15, 16, 17, 18, 19, 20, 21, 22, 23, 24, 25, 26, 27, 28, 29, 30, 31, 32, 33, 34, 35, 36, 37, 38, 39, 40, 41, 42, 43, 44, 45, 46] (by decide +kernel) (by decide +kernel)
set_option maxRecDepth 20000 in
theorem gX11_row_X11_meets : GoodIn wsX11_row (wsV RX11 90 RX11 yX11_meets wsX11_meets) := goodIn_app (goodIn_of _ (by decide +kernel)) ggX11_row_X11_meets
theorem dX11_row_0 : decode cX11_row 0 = .ok (.iload_n 1, 1) := by decide +kernel
theorem dX11_row_1 : decode cX11_row 1 = .ok (.invokestatic 86, 3) := by decide +kernel
theorem dX11_row_4 : decode cX11_row 4 = .ok (.ifCond .eq 9, 3) := by decide +kernel
theorem dX11_row_7 : decode cX11_row 7 = .ok (.iload_n 2, 1) := by decide +kernel
theorem dX11_row_8 : decode cX11_row 8 = .ok (.bipush 60, 2) := by decide +kernel
theorem dX11_row_10 : decode cX11_row 10 = .ok (.if_icmp .le 5, 3) := by decide +kernel
theorem dX11_row_13 : decode cX11_row 13 = .ok (.iconst (-1), 1) := by decide +kernel
theorem dX11_row_14 : decode cX11_row 14 = .ok (.ireturn, 1) := by decide +kernel
theorem dX11_row_15 : decode cX11_row 15 = .ok (.iload_n 2, 1) := by decide +kernel
theorem dX11_row_16 : decode cX11_row 16 = .ok (.ifCond .ge 9, 3) := by decide +kernel
theorem dX11_row_19 : decode cX11_row 19 = .ok (.aload_n 0, 1) := by decide +kernel
theorem dX11_row_20 : decode cX11_row 20 = .ok (.iconst 5, 1) := by decide +kernel
theorem dX11_row_21 : decode cX11_row 21 = .ok (.invokevirtual 90, 3) := by decide +kernel
theorem dX11_row_24 : decode cX11_row 24 = .ok (.ireturn, 1) := by decide +kernel
theorem dX11_row_25 : decode cX11_row 25 = .ok (.aload_n 0, 1) := by decide +kernel
theorem dX11_row_26 : decode cX11_row 26 = .ok (.getfield 13, 3) := by decide +kernel
theorem dX11_row_29 : decode cX11_row 29 = .ok (.iload_n 1, 1) := by decide +kernel
theorem dX11_row_30 : decode cX11_row 30 = .ok (.iload_n 2, 1) := by decide +kernel
theorem dX11_row_31 : decode cX11_row 31 = .ok (.iastore, 1) := by decide +kernel
theorem dX11_row_32 : decode cX11_row 32 = .ok (.iconst 0, 1) := by decide +kernel
theorem dX11_row_33 : decode cX11_row 33 = .ok (.istore_n 3, 1) := by decide +kernel
theorem dX11_row_34 : decode cX11_row 34 = .ok (.iload_n 3, 1) := by decide +kernel
theorem dX11_row_35 : decode cX11_row 35 = .ok (.bipush 60, 2) := by decide +kernel
theorem dX11_row_37 : decode cX11_row 37 = .ok (.if_icmp .ge 21, 3) := by decide +kernel
theorem dX11_row_40 : decode cX11_row 40 = .ok (.aload_n 0, 1) := by decide +kernel
theorem dX11_row_41 : decode cX11_row 41 = .ok (.getfield 16, 3) := by decide +kernel
theorem dX11_row_44 : decode cX11_row 44 = .ok (.bipush 60, 2) := by decide +kernel
theorem dX11_row_46 : decode cX11_row 46 = .ok (.iload_n 1, 1) := by decide +kernel
theorem dX11_row_47 : decode cX11_row 47 = .ok (.imul, 1) := by decide +kernel
theorem dX11_row_48 : decode cX11_row 48 = .ok (.iload_n 3, 1) := by decide +kernel
theorem dX11_row_49 : decode cX11_row 49 = .ok (.iadd, 1) := by decide +kernel
theorem dX11_row_50 : decode cX11_row 50 = .ok (.iconst 0, 1) := by decide +kernel
theorem dX11_row_51 : decode cX11_row 51 = .ok (.iastore, 1) := by decide +kernel
theorem dX11_row_52 : decode cX11_row 52 = .ok (.iinc 3 1, 3) := by decide +kernel
theorem dX11_row_55 : decode cX11_row 55 = .ok (.goto (-21), 3) := by decide +kernel
theorem dX11_row_58 : decode cX11_row 58 = .ok (.iload_n 2, 1) := by decide +kernel
theorem dX11_row_59 : decode cX11_row 59 = .ok (.ireturn, 1) := by decide +kernel
set_option maxRecDepth 20000 in
theorem ggX11_lay_X11_isRow : GoodIn wsX11_lay wsX11_isRow := goodIn_r _ [6, 7, 8, 5, 9] (by decide +kernel) (by decide +kernel)
set_option maxRecDepth 20000 in
theorem gX11_lay_X11_isRow : GoodIn wsX11_lay (va_wsS RX11 86 yX11_isRow wsX11_isRow) := goodIn_app (goodIn_of _ (by decide +kernel)) ggX11_lay_X11_isRow
set_option maxRecDepth 20000 in
theorem ggX11_lay_X11_meets : GoodIn wsX11_lay wsX11_meets := goodIn_r _ [13, 14, 15, 25, 26, 27, 28, 29, 30, 31, 32, 33, 34, 35, 36, 37, 38, 39, 40, 41, 42, 43, 44, 45, 46, 47, 48, 49, 50, 51, 52, 53, 54, 55] (by decide +kernel) (by decide +kernel)
set_option maxRecDepth 20000 in
theorem gX11_lay_X11_meets : GoodIn wsX11_lay (wsV RX11 90 RX11 yX11_meets wsX11_meets) := goodIn_app (goodIn_of _ (by decide +kernel)) ggX11_lay_X11_meets
set_option maxRecDepth 20000 in
theorem ggX11_lay_X11_in : GoodIn wsX11_lay wsX11_in := goodIn_r _ [9] (by decide +kernel) (by decide +kernel)
set_option maxRecDepth 20000 in
theorem gX11_lay_X11_in : GoodIn wsX11_lay (va_wsS RX11 76 yX11_in wsX11_in) := goodIn_app (goodIn_of _ (by decide +kernel)) ggX11_lay_X11_in
set_option maxRecDepth 20000 in
theorem ggX11_lay_X11_rowAt : GoodIn wsX11_lay wsX11_rowAt := goodIn_r _ [19, 2, 25, 26, 27, 28, 29, 30, 31, 32, 33, 34, 35, 36, 37, 38, 39, 40, 41, 42, 43, 44, 45, 46, 47, 48, 49, 50, 51, 52, 53, 54, 55] (by decide +kernel) (by decide +kernel)
set_option maxRecDepth 20000 in
theorem gX11_lay_X11_rowAt : GoodIn wsX11_lay (wsV RX11 94 RX11 yX11_rowAt wsX11_rowAt) := goodIn_app (goodIn_of _ (by decide +kernel)) ggX11_lay_X11_rowAt
set_option maxRecDepth 20000 in
theorem ggX11_lay_X11_tells : GoodIn wsX11_lay wsX11_tells := goodIn_r _ [23, 24, 25, 26, 27, 28, 29, 30, 31, 32, 33, 34, 35, 36, 37, 38, 39, 40, 41, 42, 43, 44, 45, 46, 47, 48, 49, 50, 51, 52, 53, 54, 55] (by decide +kernel) (by decide +kernel)
set_option maxRecDepth 20000 in
theorem gX11_lay_X11_tells : GoodIn wsX11_lay (wsV RX11 98 RX11 yX11_tells wsX11_tells) := goodIn_app (goodIn_of _ (by decide +kernel)) ggX11_lay_X11_tells
theorem dX11_lay_0 : decode cX11_lay 0 = .ok (.iload_n 1, 1) := by decide +kernel
theorem dX11_lay_1 : decode cX11_lay 1 = .ok (.invokestatic 86, 3) := by decide +kernel
theorem dX11_lay_4 : decode cX11_lay 4 = .ok (.ifCond .ne 5, 3) := by decide +kernel
theorem dX11_lay_7 : decode cX11_lay 7 = .ok (.iconst (-1), 1) := by decide +kernel
theorem dX11_lay_8 : decode cX11_lay 8 = .ok (.ireturn, 1) := by decide +kernel
theorem dX11_lay_9 : decode cX11_lay 9 = .ok (.aload_n 0, 1) := by decide +kernel
theorem dX11_lay_10 : decode cX11_lay 10 = .ok (.getfield 13, 3) := by decide +kernel
theorem dX11_lay_13 : decode cX11_lay 13 = .ok (.iload_n 1, 1) := by decide +kernel
theorem dX11_lay_14 : decode cX11_lay 14 = .ok (.iaload, 1) := by decide +kernel
theorem dX11_lay_15 : decode cX11_lay 15 = .ok (.ifCond .ge 9, 3) := by decide +kernel
theorem dX11_lay_18 : decode cX11_lay 18 = .ok (.aload_n 0, 1) := by decide +kernel
theorem dX11_lay_19 : decode cX11_lay 19 = .ok (.iconst 1, 1) := by decide +kernel
theorem dX11_lay_20 : decode cX11_lay 20 = .ok (.invokevirtual 90, 3) := by decide +kernel
theorem dX11_lay_23 : decode cX11_lay 23 = .ok (.ireturn, 1) := by decide +kernel
theorem dX11_lay_24 : decode cX11_lay 24 = .ok (.iload_n 2, 1) := by decide +kernel
theorem dX11_lay_25 : decode cX11_lay 25 = .ok (.iconst 0, 1) := by decide +kernel
theorem dX11_lay_26 : decode cX11_lay 26 = .ok (.aload_n 0, 1) := by decide +kernel
theorem dX11_lay_27 : decode cX11_lay 27 = .ok (.getfield 13, 3) := by decide +kernel
theorem dX11_lay_30 : decode cX11_lay 30 = .ok (.iload_n 1, 1) := by decide +kernel
theorem dX11_lay_31 : decode cX11_lay 31 = .ok (.iaload, 1) := by decide +kernel
theorem dX11_lay_32 : decode cX11_lay 32 = .ok (.iconst 1, 1) := by decide +kernel
theorem dX11_lay_33 : decode cX11_lay 33 = .ok (.isub, 1) := by decide +kernel
theorem dX11_lay_34 : decode cX11_lay 34 = .ok (.invokestatic 76, 3) := by decide +kernel
theorem dX11_lay_37 : decode cX11_lay 37 = .ok (.ifCond .ne 9, 3) := by decide +kernel
theorem dX11_lay_40 : decode cX11_lay 40 = .ok (.aload_n 0, 1) := by decide +kernel
theorem dX11_lay_41 : decode cX11_lay 41 = .ok (.iconst 2, 1) := by decide +kernel
theorem dX11_lay_42 : decode cX11_lay 42 = .ok (.invokevirtual 90, 3) := by decide +kernel
theorem dX11_lay_45 : decode cX11_lay 45 = .ok (.ireturn, 1) := by decide +kernel
theorem dX11_lay_46 : decode cX11_lay 46 = .ok (.aload_n 0, 1) := by decide +kernel
theorem dX11_lay_47 : decode cX11_lay 47 = .ok (.iload_n 1, 1) := by decide +kernel
theorem dX11_lay_48 : decode cX11_lay 48 = .ok (.iload_n 2, 1) := by decide +kernel
theorem dX11_lay_49 : decode cX11_lay 49 = .ok (.invokevirtual 94, 3) := by decide +kernel
theorem dX11_lay_52 : decode cX11_lay 52 = .ok (.istore 4, 2) := by decide +kernel
theorem dX11_lay_54 : decode cX11_lay 54 = .ok (.aload_n 0, 1) := by decide +kernel
theorem dX11_lay_55 : decode cX11_lay 55 = .ok (.getfield 16, 3) := by decide +kernel
theorem dX11_lay_58 : decode cX11_lay 58 = .ok (.bipush 60, 2) := by decide +kernel
theorem dX11_lay_60 : decode cX11_lay 60 = .ok (.iload_n 1, 1) := by decide +kernel
theorem dX11_lay_61 : decode cX11_lay 61 = .ok (.imul, 1) := by decide +kernel
theorem dX11_lay_62 : decode cX11_lay 62 = .ok (.iload_n 2, 1) := by decide +kernel
theorem dX11_lay_63 : decode cX11_lay 63 = .ok (.iadd, 1) := by decide +kernel
theorem dX11_lay_64 : decode cX11_lay 64 = .ok (.iload_n 3, 1) := by decide +kernel
theorem dX11_lay_65 : decode cX11_lay 65 = .ok (.iastore, 1) := by decide +kernel
theorem dX11_lay_66 : decode cX11_lay 66 = .ok (.aload_n 0, 1) := by decide +kernel
theorem dX11_lay_67 : decode cX11_lay 67 = .ok (.iload 4, 2) := by decide +kernel
theorem dX11_lay_69 : decode cX11_lay 69 = .ok (.iconst 1, 1) := by decide +kernel
theorem dX11_lay_70 : decode cX11_lay 70 = .ok (.invokevirtual 98, 3) := by decide +kernel
theorem dX11_lay_73 : decode cX11_lay 73 = .ok (.ireturn, 1) := by decide +kernel
set_option maxRecDepth 20000 in
theorem ggX11_at_X11_isRow : GoodIn wsX11_at wsX11_isRow := goodIn_r _ [5, 6, 7, 4, 8] (by decide +kernel) (by decide +kernel)
set_option maxRecDepth 20000 in
theorem gX11_at_X11_isRow : GoodIn wsX11_at (va_wsS RX11 86 yX11_isRow wsX11_isRow) := goodIn_app (goodIn_of _ (by decide +kernel)) ggX11_at_X11_isRow
set_option maxRecDepth 20000 in
theorem ggX11_at_X11_meets : GoodIn wsX11_at wsX11_meets := goodIn_r _ [12, 13, 14, 25, 26, 27, 28, 29, 30, 31, 32, 33, 34, 35, 36, 37, 38, 39, 40, 41, 42, 43, 44, 45, 46, 47, 48, 49, 50, 51, 52, 53, 54, 55] (by decide +kernel) (by decide +kernel)
set_option maxRecDepth 20000 in
theorem gX11_at_X11_meets : GoodIn wsX11_at (wsV RX11 90 RX11 yX11_meets wsX11_meets) := goodIn_app (goodIn_of _ (by decide +kernel)) ggX11_at_X11_meets
set_option maxRecDepth 20000 in
theorem ggX11_at_X11_in : GoodIn wsX11_at wsX11_in := goodIn_r _ [8] (by decide +kernel) (by decide +kernel)
set_option maxRecDepth 20000 in
theorem gX11_at_X11_in : GoodIn wsX11_at (va_wsS RX11 76 yX11_in wsX11_in) := goodIn_app (goodIn_of _ (by decide +kernel)) ggX11_at_X11_in
set_option maxRecDepth 20000 in
theorem ggX11_at_X11_rowAt : GoodIn wsX11_at wsX11_rowAt := goodIn_r _ [18, 19, 25, 26, 27, 28, 29, 30, 31, 32, 33, 34, 35, 36, 37, 38, 39, 40, 41, 42, 43, 44, 45, 46, 47, 48, 49, 50, 51, 52, 53, 54, 55] (by decide +kernel) (by decide +kernel)
set_option maxRecDepth 20000 in
theorem gX11_at_X11_rowAt : GoodIn wsX11_at (wsV RX11 94 RX11 yX11_rowAt wsX11_rowAt) := goodIn_app (goodIn_of _ (by decide +kernel)) ggX11_at_X11_rowAt
set_option maxRecDepth 20000 in
theorem ggX11_at_X11_tells : GoodIn wsX11_at wsX11_tells := goodIn_r _ [23, 24, 25, 26, 27, 28, 29, 30, 31, 32, 33, 34, 35, 36, 37, 38, 39, 40, 41, 42, 43, 44, 45, 46, 47, 48, 49, 50, 51, 52, 53, 54, 55] (by decide +kernel) (by decide +kernel)
set_option maxRecDepth 20000 in
theorem gX11_at_X11_tells : GoodIn wsX11_at (wsV RX11 98 RX11 yX11_tells wsX11_tells) := goodIn_app (goodIn_of _ (by decide +kernel)) ggX11_at_X11_tells
theorem dX11_at_0 : decode cX11_at 0 = .ok (.iload_n 1, 1) := by decide +kernel
theorem dX11_at_1 : decode cX11_at 1 = .ok (.invokestatic 86, 3) := by decide +kernel
theorem dX11_at_4 : decode cX11_at 4 = .ok (.ifCond .ne 5, 3) := by decide +kernel
theorem dX11_at_7 : decode cX11_at 7 = .ok (.iconst (-1), 1) := by decide +kernel
theorem dX11_at_8 : decode cX11_at 8 = .ok (.ireturn, 1) := by decide +kernel
theorem dX11_at_9 : decode cX11_at 9 = .ok (.aload_n 0, 1) := by decide +kernel
theorem dX11_at_10 : decode cX11_at 10 = .ok (.getfield 13, 3) := by decide +kernel
theorem dX11_at_13 : decode cX11_at 13 = .ok (.iload_n 1, 1) := by decide +kernel
theorem dX11_at_14 : decode cX11_at 14 = .ok (.iaload, 1) := by decide +kernel
theorem dX11_at_15 : decode cX11_at 15 = .ok (.ifCond .ge 9, 3) := by decide +kernel
theorem dX11_at_18 : decode cX11_at 18 = .ok (.aload_n 0, 1) := by decide +kernel
theorem dX11_at_19 : decode cX11_at 19 = .ok (.iconst 1, 1) := by decide +kernel
theorem dX11_at_20 : decode cX11_at 20 = .ok (.invokevirtual 90, 3) := by decide +kernel
theorem dX11_at_23 : decode cX11_at 23 = .ok (.ireturn, 1) := by decide +kernel
theorem dX11_at_24 : decode cX11_at 24 = .ok (.iload_n 2, 1) := by decide +kernel
theorem dX11_at_25 : decode cX11_at 25 = .ok (.iconst 0, 1) := by decide +kernel
theorem dX11_at_26 : decode cX11_at 26 = .ok (.aload_n 0, 1) := by decide +kernel
theorem dX11_at_27 : decode cX11_at 27 = .ok (.getfield 13, 3) := by decide +kernel
theorem dX11_at_30 : decode cX11_at 30 = .ok (.iload_n 1, 1) := by decide +kernel
theorem dX11_at_31 : decode cX11_at 31 = .ok (.iaload, 1) := by decide +kernel
theorem dX11_at_32 : decode cX11_at 32 = .ok (.iconst 1, 1) := by decide +kernel
theorem dX11_at_33 : decode cX11_at 33 = .ok (.isub, 1) := by decide +kernel
theorem dX11_at_34 : decode cX11_at 34 = .ok (.invokestatic 76, 3) := by decide +kernel
theorem dX11_at_37 : decode cX11_at 37 = .ok (.ifCond .eq 17, 3) := by decide +kernel
theorem dX11_at_40 : decode cX11_at 40 = .ok (.aload_n 0, 1) := by decide +kernel
theorem dX11_at_41 : decode cX11_at 41 = .ok (.aload_n 0, 1) := by decide +kernel
theorem dX11_at_42 : decode cX11_at 42 = .ok (.iload_n 1, 1) := by decide +kernel
theorem dX11_at_43 : decode cX11_at 43 = .ok (.iload_n 2, 1) := by decide +kernel
theorem dX11_at_44 : decode cX11_at 44 = .ok (.invokevirtual 94, 3) := by decide +kernel
theorem dX11_at_47 : decode cX11_at 47 = .ok (.iconst 1, 1) := by decide +kernel
theorem dX11_at_48 : decode cX11_at 48 = .ok (.invokevirtual 98, 3) := by decide +kernel
theorem dX11_at_51 : decode cX11_at 51 = .ok (.goto 8, 3) := by decide +kernel
theorem dX11_at_54 : decode cX11_at 54 = .ok (.aload_n 0, 1) := by decide +kernel
theorem dX11_at_55 : decode cX11_at 55 = .ok (.iconst 2, 1) := by decide +kernel
theorem dX11_at_56 : decode cX11_at 56 = .ok (.invokevirtual 90, 3) := by decide +kernel
theorem dX11_at_59 : decode cX11_at 59 = .ok (.ireturn, 1) := by decide +kernel
set_option maxRecDepth 20000 in
theorem ggX11_tear_X11_isRow : GoodIn wsX11_tear wsX11_isRow := goodIn_r _ [5, 6, 7, 4, 8] (by decide +kernel) (by decide +kernel)
set_option maxRecDepth 20000 in
theorem gX11_tear_X11_isRow : GoodIn wsX11_tear (va_wsS RX11 86 yX11_isRow wsX11_isRow) := goodIn_app (goodIn_of _ (by decide +kernel)) ggX11_tear_X11_isRow
set_option maxRecDepth 20000 in
theorem ggX11_tear_X11_meets : GoodIn wsX11_tear wsX11_meets := goodIn_r _ [12, 13, 14, 15, 16, 17, 18, 19, 20, 21, 22, 23, 24, 25, 26, 27, 28, 29, 30, 31, 32, 33, 34, 35, 36, 37, 38, 39, 40, 41, 42, 43, 44, 45] (by decide +kernel) (by decide +kernel)
set_option maxRecDepth 20000 in
theorem gX11_tear_X11_meets : GoodIn wsX11_tear (wsV RX11 90 RX11 yX11_meets wsX11_meets) := goodIn_app (goodIn_of _ (by decide +kernel)) ggX11_tear_X11_meets
theorem dX11_tear_0 : decode cX11_tear 0 = .ok (.iload_n 1, 1) := by decide +kernel
theorem dX11_tear_1 : decode cX11_tear 1 = .ok (.invokestatic 86, 3) := by decide +kernel
theorem dX11_tear_4 : decode cX11_tear 4 = .ok (.ifCond .ne 5, 3) := by decide +kernel
theorem dX11_tear_7 : decode cX11_tear 7 = .ok (.iconst (-1), 1) := by decide +kernel
theorem dX11_tear_8 : decode cX11_tear 8 = .ok (.ireturn, 1) := by decide +kernel
theorem dX11_tear_9 : decode cX11_tear 9 = .ok (.aload_n 0, 1) := by decide +kernel
theorem dX11_tear_10 : decode cX11_tear 10 = .ok (.getfield 13, 3) := by decide +kernel
theorem dX11_tear_13 : decode cX11_tear 13 = .ok (.iload_n 1, 1) := by decide +kernel
theorem dX11_tear_14 : decode cX11_tear 14 = .ok (.iaload, 1) := by decide +kernel
theorem dX11_tear_15 : decode cX11_tear 15 = .ok (.ifCond .ge 9, 3) := by decide +kernel
theorem dX11_tear_18 : decode cX11_tear 18 = .ok (.aload_n 0, 1) := by decide +kernel
theorem dX11_tear_19 : decode cX11_tear 19 = .ok (.iconst 1, 1) := by decide +kernel
theorem dX11_tear_20 : decode cX11_tear 20 = .ok (.invokevirtual 90, 3) := by decide +kernel
theorem dX11_tear_23 : decode cX11_tear 23 = .ok (.ireturn, 1) := by decide +kernel
theorem dX11_tear_24 : decode cX11_tear 24 = .ok (.aload_n 0, 1) := by decide +kernel
theorem dX11_tear_25 : decode cX11_tear 25 = .ok (.getfield 13, 3) := by decide +kernel
theorem dX11_tear_28 : decode cX11_tear 28 = .ok (.iload_n 1, 1) := by decide +kernel
theorem dX11_tear_29 : decode cX11_tear 29 = .ok (.iconst (-1), 1) := by decide +kernel
theorem dX11_tear_30 : decode cX11_tear 30 = .ok (.iastore, 1) := by decide +kernel
theorem dX11_tear_31 : decode cX11_tear 31 = .ok (.iconst 1, 1) := by decide +kernel
theorem dX11_tear_32 : decode cX11_tear 32 = .ok (.ireturn, 1) := by decide +kernel
set_option maxRecDepth 20000 in
theorem ggX11_copy_X11_isRow : GoodIn wsX11_copy wsX11_isRow := goodIn_r _ [7, 8, 9, 6, 10] (by decide +kernel) (by decide +kernel)
set_option maxRecDepth 20000 in
theorem gX11_copy_X11_isRow : GoodIn wsX11_copy (va_wsS RX11 86 yX11_isRow wsX11_isRow) := goodIn_app (goodIn_of _ (by decide +kernel)) ggX11_copy_X11_isRow
set_option maxRecDepth 20000 in
theorem ggX11_copy_X11_meets : GoodIn wsX11_copy wsX11_meets := goodIn_r _ [14, 15, 16, 21, 22, 23, 24, 25, 26, 27, 28, 29, 30, 31, 32, 33, 34, 35, 36, 37, 38, 39, 40, 41, 42, 43, 44, 45, 46, 47, 48, 49, 50, 51] (by decide +kernel) (by decide +kernel)
set_option maxRecDepth 20000 in
theorem gX11_copy_X11_meets : GoodIn wsX11_copy (wsV RX11 90 RX11 yX11_meets wsX11_meets) := goodIn_app (goodIn_of _ (by decide +kernel)) ggX11_copy_X11_meets
set_option maxRecDepth 20000 in
theorem ggX11_copy_X11_rowAt : GoodIn wsX11_copy wsX11_rowAt := goodIn_r _ [20, 3, 21, 22, 23, 24, 25, 26, 27, 28, 29, 30, 31, 32, 33, 34, 35, 36, 37, 38, 39, 40, 41, 42, 43, 44, 45, 46, 47, 48, 49, 50, 51] (by decide +kernel) (by decide +kernel)
set_option maxRecDepth 20000 in
theorem gX11_copy_X11_rowAt : GoodIn wsX11_copy (wsV RX11 94 RX11 yX11_rowAt wsX11_rowAt) := goodIn_app (goodIn_of _ (by decide +kernel)) ggX11_copy_X11_rowAt
theorem dX11_copy_0 : decode cX11_copy 0 = .ok (.iload_n 1, 1) := by decide +kernel
theorem dX11_copy_1 : decode cX11_copy 1 = .ok (.invokestatic 86, 3) := by decide +kernel
theorem dX11_copy_4 : decode cX11_copy 4 = .ok (.ifCond .eq 10, 3) := by decide +kernel
theorem dX11_copy_7 : decode cX11_copy 7 = .ok (.iload_n 3, 1) := by decide +kernel
theorem dX11_copy_8 : decode cX11_copy 8 = .ok (.invokestatic 86, 3) := by decide +kernel
theorem dX11_copy_11 : decode cX11_copy 11 = .ok (.ifCond .ne 5, 3) := by decide +kernel
theorem dX11_copy_14 : decode cX11_copy 14 = .ok (.iconst (-1), 1) := by decide +kernel
theorem dX11_copy_15 : decode cX11_copy 15 = .ok (.ireturn, 1) := by decide +kernel
theorem dX11_copy_16 : decode cX11_copy 16 = .ok (.iload 5, 2) := by decide +kernel
theorem dX11_copy_18 : decode cX11_copy 18 = .ok (.ifCond .ge 9, 3) := by decide +kernel
theorem dX11_copy_21 : decode cX11_copy 21 = .ok (.aload_n 0, 1) := by decide +kernel
theorem dX11_copy_22 : decode cX11_copy 22 = .ok (.iconst 5, 1) := by decide +kernel
theorem dX11_copy_23 : decode cX11_copy 23 = .ok (.invokevirtual 90, 3) := by decide +kernel
theorem dX11_copy_26 : decode cX11_copy 26 = .ok (.ireturn, 1) := by decide +kernel
theorem dX11_copy_27 : decode cX11_copy 27 = .ok (.aload_n 0, 1) := by decide +kernel
theorem dX11_copy_28 : decode cX11_copy 28 = .ok (.getfield 13, 3) := by decide +kernel
theorem dX11_copy_31 : decode cX11_copy 31 = .ok (.iload_n 1, 1) := by decide +kernel
theorem dX11_copy_32 : decode cX11_copy 32 = .ok (.iaload, 1) := by decide +kernel
theorem dX11_copy_33 : decode cX11_copy 33 = .ok (.ifCond .lt 12, 3) := by decide +kernel
theorem dX11_copy_36 : decode cX11_copy 36 = .ok (.aload_n 0, 1) := by decide +kernel
theorem dX11_copy_37 : decode cX11_copy 37 = .ok (.getfield 13, 3) := by decide +kernel
theorem dX11_copy_40 : decode cX11_copy 40 = .ok (.iload_n 3, 1) := by decide +kernel
theorem dX11_copy_41 : decode cX11_copy 41 = .ok (.iaload, 1) := by decide +kernel
theorem dX11_copy_42 : decode cX11_copy 42 = .ok (.ifCond .ge 9, 3) := by decide +kernel
theorem dX11_copy_45 : decode cX11_copy 45 = .ok (.aload_n 0, 1) := by decide +kernel
theorem dX11_copy_46 : decode cX11_copy 46 = .ok (.iconst 1, 1) := by decide +kernel
theorem dX11_copy_47 : decode cX11_copy 47 = .ok (.invokevirtual 90, 3) := by decide +kernel
theorem dX11_copy_50 : decode cX11_copy 50 = .ok (.ireturn, 1) := by decide +kernel
theorem dX11_copy_51 : decode cX11_copy 51 = .ok (.iload_n 2, 1) := by decide +kernel
theorem dX11_copy_52 : decode cX11_copy 52 = .ok (.ifCond .lt 43, 3) := by decide +kernel
theorem dX11_copy_55 : decode cX11_copy 55 = .ok (.iload 4, 2) := by decide +kernel
theorem dX11_copy_57 : decode cX11_copy 57 = .ok (.ifCond .lt 38, 3) := by decide +kernel
theorem dX11_copy_60 : decode cX11_copy 60 = .ok (.iload_n 2, 1) := by decide +kernel
theorem dX11_copy_61 : decode cX11_copy 61 = .ok (.i2l, 1) := by decide +kernel
theorem dX11_copy_62 : decode cX11_copy 62 = .ok (.iload 5, 2) := by decide +kernel
theorem dX11_copy_64 : decode cX11_copy 64 = .ok (.i2l, 1) := by decide +kernel
theorem dX11_copy_65 : decode cX11_copy 65 = .ok (.ladd, 1) := by decide +kernel
theorem dX11_copy_66 : decode cX11_copy 66 = .ok (.aload_n 0, 1) := by decide +kernel
theorem dX11_copy_67 : decode cX11_copy 67 = .ok (.getfield 13, 3) := by decide +kernel
theorem dX11_copy_70 : decode cX11_copy 70 = .ok (.iload_n 1, 1) := by decide +kernel
theorem dX11_copy_71 : decode cX11_copy 71 = .ok (.iaload, 1) := by decide +kernel
theorem dX11_copy_72 : decode cX11_copy 72 = .ok (.i2l, 1) := by decide +kernel
theorem dX11_copy_73 : decode cX11_copy 73 = .ok (.lcmp, 1) := by decide +kernel
theorem dX11_copy_74 : decode cX11_copy 74 = .ok (.ifCond .gt 21, 3) := by decide +kernel
theorem dX11_copy_77 : decode cX11_copy 77 = .ok (.iload 4, 2) := by decide +kernel
theorem dX11_copy_79 : decode cX11_copy 79 = .ok (.i2l, 1) := by decide +kernel
theorem dX11_copy_80 : decode cX11_copy 80 = .ok (.iload 5, 2) := by decide +kernel
theorem dX11_copy_82 : decode cX11_copy 82 = .ok (.i2l, 1) := by decide +kernel
theorem dX11_copy_83 : decode cX11_copy 83 = .ok (.ladd, 1) := by decide +kernel
theorem dX11_copy_84 : decode cX11_copy 84 = .ok (.aload_n 0, 1) := by decide +kernel
theorem dX11_copy_85 : decode cX11_copy 85 = .ok (.getfield 13, 3) := by decide +kernel
theorem dX11_copy_88 : decode cX11_copy 88 = .ok (.iload_n 3, 1) := by decide +kernel
theorem dX11_copy_89 : decode cX11_copy 89 = .ok (.iaload, 1) := by decide +kernel
theorem dX11_copy_90 : decode cX11_copy 90 = .ok (.i2l, 1) := by decide +kernel
theorem dX11_copy_91 : decode cX11_copy 91 = .ok (.lcmp, 1) := by decide +kernel
theorem dX11_copy_92 : decode cX11_copy 92 = .ok (.ifCond .le 9, 3) := by decide +kernel
theorem dX11_copy_95 : decode cX11_copy 95 = .ok (.aload_n 0, 1) := by decide +kernel
theorem dX11_copy_96 : decode cX11_copy 96 = .ok (.iconst 2, 1) := by decide +kernel
theorem dX11_copy_97 : decode cX11_copy 97 = .ok (.invokevirtual 90, 3) := by decide +kernel
theorem dX11_copy_100 : decode cX11_copy 100 = .ok (.ireturn, 1) := by decide +kernel
theorem dX11_copy_101 : decode cX11_copy 101 = .ok (.iconst 0, 1) := by decide +kernel
theorem dX11_copy_102 : decode cX11_copy 102 = .ok (.istore 6, 2) := by decide +kernel
theorem dX11_copy_104 : decode cX11_copy 104 = .ok (.iload 6, 2) := by decide +kernel
theorem dX11_copy_106 : decode cX11_copy 106 = .ok (.iload 5, 2) := by decide +kernel
theorem dX11_copy_108 : decode cX11_copy 108 = .ok (.if_icmp .ge 25, 3) := by decide +kernel
theorem dX11_copy_111 : decode cX11_copy 111 = .ok (.aload_n 0, 1) := by decide +kernel
theorem dX11_copy_112 : decode cX11_copy 112 = .ok (.getfield 19, 3) := by decide +kernel
theorem dX11_copy_115 : decode cX11_copy 115 = .ok (.iload 6, 2) := by decide +kernel
theorem dX11_copy_117 : decode cX11_copy 117 = .ok (.aload_n 0, 1) := by decide +kernel
theorem dX11_copy_118 : decode cX11_copy 118 = .ok (.iload_n 1, 1) := by decide +kernel
theorem dX11_copy_119 : decode cX11_copy 119 = .ok (.iload_n 2, 1) := by decide +kernel
theorem dX11_copy_120 : decode cX11_copy 120 = .ok (.iload 6, 2) := by decide +kernel
theorem dX11_copy_122 : decode cX11_copy 122 = .ok (.iadd, 1) := by decide +kernel
theorem dX11_copy_123 : decode cX11_copy 123 = .ok (.invokevirtual 94, 3) := by decide +kernel
theorem dX11_copy_126 : decode cX11_copy 126 = .ok (.iastore, 1) := by decide +kernel
theorem dX11_copy_127 : decode cX11_copy 127 = .ok (.iinc 6 1, 3) := by decide +kernel
theorem dX11_copy_130 : decode cX11_copy 130 = .ok (.goto (-26), 3) := by decide +kernel
theorem dX11_copy_133 : decode cX11_copy 133 = .ok (.iconst 0, 1) := by decide +kernel
theorem dX11_copy_134 : decode cX11_copy 134 = .ok (.istore 6, 2) := by decide +kernel
theorem dX11_copy_136 : decode cX11_copy 136 = .ok (.iload 6, 2) := by decide +kernel
theorem dX11_copy_138 : decode cX11_copy 138 = .ok (.iload 5, 2) := by decide +kernel
theorem dX11_copy_140 : decode cX11_copy 140 = .ok (.if_icmp .ge 31, 3) := by decide +kernel
theorem dX11_copy_143 : decode cX11_copy 143 = .ok (.aload_n 0, 1) := by decide +kernel
theorem dX11_copy_144 : decode cX11_copy 144 = .ok (.getfield 16, 3) := by decide +kernel
theorem dX11_copy_147 : decode cX11_copy 147 = .ok (.bipush 60, 2) := by decide +kernel
theorem dX11_copy_149 : decode cX11_copy 149 = .ok (.iload_n 3, 1) := by decide +kernel
theorem dX11_copy_150 : decode cX11_copy 150 = .ok (.imul, 1) := by decide +kernel
theorem dX11_copy_151 : decode cX11_copy 151 = .ok (.iload 4, 2) := by decide +kernel
theorem dX11_copy_153 : decode cX11_copy 153 = .ok (.iadd, 1) := by decide +kernel
theorem dX11_copy_154 : decode cX11_copy 154 = .ok (.iload 6, 2) := by decide +kernel
theorem dX11_copy_156 : decode cX11_copy 156 = .ok (.iadd, 1) := by decide +kernel
theorem dX11_copy_157 : decode cX11_copy 157 = .ok (.aload_n 0, 1) := by decide +kernel
theorem dX11_copy_158 : decode cX11_copy 158 = .ok (.getfield 19, 3) := by decide +kernel
theorem dX11_copy_161 : decode cX11_copy 161 = .ok (.iload 6, 2) := by decide +kernel
theorem dX11_copy_163 : decode cX11_copy 163 = .ok (.iaload, 1) := by decide +kernel
theorem dX11_copy_164 : decode cX11_copy 164 = .ok (.iastore, 1) := by decide +kernel
theorem dX11_copy_165 : decode cX11_copy 165 = .ok (.iinc 6 1, 3) := by decide +kernel
theorem dX11_copy_168 : decode cX11_copy 168 = .ok (.goto (-32), 3) := by decide +kernel
theorem dX11_copy_171 : decode cX11_copy 171 = .ok (.iconst 1, 1) := by decide +kernel
theorem dX11_copy_172 : decode cX11_copy 172 = .ok (.ireturn, 1) := by decide +kernel
set_option maxRecDepth 20000 in
theorem ggX11_mean_X11_isRow : GoodIn wsX11_mean wsX11_isRow := goodIn_r _ [5, 6, 7, 4, 8] (by decide +kernel) (by decide +kernel)
set_option maxRecDepth 20000 in
theorem gX11_mean_X11_isRow : GoodIn wsX11_mean (va_wsS RX11 86 yX11_isRow wsX11_isRow) := goodIn_app (goodIn_of _ (by decide +kernel)) ggX11_mean_X11_isRow
set_option maxRecDepth 20000 in
theorem ggX11_mean_X11_meets : GoodIn wsX11_mean wsX11_meets := goodIn_r _ [12, 13, 14, 25, 26, 27, 28, 29, 30, 31, 32, 33, 34, 35, 36, 37, 38, 39, 40, 41, 42, 43, 44, 45, 46, 47, 48, 49, 50, 51, 52, 53, 54, 55] (by decide +kernel) (by decide +kernel)
set_option maxRecDepth 20000 in
theorem gX11_mean_X11_meets : GoodIn wsX11_mean (wsV RX11 90 RX11 yX11_meets wsX11_meets) := goodIn_app (goodIn_of _ (by decide +kernel)) ggX11_mean_X11_meets
set_option maxRecDepth 20000 in
theorem ggX11_mean_X11_rowAt : GoodIn wsX11_mean wsX11_rowAt := goodIn_r _ [18, 19, 25, 26, 27, 28, 29, 30, 31, 32, 33, 34, 35, 36, 37, 38, 39, 40, 41, 42, 43, 44, 45, 46, 47, 48, 49, 50, 51, 52, 53, 54, 55] (by decide +kernel) (by decide +kernel)
set_option maxRecDepth 20000 in
theorem gX11_mean_X11_rowAt : GoodIn wsX11_mean (wsV RX11 94 RX11 yX11_rowAt wsX11_rowAt) := goodIn_app (goodIn_of _ (by decide +kernel)) ggX11_mean_X11_rowAt
set_option maxRecDepth 20000 in
theorem ggX11_mean_X11_tells : GoodIn wsX11_mean wsX11_tells := goodIn_r _ [23, 24, 25, 26, 27, 28, 29, 30, 31, 32, 33, 34, 35, 36, 37, 38, 39, 40, 41, 42, 43, 44, 45, 46, 47, 48, 49, 50, 51, 52, 53, 54, 55] (by decide +kernel) (by decide +kernel)
set_option maxRecDepth 20000 in
theorem gX11_mean_X11_tells : GoodIn wsX11_mean (wsV RX11 98 RX11 yX11_tells wsX11_tells) := goodIn_app (goodIn_of _ (by decide +kernel)) ggX11_mean_X11_tells
theorem dX11_mean_0 : decode cX11_mean 0 = .ok (.iload_n 1, 1) := by decide +kernel
theorem dX11_mean_1 : decode cX11_mean 1 = .ok (.invokestatic 86, 3) := by decide +kernel
theorem dX11_mean_4 : decode cX11_mean 4 = .ok (.ifCond .ne 5, 3) := by decide +kernel
theorem dX11_mean_7 : decode cX11_mean 7 = .ok (.iconst (-1), 1) := by decide +kernel
theorem dX11_mean_8 : decode cX11_mean 8 = .ok (.ireturn, 1) := by decide +kernel
theorem dX11_mean_9 : decode cX11_mean 9 = .ok (.aload_n 0, 1) := by decide +kernel
theorem dX11_mean_10 : decode cX11_mean 10 = .ok (.getfield 13, 3) := by decide +kernel
theorem dX11_mean_13 : decode cX11_mean 13 = .ok (.iload_n 1, 1) := by decide +kernel
theorem dX11_mean_14 : decode cX11_mean 14 = .ok (.iaload, 1) := by decide +kernel
theorem dX11_mean_15 : decode cX11_mean 15 = .ok (.ifCond .ge 9, 3) := by decide +kernel
theorem dX11_mean_18 : decode cX11_mean 18 = .ok (.aload_n 0, 1) := by decide +kernel
theorem dX11_mean_19 : decode cX11_mean 19 = .ok (.iconst 1, 1) := by decide +kernel
theorem dX11_mean_20 : decode cX11_mean 20 = .ok (.invokevirtual 90, 3) := by decide +kernel
theorem dX11_mean_23 : decode cX11_mean 23 = .ok (.ireturn, 1) := by decide +kernel
theorem dX11_mean_24 : decode cX11_mean 24 = .ok (.aload_n 0, 1) := by decide +kernel
theorem dX11_mean_25 : decode cX11_mean 25 = .ok (.getfield 13, 3) := by decide +kernel
theorem dX11_mean_28 : decode cX11_mean 28 = .ok (.iload_n 1, 1) := by decide +kernel
theorem dX11_mean_29 : decode cX11_mean 29 = .ok (.iaload, 1) := by decide +kernel
theorem dX11_mean_30 : decode cX11_mean 30 = .ok (.ifCond .ne 9, 3) := by decide +kernel
theorem dX11_mean_33 : decode cX11_mean 33 = .ok (.aload_n 0, 1) := by decide +kernel
theorem dX11_mean_34 : decode cX11_mean 34 = .ok (.iconst 4, 1) := by decide +kernel
theorem dX11_mean_35 : decode cX11_mean 35 = .ok (.invokevirtual 90, 3) := by decide +kernel
theorem dX11_mean_38 : decode cX11_mean 38 = .ok (.ireturn, 1) := by decide +kernel
theorem dX11_mean_39 : decode cX11_mean 39 = .ok (.lconst 0, 1) := by decide +kernel
theorem dX11_mean_40 : decode cX11_mean 40 = .ok (.lstore_n 2, 1) := by decide +kernel
theorem dX11_mean_41 : decode cX11_mean 41 = .ok (.iconst 0, 1) := by decide +kernel
theorem dX11_mean_42 : decode cX11_mean 42 = .ok (.istore 4, 2) := by decide +kernel
theorem dX11_mean_44 : decode cX11_mean 44 = .ok (.iload 4, 2) := by decide +kernel
theorem dX11_mean_46 : decode cX11_mean 46 = .ok (.aload_n 0, 1) := by decide +kernel
theorem dX11_mean_47 : decode cX11_mean 47 = .ok (.getfield 13, 3) := by decide +kernel
theorem dX11_mean_50 : decode cX11_mean 50 = .ok (.iload_n 1, 1) := by decide +kernel
theorem dX11_mean_51 : decode cX11_mean 51 = .ok (.iaload, 1) := by decide +kernel
theorem dX11_mean_52 : decode cX11_mean 52 = .ok (.if_icmp .ge 20, 3) := by decide +kernel
theorem dX11_mean_55 : decode cX11_mean 55 = .ok (.lload_n 2, 1) := by decide +kernel
theorem dX11_mean_56 : decode cX11_mean 56 = .ok (.aload_n 0, 1) := by decide +kernel
theorem dX11_mean_57 : decode cX11_mean 57 = .ok (.iload_n 1, 1) := by decide +kernel
theorem dX11_mean_58 : decode cX11_mean 58 = .ok (.iload 4, 2) := by decide +kernel
theorem dX11_mean_60 : decode cX11_mean 60 = .ok (.invokevirtual 94, 3) := by decide +kernel
theorem dX11_mean_63 : decode cX11_mean 63 = .ok (.i2l, 1) := by decide +kernel
theorem dX11_mean_64 : decode cX11_mean 64 = .ok (.ladd, 1) := by decide +kernel
theorem dX11_mean_65 : decode cX11_mean 65 = .ok (.lstore_n 2, 1) := by decide +kernel
theorem dX11_mean_66 : decode cX11_mean 66 = .ok (.iinc 4 1, 3) := by decide +kernel
theorem dX11_mean_69 : decode cX11_mean 69 = .ok (.goto (-25), 3) := by decide +kernel
theorem dX11_mean_72 : decode cX11_mean 72 = .ok (.aload_n 0, 1) := by decide +kernel
theorem dX11_mean_73 : decode cX11_mean 73 = .ok (.lload_n 2, 1) := by decide +kernel
theorem dX11_mean_74 : decode cX11_mean 74 = .ok (.aload_n 0, 1) := by decide +kernel
theorem dX11_mean_75 : decode cX11_mean 75 = .ok (.getfield 13, 3) := by decide +kernel
theorem dX11_mean_78 : decode cX11_mean 78 = .ok (.iload_n 1, 1) := by decide +kernel
theorem dX11_mean_79 : decode cX11_mean 79 = .ok (.iaload, 1) := by decide +kernel
theorem dX11_mean_80 : decode cX11_mean 80 = .ok (.i2l, 1) := by decide +kernel
theorem dX11_mean_81 : decode cX11_mean 81 = .ok (.ldiv, 1) := by decide +kernel
theorem dX11_mean_82 : decode cX11_mean 82 = .ok (.l2i, 1) := by decide +kernel
theorem dX11_mean_83 : decode cX11_mean 83 = .ok (.iconst 1, 1) := by decide +kernel
theorem dX11_mean_84 : decode cX11_mean 84 = .ok (.invokevirtual 98, 3) := by decide +kernel
theorem dX11_mean_87 : decode cX11_mean 87 = .ok (.ireturn, 1) := by decide +kernel
set_option maxRecDepth 20000 in
theorem ggX11_isText_X11_in : GoodIn wsX11_isText wsX11_in := goodIn_r _ [4] (by decide +kernel) (by decide +kernel)
set_option maxRecDepth 20000 in
theorem gX11_isText_X11_in : GoodIn wsX11_isText (va_wsS RX11 76 yX11_in wsX11_in) := goodIn_app (goodIn_of _ (by decide +kernel)) ggX11_isText_X11_in
theorem dX11_isText_0 : decode cX11_isText 0 = .ok (.iload_n 0, 1) := by decide +kernel
theorem dX11_isText_1 : decode cX11_isText 1 = .ok (.iconst 0, 1) := by decide +kernel
theorem dX11_isText_2 : decode cX11_isText 2 = .ok (.iconst 3, 1) := by decide +kernel
theorem dX11_isText_3 : decode cX11_isText 3 = .ok (.invokestatic 76, 3) := by decide +kernel
theorem dX11_isText_6 : decode cX11_isText 6 = .ok (.ireturn, 1) := by decide +kernel
set_option maxRecDepth 20000 in
theorem ggX11_text_X11_isText : GoodIn wsX11_text wsX11_isText := goodIn_r _ [6, 7, 8, 5, 9] (by decide +kernel) (by decide +kernel)
set_option maxRecDepth 20000 in
theorem gX11_text_X11_isText : GoodIn wsX11_text (va_wsS RX11 101 yX11_isText wsX11_isText) := goodIn_app (goodIn_of _ (by decide +kernel)) ggX11_text_X11_isText
set_option maxRecDepth 20000 in
theorem ggX11_text_X11_meets : GoodIn wsX11_text wsX11_meets := goodIn_r _ [13, 14, 15, 16, 17, 18, 19, 20, 21, 22, 23, 24, 25, 26, 27, 28, 29, 30, 31, 32, 33, 34, 35, 36, 37, 38, 39, 40, 41, 42, 43, 44, 45, 46] (by decide +kernel) (by decide +kernel)
set_option maxRecDepth 20000 in
theorem gX11_text_X11_meets : GoodIn wsX11_text (wsV RX11 90 RX11 yX11_meets wsX11_meets) := goodIn_app (goodIn_of _ (by decide +kernel)) ggX11_text_X11_meets
theorem dX11_text_0 : decode cX11_text 0 = .ok (.iload_n 1, 1) := by decide +kernel
theorem dX11_text_1 : decode cX11_text 1 = .ok (.invokestatic 101, 3) := by decide +kernel
theorem dX11_text_4 : decode cX11_text 4 = .ok (.ifCond .eq 9, 3) := by decide +kernel
theorem dX11_text_7 : decode cX11_text 7 = .ok (.iload_n 2, 1) := by decide +kernel
theorem dX11_text_8 : decode cX11_text 8 = .ok (.bipush 100, 2) := by decide +kernel
theorem dX11_text_10 : decode cX11_text 10 = .ok (.if_icmp .le 5, 3) := by decide +kernel
theorem dX11_text_13 : decode cX11_text 13 = .ok (.iconst (-1), 1) := by decide +kernel
theorem dX11_text_14 : decode cX11_text 14 = .ok (.ireturn, 1) := by decide +kernel
theorem dX11_text_15 : decode cX11_text 15 = .ok (.iload_n 2, 1) := by decide +kernel
theorem dX11_text_16 : decode cX11_text 16 = .ok (.ifCond .ge 9, 3) := by decide +kernel
theorem dX11_text_19 : decode cX11_text 19 = .ok (.aload_n 0, 1) := by decide +kernel
theorem dX11_text_20 : decode cX11_text 20 = .ok (.iconst 5, 1) := by decide +kernel
theorem dX11_text_21 : decode cX11_text 21 = .ok (.invokevirtual 90, 3) := by decide +kernel
theorem dX11_text_24 : decode cX11_text 24 = .ok (.ireturn, 1) := by decide +kernel
theorem dX11_text_25 : decode cX11_text 25 = .ok (.aload_n 0, 1) := by decide +kernel
theorem dX11_text_26 : decode cX11_text 26 = .ok (.getfield 22, 3) := by decide +kernel
theorem dX11_text_29 : decode cX11_text 29 = .ok (.iload_n 1, 1) := by decide +kernel
theorem dX11_text_30 : decode cX11_text 30 = .ok (.iload_n 2, 1) := by decide +kernel
theorem dX11_text_31 : decode cX11_text 31 = .ok (.iastore, 1) := by decide +kernel
theorem dX11_text_32 : decode cX11_text 32 = .ok (.iconst 0, 1) := by decide +kernel
theorem dX11_text_33 : decode cX11_text 33 = .ok (.istore_n 3, 1) := by decide +kernel
theorem dX11_text_34 : decode cX11_text 34 = .ok (.iload_n 3, 1) := by decide +kernel
theorem dX11_text_35 : decode cX11_text 35 = .ok (.bipush 100, 2) := by decide +kernel
theorem dX11_text_37 : decode cX11_text 37 = .ok (.if_icmp .ge 22, 3) := by decide +kernel
theorem dX11_text_40 : decode cX11_text 40 = .ok (.aload_n 0, 1) := by decide +kernel
theorem dX11_text_41 : decode cX11_text 41 = .ok (.getfield 25, 3) := by decide +kernel
theorem dX11_text_44 : decode cX11_text 44 = .ok (.bipush 100, 2) := by decide +kernel
theorem dX11_text_46 : decode cX11_text 46 = .ok (.iload_n 1, 1) := by decide +kernel
theorem dX11_text_47 : decode cX11_text 47 = .ok (.imul, 1) := by decide +kernel
theorem dX11_text_48 : decode cX11_text 48 = .ok (.iload_n 3, 1) := by decide +kernel
theorem dX11_text_49 : decode cX11_text 49 = .ok (.iadd, 1) := by decide +kernel
theorem dX11_text_50 : decode cX11_text 50 = .ok (.bipush 32, 2) := by decide +kernel
theorem dX11_text_52 : decode cX11_text 52 = .ok (.bastore, 1) := by decide +kernel
theorem dX11_text_53 : decode cX11_text 53 = .ok (.iinc 3 1, 3) := by decide +kernel
theorem dX11_text_56 : decode cX11_text 56 = .ok (.goto (-22), 3) := by decide +kernel
theorem dX11_text_59 : decode cX11_text 59 = .ok (.iload_n 2, 1) := by decide +kernel
theorem dX11_text_60 : decode cX11_text 60 = .ok (.ireturn, 1) := by decide +kernel
set_option maxRecDepth 20000 in
theorem ggX11_put_X11_isText : GoodIn wsX11_put wsX11_isText := goodIn_r _ [6, 7, 8, 5, 9] (by decide +kernel) (by decide +kernel)
set_option maxRecDepth 20000 in
theorem gX11_put_X11_isText : GoodIn wsX11_put (va_wsS RX11 101 yX11_isText wsX11_isText) := goodIn_app (goodIn_of _ (by decide +kernel)) ggX11_put_X11_isText
set_option maxRecDepth 20000 in
theorem ggX11_put_X11_meets : GoodIn wsX11_put wsX11_meets := goodIn_r _ [13, 14, 15, 16, 17, 18, 19, 20, 21, 22, 23, 24, 25, 26, 27, 28, 29, 30, 31, 32, 33, 34, 35, 36, 37, 38, 39, 40, 41, 42, 43, 44, 45, 46] (by decide +kernel) (by decide +kernel)
set_option maxRecDepth 20000 in
theorem gX11_put_X11_meets : GoodIn wsX11_put (wsV RX11 90 RX11 yX11_meets wsX11_meets) := goodIn_app (goodIn_of _ (by decide +kernel)) ggX11_put_X11_meets
set_option maxRecDepth 20000 in
theorem ggX11_put_X11_in : GoodIn wsX11_put wsX11_in := goodIn_r _ [9] (by decide +kernel) (by decide +kernel)
set_option maxRecDepth 20000 in
theorem gX11_put_X11_in : GoodIn wsX11_put (va_wsS RX11 76 yX11_in wsX11_in) := goodIn_app (goodIn_of _ (by decide +kernel)) ggX11_put_X11_in
theorem dX11_put_0 : decode cX11_put 0 = .ok (.iload_n 1, 1) := by decide +kernel
theorem dX11_put_1 : decode cX11_put 1 = .ok (.invokestatic 101, 3) := by decide +kernel
theorem dX11_put_4 : decode cX11_put 4 = .ok (.ifCond .ne 5, 3) := by decide +kernel
theorem dX11_put_7 : decode cX11_put 7 = .ok (.iconst (-1), 1) := by decide +kernel
theorem dX11_put_8 : decode cX11_put 8 = .ok (.ireturn, 1) := by decide +kernel
theorem dX11_put_9 : decode cX11_put 9 = .ok (.aload_n 0, 1) := by decide +kernel
theorem dX11_put_10 : decode cX11_put 10 = .ok (.getfield 22, 3) := by decide +kernel
theorem dX11_put_13 : decode cX11_put 13 = .ok (.iload_n 1, 1) := by decide +kernel
theorem dX11_put_14 : decode cX11_put 14 = .ok (.iaload, 1) := by decide +kernel
theorem dX11_put_15 : decode cX11_put 15 = .ok (.ifCond .ge 9, 3) := by decide +kernel
theorem dX11_put_18 : decode cX11_put 18 = .ok (.aload_n 0, 1) := by decide +kernel
theorem dX11_put_19 : decode cX11_put 19 = .ok (.iconst 1, 1) := by decide +kernel
theorem dX11_put_20 : decode cX11_put 20 = .ok (.invokevirtual 90, 3) := by decide +kernel
theorem dX11_put_23 : decode cX11_put 23 = .ok (.ireturn, 1) := by decide +kernel
theorem dX11_put_24 : decode cX11_put 24 = .ok (.iload_n 2, 1) := by decide +kernel
theorem dX11_put_25 : decode cX11_put 25 = .ok (.iconst 0, 1) := by decide +kernel
theorem dX11_put_26 : decode cX11_put 26 = .ok (.aload_n 0, 1) := by decide +kernel
theorem dX11_put_27 : decode cX11_put 27 = .ok (.getfield 22, 3) := by decide +kernel
theorem dX11_put_30 : decode cX11_put 30 = .ok (.iload_n 1, 1) := by decide +kernel
theorem dX11_put_31 : decode cX11_put 31 = .ok (.iaload, 1) := by decide +kernel
theorem dX11_put_32 : decode cX11_put 32 = .ok (.iconst 1, 1) := by decide +kernel
theorem dX11_put_33 : decode cX11_put 33 = .ok (.isub, 1) := by decide +kernel
theorem dX11_put_34 : decode cX11_put 34 = .ok (.invokestatic 76, 3) := by decide +kernel
theorem dX11_put_37 : decode cX11_put 37 = .ok (.ifCond .ne 9, 3) := by decide +kernel
theorem dX11_put_40 : decode cX11_put 40 = .ok (.aload_n 0, 1) := by decide +kernel
theorem dX11_put_41 : decode cX11_put 41 = .ok (.iconst 2, 1) := by decide +kernel
theorem dX11_put_42 : decode cX11_put 42 = .ok (.invokevirtual 90, 3) := by decide +kernel
theorem dX11_put_45 : decode cX11_put 45 = .ok (.ireturn, 1) := by decide +kernel
theorem dX11_put_46 : decode cX11_put 46 = .ok (.aload_n 0, 1) := by decide +kernel
theorem dX11_put_47 : decode cX11_put 47 = .ok (.getfield 25, 3) := by decide +kernel
theorem dX11_put_50 : decode cX11_put 50 = .ok (.bipush 100, 2) := by decide +kernel
theorem dX11_put_52 : decode cX11_put 52 = .ok (.iload_n 1, 1) := by decide +kernel
theorem dX11_put_53 : decode cX11_put 53 = .ok (.imul, 1) := by decide +kernel
theorem dX11_put_54 : decode cX11_put 54 = .ok (.iload_n 2, 1) := by decide +kernel
theorem dX11_put_55 : decode cX11_put 55 = .ok (.iadd, 1) := by decide +kernel
theorem dX11_put_56 : decode cX11_put 56 = .ok (.baload, 1) := by decide +kernel
theorem dX11_put_57 : decode cX11_put 57 = .ok (.istore 4, 2) := by decide +kernel
theorem dX11_put_59 : decode cX11_put 59 = .ok (.aload_n 0, 1) := by decide +kernel
theorem dX11_put_60 : decode cX11_put 60 = .ok (.getfield 25, 3) := by decide +kernel
theorem dX11_put_63 : decode cX11_put 63 = .ok (.bipush 100, 2) := by decide +kernel
theorem dX11_put_65 : decode cX11_put 65 = .ok (.iload_n 1, 1) := by decide +kernel
theorem dX11_put_66 : decode cX11_put 66 = .ok (.imul, 1) := by decide +kernel
theorem dX11_put_67 : decode cX11_put 67 = .ok (.iload_n 2, 1) := by decide +kernel
theorem dX11_put_68 : decode cX11_put 68 = .ok (.iadd, 1) := by decide +kernel
theorem dX11_put_69 : decode cX11_put 69 = .ok (.iload_n 3, 1) := by decide +kernel
theorem dX11_put_70 : decode cX11_put 70 = .ok (.i2b, 1) := by decide +kernel
theorem dX11_put_71 : decode cX11_put 71 = .ok (.bastore, 1) := by decide +kernel
theorem dX11_put_72 : decode cX11_put 72 = .ok (.sipush 1000, 3) := by decide +kernel
theorem dX11_put_75 : decode cX11_put 75 = .ok (.iload 4, 2) := by decide +kernel
theorem dX11_put_77 : decode cX11_put 77 = .ok (.iadd, 1) := by decide +kernel
theorem dX11_put_78 : decode cX11_put 78 = .ok (.ireturn, 1) := by decide +kernel
theorem dX11_byteAt_0 : decode cX11_byteAt 0 = .ok (.iload_n 2, 1) := by decide +kernel
theorem dX11_byteAt_1 : decode cX11_byteAt 1 = .ok (.aload_n 0, 1) := by decide +kernel
theorem dX11_byteAt_2 : decode cX11_byteAt 2 = .ok (.getfield 22, 3) := by decide +kernel
theorem dX11_byteAt_5 : decode cX11_byteAt 5 = .ok (.iload_n 1, 1) := by decide +kernel
theorem dX11_byteAt_6 : decode cX11_byteAt 6 = .ok (.iaload, 1) := by decide +kernel
theorem dX11_byteAt_7 : decode cX11_byteAt 7 = .ok (.if_icmp .ge 17, 3) := by decide +kernel
theorem dX11_byteAt_10 : decode cX11_byteAt 10 = .ok (.aload_n 0, 1) := by decide +kernel
theorem dX11_byteAt_11 : decode cX11_byteAt 11 = .ok (.getfield 25, 3) := by decide +kernel
theorem dX11_byteAt_14 : decode cX11_byteAt 14 = .ok (.bipush 100, 2) := by decide +kernel
theorem dX11_byteAt_16 : decode cX11_byteAt 16 = .ok (.iload_n 1, 1) := by decide +kernel
theorem dX11_byteAt_17 : decode cX11_byteAt 17 = .ok (.imul, 1) := by decide +kernel
theorem dX11_byteAt_18 : decode cX11_byteAt 18 = .ok (.iload_n 2, 1) := by decide +kernel
theorem dX11_byteAt_19 : decode cX11_byteAt 19 = .ok (.iadd, 1) := by decide +kernel
theorem dX11_byteAt_20 : decode cX11_byteAt 20 = .ok (.baload, 1) := by decide +kernel
theorem dX11_byteAt_21 : decode cX11_byteAt 21 = .ok (.goto 4, 3) := by decide +kernel
theorem dX11_byteAt_24 : decode cX11_byteAt 24 = .ok (.iconst 0, 1) := by decide +kernel
theorem dX11_byteAt_25 : decode cX11_byteAt 25 = .ok (.ireturn, 1) := by decide +kernel
set_option maxRecDepth 20000 in
theorem ggX11_figure_X11_byteAt : GoodIn wsX11_figure wsX11_byteAt := goodIn_r _ [7, 8, 9, 13, 14, 15, 16, 17, 18, 19, 20, 21, 22, 23, 24, 25, 26, 27, 28, 29, 30, 31, 32, 33, 34, 35, 36, 37, 38, 39, 40, 41, 42, 43] (by decide +kernel) (by decide +kernel)
set_option maxRecDepth 20000 in
theorem gX11_figure_X11_byteAt : GoodIn wsX11_figure (wsV RX11 107 RX11 yX11_byteAt wsX11_byteAt) := goodIn_app (goodIn_of _ (by decide +kernel)) ggX11_figure_X11_byteAt
set_option maxRecDepth 20000 in
theorem ggX11_figure_X11_in : GoodIn wsX11_figure wsX11_in := goodIn_r _ [12] (by decide +kernel) (by decide +kernel)
set_option maxRecDepth 20000 in
theorem gX11_figure_X11_in : GoodIn wsX11_figure (va_wsS RX11 76 yX11_in wsX11_in) := goodIn_app (goodIn_of _ (by decide +kernel)) ggX11_figure_X11_in
theorem dX11_figure_0 : decode cX11_figure 0 = .ok (.aload_n 0, 1) := by decide +kernel
theorem dX11_figure_1 : decode cX11_figure 1 = .ok (.aload_n 0, 1) := by decide +kernel
theorem dX11_figure_2 : decode cX11_figure 2 = .ok (.iload_n 1, 1) := by decide +kernel
theorem dX11_figure_3 : decode cX11_figure 3 = .ok (.aload_n 0, 1) := by decide +kernel
theorem dX11_figure_4 : decode cX11_figure 4 = .ok (.getfield 104, 3) := by decide +kernel
theorem dX11_figure_7 : decode cX11_figure 7 = .ok (.invokevirtual 107, 3) := by decide +kernel
theorem dX11_figure_10 : decode cX11_figure 10 = .ok (.bipush 48, 2) := by decide +kernel
theorem dX11_figure_12 : decode cX11_figure 12 = .ok (.isub, 1) := by decide +kernel
theorem dX11_figure_13 : decode cX11_figure 13 = .ok (.putfield 110, 3) := by decide +kernel
theorem dX11_figure_16 : decode cX11_figure 16 = .ok (.aload_n 0, 1) := by decide +kernel
theorem dX11_figure_17 : decode cX11_figure 17 = .ok (.getfield 110, 3) := by decide +kernel
theorem dX11_figure_20 : decode cX11_figure 20 = .ok (.iload_n 2, 1) := by decide +kernel
theorem dX11_figure_21 : decode cX11_figure 21 = .ok (.iload_n 3, 1) := by decide +kernel
theorem dX11_figure_22 : decode cX11_figure 22 = .ok (.invokestatic 76, 3) := by decide +kernel
theorem dX11_figure_25 : decode cX11_figure 25 = .ok (.istore 4, 2) := by decide +kernel
theorem dX11_figure_27 : decode cX11_figure 27 = .ok (.aload_n 0, 1) := by decide +kernel
theorem dX11_figure_28 : decode cX11_figure 28 = .ok (.dup, 1) := by decide +kernel
theorem dX11_figure_29 : decode cX11_figure 29 = .ok (.getfield 104, 3) := by decide +kernel
theorem dX11_figure_32 : decode cX11_figure 32 = .ok (.iload 4, 2) := by decide +kernel
theorem dX11_figure_34 : decode cX11_figure 34 = .ok (.ifCond .eq 7, 3) := by decide +kernel
theorem dX11_figure_37 : decode cX11_figure 37 = .ok (.iconst 1, 1) := by decide +kernel
theorem dX11_figure_38 : decode cX11_figure 38 = .ok (.goto 4, 3) := by decide +kernel
theorem dX11_figure_41 : decode cX11_figure 41 = .ok (.iconst 0, 1) := by decide +kernel
theorem dX11_figure_42 : decode cX11_figure 42 = .ok (.iadd, 1) := by decide +kernel
theorem dX11_figure_43 : decode cX11_figure 43 = .ok (.putfield 104, 3) := by decide +kernel
theorem dX11_figure_46 : decode cX11_figure 46 = .ok (.iload 4, 2) := by decide +kernel
theorem dX11_figure_48 : decode cX11_figure 48 = .ok (.ireturn, 1) := by decide +kernel
set_option maxRecDepth 20000 in
theorem ggX11_letter_X11_byteAt : GoodIn wsX11_letter wsX11_byteAt := goodIn_r _ [8, 9, 10, 14, 15, 16, 17, 18, 19, 20, 21, 22, 23, 24, 25, 26, 27, 28, 29, 30, 31, 32, 33, 34, 35, 36, 37, 38, 39, 40, 41, 42, 43, 44] (by decide +kernel) (by decide +kernel)
set_option maxRecDepth 20000 in
theorem gX11_letter_X11_byteAt : GoodIn wsX11_letter (wsV RX11 107 RX11 yX11_byteAt wsX11_byteAt) := goodIn_app (goodIn_of _ (by decide +kernel)) ggX11_letter_X11_byteAt
set_option maxRecDepth 20000 in
theorem ggX11_letter_X11_in : GoodIn wsX11_letter wsX11_in := goodIn_r _ [13] (by decide +kernel) (by decide +kernel)
set_option maxRecDepth 20000 in
theorem gX11_letter_X11_in : GoodIn wsX11_letter (va_wsS RX11 76 yX11_in wsX11_in) := goodIn_app (goodIn_of _ (by decide +kernel)) ggX11_letter_X11_in
theorem dX11_letter_0 : decode cX11_letter 0 = .ok (.aload_n 0, 1) := by decide +kernel
theorem dX11_letter_1 : decode cX11_letter 1 = .ok (.aload_n 0, 1) := by decide +kernel
theorem dX11_letter_2 : decode cX11_letter 2 = .ok (.iload_n 1, 1) := by decide +kernel
theorem dX11_letter_3 : decode cX11_letter 3 = .ok (.aload_n 0, 1) := by decide +kernel
theorem dX11_letter_4 : decode cX11_letter 4 = .ok (.getfield 104, 3) := by decide +kernel
theorem dX11_letter_7 : decode cX11_letter 7 = .ok (.invokevirtual 107, 3) := by decide +kernel
theorem dX11_letter_10 : decode cX11_letter 10 = .ok (.bipush 65, 2) := by decide +kernel
theorem dX11_letter_12 : decode cX11_letter 12 = .ok (.isub, 1) := by decide +kernel
theorem dX11_letter_13 : decode cX11_letter 13 = .ok (.putfield 110, 3) := by decide +kernel
theorem dX11_letter_16 : decode cX11_letter 16 = .ok (.aload_n 0, 1) := by decide +kernel
theorem dX11_letter_17 : decode cX11_letter 17 = .ok (.getfield 110, 3) := by decide +kernel
theorem dX11_letter_20 : decode cX11_letter 20 = .ok (.iconst 0, 1) := by decide +kernel
theorem dX11_letter_21 : decode cX11_letter 21 = .ok (.aload_n 0, 1) := by decide +kernel
theorem dX11_letter_22 : decode cX11_letter 22 = .ok (.getfield 113, 3) := by decide +kernel
theorem dX11_letter_25 : decode cX11_letter 25 = .ok (.iconst 1, 1) := by decide +kernel
theorem dX11_letter_26 : decode cX11_letter 26 = .ok (.isub, 1) := by decide +kernel
theorem dX11_letter_27 : decode cX11_letter 27 = .ok (.invokestatic 76, 3) := by decide +kernel
theorem dX11_letter_30 : decode cX11_letter 30 = .ok (.ifCond .eq 23, 3) := by decide +kernel
theorem dX11_letter_33 : decode cX11_letter 33 = .ok (.aload_n 0, 1) := by decide +kernel
theorem dX11_letter_34 : decode cX11_letter 34 = .ok (.getfield 110, 3) := by decide +kernel
theorem dX11_letter_37 : decode cX11_letter 37 = .ok (.iload_n 2, 1) := by decide +kernel
theorem dX11_letter_38 : decode cX11_letter 38 = .ok (.if_icmp .eq 15, 3) := by decide +kernel
theorem dX11_letter_41 : decode cX11_letter 41 = .ok (.aload_n 0, 1) := by decide +kernel
theorem dX11_letter_42 : decode cX11_letter 42 = .ok (.getfield 110, 3) := by decide +kernel
theorem dX11_letter_45 : decode cX11_letter 45 = .ok (.iload_n 3, 1) := by decide +kernel
theorem dX11_letter_46 : decode cX11_letter 46 = .ok (.if_icmp .eq 7, 3) := by decide +kernel
theorem dX11_letter_49 : decode cX11_letter 49 = .ok (.iconst 1, 1) := by decide +kernel
theorem dX11_letter_50 : decode cX11_letter 50 = .ok (.goto 4, 3) := by decide +kernel
theorem dX11_letter_53 : decode cX11_letter 53 = .ok (.iconst 0, 1) := by decide +kernel
theorem dX11_letter_54 : decode cX11_letter 54 = .ok (.istore 4, 2) := by decide +kernel
theorem dX11_letter_56 : decode cX11_letter 56 = .ok (.aload_n 0, 1) := by decide +kernel
theorem dX11_letter_57 : decode cX11_letter 57 = .ok (.dup, 1) := by decide +kernel
theorem dX11_letter_58 : decode cX11_letter 58 = .ok (.getfield 104, 3) := by decide +kernel
theorem dX11_letter_61 : decode cX11_letter 61 = .ok (.iload 4, 2) := by decide +kernel
theorem dX11_letter_63 : decode cX11_letter 63 = .ok (.ifCond .eq 7, 3) := by decide +kernel
theorem dX11_letter_66 : decode cX11_letter 66 = .ok (.iconst 1, 1) := by decide +kernel
theorem dX11_letter_67 : decode cX11_letter 67 = .ok (.goto 4, 3) := by decide +kernel
theorem dX11_letter_70 : decode cX11_letter 70 = .ok (.iconst 0, 1) := by decide +kernel
theorem dX11_letter_71 : decode cX11_letter 71 = .ok (.iadd, 1) := by decide +kernel
theorem dX11_letter_72 : decode cX11_letter 72 = .ok (.putfield 104, 3) := by decide +kernel
theorem dX11_letter_75 : decode cX11_letter 75 = .ok (.iload 4, 2) := by decide +kernel
theorem dX11_letter_77 : decode cX11_letter 77 = .ok (.ireturn, 1) := by decide +kernel
theorem dX11_readsNew_0 : decode cX11_readsNew 0 = .ok (.aload_n 0, 1) := by decide +kernel
theorem dX11_readsNew_1 : decode cX11_readsNew 1 = .ok (.getfield 35, 3) := by decide +kernel
theorem dX11_readsNew_4 : decode cX11_readsNew 4 = .ok (.iconst 4, 1) := by decide +kernel
theorem dX11_readsNew_5 : decode cX11_readsNew 5 = .ok (.iload_n 1, 1) := by decide +kernel
theorem dX11_readsNew_6 : decode cX11_readsNew 6 = .ok (.imul, 1) := by decide +kernel
theorem dX11_readsNew_7 : decode cX11_readsNew 7 = .ok (.iload_n 2, 1) := by decide +kernel
theorem dX11_readsNew_8 : decode cX11_readsNew 8 = .ok (.iastore, 1) := by decide +kernel
theorem dX11_readsNew_9 : decode cX11_readsNew 9 = .ok (.aload_n 0, 1) := by decide +kernel
theorem dX11_readsNew_10 : decode cX11_readsNew 10 = .ok (.getfield 35, 3) := by decide +kernel
theorem dX11_readsNew_13 : decode cX11_readsNew 13 = .ok (.iconst 4, 1) := by decide +kernel
theorem dX11_readsNew_14 : decode cX11_readsNew 14 = .ok (.iload_n 1, 1) := by decide +kernel
theorem dX11_readsNew_15 : decode cX11_readsNew 15 = .ok (.imul, 1) := by decide +kernel
theorem dX11_readsNew_16 : decode cX11_readsNew 16 = .ok (.iconst 1, 1) := by decide +kernel
theorem dX11_readsNew_17 : decode cX11_readsNew 17 = .ok (.iadd, 1) := by decide +kernel
theorem dX11_readsNew_18 : decode cX11_readsNew 18 = .ok (.iload_n 3, 1) := by decide +kernel
theorem dX11_readsNew_19 : decode cX11_readsNew 19 = .ok (.iastore, 1) := by decide +kernel
theorem dX11_readsNew_20 : decode cX11_readsNew 20 = .ok (.aload_n 0, 1) := by decide +kernel
theorem dX11_readsNew_21 : decode cX11_readsNew 21 = .ok (.getfield 35, 3) := by decide +kernel
theorem dX11_readsNew_24 : decode cX11_readsNew 24 = .ok (.iconst 4, 1) := by decide +kernel
theorem dX11_readsNew_25 : decode cX11_readsNew 25 = .ok (.iload_n 1, 1) := by decide +kernel
theorem dX11_readsNew_26 : decode cX11_readsNew 26 = .ok (.imul, 1) := by decide +kernel
theorem dX11_readsNew_27 : decode cX11_readsNew 27 = .ok (.iconst 2, 1) := by decide +kernel
theorem dX11_readsNew_28 : decode cX11_readsNew 28 = .ok (.iadd, 1) := by decide +kernel
theorem dX11_readsNew_29 : decode cX11_readsNew 29 = .ok (.iload 4, 2) := by decide +kernel
theorem dX11_readsNew_31 : decode cX11_readsNew 31 = .ok (.iastore, 1) := by decide +kernel
theorem dX11_readsNew_32 : decode cX11_readsNew 32 = .ok (.aload_n 0, 1) := by decide +kernel
theorem dX11_readsNew_33 : decode cX11_readsNew 33 = .ok (.getfield 35, 3) := by decide +kernel
theorem dX11_readsNew_36 : decode cX11_readsNew 36 = .ok (.iconst 4, 1) := by decide +kernel
theorem dX11_readsNew_37 : decode cX11_readsNew 37 = .ok (.iload_n 1, 1) := by decide +kernel
theorem dX11_readsNew_38 : decode cX11_readsNew 38 = .ok (.imul, 1) := by decide +kernel
theorem dX11_readsNew_39 : decode cX11_readsNew 39 = .ok (.iconst 3, 1) := by decide +kernel
theorem dX11_readsNew_40 : decode cX11_readsNew 40 = .ok (.iadd, 1) := by decide +kernel
theorem dX11_readsNew_41 : decode cX11_readsNew 41 = .ok (.iload 5, 2) := by decide +kernel
theorem dX11_readsNew_43 : decode cX11_readsNew 43 = .ok (.iastore, 1) := by decide +kernel
theorem dX11_readsNew_44 : decode cX11_readsNew 44 = .ok (.return_, 1) := by decide +kernel
set_option maxRecDepth 20000 in
theorem ggX11_readsCells_X11_byteAt : GoodIn wsX11_readsCells wsX11_byteAt := goodIn_r _ [9, 10, 11, 24, 25, 26, 27, 28, 29, 30, 31, 32, 33, 34, 35, 36, 37, 38, 39, 40, 41, 42, 43, 44, 45, 46, 47, 48, 49, 50, 51, 52, 53, 54] (by decide +kernel) (by decide +kernel)
set_option maxRecDepth 20000 in
theorem gX11_readsCells_X11_byteAt : GoodIn wsX11_readsCells (wsV RX11 107 RX11 yX11_byteAt wsX11_byteAt) := goodIn_app (goodIn_of _ (by decide +kernel)) ggX11_readsCells_X11_byteAt
set_option maxRecDepth 20000 in
theorem ggX11_readsCells_X11_figure : GoodIn wsX11_readsCells wsX11_figure := goodIn_r _ [15, 1, 2, 5, 6, 7, 8, 9, 10, 11, 16, 17, 18, 24, 25, 26, 27, 28, 29, 30, 31, 32, 33, 34, 35, 36, 37, 38, 39, 40, 41, 42, 43, 44, 45, 46, 47, 48, 49, 50, 51, 52, 53, 54] (by decide +kernel) (by decide +kernel)
set_option maxRecDepth 20000 in
theorem gX11_readsCells_X11_figure : GoodIn wsX11_readsCells (wsV RX11 116 RX11 yX11_figure wsX11_figure) := goodIn_app (goodIn_of _ (by decide +kernel)) ggX11_readsCells_X11_figure
set_option maxRecDepth 20000 in
theorem ggX11_readsCells_X11_readsNew : GoodIn wsX11_readsCells wsX11_readsNew := goodIn_r _ [22, 23, 24, 25, 26, 27, 28, 29, 30, 31, 32, 33, 34, 35, 36, 37, 38, 39, 40, 41, 42, 43, 44, 45, 46, 47, 48, 49, 50, 51, 52, 53, 54] (by decide +kernel) (by decide +kernel)
set_option maxRecDepth 20000 in
theorem gX11_readsCells_X11_readsNew : GoodIn wsX11_readsCells (wsV RX11 119 RX11 yX11_readsNew wsX11_readsNew) := goodIn_app (goodIn_of _ (by decide +kernel)) ggX11_readsCells_X11_readsNew
theorem dX11_readsCells_0 : decode cX11_readsCells 0 = .ok (.aload_n 0, 1) := by decide +kernel
theorem dX11_readsCells_1 : decode cX11_readsCells 1 = .ok (.iload_n 1, 1) := by decide +kernel
theorem dX11_readsCells_2 : decode cX11_readsCells 2 = .ok (.aload_n 0, 1) := by decide +kernel
theorem dX11_readsCells_3 : decode cX11_readsCells 3 = .ok (.getfield 104, 3) := by decide +kernel
theorem dX11_readsCells_6 : decode cX11_readsCells 6 = .ok (.invokevirtual 107, 3) := by decide +kernel
theorem dX11_readsCells_9 : decode cX11_readsCells 9 = .ok (.bipush 110, 2) := by decide +kernel
theorem dX11_readsCells_11 : decode cX11_readsCells 11 = .ok (.if_icmp .eq 5, 3) := by decide +kernel
theorem dX11_readsCells_14 : decode cX11_readsCells 14 = .ok (.iconst 0, 1) := by decide +kernel
theorem dX11_readsCells_15 : decode cX11_readsCells 15 = .ok (.ireturn, 1) := by decide +kernel
theorem dX11_readsCells_16 : decode cX11_readsCells 16 = .ok (.aload_n 0, 1) := by decide +kernel
theorem dX11_readsCells_17 : decode cX11_readsCells 17 = .ok (.dup, 1) := by decide +kernel
theorem dX11_readsCells_18 : decode cX11_readsCells 18 = .ok (.getfield 104, 3) := by decide +kernel
theorem dX11_readsCells_21 : decode cX11_readsCells 21 = .ok (.iconst 1, 1) := by decide +kernel
theorem dX11_readsCells_22 : decode cX11_readsCells 22 = .ok (.iadd, 1) := by decide +kernel
theorem dX11_readsCells_23 : decode cX11_readsCells 23 = .ok (.putfield 104, 3) := by decide +kernel
theorem dX11_readsCells_26 : decode cX11_readsCells 26 = .ok (.aload_n 0, 1) := by decide +kernel
theorem dX11_readsCells_27 : decode cX11_readsCells 27 = .ok (.iload_n 1, 1) := by decide +kernel
theorem dX11_readsCells_28 : decode cX11_readsCells 28 = .ok (.iconst 2, 1) := by decide +kernel
theorem dX11_readsCells_29 : decode cX11_readsCells 29 = .ok (.bipush 8, 2) := by decide +kernel
theorem dX11_readsCells_31 : decode cX11_readsCells 31 = .ok (.invokevirtual 116, 3) := by decide +kernel
theorem dX11_readsCells_34 : decode cX11_readsCells 34 = .ok (.ifCond .ne 5, 3) := by decide +kernel
theorem dX11_readsCells_37 : decode cX11_readsCells 37 = .ok (.iconst 0, 1) := by decide +kernel
theorem dX11_readsCells_38 : decode cX11_readsCells 38 = .ok (.ireturn, 1) := by decide +kernel
theorem dX11_readsCells_39 : decode cX11_readsCells 39 = .ok (.aload_n 0, 1) := by decide +kernel
theorem dX11_readsCells_40 : decode cX11_readsCells 40 = .ok (.aload_n 0, 1) := by decide +kernel
theorem dX11_readsCells_41 : decode cX11_readsCells 41 = .ok (.getfield 110, 3) := by decide +kernel
theorem dX11_readsCells_44 : decode cX11_readsCells 44 = .ok (.putfield 113, 3) := by decide +kernel
theorem dX11_readsCells_47 : decode cX11_readsCells 47 = .ok (.iconst 0, 1) := by decide +kernel
theorem dX11_readsCells_48 : decode cX11_readsCells 48 = .ok (.istore_n 2, 1) := by decide +kernel
theorem dX11_readsCells_49 : decode cX11_readsCells 49 = .ok (.iload_n 2, 1) := by decide +kernel
theorem dX11_readsCells_50 : decode cX11_readsCells 50 = .ok (.aload_n 0, 1) := by decide +kernel
theorem dX11_readsCells_51 : decode cX11_readsCells 51 = .ok (.getfield 113, 3) := by decide +kernel
theorem dX11_readsCells_54 : decode cX11_readsCells 54 = .ok (.if_icmp .ge 33, 3) := by decide +kernel
theorem dX11_readsCells_57 : decode cX11_readsCells 57 = .ok (.aload_n 0, 1) := by decide +kernel
theorem dX11_readsCells_58 : decode cX11_readsCells 58 = .ok (.iload_n 2, 1) := by decide +kernel
theorem dX11_readsCells_59 : decode cX11_readsCells 59 = .ok (.iconst 0, 1) := by decide +kernel
theorem dX11_readsCells_60 : decode cX11_readsCells 60 = .ok (.iload_n 2, 1) := by decide +kernel
theorem dX11_readsCells_61 : decode cX11_readsCells 61 = .ok (.iconst 1, 1) := by decide +kernel
theorem dX11_readsCells_62 : decode cX11_readsCells 62 = .ok (.iadd, 1) := by decide +kernel
theorem dX11_readsCells_63 : decode cX11_readsCells 63 = .ok (.aload_n 0, 1) := by decide +kernel
theorem dX11_readsCells_64 : decode cX11_readsCells 64 = .ok (.getfield 113, 3) := by decide +kernel
theorem dX11_readsCells_67 : decode cX11_readsCells 67 = .ok (.irem, 1) := by decide +kernel
theorem dX11_readsCells_68 : decode cX11_readsCells 68 = .ok (.bipush (-9), 2) := by decide +kernel
theorem dX11_readsCells_70 : decode cX11_readsCells 70 = .ok (.iconst 0, 1) := by decide +kernel
theorem dX11_readsCells_71 : decode cX11_readsCells 71 = .ok (.invokevirtual 119, 3) := by decide +kernel
theorem dX11_readsCells_74 : decode cX11_readsCells 74 = .ok (.aload_n 0, 1) := by decide +kernel
theorem dX11_readsCells_75 : decode cX11_readsCells 75 = .ok (.getfield 38, 3) := by decide +kernel
theorem dX11_readsCells_78 : decode cX11_readsCells 78 = .ok (.iload_n 2, 1) := by decide +kernel
theorem dX11_readsCells_79 : decode cX11_readsCells 79 = .ok (.iconst 0, 1) := by decide +kernel
theorem dX11_readsCells_80 : decode cX11_readsCells 80 = .ok (.iastore, 1) := by decide +kernel
theorem dX11_readsCells_81 : decode cX11_readsCells 81 = .ok (.iinc 2 1, 3) := by decide +kernel
theorem dX11_readsCells_84 : decode cX11_readsCells 84 = .ok (.goto (-35), 3) := by decide +kernel
theorem dX11_readsCells_87 : decode cX11_readsCells 87 = .ok (.iconst 1, 1) := by decide +kernel
theorem dX11_readsCells_88 : decode cX11_readsCells 88 = .ok (.ireturn, 1) := by decide +kernel
set_option maxRecDepth 20000 in
theorem ggX11_readsItem_X11_byteAt : GoodIn wsX11_readsItem wsX11_byteAt := goodIn_r _ [8, 9, 10, 28, 29, 30, 31, 32, 33, 34, 35, 36, 37, 38, 39, 40, 41, 42, 43, 44, 45, 46, 47, 48, 49, 50, 51, 52, 53, 54, 55, 56, 57, 58] (by decide +kernel) (by decide +kernel)
set_option maxRecDepth 20000 in
theorem gX11_readsItem_X11_byteAt : GoodIn wsX11_readsItem (wsV RX11 107 RX11 yX11_byteAt wsX11_byteAt) := goodIn_app (goodIn_of _ (by decide +kernel)) ggX11_readsItem_X11_byteAt
set_option maxRecDepth 20000 in
theorem ggX11_readsItem_X11_letter : GoodIn wsX11_readsItem wsX11_letter := goodIn_r _ [14, 1, 2, 15, 4, 5, 6, 7, 8, 9, 10, 16, 17, 18, 28, 29, 30, 31, 32, 33, 34, 35, 36, 37, 38, 39, 40, 41, 42, 43, 44, 45, 46, 47, 48, 49, 50, 51, 52, 53, 54, 55, 56, 57, 58] (by decide +kernel) (by decide +kernel)
set_option maxRecDepth 20000 in
theorem gX11_readsItem_X11_letter : GoodIn wsX11_readsItem (wsV RX11 123 RX11 yX11_letter wsX11_letter) := goodIn_app (goodIn_of _ (by decide +kernel)) ggX11_readsItem_X11_letter
set_option maxRecDepth 20000 in
theorem ggX11_readsItem_X11_readsNew : GoodIn wsX11_readsItem wsX11_readsNew := goodIn_r _ [22, 23, 28, 29, 30, 31, 32, 33, 34, 35, 36, 37, 38, 39, 40, 41, 42, 43, 44, 45, 46, 47, 48, 49, 50, 51, 52, 53, 54, 55, 56, 57, 58] (by decide +kernel) (by decide +kernel)
set_option maxRecDepth 20000 in
theorem gX11_readsItem_X11_readsNew : GoodIn wsX11_readsItem (wsV RX11 119 RX11 yX11_readsNew wsX11_readsNew) := goodIn_app (goodIn_of _ (by decide +kernel)) ggX11_readsItem_X11_readsNew
set_option maxRecDepth 20000 in
theorem ggX11_readsItem_X11_figure : GoodIn wsX11_readsItem wsX11_figure := goodIn_r _ [27, 1, 2, 4, 5, 6, 7, 8, 9, 10, 16, 17, 18, 28, 29, 30, 31, 32, 33, 34, 35, 36, 37, 38, 39, 40, 41, 42, 43, 44, 45, 46, 47, 48, 49, 50, 51, 52, 53, 54, 55, 56, 57, 58] (by decide +kernel) (by decide +kernel)
set_option maxRecDepth 20000 in
theorem gX11_readsItem_X11_figure : GoodIn wsX11_readsItem (wsV RX11 116 RX11 yX11_figure wsX11_figure) := goodIn_app (goodIn_of _ (by decide +kernel)) ggX11_readsItem_X11_figure
theorem dX11_readsItem_0 : decode cX11_readsItem 0 = .ok (.aload_n 0, 1) := by decide +kernel
theorem dX11_readsItem_1 : decode cX11_readsItem 1 = .ok (.iload_n 1, 1) := by decide +kernel
theorem dX11_readsItem_2 : decode cX11_readsItem 2 = .ok (.aload_n 0, 1) := by decide +kernel
theorem dX11_readsItem_3 : decode cX11_readsItem 3 = .ok (.getfield 104, 3) := by decide +kernel
theorem dX11_readsItem_6 : decode cX11_readsItem 6 = .ok (.invokevirtual 107, 3) := by decide +kernel
theorem dX11_readsItem_9 : decode cX11_readsItem 9 = .ok (.istore_n 2, 1) := by decide +kernel
theorem dX11_readsItem_10 : decode cX11_readsItem 10 = .ok (.iload_n 2, 1) := by decide +kernel
theorem dX11_readsItem_11 : decode cX11_readsItem 11 = .ok (.bipush 107, 2) := by decide +kernel
theorem dX11_readsItem_13 : decode cX11_readsItem 13 = .ok (.if_icmp .eq 41, 3) := by decide +kernel
theorem dX11_readsItem_16 : decode cX11_readsItem 16 = .ok (.iload_n 2, 1) := by decide +kernel
theorem dX11_readsItem_17 : decode cX11_readsItem 17 = .ok (.bipush 116, 2) := by decide +kernel
theorem dX11_readsItem_19 : decode cX11_readsItem 19 = .ok (.if_icmp .eq 35, 3) := by decide +kernel
theorem dX11_readsItem_22 : decode cX11_readsItem 22 = .ok (.iload_n 2, 1) := by decide +kernel
theorem dX11_readsItem_23 : decode cX11_readsItem 23 = .ok (.bipush 105, 2) := by decide +kernel
theorem dX11_readsItem_25 : decode cX11_readsItem 25 = .ok (.if_icmp .eq 29, 3) := by decide +kernel
theorem dX11_readsItem_28 : decode cX11_readsItem 28 = .ok (.iload_n 2, 1) := by decide +kernel
theorem dX11_readsItem_29 : decode cX11_readsItem 29 = .ok (.bipush 108, 2) := by decide +kernel
theorem dX11_readsItem_31 : decode cX11_readsItem 31 = .ok (.if_icmp .eq 23, 3) := by decide +kernel
theorem dX11_readsItem_34 : decode cX11_readsItem 34 = .ok (.iload_n 2, 1) := by decide +kernel
theorem dX11_readsItem_35 : decode cX11_readsItem 35 = .ok (.bipush 115, 2) := by decide +kernel
theorem dX11_readsItem_37 : decode cX11_readsItem 37 = .ok (.if_icmp .eq 17, 3) := by decide +kernel
theorem dX11_readsItem_40 : decode cX11_readsItem 40 = .ok (.iload_n 2, 1) := by decide +kernel
theorem dX11_readsItem_41 : decode cX11_readsItem 41 = .ok (.bipush 98, 2) := by decide +kernel
theorem dX11_readsItem_43 : decode cX11_readsItem 43 = .ok (.if_icmp .eq 11, 3) := by decide +kernel
theorem dX11_readsItem_46 : decode cX11_readsItem 46 = .ok (.iload_n 2, 1) := by decide +kernel
