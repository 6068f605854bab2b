set_option maxRecDepth 20000 in
theorem ggX0_init_X2_init : GoodIn wsX0_init wsX2_init := goodIn_r _ [16, 17, 2, 3, 12, 18, 19, 20, 21, 22, 27, 28, 29, 30, 31, 32, 33, 34] (by decide +kernel) (by decide +kernel)
set_option maxRecDepth 20000 in
theorem gX0_init_X2_init_n11 : GoodIn wsX0_init (wsX2_init) := ggX0_init_X2_init
set_option maxRecDepth 20000 in
theorem ggX0_init_X4_init : GoodIn wsX0_init wsX4_init := goodIn_r _ [24, 25, 2, 3, 12, 26, 39, 40] (by decide +kernel) (by decide +kernel)
set_option maxRecDepth 20000 in
theorem gX0_init_X4_init_n20 : GoodIn wsX0_init (wsX4_init) := ggX0_init_X4_init
theorem dX0_init_0 : decode cX0_init 0 = .ok (.aload_n 0, 1) := by decide +kernel
theorem dX0_init_1 : decode cX0_init 1 = .ok (.invokespecial 3, 3) := by decide +kernel
theorem dX0_init_4 : decode cX0_init 4 = .ok (.aload_n 0, 1) := by decide +kernel
theorem dX0_init_5 : decode cX0_init 5 = .ok (.new 9, 3) := by decide +kernel
theorem dX0_init_8 : decode cX0_init 8 = .ok (.dup, 1) := by decide +kernel
theorem dX0_init_9 : decode cX0_init 9 = .ok (.invokespecial 11, 3) := by decide +kernel
theorem dX0_init_12 : decode cX0_init 12 = .ok (.putfield 12, 3) := by decide +kernel
theorem dX0_init_15 : decode cX0_init 15 = .ok (.aload_n 0, 1) := by decide +kernel
theorem dX0_init_16 : decode cX0_init 16 = .ok (.new 18, 3) := by decide +kernel
theorem dX0_init_19 : decode cX0_init 19 = .ok (.dup, 1) := by decide +kernel
theorem dX0_init_20 : decode cX0_init 20 = .ok (.invokespecial 20, 3) := by decide +kernel
theorem dX0_init_23 : decode cX0_init 23 = .ok (.putfield 21, 3) := by decide +kernel
theorem dX0_init_26 : decode cX0_init 26 = .ok (.aload_n 0, 1) := by decide +kernel
theorem dX0_init_27 : decode cX0_init 27 = .ok (.iconst 5, 1) := by decide +kernel
theorem dX0_init_28 : decode cX0_init 28 = .ok (.newarray .int, 2) := by decide +kernel
theorem dX0_init_30 : decode cX0_init 30 = .ok (.putfield 25, 3) := by decide +kernel
theorem dX0_init_33 : decode cX0_init 33 = .ok (.aload_n 0, 1) := by decide +kernel
theorem dX0_init_34 : decode cX0_init 34 = .ok (.bipush 8, 2) := by decide +kernel
theorem dX0_init_36 : decode cX0_init 36 = .ok (.newarray .int, 2) := by decide +kernel
theorem dX0_init_38 : decode cX0_init 38 = .ok (.putfield 29, 3) := by decide +kernel
theorem dX0_init_41 : decode cX0_init 41 = .ok (.return_, 1) := by decide +kernel
set_option maxRecDepth 20000 in
theorem ggX0_tradeOnce_X2_everyone : GoodIn wsX0_tradeOnce wsX2_everyone := goodIn_r _ [7, 8, 99, 100, 101, 102, 103, 104, 105, 106] (by decide +kernel) (by decide +kernel)
set_option maxRecDepth 20000 in
theorem gX0_tradeOnce_X2_everyone : GoodIn wsX0_tradeOnce (wsV RX0 61 RX2 yX2_everyone wsX2_everyone) := goodIn_app (goodIn_of _ (by decide +kernel)) ggX0_tradeOnce_X2_everyone
set_option maxRecDepth 20000 in
theorem ggX0_tradeOnce_X4_fill : GoodIn wsX0_tradeOnce wsX4_fill := goodIn_r _ [13, 14, 15, 16, 17, 18, 6, 19, 20, 21, 22, 23, 24, 25, 26, 27, 8, 28, 29, 30, 31, 32, 33, 34, 35, 36, 37, 38, 39, 40, 41, 42, 43, 44, 45, 46, 47, 48, 49, 107, 108, 99, 100, 101, 102, 103, 104, 105, 106] (by decide +kernel) (by decide +kernel)
set_option maxRecDepth 20000 in
theorem gX0_tradeOnce_X4_fill : GoodIn wsX0_tradeOnce (wsV RX0 70 RX4 yX4_fill wsX4_fill) := goodIn_app (goodIn_of _ (by decide +kernel)) ggX0_tradeOnce_X4_fill
set_option maxRecDepth 20000 in
theorem ggX0_tradeOnce_X0_favoursOrNever : GoodIn wsX0_tradeOnce wsX0_favoursOrNever := goodIn_r _ [54, 1, 55, 56, 57, 12, 58, 59, 60, 61, 62, 14, 15, 63, 64, 65, 66, 95, 96, 97, 98, 107, 108] (by decide +kernel) (by decide +kernel)
set_option maxRecDepth 20000 in
theorem gX0_tradeOnce_X0_favoursOrNever : GoodIn wsX0_tradeOnce (wsV RX0 80 RX0 yX0_favoursOrNever wsX0_favoursOrNever) := goodIn_app (goodIn_of _ (by decide +kernel)) ggX0_tradeOnce_X0_favoursOrNever
set_option maxRecDepth 20000 in
theorem ggX0_tradeOnce_X2_cells : GoodIn wsX0_tradeOnce wsX2_cells := goodIn_r _ [70, 8, 99, 100, 101, 102, 103, 104, 105, 106] (by decide +kernel) (by decide +kernel)
set_option maxRecDepth 20000 in
theorem gX0_tradeOnce_X2_cells : GoodIn wsX0_tradeOnce (wsV RX0 32 RX2 yX2_cells wsX2_cells) := goodIn_app (goodIn_of _ (by decide +kernel)) ggX0_tradeOnce_X2_cells
set_option maxRecDepth 20000 in
theorem ggX0_tradeOnce_X0_mayTrade : GoodIn wsX0_tradeOnce wsX0_mayTrade := goodIn_r _ [74, 75, 76, 77, 6, 78, 22, 24, 25, 26, 27, 8, 79, 80, 81, 82, 20, 23, 99, 100, 101, 102, 103, 104, 105, 106] (by decide +kernel) (by decide +kernel)
set_option maxRecDepth 20000 in
theorem gX0_tradeOnce_X0_mayTrade : GoodIn wsX0_tradeOnce (wsV RX0 83 RX0 yX0_mayTrade wsX0_mayTrade) := goodIn_app (goodIn_of _ (by decide +kernel)) ggX0_tradeOnce_X0_mayTrade
set_option maxRecDepth 20000 in
theorem ggX0_tradeOnce_X0_helpsBoth : GoodIn wsX0_tradeOnce wsX0_helpsBoth := goodIn_r _ [86, 1, 75, 76, 77, 6, 78, 22, 24, 25, 26, 27, 8, 87, 88, 89, 90, 3, 4, 5, 7, 9, 10, 11, 12, 13, 14, 15, 16, 17, 18, 19, 20, 21, 23, 28, 29, 30, 31, 32, 33, 34, 35, 36, 37, 38, 39, 40, 41, 42, 43, 44, 45, 46, 47, 48, 49, 91, 92, 93, 53, 94, 2, 50, 51, 52, 54, 55, 56, 57, 58, 59, 60, 61, 62, 63, 64, 65, 66, 95, 96, 97, 98, 99, 100, 101, 102, 103, 104, 105, 106, 107, 108] (by decide +kernel) (by decide +kernel)
set_option maxRecDepth 20000 in
theorem gX0_tradeOnce_X0_helpsBoth : GoodIn wsX0_tradeOnce (wsV RX0 87 RX0 yX0_helpsBoth wsX0_helpsBoth) := goodIn_app (goodIn_of _ (by decide +kernel)) ggX0_tradeOnce_X0_helpsBoth
theorem dX0_tradeOnce_0 : decode cX0_tradeOnce 0 = .ok (.aload_n 0, 1) := by decide +kernel
theorem dX0_tradeOnce_1 : decode cX0_tradeOnce 1 = .ok (.getfield 21, 3) := by decide +kernel
theorem dX0_tradeOnce_4 : decode cX0_tradeOnce 4 = .ok (.aload_n 1, 1) := by decide +kernel
theorem dX0_tradeOnce_5 : decode cX0_tradeOnce 5 = .ok (.aload_n 1, 1) := by decide +kernel
theorem dX0_tradeOnce_6 : decode cX0_tradeOnce 6 = .ok (.invokevirtual 61, 3) := by decide +kernel
theorem dX0_tradeOnce_9 : decode cX0_tradeOnce 9 = .ok (.invokevirtual 70, 3) := by decide +kernel
theorem dX0_tradeOnce_12 : decode cX0_tradeOnce 12 = .ok (.iconst 0, 1) := by decide +kernel
theorem dX0_tradeOnce_13 : decode cX0_tradeOnce 13 = .ok (.istore_n 2, 1) := by decide +kernel
theorem dX0_tradeOnce_14 : decode cX0_tradeOnce 14 = .ok (.iload_n 2, 1) := by decide +kernel
theorem dX0_tradeOnce_15 : decode cX0_tradeOnce 15 = .ok (.bipush 8, 2) := by decide +kernel
theorem dX0_tradeOnce_17 : decode cX0_tradeOnce 17 = .ok (.if_icmp .ge 20, 3) := by decide +kernel
theorem dX0_tradeOnce_20 : decode cX0_tradeOnce 20 = .ok (.aload_n 0, 1) := by decide +kernel
theorem dX0_tradeOnce_21 : decode cX0_tradeOnce 21 = .ok (.getfield 29, 3) := by decide +kernel
theorem dX0_tradeOnce_24 : decode cX0_tradeOnce 24 = .ok (.iload_n 2, 1) := by decide +kernel
theorem dX0_tradeOnce_25 : decode cX0_tradeOnce 25 = .ok (.aload_n 0, 1) := by decide +kernel
theorem dX0_tradeOnce_26 : decode cX0_tradeOnce 26 = .ok (.iload_n 2, 1) := by decide +kernel
theorem dX0_tradeOnce_27 : decode cX0_tradeOnce 27 = .ok (.invokevirtual 80, 3) := by decide +kernel
theorem dX0_tradeOnce_30 : decode cX0_tradeOnce 30 = .ok (.iastore, 1) := by decide +kernel
theorem dX0_tradeOnce_31 : decode cX0_tradeOnce 31 = .ok (.iinc 2 1, 3) := by decide +kernel
theorem dX0_tradeOnce_34 : decode cX0_tradeOnce 34 = .ok (.goto (-20), 3) := by decide +kernel
theorem dX0_tradeOnce_37 : decode cX0_tradeOnce 37 = .ok (.iconst 0, 1) := by decide +kernel
theorem dX0_tradeOnce_38 : decode cX0_tradeOnce 38 = .ok (.istore_n 2, 1) := by decide +kernel
theorem dX0_tradeOnce_39 : decode cX0_tradeOnce 39 = .ok (.iload_n 2, 1) := by decide +kernel
theorem dX0_tradeOnce_40 : decode cX0_tradeOnce 40 = .ok (.aload_n 1, 1) := by decide +kernel
theorem dX0_tradeOnce_41 : decode cX0_tradeOnce 41 = .ok (.invokevirtual 32, 3) := by decide +kernel
theorem dX0_tradeOnce_44 : decode cX0_tradeOnce 44 = .ok (.if_icmp .ge 49, 3) := by decide +kernel
theorem dX0_tradeOnce_47 : decode cX0_tradeOnce 47 = .ok (.iload_n 2, 1) := by decide +kernel
theorem dX0_tradeOnce_48 : decode cX0_tradeOnce 48 = .ok (.iconst 1, 1) := by decide +kernel
theorem dX0_tradeOnce_49 : decode cX0_tradeOnce 49 = .ok (.iadd, 1) := by decide +kernel
theorem dX0_tradeOnce_50 : decode cX0_tradeOnce 50 = .ok (.istore_n 3, 1) := by decide +kernel
theorem dX0_tradeOnce_51 : decode cX0_tradeOnce 51 = .ok (.iload_n 3, 1) := by decide +kernel
theorem dX0_tradeOnce_52 : decode cX0_tradeOnce 52 = .ok (.aload_n 1, 1) := by decide +kernel
theorem dX0_tradeOnce_53 : decode cX0_tradeOnce 53 = .ok (.invokevirtual 32, 3) := by decide +kernel
theorem dX0_tradeOnce_56 : decode cX0_tradeOnce 56 = .ok (.if_icmp .ge 31, 3) := by decide +kernel
theorem dX0_tradeOnce_59 : decode cX0_tradeOnce 59 = .ok (.aload_n 0, 1) := by decide +kernel
theorem dX0_tradeOnce_60 : decode cX0_tradeOnce 60 = .ok (.aload_n 1, 1) := by decide +kernel
theorem dX0_tradeOnce_61 : decode cX0_tradeOnce 61 = .ok (.iload_n 2, 1) := by decide +kernel
theorem dX0_tradeOnce_62 : decode cX0_tradeOnce 62 = .ok (.iload_n 3, 1) := by decide +kernel
theorem dX0_tradeOnce_63 : decode cX0_tradeOnce 63 = .ok (.invokevirtual 83, 3) := by decide +kernel
theorem dX0_tradeOnce_66 : decode cX0_tradeOnce 66 = .ok (.ifCond .eq 15, 3) := by decide +kernel
theorem dX0_tradeOnce_69 : decode cX0_tradeOnce 69 = .ok (.aload_n 0, 1) := by decide +kernel
theorem dX0_tradeOnce_70 : decode cX0_tradeOnce 70 = .ok (.aload_n 1, 1) := by decide +kernel
theorem dX0_tradeOnce_71 : decode cX0_tradeOnce 71 = .ok (.iload_n 2, 1) := by decide +kernel
theorem dX0_tradeOnce_72 : decode cX0_tradeOnce 72 = .ok (.iload_n 3, 1) := by decide +kernel
theorem dX0_tradeOnce_73 : decode cX0_tradeOnce 73 = .ok (.invokevirtual 87, 3) := by decide +kernel
theorem dX0_tradeOnce_76 : decode cX0_tradeOnce 76 = .ok (.ifCond .eq 5, 3) := by decide +kernel
theorem dX0_tradeOnce_79 : decode cX0_tradeOnce 79 = .ok (.iconst 1, 1) := by decide +kernel
theorem dX0_tradeOnce_80 : decode cX0_tradeOnce 80 = .ok (.ireturn, 1) := by decide +kernel
theorem dX0_tradeOnce_81 : decode cX0_tradeOnce 81 = .ok (.iinc 3 1, 3) := by decide +kernel
theorem dX0_tradeOnce_84 : decode cX0_tradeOnce 84 = .ok (.goto (-33), 3) := by decide +kernel
theorem dX0_tradeOnce_87 : decode cX0_tradeOnce 87 = .ok (.iinc 2 1, 3) := by decide +kernel
theorem dX0_tradeOnce_90 : decode cX0_tradeOnce 90 = .ok (.goto (-51), 3) := by decide +kernel
theorem dX0_tradeOnce_93 : decode cX0_tradeOnce 93 = .ok (.iconst 0, 1) := by decide +kernel
theorem dX0_tradeOnce_94 : decode cX0_tradeOnce 94 = .ok (.ireturn, 1) := by decide +kernel
set_option maxRecDepth 20000 in
theorem ggX0_mayTrade_X2_keeperOf : GoodIn wsX0_mayTrade wsX2_keeperOf := goodIn_r _ [5, 6, 7, 8, 9, 4, 10, 11, 18, 19, 20, 21, 22, 23, 24, 25] (by decide +kernel) (by decide +kernel)
set_option maxRecDepth 20000 in
theorem gX0_mayTrade_X2_keeperOf : GoodIn wsX0_mayTrade (wsV RX0 77 RX2 yX2_keeperOf wsX2_keeperOf) := goodIn_app (goodIn_of _ (by decide +kernel)) ggX0_mayTrade_X2_keeperOf
set_option maxRecDepth 20000 in
theorem ggX0_mayTrade_X2_mayKeep : GoodIn wsX0_mayTrade wsX2_mayKeep := goodIn_r _ [15, 16, 17, 7, 8, 9, 4, 10, 11, 18, 19, 20, 21, 22, 23, 24, 25] (by decide +kernel) (by decide +kernel)
set_option maxRecDepth 20000 in
theorem gX0_mayTrade_X2_mayKeep : GoodIn wsX0_mayTrade (wsV RX0 54 RX2 yX2_mayKeep wsX2_mayKeep) := goodIn_app (goodIn_of _ (by decide +kernel)) ggX0_mayTrade_X2_mayKeep
theorem dX0_mayTrade_0 : decode cX0_mayTrade 0 = .ok (.aload_n 1, 1) := by decide +kernel
theorem dX0_mayTrade_1 : decode cX0_mayTrade 1 = .ok (.iload_n 2, 1) := by decide +kernel
theorem dX0_mayTrade_2 : decode cX0_mayTrade 2 = .ok (.invokevirtual 77, 3) := by decide +kernel
theorem dX0_mayTrade_5 : decode cX0_mayTrade 5 = .ok (.istore 4, 2) := by decide +kernel
theorem dX0_mayTrade_7 : decode cX0_mayTrade 7 = .ok (.aload_n 1, 1) := by decide +kernel
theorem dX0_mayTrade_8 : decode cX0_mayTrade 8 = .ok (.iload_n 3, 1) := by decide +kernel
theorem dX0_mayTrade_9 : decode cX0_mayTrade 9 = .ok (.invokevirtual 77, 3) := by decide +kernel
theorem dX0_mayTrade_12 : decode cX0_mayTrade 12 = .ok (.istore 5, 2) := by decide +kernel
theorem dX0_mayTrade_14 : decode cX0_mayTrade 14 = .ok (.iload 4, 2) := by decide +kernel
theorem dX0_mayTrade_16 : decode cX0_mayTrade 16 = .ok (.iload 5, 2) := by decide +kernel
theorem dX0_mayTrade_18 : decode cX0_mayTrade 18 = .ok (.if_icmp .eq 27, 3) := by decide +kernel
theorem dX0_mayTrade_21 : decode cX0_mayTrade 21 = .ok (.aload_n 1, 1) := by decide +kernel
theorem dX0_mayTrade_22 : decode cX0_mayTrade 22 = .ok (.iload_n 2, 1) := by decide +kernel
theorem dX0_mayTrade_23 : decode cX0_mayTrade 23 = .ok (.iload 5, 2) := by decide +kernel
theorem dX0_mayTrade_25 : decode cX0_mayTrade 25 = .ok (.invokevirtual 54, 3) := by decide +kernel
theorem dX0_mayTrade_28 : decode cX0_mayTrade 28 = .ok (.ifCond .eq 17, 3) := by decide +kernel
theorem dX0_mayTrade_31 : decode cX0_mayTrade 31 = .ok (.aload_n 1, 1) := by decide +kernel
theorem dX0_mayTrade_32 : decode cX0_mayTrade 32 = .ok (.iload_n 3, 1) := by decide +kernel
theorem dX0_mayTrade_33 : decode cX0_mayTrade 33 = .ok (.iload 4, 2) := by decide +kernel
theorem dX0_mayTrade_35 : decode cX0_mayTrade 35 = .ok (.invokevirtual 54, 3) := by decide +kernel
theorem dX0_mayTrade_38 : decode cX0_mayTrade 38 = .ok (.ifCond .eq 7, 3) := by decide +kernel
theorem dX0_mayTrade_41 : decode cX0_mayTrade 41 = .ok (.iconst 1, 1) := by decide +kernel
theorem dX0_mayTrade_42 : decode cX0_mayTrade 42 = .ok (.goto 4, 3) := by decide +kernel
theorem dX0_mayTrade_45 : decode cX0_mayTrade 45 = .ok (.iconst 0, 1) := by decide +kernel
theorem dX0_mayTrade_46 : decode cX0_mayTrade 46 = .ok (.ireturn, 1) := by decide +kernel
set_option maxRecDepth 20000 in
theorem ggX0_helpsBoth_X2_keeperOf : GoodIn wsX0_helpsBoth wsX2_keeperOf := goodIn_r _ [6, 7, 8, 9, 10, 5, 11, 12, 83, 84, 85, 86, 87, 88, 89, 90] (by decide +kernel) (by decide +kernel)
set_option maxRecDepth 20000 in
theorem gX0_helpsBoth_X2_keeperOf : GoodIn wsX0_helpsBoth (wsV RX0 77 RX2 yX2_keeperOf wsX2_keeperOf) := goodIn_app (goodIn_of _ (by decide +kernel)) ggX0_helpsBoth_X2_keeperOf
set_option maxRecDepth 20000 in
theorem ggX0_helpsBoth_X2_setKeeper : GoodIn wsX0_helpsBoth wsX2_setKeeper := goodIn_r _ [16, 7, 8, 9, 10, 5, 11, 12, 83, 84, 85, 86, 87, 88, 89, 90] (by decide +kernel) (by decide +kernel)
set_option maxRecDepth 20000 in
theorem gX0_helpsBoth_X2_setKeeper : GoodIn wsX0_helpsBoth (wsV RX0 57 RX2 yX2_setKeeper wsX2_setKeeper) := goodIn_app (goodIn_of _ (by decide +kernel)) ggX0_helpsBoth_X2_setKeeper
set_option maxRecDepth 20000 in
theorem ggX0_helpsBoth_X2_everyone : GoodIn wsX0_helpsBoth wsX2_everyone := goodIn_r _ [20, 12, 83, 84, 85, 86, 87, 88, 89, 90] (by decide +kernel) (by decide +kernel)
set_option maxRecDepth 20000 in
theorem gX0_helpsBoth_X2_everyone : GoodIn wsX0_helpsBoth (wsV RX0 61 RX2 yX2_everyone wsX2_everyone) := goodIn_app (goodIn_of _ (by decide +kernel)) ggX0_helpsBoth_X2_everyone
set_option maxRecDepth 20000 in
theorem ggX0_helpsBoth_X4_fill : GoodIn wsX0_helpsBoth wsX4_fill := goodIn_r _ [25, 26, 27, 28, 29, 30, 5, 31, 32, 33, 7, 34, 8, 9, 10, 11, 12, 35, 36, 37, 38, 39, 40, 41, 42, 43, 44, 45, 46, 47, 48, 49, 50, 51, 52, 53, 54, 55, 56, 91, 92, 83, 84, 85, 86, 87, 88, 89, 90] (by decide +kernel) (by decide +kernel)
set_option maxRecDepth 20000 in
theorem gX0_helpsBoth_X4_fill : GoodIn wsX0_helpsBoth (wsV RX0 70 RX4 yX4_fill wsX4_fill) := goodIn_app (goodIn_of _ (by decide +kernel)) ggX0_helpsBoth_X4_fill
set_option maxRecDepth 20000 in
theorem ggX0_helpsBoth_X0_wouldTrade : GoodIn wsX0_helpsBoth wsX0_wouldTrade := goodIn_r _ [61, 62, 63, 64, 65, 60, 66, 1, 67, 68, 69, 24, 70, 71, 72, 73, 74, 26, 27, 75, 76, 77, 78, 79, 80, 81, 82, 91, 92] (by decide +kernel) (by decide +kernel)
set_option maxRecDepth 20000 in
theorem gX0_helpsBoth_X0_wouldTrade : GoodIn wsX0_helpsBoth (wsV RX0 90 RX0 yX0_wouldTrade wsX0_wouldTrade) := goodIn_app (goodIn_of _ (by decide +kernel)) ggX0_helpsBoth_X0_wouldTrade
theorem dX0_helpsBoth_0 : decode cX0_helpsBoth 0 = .ok (.aload_n 1, 1) := by decide +kernel
theorem dX0_helpsBoth_1 : decode cX0_helpsBoth 1 = .ok (.iload_n 2, 1) := by decide +kernel
theorem dX0_helpsBoth_2 : decode cX0_helpsBoth 2 = .ok (.invokevirtual 77, 3) := by decide +kernel
theorem dX0_helpsBoth_5 : decode cX0_helpsBoth 5 = .ok (.istore 4, 2) := by decide +kernel
theorem dX0_helpsBoth_7 : decode cX0_helpsBoth 7 = .ok (.aload_n 1, 1) := by decide +kernel
theorem dX0_helpsBoth_8 : decode cX0_helpsBoth 8 = .ok (.iload_n 3, 1) := by decide +kernel
theorem dX0_helpsBoth_9 : decode cX0_helpsBoth 9 = .ok (.invokevirtual 77, 3) := by decide +kernel
theorem dX0_helpsBoth_12 : decode cX0_helpsBoth 12 = .ok (.istore 5, 2) := by decide +kernel
theorem dX0_helpsBoth_14 : decode cX0_helpsBoth 14 = .ok (.aload_n 1, 1) := by decide +kernel
theorem dX0_helpsBoth_15 : decode cX0_helpsBoth 15 = .ok (.iload_n 2, 1) := by decide +kernel
theorem dX0_helpsBoth_16 : decode cX0_helpsBoth 16 = .ok (.iload 5, 2) := by decide +kernel
theorem dX0_helpsBoth_18 : decode cX0_helpsBoth 18 = .ok (.invokevirtual 57, 3) := by decide +kernel
theorem dX0_helpsBoth_21 : decode cX0_helpsBoth 21 = .ok (.aload_n 1, 1) := by decide +kernel
theorem dX0_helpsBoth_22 : decode cX0_helpsBoth 22 = .ok (.iload_n 3, 1) := by decide +kernel
theorem dX0_helpsBoth_23 : decode cX0_helpsBoth 23 = .ok (.iload 4, 2) := by decide +kernel
theorem dX0_helpsBoth_25 : decode cX0_helpsBoth 25 = .ok (.invokevirtual 57, 3) := by decide +kernel
theorem dX0_helpsBoth_28 : decode cX0_helpsBoth 28 = .ok (.aload_n 0, 1) := by decide +kernel
theorem dX0_helpsBoth_29 : decode cX0_helpsBoth 29 = .ok (.getfield 21, 3) := by decide +kernel
theorem dX0_helpsBoth_32 : decode cX0_helpsBoth 32 = .ok (.aload_n 1, 1) := by decide +kernel
theorem dX0_helpsBoth_33 : decode cX0_helpsBoth 33 = .ok (.aload_n 1, 1) := by decide +kernel
theorem dX0_helpsBoth_34 : decode cX0_helpsBoth 34 = .ok (.invokevirtual 61, 3) := by decide +kernel
theorem dX0_helpsBoth_37 : decode cX0_helpsBoth 37 = .ok (.invokevirtual 70, 3) := by decide +kernel
theorem dX0_helpsBoth_40 : decode cX0_helpsBoth 40 = .ok (.aload_n 0, 1) := by decide +kernel
theorem dX0_helpsBoth_41 : decode cX0_helpsBoth 41 = .ok (.iload 4, 2) := by decide +kernel
theorem dX0_helpsBoth_43 : decode cX0_helpsBoth 43 = .ok (.invokevirtual 90, 3) := by decide +kernel
theorem dX0_helpsBoth_46 : decode cX0_helpsBoth 46 = .ok (.ifCond .eq 14, 3) := by decide +kernel
theorem dX0_helpsBoth_49 : decode cX0_helpsBoth 49 = .ok (.aload_n 0, 1) := by decide +kernel
theorem dX0_helpsBoth_50 : decode cX0_helpsBoth 50 = .ok (.iload 5, 2) := by decide +kernel
theorem dX0_helpsBoth_52 : decode cX0_helpsBoth 52 = .ok (.invokevirtual 90, 3) := by decide +kernel
theorem dX0_helpsBoth_55 : decode cX0_helpsBoth 55 = .ok (.ifCond .eq 5, 3) := by decide +kernel
theorem dX0_helpsBoth_58 : decode cX0_helpsBoth 58 = .ok (.iconst 1, 1) := by decide +kernel
theorem dX0_helpsBoth_59 : decode cX0_helpsBoth 59 = .ok (.ireturn, 1) := by decide +kernel
theorem dX0_helpsBoth_60 : decode cX0_helpsBoth 60 = .ok (.aload_n 1, 1) := by decide +kernel
theorem dX0_helpsBoth_61 : decode cX0_helpsBoth 61 = .ok (.iload_n 2, 1) := by decide +kernel
theorem dX0_helpsBoth_62 : decode cX0_helpsBoth 62 = .ok (.iload 4, 2) := by decide +kernel
theorem dX0_helpsBoth_64 : decode cX0_helpsBoth 64 = .ok (.invokevirtual 57, 3) := by decide +kernel
theorem dX0_helpsBoth_67 : decode cX0_helpsBoth 67 = .ok (.aload_n 1, 1) := by decide +kernel
theorem dX0_helpsBoth_68 : decode cX0_helpsBoth 68 = .ok (.iload_n 3, 1) := by decide +kernel
theorem dX0_helpsBoth_69 : decode cX0_helpsBoth 69 = .ok (.iload 5, 2) := by decide +kernel
theorem dX0_helpsBoth_71 : decode cX0_helpsBoth 71 = .ok (.invokevirtual 57, 3) := by decide +kernel
theorem dX0_helpsBoth_74 : decode cX0_helpsBoth 74 = .ok (.iconst 0, 1) := by decide +kernel
theorem dX0_helpsBoth_75 : decode cX0_helpsBoth 75 = .ok (.ireturn, 1) := by decide +kernel
set_option maxRecDepth 20000 in
theorem ggX0_wouldTrade_X0_favoursOrNever : GoodIn wsX0_wouldTrade wsX0_favoursOrNever := goodIn_r _ [6, 7, 8, 9, 10, 11, 12, 13, 14, 15, 16, 17, 18, 19, 20, 21, 22, 23, 24, 25, 26, 27, 28] (by decide +kernel) (by decide +kernel)
set_option maxRecDepth 20000 in
theorem gX0_wouldTrade_X0_favoursOrNever : GoodIn wsX0_wouldTrade (wsV RX0 80 RX0 yX0_favoursOrNever wsX0_favoursOrNever) := goodIn_app (goodIn_of _ (by decide +kernel)) ggX0_wouldTrade_X0_favoursOrNever
theorem dX0_wouldTrade_0 : decode cX0_wouldTrade 0 = .ok (.iload_n 1, 1) := by decide +kernel
theorem dX0_wouldTrade_1 : decode cX0_wouldTrade 1 = .ok (.ifCond .lt 27, 3) := by decide +kernel
theorem dX0_wouldTrade_4 : decode cX0_wouldTrade 4 = .ok (.iload_n 1, 1) := by decide +kernel
theorem dX0_wouldTrade_5 : decode cX0_wouldTrade 5 = .ok (.bipush 8, 2) := by decide +kernel
theorem dX0_wouldTrade_7 : decode cX0_wouldTrade 7 = .ok (.if_icmp .ge 21, 3) := by decide +kernel
theorem dX0_wouldTrade_10 : decode cX0_wouldTrade 10 = .ok (.aload_n 0, 1) := by decide +kernel
theorem dX0_wouldTrade_11 : decode cX0_wouldTrade 11 = .ok (.iload_n 1, 1) := by decide +kernel
theorem dX0_wouldTrade_12 : decode cX0_wouldTrade 12 = .ok (.invokevirtual 80, 3) := by decide +kernel
theorem dX0_wouldTrade_15 : decode cX0_wouldTrade 15 = .ok (.aload_n 0, 1) := by decide +kernel
theorem dX0_wouldTrade_16 : decode cX0_wouldTrade 16 = .ok (.getfield 29, 3) := by decide +kernel
theorem dX0_wouldTrade_19 : decode cX0_wouldTrade 19 = .ok (.iload_n 1, 1) := by decide +kernel
theorem dX0_wouldTrade_20 : decode cX0_wouldTrade 20 = .ok (.iaload, 1) := by decide +kernel
theorem dX0_wouldTrade_21 : decode cX0_wouldTrade 21 = .ok (.if_icmp .ge 7, 3) := by decide +kernel
theorem dX0_wouldTrade_24 : decode cX0_wouldTrade 24 = .ok (.iconst 1, 1) := by decide +kernel
theorem dX0_wouldTrade_25 : decode cX0_wouldTrade 25 = .ok (.goto 4, 3) := by decide +kernel
theorem dX0_wouldTrade_28 : decode cX0_wouldTrade 28 = .ok (.iconst 0, 1) := by decide +kernel
theorem dX0_wouldTrade_29 : decode cX0_wouldTrade 29 = .ok (.ireturn, 1) := by decide +kernel
set_option maxRecDepth 20000 in
theorem ggX0_favoursOrNever_X4_leastFor : GoodIn wsX0_favoursOrNever wsX4_leastFor := goodIn_r _ [6, 7, 8, 9, 5, 10, 11, 12, 13, 14, 15, 16, 21, 22] (by decide +kernel) (by decide +kernel)
set_option maxRecDepth 20000 in
theorem gX0_favoursOrNever_X4_leastFor : GoodIn wsX0_favoursOrNever (wsV RX0 93 RX4 yX4_leastFor wsX4_leastFor) := goodIn_app (goodIn_of _ (by decide +kernel)) ggX0_favoursOrNever_X4_leastFor
theorem dX0_favoursOrNever_0 : decode cX0_favoursOrNever 0 = .ok (.aload_n 0, 1) := by decide +kernel
theorem dX0_favoursOrNever_1 : decode cX0_favoursOrNever 1 = .ok (.getfield 21, 3) := by decide +kernel
theorem dX0_favoursOrNever_4 : decode cX0_favoursOrNever 4 = .ok (.iload_n 1, 1) := by decide +kernel
theorem dX0_favoursOrNever_5 : decode cX0_favoursOrNever 5 = .ok (.invokevirtual 93, 3) := by decide +kernel
theorem dX0_favoursOrNever_8 : decode cX0_favoursOrNever 8 = .ok (.istore_n 2, 1) := by decide +kernel
theorem dX0_favoursOrNever_9 : decode cX0_favoursOrNever 9 = .ok (.iload_n 2, 1) := by decide +kernel
theorem dX0_favoursOrNever_10 : decode cX0_favoursOrNever 10 = .ok (.bipush (-9), 2) := by decide +kernel
theorem dX0_favoursOrNever_12 : decode cX0_favoursOrNever 12 = .ok (.if_icmp .ne 8, 3) := by decide +kernel
theorem dX0_favoursOrNever_15 : decode cX0_favoursOrNever 15 = .ok (.bipush 99, 2) := by decide +kernel
theorem dX0_favoursOrNever_17 : decode cX0_favoursOrNever 17 = .ok (.goto 4, 3) := by decide +kernel
theorem dX0_favoursOrNever_20 : decode cX0_favoursOrNever 20 = .ok (.iload_n 2, 1) := by decide +kernel
theorem dX0_favoursOrNever_21 : decode cX0_favoursOrNever 21 = .ok (.ireturn, 1) := by decide +kernel
set_option maxRecDepth 20000 in
theorem ggX1_init_X1_dropKept : GoodIn wsX1_init wsX1_dropKept := goodIn_r _ [11, 5, 6, 12, 13, 14, 15] (by decide +kernel) (by decide +kernel)
set_option maxRecDepth 20000 in
theorem gX1_init_X1_dropKept : GoodIn wsX1_init (wsV RX1 18 RX1 yX1_dropKept wsX1_dropKept) := goodIn_app (goodIn_of _ (by decide +kernel)) ggX1_init_X1_dropKept
theorem dX1_init_0 : decode cX1_init 0 = .ok (.aload_n 0, 1) := by decide +kernel
theorem dX1_init_1 : decode cX1_init 1 = .ok (.invokespecial 3, 3) := by decide +kernel
theorem dX1_init_4 : decode cX1_init 4 = .ok (.aload_n 0, 1) := by decide +kernel
theorem dX1_init_5 : decode cX1_init 5 = .ok (.iconst 3, 1) := by decide +kernel
theorem dX1_init_6 : decode cX1_init 6 = .ok (.newarray .int, 2) := by decide +kernel
theorem dX1_init_8 : decode cX1_init 8 = .ok (.putfield 9, 3) := by decide +kernel
theorem dX1_init_11 : decode cX1_init 11 = .ok (.aload_n 0, 1) := by decide +kernel
theorem dX1_init_12 : decode cX1_init 12 = .ok (.iconst 3, 1) := by decide +kernel
theorem dX1_init_13 : decode cX1_init 13 = .ok (.newarray .int, 2) := by decide +kernel
theorem dX1_init_15 : decode cX1_init 15 = .ok (.putfield 15, 3) := by decide +kernel
theorem dX1_init_18 : decode cX1_init 18 = .ok (.aload_n 0, 1) := by decide +kernel
theorem dX1_init_19 : decode cX1_init 19 = .ok (.invokevirtual 18, 3) := by decide +kernel
theorem dX1_init_22 : decode cX1_init 22 = .ok (.return_, 1) := by decide +kernel
theorem dX1_dropKept_0 : decode cX1_dropKept 0 = .ok (.iconst 0, 1) := by decide +kernel
theorem dX1_dropKept_1 : decode cX1_dropKept 1 = .ok (.istore_n 1, 1) := by decide +kernel
theorem dX1_dropKept_2 : decode cX1_dropKept 2 = .ok (.iload_n 1, 1) := by decide +kernel
theorem dX1_dropKept_3 : decode cX1_dropKept 3 = .ok (.iconst 3, 1) := by decide +kernel
theorem dX1_dropKept_4 : decode cX1_dropKept 4 = .ok (.if_icmp .ge 23, 3) := by decide +kernel
theorem dX1_dropKept_7 : decode cX1_dropKept 7 = .ok (.aload_n 0, 1) := by decide +kernel
theorem dX1_dropKept_8 : decode cX1_dropKept 8 = .ok (.getfield 9, 3) := by decide +kernel
theorem dX1_dropKept_11 : decode cX1_dropKept 11 = .ok (.iload_n 1, 1) := by decide +kernel
theorem dX1_dropKept_12 : decode cX1_dropKept 12 = .ok (.iconst (-1), 1) := by decide +kernel
theorem dX1_dropKept_13 : decode cX1_dropKept 13 = .ok (.iastore, 1) := by decide +kernel
theorem dX1_dropKept_14 : decode cX1_dropKept 14 = .ok (.aload_n 0, 1) := by decide +kernel
theorem dX1_dropKept_15 : decode cX1_dropKept 15 = .ok (.getfield 15, 3) := by decide +kernel
theorem dX1_dropKept_18 : decode cX1_dropKept 18 = .ok (.iload_n 1, 1) := by decide +kernel
theorem dX1_dropKept_19 : decode cX1_dropKept 19 = .ok (.iconst 0, 1) := by decide +kernel
theorem dX1_dropKept_20 : decode cX1_dropKept 20 = .ok (.iastore, 1) := by decide +kernel
theorem dX1_dropKept_21 : decode cX1_dropKept 21 = .ok (.iinc 1 1, 3) := by decide +kernel
theorem dX1_dropKept_24 : decode cX1_dropKept 24 = .ok (.goto (-22), 3) := by decide +kernel
theorem dX1_dropKept_27 : decode cX1_dropKept 27 = .ok (.return_, 1) := by decide +kernel
set_option maxRecDepth 20000 in
theorem ggX1_clear_X1_allIn : GoodIn wsX1_clear wsX1_allIn := goodIn_r _ [5, 6, 7, 14, 15, 16, 17] (by decide +kernel) (by decide +kernel)
set_option maxRecDepth 20000 in
theorem gX1_clear_X1_allIn : GoodIn wsX1_clear (wsV RX1 21 RX1 yX1_allIn wsX1_allIn) := goodIn_app (goodIn_of _ (by decide +kernel)) ggX1_clear_X1_allIn
set_option maxRecDepth 20000 in
theorem ggX1_clear_X1_dropKept : GoodIn wsX1_clear wsX1_dropKept := goodIn_r _ [11, 12, 13, 14, 15, 16, 17] (by decide +kernel) (by decide +kernel)
set_option maxRecDepth 20000 in
theorem gX1_clear_X1_dropKept : GoodIn wsX1_clear (wsV RX1 18 RX1 yX1_dropKept wsX1_dropKept) := goodIn_app (goodIn_of _ (by decide +kernel)) ggX1_clear_X1_dropKept
theorem dX1_clear_0 : decode cX1_clear 0 = .ok (.aload_n 0, 1) := by decide +kernel
theorem dX1_clear_1 : decode cX1_clear 1 = .ok (.invokevirtual 21, 3) := by decide +kernel
theorem dX1_clear_4 : decode cX1_clear 4 = .ok (.aload_n 0, 1) := by decide +kernel
theorem dX1_clear_5 : decode cX1_clear 5 = .ok (.invokevirtual 18, 3) := by decide +kernel
theorem dX1_clear_8 : decode cX1_clear 8 = .ok (.return_, 1) := by decide +kernel
theorem dX1_allIn_0 : decode cX1_allIn 0 = .ok (.aload_n 0, 1) := by decide +kernel
theorem dX1_allIn_1 : decode cX1_allIn 1 = .ok (.iconst 0, 1) := by decide +kernel
theorem dX1_allIn_2 : decode cX1_allIn 2 = .ok (.putfield 24, 3) := by decide +kernel
theorem dX1_allIn_5 : decode cX1_allIn 5 = .ok (.aload_n 0, 1) := by decide +kernel
theorem dX1_allIn_6 : decode cX1_allIn 6 = .ok (.iconst 0, 1) := by decide +kernel
theorem dX1_allIn_7 : decode cX1_allIn 7 = .ok (.putfield 28, 3) := by decide +kernel
theorem dX1_allIn_10 : decode cX1_allIn 10 = .ok (.return_, 1) := by decide +kernel
theorem dX1_whoIsOut_0 : decode cX1_whoIsOut 0 = .ok (.aload_n 0, 1) := by decide +kernel
theorem dX1_whoIsOut_1 : decode cX1_whoIsOut 1 = .ok (.getfield 24, 3) := by decide +kernel
theorem dX1_whoIsOut_4 : decode cX1_whoIsOut 4 = .ok (.ireturn, 1) := by decide +kernel
theorem dX1_hasOut_0 : decode cX1_hasOut 0 = .ok (.aload_n 0, 1) := by decide +kernel
theorem dX1_hasOut_1 : decode cX1_hasOut 1 = .ok (.getfield 24, 3) := by decide +kernel
theorem dX1_hasOut_4 : decode cX1_hasOut 4 = .ok (.iload_n 1, 1) := by decide +kernel
theorem dX1_hasOut_5 : decode cX1_hasOut 5 = .ok (.ishr, 1) := by decide +kernel
theorem dX1_hasOut_6 : decode cX1_hasOut 6 = .ok (.iconst 1, 1) := by decide +kernel
theorem dX1_hasOut_7 : decode cX1_hasOut 7 = .ok (.iand, 1) := by decide +kernel
theorem dX1_hasOut_8 : decode cX1_hasOut 8 = .ok (.iconst 1, 1) := by decide +kernel
theorem dX1_hasOut_9 : decode cX1_hasOut 9 = .ok (.if_icmp .ne 7, 3) := by decide +kernel
theorem dX1_hasOut_12 : decode cX1_hasOut 12 = .ok (.iconst 1, 1) := by decide +kernel
theorem dX1_hasOut_13 : decode cX1_hasOut 13 = .ok (.goto 4, 3) := by decide +kernel
theorem dX1_hasOut_16 : decode cX1_hasOut 16 = .ok (.iconst 0, 1) := by decide +kernel
theorem dX1_hasOut_17 : decode cX1_hasOut 17 = .ok (.ireturn, 1) := by decide +kernel
set_option maxRecDepth 20000 in
theorem ggX1_howManyOut_J6_bitCount_0f7a4 : GoodIn wsX1_howManyOut wsJ6_bitCount_0f7a4 := goodIn_r _ [5, 6, 7, 8] (by decide +kernel) (by decide +kernel)
set_option maxRecDepth 20000 in
theorem gX1_howManyOut_J6_bitCount_0f7a4 : GoodIn wsX1_howManyOut (va_wsS RX1 31 yJ6_bitCount_0f7a4 wsJ6_bitCount_0f7a4) := goodIn_app (goodIn_of _ (by decide +kernel)) ggX1_howManyOut_J6_bitCount_0f7a4
theorem dX1_howManyOut_0 : decode cX1_howManyOut 0 = .ok (.aload_n 0, 1) := by decide +kernel
theorem dX1_howManyOut_1 : decode cX1_howManyOut 1 = .ok (.getfield 24, 3) := by decide +kernel
theorem dX1_howManyOut_4 : decode cX1_howManyOut 4 = .ok (.invokestatic 31, 3) := by decide +kernel
theorem dX1_howManyOut_7 : decode cX1_howManyOut 7 = .ok (.ireturn, 1) := by decide +kernel
theorem dX1_favours_0 : decode cX1_favours 0 = .ok (.aload_n 0, 1) := by decide +kernel
theorem dX1_favours_1 : decode cX1_favours 1 = .ok (.getfield 28, 3) := by decide +kernel
theorem dX1_favours_4 : decode cX1_favours 4 = .ok (.ireturn, 1) := by decide +kernel
theorem dX1_addOut_0 : decode cX1_addOut 0 = .ok (.aload_n 0, 1) := by decide +kernel
theorem dX1_addOut_1 : decode cX1_addOut 1 = .ok (.dup, 1) := by decide +kernel
theorem dX1_addOut_2 : decode cX1_addOut 2 = .ok (.getfield 24, 3) := by decide +kernel
theorem dX1_addOut_5 : decode cX1_addOut 5 = .ok (.iconst 1, 1) := by decide +kernel
theorem dX1_addOut_6 : decode cX1_addOut 6 = .ok (.iload_n 1, 1) := by decide +kernel
theorem dX1_addOut_7 : decode cX1_addOut 7 = .ok (.ishl, 1) := by decide +kernel
theorem dX1_addOut_8 : decode cX1_addOut 8 = .ok (.ior, 1) := by decide +kernel
theorem dX1_addOut_9 : decode cX1_addOut 9 = .ok (.putfield 24, 3) := by decide +kernel
theorem dX1_addOut_12 : decode cX1_addOut 12 = .ok (.aload_n 0, 1) := by decide +kernel
theorem dX1_addOut_13 : decode cX1_addOut 13 = .ok (.dup, 1) := by decide +kernel
theorem dX1_addOut_14 : decode cX1_addOut 14 = .ok (.getfield 28, 3) := by decide +kernel
theorem dX1_addOut_17 : decode cX1_addOut 17 = .ok (.iload_n 2, 1) := by decide +kernel
theorem dX1_addOut_18 : decode cX1_addOut 18 = .ok (.iadd, 1) := by decide +kernel
theorem dX1_addOut_19 : decode cX1_addOut 19 = .ok (.putfield 28, 3) := by decide +kernel
theorem dX1_addOut_22 : decode cX1_addOut 22 = .ok (.return_, 1) := by decide +kernel
theorem dX1_isNumber_0 : decode cX1_isNumber 0 = .ok (.iload_n 1, 1) := by decide +kernel
theorem dX1_isNumber_1 : decode cX1_isNumber 1 = .ok (.ifCond .lt 12, 3) := by decide +kernel
theorem dX1_isNumber_4 : decode cX1_isNumber 4 = .ok (.iload_n 1, 1) := by decide +kernel
theorem dX1_isNumber_5 : decode cX1_isNumber 5 = .ok (.iconst 3, 1) := by decide +kernel
theorem dX1_isNumber_6 : decode cX1_isNumber 6 = .ok (.if_icmp .ge 7, 3) := by decide +kernel
theorem dX1_isNumber_9 : decode cX1_isNumber 9 = .ok (.iconst 1, 1) := by decide +kernel
theorem dX1_isNumber_10 : decode cX1_isNumber 10 = .ok (.goto 4, 3) := by decide +kernel
theorem dX1_isNumber_13 : decode cX1_isNumber 13 = .ok (.iconst 0, 1) := by decide +kernel
theorem dX1_isNumber_14 : decode cX1_isNumber 14 = .ok (.ireturn, 1) := by decide +kernel
set_option maxRecDepth 20000 in
theorem ggX1_isKept_X1_isNumber : GoodIn wsX1_isKept wsX1_isNumber := goodIn_r _ [6] (by decide +kernel) (by decide +kernel)
set_option maxRecDepth 20000 in
theorem gX1_isKept_X1_isNumber : GoodIn wsX1_isKept (wsV RX1 37 RX1 yX1_isNumber wsX1_isNumber) := goodIn_app (goodIn_of _ (by decide +kernel)) ggX1_isKept_X1_isNumber
theorem dX1_isKept_0 : decode cX1_isKept 0 = .ok (.aload_n 0, 1) := by decide +kernel
theorem dX1_isKept_1 : decode cX1_isKept 1 = .ok (.iload_n 1, 1) := by decide +kernel
theorem dX1_isKept_2 : decode cX1_isKept 2 = .ok (.invokevirtual 37, 3) := by decide +kernel
theorem dX1_isKept_5 : decode cX1_isKept 5 = .ok (.ifCond .eq 17, 3) := by decide +kernel
theorem dX1_isKept_8 : decode cX1_isKept 8 = .ok (.aload_n 0, 1) := by decide +kernel
theorem dX1_isKept_9 : decode cX1_isKept 9 = .ok (.getfield 9, 3) := by decide +kernel
theorem dX1_isKept_12 : decode cX1_isKept 12 = .ok (.iload_n 1, 1) := by decide +kernel
theorem dX1_isKept_13 : decode cX1_isKept 13 = .ok (.iaload, 1) := by decide +kernel
theorem dX1_isKept_14 : decode cX1_isKept 14 = .ok (.iconst (-1), 1) := by decide +kernel
theorem dX1_isKept_15 : decode cX1_isKept 15 = .ok (.if_icmp .eq 7, 3) := by decide +kernel
theorem dX1_isKept_18 : decode cX1_isKept 18 = .ok (.iconst 1, 1) := by decide +kernel
theorem dX1_isKept_19 : decode cX1_isKept 19 = .ok (.goto 4, 3) := by decide +kernel
theorem dX1_isKept_22 : decode cX1_isKept 22 = .ok (.iconst 0, 1) := by decide +kernel
theorem dX1_isKept_23 : decode cX1_isKept 23 = .ok (.ireturn, 1) := by decide +kernel
set_option maxRecDepth 20000 in
theorem ggX1_mixKept_X1_isKept : GoodIn wsX1_mixKept wsX1_isKept := goodIn_r _ [8, 2, 9, 10, 11, 7, 12, 13, 14, 15, 16] (by decide +kernel) (by decide +kernel)
set_option maxRecDepth 20000 in
theorem gX1_mixKept_X1_isKept : GoodIn wsX1_mixKept (wsV RX1 41 RX1 yX1_isKept wsX1_isKept) := goodIn_app (goodIn_of _ (by decide +kernel)) ggX1_mixKept_X1_isKept
theorem dX1_mixKept_0 : decode cX1_mixKept 0 = .ok (.iconst 0, 1) := by decide +kernel
theorem dX1_mixKept_1 : decode cX1_mixKept 1 = .ok (.istore_n 3, 1) := by decide +kernel
theorem dX1_mixKept_2 : decode cX1_mixKept 2 = .ok (.iload_n 3, 1) := by decide +kernel
theorem dX1_mixKept_3 : decode cX1_mixKept 3 = .ok (.iconst 3, 1) := by decide +kernel
theorem dX1_mixKept_4 : decode cX1_mixKept 4 = .ok (.if_icmp .ge 45, 3) := by decide +kernel
theorem dX1_mixKept_7 : decode cX1_mixKept 7 = .ok (.ldc2_w 44, 3) := by decide +kernel
theorem dX1_mixKept_10 : decode cX1_mixKept 10 = .ok (.lload_n 1, 1) := by decide +kernel
theorem dX1_mixKept_11 : decode cX1_mixKept 11 = .ok (.lmul, 1) := by decide +kernel
theorem dX1_mixKept_12 : decode cX1_mixKept 12 = .ok (.aload_n 0, 1) := by decide +kernel
theorem dX1_mixKept_13 : decode cX1_mixKept 13 = .ok (.getfield 9, 3) := by decide +kernel
theorem dX1_mixKept_16 : decode cX1_mixKept 16 = .ok (.iload_n 3, 1) := by decide +kernel
theorem dX1_mixKept_17 : decode cX1_mixKept 17 = .ok (.iaload, 1) := by decide +kernel
theorem dX1_mixKept_18 : decode cX1_mixKept 18 = .ok (.i2l, 1) := by decide +kernel
theorem dX1_mixKept_19 : decode cX1_mixKept 19 = .ok (.ladd, 1) := by decide +kernel
theorem dX1_mixKept_20 : decode cX1_mixKept 20 = .ok (.lstore_n 1, 1) := by decide +kernel
theorem dX1_mixKept_21 : decode cX1_mixKept 21 = .ok (.aload_n 0, 1) := by decide +kernel
theorem dX1_mixKept_22 : decode cX1_mixKept 22 = .ok (.iload_n 3, 1) := by decide +kernel
theorem dX1_mixKept_23 : decode cX1_mixKept 23 = .ok (.invokevirtual 41, 3) := by decide +kernel
theorem dX1_mixKept_26 : decode cX1_mixKept 26 = .ok (.ifCond .eq 17, 3) := by decide +kernel
theorem dX1_mixKept_29 : decode cX1_mixKept 29 = .ok (.ldc2_w 44, 3) := by decide +kernel
theorem dX1_mixKept_32 : decode cX1_mixKept 32 = .ok (.lload_n 1, 1) := by decide +kernel
theorem dX1_mixKept_33 : decode cX1_mixKept 33 = .ok (.lmul, 1) := by decide +kernel
theorem dX1_mixKept_34 : decode cX1_mixKept 34 = .ok (.aload_n 0, 1) := by decide +kernel
theorem dX1_mixKept_35 : decode cX1_mixKept 35 = .ok (.getfield 15, 3) := by decide +kernel
theorem dX1_mixKept_38 : decode cX1_mixKept 38 = .ok (.iload_n 3, 1) := by decide +kernel
theorem dX1_mixKept_39 : decode cX1_mixKept 39 = .ok (.iaload, 1) := by decide +kernel
theorem dX1_mixKept_40 : decode cX1_mixKept 40 = .ok (.i2l, 1) := by decide +kernel
theorem dX1_mixKept_41 : decode cX1_mixKept 41 = .ok (.ladd, 1) := by decide +kernel
theorem dX1_mixKept_42 : decode cX1_mixKept 42 = .ok (.lstore_n 1, 1) := by decide +kernel
theorem dX1_mixKept_43 : decode cX1_mixKept 43 = .ok (.iinc 3 1, 3) := by decide +kernel
theorem dX1_mixKept_46 : decode cX1_mixKept 46 = .ok (.goto (-44), 3) := by decide +kernel
theorem dX1_mixKept_49 : decode cX1_mixKept 49 = .ok (.lload_n 1, 1) := by decide +kernel
theorem dX1_mixKept_50 : decode cX1_mixKept 50 = .ok (.lreturn, 1) := by decide +kernel
theorem dX2_init_0 : decode cX2_init 0 = .ok (.aload_n 0, 1) := by decide +kernel
theorem dX2_init_1 : decode cX2_init 1 = .ok (.invokespecial 3, 3) := by decide +kernel
theorem dX2_init_4 : decode cX2_init 4 = .ok (.aload_n 0, 1) := by decide +kernel
theorem dX2_init_5 : decode cX2_init 5 = .ok (.bipush 8, 2) := by decide +kernel
theorem dX2_init_7 : decode cX2_init 7 = .ok (.newarray .int, 2) := by decide +kernel
theorem dX2_init_9 : decode cX2_init 9 = .ok (.putfield 9, 3) := by decide +kernel
theorem dX2_init_12 : decode cX2_init 12 = .ok (.aload_n 0, 1) := by decide +kernel
theorem dX2_init_13 : decode cX2_init 13 = .ok (.bipush 8, 2) := by decide +kernel
theorem dX2_init_15 : decode cX2_init 15 = .ok (.newarray .int, 2) := by decide +kernel
theorem dX2_init_17 : decode cX2_init 17 = .ok (.putfield 15, 3) := by decide +kernel
theorem dX2_init_20 : decode cX2_init 20 = .ok (.aload_n 0, 1) := by decide +kernel
theorem dX2_init_21 : decode cX2_init 21 = .ok (.bipush 8, 2) := by decide +kernel
theorem dX2_init_23 : decode cX2_init 23 = .ok (.newarray .int, 2) := by decide +kernel
theorem dX2_init_25 : decode cX2_init 25 = .ok (.putfield 18, 3) := by decide +kernel
theorem dX2_init_28 : decode cX2_init 28 = .ok (.aload_n 0, 1) := by decide +kernel
theorem dX2_init_29 : decode cX2_init 29 = .ok (.bipush 8, 2) := by decide +kernel
theorem dX2_init_31 : decode cX2_init 31 = .ok (.newarray .int, 2) := by decide +kernel
theorem dX2_init_33 : decode cX2_init 33 = .ok (.putfield 21, 3) := by decide +kernel
theorem dX2_init_36 : decode cX2_init 36 = .ok (.aload_n 0, 1) := by decide +kernel
theorem dX2_init_37 : decode cX2_init 37 = .ok (.bipush 8, 2) := by decide +kernel
theorem dX2_init_39 : decode cX2_init 39 = .ok (.newarray .int, 2) := by decide +kernel
theorem dX2_init_41 : decode cX2_init 41 = .ok (.putfield 24, 3) := by decide +kernel
theorem dX2_init_44 : decode cX2_init 44 = .ok (.return_, 1) := by decide +kernel
theorem dX2_cells_0 : decode cX2_cells 0 = .ok (.aload_n 0, 1) := by decide +kernel
theorem dX2_cells_1 : decode cX2_cells 1 = .ok (.getfield 27, 3) := by decide +kernel
theorem dX2_cells_4 : decode cX2_cells 4 = .ok (.ireturn, 1) := by decide +kernel
theorem dX2_isCell_0 : decode cX2_isCell 0 = .ok (.iload_n 1, 1) := by decide +kernel
theorem dX2_isCell_1 : decode cX2_isCell 1 = .ok (.ifCond .lt 21, 3) := by decide +kernel
theorem dX2_isCell_4 : decode cX2_isCell 4 = .ok (.iload_n 1, 1) := by decide +kernel
theorem dX2_isCell_5 : decode cX2_isCell 5 = .ok (.aload_n 0, 1) := by decide +kernel
theorem dX2_isCell_6 : decode cX2_isCell 6 = .ok (.getfield 27, 3) := by decide +kernel
theorem dX2_isCell_9 : decode cX2_isCell 9 = .ok (.if_icmp .ge 13, 3) := by decide +kernel
theorem dX2_isCell_12 : decode cX2_isCell 12 = .ok (.iload_n 1, 1) := by decide +kernel
theorem dX2_isCell_13 : decode cX2_isCell 13 = .ok (.bipush 8, 2) := by decide +kernel
theorem dX2_isCell_15 : decode cX2_isCell 15 = .ok (.if_icmp .ge 7, 3) := by decide +kernel
theorem dX2_isCell_18 : decode cX2_isCell 18 = .ok (.iconst 1, 1) := by decide +kernel
theorem dX2_isCell_19 : decode cX2_isCell 19 = .ok (.goto 4, 3) := by decide +kernel
theorem dX2_isCell_22 : decode cX2_isCell 22 = .ok (.iconst 0, 1) := by decide +kernel
theorem dX2_isCell_23 : decode cX2_isCell 23 = .ok (.ireturn, 1) := by decide +kernel
theorem dX2_everyone_0 : decode cX2_everyone 0 = .ok (.iconst 1, 1) := by decide +kernel
theorem dX2_everyone_1 : decode cX2_everyone 1 = .ok (.aload_n 0, 1) := by decide +kernel
theorem dX2_everyone_2 : decode cX2_everyone 2 = .ok (.getfield 27, 3) := by decide +kernel
theorem dX2_everyone_5 : decode cX2_everyone 5 = .ok (.ishl, 1) := by decide +kernel
theorem dX2_everyone_6 : decode cX2_everyone 6 = .ok (.iconst 1, 1) := by decide +kernel
theorem dX2_everyone_7 : decode cX2_everyone 7 = .ok (.isub, 1) := by decide +kernel
theorem dX2_everyone_8 : decode cX2_everyone 8 = .ok (.ireturn, 1) := by decide +kernel
set_option maxRecDepth 20000 in
theorem ggX2_isSet_X2_everyone : GoodIn wsX2_isSet wsX2_everyone := goodIn_r _ [5, 6, 7, 8, 9, 10, 11, 12, 13, 14] (by decide +kernel) (by decide +kernel)
set_option maxRecDepth 20000 in
theorem gX2_isSet_X2_everyone : GoodIn wsX2_isSet (wsV RX2 31 RX2 yX2_everyone wsX2_everyone) := goodIn_app (goodIn_of _ (by decide +kernel)) ggX2_isSet_X2_everyone
theorem dX2_isSet_0 : decode cX2_isSet 0 = .ok (.iload_n 1, 1) := by decide +kernel
theorem dX2_isSet_1 : decode cX2_isSet 1 = .ok (.ifCond .lt 15, 3) := by decide +kernel
theorem dX2_isSet_4 : decode cX2_isSet 4 = .ok (.iload_n 1, 1) := by decide +kernel
theorem dX2_isSet_5 : decode cX2_isSet 5 = .ok (.aload_n 0, 1) := by decide +kernel
theorem dX2_isSet_6 : decode cX2_isSet 6 = .ok (.invokevirtual 31, 3) := by decide +kernel
theorem dX2_isSet_9 : decode cX2_isSet 9 = .ok (.if_icmp .gt 7, 3) := by decide +kernel
theorem dX2_isSet_12 : decode cX2_isSet 12 = .ok (.iconst 1, 1) := by decide +kernel
theorem dX2_isSet_13 : decode cX2_isSet 13 = .ok (.goto 4, 3) := by decide +kernel
theorem dX2_isSet_16 : decode cX2_isSet 16 = .ok (.iconst 0, 1) := by decide +kernel
theorem dX2_isSet_17 : decode cX2_isSet 17 = .ok (.ireturn, 1) := by decide +kernel
set_option maxRecDepth 20000 in
theorem ggX2_build_X2_setDoor : GoodIn wsX2_build wsX2_setDoor := goodIn_r _ [9, 10, 11, 12, 13, 2, 3, 14, 15, 16, 8, 17, 1, 18, 19, 20, 21, 22, 23, 24, 25] (by decide +kernel) (by decide +kernel)
set_option maxRecDepth 20000 in
theorem gX2_build_X2_setDoor : GoodIn wsX2_build (wsV RX2 41 RX2 yX2_setDoor wsX2_setDoor) := goodIn_app (goodIn_of _ (by decide +kernel)) ggX2_build_X2_setDoor
theorem dX2_build_0 : decode cX2_build 0 = .ok (.aload_n 0, 1) := by decide +kernel
theorem dX2_build_1 : decode cX2_build 1 = .ok (.iload_n 1, 1) := by decide +kernel
theorem dX2_build_2 : decode cX2_build 2 = .ok (.ifCond .lt 13, 3) := by decide +kernel
theorem dX2_build_5 : decode cX2_build 5 = .ok (.iload_n 1, 1) := by decide +kernel
theorem dX2_build_6 : decode cX2_build 6 = .ok (.bipush 8, 2) := by decide +kernel
theorem dX2_build_8 : decode cX2_build 8 = .ok (.if_icmp .gt 7, 3) := by decide +kernel
theorem dX2_build_11 : decode cX2_build 11 = .ok (.iload_n 1, 1) := by decide +kernel
theorem dX2_build_12 : decode cX2_build 12 = .ok (.goto 4, 3) := by decide +kernel
theorem dX2_build_15 : decode cX2_build 15 = .ok (.iconst 0, 1) := by decide +kernel
theorem dX2_build_16 : decode cX2_build 16 = .ok (.putfield 27, 3) := by decide +kernel
theorem dX2_build_19 : decode cX2_build 19 = .ok (.aload_n 0, 1) := by decide +kernel
theorem dX2_build_20 : decode cX2_build 20 = .ok (.iconst 0, 1) := by decide +kernel
theorem dX2_build_21 : decode cX2_build 21 = .ok (.putfield 35, 3) := by decide +kernel
theorem dX2_build_24 : decode cX2_build 24 = .ok (.aload_n 0, 1) := by decide +kernel
theorem dX2_build_25 : decode cX2_build 25 = .ok (.iconst 0, 1) := by decide +kernel
theorem dX2_build_26 : decode cX2_build 26 = .ok (.putfield 38, 3) := by decide +kernel
theorem dX2_build_29 : decode cX2_build 29 = .ok (.iconst 0, 1) := by decide +kernel
theorem dX2_build_30 : decode cX2_build 30 = .ok (.istore_n 2, 1) := by decide +kernel
theorem dX2_build_31 : decode cX2_build 31 = .ok (.iload_n 2, 1) := by decide +kernel
theorem dX2_build_32 : decode cX2_build 32 = .ok (.aload_n 0, 1) := by decide +kernel
theorem dX2_build_33 : decode cX2_build 33 = .ok (.getfield 27, 3) := by decide +kernel
theorem dX2_build_36 : decode cX2_build 36 = .ok (.if_icmp .ge 42, 3) := by decide +kernel
theorem dX2_build_39 : decode cX2_build 39 = .ok (.aload_n 0, 1) := by decide +kernel
theorem dX2_build_40 : decode cX2_build 40 = .ok (.iload_n 2, 1) := by decide +kernel
theorem dX2_build_41 : decode cX2_build 41 = .ok (.iconst 0, 1) := by decide +kernel
theorem dX2_build_42 : decode cX2_build 42 = .ok (.iload_n 2, 1) := by decide +kernel
theorem dX2_build_43 : decode cX2_build 43 = .ok (.iconst 1, 1) := by decide +kernel
theorem dX2_build_44 : decode cX2_build 44 = .ok (.iadd, 1) := by decide +kernel
theorem dX2_build_45 : decode cX2_build 45 = .ok (.aload_n 0, 1) := by decide +kernel
theorem dX2_build_46 : decode cX2_build 46 = .ok (.getfield 27, 3) := by decide +kernel
theorem dX2_build_49 : decode cX2_build 49 = .ok (.if_icmp .ge 9, 3) := by decide +kernel
theorem dX2_build_52 : decode cX2_build 52 = .ok (.iload_n 2, 1) := by decide +kernel
theorem dX2_build_53 : decode cX2_build 53 = .ok (.iconst 1, 1) := by decide +kernel
theorem dX2_build_54 : decode cX2_build 54 = .ok (.iadd, 1) := by decide +kernel
theorem dX2_build_55 : decode cX2_build 55 = .ok (.goto 4, 3) := by decide +kernel
theorem dX2_build_58 : decode cX2_build 58 = .ok (.iconst 0, 1) := by decide +kernel
theorem dX2_build_59 : decode cX2_build 59 = .ok (.bipush (-9), 2) := by decide +kernel
theorem dX2_build_61 : decode cX2_build 61 = .ok (.iconst 0, 1) := by decide +kernel
theorem dX2_build_62 : decode cX2_build 62 = .ok (.invokevirtual 41, 3) := by decide +kernel
theorem dX2_build_65 : decode cX2_build 65 = .ok (.aload_n 0, 1) := by decide +kernel
theorem dX2_build_66 : decode cX2_build 66 = .ok (.getfield 24, 3) := by decide +kernel
theorem dX2_build_69 : decode cX2_build 69 = .ok (.iload_n 2, 1) := by decide +kernel
theorem dX2_build_70 : decode cX2_build 70 = .ok (.iconst 0, 1) := by decide +kernel
theorem dX2_build_71 : decode cX2_build 71 = .ok (.iastore, 1) := by decide +kernel
theorem dX2_build_72 : decode cX2_build 72 = .ok (.iinc 2 1, 3) := by decide +kernel
theorem dX2_build_75 : decode cX2_build 75 = .ok (.goto (-44), 3) := by decide +kernel
theorem dX2_build_78 : decode cX2_build 78 = .ok (.return_, 1) := by decide +kernel
set_option maxRecDepth 20000 in
theorem ggX2_become_X2_build : GoodIn wsX2_become wsX2_build := goodIn_r _ [11, 1, 12, 13, 6, 14, 15, 16, 10, 17, 2, 3, 4, 5, 18, 19, 20, 21, 22, 23, 24, 25, 26, 27, 28, 29] (by decide +kernel) (by decide +kernel)
set_option maxRecDepth 20000 in
theorem gX2_become_X2_build : GoodIn wsX2_become (wsV RX2 45 RX2 yX2_build wsX2_build) := goodIn_app (goodIn_of _ (by decide +kernel)) ggX2_become_X2_build
set_option maxRecDepth 20000 in
theorem ggX2_become_X2_setDoor : GoodIn wsX2_become wsX2_setDoor := goodIn_r _ [17, 2, 3, 4, 5, 12, 13, 18, 19, 20, 10, 21, 1, 22, 23, 24, 25, 26, 27, 28, 29] (by decide +kernel) (by decide +kernel)
set_option maxRecDepth 20000 in
theorem gX2_become_X2_setDoor : GoodIn wsX2_become (wsV RX2 41 RX2 yX2_setDoor wsX2_setDoor) := goodIn_app (goodIn_of _ (by decide +kernel)) ggX2_become_X2_setDoor
theorem dX2_become_0 : decode cX2_become 0 = .ok (.aload_n 0, 1) := by decide +kernel
theorem dX2_become_1 : decode cX2_become 1 = .ok (.aload_n 1, 1) := by decide +kernel
theorem dX2_become_2 : decode cX2_become 2 = .ok (.getfield 27, 3) := by decide +kernel
theorem dX2_become_5 : decode cX2_become 5 = .ok (.invokevirtual 45, 3) := by decide +kernel
theorem dX2_become_8 : decode cX2_become 8 = .ok (.iconst 0, 1) := by decide +kernel
theorem dX2_become_9 : decode cX2_become 9 = .ok (.istore_n 2, 1) := by decide +kernel
theorem dX2_become_10 : decode cX2_become 10 = .ok (.iload_n 2, 1) := by decide +kernel
theorem dX2_become_11 : decode cX2_become 11 = .ok (.aload_n 0, 1) := by decide +kernel
theorem dX2_become_12 : decode cX2_become 12 = .ok (.getfield 27, 3) := by decide +kernel
theorem dX2_become_15 : decode cX2_become 15 = .ok (.if_icmp .ge 50, 3) := by decide +kernel
theorem dX2_become_18 : decode cX2_become 18 = .ok (.aload_n 0, 1) := by decide +kernel
theorem dX2_become_19 : decode cX2_become 19 = .ok (.iload_n 2, 1) := by decide +kernel
theorem dX2_become_20 : decode cX2_become 20 = .ok (.aload_n 1, 1) := by decide +kernel
theorem dX2_become_21 : decode cX2_become 21 = .ok (.getfield 9, 3) := by decide +kernel
theorem dX2_become_24 : decode cX2_become 24 = .ok (.iload_n 2, 1) := by decide +kernel
theorem dX2_become_25 : decode cX2_become 25 = .ok (.iaload, 1) := by decide +kernel
theorem dX2_become_26 : decode cX2_become 26 = .ok (.aload_n 1, 1) := by decide +kernel
theorem dX2_become_27 : decode cX2_become 27 = .ok (.getfield 15, 3) := by decide +kernel
theorem dX2_become_30 : decode cX2_become 30 = .ok (.iload_n 2, 1) := by decide +kernel
theorem dX2_become_31 : decode cX2_become 31 = .ok (.iaload, 1) := by decide +kernel
theorem dX2_become_32 : decode cX2_become 32 = .ok (.aload_n 1, 1) := by decide +kernel
theorem dX2_become_33 : decode cX2_become 33 = .ok (.getfield 18, 3) := by decide +kernel
theorem dX2_become_36 : decode cX2_become 36 = .ok (.iload_n 2, 1) := by decide +kernel
theorem dX2_become_37 : decode cX2_become 37 = .ok (.iaload, 1) := by decide +kernel
theorem dX2_become_38 : decode cX2_become 38 = .ok (.aload_n 1, 1) := by decide +kernel
theorem dX2_become_39 : decode cX2_become 39 = .ok (.getfield 21, 3) := by decide +kernel
theorem dX2_become_42 : decode cX2_become 42 = .ok (.iload_n 2, 1) := by decide +kernel
theorem dX2_become_43 : decode cX2_become 43 = .ok (.iaload, 1) := by decide +kernel
theorem dX2_become_44 : decode cX2_become 44 = .ok (.invokevirtual 41, 3) := by decide +kernel
theorem dX2_become_47 : decode cX2_become 47 = .ok (.aload_n 0, 1) := by decide +kernel
theorem dX2_become_48 : decode cX2_become 48 = .ok (.getfield 24, 3) := by decide +kernel
theorem dX2_become_51 : decode cX2_become 51 = .ok (.iload_n 2, 1) := by decide +kernel
theorem dX2_become_52 : decode cX2_become 52 = .ok (.aload_n 1, 1) := by decide +kernel
theorem dX2_become_53 : decode cX2_become 53 = .ok (.getfield 24, 3) := by decide +kernel
theorem dX2_become_56 : decode cX2_become 56 = .ok (.iload_n 2, 1) := by decide +kernel
theorem dX2_become_57 : decode cX2_become 57 = .ok (.iaload, 1) := by decide +kernel
theorem dX2_become_58 : decode cX2_become 58 = .ok (.iastore, 1) := by decide +kernel
theorem dX2_become_59 : decode cX2_become 59 = .ok (.iinc 2 1, 3) := by decide +kernel
theorem dX2_become_62 : decode cX2_become 62 = .ok (.goto (-52), 3) := by decide +kernel
theorem dX2_become_65 : decode cX2_become 65 = .ok (.return_, 1) := by decide +kernel
set_option maxRecDepth 20000 in
theorem ggX2_setDoor_X2_isCell : GoodIn wsX2_setDoor wsX2_isCell := goodIn_r _ [11, 12, 13, 14, 15, 16, 17, 18, 19, 20] (by decide +kernel) (by decide +kernel)
set_option maxRecDepth 20000 in
theorem gX2_setDoor_X2_isCell : GoodIn wsX2_setDoor (wsV RX2 49 RX2 yX2_isCell wsX2_isCell) := goodIn_app (goodIn_of _ (by decide +kernel)) ggX2_setDoor_X2_isCell
theorem dX2_setDoor_0 : decode cX2_setDoor 0 = .ok (.aload_n 0, 1) := by decide +kernel
theorem dX2_setDoor_1 : decode cX2_setDoor 1 = .ok (.iload_n 1, 1) := by decide +kernel
theorem dX2_setDoor_2 : decode cX2_setDoor 2 = .ok (.invokevirtual 49, 3) := by decide +kernel
theorem dX2_setDoor_5 : decode cX2_setDoor 5 = .ok (.ifCond .eq 88, 3) := by decide +kernel
theorem dX2_setDoor_8 : decode cX2_setDoor 8 = .ok (.aload_n 0, 1) := by decide +kernel
theorem dX2_setDoor_9 : decode cX2_setDoor 9 = .ok (.getfield 9, 3) := by decide +kernel
theorem dX2_setDoor_12 : decode cX2_setDoor 12 = .ok (.iload_n 1, 1) := by decide +kernel
theorem dX2_setDoor_13 : decode cX2_setDoor 13 = .ok (.iload_n 2, 1) := by decide +kernel
theorem dX2_setDoor_14 : decode cX2_setDoor 14 = .ok (.iastore, 1) := by decide +kernel
theorem dX2_setDoor_15 : decode cX2_setDoor 15 = .ok (.aload_n 0, 1) := by decide +kernel
theorem dX2_setDoor_16 : decode cX2_setDoor 16 = .ok (.getfield 15, 3) := by decide +kernel
theorem dX2_setDoor_19 : decode cX2_setDoor 19 = .ok (.iload_n 1, 1) := by decide +kernel
theorem dX2_setDoor_20 : decode cX2_setDoor 20 = .ok (.iload_n 3, 1) := by decide +kernel
theorem dX2_setDoor_21 : decode cX2_setDoor 21 = .ok (.iastore, 1) := by decide +kernel
theorem dX2_setDoor_22 : decode cX2_setDoor 22 = .ok (.aload_n 0, 1) := by decide +kernel
theorem dX2_setDoor_23 : decode cX2_setDoor 23 = .ok (.getfield 18, 3) := by decide +kernel
theorem dX2_setDoor_26 : decode cX2_setDoor 26 = .ok (.iload_n 1, 1) := by decide +kernel
theorem dX2_setDoor_27 : decode cX2_setDoor 27 = .ok (.iload 4, 2) := by decide +kernel
theorem dX2_setDoor_29 : decode cX2_setDoor 29 = .ok (.iastore, 1) := by decide +kernel
theorem dX2_setDoor_30 : decode cX2_setDoor 30 = .ok (.aload_n 0, 1) := by decide +kernel
theorem dX2_setDoor_31 : decode cX2_setDoor 31 = .ok (.getfield 21, 3) := by decide +kernel
theorem dX2_setDoor_34 : decode cX2_setDoor 34 = .ok (.iload_n 1, 1) := by decide +kernel
theorem dX2_setDoor_35 : decode cX2_setDoor 35 = .ok (.iload 5, 2) := by decide +kernel
theorem dX2_setDoor_37 : decode cX2_setDoor 37 = .ok (.iastore, 1) := by decide +kernel
theorem dX2_setDoor_38 : decode cX2_setDoor 38 = .ok (.iconst 1, 1) := by decide +kernel
theorem dX2_setDoor_39 : decode cX2_setDoor 39 = .ok (.iload_n 1, 1) := by decide +kernel
theorem dX2_setDoor_40 : decode cX2_setDoor 40 = .ok (.ishl, 1) := by decide +kernel
theorem dX2_setDoor_41 : decode cX2_setDoor 41 = .ok (.iconst (-1), 1) := by decide +kernel
theorem dX2_setDoor_42 : decode cX2_setDoor 42 = .ok (.ixor, 1) := by decide +kernel
theorem dX2_setDoor_43 : decode cX2_setDoor 43 = .ok (.istore 6, 2) := by decide +kernel
theorem dX2_setDoor_45 : decode cX2_setDoor 45 = .ok (.aload_n 0, 1) := by decide +kernel
theorem dX2_setDoor_46 : decode cX2_setDoor 46 = .ok (.aload_n 0, 1) := by decide +kernel
theorem dX2_setDoor_47 : decode cX2_setDoor 47 = .ok (.getfield 35, 3) := by decide +kernel
theorem dX2_setDoor_50 : decode cX2_setDoor 50 = .ok (.iload 6, 2) := by decide +kernel
theorem dX2_setDoor_52 : decode cX2_setDoor 52 = .ok (.iand, 1) := by decide +kernel
theorem dX2_setDoor_53 : decode cX2_setDoor 53 = .ok (.iload_n 2, 1) := by decide +kernel
theorem dX2_setDoor_54 : decode cX2_setDoor 54 = .ok (.iconst 4, 1) := by decide +kernel
theorem dX2_setDoor_55 : decode cX2_setDoor 55 = .ok (.if_icmp .ne 9, 3) := by decide +kernel
theorem dX2_setDoor_58 : decode cX2_setDoor 58 = .ok (.iconst 1, 1) := by decide +kernel
theorem dX2_setDoor_59 : decode cX2_setDoor 59 = .ok (.iload_n 1, 1) := by decide +kernel
theorem dX2_setDoor_60 : decode cX2_setDoor 60 = .ok (.ishl, 1) := by decide +kernel
theorem dX2_setDoor_61 : decode cX2_setDoor 61 = .ok (.goto 4, 3) := by decide +kernel
theorem dX2_setDoor_64 : decode cX2_setDoor 64 = .ok (.iconst 0, 1) := by decide +kernel
theorem dX2_setDoor_65 : decode cX2_setDoor 65 = .ok (.ior, 1) := by decide +kernel
theorem dX2_setDoor_66 : decode cX2_setDoor 66 = .ok (.putfield 35, 3) := by decide +kernel
theorem dX2_setDoor_69 : decode cX2_setDoor 69 = .ok (.aload_n 0, 1) := by decide +kernel
theorem dX2_setDoor_70 : decode cX2_setDoor 70 = .ok (.aload_n 0, 1) := by decide +kernel
theorem dX2_setDoor_71 : decode cX2_setDoor 71 = .ok (.getfield 38, 3) := by decide +kernel
theorem dX2_setDoor_74 : decode cX2_setDoor 74 = .ok (.iload 6, 2) := by decide +kernel
theorem dX2_setDoor_76 : decode cX2_setDoor 76 = .ok (.iand, 1) := by decide +kernel
theorem dX2_setDoor_77 : decode cX2_setDoor 77 = .ok (.iload_n 2, 1) := by decide +kernel
theorem dX2_setDoor_78 : decode cX2_setDoor 78 = .ok (.iconst 5, 1) := by decide +kernel
theorem dX2_setDoor_79 : decode cX2_setDoor 79 = .ok (.if_icmp .ne 9, 3) := by decide +kernel
theorem dX2_setDoor_82 : decode cX2_setDoor 82 = .ok (.iconst 1, 1) := by decide +kernel
theorem dX2_setDoor_83 : decode cX2_setDoor 83 = .ok (.iload_n 1, 1) := by decide +kernel
theorem dX2_setDoor_84 : decode cX2_setDoor 84 = .ok (.ishl, 1) := by decide +kernel
theorem dX2_setDoor_85 : decode cX2_setDoor 85 = .ok (.goto 4, 3) := by decide +kernel
theorem dX2_setDoor_88 : decode cX2_setDoor 88 = .ok (.iconst 0, 1) := by decide +kernel
theorem dX2_setDoor_89 : decode cX2_setDoor 89 = .ok (.ior, 1) := by decide +kernel
theorem dX2_setDoor_90 : decode cX2_setDoor 90 = .ok (.putfield 38, 3) := by decide +kernel
theorem dX2_setDoor_93 : decode cX2_setDoor 93 = .ok (.return_, 1) := by decide +kernel
set_option maxRecDepth 20000 in
theorem ggX2_setKeeper_X2_isCell : GoodIn wsX2_setKeeper wsX2_isCell := goodIn_r _ [6, 7, 8, 9, 10, 11, 12, 13, 14, 15] (by decide +kernel) (by decide +kernel)
set_option maxRecDepth 20000 in
theorem gX2_setKeeper_X2_isCell : GoodIn wsX2_setKeeper (wsV RX2 49 RX2 yX2_isCell wsX2_isCell) := goodIn_app (goodIn_of _ (by decide +kernel)) ggX2_setKeeper_X2_isCell
theorem dX2_setKeeper_0 : decode cX2_setKeeper 0 = .ok (.aload_n 0, 1) := by decide +kernel
theorem dX2_setKeeper_1 : decode cX2_setKeeper 1 = .ok (.iload_n 1, 1) := by decide +kernel
theorem dX2_setKeeper_2 : decode cX2_setKeeper 2 = .ok (.invokevirtual 49, 3) := by decide +kernel
theorem dX2_setKeeper_5 : decode cX2_setKeeper 5 = .ok (.ifCond .eq 10, 3) := by decide +kernel
theorem dX2_setKeeper_8 : decode cX2_setKeeper 8 = .ok (.aload_n 0, 1) := by decide +kernel
theorem dX2_setKeeper_9 : decode cX2_setKeeper 9 = .ok (.getfield 15, 3) := by decide +kernel
theorem dX2_setKeeper_12 : decode cX2_setKeeper 12 = .ok (.iload_n 1, 1) := by decide +kernel
theorem dX2_setKeeper_13 : decode cX2_setKeeper 13 = .ok (.iload_n 2, 1) := by decide +kernel
theorem dX2_setKeeper_14 : decode cX2_setKeeper 14 = .ok (.iastore, 1) := by decide +kernel
theorem dX2_setKeeper_15 : decode cX2_setKeeper 15 = .ok (.return_, 1) := by decide +kernel
set_option maxRecDepth 20000 in
theorem ggX2_setQuarrel_X2_isCell : GoodIn wsX2_setQuarrel wsX2_isCell := goodIn_r _ [6, 7, 8, 9, 10, 11, 12, 13, 14, 15] (by decide +kernel) (by decide +kernel)
set_option maxRecDepth 20000 in
theorem gX2_setQuarrel_X2_isCell : GoodIn wsX2_setQuarrel (wsV RX2 49 RX2 yX2_isCell wsX2_isCell) := goodIn_app (goodIn_of _ (by decide +kernel)) ggX2_setQuarrel_X2_isCell
theorem dX2_setQuarrel_0 : decode cX2_setQuarrel 0 = .ok (.aload_n 0, 1) := by decide +kernel
theorem dX2_setQuarrel_1 : decode cX2_setQuarrel 1 = .ok (.iload_n 1, 1) := by decide +kernel
theorem dX2_setQuarrel_2 : decode cX2_setQuarrel 2 = .ok (.invokevirtual 49, 3) := by decide +kernel
theorem dX2_setQuarrel_5 : decode cX2_setQuarrel 5 = .ok (.ifCond .eq 55, 3) := by decide +kernel
theorem dX2_setQuarrel_8 : decode cX2_setQuarrel 8 = .ok (.aload_n 0, 1) := by decide +kernel
theorem dX2_setQuarrel_9 : decode cX2_setQuarrel 9 = .ok (.iload_n 2, 1) := by decide +kernel
theorem dX2_setQuarrel_10 : decode cX2_setQuarrel 10 = .ok (.invokevirtual 49, 3) := by decide +kernel
theorem dX2_setQuarrel_13 : decode cX2_setQuarrel 13 = .ok (.ifCond .eq 47, 3) := by decide +kernel
theorem dX2_setQuarrel_16 : decode cX2_setQuarrel 16 = .ok (.aload_n 0, 1) := by decide +kernel
theorem dX2_setQuarrel_17 : decode cX2_setQuarrel 17 = .ok (.getfield 24, 3) := by decide +kernel
theorem dX2_setQuarrel_20 : decode cX2_setQuarrel 20 = .ok (.iload_n 1, 1) := by decide +kernel
theorem dX2_setQuarrel_21 : decode cX2_setQuarrel 21 = .ok (.aload_n 0, 1) := by decide +kernel
theorem dX2_setQuarrel_22 : decode cX2_setQuarrel 22 = .ok (.getfield 24, 3) := by decide +kernel
theorem dX2_setQuarrel_25 : decode cX2_setQuarrel 25 = .ok (.iload_n 1, 1) := by decide +kernel
theorem dX2_setQuarrel_26 : decode cX2_setQuarrel 26 = .ok (.iaload, 1) := by decide +kernel
theorem dX2_setQuarrel_27 : decode cX2_setQuarrel 27 = .ok (.iconst 1, 1) := by decide +kernel
theorem dX2_setQuarrel_28 : decode cX2_setQuarrel 28 = .ok (.iload_n 2, 1) := by decide +kernel
theorem dX2_setQuarrel_29 : decode cX2_setQuarrel 29 = .ok (.ishl, 1) := by decide +kernel
theorem dX2_setQuarrel_30 : decode cX2_setQuarrel 30 = .ok (.iconst (-1), 1) := by decide +kernel
theorem dX2_setQuarrel_31 : decode cX2_setQuarrel 31 = .ok (.ixor, 1) := by decide +kernel
theorem dX2_setQuarrel_32 : decode cX2_setQuarrel 32 = .ok (.iand, 1) := by decide +kernel
theorem dX2_setQuarrel_33 : decode cX2_setQuarrel 33 = .ok (.iload_n 3, 1) := by decide +kernel
theorem dX2_setQuarrel_34 : decode cX2_setQuarrel 34 = .ok (.iload_n 2, 1) := by decide +kernel
theorem dX2_setQuarrel_35 : decode cX2_setQuarrel 35 = .ok (.ishl, 1) := by decide +kernel
theorem dX2_setQuarrel_36 : decode cX2_setQuarrel 36 = .ok (.ior, 1) := by decide +kernel
theorem dX2_setQuarrel_37 : decode cX2_setQuarrel 37 = .ok (.iastore, 1) := by decide +kernel
theorem dX2_setQuarrel_38 : decode cX2_setQuarrel 38 = .ok (.aload_n 0, 1) := by decide +kernel
theorem dX2_setQuarrel_39 : decode cX2_setQuarrel 39 = .ok (.getfield 24, 3) := by decide +kernel
theorem dX2_setQuarrel_42 : decode cX2_setQuarrel 42 = .ok (.iload_n 2, 1) := by decide +kernel
theorem dX2_setQuarrel_43 : decode cX2_setQuarrel 43 = .ok (.aload_n 0, 1) := by decide +kernel
theorem dX2_setQuarrel_44 : decode cX2_setQuarrel 44 = .ok (.getfield 24, 3) := by decide +kernel
theorem dX2_setQuarrel_47 : decode cX2_setQuarrel 47 = .ok (.iload_n 2, 1) := by decide +kernel
theorem dX2_setQuarrel_48 : decode cX2_setQuarrel 48 = .ok (.iaload, 1) := by decide +kernel
theorem dX2_setQuarrel_49 : decode cX2_setQuarrel 49 = .ok (.iconst 1, 1) := by decide +kernel
theorem dX2_setQuarrel_50 : decode cX2_setQuarrel 50 = .ok (.iload_n 1, 1) := by decide +kernel
theorem dX2_setQuarrel_51 : decode cX2_setQuarrel 51 = .ok (.ishl, 1) := by decide +kernel
theorem dX2_setQuarrel_52 : decode cX2_setQuarrel 52 = .ok (.iconst (-1), 1) := by decide +kernel
theorem dX2_setQuarrel_53 : decode cX2_setQuarrel 53 = .ok (.ixor, 1) := by decide +kernel
theorem dX2_setQuarrel_54 : decode cX2_setQuarrel 54 = .ok (.iand, 1) := by decide +kernel
theorem dX2_setQuarrel_55 : decode cX2_setQuarrel 55 = .ok (.iload_n 3, 1) := by decide +kernel
theorem dX2_setQuarrel_56 : decode cX2_setQuarrel 56 = .ok (.iload_n 1, 1) := by decide +kernel
theorem dX2_setQuarrel_57 : decode cX2_setQuarrel 57 = .ok (.ishl, 1) := by decide +kernel
theorem dX2_setQuarrel_58 : decode cX2_setQuarrel 58 = .ok (.ior, 1) := by decide +kernel
theorem dX2_setQuarrel_59 : decode cX2_setQuarrel 59 = .ok (.iastore, 1) := by decide +kernel
theorem dX2_setQuarrel_60 : decode cX2_setQuarrel 60 = .ok (.return_, 1) := by decide +kernel
set_option maxRecDepth 20000 in
theorem ggX2_keeperOf_X2_isCell : GoodIn wsX2_keeperOf wsX2_isCell := goodIn_r _ [6, 7, 8, 9, 10, 11, 12, 13, 14, 15] (by decide +kernel) (by decide +kernel)
set_option maxRecDepth 20000 in
theorem gX2_keeperOf_X2_isCell : GoodIn wsX2_keeperOf (wsV RX2 49 RX2 yX2_isCell wsX2_isCell) := goodIn_app (goodIn_of _ (by decide +kernel)) ggX2_keeperOf_X2_isCell
theorem dX2_keeperOf_0 : decode cX2_keeperOf 0 = .ok (.aload_n 0, 1) := by decide +kernel
theorem dX2_keeperOf_1 : decode cX2_keeperOf 1 = .ok (.iload_n 1, 1) := by decide +kernel
theorem dX2_keeperOf_2 : decode cX2_keeperOf 2 = .ok (.invokevirtual 49, 3) := by decide +kernel
theorem dX2_keeperOf_5 : decode cX2_keeperOf 5 = .ok (.ifCond .eq 12, 3) := by decide +kernel
theorem dX2_keeperOf_8 : decode cX2_keeperOf 8 = .ok (.aload_n 0, 1) := by decide +kernel
theorem dX2_keeperOf_9 : decode cX2_keeperOf 9 = .ok (.getfield 15, 3) := by decide +kernel
theorem dX2_keeperOf_12 : decode cX2_keeperOf 12 = .ok (.iload_n 1, 1) := by decide +kernel
theorem dX2_keeperOf_13 : decode cX2_keeperOf 13 = .ok (.iaload, 1) := by decide +kernel
theorem dX2_keeperOf_14 : decode cX2_keeperOf 14 = .ok (.goto 5, 3) := by decide +kernel
theorem dX2_keeperOf_17 : decode cX2_keeperOf 17 = .ok (.bipush (-9), 2) := by decide +kernel
theorem dX2_keeperOf_19 : decode cX2_keeperOf 19 = .ok (.ireturn, 1) := by decide +kernel
set_option maxRecDepth 20000 in
theorem ggX2_foesOf_X2_isCell : GoodIn wsX2_foesOf wsX2_isCell := goodIn_r _ [6, 7, 8, 9, 10, 11, 12, 13, 14, 15] (by decide +kernel) (by decide +kernel)
set_option maxRecDepth 20000 in
theorem gX2_foesOf_X2_isCell : GoodIn wsX2_foesOf (wsV RX2 49 RX2 yX2_isCell wsX2_isCell) := goodIn_app (goodIn_of _ (by decide +kernel)) ggX2_foesOf_X2_isCell
theorem dX2_foesOf_0 : decode cX2_foesOf 0 = .ok (.aload_n 0, 1) := by decide +kernel
theorem dX2_foesOf_1 : decode cX2_foesOf 1 = .ok (.iload_n 1, 1) := by decide +kernel
theorem dX2_foesOf_2 : decode cX2_foesOf 2 = .ok (.invokevirtual 49, 3) := by decide +kernel
theorem dX2_foesOf_5 : decode cX2_foesOf 5 = .ok (.ifCond .eq 12, 3) := by decide +kernel
theorem dX2_foesOf_8 : decode cX2_foesOf 8 = .ok (.aload_n 0, 1) := by decide +kernel
theorem dX2_foesOf_9 : decode cX2_foesOf 9 = .ok (.getfield 24, 3) := by decide +kernel
theorem dX2_foesOf_12 : decode cX2_foesOf 12 = .ok (.iload_n 1, 1) := by decide +kernel
theorem dX2_foesOf_13 : decode cX2_foesOf 13 = .ok (.iaload, 1) := by decide +kernel
theorem dX2_foesOf_14 : decode cX2_foesOf 14 = .ok (.goto 4, 3) := by decide +kernel
theorem dX2_foesOf_17 : decode cX2_foesOf 17 = .ok (.iconst 0, 1) := by decide +kernel
theorem dX2_foesOf_18 : decode cX2_foesOf 18 = .ok (.ireturn, 1) := by decide +kernel
set_option maxRecDepth 20000 in
theorem ggX2_isOf_X2_isCell : GoodIn wsX2_isOf wsX2_isCell := goodIn_r _ [6, 7, 8, 9, 10, 11, 12, 13, 14, 15] (by decide +kernel) (by decide +kernel)
set_option maxRecDepth 20000 in
theorem gX2_isOf_X2_isCell : GoodIn wsX2_isOf (wsV RX2 49 RX2 yX2_isCell wsX2_isCell) := goodIn_app (goodIn_of _ (by decide +kernel)) ggX2_isOf_X2_isCell
theorem dX2_isOf_0 : decode cX2_isOf 0 = .ok (.aload_n 0, 1) := by decide +kernel
theorem dX2_isOf_1 : decode cX2_isOf 1 = .ok (.iload_n 1, 1) := by decide +kernel
theorem dX2_isOf_2 : decode cX2_isOf 2 = .ok (.invokevirtual 49, 3) := by decide +kernel
theorem dX2_isOf_5 : decode cX2_isOf 5 = .ok (.ifCond .ne 5, 3) := by decide +kernel
theorem dX2_isOf_8 : decode cX2_isOf 8 = .ok (.iconst 0, 1) := by decide +kernel
theorem dX2_isOf_9 : decode cX2_isOf 9 = .ok (.ireturn, 1) := by decide +kernel
theorem dX2_isOf_10 : decode cX2_isOf 10 = .ok (.aload_n 0, 1) := by decide +kernel
theorem dX2_isOf_11 : decode cX2_isOf 11 = .ok (.getfield 9, 3) := by decide +kernel
theorem dX2_isOf_14 : decode cX2_isOf 14 = .ok (.iload_n 1, 1) := by decide +kernel
theorem dX2_isOf_15 : decode cX2_isOf 15 = .ok (.iaload, 1) := by decide +kernel
theorem dX2_isOf_16 : decode cX2_isOf 16 = .ok (.istore_n 3, 1) := by decide +kernel
theorem dX2_isOf_17 : decode cX2_isOf 17 = .ok (.iload_n 3, 1) := by decide +kernel
theorem dX2_isOf_18 : decode cX2_isOf 18 = .ok (.iload_n 2, 1) := by decide +kernel
theorem dX2_isOf_19 : decode cX2_isOf 19 = .ok (.if_icmp .eq 23, 3) := by decide +kernel
theorem dX2_isOf_22 : decode cX2_isOf 22 = .ok (.iload_n 2, 1) := by decide +kernel
theorem dX2_isOf_23 : decode cX2_isOf 23 = .ok (.iconst 1, 1) := by decide +kernel
theorem dX2_isOf_24 : decode cX2_isOf 24 = .ok (.if_icmp .ne 8, 3) := by decide +kernel
theorem dX2_isOf_27 : decode cX2_isOf 27 = .ok (.iload_n 3, 1) := by decide +kernel
theorem dX2_isOf_28 : decode cX2_isOf 28 = .ok (.iconst 5, 1) := by decide +kernel
theorem dX2_isOf_29 : decode cX2_isOf 29 = .ok (.if_icmp .eq 13, 3) := by decide +kernel
theorem dX2_isOf_32 : decode cX2_isOf 32 = .ok (.iload_n 2, 1) := by decide +kernel
theorem dX2_isOf_33 : decode cX2_isOf 33 = .ok (.iconst 3, 1) := by decide +kernel
theorem dX2_isOf_34 : decode cX2_isOf 34 = .ok (.if_icmp .ne 12, 3) := by decide +kernel
theorem dX2_isOf_37 : decode cX2_isOf 37 = .ok (.iload_n 3, 1) := by decide +kernel
theorem dX2_isOf_38 : decode cX2_isOf 38 = .ok (.iconst 4, 1) := by decide +kernel
theorem dX2_isOf_39 : decode cX2_isOf 39 = .ok (.if_icmp .ne 7, 3) := by decide +kernel
theorem dX2_isOf_42 : decode cX2_isOf 42 = .ok (.iconst 1, 1) := by decide +kernel
theorem dX2_isOf_43 : decode cX2_isOf 43 = .ok (.goto 4, 3) := by decide +kernel
theorem dX2_isOf_46 : decode cX2_isOf 46 = .ok (.iconst 0, 1) := by decide +kernel
theorem dX2_isOf_47 : decode cX2_isOf 47 = .ok (.ireturn, 1) := by decide +kernel
set_option maxRecDepth 20000 in
theorem ggX2_doorAnswer_X2_isCell : GoodIn wsX2_doorAnswer wsX2_isCell := goodIn_r _ [9, 10, 11, 12, 13, 14, 15, 16, 17, 18] (by decide +kernel) (by decide +kernel)
set_option maxRecDepth 20000 in
theorem gX2_doorAnswer_X2_isCell : GoodIn wsX2_doorAnswer (wsV RX2 49 RX2 yX2_isCell wsX2_isCell) := goodIn_app (goodIn_of _ (by decide +kernel)) ggX2_doorAnswer_X2_isCell
theorem dX2_doorAnswer_0 : decode cX2_doorAnswer 0 = .ok (.aload_n 0, 1) := by decide +kernel
theorem dX2_doorAnswer_1 : decode cX2_doorAnswer 1 = .ok (.iload_n 1, 1) := by decide +kernel
theorem dX2_doorAnswer_2 : decode cX2_doorAnswer 2 = .ok (.invokevirtual 49, 3) := by decide +kernel
theorem dX2_doorAnswer_5 : decode cX2_doorAnswer 5 = .ok (.ifCond .ne 6, 3) := by decide +kernel
theorem dX2_doorAnswer_8 : decode cX2_doorAnswer 8 = .ok (.bipush (-9), 2) := by decide +kernel
theorem dX2_doorAnswer_10 : decode cX2_doorAnswer 10 = .ok (.ireturn, 1) := by decide +kernel
theorem dX2_doorAnswer_11 : decode cX2_doorAnswer 11 = .ok (.iload_n 2, 1) := by decide +kernel
theorem dX2_doorAnswer_12 : decode cX2_doorAnswer 12 = .ok (.tableswitch 49 0 2 #[28, 35, 42], 28) := by decide +kernel
theorem dX2_doorAnswer_40 : decode cX2_doorAnswer 40 = .ok (.aload_n 0, 1) := by decide +kernel
theorem dX2_doorAnswer_41 : decode cX2_doorAnswer 41 = .ok (.getfield 9, 3) := by decide +kernel
theorem dX2_doorAnswer_44 : decode cX2_doorAnswer 44 = .ok (.iload_n 1, 1) := by decide +kernel
theorem dX2_doorAnswer_45 : decode cX2_doorAnswer 45 = .ok (.iaload, 1) := by decide +kernel
theorem dX2_doorAnswer_46 : decode cX2_doorAnswer 46 = .ok (.ireturn, 1) := by decide +kernel
theorem dX2_doorAnswer_47 : decode cX2_doorAnswer 47 = .ok (.aload_n 0, 1) := by decide +kernel
theorem dX2_doorAnswer_48 : decode cX2_doorAnswer 48 = .ok (.getfield 15, 3) := by decide +kernel
theorem dX2_doorAnswer_51 : decode cX2_doorAnswer 51 = .ok (.iload_n 1, 1) := by decide +kernel
theorem dX2_doorAnswer_52 : decode cX2_doorAnswer 52 = .ok (.iaload, 1) := by decide +kernel
theorem dX2_doorAnswer_53 : decode cX2_doorAnswer 53 = .ok (.ireturn, 1) := by decide +kernel
theorem dX2_doorAnswer_54 : decode cX2_doorAnswer 54 = .ok (.aload_n 0, 1) := by decide +kernel
theorem dX2_doorAnswer_55 : decode cX2_doorAnswer 55 = .ok (.getfield 18, 3) := by decide +kernel
theorem dX2_doorAnswer_58 : decode cX2_doorAnswer 58 = .ok (.iload_n 1, 1) := by decide +kernel
theorem dX2_doorAnswer_59 : decode cX2_doorAnswer 59 = .ok (.iaload, 1) := by decide +kernel
theorem dX2_doorAnswer_60 : decode cX2_doorAnswer 60 = .ok (.ireturn, 1) := by decide +kernel
theorem dX2_doorAnswer_61 : decode cX2_doorAnswer 61 = .ok (.aload_n 0, 1) := by decide +kernel
theorem dX2_doorAnswer_62 : decode cX2_doorAnswer 62 = .ok (.getfield 21, 3) := by decide +kernel
theorem dX2_doorAnswer_65 : decode cX2_doorAnswer 65 = .ok (.iload_n 1, 1) := by decide +kernel
theorem dX2_doorAnswer_66 : decode cX2_doorAnswer 66 = .ok (.iaload, 1) := by decide +kernel
theorem dX2_doorAnswer_67 : decode cX2_doorAnswer 67 = .ok (.ireturn, 1) := by decide +kernel
set_option maxRecDepth 20000 in
theorem ggX2_mayKeep_X2_isCell : GoodIn wsX2_mayKeep wsX2_isCell := goodIn_r _ [7, 8, 9, 10, 11, 12, 13, 14, 15, 16] (by decide +kernel) (by decide +kernel)
set_option maxRecDepth 20000 in
theorem gX2_mayKeep_X2_isCell : GoodIn wsX2_mayKeep (wsV RX2 49 RX2 yX2_isCell wsX2_isCell) := goodIn_app (goodIn_of _ (by decide +kernel)) ggX2_mayKeep_X2_isCell
theorem dX2_mayKeep_0 : decode cX2_mayKeep 0 = .ok (.aload_n 0, 1) := by decide +kernel
theorem dX2_mayKeep_1 : decode cX2_mayKeep 1 = .ok (.iload_n 1, 1) := by decide +kernel
theorem dX2_mayKeep_2 : decode cX2_mayKeep 2 = .ok (.invokevirtual 49, 3) := by decide +kernel
theorem dX2_mayKeep_5 : decode cX2_mayKeep 5 = .ok (.ifCond .eq 40, 3) := by decide +kernel
theorem dX2_mayKeep_8 : decode cX2_mayKeep 8 = .ok (.aload_n 0, 1) := by decide +kernel
theorem dX2_mayKeep_9 : decode cX2_mayKeep 9 = .ok (.iload_n 2, 1) := by decide +kernel
theorem dX2_mayKeep_10 : decode cX2_mayKeep 10 = .ok (.invokevirtual 49, 3) := by decide +kernel
theorem dX2_mayKeep_13 : decode cX2_mayKeep 13 = .ok (.ifCond .eq 32, 3) := by decide +kernel
theorem dX2_mayKeep_16 : decode cX2_mayKeep 16 = .ok (.iload_n 1, 1) := by decide +kernel
theorem dX2_mayKeep_17 : decode cX2_mayKeep 17 = .ok (.iload_n 2, 1) := by decide +kernel
theorem dX2_mayKeep_18 : decode cX2_mayKeep 18 = .ok (.if_icmp .eq 27, 3) := by decide +kernel
theorem dX2_mayKeep_21 : decode cX2_mayKeep 21 = .ok (.aload_n 0, 1) := by decide +kernel
theorem dX2_mayKeep_22 : decode cX2_mayKeep 22 = .ok (.getfield 9, 3) := by decide +kernel
theorem dX2_mayKeep_25 : decode cX2_mayKeep 25 = .ok (.iload_n 1, 1) := by decide +kernel
theorem dX2_mayKeep_26 : decode cX2_mayKeep 26 = .ok (.iaload, 1) := by decide +kernel
theorem dX2_mayKeep_27 : decode cX2_mayKeep 27 = .ok (.iconst 2, 1) := by decide +kernel
theorem dX2_mayKeep_28 : decode cX2_mayKeep 28 = .ok (.if_icmp .eq 17, 3) := by decide +kernel
theorem dX2_mayKeep_31 : decode cX2_mayKeep 31 = .ok (.aload_n 0, 1) := by decide +kernel
theorem dX2_mayKeep_32 : decode cX2_mayKeep 32 = .ok (.getfield 18, 3) := by decide +kernel
theorem dX2_mayKeep_35 : decode cX2_mayKeep 35 = .ok (.iload_n 1, 1) := by decide +kernel
theorem dX2_mayKeep_36 : decode cX2_mayKeep 36 = .ok (.iaload, 1) := by decide +kernel
theorem dX2_mayKeep_37 : decode cX2_mayKeep 37 = .ok (.iload_n 2, 1) := by decide +kernel
theorem dX2_mayKeep_38 : decode cX2_mayKeep 38 = .ok (.if_icmp .eq 7, 3) := by decide +kernel
theorem dX2_mayKeep_41 : decode cX2_mayKeep 41 = .ok (.iconst 1, 1) := by decide +kernel
theorem dX2_mayKeep_42 : decode cX2_mayKeep 42 = .ok (.goto 4, 3) := by decide +kernel
theorem dX2_mayKeep_45 : decode cX2_mayKeep 45 = .ok (.iconst 0, 1) := by decide +kernel
theorem dX2_mayKeep_46 : decode cX2_mayKeep 46 = .ok (.ireturn, 1) := by decide +kernel
set_option maxRecDepth 20000 in
theorem ggX2_doorsOf_X2_isOf : GoodIn wsX2_doorsOf wsX2_isOf := goodIn_r _ [6, 7, 8, 9, 10, 5, 11, 1, 12, 13, 14, 15, 16, 17, 18, 19] (by decide +kernel) (by decide +kernel)
set_option maxRecDepth 20000 in
theorem gX2_doorsOf_X2_isOf : GoodIn wsX2_doorsOf (wsV RX2 66 RX2 yX2_isOf wsX2_isOf) := goodIn_app (goodIn_of _ (by decide +kernel)) ggX2_doorsOf_X2_isOf
theorem dX2_doorsOf_0 : decode cX2_doorsOf 0 = .ok (.iconst 0, 1) := by decide +kernel
theorem dX2_doorsOf_1 : decode cX2_doorsOf 1 = .ok (.istore_n 2, 1) := by decide +kernel
theorem dX2_doorsOf_2 : decode cX2_doorsOf 2 = .ok (.iconst 0, 1) := by decide +kernel
theorem dX2_doorsOf_3 : decode cX2_doorsOf 3 = .ok (.istore_n 3, 1) := by decide +kernel
theorem dX2_doorsOf_4 : decode cX2_doorsOf 4 = .ok (.iload_n 3, 1) := by decide +kernel
theorem dX2_doorsOf_5 : decode cX2_doorsOf 5 = .ok (.aload_n 0, 1) := by decide +kernel
theorem dX2_doorsOf_6 : decode cX2_doorsOf 6 = .ok (.getfield 27, 3) := by decide +kernel
theorem dX2_doorsOf_9 : decode cX2_doorsOf 9 = .ok (.if_icmp .ge 26, 3) := by decide +kernel
theorem dX2_doorsOf_12 : decode cX2_doorsOf 12 = .ok (.iload_n 2, 1) := by decide +kernel
theorem dX2_doorsOf_13 : decode cX2_doorsOf 13 = .ok (.aload_n 0, 1) := by decide +kernel
theorem dX2_doorsOf_14 : decode cX2_doorsOf 14 = .ok (.iload_n 3, 1) := by decide +kernel
theorem dX2_doorsOf_15 : decode cX2_doorsOf 15 = .ok (.iload_n 1, 1) := by decide +kernel
theorem dX2_doorsOf_16 : decode cX2_doorsOf 16 = .ok (.invokevirtual 66, 3) := by decide +kernel
theorem dX2_doorsOf_19 : decode cX2_doorsOf 19 = .ok (.ifCond .eq 7, 3) := by decide +kernel
theorem dX2_doorsOf_22 : decode cX2_doorsOf 22 = .ok (.iconst 1, 1) := by decide +kernel
theorem dX2_doorsOf_23 : decode cX2_doorsOf 23 = .ok (.goto 4, 3) := by decide +kernel
theorem dX2_doorsOf_26 : decode cX2_doorsOf 26 = .ok (.iconst 0, 1) := by decide +kernel
theorem dX2_doorsOf_27 : decode cX2_doorsOf 27 = .ok (.iadd, 1) := by decide +kernel
theorem dX2_doorsOf_28 : decode cX2_doorsOf 28 = .ok (.istore_n 2, 1) := by decide +kernel
theorem dX2_doorsOf_29 : decode cX2_doorsOf 29 = .ok (.iinc 3 1, 3) := by decide +kernel
theorem dX2_doorsOf_32 : decode cX2_doorsOf 32 = .ok (.goto (-28), 3) := by decide +kernel
theorem dX2_doorsOf_35 : decode cX2_doorsOf 35 = .ok (.iload_n 2, 1) := by decide +kernel
theorem dX2_doorsOf_36 : decode cX2_doorsOf 36 = .ok (.ireturn, 1) := by decide +kernel
set_option maxRecDepth 20000 in
theorem ggX2_quarrels_J6_bitCount_0f7a4 : GoodIn wsX2_quarrels wsJ6_bitCount_0f7a4 := goodIn_r _ [6, 7, 8, 9] (by decide +kernel) (by decide +kernel)
set_option maxRecDepth 20000 in
theorem gX2_quarrels_J6_bitCount_0f7a4 : GoodIn wsX2_quarrels (va_wsS RX2 70 yJ6_bitCount_0f7a4 wsJ6_bitCount_0f7a4) := goodIn_app (goodIn_of _ (by decide +kernel)) ggX2_quarrels_J6_bitCount_0f7a4
theorem dX2_quarrels_0 : decode cX2_quarrels 0 = .ok (.iconst 0, 1) := by decide +kernel
theorem dX2_quarrels_1 : decode cX2_quarrels 1 = .ok (.istore_n 1, 1) := by decide +kernel
theorem dX2_quarrels_2 : decode cX2_quarrels 2 = .ok (.iconst 0, 1) := by decide +kernel
theorem dX2_quarrels_3 : decode cX2_quarrels 3 = .ok (.istore_n 2, 1) := by decide +kernel
theorem dX2_quarrels_4 : decode cX2_quarrels 4 = .ok (.iload_n 2, 1) := by decide +kernel
theorem dX2_quarrels_5 : decode cX2_quarrels 5 = .ok (.aload_n 0, 1) := by decide +kernel
theorem dX2_quarrels_6 : decode cX2_quarrels 6 = .ok (.getfield 27, 3) := by decide +kernel
theorem dX2_quarrels_9 : decode cX2_quarrels 9 = .ok (.if_icmp .ge 21, 3) := by decide +kernel
theorem dX2_quarrels_12 : decode cX2_quarrels 12 = .ok (.iload_n 1, 1) := by decide +kernel
theorem dX2_quarrels_13 : decode cX2_quarrels 13 = .ok (.aload_n 0, 1) := by decide +kernel
theorem dX2_quarrels_14 : decode cX2_quarrels 14 = .ok (.getfield 24, 3) := by decide +kernel
theorem dX2_quarrels_17 : decode cX2_quarrels 17 = .ok (.iload_n 2, 1) := by decide +kernel
theorem dX2_quarrels_18 : decode cX2_quarrels 18 = .ok (.iaload, 1) := by decide +kernel
theorem dX2_quarrels_19 : decode cX2_quarrels 19 = .ok (.invokestatic 70, 3) := by decide +kernel
theorem dX2_quarrels_22 : decode cX2_quarrels 22 = .ok (.iadd, 1) := by decide +kernel
theorem dX2_quarrels_23 : decode cX2_quarrels 23 = .ok (.istore_n 1, 1) := by decide +kernel
theorem dX2_quarrels_24 : decode cX2_quarrels 24 = .ok (.iinc 2 1, 3) := by decide +kernel
theorem dX2_quarrels_27 : decode cX2_quarrels 27 = .ok (.goto (-23), 3) := by decide +kernel
theorem dX2_quarrels_30 : decode cX2_quarrels 30 = .ok (.iload_n 1, 1) := by decide +kernel
theorem dX2_quarrels_31 : decode cX2_quarrels 31 = .ok (.iconst 2, 1) := by decide +kernel
theorem dX2_quarrels_32 : decode cX2_quarrels 32 = .ok (.idiv, 1) := by decide +kernel
theorem dX2_quarrels_33 : decode cX2_quarrels 33 = .ok (.ireturn, 1) := by decide +kernel
set_option maxRecDepth 20000 in
theorem ggX2_favoursFor_X2_isCell : GoodIn wsX2_favoursFor wsX2_isCell := goodIn_r _ [9, 10, 33, 34, 35, 36, 37, 38, 39, 40] (by decide +kernel) (by decide +kernel)
set_option maxRecDepth 20000 in
theorem gX2_favoursFor_X2_isCell : GoodIn wsX2_favoursFor (wsV RX2 49 RX2 yX2_isCell wsX2_isCell) := goodIn_app (goodIn_of _ (by decide +kernel)) ggX2_favoursFor_X2_isCell
set_option maxRecDepth 20000 in
theorem ggX2_favoursFor_X2_isOf : GoodIn wsX2_favoursFor wsX2_isOf := goodIn_r _ [14, 1, 5, 6, 7, 8, 9, 10, 33, 34, 35, 36, 37, 38, 39, 40] (by decide +kernel) (by decide +kernel)
set_option maxRecDepth 20000 in
theorem gX2_favoursFor_X2_isOf : GoodIn wsX2_favoursFor (wsV RX2 66 RX2 yX2_isOf wsX2_isOf) := goodIn_app (goodIn_of _ (by decide +kernel)) ggX2_favoursFor_X2_isOf
set_option maxRecDepth 20000 in
theorem ggX2_favoursFor_J6_bitCount_0f7a4 : GoodIn wsX2_favoursFor wsJ6_bitCount_0f7a4 := goodIn_r _ [18, 19, 20, 21] (by decide +kernel) (by decide +kernel)
set_option maxRecDepth 20000 in
theorem gX2_favoursFor_J6_bitCount_0f7a4 : GoodIn wsX2_favoursFor (va_wsS RX2 70 yJ6_bitCount_0f7a4 wsJ6_bitCount_0f7a4) := goodIn_app (goodIn_of _ (by decide +kernel)) ggX2_favoursFor_J6_bitCount_0f7a4
set_option maxRecDepth 20000 in
theorem ggX2_favoursFor_X2_keyFavours : GoodIn wsX2_favoursFor wsX2_keyFavours := goodIn_r _ [25, 26, 27, 5, 6, 7, 8, 9, 10, 28, 29, 30, 31, 32, 33, 34, 35, 36, 37, 38, 39, 40] (by decide +kernel) (by decide +kernel)
set_option maxRecDepth 20000 in
theorem gX2_favoursFor_X2_keyFavours : GoodIn wsX2_favoursFor (wsV RX2 75 RX2 yX2_keyFavours wsX2_keyFavours) := goodIn_app (goodIn_of _ (by decide +kernel)) ggX2_favoursFor_X2_keyFavours
theorem dX2_favoursFor_0 : decode cX2_favoursFor 0 = .ok (.aload_n 0, 1) := by decide +kernel
theorem dX2_favoursFor_1 : decode cX2_favoursFor 1 = .ok (.iload_n 1, 1) := by decide +kernel
theorem dX2_favoursFor_2 : decode cX2_favoursFor 2 = .ok (.invokevirtual 49, 3) := by decide +kernel
theorem dX2_favoursFor_5 : decode cX2_favoursFor 5 = .ok (.ifCond .eq 11, 3) := by decide +kernel
theorem dX2_favoursFor_8 : decode cX2_favoursFor 8 = .ok (.iload_n 3, 1) := by decide +kernel
theorem dX2_favoursFor_9 : decode cX2_favoursFor 9 = .ok (.iload_n 1, 1) := by decide +kernel
theorem dX2_favoursFor_10 : decode cX2_favoursFor 10 = .ok (.ishr, 1) := by decide +kernel
theorem dX2_favoursFor_11 : decode cX2_favoursFor 11 = .ok (.iconst 1, 1) := by decide +kernel
theorem dX2_favoursFor_12 : decode cX2_favoursFor 12 = .ok (.iand, 1) := by decide +kernel
theorem dX2_favoursFor_13 : decode cX2_favoursFor 13 = .ok (.ifCond .ne 6, 3) := by decide +kernel
theorem dX2_favoursFor_16 : decode cX2_favoursFor 16 = .ok (.bipush (-9), 2) := by decide +kernel
theorem dX2_favoursFor_18 : decode cX2_favoursFor 18 = .ok (.ireturn, 1) := by decide +kernel
theorem dX2_favoursFor_19 : decode cX2_favoursFor 19 = .ok (.aload_n 0, 1) := by decide +kernel
theorem dX2_favoursFor_20 : decode cX2_favoursFor 20 = .ok (.getfield 9, 3) := by decide +kernel
theorem dX2_favoursFor_23 : decode cX2_favoursFor 23 = .ok (.iload_n 1, 1) := by decide +kernel
theorem dX2_favoursFor_24 : decode cX2_favoursFor 24 = .ok (.iaload, 1) := by decide +kernel
theorem dX2_favoursFor_25 : decode cX2_favoursFor 25 = .ok (.iconst 2, 1) := by decide +kernel
theorem dX2_favoursFor_26 : decode cX2_favoursFor 26 = .ok (.if_icmp .ne 5, 3) := by decide +kernel
theorem dX2_favoursFor_29 : decode cX2_favoursFor 29 = .ok (.iconst 0, 1) := by decide +kernel
theorem dX2_favoursFor_30 : decode cX2_favoursFor 30 = .ok (.ireturn, 1) := by decide +kernel
theorem dX2_favoursFor_31 : decode cX2_favoursFor 31 = .ok (.aload_n 0, 1) := by decide +kernel
theorem dX2_favoursFor_32 : decode cX2_favoursFor 32 = .ok (.iload_n 1, 1) := by decide +kernel
theorem dX2_favoursFor_33 : decode cX2_favoursFor 33 = .ok (.iconst 3, 1) := by decide +kernel
theorem dX2_favoursFor_34 : decode cX2_favoursFor 34 = .ok (.invokevirtual 66, 3) := by decide +kernel
theorem dX2_favoursFor_37 : decode cX2_favoursFor 37 = .ok (.ifCond .eq 19, 3) := by decide +kernel
theorem dX2_favoursFor_40 : decode cX2_favoursFor 40 = .ok (.iload_n 2, 1) := by decide +kernel
theorem dX2_favoursFor_41 : decode cX2_favoursFor 41 = .ok (.invokestatic 70, 3) := by decide +kernel
theorem dX2_favoursFor_44 : decode cX2_favoursFor 44 = .ok (.aload_n 0, 1) := by decide +kernel
theorem dX2_favoursFor_45 : decode cX2_favoursFor 45 = .ok (.getfield 21, 3) := by decide +kernel
theorem dX2_favoursFor_48 : decode cX2_favoursFor 48 = .ok (.iload_n 1, 1) := by decide +kernel
theorem dX2_favoursFor_49 : decode cX2_favoursFor 49 = .ok (.iaload, 1) := by decide +kernel
theorem dX2_favoursFor_50 : decode cX2_favoursFor 50 = .ok (.if_icmp .ge 6, 3) := by decide +kernel
theorem dX2_favoursFor_53 : decode cX2_favoursFor 53 = .ok (.bipush (-9), 2) := by decide +kernel
theorem dX2_favoursFor_55 : decode cX2_favoursFor 55 = .ok (.ireturn, 1) := by decide +kernel
theorem dX2_favoursFor_56 : decode cX2_favoursFor 56 = .ok (.aload_n 0, 1) := by decide +kernel
theorem dX2_favoursFor_57 : decode cX2_favoursFor 57 = .ok (.iload_n 1, 1) := by decide +kernel
theorem dX2_favoursFor_58 : decode cX2_favoursFor 58 = .ok (.aload_n 0, 1) := by decide +kernel
theorem dX2_favoursFor_59 : decode cX2_favoursFor 59 = .ok (.getfield 15, 3) := by decide +kernel
theorem dX2_favoursFor_62 : decode cX2_favoursFor 62 = .ok (.iload_n 1, 1) := by decide +kernel
theorem dX2_favoursFor_63 : decode cX2_favoursFor 63 = .ok (.iaload, 1) := by decide +kernel
theorem dX2_favoursFor_64 : decode cX2_favoursFor 64 = .ok (.iload_n 2, 1) := by decide +kernel
theorem dX2_favoursFor_65 : decode cX2_favoursFor 65 = .ok (.iload_n 3, 1) := by decide +kernel
theorem dX2_favoursFor_66 : decode cX2_favoursFor 66 = .ok (.invokevirtual 75, 3) := by decide +kernel
theorem dX2_favoursFor_69 : decode cX2_favoursFor 69 = .ok (.istore 4, 2) := by decide +kernel
theorem dX2_favoursFor_71 : decode cX2_favoursFor 71 = .ok (.iload 4, 2) := by decide +kernel
theorem dX2_favoursFor_73 : decode cX2_favoursFor 73 = .ok (.bipush (-9), 2) := by decide +kernel
theorem dX2_favoursFor_75 : decode cX2_favoursFor 75 = .ok (.if_icmp .eq 12, 3) := by decide +kernel
theorem dX2_favoursFor_78 : decode cX2_favoursFor 78 = .ok (.aload_n 0, 1) := by decide +kernel
theorem dX2_favoursFor_79 : decode cX2_favoursFor 79 = .ok (.iload_n 1, 1) := by decide +kernel
theorem dX2_favoursFor_80 : decode cX2_favoursFor 80 = .ok (.iconst 1, 1) := by decide +kernel
theorem dX2_favoursFor_81 : decode cX2_favoursFor 81 = .ok (.invokevirtual 66, 3) := by decide +kernel
theorem dX2_favoursFor_84 : decode cX2_favoursFor 84 = .ok (.ifCond .ne 6, 3) := by decide +kernel
theorem dX2_favoursFor_87 : decode cX2_favoursFor 87 = .ok (.iload 4, 2) := by decide +kernel
theorem dX2_favoursFor_89 : decode cX2_favoursFor 89 = .ok (.ireturn, 1) := by decide +kernel
theorem dX2_favoursFor_90 : decode cX2_favoursFor 90 = .ok (.aload_n 0, 1) := by decide +kernel
theorem dX2_favoursFor_91 : decode cX2_favoursFor 91 = .ok (.iload_n 1, 1) := by decide +kernel
theorem dX2_favoursFor_92 : decode cX2_favoursFor 92 = .ok (.aload_n 0, 1) := by decide +kernel
theorem dX2_favoursFor_93 : decode cX2_favoursFor 93 = .ok (.getfield 18, 3) := by decide +kernel
theorem dX2_favoursFor_96 : decode cX2_favoursFor 96 = .ok (.iload_n 1, 1) := by decide +kernel
theorem dX2_favoursFor_97 : decode cX2_favoursFor 97 = .ok (.iaload, 1) := by decide +kernel
theorem dX2_favoursFor_98 : decode cX2_favoursFor 98 = .ok (.iload_n 2, 1) := by decide +kernel
theorem dX2_favoursFor_99 : decode cX2_favoursFor 99 = .ok (.iload_n 3, 1) := by decide +kernel
theorem dX2_favoursFor_100 : decode cX2_favoursFor 100 = .ok (.invokevirtual 75, 3) := by decide +kernel
theorem dX2_favoursFor_103 : decode cX2_favoursFor 103 = .ok (.istore 5, 2) := by decide +kernel
theorem dX2_favoursFor_105 : decode cX2_favoursFor 105 = .ok (.iload 5, 2) := by decide +kernel
theorem dX2_favoursFor_107 : decode cX2_favoursFor 107 = .ok (.bipush (-9), 2) := by decide +kernel
theorem dX2_favoursFor_109 : decode cX2_favoursFor 109 = .ok (.if_icmp .ne 8, 3) := by decide +kernel
theorem dX2_favoursFor_112 : decode cX2_favoursFor 112 = .ok (.bipush (-9), 2) := by decide +kernel
theorem dX2_favoursFor_114 : decode cX2_favoursFor 114 = .ok (.goto 8, 3) := by decide +kernel
theorem dX2_favoursFor_117 : decode cX2_favoursFor 117 = .ok (.iload 4, 2) := by decide +kernel
theorem dX2_favoursFor_119 : decode cX2_favoursFor 119 = .ok (.iload 5, 2) := by decide +kernel
theorem dX2_favoursFor_121 : decode cX2_favoursFor 121 = .ok (.iadd, 1) := by decide +kernel
theorem dX2_favoursFor_122 : decode cX2_favoursFor 122 = .ok (.ireturn, 1) := by decide +kernel
set_option maxRecDepth 20000 in
theorem ggX2_keyFavours_X2_isCell : GoodIn wsX2_keyFavours wsX2_isCell := goodIn_r _ [7, 8, 14, 15, 16, 17, 18, 19, 20, 21] (by decide +kernel) (by decide +kernel)
set_option maxRecDepth 20000 in
theorem gX2_keyFavours_X2_isCell : GoodIn wsX2_keyFavours (wsV RX2 49 RX2 yX2_isCell wsX2_isCell) := goodIn_app (goodIn_of _ (by decide +kernel)) ggX2_keyFavours_X2_isCell
set_option maxRecDepth 20000 in
theorem ggX2_keyFavours_X2_wallFavours : GoodIn wsX2_keyFavours wsX2_wallFavours := goodIn_r _ [12, 13, 14, 15, 16, 17, 18, 19, 20, 21] (by decide +kernel) (by decide +kernel)
set_option maxRecDepth 20000 in
theorem gX2_keyFavours_X2_wallFavours : GoodIn wsX2_keyFavours (wsV RX2 79 RX2 yX2_wallFavours wsX2_wallFavours) := goodIn_app (goodIn_of _ (by decide +kernel)) ggX2_keyFavours_X2_wallFavours
theorem dX2_keyFavours_0 : decode cX2_keyFavours 0 = .ok (.aload_n 0, 1) := by decide +kernel
theorem dX2_keyFavours_1 : decode cX2_keyFavours 1 = .ok (.iload_n 2, 1) := by decide +kernel
theorem dX2_keyFavours_2 : decode cX2_keyFavours 2 = .ok (.invokevirtual 49, 3) := by decide +kernel
theorem dX2_keyFavours_5 : decode cX2_keyFavours 5 = .ok (.ifCond .ne 6, 3) := by decide +kernel
theorem dX2_keyFavours_8 : decode cX2_keyFavours 8 = .ok (.bipush (-9), 2) := by decide +kernel
theorem dX2_keyFavours_10 : decode cX2_keyFavours 10 = .ok (.ireturn, 1) := by decide +kernel
theorem dX2_keyFavours_11 : decode cX2_keyFavours 11 = .ok (.iload 4, 2) := by decide +kernel
theorem dX2_keyFavours_13 : decode cX2_keyFavours 13 = .ok (.aload_n 0, 1) := by decide +kernel
theorem dX2_keyFavours_14 : decode cX2_keyFavours 14 = .ok (.getfield 24, 3) := by decide +kernel
theorem dX2_keyFavours_17 : decode cX2_keyFavours 17 = .ok (.iload_n 1, 1) := by decide +kernel
theorem dX2_keyFavours_18 : decode cX2_keyFavours 18 = .ok (.iaload, 1) := by decide +kernel
theorem dX2_keyFavours_19 : decode cX2_keyFavours 19 = .ok (.iconst (-1), 1) := by decide +kernel
theorem dX2_keyFavours_20 : decode cX2_keyFavours 20 = .ok (.ixor, 1) := by decide +kernel
theorem dX2_keyFavours_21 : decode cX2_keyFavours 21 = .ok (.iand, 1) := by decide +kernel
theorem dX2_keyFavours_22 : decode cX2_keyFavours 22 = .ok (.iconst 1, 1) := by decide +kernel
theorem dX2_keyFavours_23 : decode cX2_keyFavours 23 = .ok (.iload_n 1, 1) := by decide +kernel
theorem dX2_keyFavours_24 : decode cX2_keyFavours 24 = .ok (.ishl, 1) := by decide +kernel
theorem dX2_keyFavours_25 : decode cX2_keyFavours 25 = .ok (.iconst (-1), 1) := by decide +kernel
theorem dX2_keyFavours_26 : decode cX2_keyFavours 26 = .ok (.ixor, 1) := by decide +kernel
theorem dX2_keyFavours_27 : decode cX2_keyFavours 27 = .ok (.iand, 1) := by decide +kernel
theorem dX2_keyFavours_28 : decode cX2_keyFavours 28 = .ok (.istore 5, 2) := by decide +kernel
theorem dX2_keyFavours_30 : decode cX2_keyFavours 30 = .ok (.iload 5, 2) := by decide +kernel
theorem dX2_keyFavours_32 : decode cX2_keyFavours 32 = .ok (.iload_n 2, 1) := by decide +kernel
theorem dX2_keyFavours_33 : decode cX2_keyFavours 33 = .ok (.ishr, 1) := by decide +kernel
theorem dX2_keyFavours_34 : decode cX2_keyFavours 34 = .ok (.iconst 1, 1) := by decide +kernel
theorem dX2_keyFavours_35 : decode cX2_keyFavours 35 = .ok (.iand, 1) := by decide +kernel
theorem dX2_keyFavours_36 : decode cX2_keyFavours 36 = .ok (.ifCond .ne 6, 3) := by decide +kernel
theorem dX2_keyFavours_39 : decode cX2_keyFavours 39 = .ok (.bipush (-9), 2) := by decide +kernel
theorem dX2_keyFavours_41 : decode cX2_keyFavours 41 = .ok (.ireturn, 1) := by decide +kernel
theorem dX2_keyFavours_42 : decode cX2_keyFavours 42 = .ok (.iload_n 3, 1) := by decide +kernel
theorem dX2_keyFavours_43 : decode cX2_keyFavours 43 = .ok (.iload 5, 2) := by decide +kernel
theorem dX2_keyFavours_45 : decode cX2_keyFavours 45 = .ok (.iand, 1) := by decide +kernel
theorem dX2_keyFavours_46 : decode cX2_keyFavours 46 = .ok (.aload_n 0, 1) := by decide +kernel
theorem dX2_keyFavours_47 : decode cX2_keyFavours 47 = .ok (.getfield 35, 3) := by decide +kernel
theorem dX2_keyFavours_50 : decode cX2_keyFavours 50 = .ok (.iconst (-1), 1) := by decide +kernel
theorem dX2_keyFavours_51 : decode cX2_keyFavours 51 = .ok (.ixor, 1) := by decide +kernel
theorem dX2_keyFavours_52 : decode cX2_keyFavours 52 = .ok (.iand, 1) := by decide +kernel
theorem dX2_keyFavours_53 : decode cX2_keyFavours 53 = .ok (.istore 6, 2) := by decide +kernel
theorem dX2_keyFavours_55 : decode cX2_keyFavours 55 = .ok (.iload 6, 2) := by decide +kernel
theorem dX2_keyFavours_57 : decode cX2_keyFavours 57 = .ok (.iload_n 2, 1) := by decide +kernel
theorem dX2_keyFavours_58 : decode cX2_keyFavours 58 = .ok (.ishr, 1) := by decide +kernel
theorem dX2_keyFavours_59 : decode cX2_keyFavours 59 = .ok (.iconst 1, 1) := by decide +kernel
theorem dX2_keyFavours_60 : decode cX2_keyFavours 60 = .ok (.iand, 1) := by decide +kernel
theorem dX2_keyFavours_61 : decode cX2_keyFavours 61 = .ok (.iconst 1, 1) := by decide +kernel
theorem dX2_keyFavours_62 : decode cX2_keyFavours 62 = .ok (.if_icmp .ne 5, 3) := by decide +kernel
theorem dX2_keyFavours_65 : decode cX2_keyFavours 65 = .ok (.iconst 1, 1) := by decide +kernel
theorem dX2_keyFavours_66 : decode cX2_keyFavours 66 = .ok (.ireturn, 1) := by decide +kernel
theorem dX2_keyFavours_67 : decode cX2_keyFavours 67 = .ok (.aload_n 0, 1) := by decide +kernel
theorem dX2_keyFavours_68 : decode cX2_keyFavours 68 = .ok (.iload_n 1, 1) := by decide +kernel
theorem dX2_keyFavours_69 : decode cX2_keyFavours 69 = .ok (.iload_n 2, 1) := by decide +kernel
theorem dX2_keyFavours_70 : decode cX2_keyFavours 70 = .ok (.iload 5, 2) := by decide +kernel
theorem dX2_keyFavours_72 : decode cX2_keyFavours 72 = .ok (.iload_n 3, 1) := by decide +kernel
theorem dX2_keyFavours_73 : decode cX2_keyFavours 73 = .ok (.iconst (-1), 1) := by decide +kernel
theorem dX2_keyFavours_74 : decode cX2_keyFavours 74 = .ok (.ixor, 1) := by decide +kernel
theorem dX2_keyFavours_75 : decode cX2_keyFavours 75 = .ok (.iand, 1) := by decide +kernel
theorem dX2_keyFavours_76 : decode cX2_keyFavours 76 = .ok (.invokevirtual 79, 3) := by decide +kernel
theorem dX2_keyFavours_79 : decode cX2_keyFavours 79 = .ok (.istore 7, 2) := by decide +kernel
theorem dX2_keyFavours_81 : decode cX2_keyFavours 81 = .ok (.iload 6, 2) := by decide +kernel
theorem dX2_keyFavours_83 : decode cX2_keyFavours 83 = .ok (.ifCond .eq 20, 3) := by decide +kernel
theorem dX2_keyFavours_86 : decode cX2_keyFavours 86 = .ok (.iload 7, 2) := by decide +kernel
theorem dX2_keyFavours_88 : decode cX2_keyFavours 88 = .ok (.bipush (-9), 2) := by decide +kernel
theorem dX2_keyFavours_90 : decode cX2_keyFavours 90 = .ok (.if_icmp .eq 9, 3) := by decide +kernel
theorem dX2_keyFavours_93 : decode cX2_keyFavours 93 = .ok (.iload 7, 2) := by decide +kernel
theorem dX2_keyFavours_95 : decode cX2_keyFavours 95 = .ok (.iconst 2, 1) := by decide +kernel
theorem dX2_keyFavours_96 : decode cX2_keyFavours 96 = .ok (.if_icmp .le 7, 3) := by decide +kernel
theorem dX2_keyFavours_99 : decode cX2_keyFavours 99 = .ok (.iconst 1, 1) := by decide +kernel
theorem dX2_keyFavours_100 : decode cX2_keyFavours 100 = .ok (.goto 4, 3) := by decide +kernel
theorem dX2_keyFavours_103 : decode cX2_keyFavours 103 = .ok (.iconst 0, 1) := by decide +kernel
theorem dX2_keyFavours_104 : decode cX2_keyFavours 104 = .ok (.istore 8, 2) := by decide +kernel
theorem dX2_keyFavours_106 : decode cX2_keyFavours 106 = .ok (.iload 8, 2) := by decide +kernel
theorem dX2_keyFavours_108 : decode cX2_keyFavours 108 = .ok (.ifCond .eq 7, 3) := by decide +kernel
theorem dX2_keyFavours_111 : decode cX2_keyFavours 111 = .ok (.iconst 2, 1) := by decide +kernel
theorem dX2_keyFavours_112 : decode cX2_keyFavours 112 = .ok (.goto 5, 3) := by decide +kernel
theorem dX2_keyFavours_115 : decode cX2_keyFavours 115 = .ok (.iload 7, 2) := by decide +kernel
theorem dX2_keyFavours_117 : decode cX2_keyFavours 117 = .ok (.ireturn, 1) := by decide +kernel
theorem dX2_wallFavours_0 : decode cX2_wallFavours 0 = .ok (.iload_n 1, 1) := by decide +kernel
theorem dX2_wallFavours_1 : decode cX2_wallFavours 1 = .ok (.iload_n 2, 1) := by decide +kernel
theorem dX2_wallFavours_2 : decode cX2_wallFavours 2 = .ok (.if_icmp .ge 7, 3) := by decide +kernel
theorem dX2_wallFavours_5 : decode cX2_wallFavours 5 = .ok (.iload_n 1, 1) := by decide +kernel
theorem dX2_wallFavours_6 : decode cX2_wallFavours 6 = .ok (.goto 4, 3) := by decide +kernel
theorem dX2_wallFavours_9 : decode cX2_wallFavours 9 = .ok (.iload_n 2, 1) := by decide +kernel
theorem dX2_wallFavours_10 : decode cX2_wallFavours 10 = .ok (.istore 4, 2) := by decide +kernel
theorem dX2_wallFavours_12 : decode cX2_wallFavours 12 = .ok (.iload_n 1, 1) := by decide +kernel
theorem dX2_wallFavours_13 : decode cX2_wallFavours 13 = .ok (.iload_n 2, 1) := by decide +kernel
theorem dX2_wallFavours_14 : decode cX2_wallFavours 14 = .ok (.if_icmp .ge 7, 3) := by decide +kernel
theorem dX2_wallFavours_17 : decode cX2_wallFavours 17 = .ok (.iload_n 2, 1) := by decide +kernel
theorem dX2_wallFavours_18 : decode cX2_wallFavours 18 = .ok (.goto 4, 3) := by decide +kernel
theorem dX2_wallFavours_21 : decode cX2_wallFavours 21 = .ok (.iload_n 1, 1) := by decide +kernel
theorem dX2_wallFavours_22 : decode cX2_wallFavours 22 = .ok (.istore 5, 2) := by decide +kernel
theorem dX2_wallFavours_24 : decode cX2_wallFavours 24 = .ok (.iconst 1, 1) := by decide +kernel
theorem dX2_wallFavours_25 : decode cX2_wallFavours 25 = .ok (.iload 5, 2) := by decide +kernel
theorem dX2_wallFavours_27 : decode cX2_wallFavours 27 = .ok (.iconst 1, 1) := by decide +kernel
theorem dX2_wallFavours_28 : decode cX2_wallFavours 28 = .ok (.iadd, 1) := by decide +kernel
theorem dX2_wallFavours_29 : decode cX2_wallFavours 29 = .ok (.ishl, 1) := by decide +kernel
theorem dX2_wallFavours_30 : decode cX2_wallFavours 30 = .ok (.iconst 1, 1) := by decide +kernel
theorem dX2_wallFavours_31 : decode cX2_wallFavours 31 = .ok (.iload 4, 2) := by decide +kernel
theorem dX2_wallFavours_33 : decode cX2_wallFavours 33 = .ok (.ishl, 1) := by decide +kernel
theorem dX2_wallFavours_34 : decode cX2_wallFavours 34 = .ok (.isub, 1) := by decide +kernel
theorem dX2_wallFavours_35 : decode cX2_wallFavours 35 = .ok (.istore 6, 2) := by decide +kernel
theorem dX2_wallFavours_37 : decode cX2_wallFavours 37 = .ok (.iload 6, 2) := by decide +kernel
theorem dX2_wallFavours_39 : decode cX2_wallFavours 39 = .ok (.iconst 1, 1) := by decide +kernel
theorem dX2_wallFavours_40 : decode cX2_wallFavours 40 = .ok (.iload_n 1, 1) := by decide +kernel
theorem dX2_wallFavours_41 : decode cX2_wallFavours 41 = .ok (.ishl, 1) := by decide +kernel
theorem dX2_wallFavours_42 : decode cX2_wallFavours 42 = .ok (.iconst (-1), 1) := by decide +kernel
theorem dX2_wallFavours_43 : decode cX2_wallFavours 43 = .ok (.ixor, 1) := by decide +kernel
theorem dX2_wallFavours_44 : decode cX2_wallFavours 44 = .ok (.iand, 1) := by decide +kernel
theorem dX2_wallFavours_45 : decode cX2_wallFavours 45 = .ok (.iload_n 3, 1) := by decide +kernel
theorem dX2_wallFavours_46 : decode cX2_wallFavours 46 = .ok (.iconst (-1), 1) := by decide +kernel
theorem dX2_wallFavours_47 : decode cX2_wallFavours 47 = .ok (.ixor, 1) := by decide +kernel
theorem dX2_wallFavours_48 : decode cX2_wallFavours 48 = .ok (.iand, 1) := by decide +kernel
theorem dX2_wallFavours_49 : decode cX2_wallFavours 49 = .ok (.ifCond .ne 7, 3) := by decide +kernel
theorem dX2_wallFavours_52 : decode cX2_wallFavours 52 = .ok (.iconst 1, 1) := by decide +kernel
theorem dX2_wallFavours_53 : decode cX2_wallFavours 53 = .ok (.goto 4, 3) := by decide +kernel
theorem dX2_wallFavours_56 : decode cX2_wallFavours 56 = .ok (.iconst 0, 1) := by decide +kernel
theorem dX2_wallFavours_57 : decode cX2_wallFavours 57 = .ok (.istore 7, 2) := by decide +kernel
theorem dX2_wallFavours_59 : decode cX2_wallFavours 59 = .ok (.iload 7, 2) := by decide +kernel
theorem dX2_wallFavours_61 : decode cX2_wallFavours 61 = .ok (.ifCond .eq 21, 3) := by decide +kernel
theorem dX2_wallFavours_64 : decode cX2_wallFavours 64 = .ok (.iload 6, 2) := by decide +kernel
theorem dX2_wallFavours_66 : decode cX2_wallFavours 66 = .ok (.aload_n 0, 1) := by decide +kernel
theorem dX2_wallFavours_67 : decode cX2_wallFavours 67 = .ok (.getfield 38, 3) := by decide +kernel
theorem dX2_wallFavours_70 : decode cX2_wallFavours 70 = .ok (.iand, 1) := by decide +kernel
theorem dX2_wallFavours_71 : decode cX2_wallFavours 71 = .ok (.ifCond .ne 11, 3) := by decide +kernel
theorem dX2_wallFavours_74 : decode cX2_wallFavours 74 = .ok (.iload 5, 2) := by decide +kernel
theorem dX2_wallFavours_76 : decode cX2_wallFavours 76 = .ok (.iload 4, 2) := by decide +kernel
theorem dX2_wallFavours_78 : decode cX2_wallFavours 78 = .ok (.isub, 1) := by decide +kernel
theorem dX2_wallFavours_79 : decode cX2_wallFavours 79 = .ok (.goto 5, 3) := by decide +kernel
theorem dX2_wallFavours_82 : decode cX2_wallFavours 82 = .ok (.bipush (-9), 2) := by decide +kernel
theorem dX2_wallFavours_84 : decode cX2_wallFavours 84 = .ok (.ireturn, 1) := by decide +kernel
set_option maxRecDepth 20000 in
theorem ggX2_mix_X2_doorAnswer : GoodIn wsX2_mix wsX2_doorAnswer := goodIn_r _ [8, 9, 10, 11, 12, 13, 14, 15, 7, 16, 1, 17, 18, 19, 20, 21, 22, 23, 24] (by decide +kernel) (by decide +kernel)
set_option maxRecDepth 20000 in
theorem gX2_mix_X2_doorAnswer : GoodIn wsX2_mix (wsV RX2 85 RX2 yX2_doorAnswer wsX2_doorAnswer) := goodIn_app (goodIn_of _ (by decide +kernel)) ggX2_mix_X2_doorAnswer
theorem dX2_mix_0 : decode cX2_mix 0 = .ok (.iconst 0, 1) := by decide +kernel
theorem dX2_mix_1 : decode cX2_mix 1 = .ok (.istore_n 3, 1) := by decide +kernel
theorem dX2_mix_2 : decode cX2_mix 2 = .ok (.iload_n 3, 1) := by decide +kernel
theorem dX2_mix_3 : decode cX2_mix 3 = .ok (.aload_n 0, 1) := by decide +kernel
theorem dX2_mix_4 : decode cX2_mix 4 = .ok (.getfield 27, 3) := by decide +kernel
theorem dX2_mix_7 : decode cX2_mix 7 = .ok (.if_icmp .ge 53, 3) := by decide +kernel
theorem dX2_mix_10 : decode cX2_mix 10 = .ok (.iconst 0, 1) := by decide +kernel
theorem dX2_mix_11 : decode cX2_mix 11 = .ok (.istore 4, 2) := by decide +kernel
theorem dX2_mix_13 : decode cX2_mix 13 = .ok (.iload 4, 2) := by decide +kernel
theorem dX2_mix_15 : decode cX2_mix 15 = .ok (.iconst 4, 1) := by decide +kernel
theorem dX2_mix_16 : decode cX2_mix 16 = .ok (.if_icmp .ge 24, 3) := by decide +kernel
theorem dX2_mix_19 : decode cX2_mix 19 = .ok (.ldc2_w 83, 3) := by decide +kernel
theorem dX2_mix_22 : decode cX2_mix 22 = .ok (.lload_n 1, 1) := by decide +kernel
theorem dX2_mix_23 : decode cX2_mix 23 = .ok (.lmul, 1) := by decide +kernel
theorem dX2_mix_24 : decode cX2_mix 24 = .ok (.aload_n 0, 1) := by decide +kernel
theorem dX2_mix_25 : decode cX2_mix 25 = .ok (.iload_n 3, 1) := by decide +kernel
theorem dX2_mix_26 : decode cX2_mix 26 = .ok (.iload 4, 2) := by decide +kernel
theorem dX2_mix_28 : decode cX2_mix 28 = .ok (.invokevirtual 85, 3) := by decide +kernel
theorem dX2_mix_31 : decode cX2_mix 31 = .ok (.i2l, 1) := by decide +kernel
theorem dX2_mix_32 : decode cX2_mix 32 = .ok (.ladd, 1) := by decide +kernel
theorem dX2_mix_33 : decode cX2_mix 33 = .ok (.lstore_n 1, 1) := by decide +kernel
theorem dX2_mix_34 : decode cX2_mix 34 = .ok (.iinc 4 1, 3) := by decide +kernel
theorem dX2_mix_37 : decode cX2_mix 37 = .ok (.goto (-24), 3) := by decide +kernel
theorem dX2_mix_40 : decode cX2_mix 40 = .ok (.ldc2_w 83, 3) := by decide +kernel
theorem dX2_mix_43 : decode cX2_mix 43 = .ok (.lload_n 1, 1) := by decide +kernel
theorem dX2_mix_44 : decode cX2_mix 44 = .ok (.lmul, 1) := by decide +kernel
theorem dX2_mix_45 : decode cX2_mix 45 = .ok (.aload_n 0, 1) := by decide +kernel
theorem dX2_mix_46 : decode cX2_mix 46 = .ok (.getfield 24, 3) := by decide +kernel
theorem dX2_mix_49 : decode cX2_mix 49 = .ok (.iload_n 3, 1) := by decide +kernel
theorem dX2_mix_50 : decode cX2_mix 50 = .ok (.iaload, 1) := by decide +kernel
theorem dX2_mix_51 : decode cX2_mix 51 = .ok (.i2l, 1) := by decide +kernel
theorem dX2_mix_52 : decode cX2_mix 52 = .ok (.ladd, 1) := by decide +kernel
theorem dX2_mix_53 : decode cX2_mix 53 = .ok (.lstore_n 1, 1) := by decide +kernel
theorem dX2_mix_54 : decode cX2_mix 54 = .ok (.iinc 3 1, 3) := by decide +kernel
theorem dX2_mix_57 : decode cX2_mix 57 = .ok (.goto (-55), 3) := by decide +kernel
theorem dX2_mix_60 : decode cX2_mix 60 = .ok (.lload_n 1, 1) := by decide +kernel
theorem dX2_mix_61 : decode cX2_mix 61 = .ok (.lreturn, 1) := by decide +kernel
theorem dX3_init_0 : decode cX3_init 0 = .ok (.aload_n 0, 1) := by decide +kernel
theorem dX3_init_1 : decode cX3_init 1 = .ok (.invokespecial 3, 3) := by decide +kernel
theorem dX3_init_4 : decode cX3_init 4 = .ok (.aload_n 0, 1) := by decide +kernel
theorem dX3_init_5 : decode cX3_init 5 = .ok (.sipush 256, 3) := by decide +kernel
theorem dX3_init_8 : decode cX3_init 8 = .ok (.newarray .int, 2) := by decide +kernel
theorem dX3_init_10 : decode cX3_init 10 = .ok (.putfield 9, 3) := by decide +kernel
theorem dX3_init_13 : decode cX3_init 13 = .ok (.aload_n 0, 1) := by decide +kernel
theorem dX3_init_14 : decode cX3_init 14 = .ok (.sipush 256, 3) := by decide +kernel
theorem dX3_init_17 : decode cX3_init 17 = .ok (.newarray .int, 2) := by decide +kernel
theorem dX3_init_19 : decode cX3_init 19 = .ok (.putfield 15, 3) := by decide +kernel
theorem dX3_init_22 : decode cX3_init 22 = .ok (.aload_n 0, 1) := by decide +kernel
theorem dX3_init_23 : decode cX3_init 23 = .ok (.sipush 256, 3) := by decide +kernel
theorem dX3_init_26 : decode cX3_init 26 = .ok (.newarray .int, 2) := by decide +kernel
theorem dX3_init_28 : decode cX3_init 28 = .ok (.putfield 18, 3) := by decide +kernel
theorem dX3_init_31 : decode cX3_init 31 = .ok (.aload_n 0, 1) := by decide +kernel
theorem dX3_init_32 : decode cX3_init 32 = .ok (.bipush 8, 2) := by decide +kernel
theorem dX3_init_34 : decode cX3_init 34 = .ok (.newarray .int, 2) := by decide +kernel
theorem dX3_init_36 : decode cX3_init 36 = .ok (.putfield 21, 3) := by decide +kernel
theorem dX3_init_39 : decode cX3_init 39 = .ok (.return_, 1) := by decide +kernel
set_option maxRecDepth 20000 in
theorem ggX3_howMany_X3_numberTo : GoodIn wsX3_howMany wsX3_numberTo := goodIn_r _ [6, 1, 7, 8, 9, 10, 11, 12, 13, 14, 15, 16, 17, 18, 19, 20, 21, 22, 23, 24, 25, 26, 27, 28, 29, 30, 31, 32, 33, 34, 35, 36, 37, 38, 39, 40, 41, 42, 43, 44, 45, 46, 47, 48, 49, 50, 51, 52, 53, 54, 55, 56, 57, 58] (by decide +kernel) (by decide +kernel)
set_option maxRecDepth 20000 in
theorem gX3_howMany_X3_numberTo : GoodIn wsX3_howMany (wsV RX3 24 RX3 yX3_numberTo wsX3_numberTo) := goodIn_app (goodIn_of _ (by decide +kernel)) ggX3_howMany_X3_numberTo
theorem dX3_howMany_0 : decode cX3_howMany 0 = .ok (.iload_n 2, 1) := by decide +kernel
theorem dX3_howMany_1 : decode cX3_howMany 1 = .ok (.ifCond .lt 10, 3) := by decide +kernel
theorem dX3_howMany_4 : decode cX3_howMany 4 = .ok (.iload_n 2, 1) := by decide +kernel
theorem dX3_howMany_5 : decode cX3_howMany 5 = .ok (.sipush 256, 3) := by decide +kernel
theorem dX3_howMany_8 : decode cX3_howMany 8 = .ok (.if_icmp .lt 5, 3) := by decide +kernel
theorem dX3_howMany_11 : decode cX3_howMany 11 = .ok (.iconst 0, 1) := by decide +kernel
theorem dX3_howMany_12 : decode cX3_howMany 12 = .ok (.ireturn, 1) := by decide +kernel
theorem dX3_howMany_13 : decode cX3_howMany 13 = .ok (.aload_n 0, 1) := by decide +kernel
theorem dX3_howMany_14 : decode cX3_howMany 14 = .ok (.getfield 9, 3) := by decide +kernel
theorem dX3_howMany_17 : decode cX3_howMany 17 = .ok (.iconst 0, 1) := by decide +kernel
theorem dX3_howMany_18 : decode cX3_howMany 18 = .ok (.iconst 1, 1) := by decide +kernel
theorem dX3_howMany_19 : decode cX3_howMany 19 = .ok (.iastore, 1) := by decide +kernel
theorem dX3_howMany_20 : decode cX3_howMany 20 = .ok (.iconst 1, 1) := by decide +kernel
theorem dX3_howMany_21 : decode cX3_howMany 21 = .ok (.istore_n 3, 1) := by decide +kernel
theorem dX3_howMany_22 : decode cX3_howMany 22 = .ok (.iload_n 3, 1) := by decide +kernel
theorem dX3_howMany_23 : decode cX3_howMany 23 = .ok (.iload_n 2, 1) := by decide +kernel
theorem dX3_howMany_24 : decode cX3_howMany 24 = .ok (.if_icmp .gt 33, 3) := by decide +kernel
theorem dX3_howMany_27 : decode cX3_howMany 27 = .ok (.aload_n 0, 1) := by decide +kernel
theorem dX3_howMany_28 : decode cX3_howMany 28 = .ok (.getfield 9, 3) := by decide +kernel
theorem dX3_howMany_31 : decode cX3_howMany 31 = .ok (.iload_n 3, 1) := by decide +kernel
theorem dX3_howMany_32 : decode cX3_howMany 32 = .ok (.iload_n 3, 1) := by decide +kernel
theorem dX3_howMany_33 : decode cX3_howMany 33 = .ok (.iload_n 2, 1) := by decide +kernel
theorem dX3_howMany_34 : decode cX3_howMany 34 = .ok (.iconst (-1), 1) := by decide +kernel
theorem dX3_howMany_35 : decode cX3_howMany 35 = .ok (.ixor, 1) := by decide +kernel
theorem dX3_howMany_36 : decode cX3_howMany 36 = .ok (.iand, 1) := by decide +kernel
theorem dX3_howMany_37 : decode cX3_howMany 37 = .ok (.ifCond .ne 12, 3) := by decide +kernel
theorem dX3_howMany_40 : decode cX3_howMany 40 = .ok (.aload_n 0, 1) := by decide +kernel
theorem dX3_howMany_41 : decode cX3_howMany 41 = .ok (.aload_n 1, 1) := by decide +kernel
theorem dX3_howMany_42 : decode cX3_howMany 42 = .ok (.iload_n 3, 1) := by decide +kernel
theorem dX3_howMany_43 : decode cX3_howMany 43 = .ok (.invokevirtual 24, 3) := by decide +kernel
theorem dX3_howMany_46 : decode cX3_howMany 46 = .ok (.goto 4, 3) := by decide +kernel
theorem dX3_howMany_49 : decode cX3_howMany 49 = .ok (.iconst 0, 1) := by decide +kernel
theorem dX3_howMany_50 : decode cX3_howMany 50 = .ok (.iastore, 1) := by decide +kernel
theorem dX3_howMany_51 : decode cX3_howMany 51 = .ok (.iinc 3 1, 3) := by decide +kernel
theorem dX3_howMany_54 : decode cX3_howMany 54 = .ok (.goto (-32), 3) := by decide +kernel
theorem dX3_howMany_57 : decode cX3_howMany 57 = .ok (.aload_n 0, 1) := by decide +kernel
theorem dX3_howMany_58 : decode cX3_howMany 58 = .ok (.getfield 9, 3) := by decide +kernel
theorem dX3_howMany_61 : decode cX3_howMany 61 = .ok (.iload_n 2, 1) := by decide +kernel
theorem dX3_howMany_62 : decode cX3_howMany 62 = .ok (.iaload, 1) := by decide +kernel
theorem dX3_howMany_63 : decode cX3_howMany 63 = .ok (.ireturn, 1) := by decide +kernel
set_option maxRecDepth 20000 in
theorem ggX3_numberTo_X2_everyone : GoodIn wsX3_numberTo wsX2_everyone := goodIn_r _ [6, 7, 46, 47, 48, 49, 50, 51, 52, 53] (by decide +kernel) (by decide +kernel)
set_option maxRecDepth 20000 in
theorem gX3_numberTo_X2_everyone : GoodIn wsX3_numberTo (wsV RX3 28 RX2 yX2_everyone wsX2_everyone) := goodIn_app (goodIn_of _ (by decide +kernel)) ggX3_numberTo_X2_everyone
set_option maxRecDepth 20000 in
theorem ggX3_numberTo_X2_favoursFor : GoodIn wsX3_numberTo wsX2_favoursFor := goodIn_r _ [11, 12, 13, 14, 15, 16, 17, 18, 5, 19, 7, 20, 21, 22, 23, 24, 25, 26, 27, 28, 29, 30, 31, 32, 33, 34, 35, 36, 37, 38, 39, 40, 41, 46, 47, 48, 49, 50, 51, 52, 53] (by decide +kernel) (by decide +kernel)
set_option maxRecDepth 20000 in
theorem gX3_numberTo_X2_favoursFor : GoodIn wsX3_numberTo (wsV RX3 34 RX2 yX2_favoursFor wsX2_favoursFor) := goodIn_app (goodIn_of _ (by decide +kernel)) ggX3_numberTo_X2_favoursFor
theorem dX3_numberTo_0 : decode cX3_numberTo 0 = .ok (.iconst 0, 1) := by decide +kernel
theorem dX3_numberTo_1 : decode cX3_numberTo 1 = .ok (.istore_n 3, 1) := by decide +kernel
theorem dX3_numberTo_2 : decode cX3_numberTo 2 = .ok (.iconst 0, 1) := by decide +kernel
theorem dX3_numberTo_3 : decode cX3_numberTo 3 = .ok (.istore 4, 2) := by decide +kernel
theorem dX3_numberTo_5 : decode cX3_numberTo 5 = .ok (.iload 4, 2) := by decide +kernel
theorem dX3_numberTo_7 : decode cX3_numberTo 7 = .ok (.bipush 8, 2) := by decide +kernel
theorem dX3_numberTo_9 : decode cX3_numberTo 9 = .ok (.if_icmp .ge 52, 3) := by decide +kernel
theorem dX3_numberTo_12 : decode cX3_numberTo 12 = .ok (.iload_n 2, 1) := by decide +kernel
theorem dX3_numberTo_13 : decode cX3_numberTo 13 = .ok (.iconst 1, 1) := by decide +kernel
theorem dX3_numberTo_14 : decode cX3_numberTo 14 = .ok (.iload 4, 2) := by decide +kernel
theorem dX3_numberTo_16 : decode cX3_numberTo 16 = .ok (.ishl, 1) := by decide +kernel
theorem dX3_numberTo_17 : decode cX3_numberTo 17 = .ok (.iconst (-1), 1) := by decide +kernel
theorem dX3_numberTo_18 : decode cX3_numberTo 18 = .ok (.ixor, 1) := by decide +kernel
theorem dX3_numberTo_19 : decode cX3_numberTo 19 = .ok (.iand, 1) := by decide +kernel
theorem dX3_numberTo_20 : decode cX3_numberTo 20 = .ok (.istore 5, 2) := by decide +kernel
theorem dX3_numberTo_22 : decode cX3_numberTo 22 = .ok (.iload 5, 2) := by decide +kernel
theorem dX3_numberTo_24 : decode cX3_numberTo 24 = .ok (.iload_n 2, 1) := by decide +kernel
theorem dX3_numberTo_25 : decode cX3_numberTo 25 = .ok (.if_icmp .eq 30, 3) := by decide +kernel
theorem dX3_numberTo_28 : decode cX3_numberTo 28 = .ok (.aload_n 1, 1) := by decide +kernel
theorem dX3_numberTo_29 : decode cX3_numberTo 29 = .ok (.iload 4, 2) := by decide +kernel
theorem dX3_numberTo_31 : decode cX3_numberTo 31 = .ok (.iload 5, 2) := by decide +kernel
theorem dX3_numberTo_33 : decode cX3_numberTo 33 = .ok (.aload_n 1, 1) := by decide +kernel
theorem dX3_numberTo_34 : decode cX3_numberTo 34 = .ok (.invokevirtual 28, 3) := by decide +kernel
theorem dX3_numberTo_37 : decode cX3_numberTo 37 = .ok (.invokevirtual 34, 3) := by decide +kernel
theorem dX3_numberTo_40 : decode cX3_numberTo 40 = .ok (.bipush (-9), 2) := by decide +kernel
theorem dX3_numberTo_42 : decode cX3_numberTo 42 = .ok (.if_icmp .eq 13, 3) := by decide +kernel
theorem dX3_numberTo_45 : decode cX3_numberTo 45 = .ok (.iload_n 3, 1) := by decide +kernel
theorem dX3_numberTo_46 : decode cX3_numberTo 46 = .ok (.aload_n 0, 1) := by decide +kernel
theorem dX3_numberTo_47 : decode cX3_numberTo 47 = .ok (.getfield 9, 3) := by decide +kernel
theorem dX3_numberTo_50 : decode cX3_numberTo 50 = .ok (.iload 5, 2) := by decide +kernel
theorem dX3_numberTo_52 : decode cX3_numberTo 52 = .ok (.iaload, 1) := by decide +kernel
theorem dX3_numberTo_53 : decode cX3_numberTo 53 = .ok (.iadd, 1) := by decide +kernel
theorem dX3_numberTo_54 : decode cX3_numberTo 54 = .ok (.istore_n 3, 1) := by decide +kernel
theorem dX3_numberTo_55 : decode cX3_numberTo 55 = .ok (.iinc 4 1, 3) := by decide +kernel
theorem dX3_numberTo_58 : decode cX3_numberTo 58 = .ok (.goto (-53), 3) := by decide +kernel
theorem dX3_numberTo_61 : decode cX3_numberTo 61 = .ok (.iload_n 3, 1) := by decide +kernel
theorem dX3_numberTo_62 : decode cX3_numberTo 62 = .ok (.ireturn, 1) := by decide +kernel
set_option maxRecDepth 20000 in
theorem ggX3_findFirst_X3_fewestFrom : GoodIn wsX3_findFirst wsX3_fewestFrom := goodIn_r _ [6, 7, 8, 9, 10, 5, 11, 1, 12, 13, 14, 15, 16, 17, 18, 19, 20, 21, 22, 23, 24, 25, 26, 27, 28, 29, 30, 31, 32, 33, 34, 35, 36, 37, 38, 39, 40, 41, 42, 43, 44, 45, 46, 47, 48, 49, 50, 51, 57, 58, 59, 60, 61, 62, 63, 64, 65, 66, 67, 68] (by decide +kernel) (by decide +kernel)
set_option maxRecDepth 20000 in
theorem gX3_findFirst_X3_fewestFrom : GoodIn wsX3_findFirst (wsV RX3 38 RX3 yX3_fewestFrom wsX3_fewestFrom) := goodIn_app (goodIn_of _ (by decide +kernel)) ggX3_findFirst_X3_fewestFrom
set_option maxRecDepth 20000 in
theorem ggX3_findFirst_X3_follow : GoodIn wsX3_findFirst wsX3_follow := goodIn_r _ [55, 56, 7, 57, 58, 59, 60] (by decide +kernel) (by decide +kernel)
set_option maxRecDepth 20000 in
theorem gX3_findFirst_X3_follow : GoodIn wsX3_findFirst (wsV RX3 42 RX3 yX3_follow wsX3_follow) := goodIn_app (goodIn_of _ (by decide +kernel)) ggX3_findFirst_X3_follow
theorem dX3_findFirst_0 : decode cX3_findFirst 0 = .ok (.iload_n 2, 1) := by decide +kernel
theorem dX3_findFirst_1 : decode cX3_findFirst 1 = .ok (.ifCond .lt 10, 3) := by decide +kernel
theorem dX3_findFirst_4 : decode cX3_findFirst 4 = .ok (.iload_n 2, 1) := by decide +kernel
theorem dX3_findFirst_5 : decode cX3_findFirst 5 = .ok (.sipush 256, 3) := by decide +kernel
theorem dX3_findFirst_8 : decode cX3_findFirst 8 = .ok (.if_icmp .lt 6, 3) := by decide +kernel
theorem dX3_findFirst_11 : decode cX3_findFirst 11 = .ok (.bipush (-9), 2) := by decide +kernel
theorem dX3_findFirst_13 : decode cX3_findFirst 13 = .ok (.ireturn, 1) := by decide +kernel
theorem dX3_findFirst_14 : decode cX3_findFirst 14 = .ok (.aload_n 0, 1) := by decide +kernel
theorem dX3_findFirst_15 : decode cX3_findFirst 15 = .ok (.getfield 15, 3) := by decide +kernel
theorem dX3_findFirst_18 : decode cX3_findFirst 18 = .ok (.iload_n 2, 1) := by decide +kernel
theorem dX3_findFirst_19 : decode cX3_findFirst 19 = .ok (.iconst 0, 1) := by decide +kernel
theorem dX3_findFirst_20 : decode cX3_findFirst 20 = .ok (.iastore, 1) := by decide +kernel
theorem dX3_findFirst_21 : decode cX3_findFirst 21 = .ok (.iload_n 2, 1) := by decide +kernel
theorem dX3_findFirst_22 : decode cX3_findFirst 22 = .ok (.iconst 1, 1) := by decide +kernel
theorem dX3_findFirst_23 : decode cX3_findFirst 23 = .ok (.isub, 1) := by decide +kernel
theorem dX3_findFirst_24 : decode cX3_findFirst 24 = .ok (.istore_n 3, 1) := by decide +kernel
theorem dX3_findFirst_25 : decode cX3_findFirst 25 = .ok (.iload_n 3, 1) := by decide +kernel
theorem dX3_findFirst_26 : decode cX3_findFirst 26 = .ok (.ifCond .lt 35, 3) := by decide +kernel
theorem dX3_findFirst_29 : decode cX3_findFirst 29 = .ok (.aload_n 0, 1) := by decide +kernel
theorem dX3_findFirst_30 : decode cX3_findFirst 30 = .ok (.getfield 15, 3) := by decide +kernel
theorem dX3_findFirst_33 : decode cX3_findFirst 33 = .ok (.iload_n 3, 1) := by decide +kernel
theorem dX3_findFirst_34 : decode cX3_findFirst 34 = .ok (.iload_n 3, 1) := by decide +kernel
theorem dX3_findFirst_35 : decode cX3_findFirst 35 = .ok (.iload_n 2, 1) := by decide +kernel
theorem dX3_findFirst_36 : decode cX3_findFirst 36 = .ok (.iconst (-1), 1) := by decide +kernel
theorem dX3_findFirst_37 : decode cX3_findFirst 37 = .ok (.ixor, 1) := by decide +kernel
theorem dX3_findFirst_38 : decode cX3_findFirst 38 = .ok (.iand, 1) := by decide +kernel
theorem dX3_findFirst_39 : decode cX3_findFirst 39 = .ok (.ifCond .ne 13, 3) := by decide +kernel
theorem dX3_findFirst_42 : decode cX3_findFirst 42 = .ok (.aload_n 0, 1) := by decide +kernel
theorem dX3_findFirst_43 : decode cX3_findFirst 43 = .ok (.aload_n 1, 1) := by decide +kernel
theorem dX3_findFirst_44 : decode cX3_findFirst 44 = .ok (.iload_n 3, 1) := by decide +kernel
theorem dX3_findFirst_45 : decode cX3_findFirst 45 = .ok (.iload_n 2, 1) := by decide +kernel
theorem dX3_findFirst_46 : decode cX3_findFirst 46 = .ok (.invokevirtual 38, 3) := by decide +kernel
theorem dX3_findFirst_49 : decode cX3_findFirst 49 = .ok (.goto 5, 3) := by decide +kernel
theorem dX3_findFirst_52 : decode cX3_findFirst 52 = .ok (.bipush (-9), 2) := by decide +kernel
theorem dX3_findFirst_54 : decode cX3_findFirst 54 = .ok (.iastore, 1) := by decide +kernel
theorem dX3_findFirst_55 : decode cX3_findFirst 55 = .ok (.iinc 3 (-1), 3) := by decide +kernel
theorem dX3_findFirst_58 : decode cX3_findFirst 58 = .ok (.goto (-33), 3) := by decide +kernel
theorem dX3_findFirst_61 : decode cX3_findFirst 61 = .ok (.aload_n 0, 1) := by decide +kernel
theorem dX3_findFirst_62 : decode cX3_findFirst 62 = .ok (.getfield 15, 3) := by decide +kernel
theorem dX3_findFirst_65 : decode cX3_findFirst 65 = .ok (.iconst 0, 1) := by decide +kernel
theorem dX3_findFirst_66 : decode cX3_findFirst 66 = .ok (.iaload, 1) := by decide +kernel
theorem dX3_findFirst_67 : decode cX3_findFirst 67 = .ok (.bipush (-9), 2) := by decide +kernel
theorem dX3_findFirst_69 : decode cX3_findFirst 69 = .ok (.if_icmp .eq 8, 3) := by decide +kernel
theorem dX3_findFirst_72 : decode cX3_findFirst 72 = .ok (.aload_n 0, 1) := by decide +kernel
theorem dX3_findFirst_73 : decode cX3_findFirst 73 = .ok (.iload_n 2, 1) := by decide +kernel
theorem dX3_findFirst_74 : decode cX3_findFirst 74 = .ok (.invokevirtual 42, 3) := by decide +kernel
theorem dX3_findFirst_77 : decode cX3_findFirst 77 = .ok (.aload_n 0, 1) := by decide +kernel
theorem dX3_findFirst_78 : decode cX3_findFirst 78 = .ok (.getfield 15, 3) := by decide +kernel
theorem dX3_findFirst_81 : decode cX3_findFirst 81 = .ok (.iconst 0, 1) := by decide +kernel
theorem dX3_findFirst_82 : decode cX3_findFirst 82 = .ok (.iaload, 1) := by decide +kernel
theorem dX3_findFirst_83 : decode cX3_findFirst 83 = .ok (.ireturn, 1) := by decide +kernel
set_option maxRecDepth 20000 in
theorem ggX3_fewestFrom_X3_favoursBy : GoodIn wsX3_fewestFrom wsX3_favoursBy := goodIn_r _ [6, 7, 8, 9, 10, 11, 12, 13, 14, 15, 16, 17, 18, 19, 20, 21, 22, 23, 24, 25, 26, 27, 28, 29, 30, 31, 32, 33, 34, 35, 36, 37, 38, 39, 40, 41, 42, 43, 44, 45, 46, 47, 48, 49, 50, 51, 52, 53, 54, 55, 56, 57, 58, 59] (by decide +kernel) (by decide +kernel)
set_option maxRecDepth 20000 in
theorem gX3_fewestFrom_X3_favoursBy : GoodIn wsX3_fewestFrom (wsV RX3 46 RX3 yX3_favoursBy wsX3_favoursBy) := goodIn_app (goodIn_of _ (by decide +kernel)) ggX3_fewestFrom_X3_favoursBy
theorem dX3_fewestFrom_0 : decode cX3_fewestFrom 0 = .ok (.bipush (-9), 2) := by decide +kernel
theorem dX3_fewestFrom_2 : decode cX3_fewestFrom 2 = .ok (.istore 4, 2) := by decide +kernel
theorem dX3_fewestFrom_4 : decode cX3_fewestFrom 4 = .ok (.iconst 0, 1) := by decide +kernel
theorem dX3_fewestFrom_5 : decode cX3_fewestFrom 5 = .ok (.istore 5, 2) := by decide +kernel
theorem dX3_fewestFrom_7 : decode cX3_fewestFrom 7 = .ok (.iload 5, 2) := by decide +kernel
theorem dX3_fewestFrom_9 : decode cX3_fewestFrom 9 = .ok (.bipush 8, 2) := by decide +kernel
theorem dX3_fewestFrom_11 : decode cX3_fewestFrom 11 = .ok (.if_icmp .ge 53, 3) := by decide +kernel
theorem dX3_fewestFrom_14 : decode cX3_fewestFrom 14 = .ok (.aload_n 0, 1) := by decide +kernel
theorem dX3_fewestFrom_15 : decode cX3_fewestFrom 15 = .ok (.aload_n 1, 1) := by decide +kernel
theorem dX3_fewestFrom_16 : decode cX3_fewestFrom 16 = .ok (.iload_n 2, 1) := by decide +kernel
theorem dX3_fewestFrom_17 : decode cX3_fewestFrom 17 = .ok (.iload 5, 2) := by decide +kernel
theorem dX3_fewestFrom_19 : decode cX3_fewestFrom 19 = .ok (.iload_n 3, 1) := by decide +kernel
theorem dX3_fewestFrom_20 : decode cX3_fewestFrom 20 = .ok (.invokevirtual 46, 3) := by decide +kernel
theorem dX3_fewestFrom_23 : decode cX3_fewestFrom 23 = .ok (.istore 6, 2) := by decide +kernel
theorem dX3_fewestFrom_25 : decode cX3_fewestFrom 25 = .ok (.iload 6, 2) := by decide +kernel
theorem dX3_fewestFrom_27 : decode cX3_fewestFrom 27 = .ok (.bipush (-9), 2) := by decide +kernel
theorem dX3_fewestFrom_29 : decode cX3_fewestFrom 29 = .ok (.if_icmp .eq 29, 3) := by decide +kernel
theorem dX3_fewestFrom_32 : decode cX3_fewestFrom 32 = .ok (.iload 4, 2) := by decide +kernel
theorem dX3_fewestFrom_34 : decode cX3_fewestFrom 34 = .ok (.bipush (-9), 2) := by decide +kernel
theorem dX3_fewestFrom_36 : decode cX3_fewestFrom 36 = .ok (.if_icmp .eq 10, 3) := by decide +kernel
theorem dX3_fewestFrom_39 : decode cX3_fewestFrom 39 = .ok (.iload 6, 2) := by decide +kernel
theorem dX3_fewestFrom_41 : decode cX3_fewestFrom 41 = .ok (.iload 4, 2) := by decide +kernel
theorem dX3_fewestFrom_43 : decode cX3_fewestFrom 43 = .ok (.if_icmp .ge 15, 3) := by decide +kernel
theorem dX3_fewestFrom_46 : decode cX3_fewestFrom 46 = .ok (.iload 6, 2) := by decide +kernel
theorem dX3_fewestFrom_48 : decode cX3_fewestFrom 48 = .ok (.istore 4, 2) := by decide +kernel
theorem dX3_fewestFrom_50 : decode cX3_fewestFrom 50 = .ok (.aload_n 0, 1) := by decide +kernel
theorem dX3_fewestFrom_51 : decode cX3_fewestFrom 51 = .ok (.getfield 18, 3) := by decide +kernel
theorem dX3_fewestFrom_54 : decode cX3_fewestFrom 54 = .ok (.iload_n 2, 1) := by decide +kernel
theorem dX3_fewestFrom_55 : decode cX3_fewestFrom 55 = .ok (.iload 5, 2) := by decide +kernel
theorem dX3_fewestFrom_57 : decode cX3_fewestFrom 57 = .ok (.iastore, 1) := by decide +kernel
theorem dX3_fewestFrom_58 : decode cX3_fewestFrom 58 = .ok (.iinc 5 1, 3) := by decide +kernel
theorem dX3_fewestFrom_61 : decode cX3_fewestFrom 61 = .ok (.goto (-54), 3) := by decide +kernel
theorem dX3_fewestFrom_64 : decode cX3_fewestFrom 64 = .ok (.iload 4, 2) := by decide +kernel
theorem dX3_fewestFrom_66 : decode cX3_fewestFrom 66 = .ok (.ireturn, 1) := by decide +kernel
set_option maxRecDepth 20000 in
theorem ggX3_favoursBy_X2_everyone : GoodIn wsX3_favoursBy wsX2_everyone := goodIn_r _ [6, 7, 46, 47, 48, 49, 50, 51, 52, 53] (by decide +kernel) (by decide +kernel)
set_option maxRecDepth 20000 in
theorem gX3_favoursBy_X2_everyone : GoodIn wsX3_favoursBy (wsV RX3 28 RX2 yX2_everyone wsX2_everyone) := goodIn_app (goodIn_of _ (by decide +kernel)) ggX3_favoursBy_X2_everyone
set_option maxRecDepth 20000 in
theorem ggX3_favoursBy_X2_favoursFor : GoodIn wsX3_favoursBy wsX2_favoursFor := goodIn_r _ [11, 12, 13, 14, 15, 16, 17, 18, 5, 19, 7, 20, 21, 22, 23, 24, 25, 26, 27, 28, 29, 30, 31, 32, 33, 34, 35, 36, 37, 38, 39, 40, 41, 46, 47, 48, 49, 50, 51, 52, 53] (by decide +kernel) (by decide +kernel)
set_option maxRecDepth 20000 in
theorem gX3_favoursBy_X2_favoursFor : GoodIn wsX3_favoursBy (wsV RX3 34 RX2 yX2_favoursFor wsX2_favoursFor) := goodIn_app (goodIn_of _ (by decide +kernel)) ggX3_favoursBy_X2_favoursFor
theorem dX3_favoursBy_0 : decode cX3_favoursBy 0 = .ok (.iload_n 2, 1) := by decide +kernel
theorem dX3_favoursBy_1 : decode cX3_favoursBy 1 = .ok (.iconst 1, 1) := by decide +kernel
theorem dX3_favoursBy_2 : decode cX3_favoursBy 2 = .ok (.iload_n 3, 1) := by decide +kernel
theorem dX3_favoursBy_3 : decode cX3_favoursBy 3 = .ok (.ishl, 1) := by decide +kernel
theorem dX3_favoursBy_4 : decode cX3_favoursBy 4 = .ok (.ior, 1) := by decide +kernel
theorem dX3_favoursBy_5 : decode cX3_favoursBy 5 = .ok (.istore 5, 2) := by decide +kernel
theorem dX3_favoursBy_7 : decode cX3_favoursBy 7 = .ok (.iload 5, 2) := by decide +kernel
theorem dX3_favoursBy_9 : decode cX3_favoursBy 9 = .ok (.iload_n 2, 1) := by decide +kernel
theorem dX3_favoursBy_10 : decode cX3_favoursBy 10 = .ok (.if_icmp .eq 25, 3) := by decide +kernel
theorem dX3_favoursBy_13 : decode cX3_favoursBy 13 = .ok (.iload 5, 2) := by decide +kernel
theorem dX3_favoursBy_15 : decode cX3_favoursBy 15 = .ok (.iload 4, 2) := by decide +kernel
theorem dX3_favoursBy_17 : decode cX3_favoursBy 17 = .ok (.iconst (-1), 1) := by decide +kernel
theorem dX3_favoursBy_18 : decode cX3_favoursBy 18 = .ok (.ixor, 1) := by decide +kernel
theorem dX3_favoursBy_19 : decode cX3_favoursBy 19 = .ok (.iand, 1) := by decide +kernel
theorem dX3_favoursBy_20 : decode cX3_favoursBy 20 = .ok (.ifCond .ne 15, 3) := by decide +kernel
theorem dX3_favoursBy_23 : decode cX3_favoursBy 23 = .ok (.aload_n 0, 1) := by decide +kernel
theorem dX3_favoursBy_24 : decode cX3_favoursBy 24 = .ok (.getfield 15, 3) := by decide +kernel
theorem dX3_favoursBy_27 : decode cX3_favoursBy 27 = .ok (.iload 5, 2) := by decide +kernel
theorem dX3_favoursBy_29 : decode cX3_favoursBy 29 = .ok (.iaload, 1) := by decide +kernel
theorem dX3_favoursBy_30 : decode cX3_favoursBy 30 = .ok (.bipush (-9), 2) := by decide +kernel
theorem dX3_favoursBy_32 : decode cX3_favoursBy 32 = .ok (.if_icmp .ne 6, 3) := by decide +kernel
theorem dX3_favoursBy_35 : decode cX3_favoursBy 35 = .ok (.bipush (-9), 2) := by decide +kernel
theorem dX3_favoursBy_37 : decode cX3_favoursBy 37 = .ok (.ireturn, 1) := by decide +kernel
theorem dX3_favoursBy_38 : decode cX3_favoursBy 38 = .ok (.aload_n 1, 1) := by decide +kernel
theorem dX3_favoursBy_39 : decode cX3_favoursBy 39 = .ok (.iload_n 3, 1) := by decide +kernel
theorem dX3_favoursBy_40 : decode cX3_favoursBy 40 = .ok (.iload_n 2, 1) := by decide +kernel
theorem dX3_favoursBy_41 : decode cX3_favoursBy 41 = .ok (.aload_n 1, 1) := by decide +kernel
theorem dX3_favoursBy_42 : decode cX3_favoursBy 42 = .ok (.invokevirtual 28, 3) := by decide +kernel
theorem dX3_favoursBy_45 : decode cX3_favoursBy 45 = .ok (.invokevirtual 34, 3) := by decide +kernel
theorem dX3_favoursBy_48 : decode cX3_favoursBy 48 = .ok (.istore 6, 2) := by decide +kernel
theorem dX3_favoursBy_50 : decode cX3_favoursBy 50 = .ok (.iload 6, 2) := by decide +kernel
theorem dX3_favoursBy_52 : decode cX3_favoursBy 52 = .ok (.bipush (-9), 2) := by decide +kernel
theorem dX3_favoursBy_54 : decode cX3_favoursBy 54 = .ok (.if_icmp .ne 8, 3) := by decide +kernel
theorem dX3_favoursBy_57 : decode cX3_favoursBy 57 = .ok (.bipush (-9), 2) := by decide +kernel
theorem dX3_favoursBy_59 : decode cX3_favoursBy 59 = .ok (.goto 13, 3) := by decide +kernel
theorem dX3_favoursBy_62 : decode cX3_favoursBy 62 = .ok (.iload 6, 2) := by decide +kernel
theorem dX3_favoursBy_64 : decode cX3_favoursBy 64 = .ok (.aload_n 0, 1) := by decide +kernel
theorem dX3_favoursBy_65 : decode cX3_favoursBy 65 = .ok (.getfield 15, 3) := by decide +kernel
theorem dX3_favoursBy_68 : decode cX3_favoursBy 68 = .ok (.iload 5, 2) := by decide +kernel
theorem dX3_favoursBy_70 : decode cX3_favoursBy 70 = .ok (.iaload, 1) := by decide +kernel
theorem dX3_favoursBy_71 : decode cX3_favoursBy 71 = .ok (.iadd, 1) := by decide +kernel
theorem dX3_favoursBy_72 : decode cX3_favoursBy 72 = .ok (.ireturn, 1) := by decide +kernel
theorem dX3_follow_0 : decode cX3_follow 0 = .ok (.iconst 0, 1) := by decide +kernel
theorem dX3_follow_1 : decode cX3_follow 1 = .ok (.istore_n 2, 1) := by decide +kernel
theorem dX3_follow_2 : decode cX3_follow 2 = .ok (.iconst 0, 1) := by decide +kernel
theorem dX3_follow_3 : decode cX3_follow 3 = .ok (.istore_n 3, 1) := by decide +kernel
theorem dX3_follow_4 : decode cX3_follow 4 = .ok (.iload_n 3, 1) := by decide +kernel
theorem dX3_follow_5 : decode cX3_follow 5 = .ok (.bipush 8, 2) := by decide +kernel
theorem dX3_follow_7 : decode cX3_follow 7 = .ok (.if_icmp .ge 37, 3) := by decide +kernel
theorem dX3_follow_10 : decode cX3_follow 10 = .ok (.iload_n 2, 1) := by decide +kernel
theorem dX3_follow_11 : decode cX3_follow 11 = .ok (.iload_n 1, 1) := by decide +kernel
theorem dX3_follow_12 : decode cX3_follow 12 = .ok (.if_icmp .eq 32, 3) := by decide +kernel
theorem dX3_follow_15 : decode cX3_follow 15 = .ok (.aload_n 0, 1) := by decide +kernel
theorem dX3_follow_16 : decode cX3_follow 16 = .ok (.getfield 21, 3) := by decide +kernel
theorem dX3_follow_19 : decode cX3_follow 19 = .ok (.iload_n 3, 1) := by decide +kernel
theorem dX3_follow_20 : decode cX3_follow 20 = .ok (.aload_n 0, 1) := by decide +kernel
theorem dX3_follow_21 : decode cX3_follow 21 = .ok (.getfield 18, 3) := by decide +kernel
theorem dX3_follow_24 : decode cX3_follow 24 = .ok (.iload_n 2, 1) := by decide +kernel
theorem dX3_follow_25 : decode cX3_follow 25 = .ok (.iaload, 1) := by decide +kernel
theorem dX3_follow_26 : decode cX3_follow 26 = .ok (.iastore, 1) := by decide +kernel
theorem dX3_follow_27 : decode cX3_follow 27 = .ok (.iload_n 2, 1) := by decide +kernel
theorem dX3_follow_28 : decode cX3_follow 28 = .ok (.iconst 1, 1) := by decide +kernel
theorem dX3_follow_29 : decode cX3_follow 29 = .ok (.aload_n 0, 1) := by decide +kernel
theorem dX3_follow_30 : decode cX3_follow 30 = .ok (.getfield 21, 3) := by decide +kernel
theorem dX3_follow_33 : decode cX3_follow 33 = .ok (.iload_n 3, 1) := by decide +kernel
theorem dX3_follow_34 : decode cX3_follow 34 = .ok (.iaload, 1) := by decide +kernel
theorem dX3_follow_35 : decode cX3_follow 35 = .ok (.ishl, 1) := by decide +kernel
theorem dX3_follow_36 : decode cX3_follow 36 = .ok (.ior, 1) := by decide +kernel
theorem dX3_follow_37 : decode cX3_follow 37 = .ok (.istore_n 2, 1) := by decide +kernel
theorem dX3_follow_38 : decode cX3_follow 38 = .ok (.iinc 3 1, 3) := by decide +kernel
theorem dX3_follow_41 : decode cX3_follow 41 = .ok (.goto (-37), 3) := by decide +kernel
theorem dX3_follow_44 : decode cX3_follow 44 = .ok (.return_, 1) := by decide +kernel
theorem dX3_stepAt_0 : decode cX3_stepAt 0 = .ok (.iload_n 1, 1) := by decide +kernel
theorem dX3_stepAt_1 : decode cX3_stepAt 1 = .ok (.ifCond .lt 18, 3) := by decide +kernel
theorem dX3_stepAt_4 : decode cX3_stepAt 4 = .ok (.iload_n 1, 1) := by decide +kernel
theorem dX3_stepAt_5 : decode cX3_stepAt 5 = .ok (.bipush 8, 2) := by decide +kernel
theorem dX3_stepAt_7 : decode cX3_stepAt 7 = .ok (.if_icmp .ge 12, 3) := by decide +kernel
theorem dX3_stepAt_10 : decode cX3_stepAt 10 = .ok (.aload_n 0, 1) := by decide +kernel
theorem dX3_stepAt_11 : decode cX3_stepAt 11 = .ok (.getfield 21, 3) := by decide +kernel
theorem dX3_stepAt_14 : decode cX3_stepAt 14 = .ok (.iload_n 1, 1) := by decide +kernel
theorem dX3_stepAt_15 : decode cX3_stepAt 15 = .ok (.iaload, 1) := by decide +kernel
theorem dX3_stepAt_16 : decode cX3_stepAt 16 = .ok (.goto 5, 3) := by decide +kernel
theorem dX3_stepAt_19 : decode cX3_stepAt 19 = .ok (.bipush (-9), 2) := by decide +kernel
theorem dX3_stepAt_21 : decode cX3_stepAt 21 = .ok (.ireturn, 1) := by decide +kernel
theorem dX4_init_0 : decode cX4_init 0 = .ok (.aload_n 0, 1) := by decide +kernel
theorem dX4_init_1 : decode cX4_init 1 = .ok (.invokespecial 3, 3) := by decide +kernel
theorem dX4_init_4 : decode cX4_init 4 = .ok (.aload_n 0, 1) := by decide +kernel
theorem dX4_init_5 : decode cX4_init 5 = .ok (.sipush 256, 3) := by decide +kernel
theorem dX4_init_8 : decode cX4_init 8 = .ok (.newarray .int, 2) := by decide +kernel
theorem dX4_init_10 : decode cX4_init 10 = .ok (.putfield 9, 3) := by decide +kernel
theorem dX4_init_13 : decode cX4_init 13 = .ok (.return_, 1) := by decide +kernel
set_option maxRecDepth 20000 in
theorem ggX4_fill_X2_favoursFor : GoodIn wsX4_fill wsX2_favoursFor := goodIn_r _ [7, 8, 9, 10, 11, 12, 13, 14, 6, 15, 16, 17, 18, 19, 20, 21, 22, 23, 24, 25, 26, 27, 28, 29, 30, 31, 32, 33, 34, 35, 36, 37, 38, 41, 42, 43, 44, 45, 46, 47, 48] (by decide +kernel) (by decide +kernel)
set_option maxRecDepth 20000 in
theorem gX4_fill_X2_favoursFor : GoodIn wsX4_fill (wsV RX4 19 RX2 yX2_favoursFor wsX2_favoursFor) := goodIn_app (goodIn_of _ (by decide +kernel)) ggX4_fill_X2_favoursFor
theorem dX4_fill_0 : decode cX4_fill 0 = .ok (.aload_n 0, 1) := by decide +kernel
theorem dX4_fill_1 : decode cX4_fill 1 = .ok (.iload_n 2, 1) := by decide +kernel
theorem dX4_fill_2 : decode cX4_fill 2 = .ok (.ifCond .lt 14, 3) := by decide +kernel
theorem dX4_fill_5 : decode cX4_fill 5 = .ok (.iload_n 2, 1) := by decide +kernel
theorem dX4_fill_6 : decode cX4_fill 6 = .ok (.sipush 256, 3) := by decide +kernel
theorem dX4_fill_9 : decode cX4_fill 9 = .ok (.if_icmp .ge 7, 3) := by decide +kernel
theorem dX4_fill_12 : decode cX4_fill 12 = .ok (.iload_n 2, 1) := by decide +kernel
theorem dX4_fill_13 : decode cX4_fill 13 = .ok (.goto 4, 3) := by decide +kernel
theorem dX4_fill_16 : decode cX4_fill 16 = .ok (.iconst 0, 1) := by decide +kernel
theorem dX4_fill_17 : decode cX4_fill 17 = .ok (.putfield 15, 3) := by decide +kernel
theorem dX4_fill_20 : decode cX4_fill 20 = .ok (.aload_n 0, 1) := by decide +kernel
theorem dX4_fill_21 : decode cX4_fill 21 = .ok (.getfield 9, 3) := by decide +kernel
theorem dX4_fill_24 : decode cX4_fill 24 = .ok (.iconst 0, 1) := by decide +kernel
theorem dX4_fill_25 : decode cX4_fill 25 = .ok (.iconst 0, 1) := by decide +kernel
theorem dX4_fill_26 : decode cX4_fill 26 = .ok (.iastore, 1) := by decide +kernel
theorem dX4_fill_27 : decode cX4_fill 27 = .ok (.iconst 1, 1) := by decide +kernel
theorem dX4_fill_28 : decode cX4_fill 28 = .ok (.istore_n 3, 1) := by decide +kernel
theorem dX4_fill_29 : decode cX4_fill 29 = .ok (.iload_n 3, 1) := by decide +kernel
theorem dX4_fill_30 : decode cX4_fill 30 = .ok (.aload_n 0, 1) := by decide +kernel
theorem dX4_fill_31 : decode cX4_fill 31 = .ok (.getfield 15, 3) := by decide +kernel
theorem dX4_fill_34 : decode cX4_fill 34 = .ok (.if_icmp .gt 17, 3) := by decide +kernel
theorem dX4_fill_37 : decode cX4_fill 37 = .ok (.aload_n 0, 1) := by decide +kernel
theorem dX4_fill_38 : decode cX4_fill 38 = .ok (.getfield 9, 3) := by decide +kernel
theorem dX4_fill_41 : decode cX4_fill 41 = .ok (.iload_n 3, 1) := by decide +kernel
theorem dX4_fill_42 : decode cX4_fill 42 = .ok (.bipush (-9), 2) := by decide +kernel
theorem dX4_fill_44 : decode cX4_fill 44 = .ok (.iastore, 1) := by decide +kernel
theorem dX4_fill_45 : decode cX4_fill 45 = .ok (.iinc 3 1, 3) := by decide +kernel
theorem dX4_fill_48 : decode cX4_fill 48 = .ok (.goto (-19), 3) := by decide +kernel
theorem dX4_fill_51 : decode cX4_fill 51 = .ok (.iconst 0, 1) := by decide +kernel
theorem dX4_fill_52 : decode cX4_fill 52 = .ok (.istore_n 3, 1) := by decide +kernel
theorem dX4_fill_53 : decode cX4_fill 53 = .ok (.iload_n 3, 1) := by decide +kernel
theorem dX4_fill_54 : decode cX4_fill 54 = .ok (.aload_n 0, 1) := by decide +kernel
theorem dX4_fill_55 : decode cX4_fill 55 = .ok (.getfield 15, 3) := by decide +kernel
theorem dX4_fill_58 : decode cX4_fill 58 = .ok (.if_icmp .ge 129, 3) := by decide +kernel
theorem dX4_fill_61 : decode cX4_fill 61 = .ok (.iconst 0, 1) := by decide +kernel
theorem dX4_fill_62 : decode cX4_fill 62 = .ok (.istore 4, 2) := by decide +kernel
theorem dX4_fill_64 : decode cX4_fill 64 = .ok (.iload 4, 2) := by decide +kernel
theorem dX4_fill_66 : decode cX4_fill 66 = .ok (.bipush 8, 2) := by decide +kernel
theorem dX4_fill_68 : decode cX4_fill 68 = .ok (.if_icmp .ge 113, 3) := by decide +kernel
theorem dX4_fill_71 : decode cX4_fill 71 = .ok (.aload_n 0, 1) := by decide +kernel
theorem dX4_fill_72 : decode cX4_fill 72 = .ok (.getfield 9, 3) := by decide +kernel
theorem dX4_fill_75 : decode cX4_fill 75 = .ok (.iload_n 3, 1) := by decide +kernel
theorem dX4_fill_76 : decode cX4_fill 76 = .ok (.iaload, 1) := by decide +kernel
theorem dX4_fill_77 : decode cX4_fill 77 = .ok (.bipush (-9), 2) := by decide +kernel
theorem dX4_fill_79 : decode cX4_fill 79 = .ok (.if_icmp .eq 102, 3) := by decide +kernel
theorem dX4_fill_82 : decode cX4_fill 82 = .ok (.iload_n 3, 1) := by decide +kernel
theorem dX4_fill_83 : decode cX4_fill 83 = .ok (.iconst 1, 1) := by decide +kernel
theorem dX4_fill_84 : decode cX4_fill 84 = .ok (.iload 4, 2) := by decide +kernel
theorem dX4_fill_86 : decode cX4_fill 86 = .ok (.ishl, 1) := by decide +kernel
theorem dX4_fill_87 : decode cX4_fill 87 = .ok (.ior, 1) := by decide +kernel
theorem dX4_fill_88 : decode cX4_fill 88 = .ok (.istore 5, 2) := by decide +kernel
theorem dX4_fill_90 : decode cX4_fill 90 = .ok (.iload 5, 2) := by decide +kernel
theorem dX4_fill_92 : decode cX4_fill 92 = .ok (.iload_n 3, 1) := by decide +kernel
theorem dX4_fill_93 : decode cX4_fill 93 = .ok (.if_icmp .eq 82, 3) := by decide +kernel
theorem dX4_fill_96 : decode cX4_fill 96 = .ok (.iload 5, 2) := by decide +kernel
theorem dX4_fill_98 : decode cX4_fill 98 = .ok (.aload_n 0, 1) := by decide +kernel
theorem dX4_fill_99 : decode cX4_fill 99 = .ok (.getfield 15, 3) := by decide +kernel
theorem dX4_fill_102 : decode cX4_fill 102 = .ok (.iconst (-1), 1) := by decide +kernel
theorem dX4_fill_103 : decode cX4_fill 103 = .ok (.ixor, 1) := by decide +kernel
theorem dX4_fill_104 : decode cX4_fill 104 = .ok (.iand, 1) := by decide +kernel
theorem dX4_fill_105 : decode cX4_fill 105 = .ok (.ifCond .eq 6, 3) := by decide +kernel
theorem dX4_fill_108 : decode cX4_fill 108 = .ok (.goto 67, 3) := by decide +kernel
theorem dX4_fill_111 : decode cX4_fill 111 = .ok (.aload_n 1, 1) := by decide +kernel
theorem dX4_fill_112 : decode cX4_fill 112 = .ok (.iload 4, 2) := by decide +kernel
theorem dX4_fill_114 : decode cX4_fill 114 = .ok (.iload_n 3, 1) := by decide +kernel
theorem dX4_fill_115 : decode cX4_fill 115 = .ok (.aload_n 0, 1) := by decide +kernel
theorem dX4_fill_116 : decode cX4_fill 116 = .ok (.getfield 15, 3) := by decide +kernel
theorem dX4_fill_119 : decode cX4_fill 119 = .ok (.invokevirtual 19, 3) := by decide +kernel
theorem dX4_fill_122 : decode cX4_fill 122 = .ok (.istore 6, 2) := by decide +kernel
theorem dX4_fill_124 : decode cX4_fill 124 = .ok (.aload_n 0, 1) := by decide +kernel
theorem dX4_fill_125 : decode cX4_fill 125 = .ok (.getfield 9, 3) := by decide +kernel
theorem dX4_fill_128 : decode cX4_fill 128 = .ok (.iload_n 3, 1) := by decide +kernel
theorem dX4_fill_129 : decode cX4_fill 129 = .ok (.iaload, 1) := by decide +kernel
theorem dX4_fill_130 : decode cX4_fill 130 = .ok (.iload 6, 2) := by decide +kernel
theorem dX4_fill_132 : decode cX4_fill 132 = .ok (.iadd, 1) := by decide +kernel
theorem dX4_fill_133 : decode cX4_fill 133 = .ok (.istore 7, 2) := by decide +kernel
theorem dX4_fill_135 : decode cX4_fill 135 = .ok (.iload 6, 2) := by decide +kernel
theorem dX4_fill_137 : decode cX4_fill 137 = .ok (.bipush (-9), 2) := by decide +kernel
theorem dX4_fill_139 : decode cX4_fill 139 = .ok (.if_icmp .eq 36, 3) := by decide +kernel
theorem dX4_fill_142 : decode cX4_fill 142 = .ok (.aload_n 0, 1) := by decide +kernel
theorem dX4_fill_143 : decode cX4_fill 143 = .ok (.getfield 9, 3) := by decide +kernel
theorem dX4_fill_146 : decode cX4_fill 146 = .ok (.iload 5, 2) := by decide +kernel
theorem dX4_fill_148 : decode cX4_fill 148 = .ok (.iaload, 1) := by decide +kernel
theorem dX4_fill_149 : decode cX4_fill 149 = .ok (.bipush (-9), 2) := by decide +kernel
theorem dX4_fill_151 : decode cX4_fill 151 = .ok (.if_icmp .eq 15, 3) := by decide +kernel
theorem dX4_fill_154 : decode cX4_fill 154 = .ok (.iload 7, 2) := by decide +kernel
theorem dX4_fill_156 : decode cX4_fill 156 = .ok (.aload_n 0, 1) := by decide +kernel
theorem dX4_fill_157 : decode cX4_fill 157 = .ok (.getfield 9, 3) := by decide +kernel
theorem dX4_fill_160 : decode cX4_fill 160 = .ok (.iload 5, 2) := by decide +kernel
theorem dX4_fill_162 : decode cX4_fill 162 = .ok (.iaload, 1) := by decide +kernel
theorem dX4_fill_163 : decode cX4_fill 163 = .ok (.if_icmp .ge 12, 3) := by decide +kernel
theorem dX4_fill_166 : decode cX4_fill 166 = .ok (.aload_n 0, 1) := by decide +kernel
theorem dX4_fill_167 : decode cX4_fill 167 = .ok (.getfield 9, 3) := by decide +kernel
theorem dX4_fill_170 : decode cX4_fill 170 = .ok (.iload 5, 2) := by decide +kernel
theorem dX4_fill_172 : decode cX4_fill 172 = .ok (.iload 7, 2) := by decide +kernel
theorem dX4_fill_174 : decode cX4_fill 174 = .ok (.iastore, 1) := by decide +kernel
theorem dX4_fill_175 : decode cX4_fill 175 = .ok (.iinc 4 1, 3) := by decide +kernel
theorem dX4_fill_178 : decode cX4_fill 178 = .ok (.goto (-114), 3) := by decide +kernel
theorem dX4_fill_181 : decode cX4_fill 181 = .ok (.iinc 3 1, 3) := by decide +kernel
theorem dX4_fill_184 : decode cX4_fill 184 = .ok (.goto (-131), 3) := by decide +kernel
theorem dX4_fill_187 : decode cX4_fill 187 = .ok (.return_, 1) := by decide +kernel
set_option maxRecDepth 20000 in
theorem ggX4_has_X4_favoursOf : GoodIn wsX4_has wsX4_favoursOf := goodIn_r _ [5, 6, 7, 8, 9] (by decide +kernel) (by decide +kernel)
set_option maxRecDepth 20000 in
theorem gX4_has_X4_favoursOf : GoodIn wsX4_has (wsV RX4 25 RX4 yX4_favoursOf wsX4_favoursOf) := goodIn_app (goodIn_of _ (by decide +kernel)) ggX4_has_X4_favoursOf
theorem dX4_has_0 : decode cX4_has 0 = .ok (.aload_n 0, 1) := by decide +kernel
theorem dX4_has_1 : decode cX4_has 1 = .ok (.iload_n 1, 1) := by decide +kernel
theorem dX4_has_2 : decode cX4_has 2 = .ok (.invokevirtual 25, 3) := by decide +kernel
theorem dX4_has_5 : decode cX4_has 5 = .ok (.bipush (-9), 2) := by decide +kernel
theorem dX4_has_7 : decode cX4_has 7 = .ok (.if_icmp .eq 7, 3) := by decide +kernel
theorem dX4_has_10 : decode cX4_has 10 = .ok (.iconst 1, 1) := by decide +kernel
theorem dX4_has_11 : decode cX4_has 11 = .ok (.goto 4, 3) := by decide +kernel
theorem dX4_has_14 : decode cX4_has 14 = .ok (.iconst 0, 1) := by decide +kernel
theorem dX4_has_15 : decode cX4_has 15 = .ok (.ireturn, 1) := by decide +kernel
theorem dX4_favoursOf_0 : decode cX4_favoursOf 0 = .ok (.iload_n 1, 1) := by decide +kernel
theorem dX4_favoursOf_1 : decode cX4_favoursOf 1 = .ok (.ifCond .lt 20, 3) := by decide +kernel
theorem dX4_favoursOf_4 : decode cX4_favoursOf 4 = .ok (.iload_n 1, 1) := by decide +kernel
theorem dX4_favoursOf_5 : decode cX4_favoursOf 5 = .ok (.aload_n 0, 1) := by decide +kernel
theorem dX4_favoursOf_6 : decode cX4_favoursOf 6 = .ok (.getfield 15, 3) := by decide +kernel
theorem dX4_favoursOf_9 : decode cX4_favoursOf 9 = .ok (.if_icmp .gt 12, 3) := by decide +kernel
theorem dX4_favoursOf_12 : decode cX4_favoursOf 12 = .ok (.aload_n 0, 1) := by decide +kernel
theorem dX4_favoursOf_13 : decode cX4_favoursOf 13 = .ok (.getfield 9, 3) := by decide +kernel
theorem dX4_favoursOf_16 : decode cX4_favoursOf 16 = .ok (.iload_n 1, 1) := by decide +kernel
theorem dX4_favoursOf_17 : decode cX4_favoursOf 17 = .ok (.iaload, 1) := by decide +kernel
theorem dX4_favoursOf_18 : decode cX4_favoursOf 18 = .ok (.goto 5, 3) := by decide +kernel
theorem dX4_favoursOf_21 : decode cX4_favoursOf 21 = .ok (.bipush (-9), 2) := by decide +kernel
theorem dX4_favoursOf_23 : decode cX4_favoursOf 23 = .ok (.ireturn, 1) := by decide +kernel
set_option maxRecDepth 20000 in
theorem ggX4_howMany_X4_has : GoodIn wsX4_howMany wsX4_has := goodIn_r _ [6, 7, 8, 9, 5, 10, 1, 11, 12, 13] (by decide +kernel) (by decide +kernel)
set_option maxRecDepth 20000 in
theorem gX4_howMany_X4_has : GoodIn wsX4_howMany (wsV RX4 29 RX4 yX4_has wsX4_has) := goodIn_app (goodIn_of _ (by decide +kernel)) ggX4_howMany_X4_has
theorem dX4_howMany_0 : decode cX4_howMany 0 = .ok (.iconst 0, 1) := by decide +kernel
theorem dX4_howMany_1 : decode cX4_howMany 1 = .ok (.istore_n 1, 1) := by decide +kernel
theorem dX4_howMany_2 : decode cX4_howMany 2 = .ok (.iconst 0, 1) := by decide +kernel
theorem dX4_howMany_3 : decode cX4_howMany 3 = .ok (.istore_n 2, 1) := by decide +kernel
theorem dX4_howMany_4 : decode cX4_howMany 4 = .ok (.iload_n 2, 1) := by decide +kernel
theorem dX4_howMany_5 : decode cX4_howMany 5 = .ok (.aload_n 0, 1) := by decide +kernel
theorem dX4_howMany_6 : decode cX4_howMany 6 = .ok (.getfield 15, 3) := by decide +kernel
theorem dX4_howMany_9 : decode cX4_howMany 9 = .ok (.if_icmp .gt 25, 3) := by decide +kernel
theorem dX4_howMany_12 : decode cX4_howMany 12 = .ok (.iload_n 1, 1) := by decide +kernel
theorem dX4_howMany_13 : decode cX4_howMany 13 = .ok (.aload_n 0, 1) := by decide +kernel
theorem dX4_howMany_14 : decode cX4_howMany 14 = .ok (.iload_n 2, 1) := by decide +kernel
theorem dX4_howMany_15 : decode cX4_howMany 15 = .ok (.invokevirtual 29, 3) := by decide +kernel
theorem dX4_howMany_18 : decode cX4_howMany 18 = .ok (.ifCond .eq 7, 3) := by decide +kernel
theorem dX4_howMany_21 : decode cX4_howMany 21 = .ok (.iconst 1, 1) := by decide +kernel
theorem dX4_howMany_22 : decode cX4_howMany 22 = .ok (.goto 4, 3) := by decide +kernel
theorem dX4_howMany_25 : decode cX4_howMany 25 = .ok (.iconst 0, 1) := by decide +kernel
theorem dX4_howMany_26 : decode cX4_howMany 26 = .ok (.iadd, 1) := by decide +kernel
theorem dX4_howMany_27 : decode cX4_howMany 27 = .ok (.istore_n 1, 1) := by decide +kernel
theorem dX4_howMany_28 : decode cX4_howMany 28 = .ok (.iinc 2 1, 3) := by decide +kernel
theorem dX4_howMany_31 : decode cX4_howMany 31 = .ok (.goto (-27), 3) := by decide +kernel
theorem dX4_howMany_34 : decode cX4_howMany 34 = .ok (.iload_n 1, 1) := by decide +kernel
theorem dX4_howMany_35 : decode cX4_howMany 35 = .ok (.ireturn, 1) := by decide +kernel
set_option maxRecDepth 20000 in
theorem ggX4_inSome_X4_has : GoodIn wsX4_inSome wsX4_has := goodIn_r _ [6, 7, 8, 9, 5, 10, 1, 11, 12, 13] (by decide +kernel) (by decide +kernel)
set_option maxRecDepth 20000 in
theorem gX4_inSome_X4_has : GoodIn wsX4_inSome (wsV RX4 29 RX4 yX4_has wsX4_has) := goodIn_app (goodIn_of _ (by decide +kernel)) ggX4_inSome_X4_has
theorem dX4_inSome_0 : decode cX4_inSome 0 = .ok (.iconst 0, 1) := by decide +kernel
theorem dX4_inSome_1 : decode cX4_inSome 1 = .ok (.istore_n 1, 1) := by decide +kernel
theorem dX4_inSome_2 : decode cX4_inSome 2 = .ok (.iconst 0, 1) := by decide +kernel
theorem dX4_inSome_3 : decode cX4_inSome 3 = .ok (.istore_n 2, 1) := by decide +kernel
theorem dX4_inSome_4 : decode cX4_inSome 4 = .ok (.iload_n 2, 1) := by decide +kernel
theorem dX4_inSome_5 : decode cX4_inSome 5 = .ok (.aload_n 0, 1) := by decide +kernel
theorem dX4_inSome_6 : decode cX4_inSome 6 = .ok (.getfield 15, 3) := by decide +kernel
theorem dX4_inSome_9 : decode cX4_inSome 9 = .ok (.if_icmp .gt 25, 3) := by decide +kernel
theorem dX4_inSome_12 : decode cX4_inSome 12 = .ok (.iload_n 1, 1) := by decide +kernel
theorem dX4_inSome_13 : decode cX4_inSome 13 = .ok (.aload_n 0, 1) := by decide +kernel
theorem dX4_inSome_14 : decode cX4_inSome 14 = .ok (.iload_n 2, 1) := by decide +kernel
theorem dX4_inSome_15 : decode cX4_inSome 15 = .ok (.invokevirtual 29, 3) := by decide +kernel
theorem dX4_inSome_18 : decode cX4_inSome 18 = .ok (.ifCond .eq 7, 3) := by decide +kernel
theorem dX4_inSome_21 : decode cX4_inSome 21 = .ok (.iload_n 2, 1) := by decide +kernel
theorem dX4_inSome_22 : decode cX4_inSome 22 = .ok (.goto 4, 3) := by decide +kernel
theorem dX4_inSome_25 : decode cX4_inSome 25 = .ok (.iconst 0, 1) := by decide +kernel
theorem dX4_inSome_26 : decode cX4_inSome 26 = .ok (.ior, 1) := by decide +kernel
theorem dX4_inSome_27 : decode cX4_inSome 27 = .ok (.istore_n 1, 1) := by decide +kernel
theorem dX4_inSome_28 : decode cX4_inSome 28 = .ok (.iinc 2 1, 3) := by decide +kernel
theorem dX4_inSome_31 : decode cX4_inSome 31 = .ok (.goto (-27), 3) := by decide +kernel
theorem dX4_inSome_34 : decode cX4_inSome 34 = .ok (.iload_n 1, 1) := by decide +kernel
theorem dX4_inSome_35 : decode cX4_inSome 35 = .ok (.ireturn, 1) := by decide +kernel
theorem dX4_cheapestWith_0 : decode cX4_cheapestWith 0 = .ok (.bipush (-9), 2) := by decide +kernel
theorem dX4_cheapestWith_2 : decode cX4_cheapestWith 2 = .ok (.istore_n 2, 1) := by decide +kernel
theorem dX4_cheapestWith_3 : decode cX4_cheapestWith 3 = .ok (.iconst 0, 1) := by decide +kernel
theorem dX4_cheapestWith_4 : decode cX4_cheapestWith 4 = .ok (.istore_n 3, 1) := by decide +kernel
theorem dX4_cheapestWith_5 : decode cX4_cheapestWith 5 = .ok (.iload_n 3, 1) := by decide +kernel
theorem dX4_cheapestWith_6 : decode cX4_cheapestWith 6 = .ok (.aload_n 0, 1) := by decide +kernel
theorem dX4_cheapestWith_7 : decode cX4_cheapestWith 7 = .ok (.getfield 15, 3) := by decide +kernel
theorem dX4_cheapestWith_10 : decode cX4_cheapestWith 10 = .ok (.if_icmp .gt 63, 3) := by decide +kernel
theorem dX4_cheapestWith_13 : decode cX4_cheapestWith 13 = .ok (.aload_n 0, 1) := by decide +kernel
theorem dX4_cheapestWith_14 : decode cX4_cheapestWith 14 = .ok (.getfield 9, 3) := by decide +kernel
theorem dX4_cheapestWith_17 : decode cX4_cheapestWith 17 = .ok (.iload_n 3, 1) := by decide +kernel
theorem dX4_cheapestWith_18 : decode cX4_cheapestWith 18 = .ok (.iaload, 1) := by decide +kernel
theorem dX4_cheapestWith_19 : decode cX4_cheapestWith 19 = .ok (.bipush (-9), 2) := by decide +kernel
theorem dX4_cheapestWith_21 : decode cX4_cheapestWith 21 = .ok (.if_icmp .eq 15, 3) := by decide +kernel
theorem dX4_cheapestWith_24 : decode cX4_cheapestWith 24 = .ok (.iload_n 1, 1) := by decide +kernel
theorem dX4_cheapestWith_25 : decode cX4_cheapestWith 25 = .ok (.iload_n 3, 1) := by decide +kernel
theorem dX4_cheapestWith_26 : decode cX4_cheapestWith 26 = .ok (.iconst (-1), 1) := by decide +kernel
theorem dX4_cheapestWith_27 : decode cX4_cheapestWith 27 = .ok (.ixor, 1) := by decide +kernel
theorem dX4_cheapestWith_28 : decode cX4_cheapestWith 28 = .ok (.iand, 1) := by decide +kernel
theorem dX4_cheapestWith_29 : decode cX4_cheapestWith 29 = .ok (.ifCond .ne 7, 3) := by decide +kernel
theorem dX4_cheapestWith_32 : decode cX4_cheapestWith 32 = .ok (.iconst 1, 1) := by decide +kernel
theorem dX4_cheapestWith_33 : decode cX4_cheapestWith 33 = .ok (.goto 4, 3) := by decide +kernel
theorem dX4_cheapestWith_36 : decode cX4_cheapestWith 36 = .ok (.iconst 0, 1) := by decide +kernel
theorem dX4_cheapestWith_37 : decode cX4_cheapestWith 37 = .ok (.istore 4, 2) := by decide +kernel
theorem dX4_cheapestWith_39 : decode cX4_cheapestWith 39 = .ok (.iload 4, 2) := by decide +kernel
theorem dX4_cheapestWith_41 : decode cX4_cheapestWith 41 = .ok (.ifCond .eq 26, 3) := by decide +kernel
theorem dX4_cheapestWith_44 : decode cX4_cheapestWith 44 = .ok (.iload_n 2, 1) := by decide +kernel
theorem dX4_cheapestWith_45 : decode cX4_cheapestWith 45 = .ok (.bipush (-9), 2) := by decide +kernel
theorem dX4_cheapestWith_47 : decode cX4_cheapestWith 47 = .ok (.if_icmp .eq 18, 3) := by decide +kernel
theorem dX4_cheapestWith_50 : decode cX4_cheapestWith 50 = .ok (.aload_n 0, 1) := by decide +kernel
theorem dX4_cheapestWith_51 : decode cX4_cheapestWith 51 = .ok (.getfield 9, 3) := by decide +kernel
theorem dX4_cheapestWith_54 : decode cX4_cheapestWith 54 = .ok (.iload_n 3, 1) := by decide +kernel
theorem dX4_cheapestWith_55 : decode cX4_cheapestWith 55 = .ok (.iaload, 1) := by decide +kernel
theorem dX4_cheapestWith_56 : decode cX4_cheapestWith 56 = .ok (.aload_n 0, 1) := by decide +kernel
theorem dX4_cheapestWith_57 : decode cX4_cheapestWith 57 = .ok (.getfield 9, 3) := by decide +kernel
theorem dX4_cheapestWith_60 : decode cX4_cheapestWith 60 = .ok (.iload_n 2, 1) := by decide +kernel
theorem dX4_cheapestWith_61 : decode cX4_cheapestWith 61 = .ok (.iaload, 1) := by decide +kernel
theorem dX4_cheapestWith_62 : decode cX4_cheapestWith 62 = .ok (.if_icmp .ge 5, 3) := by decide +kernel
theorem dX4_cheapestWith_65 : decode cX4_cheapestWith 65 = .ok (.iload_n 3, 1) := by decide +kernel
theorem dX4_cheapestWith_66 : decode cX4_cheapestWith 66 = .ok (.istore_n 2, 1) := by decide +kernel
theorem dX4_cheapestWith_67 : decode cX4_cheapestWith 67 = .ok (.iinc 3 1, 3) := by decide +kernel
theorem dX4_cheapestWith_70 : decode cX4_cheapestWith 70 = .ok (.goto (-65), 3) := by decide +kernel
theorem dX4_cheapestWith_73 : decode cX4_cheapestWith 73 = .ok (.iload_n 2, 1) := by decide +kernel
theorem dX4_cheapestWith_74 : decode cX4_cheapestWith 74 = .ok (.ireturn, 1) := by decide +kernel
set_option maxRecDepth 20000 in
theorem ggX4_leastFor_X4_cheapestWith : GoodIn wsX4_leastFor wsX4_cheapestWith := goodIn_r _ [5, 6, 7, 12, 13] (by decide +kernel) (by decide +kernel)
set_option maxRecDepth 20000 in
theorem gX4_leastFor_X4_cheapestWith : GoodIn wsX4_leastFor (wsV RX4 33 RX4 yX4_cheapestWith wsX4_cheapestWith) := goodIn_app (goodIn_of _ (by decide +kernel)) ggX4_leastFor_X4_cheapestWith
set_option maxRecDepth 20000 in
theorem ggX4_leastFor_X4_favoursOf : GoodIn wsX4_leastFor wsX4_favoursOf := goodIn_r _ [11, 6, 7, 12, 13] (by decide +kernel) (by decide +kernel)
set_option maxRecDepth 20000 in
theorem gX4_leastFor_X4_favoursOf : GoodIn wsX4_leastFor (wsV RX4 25 RX4 yX4_favoursOf wsX4_favoursOf) := goodIn_app (goodIn_of _ (by decide +kernel)) ggX4_leastFor_X4_favoursOf
theorem dX4_leastFor_0 : decode cX4_leastFor 0 = .ok (.aload_n 0, 1) := by decide +kernel
theorem dX4_leastFor_1 : decode cX4_leastFor 1 = .ok (.aload_n 0, 1) := by decide +kernel
theorem dX4_leastFor_2 : decode cX4_leastFor 2 = .ok (.iconst 1, 1) := by decide +kernel
theorem dX4_leastFor_3 : decode cX4_leastFor 3 = .ok (.iload_n 1, 1) := by decide +kernel
theorem dX4_leastFor_4 : decode cX4_leastFor 4 = .ok (.ishl, 1) := by decide +kernel
theorem dX4_leastFor_5 : decode cX4_leastFor 5 = .ok (.invokevirtual 33, 3) := by decide +kernel
theorem dX4_leastFor_8 : decode cX4_leastFor 8 = .ok (.invokevirtual 25, 3) := by decide +kernel
theorem dX4_leastFor_11 : decode cX4_leastFor 11 = .ok (.ireturn, 1) := by decide +kernel
set_option maxRecDepth 20000 in
theorem ggX4_greatest_X4_has : GoodIn wsX4_greatest wsX4_has := goodIn_r _ [6, 7, 8, 9, 5, 10, 1, 11, 23, 24] (by decide +kernel) (by decide +kernel)
set_option maxRecDepth 20000 in
theorem gX4_greatest_X4_has : GoodIn wsX4_greatest (wsV RX4 29 RX4 yX4_has wsX4_has) := goodIn_app (goodIn_of _ (by decide +kernel)) ggX4_greatest_X4_has
set_option maxRecDepth 20000 in
theorem ggX4_greatest_X4_isGreater : GoodIn wsX4_greatest wsX4_isGreater := goodIn_r _ [15, 16, 17, 18, 19, 20, 21, 22, 7, 8, 9, 5, 10, 1, 11, 23, 24] (by decide +kernel) (by decide +kernel)
set_option maxRecDepth 20000 in
theorem gX4_greatest_X4_isGreater : GoodIn wsX4_greatest (wsV RX4 36 RX4 yX4_isGreater wsX4_isGreater) := goodIn_app (goodIn_of _ (by decide +kernel)) ggX4_greatest_X4_isGreater
theorem dX4_greatest_0 : decode cX4_greatest 0 = .ok (.iconst 0, 1) := by decide +kernel
theorem dX4_greatest_1 : decode cX4_greatest 1 = .ok (.istore_n 1, 1) := by decide +kernel
theorem dX4_greatest_2 : decode cX4_greatest 2 = .ok (.iconst 1, 1) := by decide +kernel
theorem dX4_greatest_3 : decode cX4_greatest 3 = .ok (.istore_n 2, 1) := by decide +kernel
theorem dX4_greatest_4 : decode cX4_greatest 4 = .ok (.iload_n 2, 1) := by decide +kernel
theorem dX4_greatest_5 : decode cX4_greatest 5 = .ok (.aload_n 0, 1) := by decide +kernel
theorem dX4_greatest_6 : decode cX4_greatest 6 = .ok (.getfield 15, 3) := by decide +kernel
theorem dX4_greatest_9 : decode cX4_greatest 9 = .ok (.if_icmp .gt 28, 3) := by decide +kernel
theorem dX4_greatest_12 : decode cX4_greatest 12 = .ok (.aload_n 0, 1) := by decide +kernel
theorem dX4_greatest_13 : decode cX4_greatest 13 = .ok (.iload_n 2, 1) := by decide +kernel
theorem dX4_greatest_14 : decode cX4_greatest 14 = .ok (.invokevirtual 29, 3) := by decide +kernel
theorem dX4_greatest_17 : decode cX4_greatest 17 = .ok (.ifCond .eq 14, 3) := by decide +kernel
theorem dX4_greatest_20 : decode cX4_greatest 20 = .ok (.aload_n 0, 1) := by decide +kernel
