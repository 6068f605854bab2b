theorem dX4_greatest_21 : decode cX4_greatest 21 = .ok (.iload_n 2, 1) := by decide +kernel
theorem dX4_greatest_22 : decode cX4_greatest 22 = .ok (.iload_n 1, 1) := by decide +kernel
theorem dX4_greatest_23 : decode cX4_greatest 23 = .ok (.invokevirtual 36, 3) := by decide +kernel
theorem dX4_greatest_26 : decode cX4_greatest 26 = .ok (.ifCond .eq 5, 3) := by decide +kernel
theorem dX4_greatest_29 : decode cX4_greatest 29 = .ok (.iload_n 2, 1) := by decide +kernel
theorem dX4_greatest_30 : decode cX4_greatest 30 = .ok (.istore_n 1, 1) := by decide +kernel
theorem dX4_greatest_31 : decode cX4_greatest 31 = .ok (.iinc 2 1, 3) := by decide +kernel
theorem dX4_greatest_34 : decode cX4_greatest 34 = .ok (.goto (-30), 3) := by decide +kernel
theorem dX4_greatest_37 : decode cX4_greatest 37 = .ok (.iload_n 1, 1) := by decide +kernel
theorem dX4_greatest_38 : decode cX4_greatest 38 = .ok (.ireturn, 1) := by decide +kernel
set_option maxRecDepth 20000 in
theorem ggX4_isGreater_J6_bitCount_0f7a4 : GoodIn wsX4_isGreater wsJ6_bitCount_0f7a4 := goodIn_r _ [4, 5, 6, 7] (by decide +kernel) (by decide +kernel)
set_option maxRecDepth 20000 in
theorem gX4_isGreater_J6_bitCount_0f7a4 : GoodIn wsX4_isGreater (va_wsS RX4 40 yJ6_bitCount_0f7a4 wsJ6_bitCount_0f7a4) := goodIn_app (goodIn_of _ (by decide +kernel)) ggX4_isGreater_J6_bitCount_0f7a4
set_option maxRecDepth 20000 in
theorem ggX4_isGreater_X4_favoursOf : GoodIn wsX4_isGreater wsX4_favoursOf := goodIn_r _ [12, 13, 14, 15, 16] (by decide +kernel) (by decide +kernel)
set_option maxRecDepth 20000 in
theorem gX4_isGreater_X4_favoursOf : GoodIn wsX4_isGreater (wsV RX4 25 RX4 yX4_favoursOf wsX4_favoursOf) := goodIn_app (goodIn_of _ (by decide +kernel)) ggX4_isGreater_X4_favoursOf
theorem dX4_isGreater_0 : decode cX4_isGreater 0 = .ok (.iload_n 1, 1) := by decide +kernel
theorem dX4_isGreater_1 : decode cX4_isGreater 1 = .ok (.invokestatic 40, 3) := by decide +kernel
theorem dX4_isGreater_4 : decode cX4_isGreater 4 = .ok (.iload_n 2, 1) := by decide +kernel
theorem dX4_isGreater_5 : decode cX4_isGreater 5 = .ok (.invokestatic 40, 3) := by decide +kernel
theorem dX4_isGreater_8 : decode cX4_isGreater 8 = .ok (.isub, 1) := by decide +kernel
theorem dX4_isGreater_9 : decode cX4_isGreater 9 = .ok (.istore_n 3, 1) := by decide +kernel
theorem dX4_isGreater_10 : decode cX4_isGreater 10 = .ok (.iload_n 3, 1) := by decide +kernel
theorem dX4_isGreater_11 : decode cX4_isGreater 11 = .ok (.ifCond .gt 20, 3) := by decide +kernel
theorem dX4_isGreater_14 : decode cX4_isGreater 14 = .ok (.iload_n 3, 1) := by decide +kernel
theorem dX4_isGreater_15 : decode cX4_isGreater 15 = .ok (.ifCond .ne 20, 3) := by decide +kernel
theorem dX4_isGreater_18 : decode cX4_isGreater 18 = .ok (.aload_n 0, 1) := by decide +kernel
theorem dX4_isGreater_19 : decode cX4_isGreater 19 = .ok (.iload_n 1, 1) := by decide +kernel
theorem dX4_isGreater_20 : decode cX4_isGreater 20 = .ok (.invokevirtual 25, 3) := by decide +kernel
theorem dX4_isGreater_23 : decode cX4_isGreater 23 = .ok (.aload_n 0, 1) := by decide +kernel
theorem dX4_isGreater_24 : decode cX4_isGreater 24 = .ok (.iload_n 2, 1) := by decide +kernel
theorem dX4_isGreater_25 : decode cX4_isGreater 25 = .ok (.invokevirtual 25, 3) := by decide +kernel
theorem dX4_isGreater_28 : decode cX4_isGreater 28 = .ok (.if_icmp .ge 7, 3) := by decide +kernel
theorem dX4_isGreater_31 : decode cX4_isGreater 31 = .ok (.iconst 1, 1) := by decide +kernel
theorem dX4_isGreater_32 : decode cX4_isGreater 32 = .ok (.goto 4, 3) := by decide +kernel
theorem dX4_isGreater_35 : decode cX4_isGreater 35 = .ok (.iconst 0, 1) := by decide +kernel
theorem dX4_isGreater_36 : decode cX4_isGreater 36 = .ok (.ireturn, 1) := by decide +kernel
set_option maxRecDepth 20000 in
theorem ggX5_init_X2_init : GoodIn wsX5_init wsX2_init := goodIn_r _ [11, 12, 2, 3, 8, 13, 14, 15, 16, 17, 18, 19, 20, 21, 22, 23, 24, 25] (by decide +kernel) (by decide +kernel)
set_option maxRecDepth 20000 in
theorem gX5_init_X2_init_n11 : GoodIn wsX5_init (wsX2_init) := ggX5_init_X2_init
theorem dX5_init_0 : decode cX5_init 0 = .ok (.aload_n 0, 1) := by decide +kernel
theorem dX5_init_1 : decode cX5_init 1 = .ok (.invokespecial 3, 3) := by decide +kernel
theorem dX5_init_4 : decode cX5_init 4 = .ok (.aload_n 0, 1) := by decide +kernel
theorem dX5_init_5 : decode cX5_init 5 = .ok (.new 9, 3) := by decide +kernel
theorem dX5_init_8 : decode cX5_init 8 = .ok (.dup, 1) := by decide +kernel
theorem dX5_init_9 : decode cX5_init 9 = .ok (.invokespecial 11, 3) := by decide +kernel
theorem dX5_init_12 : decode cX5_init 12 = .ok (.putfield 12, 3) := by decide +kernel
theorem dX5_init_15 : decode cX5_init 15 = .ok (.aload_n 0, 1) := by decide +kernel
theorem dX5_init_16 : decode cX5_init 16 = .ok (.iconst 3, 1) := by decide +kernel
theorem dX5_init_17 : decode cX5_init 17 = .ok (.newarray .int, 2) := by decide +kernel
theorem dX5_init_19 : decode cX5_init 19 = .ok (.putfield 18, 3) := by decide +kernel
theorem dX5_init_22 : decode cX5_init 22 = .ok (.return_, 1) := by decide +kernel
theorem dX5_draft_0 : decode cX5_draft 0 = .ok (.aload_n 0, 1) := by decide +kernel
theorem dX5_draft_1 : decode cX5_draft 1 = .ok (.getfield 12, 3) := by decide +kernel
theorem dX5_draft_4 : decode cX5_draft 4 = .ok (.areturn, 1) := by decide +kernel
set_option maxRecDepth 20000 in
theorem ggX5_read_X8_sizeOf : GoodIn wsX5_read wsX8_sizeOf := goodIn_r _ [8, 9, 10, 11, 12, 7, 13, 135, 136] (by decide +kernel) (by decide +kernel)
set_option maxRecDepth 20000 in
theorem gX5_read_X8_sizeOf : GoodIn wsX5_read (wsV RX5 33 RX8 yX8_sizeOf wsX8_sizeOf) := goodIn_app (goodIn_of _ (by decide +kernel)) ggX5_read_X8_sizeOf
set_option maxRecDepth 20000 in
theorem ggX5_read_X8_get : GoodIn wsX5_read wsX8_get := goodIn_r _ [17, 18, 19, 20, 21, 7, 22, 23, 5, 6, 8, 9, 10, 11, 12, 13, 135, 136] (by decide +kernel) (by decide +kernel)
set_option maxRecDepth 20000 in
theorem gX5_read_X8_get : GoodIn wsX5_read (wsV RX5 39 RX8 yX8_get wsX8_get) := goodIn_app (goodIn_of _ (by decide +kernel)) ggX5_read_X8_get
set_option maxRecDepth 20000 in
theorem ggX5_read_X5_opens : GoodIn wsX5_read wsX5_opens := goodIn_r _ [28, 3, 1, 2, 29, 30, 27, 31, 32, 33, 34, 35, 36, 37, 130, 131, 132, 133, 134] (by decide +kernel) (by decide +kernel)
set_option maxRecDepth 20000 in
theorem gX5_read_X5_opens : GoodIn wsX5_read (wsV RX5 43 RX5 yX5_opens wsX5_opens) := goodIn_app (goodIn_of _ (by decide +kernel)) ggX5_read_X5_opens
set_option maxRecDepth 20000 in
theorem ggX5_read_X5_continues : GoodIn wsX5_read wsX5_continues := goodIn_r _ [41, 1, 2, 42, 29, 30, 27, 31, 43, 44, 45, 35, 46, 37, 47, 48, 49, 50, 51, 52, 53, 54, 55, 56, 57, 58, 59, 60, 61, 62, 63, 64, 65, 66, 67, 68, 69, 70, 71, 72, 73, 74, 75, 76, 77, 78, 79, 80, 81, 82, 83, 84, 85, 86, 87, 88, 89, 90, 91, 92, 93, 94, 95, 96, 97, 98, 99, 100, 101, 102, 103, 104, 105, 106, 107, 108, 3, 109, 110, 111, 112, 113, 114, 115, 116, 117, 118, 119, 120, 121, 122, 123, 124, 125, 126, 127, 128, 129, 130, 131, 132, 133, 134, 137, 138, 139, 140, 141, 142, 143, 144] (by decide +kernel) (by decide +kernel)
set_option maxRecDepth 20000 in
theorem gX5_read_X5_continues : GoodIn wsX5_read (wsV RX5 47 RX5 yX5_continues wsX5_continues) := goodIn_app (goodIn_of _ (by decide +kernel)) ggX5_read_X5_continues
theorem dX5_read_0 : decode cX5_read 0 = .ok (.aload_n 0, 1) := by decide +kernel
theorem dX5_read_1 : decode cX5_read 1 = .ok (.iconst 0, 1) := by decide +kernel
theorem dX5_read_2 : decode cX5_read 2 = .ok (.putfield 22, 3) := by decide +kernel
theorem dX5_read_5 : decode cX5_read 5 = .ok (.aload_n 0, 1) := by decide +kernel
theorem dX5_read_6 : decode cX5_read 6 = .ok (.iconst 0, 1) := by decide +kernel
theorem dX5_read_7 : decode cX5_read 7 = .ok (.putfield 26, 3) := by decide +kernel
theorem dX5_read_10 : decode cX5_read 10 = .ok (.aload_n 0, 1) := by decide +kernel
theorem dX5_read_11 : decode cX5_read 11 = .ok (.iconst 0, 1) := by decide +kernel
theorem dX5_read_12 : decode cX5_read 12 = .ok (.putfield 29, 3) := by decide +kernel
theorem dX5_read_15 : decode cX5_read 15 = .ok (.aload_n 1, 1) := by decide +kernel
theorem dX5_read_16 : decode cX5_read 16 = .ok (.iload_n 2, 1) := by decide +kernel
theorem dX5_read_17 : decode cX5_read 17 = .ok (.invokevirtual 33, 3) := by decide +kernel
theorem dX5_read_20 : decode cX5_read 20 = .ok (.istore_n 3, 1) := by decide +kernel
theorem dX5_read_21 : decode cX5_read 21 = .ok (.iconst 0, 1) := by decide +kernel
theorem dX5_read_22 : decode cX5_read 22 = .ok (.istore 4, 2) := by decide +kernel
theorem dX5_read_24 : decode cX5_read 24 = .ok (.iload 4, 2) := by decide +kernel
theorem dX5_read_26 : decode cX5_read 26 = .ok (.iload_n 3, 1) := by decide +kernel
theorem dX5_read_27 : decode cX5_read 27 = .ok (.if_icmp .ge 50, 3) := by decide +kernel
theorem dX5_read_30 : decode cX5_read 30 = .ok (.aload_n 1, 1) := by decide +kernel
theorem dX5_read_31 : decode cX5_read 31 = .ok (.iload_n 2, 1) := by decide +kernel
theorem dX5_read_32 : decode cX5_read 32 = .ok (.iload 4, 2) := by decide +kernel
theorem dX5_read_34 : decode cX5_read 34 = .ok (.invokevirtual 39, 3) := by decide +kernel
theorem dX5_read_37 : decode cX5_read 37 = .ok (.istore 5, 2) := by decide +kernel
theorem dX5_read_39 : decode cX5_read 39 = .ok (.aload_n 0, 1) := by decide +kernel
theorem dX5_read_40 : decode cX5_read 40 = .ok (.getfield 22, 3) := by decide +kernel
theorem dX5_read_43 : decode cX5_read 43 = .ok (.ifCond .ne 12, 3) := by decide +kernel
theorem dX5_read_46 : decode cX5_read 46 = .ok (.aload_n 0, 1) := by decide +kernel
theorem dX5_read_47 : decode cX5_read 47 = .ok (.iload 5, 2) := by decide +kernel
theorem dX5_read_49 : decode cX5_read 49 = .ok (.invokevirtual 43, 3) := by decide +kernel
theorem dX5_read_52 : decode cX5_read 52 = .ok (.goto 9, 3) := by decide +kernel
theorem dX5_read_55 : decode cX5_read 55 = .ok (.aload_n 0, 1) := by decide +kernel
theorem dX5_read_56 : decode cX5_read 56 = .ok (.iload 5, 2) := by decide +kernel
theorem dX5_read_58 : decode cX5_read 58 = .ok (.invokevirtual 47, 3) := by decide +kernel
theorem dX5_read_61 : decode cX5_read 61 = .ok (.istore 6, 2) := by decide +kernel
theorem dX5_read_63 : decode cX5_read 63 = .ok (.iload 6, 2) := by decide +kernel
theorem dX5_read_65 : decode cX5_read 65 = .ok (.ifCond .ne 6, 3) := by decide +kernel
theorem dX5_read_68 : decode cX5_read 68 = .ok (.iload 4, 2) := by decide +kernel
theorem dX5_read_70 : decode cX5_read 70 = .ok (.ireturn, 1) := by decide +kernel
theorem dX5_read_71 : decode cX5_read 71 = .ok (.iinc 4 1, 3) := by decide +kernel
theorem dX5_read_74 : decode cX5_read 74 = .ok (.goto (-50), 3) := by decide +kernel
theorem dX5_read_77 : decode cX5_read 77 = .ok (.aload_n 0, 1) := by decide +kernel
theorem dX5_read_78 : decode cX5_read 78 = .ok (.getfield 22, 3) := by decide +kernel
theorem dX5_read_81 : decode cX5_read 81 = .ok (.ifCond .ne 15, 3) := by decide +kernel
theorem dX5_read_84 : decode cX5_read 84 = .ok (.aload_n 0, 1) := by decide +kernel
theorem dX5_read_85 : decode cX5_read 85 = .ok (.getfield 29, 3) := by decide +kernel
theorem dX5_read_88 : decode cX5_read 88 = .ok (.ifCond .eq 8, 3) := by decide +kernel
theorem dX5_read_91 : decode cX5_read 91 = .ok (.bipush (-9), 2) := by decide +kernel
theorem dX5_read_93 : decode cX5_read 93 = .ok (.goto 4, 3) := by decide +kernel
theorem dX5_read_96 : decode cX5_read 96 = .ok (.iload_n 3, 1) := by decide +kernel
theorem dX5_read_97 : decode cX5_read 97 = .ok (.ireturn, 1) := by decide +kernel
set_option maxRecDepth 20000 in
theorem ggX5_opens_X5_formOf : GoodIn wsX5_opens wsX5_formOf := goodIn_r _ [7] (by decide +kernel) (by decide +kernel)
set_option maxRecDepth 20000 in
theorem gX5_opens_X5_formOf : GoodIn wsX5_opens (va_wsS RX5 50 yX5_formOf wsX5_formOf) := goodIn_app (goodIn_of _ (by decide +kernel)) ggX5_opens_X5_formOf
set_option maxRecDepth 20000 in
theorem ggX5_opens_J0_isEmpty_aae02 : GoodIn wsX5_opens wsJ0_isEmpty_aae02 := goodIn_r _ [12, 13] (by decide +kernel) (by decide +kernel)
set_option maxRecDepth 20000 in
theorem gX5_opens_J0_isEmpty_aae02 : GoodIn wsX5_opens (wsV RX5 54 RJ0 yJ0_isEmpty_aae02 wsJ0_isEmpty_aae02) := goodIn_app (goodIn_of _ (by decide +kernel)) ggX5_opens_J0_isEmpty_aae02
theorem dX5_opens_0 : decode cX5_opens 0 = .ok (.iload_n 1, 1) := by decide +kernel
theorem dX5_opens_1 : decode cX5_opens 1 = .ok (.bipush 32, 2) := by decide +kernel
theorem dX5_opens_3 : decode cX5_opens 3 = .ok (.if_icmp .ne 5, 3) := by decide +kernel
theorem dX5_opens_6 : decode cX5_opens 6 = .ok (.iconst 1, 1) := by decide +kernel
theorem dX5_opens_7 : decode cX5_opens 7 = .ok (.ireturn, 1) := by decide +kernel
theorem dX5_opens_8 : decode cX5_opens 8 = .ok (.iload_n 1, 1) := by decide +kernel
theorem dX5_opens_9 : decode cX5_opens 9 = .ok (.invokestatic 50, 3) := by decide +kernel
theorem dX5_opens_12 : decode cX5_opens 12 = .ok (.invokevirtual 54, 3) := by decide +kernel
theorem dX5_opens_15 : decode cX5_opens 15 = .ok (.ifCond .ne 21, 3) := by decide +kernel
theorem dX5_opens_18 : decode cX5_opens 18 = .ok (.iload_n 1, 1) := by decide +kernel
theorem dX5_opens_19 : decode cX5_opens 19 = .ok (.bipush 110, 2) := by decide +kernel
theorem dX5_opens_21 : decode cX5_opens 21 = .ok (.if_icmp .ne 7, 3) := by decide +kernel
theorem dX5_opens_24 : decode cX5_opens 24 = .ok (.iconst 1, 1) := by decide +kernel
theorem dX5_opens_25 : decode cX5_opens 25 = .ok (.goto 4, 3) := by decide +kernel
theorem dX5_opens_28 : decode cX5_opens 28 = .ok (.iconst 0, 1) := by decide +kernel
theorem dX5_opens_29 : decode cX5_opens 29 = .ok (.aload_n 0, 1) := by decide +kernel
theorem dX5_opens_30 : decode cX5_opens 30 = .ok (.getfield 29, 3) := by decide +kernel
theorem dX5_opens_33 : decode cX5_opens 33 = .ok (.if_icmp .ne 5, 3) := by decide +kernel
theorem dX5_opens_36 : decode cX5_opens 36 = .ok (.iconst 0, 1) := by decide +kernel
theorem dX5_opens_37 : decode cX5_opens 37 = .ok (.ireturn, 1) := by decide +kernel
theorem dX5_opens_38 : decode cX5_opens 38 = .ok (.aload_n 0, 1) := by decide +kernel
theorem dX5_opens_39 : decode cX5_opens 39 = .ok (.iload_n 1, 1) := by decide +kernel
theorem dX5_opens_40 : decode cX5_opens 40 = .ok (.putfield 22, 3) := by decide +kernel
theorem dX5_opens_43 : decode cX5_opens 43 = .ok (.aload_n 0, 1) := by decide +kernel
theorem dX5_opens_44 : decode cX5_opens 44 = .ok (.iconst 0, 1) := by decide +kernel
theorem dX5_opens_45 : decode cX5_opens 45 = .ok (.putfield 26, 3) := by decide +kernel
theorem dX5_opens_48 : decode cX5_opens 48 = .ok (.iconst 1, 1) := by decide +kernel
theorem dX5_opens_49 : decode cX5_opens 49 = .ok (.ireturn, 1) := by decide +kernel
set_option maxRecDepth 20000 in
theorem ggX5_continues_X5_formOf : GoodIn wsX5_continues wsX5_formOf := goodIn_r _ [7] (by decide +kernel) (by decide +kernel)
set_option maxRecDepth 20000 in
theorem gX5_continues_X5_formOf : GoodIn wsX5_continues (va_wsS RX5 50 yX5_formOf wsX5_formOf) := goodIn_app (goodIn_of _ (by decide +kernel)) ggX5_continues_X5_formOf
set_option maxRecDepth 20000 in
theorem ggX5_continues_J0_length_8abf5 : GoodIn wsX5_continues wsJ0_length_8abf5 := goodIn_r _ [12, 13, 14, 15, 16, 11, 17, 18, 19] (by decide +kernel) (by decide +kernel)
set_option maxRecDepth 20000 in
theorem gX5_continues_J0_length_8abf5 : GoodIn wsX5_continues (wsV RX5 60 RJ0 yJ0_length_8abf5 wsJ0_length_8abf5) := goodIn_app (goodIn_of _ (by decide +kernel)) ggX5_continues_J0_length_8abf5
set_option maxRecDepth 20000 in
theorem ggX5_continues_J0_charAt_5068e : GoodIn wsX5_continues wsJ0_charAt_5068e := goodIn_r _ [23, 13, 24, 25, 26, 11, 27, 18, 19, 28, 29, 30, 31, 32, 33, 34, 35, 36, 37, 38, 39, 40, 41, 42, 43, 44, 45, 46, 47, 48, 49, 50, 51, 52, 53, 54, 55, 56] (by decide +kernel) (by decide +kernel)
set_option maxRecDepth 20000 in
theorem gX5_continues_J0_charAt_5068e : GoodIn wsX5_continues (wsV RX5 64 RJ0 yJ0_charAt_5068e wsJ0_charAt_5068e) := goodIn_app (goodIn_of _ (by decide +kernel)) ggX5_continues_J0_charAt_5068e
set_option maxRecDepth 20000 in
theorem ggX5_continues_X5_partOf : GoodIn wsX5_continues wsX5_partOf := goodIn_r _ [60, 61, 62, 63, 64, 65, 66, 67, 68, 69, 70, 6, 71, 2, 3, 98, 99, 100, 101, 102, 103, 104, 105, 106, 107, 108, 109, 110] (by decide +kernel) (by decide +kernel)
set_option maxRecDepth 20000 in
theorem gX5_continues_X5_partOf : GoodIn wsX5_continues (wsV RX5 68 RX5 yX5_partOf wsX5_partOf) := goodIn_app (goodIn_of _ (by decide +kernel)) ggX5_continues_X5_partOf
set_option maxRecDepth 20000 in
theorem ggX5_continues_X5_close : GoodIn wsX5_continues wsX5_close := goodIn_r _ [75, 3, 1, 61, 76, 77, 78, 79, 65, 80, 67, 81, 82, 83, 84, 85, 86, 87, 88, 89, 90, 91, 92, 63, 64, 66, 93, 94, 95, 96, 97, 98, 99, 100, 101, 102, 103, 104, 105, 106, 107, 108, 109, 110] (by decide +kernel) (by decide +kernel)
set_option maxRecDepth 20000 in
theorem gX5_continues_X5_close : GoodIn wsX5_continues (wsV RX5 72 RX5 yX5_close wsX5_close) := goodIn_app (goodIn_of _ (by decide +kernel)) ggX5_continues_X5_close
theorem dX5_continues_0 : decode cX5_continues 0 = .ok (.aload_n 0, 1) := by decide +kernel
theorem dX5_continues_1 : decode cX5_continues 1 = .ok (.getfield 22, 3) := by decide +kernel
theorem dX5_continues_4 : decode cX5_continues 4 = .ok (.invokestatic 50, 3) := by decide +kernel
theorem dX5_continues_7 : decode cX5_continues 7 = .ok (.astore_n 2, 1) := by decide +kernel
theorem dX5_continues_8 : decode cX5_continues 8 = .ok (.aload_n 0, 1) := by decide +kernel
theorem dX5_continues_9 : decode cX5_continues 9 = .ok (.getfield 26, 3) := by decide +kernel
theorem dX5_continues_12 : decode cX5_continues 12 = .ok (.aload_n 2, 1) := by decide +kernel
theorem dX5_continues_13 : decode cX5_continues 13 = .ok (.invokevirtual 60, 3) := by decide +kernel
theorem dX5_continues_16 : decode cX5_continues 16 = .ok (.if_icmp .ge 15, 3) := by decide +kernel
theorem dX5_continues_19 : decode cX5_continues 19 = .ok (.aload_n 0, 1) := by decide +kernel
theorem dX5_continues_20 : decode cX5_continues 20 = .ok (.getfield 26, 3) := by decide +kernel
theorem dX5_continues_23 : decode cX5_continues 23 = .ok (.aload_n 0, 1) := by decide +kernel
theorem dX5_continues_24 : decode cX5_continues 24 = .ok (.getfield 18, 3) := by decide +kernel
theorem dX5_continues_27 : decode cX5_continues 27 = .ok (.arraylength, 1) := by decide +kernel
theorem dX5_continues_28 : decode cX5_continues 28 = .ok (.if_icmp .lt 5, 3) := by decide +kernel
theorem dX5_continues_31 : decode cX5_continues 31 = .ok (.iconst 0, 1) := by decide +kernel
theorem dX5_continues_32 : decode cX5_continues 32 = .ok (.ireturn, 1) := by decide +kernel
theorem dX5_continues_33 : decode cX5_continues 33 = .ok (.aload_n 0, 1) := by decide +kernel
theorem dX5_continues_34 : decode cX5_continues 34 = .ok (.aload_n 2, 1) := by decide +kernel
theorem dX5_continues_35 : decode cX5_continues 35 = .ok (.aload_n 0, 1) := by decide +kernel
theorem dX5_continues_36 : decode cX5_continues 36 = .ok (.getfield 26, 3) := by decide +kernel
theorem dX5_continues_39 : decode cX5_continues 39 = .ok (.invokevirtual 64, 3) := by decide +kernel
theorem dX5_continues_42 : decode cX5_continues 42 = .ok (.iload_n 1, 1) := by decide +kernel
theorem dX5_continues_43 : decode cX5_continues 43 = .ok (.invokevirtual 68, 3) := by decide +kernel
theorem dX5_continues_46 : decode cX5_continues 46 = .ok (.istore_n 3, 1) := by decide +kernel
theorem dX5_continues_47 : decode cX5_continues 47 = .ok (.iload_n 3, 1) := by decide +kernel
theorem dX5_continues_48 : decode cX5_continues 48 = .ok (.bipush (-9), 2) := by decide +kernel
theorem dX5_continues_50 : decode cX5_continues 50 = .ok (.if_icmp .ne 5, 3) := by decide +kernel
theorem dX5_continues_53 : decode cX5_continues 53 = .ok (.iconst 0, 1) := by decide +kernel
theorem dX5_continues_54 : decode cX5_continues 54 = .ok (.ireturn, 1) := by decide +kernel
theorem dX5_continues_55 : decode cX5_continues 55 = .ok (.aload_n 0, 1) := by decide +kernel
theorem dX5_continues_56 : decode cX5_continues 56 = .ok (.getfield 18, 3) := by decide +kernel
theorem dX5_continues_59 : decode cX5_continues 59 = .ok (.aload_n 0, 1) := by decide +kernel
theorem dX5_continues_60 : decode cX5_continues 60 = .ok (.getfield 26, 3) := by decide +kernel
theorem dX5_continues_63 : decode cX5_continues 63 = .ok (.iload_n 3, 1) := by decide +kernel
theorem dX5_continues_64 : decode cX5_continues 64 = .ok (.iastore, 1) := by decide +kernel
theorem dX5_continues_65 : decode cX5_continues 65 = .ok (.aload_n 0, 1) := by decide +kernel
theorem dX5_continues_66 : decode cX5_continues 66 = .ok (.dup, 1) := by decide +kernel
theorem dX5_continues_67 : decode cX5_continues 67 = .ok (.getfield 26, 3) := by decide +kernel
theorem dX5_continues_70 : decode cX5_continues 70 = .ok (.iconst 1, 1) := by decide +kernel
theorem dX5_continues_71 : decode cX5_continues 71 = .ok (.iadd, 1) := by decide +kernel
theorem dX5_continues_72 : decode cX5_continues 72 = .ok (.putfield 26, 3) := by decide +kernel
theorem dX5_continues_75 : decode cX5_continues 75 = .ok (.aload_n 0, 1) := by decide +kernel
theorem dX5_continues_76 : decode cX5_continues 76 = .ok (.getfield 26, 3) := by decide +kernel
theorem dX5_continues_79 : decode cX5_continues 79 = .ok (.aload_n 2, 1) := by decide +kernel
theorem dX5_continues_80 : decode cX5_continues 80 = .ok (.invokevirtual 60, 3) := by decide +kernel
theorem dX5_continues_83 : decode cX5_continues 83 = .ok (.if_icmp .ne 7, 3) := by decide +kernel
theorem dX5_continues_86 : decode cX5_continues 86 = .ok (.aload_n 0, 1) := by decide +kernel
theorem dX5_continues_87 : decode cX5_continues 87 = .ok (.invokevirtual 72, 3) := by decide +kernel
theorem dX5_continues_90 : decode cX5_continues 90 = .ok (.iconst 1, 1) := by decide +kernel
theorem dX5_continues_91 : decode cX5_continues 91 = .ok (.ireturn, 1) := by decide +kernel
theorem dX5_formOf_0 : decode cX5_formOf 0 = .ok (.iload_n 0, 1) := by decide +kernel
theorem dX5_formOf_1 : decode cX5_formOf 1 = .ok (.tableswitch 106 98 116 #[100, 106, 106, 106, 106, 106, 106, 94, 106, 97, 103, 106, 91, 106, 106, 97, 106, 103, 100], 91) := by decide +kernel
theorem dX5_formOf_92 : decode cX5_formOf 92 = .ok (.ldc 75, 2) := by decide +kernel
theorem dX5_formOf_94 : decode cX5_formOf 94 = .ok (.areturn, 1) := by decide +kernel
theorem dX5_formOf_95 : decode cX5_formOf 95 = .ok (.ldc 77, 2) := by decide +kernel
theorem dX5_formOf_97 : decode cX5_formOf 97 = .ok (.areturn, 1) := by decide +kernel
theorem dX5_formOf_98 : decode cX5_formOf 98 = .ok (.ldc 79, 2) := by decide +kernel
theorem dX5_formOf_100 : decode cX5_formOf 100 = .ok (.areturn, 1) := by decide +kernel
theorem dX5_formOf_101 : decode cX5_formOf 101 = .ok (.ldc 81, 2) := by decide +kernel
theorem dX5_formOf_103 : decode cX5_formOf 103 = .ok (.areturn, 1) := by decide +kernel
theorem dX5_formOf_104 : decode cX5_formOf 104 = .ok (.ldc 83, 2) := by decide +kernel
theorem dX5_formOf_106 : decode cX5_formOf 106 = .ok (.areturn, 1) := by decide +kernel
theorem dX5_formOf_107 : decode cX5_formOf 107 = .ok (.ldc 85, 2) := by decide +kernel
theorem dX5_formOf_109 : decode cX5_formOf 109 = .ok (.areturn, 1) := by decide +kernel
set_option maxRecDepth 20000 in
theorem ggX5_partOf_X2_isCell : GoodIn wsX5_partOf wsX2_isCell := goodIn_r _ [6, 7, 20, 21, 22, 23, 24, 25, 26, 27] (by decide +kernel) (by decide +kernel)
set_option maxRecDepth 20000 in
theorem gX5_partOf_X2_isCell : GoodIn wsX5_partOf (wsV RX5 87 RX2 yX2_isCell wsX2_isCell) := goodIn_app (goodIn_of _ (by decide +kernel)) ggX5_partOf_X2_isCell
set_option maxRecDepth 20000 in
theorem ggX5_partOf_X5_isNew : GoodIn wsX5_partOf wsX5_isNew := goodIn_r _ [12, 13, 14, 15, 16, 17, 18, 19] (by decide +kernel) (by decide +kernel)
set_option maxRecDepth 20000 in
theorem gX5_partOf_X5_isNew : GoodIn wsX5_partOf (wsV RX5 90 RX5 yX5_isNew wsX5_isNew) := goodIn_app (goodIn_of _ (by decide +kernel)) ggX5_partOf_X5_isNew
theorem dX5_partOf_0 : decode cX5_partOf 0 = .ok (.iload_n 2, 1) := by decide +kernel
theorem dX5_partOf_1 : decode cX5_partOf 1 = .ok (.bipush 48, 2) := by decide +kernel
theorem dX5_partOf_3 : decode cX5_partOf 3 = .ok (.isub, 1) := by decide +kernel
theorem dX5_partOf_4 : decode cX5_partOf 4 = .ok (.istore_n 3, 1) := by decide +kernel
theorem dX5_partOf_5 : decode cX5_partOf 5 = .ok (.iload_n 1, 1) := by decide +kernel
theorem dX5_partOf_6 : decode cX5_partOf 6 = .ok (.bipush 99, 2) := by decide +kernel
theorem dX5_partOf_8 : decode cX5_partOf 8 = .ok (.if_icmp .ne 21, 3) := by decide +kernel
theorem dX5_partOf_11 : decode cX5_partOf 11 = .ok (.iload_n 3, 1) := by decide +kernel
theorem dX5_partOf_12 : decode cX5_partOf 12 = .ok (.iconst 2, 1) := by decide +kernel
theorem dX5_partOf_13 : decode cX5_partOf 13 = .ok (.if_icmp .lt 13, 3) := by decide +kernel
theorem dX5_partOf_16 : decode cX5_partOf 16 = .ok (.iload_n 3, 1) := by decide +kernel
theorem dX5_partOf_17 : decode cX5_partOf 17 = .ok (.bipush 8, 2) := by decide +kernel
theorem dX5_partOf_19 : decode cX5_partOf 19 = .ok (.if_icmp .gt 7, 3) := by decide +kernel
theorem dX5_partOf_22 : decode cX5_partOf 22 = .ok (.iload_n 3, 1) := by decide +kernel
theorem dX5_partOf_23 : decode cX5_partOf 23 = .ok (.goto 5, 3) := by decide +kernel
theorem dX5_partOf_26 : decode cX5_partOf 26 = .ok (.bipush (-9), 2) := by decide +kernel
theorem dX5_partOf_28 : decode cX5_partOf 28 = .ok (.ireturn, 1) := by decide +kernel
theorem dX5_partOf_29 : decode cX5_partOf 29 = .ok (.iload_n 1, 1) := by decide +kernel
theorem dX5_partOf_30 : decode cX5_partOf 30 = .ok (.bipush 102, 2) := by decide +kernel
theorem dX5_partOf_32 : decode cX5_partOf 32 = .ok (.if_icmp .ne 20, 3) := by decide +kernel
theorem dX5_partOf_35 : decode cX5_partOf 35 = .ok (.iload_n 3, 1) := by decide +kernel
theorem dX5_partOf_36 : decode cX5_partOf 36 = .ok (.ifCond .lt 13, 3) := by decide +kernel
theorem dX5_partOf_39 : decode cX5_partOf 39 = .ok (.iload_n 3, 1) := by decide +kernel
theorem dX5_partOf_40 : decode cX5_partOf 40 = .ok (.bipush 9, 2) := by decide +kernel
theorem dX5_partOf_42 : decode cX5_partOf 42 = .ok (.if_icmp .gt 7, 3) := by decide +kernel
theorem dX5_partOf_45 : decode cX5_partOf 45 = .ok (.iload_n 3, 1) := by decide +kernel
theorem dX5_partOf_46 : decode cX5_partOf 46 = .ok (.goto 5, 3) := by decide +kernel
theorem dX5_partOf_49 : decode cX5_partOf 49 = .ok (.bipush (-9), 2) := by decide +kernel
theorem dX5_partOf_51 : decode cX5_partOf 51 = .ok (.ireturn, 1) := by decide +kernel
theorem dX5_partOf_52 : decode cX5_partOf 52 = .ok (.iload_n 2, 1) := by decide +kernel
theorem dX5_partOf_53 : decode cX5_partOf 53 = .ok (.bipush 65, 2) := by decide +kernel
theorem dX5_partOf_55 : decode cX5_partOf 55 = .ok (.isub, 1) := by decide +kernel
theorem dX5_partOf_56 : decode cX5_partOf 56 = .ok (.istore 4, 2) := by decide +kernel
theorem dX5_partOf_58 : decode cX5_partOf 58 = .ok (.aload_n 0, 1) := by decide +kernel
theorem dX5_partOf_59 : decode cX5_partOf 59 = .ok (.getfield 12, 3) := by decide +kernel
theorem dX5_partOf_62 : decode cX5_partOf 62 = .ok (.iload 4, 2) := by decide +kernel
theorem dX5_partOf_64 : decode cX5_partOf 64 = .ok (.invokevirtual 87, 3) := by decide +kernel
theorem dX5_partOf_67 : decode cX5_partOf 67 = .ok (.ifCond .eq 17, 3) := by decide +kernel
theorem dX5_partOf_70 : decode cX5_partOf 70 = .ok (.aload_n 0, 1) := by decide +kernel
theorem dX5_partOf_71 : decode cX5_partOf 71 = .ok (.iload 4, 2) := by decide +kernel
theorem dX5_partOf_73 : decode cX5_partOf 73 = .ok (.invokevirtual 90, 3) := by decide +kernel
theorem dX5_partOf_76 : decode cX5_partOf 76 = .ok (.ifCond .eq 8, 3) := by decide +kernel
theorem dX5_partOf_79 : decode cX5_partOf 79 = .ok (.iload 4, 2) := by decide +kernel
theorem dX5_partOf_81 : decode cX5_partOf 81 = .ok (.goto 5, 3) := by decide +kernel
theorem dX5_partOf_84 : decode cX5_partOf 84 = .ok (.bipush (-9), 2) := by decide +kernel
theorem dX5_partOf_86 : decode cX5_partOf 86 = .ok (.ireturn, 1) := by decide +kernel
theorem dX5_isNew_0 : decode cX5_isNew 0 = .ok (.iconst 0, 1) := by decide +kernel
theorem dX5_isNew_1 : decode cX5_isNew 1 = .ok (.istore_n 2, 1) := by decide +kernel
theorem dX5_isNew_2 : decode cX5_isNew 2 = .ok (.iload_n 2, 1) := by decide +kernel
theorem dX5_isNew_3 : decode cX5_isNew 3 = .ok (.aload_n 0, 1) := by decide +kernel
theorem dX5_isNew_4 : decode cX5_isNew 4 = .ok (.getfield 26, 3) := by decide +kernel
theorem dX5_isNew_7 : decode cX5_isNew 7 = .ok (.if_icmp .ge 30, 3) := by decide +kernel
theorem dX5_isNew_10 : decode cX5_isNew 10 = .ok (.iload_n 2, 1) := by decide +kernel
theorem dX5_isNew_11 : decode cX5_isNew 11 = .ok (.aload_n 0, 1) := by decide +kernel
theorem dX5_isNew_12 : decode cX5_isNew 12 = .ok (.getfield 18, 3) := by decide +kernel
theorem dX5_isNew_15 : decode cX5_isNew 15 = .ok (.arraylength, 1) := by decide +kernel
theorem dX5_isNew_16 : decode cX5_isNew 16 = .ok (.if_icmp .ge 21, 3) := by decide +kernel
theorem dX5_isNew_19 : decode cX5_isNew 19 = .ok (.aload_n 0, 1) := by decide +kernel
theorem dX5_isNew_20 : decode cX5_isNew 20 = .ok (.getfield 18, 3) := by decide +kernel
theorem dX5_isNew_23 : decode cX5_isNew 23 = .ok (.iload_n 2, 1) := by decide +kernel
theorem dX5_isNew_24 : decode cX5_isNew 24 = .ok (.iaload, 1) := by decide +kernel
theorem dX5_isNew_25 : decode cX5_isNew 25 = .ok (.iload_n 1, 1) := by decide +kernel
theorem dX5_isNew_26 : decode cX5_isNew 26 = .ok (.if_icmp .ne 5, 3) := by decide +kernel
theorem dX5_isNew_29 : decode cX5_isNew 29 = .ok (.iconst 0, 1) := by decide +kernel
theorem dX5_isNew_30 : decode cX5_isNew 30 = .ok (.ireturn, 1) := by decide +kernel
theorem dX5_isNew_31 : decode cX5_isNew 31 = .ok (.iinc 2 1, 3) := by decide +kernel
theorem dX5_isNew_34 : decode cX5_isNew 34 = .ok (.goto (-32), 3) := by decide +kernel
theorem dX5_isNew_37 : decode cX5_isNew 37 = .ok (.iconst 1, 1) := by decide +kernel
theorem dX5_isNew_38 : decode cX5_isNew 38 = .ok (.ireturn, 1) := by decide +kernel
set_option maxRecDepth 20000 in
theorem ggX5_close_X2_build : GoodIn wsX5_close wsX2_build := goodIn_r _ [9, 10, 11, 12, 13, 14, 15, 16, 8, 17, 18, 19, 20, 21, 22, 23, 24, 25, 36, 37, 38, 39, 40, 41, 42, 43] (by decide +kernel) (by decide +kernel)
set_option maxRecDepth 20000 in
theorem gX5_close_X2_build : GoodIn wsX5_close (wsV RX5 93 RX2 yX2_build wsX2_build) := goodIn_app (goodIn_of _ (by decide +kernel)) ggX5_close_X2_build
set_option maxRecDepth 20000 in
theorem ggX5_close_X2_setDoor : GoodIn wsX5_close wsX2_setDoor := goodIn_r _ [17, 18, 19, 20, 21, 11, 12, 22, 23, 24, 8, 25, 10, 36, 37, 38, 39, 40, 41, 42, 43] (by decide +kernel) (by decide +kernel)
set_option maxRecDepth 20000 in
theorem gX5_close_X2_setDoor : GoodIn wsX5_close (wsV RX5 97 RX2 yX2_setDoor wsX2_setDoor) := goodIn_app (goodIn_of _ (by decide +kernel)) ggX5_close_X2_setDoor
set_option maxRecDepth 20000 in
theorem ggX5_close_X2_setQuarrel : GoodIn wsX5_close wsX2_setQuarrel := goodIn_r _ [30, 13, 22, 23, 24, 8, 25, 10, 36, 37, 38, 39, 40, 41, 42, 43] (by decide +kernel) (by decide +kernel)
set_option maxRecDepth 20000 in
theorem gX5_close_X2_setQuarrel : GoodIn wsX5_close (wsV RX5 101 RX2 yX2_setQuarrel wsX2_setQuarrel) := goodIn_app (goodIn_of _ (by decide +kernel)) ggX5_close_X2_setQuarrel
theorem dX5_close_0 : decode cX5_close 0 = .ok (.aload_n 0, 1) := by decide +kernel
theorem dX5_close_1 : decode cX5_close 1 = .ok (.getfield 18, 3) := by decide +kernel
theorem dX5_close_4 : decode cX5_close 4 = .ok (.iconst 0, 1) := by decide +kernel
theorem dX5_close_5 : decode cX5_close 5 = .ok (.iaload, 1) := by decide +kernel
theorem dX5_close_6 : decode cX5_close 6 = .ok (.istore_n 1, 1) := by decide +kernel
theorem dX5_close_7 : decode cX5_close 7 = .ok (.aload_n 0, 1) := by decide +kernel
theorem dX5_close_8 : decode cX5_close 8 = .ok (.getfield 18, 3) := by decide +kernel
theorem dX5_close_11 : decode cX5_close 11 = .ok (.iconst 1, 1) := by decide +kernel
theorem dX5_close_12 : decode cX5_close 12 = .ok (.iaload, 1) := by decide +kernel
theorem dX5_close_13 : decode cX5_close 13 = .ok (.istore_n 2, 1) := by decide +kernel
theorem dX5_close_14 : decode cX5_close 14 = .ok (.aload_n 0, 1) := by decide +kernel
theorem dX5_close_15 : decode cX5_close 15 = .ok (.getfield 18, 3) := by decide +kernel
theorem dX5_close_18 : decode cX5_close 18 = .ok (.iconst 2, 1) := by decide +kernel
theorem dX5_close_19 : decode cX5_close 19 = .ok (.iaload, 1) := by decide +kernel
theorem dX5_close_20 : decode cX5_close 20 = .ok (.istore_n 3, 1) := by decide +kernel
theorem dX5_close_21 : decode cX5_close 21 = .ok (.aload_n 0, 1) := by decide +kernel
theorem dX5_close_22 : decode cX5_close 22 = .ok (.getfield 22, 3) := by decide +kernel
theorem dX5_close_25 : decode cX5_close 25 = .ok (.tableswitch 202 98 116 #[155, 202, 202, 202, 202, 202, 202, 107, 202, 124, 170, 202, 91, 202, 202, 202, 202, 186, 140], 91) := by decide +kernel
theorem dX5_close_116 : decode cX5_close 116 = .ok (.aload_n 0, 1) := by decide +kernel
theorem dX5_close_117 : decode cX5_close 117 = .ok (.getfield 12, 3) := by decide +kernel
theorem dX5_close_120 : decode cX5_close 120 = .ok (.iload_n 1, 1) := by decide +kernel
theorem dX5_close_121 : decode cX5_close 121 = .ok (.invokevirtual 93, 3) := by decide +kernel
theorem dX5_close_124 : decode cX5_close 124 = .ok (.aload_n 0, 1) := by decide +kernel
theorem dX5_close_125 : decode cX5_close 125 = .ok (.iconst 1, 1) := by decide +kernel
theorem dX5_close_126 : decode cX5_close 126 = .ok (.putfield 29, 3) := by decide +kernel
theorem dX5_close_129 : decode cX5_close 129 = .ok (.goto 108, 3) := by decide +kernel
theorem dX5_close_132 : decode cX5_close 132 = .ok (.aload_n 0, 1) := by decide +kernel
theorem dX5_close_133 : decode cX5_close 133 = .ok (.getfield 12, 3) := by decide +kernel
theorem dX5_close_136 : decode cX5_close 136 = .ok (.iload_n 1, 1) := by decide +kernel
theorem dX5_close_137 : decode cX5_close 137 = .ok (.iconst 2, 1) := by decide +kernel
theorem dX5_close_138 : decode cX5_close 138 = .ok (.bipush (-9), 2) := by decide +kernel
theorem dX5_close_140 : decode cX5_close 140 = .ok (.bipush (-9), 2) := by decide +kernel
theorem dX5_close_142 : decode cX5_close 142 = .ok (.iconst 0, 1) := by decide +kernel
theorem dX5_close_143 : decode cX5_close 143 = .ok (.invokevirtual 97, 3) := by decide +kernel
theorem dX5_close_146 : decode cX5_close 146 = .ok (.goto 91, 3) := by decide +kernel
theorem dX5_close_149 : decode cX5_close 149 = .ok (.aload_n 0, 1) := by decide +kernel
theorem dX5_close_150 : decode cX5_close 150 = .ok (.getfield 12, 3) := by decide +kernel
theorem dX5_close_153 : decode cX5_close 153 = .ok (.iload_n 1, 1) := by decide +kernel
theorem dX5_close_154 : decode cX5_close 154 = .ok (.iconst 0, 1) := by decide +kernel
theorem dX5_close_155 : decode cX5_close 155 = .ok (.iload_n 2, 1) := by decide +kernel
theorem dX5_close_156 : decode cX5_close 156 = .ok (.bipush (-9), 2) := by decide +kernel
theorem dX5_close_158 : decode cX5_close 158 = .ok (.iconst 0, 1) := by decide +kernel
theorem dX5_close_159 : decode cX5_close 159 = .ok (.invokevirtual 97, 3) := by decide +kernel
theorem dX5_close_162 : decode cX5_close 162 = .ok (.goto 75, 3) := by decide +kernel
theorem dX5_close_165 : decode cX5_close 165 = .ok (.aload_n 0, 1) := by decide +kernel
theorem dX5_close_166 : decode cX5_close 166 = .ok (.getfield 12, 3) := by decide +kernel
theorem dX5_close_169 : decode cX5_close 169 = .ok (.iload_n 1, 1) := by decide +kernel
theorem dX5_close_170 : decode cX5_close 170 = .ok (.iconst 1, 1) := by decide +kernel
theorem dX5_close_171 : decode cX5_close 171 = .ok (.iload_n 2, 1) := by decide +kernel
theorem dX5_close_172 : decode cX5_close 172 = .ok (.iload_n 3, 1) := by decide +kernel
theorem dX5_close_173 : decode cX5_close 173 = .ok (.iconst 0, 1) := by decide +kernel
theorem dX5_close_174 : decode cX5_close 174 = .ok (.invokevirtual 97, 3) := by decide +kernel
theorem dX5_close_177 : decode cX5_close 177 = .ok (.goto 60, 3) := by decide +kernel
theorem dX5_close_180 : decode cX5_close 180 = .ok (.aload_n 0, 1) := by decide +kernel
theorem dX5_close_181 : decode cX5_close 181 = .ok (.getfield 12, 3) := by decide +kernel
theorem dX5_close_184 : decode cX5_close 184 = .ok (.iload_n 1, 1) := by decide +kernel
theorem dX5_close_185 : decode cX5_close 185 = .ok (.iconst 5, 1) := by decide +kernel
theorem dX5_close_186 : decode cX5_close 186 = .ok (.iload_n 2, 1) := by decide +kernel
theorem dX5_close_187 : decode cX5_close 187 = .ok (.iload_n 3, 1) := by decide +kernel
theorem dX5_close_188 : decode cX5_close 188 = .ok (.iconst 0, 1) := by decide +kernel
theorem dX5_close_189 : decode cX5_close 189 = .ok (.invokevirtual 97, 3) := by decide +kernel
theorem dX5_close_192 : decode cX5_close 192 = .ok (.goto 45, 3) := by decide +kernel
theorem dX5_close_195 : decode cX5_close 195 = .ok (.aload_n 0, 1) := by decide +kernel
theorem dX5_close_196 : decode cX5_close 196 = .ok (.getfield 12, 3) := by decide +kernel
theorem dX5_close_199 : decode cX5_close 199 = .ok (.iload_n 1, 1) := by decide +kernel
theorem dX5_close_200 : decode cX5_close 200 = .ok (.iconst 3, 1) := by decide +kernel
theorem dX5_close_201 : decode cX5_close 201 = .ok (.iload_n 2, 1) := by decide +kernel
theorem dX5_close_202 : decode cX5_close 202 = .ok (.bipush (-9), 2) := by decide +kernel
theorem dX5_close_204 : decode cX5_close 204 = .ok (.iload_n 3, 1) := by decide +kernel
theorem dX5_close_205 : decode cX5_close 205 = .ok (.invokevirtual 97, 3) := by decide +kernel
theorem dX5_close_208 : decode cX5_close 208 = .ok (.goto 29, 3) := by decide +kernel
theorem dX5_close_211 : decode cX5_close 211 = .ok (.aload_n 0, 1) := by decide +kernel
theorem dX5_close_212 : decode cX5_close 212 = .ok (.getfield 12, 3) := by decide +kernel
theorem dX5_close_215 : decode cX5_close 215 = .ok (.iload_n 1, 1) := by decide +kernel
theorem dX5_close_216 : decode cX5_close 216 = .ok (.iconst 4, 1) := by decide +kernel
theorem dX5_close_217 : decode cX5_close 217 = .ok (.iload_n 2, 1) := by decide +kernel
theorem dX5_close_218 : decode cX5_close 218 = .ok (.bipush (-9), 2) := by decide +kernel
theorem dX5_close_220 : decode cX5_close 220 = .ok (.iload_n 3, 1) := by decide +kernel
theorem dX5_close_221 : decode cX5_close 221 = .ok (.invokevirtual 97, 3) := by decide +kernel
theorem dX5_close_224 : decode cX5_close 224 = .ok (.goto 13, 3) := by decide +kernel
theorem dX5_close_227 : decode cX5_close 227 = .ok (.aload_n 0, 1) := by decide +kernel
theorem dX5_close_228 : decode cX5_close 228 = .ok (.getfield 12, 3) := by decide +kernel
theorem dX5_close_231 : decode cX5_close 231 = .ok (.iload_n 1, 1) := by decide +kernel
theorem dX5_close_232 : decode cX5_close 232 = .ok (.iload_n 2, 1) := by decide +kernel
theorem dX5_close_233 : decode cX5_close 233 = .ok (.iconst 1, 1) := by decide +kernel
theorem dX5_close_234 : decode cX5_close 234 = .ok (.invokevirtual 101, 3) := by decide +kernel
theorem dX5_close_237 : decode cX5_close 237 = .ok (.aload_n 0, 1) := by decide +kernel
theorem dX5_close_238 : decode cX5_close 238 = .ok (.iconst 0, 1) := by decide +kernel
theorem dX5_close_239 : decode cX5_close 239 = .ok (.putfield 22, 3) := by decide +kernel
theorem dX5_close_242 : decode cX5_close 242 = .ok (.return_, 1) := by decide +kernel
theorem dX6_init_0 : decode cX6_init 0 = .ok (.aload_n 0, 1) := by decide +kernel
theorem dX6_init_1 : decode cX6_init 1 = .ok (.invokespecial 3, 3) := by decide +kernel
theorem dX6_init_4 : decode cX6_init 4 = .ok (.aload_n 0, 1) := by decide +kernel
theorem dX6_init_5 : decode cX6_init 5 = .ok (.bipush 6, 2) := by decide +kernel
theorem dX6_init_7 : decode cX6_init 7 = .ok (.bipush 60, 2) := by decide +kernel
theorem dX6_init_9 : decode cX6_init 9 = .ok (.multianewarray 9 2, 4) := by decide +kernel
theorem dX6_init_13 : decode cX6_init 13 = .ok (.putfield 11, 3) := by decide +kernel
theorem dX6_init_16 : decode cX6_init 16 = .ok (.aload_n 0, 1) := by decide +kernel
theorem dX6_init_17 : decode cX6_init 17 = .ok (.bipush 6, 2) := by decide +kernel
theorem dX6_init_19 : decode cX6_init 19 = .ok (.newarray .int, 2) := by decide +kernel
theorem dX6_init_21 : decode cX6_init 21 = .ok (.putfield 16, 3) := by decide +kernel
theorem dX6_init_24 : decode cX6_init 24 = .ok (.iconst 0, 1) := by decide +kernel
theorem dX6_init_25 : decode cX6_init 25 = .ok (.istore_n 1, 1) := by decide +kernel
theorem dX6_init_26 : decode cX6_init 26 = .ok (.iload_n 1, 1) := by decide +kernel
theorem dX6_init_27 : decode cX6_init 27 = .ok (.bipush 6, 2) := by decide +kernel
theorem dX6_init_29 : decode cX6_init 29 = .ok (.if_icmp .ge 16, 3) := by decide +kernel
theorem dX6_init_32 : decode cX6_init 32 = .ok (.aload_n 0, 1) := by decide +kernel
theorem dX6_init_33 : decode cX6_init 33 = .ok (.getfield 16, 3) := by decide +kernel
theorem dX6_init_36 : decode cX6_init 36 = .ok (.iload_n 1, 1) := by decide +kernel
theorem dX6_init_37 : decode cX6_init 37 = .ok (.iconst (-1), 1) := by decide +kernel
theorem dX6_init_38 : decode cX6_init 38 = .ok (.iastore, 1) := by decide +kernel
theorem dX6_init_39 : decode cX6_init 39 = .ok (.iinc 1 1, 3) := by decide +kernel
theorem dX6_init_42 : decode cX6_init 42 = .ok (.goto (-16), 3) := by decide +kernel
theorem dX6_init_45 : decode cX6_init 45 = .ok (.return_, 1) := by decide +kernel
theorem dX6_isNumber_0 : decode cX6_isNumber 0 = .ok (.iload_n 1, 1) := by decide +kernel
theorem dX6_isNumber_1 : decode cX6_isNumber 1 = .ok (.ifCond .lt 13, 3) := by decide +kernel
theorem dX6_isNumber_4 : decode cX6_isNumber 4 = .ok (.iload_n 1, 1) := by decide +kernel
theorem dX6_isNumber_5 : decode cX6_isNumber 5 = .ok (.bipush 6, 2) := by decide +kernel
theorem dX6_isNumber_7 : decode cX6_isNumber 7 = .ok (.if_icmp .ge 7, 3) := by decide +kernel
theorem dX6_isNumber_10 : decode cX6_isNumber 10 = .ok (.iconst 1, 1) := by decide +kernel
theorem dX6_isNumber_11 : decode cX6_isNumber 11 = .ok (.goto 4, 3) := by decide +kernel
theorem dX6_isNumber_14 : decode cX6_isNumber 14 = .ok (.iconst 0, 1) := by decide +kernel
theorem dX6_isNumber_15 : decode cX6_isNumber 15 = .ok (.ireturn, 1) := by decide +kernel
set_option maxRecDepth 20000 in
theorem ggX6_sizeOf_X6_isNumber : GoodIn wsX6_sizeOf wsX6_isNumber := goodIn_r _ [6] (by decide +kernel) (by decide +kernel)
set_option maxRecDepth 20000 in
theorem gX6_sizeOf_X6_isNumber : GoodIn wsX6_sizeOf (wsV RX6 20 RX6 yX6_isNumber wsX6_isNumber) := goodIn_app (goodIn_of _ (by decide +kernel)) ggX6_sizeOf_X6_isNumber
theorem dX6_sizeOf_0 : decode cX6_sizeOf 0 = .ok (.aload_n 0, 1) := by decide +kernel
theorem dX6_sizeOf_1 : decode cX6_sizeOf 1 = .ok (.iload_n 1, 1) := by decide +kernel
theorem dX6_sizeOf_2 : decode cX6_sizeOf 2 = .ok (.invokevirtual 20, 3) := by decide +kernel
theorem dX6_sizeOf_5 : decode cX6_sizeOf 5 = .ok (.ifCond .eq 12, 3) := by decide +kernel
theorem dX6_sizeOf_8 : decode cX6_sizeOf 8 = .ok (.aload_n 0, 1) := by decide +kernel
theorem dX6_sizeOf_9 : decode cX6_sizeOf 9 = .ok (.getfield 16, 3) := by decide +kernel
theorem dX6_sizeOf_12 : decode cX6_sizeOf 12 = .ok (.iload_n 1, 1) := by decide +kernel
theorem dX6_sizeOf_13 : decode cX6_sizeOf 13 = .ok (.iaload, 1) := by decide +kernel
theorem dX6_sizeOf_14 : decode cX6_sizeOf 14 = .ok (.goto 4, 3) := by decide +kernel
theorem dX6_sizeOf_17 : decode cX6_sizeOf 17 = .ok (.iconst (-1), 1) := by decide +kernel
theorem dX6_sizeOf_18 : decode cX6_sizeOf 18 = .ok (.ireturn, 1) := by decide +kernel
set_option maxRecDepth 20000 in
theorem ggX6_isThere_X6_sizeOf : GoodIn wsX6_isThere wsX6_sizeOf := goodIn_r _ [5, 6, 7, 8, 9, 4, 10, 11, 12] (by decide +kernel) (by decide +kernel)
set_option maxRecDepth 20000 in
theorem gX6_isThere_X6_sizeOf : GoodIn wsX6_isThere (wsV RX6 24 RX6 yX6_sizeOf wsX6_sizeOf) := goodIn_app (goodIn_of _ (by decide +kernel)) ggX6_isThere_X6_sizeOf
theorem dX6_isThere_0 : decode cX6_isThere 0 = .ok (.aload_n 0, 1) := by decide +kernel
theorem dX6_isThere_1 : decode cX6_isThere 1 = .ok (.iload_n 1, 1) := by decide +kernel
theorem dX6_isThere_2 : decode cX6_isThere 2 = .ok (.invokevirtual 24, 3) := by decide +kernel
theorem dX6_isThere_5 : decode cX6_isThere 5 = .ok (.iconst (-1), 1) := by decide +kernel
theorem dX6_isThere_6 : decode cX6_isThere 6 = .ok (.if_icmp .eq 7, 3) := by decide +kernel
theorem dX6_isThere_9 : decode cX6_isThere 9 = .ok (.iconst 1, 1) := by decide +kernel
theorem dX6_isThere_10 : decode cX6_isThere 10 = .ok (.goto 4, 3) := by decide +kernel
theorem dX6_isThere_13 : decode cX6_isThere 13 = .ok (.iconst 0, 1) := by decide +kernel
theorem dX6_isThere_14 : decode cX6_isThere 14 = .ok (.ireturn, 1) := by decide +kernel
set_option maxRecDepth 20000 in
theorem ggX6_isPlace_X6_sizeOf : GoodIn wsX6_isPlace wsX6_sizeOf := goodIn_r _ [5, 6, 7, 8, 9, 4, 10, 11, 12] (by decide +kernel) (by decide +kernel)
set_option maxRecDepth 20000 in
theorem gX6_isPlace_X6_sizeOf : GoodIn wsX6_isPlace (wsV RX6 24 RX6 yX6_sizeOf wsX6_sizeOf) := goodIn_app (goodIn_of _ (by decide +kernel)) ggX6_isPlace_X6_sizeOf
theorem dX6_isPlace_0 : decode cX6_isPlace 0 = .ok (.iload_n 2, 1) := by decide +kernel
theorem dX6_isPlace_1 : decode cX6_isPlace 1 = .ok (.ifCond .lt 16, 3) := by decide +kernel
theorem dX6_isPlace_4 : decode cX6_isPlace 4 = .ok (.iload_n 2, 1) := by decide +kernel
theorem dX6_isPlace_5 : decode cX6_isPlace 5 = .ok (.aload_n 0, 1) := by decide +kernel
theorem dX6_isPlace_6 : decode cX6_isPlace 6 = .ok (.iload_n 1, 1) := by decide +kernel
theorem dX6_isPlace_7 : decode cX6_isPlace 7 = .ok (.invokevirtual 24, 3) := by decide +kernel
theorem dX6_isPlace_10 : decode cX6_isPlace 10 = .ok (.if_icmp .ge 7, 3) := by decide +kernel
theorem dX6_isPlace_13 : decode cX6_isPlace 13 = .ok (.iconst 1, 1) := by decide +kernel
theorem dX6_isPlace_14 : decode cX6_isPlace 14 = .ok (.goto 4, 3) := by decide +kernel
theorem dX6_isPlace_17 : decode cX6_isPlace 17 = .ok (.iconst 0, 1) := by decide +kernel
theorem dX6_isPlace_18 : decode cX6_isPlace 18 = .ok (.ireturn, 1) := by decide +kernel
set_option maxRecDepth 20000 in
theorem ggX6_get_X6_isPlace : GoodIn wsX6_get wsX6_isPlace := goodIn_r _ [6, 7, 8, 9, 5, 10, 11, 12, 13, 14, 15, 16, 17] (by decide +kernel) (by decide +kernel)
set_option maxRecDepth 20000 in
theorem gX6_get_X6_isPlace : GoodIn wsX6_get (wsV RX6 28 RX6 yX6_isPlace wsX6_isPlace) := goodIn_app (goodIn_of _ (by decide +kernel)) ggX6_get_X6_isPlace
theorem dX6_get_0 : decode cX6_get 0 = .ok (.aload_n 0, 1) := by decide +kernel
theorem dX6_get_1 : decode cX6_get 1 = .ok (.iload_n 1, 1) := by decide +kernel
theorem dX6_get_2 : decode cX6_get 2 = .ok (.iload_n 2, 1) := by decide +kernel
theorem dX6_get_3 : decode cX6_get 3 = .ok (.invokevirtual 28, 3) := by decide +kernel
theorem dX6_get_6 : decode cX6_get 6 = .ok (.ifCond .eq 14, 3) := by decide +kernel
theorem dX6_get_9 : decode cX6_get 9 = .ok (.aload_n 0, 1) := by decide +kernel
theorem dX6_get_10 : decode cX6_get 10 = .ok (.getfield 11, 3) := by decide +kernel
theorem dX6_get_13 : decode cX6_get 13 = .ok (.iload_n 1, 1) := by decide +kernel
theorem dX6_get_14 : decode cX6_get 14 = .ok (.aaload, 1) := by decide +kernel
theorem dX6_get_15 : decode cX6_get 15 = .ok (.iload_n 2, 1) := by decide +kernel
theorem dX6_get_16 : decode cX6_get 16 = .ok (.iaload, 1) := by decide +kernel
theorem dX6_get_17 : decode cX6_get 17 = .ok (.goto 4, 3) := by decide +kernel
theorem dX6_get_20 : decode cX6_get 20 = .ok (.iconst 0, 1) := by decide +kernel
theorem dX6_get_21 : decode cX6_get 21 = .ok (.ireturn, 1) := by decide +kernel
set_option maxRecDepth 20000 in
theorem ggX6_set_X6_isPlace : GoodIn wsX6_set wsX6_isPlace := goodIn_r _ [6, 7, 8, 9, 5, 10, 11, 12, 13, 14, 15, 16, 17] (by decide +kernel) (by decide +kernel)
set_option maxRecDepth 20000 in
theorem gX6_set_X6_isPlace : GoodIn wsX6_set (wsV RX6 28 RX6 yX6_isPlace wsX6_isPlace) := goodIn_app (goodIn_of _ (by decide +kernel)) ggX6_set_X6_isPlace
theorem dX6_set_0 : decode cX6_set 0 = .ok (.aload_n 0, 1) := by decide +kernel
theorem dX6_set_1 : decode cX6_set 1 = .ok (.iload_n 1, 1) := by decide +kernel
theorem dX6_set_2 : decode cX6_set 2 = .ok (.iload_n 2, 1) := by decide +kernel
theorem dX6_set_3 : decode cX6_set 3 = .ok (.invokevirtual 28, 3) := by decide +kernel
theorem dX6_set_6 : decode cX6_set 6 = .ok (.ifCond .eq 12, 3) := by decide +kernel
theorem dX6_set_9 : decode cX6_set 9 = .ok (.aload_n 0, 1) := by decide +kernel
theorem dX6_set_10 : decode cX6_set 10 = .ok (.getfield 11, 3) := by decide +kernel
theorem dX6_set_13 : decode cX6_set 13 = .ok (.iload_n 1, 1) := by decide +kernel
theorem dX6_set_14 : decode cX6_set 14 = .ok (.aaload, 1) := by decide +kernel
theorem dX6_set_15 : decode cX6_set 15 = .ok (.iload_n 2, 1) := by decide +kernel
theorem dX6_set_16 : decode cX6_set 16 = .ok (.iload_n 3, 1) := by decide +kernel
theorem dX6_set_17 : decode cX6_set 17 = .ok (.iastore, 1) := by decide +kernel
theorem dX6_set_18 : decode cX6_set 18 = .ok (.return_, 1) := by decide +kernel
set_option maxRecDepth 20000 in
theorem ggX6_make_X6_isNumber : GoodIn wsX6_make wsX6_isNumber := goodIn_r _ [7] (by decide +kernel) (by decide +kernel)
set_option maxRecDepth 20000 in
theorem gX6_make_X6_isNumber : GoodIn wsX6_make (wsV RX6 20 RX6 yX6_isNumber wsX6_isNumber) := goodIn_app (goodIn_of _ (by decide +kernel)) ggX6_make_X6_isNumber
theorem dX6_make_0 : decode cX6_make 0 = .ok (.aload_n 0, 1) := by decide +kernel
theorem dX6_make_1 : decode cX6_make 1 = .ok (.iload_n 1, 1) := by decide +kernel
theorem dX6_make_2 : decode cX6_make 2 = .ok (.invokevirtual 20, 3) := by decide +kernel
theorem dX6_make_5 : decode cX6_make 5 = .ok (.ifCond .eq 13, 3) := by decide +kernel
theorem dX6_make_8 : decode cX6_make 8 = .ok (.iload_n 2, 1) := by decide +kernel
theorem dX6_make_9 : decode cX6_make 9 = .ok (.ifCond .lt 9, 3) := by decide +kernel
theorem dX6_make_12 : decode cX6_make 12 = .ok (.iload_n 2, 1) := by decide +kernel
theorem dX6_make_13 : decode cX6_make 13 = .ok (.bipush 60, 2) := by decide +kernel
theorem dX6_make_15 : decode cX6_make 15 = .ok (.if_icmp .le 4, 3) := by decide +kernel
theorem dX6_make_18 : decode cX6_make 18 = .ok (.return_, 1) := by decide +kernel
theorem dX6_make_19 : decode cX6_make 19 = .ok (.aload_n 0, 1) := by decide +kernel
theorem dX6_make_20 : decode cX6_make 20 = .ok (.getfield 16, 3) := by decide +kernel
theorem dX6_make_23 : decode cX6_make 23 = .ok (.iload_n 1, 1) := by decide +kernel
theorem dX6_make_24 : decode cX6_make 24 = .ok (.iload_n 2, 1) := by decide +kernel
theorem dX6_make_25 : decode cX6_make 25 = .ok (.iastore, 1) := by decide +kernel
theorem dX6_make_26 : decode cX6_make 26 = .ok (.iconst 0, 1) := by decide +kernel
theorem dX6_make_27 : decode cX6_make 27 = .ok (.istore_n 3, 1) := by decide +kernel
theorem dX6_make_28 : decode cX6_make 28 = .ok (.iload_n 3, 1) := by decide +kernel
theorem dX6_make_29 : decode cX6_make 29 = .ok (.iload_n 2, 1) := by decide +kernel
theorem dX6_make_30 : decode cX6_make 30 = .ok (.if_icmp .ge 18, 3) := by decide +kernel
theorem dX6_make_33 : decode cX6_make 33 = .ok (.aload_n 0, 1) := by decide +kernel
theorem dX6_make_34 : decode cX6_make 34 = .ok (.getfield 11, 3) := by decide +kernel
theorem dX6_make_37 : decode cX6_make 37 = .ok (.iload_n 1, 1) := by decide +kernel
theorem dX6_make_38 : decode cX6_make 38 = .ok (.aaload, 1) := by decide +kernel
theorem dX6_make_39 : decode cX6_make 39 = .ok (.iload_n 3, 1) := by decide +kernel
theorem dX6_make_40 : decode cX6_make 40 = .ok (.iconst 0, 1) := by decide +kernel
theorem dX6_make_41 : decode cX6_make 41 = .ok (.iastore, 1) := by decide +kernel
theorem dX6_make_42 : decode cX6_make 42 = .ok (.iinc 3 1, 3) := by decide +kernel
theorem dX6_make_45 : decode cX6_make 45 = .ok (.goto (-17), 3) := by decide +kernel
theorem dX6_make_48 : decode cX6_make 48 = .ok (.return_, 1) := by decide +kernel
set_option maxRecDepth 20000 in
theorem ggX6_howMany_X6_isThere : GoodIn wsX6_howMany wsX6_isThere := goodIn_r _ [5, 6, 7, 8, 4, 9, 10, 11, 12, 13, 14, 15, 16] (by decide +kernel) (by decide +kernel)
set_option maxRecDepth 20000 in
theorem gX6_howMany_X6_isThere : GoodIn wsX6_howMany (wsV RX6 46 RX6 yX6_isThere wsX6_isThere) := goodIn_app (goodIn_of _ (by decide +kernel)) ggX6_howMany_X6_isThere
theorem dX6_howMany_0 : decode cX6_howMany 0 = .ok (.iconst 0, 1) := by decide +kernel
theorem dX6_howMany_1 : decode cX6_howMany 1 = .ok (.istore_n 1, 1) := by decide +kernel
theorem dX6_howMany_2 : decode cX6_howMany 2 = .ok (.iconst 0, 1) := by decide +kernel
theorem dX6_howMany_3 : decode cX6_howMany 3 = .ok (.istore_n 2, 1) := by decide +kernel
theorem dX6_howMany_4 : decode cX6_howMany 4 = .ok (.iload_n 2, 1) := by decide +kernel
theorem dX6_howMany_5 : decode cX6_howMany 5 = .ok (.bipush 6, 2) := by decide +kernel
theorem dX6_howMany_7 : decode cX6_howMany 7 = .ok (.if_icmp .ge 25, 3) := by decide +kernel
theorem dX6_howMany_10 : decode cX6_howMany 10 = .ok (.iload_n 1, 1) := by decide +kernel
theorem dX6_howMany_11 : decode cX6_howMany 11 = .ok (.aload_n 0, 1) := by decide +kernel
theorem dX6_howMany_12 : decode cX6_howMany 12 = .ok (.iload_n 2, 1) := by decide +kernel
theorem dX6_howMany_13 : decode cX6_howMany 13 = .ok (.invokevirtual 46, 3) := by decide +kernel
theorem dX6_howMany_16 : decode cX6_howMany 16 = .ok (.ifCond .eq 7, 3) := by decide +kernel
theorem dX6_howMany_19 : decode cX6_howMany 19 = .ok (.iconst 1, 1) := by decide +kernel
theorem dX6_howMany_20 : decode cX6_howMany 20 = .ok (.goto 4, 3) := by decide +kernel
theorem dX6_howMany_23 : decode cX6_howMany 23 = .ok (.iconst 0, 1) := by decide +kernel
theorem dX6_howMany_24 : decode cX6_howMany 24 = .ok (.iadd, 1) := by decide +kernel
theorem dX6_howMany_25 : decode cX6_howMany 25 = .ok (.istore_n 1, 1) := by decide +kernel
theorem dX6_howMany_26 : decode cX6_howMany 26 = .ok (.iinc 2 1, 3) := by decide +kernel
theorem dX6_howMany_29 : decode cX6_howMany 29 = .ok (.goto (-25), 3) := by decide +kernel
theorem dX6_howMany_32 : decode cX6_howMany 32 = .ok (.iload_n 1, 1) := by decide +kernel
theorem dX6_howMany_33 : decode cX6_howMany 33 = .ok (.ireturn, 1) := by decide +kernel
set_option maxRecDepth 20000 in
theorem ggX6_mix_X6_sizeOf : GoodIn wsX6_mix wsX6_sizeOf := goodIn_r _ [6, 7, 8, 9, 10, 5, 11, 21, 22] (by decide +kernel) (by decide +kernel)
set_option maxRecDepth 20000 in
theorem gX6_mix_X6_sizeOf : GoodIn wsX6_mix (wsV RX6 24 RX6 yX6_sizeOf wsX6_sizeOf) := goodIn_app (goodIn_of _ (by decide +kernel)) ggX6_mix_X6_sizeOf
set_option maxRecDepth 20000 in
theorem ggX6_mix_X6_get : GoodIn wsX6_mix wsX6_get := goodIn_r _ [15, 16, 17, 18, 19, 5, 20, 2, 3, 4, 6, 7, 8, 9, 10, 11, 21, 22] (by decide +kernel) (by decide +kernel)
set_option maxRecDepth 20000 in
theorem gX6_mix_X6_get : GoodIn wsX6_mix (wsV RX6 42 RX6 yX6_get wsX6_get) := goodIn_app (goodIn_of _ (by decide +kernel)) ggX6_mix_X6_get
theorem dX6_mix_0 : decode cX6_mix 0 = .ok (.iconst 0, 1) := by decide +kernel
theorem dX6_mix_1 : decode cX6_mix 1 = .ok (.istore_n 3, 1) := by decide +kernel
theorem dX6_mix_2 : decode cX6_mix 2 = .ok (.iload_n 3, 1) := by decide +kernel
theorem dX6_mix_3 : decode cX6_mix 3 = .ok (.bipush 6, 2) := by decide +kernel
theorem dX6_mix_5 : decode cX6_mix 5 = .ok (.if_icmp .ge 56, 3) := by decide +kernel
theorem dX6_mix_8 : decode cX6_mix 8 = .ok (.ldc2_w 49, 3) := by decide +kernel
theorem dX6_mix_11 : decode cX6_mix 11 = .ok (.lload_n 1, 1) := by decide +kernel
theorem dX6_mix_12 : decode cX6_mix 12 = .ok (.lmul, 1) := by decide +kernel
theorem dX6_mix_13 : decode cX6_mix 13 = .ok (.aload_n 0, 1) := by decide +kernel
theorem dX6_mix_14 : decode cX6_mix 14 = .ok (.iload_n 3, 1) := by decide +kernel
theorem dX6_mix_15 : decode cX6_mix 15 = .ok (.invokevirtual 24, 3) := by decide +kernel
theorem dX6_mix_18 : decode cX6_mix 18 = .ok (.i2l, 1) := by decide +kernel
theorem dX6_mix_19 : decode cX6_mix 19 = .ok (.ladd, 1) := by decide +kernel
theorem dX6_mix_20 : decode cX6_mix 20 = .ok (.lstore_n 1, 1) := by decide +kernel
theorem dX6_mix_21 : decode cX6_mix 21 = .ok (.iconst 0, 1) := by decide +kernel
theorem dX6_mix_22 : decode cX6_mix 22 = .ok (.istore 4, 2) := by decide +kernel
theorem dX6_mix_24 : decode cX6_mix 24 = .ok (.iload 4, 2) := by decide +kernel
theorem dX6_mix_26 : decode cX6_mix 26 = .ok (.aload_n 0, 1) := by decide +kernel
theorem dX6_mix_27 : decode cX6_mix 27 = .ok (.iload_n 3, 1) := by decide +kernel
theorem dX6_mix_28 : decode cX6_mix 28 = .ok (.invokevirtual 24, 3) := by decide +kernel
theorem dX6_mix_31 : decode cX6_mix 31 = .ok (.if_icmp .ge 24, 3) := by decide +kernel
theorem dX6_mix_34 : decode cX6_mix 34 = .ok (.ldc2_w 49, 3) := by decide +kernel
theorem dX6_mix_37 : decode cX6_mix 37 = .ok (.lload_n 1, 1) := by decide +kernel
theorem dX6_mix_38 : decode cX6_mix 38 = .ok (.lmul, 1) := by decide +kernel
theorem dX6_mix_39 : decode cX6_mix 39 = .ok (.aload_n 0, 1) := by decide +kernel
theorem dX6_mix_40 : decode cX6_mix 40 = .ok (.iload_n 3, 1) := by decide +kernel
theorem dX6_mix_41 : decode cX6_mix 41 = .ok (.iload 4, 2) := by decide +kernel
theorem dX6_mix_43 : decode cX6_mix 43 = .ok (.invokevirtual 42, 3) := by decide +kernel
theorem dX6_mix_46 : decode cX6_mix 46 = .ok (.i2l, 1) := by decide +kernel
theorem dX6_mix_47 : decode cX6_mix 47 = .ok (.ladd, 1) := by decide +kernel
theorem dX6_mix_48 : decode cX6_mix 48 = .ok (.lstore_n 1, 1) := by decide +kernel
theorem dX6_mix_49 : decode cX6_mix 49 = .ok (.iinc 4 1, 3) := by decide +kernel
theorem dX6_mix_52 : decode cX6_mix 52 = .ok (.goto (-28), 3) := by decide +kernel
theorem dX6_mix_55 : decode cX6_mix 55 = .ok (.iinc 3 1, 3) := by decide +kernel
theorem dX6_mix_58 : decode cX6_mix 58 = .ok (.goto (-56), 3) := by decide +kernel
theorem dX6_mix_61 : decode cX6_mix 61 = .ok (.lload_n 1, 1) := by decide +kernel
theorem dX6_mix_62 : decode cX6_mix 62 = .ok (.lreturn, 1) := by decide +kernel
theorem dX7_init_0 : decode cX7_init 0 = .ok (.aload_n 0, 1) := by decide +kernel
theorem dX7_init_1 : decode cX7_init 1 = .ok (.invokespecial 3, 3) := by decide +kernel
theorem dX7_init_4 : decode cX7_init 4 = .ok (.aload_n 0, 1) := by decide +kernel
theorem dX7_init_5 : decode cX7_init 5 = .ok (.bipush 8, 2) := by decide +kernel
theorem dX7_init_7 : decode cX7_init 7 = .ok (.newarray .int, 2) := by decide +kernel
theorem dX7_init_9 : decode cX7_init 9 = .ok (.putfield 9, 3) := by decide +kernel
theorem dX7_init_12 : decode cX7_init 12 = .ok (.aload_n 0, 1) := by decide +kernel
theorem dX7_init_13 : decode cX7_init 13 = .ok (.bipush 8, 2) := by decide +kernel
theorem dX7_init_15 : decode cX7_init 15 = .ok (.newarray .int, 2) := by decide +kernel
theorem dX7_init_17 : decode cX7_init 17 = .ok (.putfield 15, 3) := by decide +kernel
theorem dX7_init_20 : decode cX7_init 20 = .ok (.return_, 1) := by decide +kernel
theorem dX7_size_0 : decode cX7_size 0 = .ok (.aload_n 0, 1) := by decide +kernel
theorem dX7_size_1 : decode cX7_size 1 = .ok (.getfield 18, 3) := by decide +kernel
theorem dX7_size_4 : decode cX7_size 4 = .ok (.ireturn, 1) := by decide +kernel
theorem dX7_isFull_0 : decode cX7_isFull 0 = .ok (.aload_n 0, 1) := by decide +kernel
theorem dX7_isFull_1 : decode cX7_isFull 1 = .ok (.getfield 18, 3) := by decide +kernel
theorem dX7_isFull_4 : decode cX7_isFull 4 = .ok (.bipush 8, 2) := by decide +kernel
theorem dX7_isFull_6 : decode cX7_isFull 6 = .ok (.if_icmp .lt 7, 3) := by decide +kernel
theorem dX7_isFull_9 : decode cX7_isFull 9 = .ok (.iconst 1, 1) := by decide +kernel
theorem dX7_isFull_10 : decode cX7_isFull 10 = .ok (.goto 4, 3) := by decide +kernel
theorem dX7_isFull_13 : decode cX7_isFull 13 = .ok (.iconst 0, 1) := by decide +kernel
theorem dX7_isFull_14 : decode cX7_isFull 14 = .ok (.ireturn, 1) := by decide +kernel
set_option maxRecDepth 20000 in
theorem ggX7_add_X7_isFull : GoodIn wsX7_add wsX7_isFull := goodIn_r _ [8, 1, 9, 10, 11] (by decide +kernel) (by decide +kernel)
set_option maxRecDepth 20000 in
theorem gX7_add_X7_isFull : GoodIn wsX7_add (wsV RX7 22 RX7 yX7_isFull wsX7_isFull) := goodIn_app (goodIn_of _ (by decide +kernel)) ggX7_add_X7_isFull
theorem dX7_add_0 : decode cX7_add 0 = .ok (.aload_n 0, 1) := by decide +kernel
theorem dX7_add_1 : decode cX7_add 1 = .ok (.invokevirtual 22, 3) := by decide +kernel
theorem dX7_add_4 : decode cX7_add 4 = .ok (.ifCond .ne 10, 3) := by decide +kernel
theorem dX7_add_7 : decode cX7_add 7 = .ok (.aload_n 0, 1) := by decide +kernel
theorem dX7_add_8 : decode cX7_add 8 = .ok (.getfield 18, 3) := by decide +kernel
theorem dX7_add_11 : decode cX7_add 11 = .ok (.ifCond .ge 6, 3) := by decide +kernel
theorem dX7_add_14 : decode cX7_add 14 = .ok (.bipush (-2), 2) := by decide +kernel
theorem dX7_add_16 : decode cX7_add 16 = .ok (.ireturn, 1) := by decide +kernel
theorem dX7_add_17 : decode cX7_add 17 = .ok (.aload_n 0, 1) := by decide +kernel
theorem dX7_add_18 : decode cX7_add 18 = .ok (.getfield 9, 3) := by decide +kernel
theorem dX7_add_21 : decode cX7_add 21 = .ok (.aload_n 0, 1) := by decide +kernel
theorem dX7_add_22 : decode cX7_add 22 = .ok (.getfield 18, 3) := by decide +kernel
theorem dX7_add_25 : decode cX7_add 25 = .ok (.iload_n 1, 1) := by decide +kernel
theorem dX7_add_26 : decode cX7_add 26 = .ok (.iastore, 1) := by decide +kernel
theorem dX7_add_27 : decode cX7_add 27 = .ok (.aload_n 0, 1) := by decide +kernel
theorem dX7_add_28 : decode cX7_add 28 = .ok (.getfield 15, 3) := by decide +kernel
theorem dX7_add_31 : decode cX7_add 31 = .ok (.aload_n 0, 1) := by decide +kernel
theorem dX7_add_32 : decode cX7_add 32 = .ok (.getfield 18, 3) := by decide +kernel
theorem dX7_add_35 : decode cX7_add 35 = .ok (.iload_n 2, 1) := by decide +kernel
theorem dX7_add_36 : decode cX7_add 36 = .ok (.iastore, 1) := by decide +kernel
theorem dX7_add_37 : decode cX7_add 37 = .ok (.aload_n 0, 1) := by decide +kernel
theorem dX7_add_38 : decode cX7_add 38 = .ok (.dup, 1) := by decide +kernel
theorem dX7_add_39 : decode cX7_add 39 = .ok (.getfield 18, 3) := by decide +kernel
theorem dX7_add_42 : decode cX7_add 42 = .ok (.iconst 1, 1) := by decide +kernel
theorem dX7_add_43 : decode cX7_add 43 = .ok (.iadd, 1) := by decide +kernel
theorem dX7_add_44 : decode cX7_add 44 = .ok (.putfield 18, 3) := by decide +kernel
theorem dX7_add_47 : decode cX7_add 47 = .ok (.aload_n 0, 1) := by decide +kernel
theorem dX7_add_48 : decode cX7_add 48 = .ok (.getfield 18, 3) := by decide +kernel
theorem dX7_add_51 : decode cX7_add 51 = .ok (.iconst 1, 1) := by decide +kernel
theorem dX7_add_52 : decode cX7_add 52 = .ok (.isub, 1) := by decide +kernel
theorem dX7_add_53 : decode cX7_add 53 = .ok (.ireturn, 1) := by decide +kernel
theorem dX7_dropFrom_0 : decode cX7_dropFrom 0 = .ok (.aload_n 0, 1) := by decide +kernel
theorem dX7_dropFrom_1 : decode cX7_dropFrom 1 = .ok (.getfield 18, 3) := by decide +kernel
theorem dX7_dropFrom_4 : decode cX7_dropFrom 4 = .ok (.iload_n 1, 1) := by decide +kernel
theorem dX7_dropFrom_5 : decode cX7_dropFrom 5 = .ok (.isub, 1) := by decide +kernel
theorem dX7_dropFrom_6 : decode cX7_dropFrom 6 = .ok (.istore_n 2, 1) := by decide +kernel
theorem dX7_dropFrom_7 : decode cX7_dropFrom 7 = .ok (.iload_n 1, 1) := by decide +kernel
theorem dX7_dropFrom_8 : decode cX7_dropFrom 8 = .ok (.ifCond .lt 7, 3) := by decide +kernel
theorem dX7_dropFrom_11 : decode cX7_dropFrom 11 = .ok (.iload_n 2, 1) := by decide +kernel
theorem dX7_dropFrom_12 : decode cX7_dropFrom 12 = .ok (.ifCond .ge 5, 3) := by decide +kernel
theorem dX7_dropFrom_15 : decode cX7_dropFrom 15 = .ok (.iconst 0, 1) := by decide +kernel
theorem dX7_dropFrom_16 : decode cX7_dropFrom 16 = .ok (.ireturn, 1) := by decide +kernel
theorem dX7_dropFrom_17 : decode cX7_dropFrom 17 = .ok (.aload_n 0, 1) := by decide +kernel
theorem dX7_dropFrom_18 : decode cX7_dropFrom 18 = .ok (.iload_n 1, 1) := by decide +kernel
theorem dX7_dropFrom_19 : decode cX7_dropFrom 19 = .ok (.putfield 18, 3) := by decide +kernel
theorem dX7_dropFrom_22 : decode cX7_dropFrom 22 = .ok (.iload_n 2, 1) := by decide +kernel
theorem dX7_dropFrom_23 : decode cX7_dropFrom 23 = .ok (.ireturn, 1) := by decide +kernel
theorem dX7_fit_0 : decode cX7_fit 0 = .ok (.iconst 0, 1) := by decide +kernel
theorem dX7_fit_1 : decode cX7_fit 1 = .ok (.istore_n 2, 1) := by decide +kernel
theorem dX7_fit_2 : decode cX7_fit 2 = .ok (.iload_n 2, 1) := by decide +kernel
theorem dX7_fit_3 : decode cX7_fit 3 = .ok (.aload_n 0, 1) := by decide +kernel
theorem dX7_fit_4 : decode cX7_fit 4 = .ok (.getfield 18, 3) := by decide +kernel
theorem dX7_fit_7 : decode cX7_fit 7 = .ok (.if_icmp .ge 36, 3) := by decide +kernel
theorem dX7_fit_10 : decode cX7_fit 10 = .ok (.iload_n 2, 1) := by decide +kernel
theorem dX7_fit_11 : decode cX7_fit 11 = .ok (.bipush 8, 2) := by decide +kernel
theorem dX7_fit_13 : decode cX7_fit 13 = .ok (.if_icmp .ge 30, 3) := by decide +kernel
theorem dX7_fit_16 : decode cX7_fit 16 = .ok (.iload_n 1, 1) := by decide +kernel
theorem dX7_fit_17 : decode cX7_fit 17 = .ok (.aload_n 0, 1) := by decide +kernel
theorem dX7_fit_18 : decode cX7_fit 18 = .ok (.getfield 9, 3) := by decide +kernel
theorem dX7_fit_21 : decode cX7_fit 21 = .ok (.iload_n 2, 1) := by decide +kernel
theorem dX7_fit_22 : decode cX7_fit 22 = .ok (.iaload, 1) := by decide +kernel
theorem dX7_fit_23 : decode cX7_fit 23 = .ok (.ishr, 1) := by decide +kernel
theorem dX7_fit_24 : decode cX7_fit 24 = .ok (.iconst 1, 1) := by decide +kernel
theorem dX7_fit_25 : decode cX7_fit 25 = .ok (.iand, 1) := by decide +kernel
theorem dX7_fit_26 : decode cX7_fit 26 = .ok (.aload_n 0, 1) := by decide +kernel
theorem dX7_fit_27 : decode cX7_fit 27 = .ok (.getfield 15, 3) := by decide +kernel
theorem dX7_fit_30 : decode cX7_fit 30 = .ok (.iload_n 2, 1) := by decide +kernel
theorem dX7_fit_31 : decode cX7_fit 31 = .ok (.iaload, 1) := by decide +kernel
theorem dX7_fit_32 : decode cX7_fit 32 = .ok (.if_icmp .eq 5, 3) := by decide +kernel
theorem dX7_fit_35 : decode cX7_fit 35 = .ok (.iconst 0, 1) := by decide +kernel
theorem dX7_fit_36 : decode cX7_fit 36 = .ok (.ireturn, 1) := by decide +kernel
theorem dX7_fit_37 : decode cX7_fit 37 = .ok (.iinc 2 1, 3) := by decide +kernel
theorem dX7_fit_40 : decode cX7_fit 40 = .ok (.goto (-38), 3) := by decide +kernel
theorem dX7_fit_43 : decode cX7_fit 43 = .ok (.iconst 1, 1) := by decide +kernel
theorem dX7_fit_44 : decode cX7_fit 44 = .ok (.ireturn, 1) := by decide +kernel
theorem dX7_mix_0 : decode cX7_mix 0 = .ok (.iconst 0, 1) := by decide +kernel
theorem dX7_mix_1 : decode cX7_mix 1 = .ok (.istore_n 3, 1) := by decide +kernel
theorem dX7_mix_2 : decode cX7_mix 2 = .ok (.iload_n 3, 1) := by decide +kernel
theorem dX7_mix_3 : decode cX7_mix 3 = .ok (.aload_n 0, 1) := by decide +kernel
theorem dX7_mix_4 : decode cX7_mix 4 = .ok (.getfield 18, 3) := by decide +kernel
theorem dX7_mix_7 : decode cX7_mix 7 = .ok (.if_icmp .ge 43, 3) := by decide +kernel
theorem dX7_mix_10 : decode cX7_mix 10 = .ok (.iload_n 3, 1) := by decide +kernel
theorem dX7_mix_11 : decode cX7_mix 11 = .ok (.bipush 8, 2) := by decide +kernel
theorem dX7_mix_13 : decode cX7_mix 13 = .ok (.if_icmp .ge 37, 3) := by decide +kernel
theorem dX7_mix_16 : decode cX7_mix 16 = .ok (.ldc2_w 26, 3) := by decide +kernel
theorem dX7_mix_19 : decode cX7_mix 19 = .ok (.lload_n 1, 1) := by decide +kernel
theorem dX7_mix_20 : decode cX7_mix 20 = .ok (.lmul, 1) := by decide +kernel
theorem dX7_mix_21 : decode cX7_mix 21 = .ok (.aload_n 0, 1) := by decide +kernel
theorem dX7_mix_22 : decode cX7_mix 22 = .ok (.getfield 9, 3) := by decide +kernel
theorem dX7_mix_25 : decode cX7_mix 25 = .ok (.iload_n 3, 1) := by decide +kernel
theorem dX7_mix_26 : decode cX7_mix 26 = .ok (.iaload, 1) := by decide +kernel
theorem dX7_mix_27 : decode cX7_mix 27 = .ok (.i2l, 1) := by decide +kernel
theorem dX7_mix_28 : decode cX7_mix 28 = .ok (.ladd, 1) := by decide +kernel
theorem dX7_mix_29 : decode cX7_mix 29 = .ok (.lstore_n 1, 1) := by decide +kernel
theorem dX7_mix_30 : decode cX7_mix 30 = .ok (.ldc2_w 26, 3) := by decide +kernel
theorem dX7_mix_33 : decode cX7_mix 33 = .ok (.lload_n 1, 1) := by decide +kernel
theorem dX7_mix_34 : decode cX7_mix 34 = .ok (.lmul, 1) := by decide +kernel
theorem dX7_mix_35 : decode cX7_mix 35 = .ok (.aload_n 0, 1) := by decide +kernel
theorem dX7_mix_36 : decode cX7_mix 36 = .ok (.getfield 15, 3) := by decide +kernel
theorem dX7_mix_39 : decode cX7_mix 39 = .ok (.iload_n 3, 1) := by decide +kernel
theorem dX7_mix_40 : decode cX7_mix 40 = .ok (.iaload, 1) := by decide +kernel
theorem dX7_mix_41 : decode cX7_mix 41 = .ok (.i2l, 1) := by decide +kernel
theorem dX7_mix_42 : decode cX7_mix 42 = .ok (.ladd, 1) := by decide +kernel
theorem dX7_mix_43 : decode cX7_mix 43 = .ok (.lstore_n 1, 1) := by decide +kernel
theorem dX7_mix_44 : decode cX7_mix 44 = .ok (.iinc 3 1, 3) := by decide +kernel
theorem dX7_mix_47 : decode cX7_mix 47 = .ok (.goto (-45), 3) := by decide +kernel
theorem dX7_mix_50 : decode cX7_mix 50 = .ok (.lload_n 1, 1) := by decide +kernel
theorem dX7_mix_51 : decode cX7_mix 51 = .ok (.lreturn, 1) := by decide +kernel
theorem dX8_init_0 : decode cX8_init 0 = .ok (.aload_n 0, 1) := by decide +kernel
theorem dX8_init_1 : decode cX8_init 1 = .ok (.invokespecial 3, 3) := by decide +kernel
theorem dX8_init_4 : decode cX8_init 4 = .ok (.aload_n 0, 1) := by decide +kernel
theorem dX8_init_5 : decode cX8_init 5 = .ok (.iconst 4, 1) := by decide +kernel
theorem dX8_init_6 : decode cX8_init 6 = .ok (.bipush 100, 2) := by decide +kernel
theorem dX8_init_8 : decode cX8_init 8 = .ok (.multianewarray 9 2, 4) := by decide +kernel
theorem dX8_init_12 : decode cX8_init 12 = .ok (.putfield 11, 3) := by decide +kernel
theorem dX8_init_15 : decode cX8_init 15 = .ok (.aload_n 0, 1) := by decide +kernel
theorem dX8_init_16 : decode cX8_init 16 = .ok (.iconst 4, 1) := by decide +kernel
theorem dX8_init_17 : decode cX8_init 17 = .ok (.newarray .int, 2) := by decide +kernel
theorem dX8_init_19 : decode cX8_init 19 = .ok (.putfield 16, 3) := by decide +kernel
theorem dX8_init_22 : decode cX8_init 22 = .ok (.iconst 0, 1) := by decide +kernel
theorem dX8_init_23 : decode cX8_init 23 = .ok (.istore_n 1, 1) := by decide +kernel
theorem dX8_init_24 : decode cX8_init 24 = .ok (.iload_n 1, 1) := by decide +kernel
theorem dX8_init_25 : decode cX8_init 25 = .ok (.iconst 4, 1) := by decide +kernel
theorem dX8_init_26 : decode cX8_init 26 = .ok (.if_icmp .ge 16, 3) := by decide +kernel
theorem dX8_init_29 : decode cX8_init 29 = .ok (.aload_n 0, 1) := by decide +kernel
theorem dX8_init_30 : decode cX8_init 30 = .ok (.getfield 16, 3) := by decide +kernel
theorem dX8_init_33 : decode cX8_init 33 = .ok (.iload_n 1, 1) := by decide +kernel
theorem dX8_init_34 : decode cX8_init 34 = .ok (.iconst (-1), 1) := by decide +kernel
theorem dX8_init_35 : decode cX8_init 35 = .ok (.iastore, 1) := by decide +kernel
theorem dX8_init_36 : decode cX8_init 36 = .ok (.iinc 1 1, 3) := by decide +kernel
theorem dX8_init_39 : decode cX8_init 39 = .ok (.goto (-15), 3) := by decide +kernel
theorem dX8_init_42 : decode cX8_init 42 = .ok (.return_, 1) := by decide +kernel
theorem dX8_isNumber_0 : decode cX8_isNumber 0 = .ok (.iload_n 1, 1) := by decide +kernel
theorem dX8_isNumber_1 : decode cX8_isNumber 1 = .ok (.ifCond .lt 12, 3) := by decide +kernel
theorem dX8_isNumber_4 : decode cX8_isNumber 4 = .ok (.iload_n 1, 1) := by decide +kernel
theorem dX8_isNumber_5 : decode cX8_isNumber 5 = .ok (.iconst 4, 1) := by decide +kernel
theorem dX8_isNumber_6 : decode cX8_isNumber 6 = .ok (.if_icmp .ge 7, 3) := by decide +kernel
theorem dX8_isNumber_9 : decode cX8_isNumber 9 = .ok (.iconst 1, 1) := by decide +kernel
theorem dX8_isNumber_10 : decode cX8_isNumber 10 = .ok (.goto 4, 3) := by decide +kernel
theorem dX8_isNumber_13 : decode cX8_isNumber 13 = .ok (.iconst 0, 1) := by decide +kernel
theorem dX8_isNumber_14 : decode cX8_isNumber 14 = .ok (.ireturn, 1) := by decide +kernel
set_option maxRecDepth 20000 in
theorem ggX8_sizeOf_X8_isNumber : GoodIn wsX8_sizeOf wsX8_isNumber := goodIn_r _ [6] (by decide +kernel) (by decide +kernel)
set_option maxRecDepth 20000 in
theorem gX8_sizeOf_X8_isNumber : GoodIn wsX8_sizeOf (wsV RX8 20 RX8 yX8_isNumber wsX8_isNumber) := goodIn_app (goodIn_of _ (by decide +kernel)) ggX8_sizeOf_X8_isNumber
theorem dX8_sizeOf_0 : decode cX8_sizeOf 0 = .ok (.aload_n 0, 1) := by decide +kernel
theorem dX8_sizeOf_1 : decode cX8_sizeOf 1 = .ok (.iload_n 1, 1) := by decide +kernel
theorem dX8_sizeOf_2 : decode cX8_sizeOf 2 = .ok (.invokevirtual 20, 3) := by decide +kernel
theorem dX8_sizeOf_5 : decode cX8_sizeOf 5 = .ok (.ifCond .eq 12, 3) := by decide +kernel
theorem dX8_sizeOf_8 : decode cX8_sizeOf 8 = .ok (.aload_n 0, 1) := by decide +kernel
theorem dX8_sizeOf_9 : decode cX8_sizeOf 9 = .ok (.getfield 16, 3) := by decide +kernel
theorem dX8_sizeOf_12 : decode cX8_sizeOf 12 = .ok (.iload_n 1, 1) := by decide +kernel
theorem dX8_sizeOf_13 : decode cX8_sizeOf 13 = .ok (.iaload, 1) := by decide +kernel
theorem dX8_sizeOf_14 : decode cX8_sizeOf 14 = .ok (.goto 4, 3) := by decide +kernel
theorem dX8_sizeOf_17 : decode cX8_sizeOf 17 = .ok (.iconst (-1), 1) := by decide +kernel
theorem dX8_sizeOf_18 : decode cX8_sizeOf 18 = .ok (.ireturn, 1) := by decide +kernel
set_option maxRecDepth 20000 in
theorem ggX8_isThere_X8_sizeOf : GoodIn wsX8_isThere wsX8_sizeOf := goodIn_r _ [5, 6, 7, 8, 9, 4, 10, 11, 12] (by decide +kernel) (by decide +kernel)
set_option maxRecDepth 20000 in
theorem gX8_isThere_X8_sizeOf : GoodIn wsX8_isThere (wsV RX8 24 RX8 yX8_sizeOf wsX8_sizeOf) := goodIn_app (goodIn_of _ (by decide +kernel)) ggX8_isThere_X8_sizeOf
theorem dX8_isThere_0 : decode cX8_isThere 0 = .ok (.aload_n 0, 1) := by decide +kernel
theorem dX8_isThere_1 : decode cX8_isThere 1 = .ok (.iload_n 1, 1) := by decide +kernel
theorem dX8_isThere_2 : decode cX8_isThere 2 = .ok (.invokevirtual 24, 3) := by decide +kernel
theorem dX8_isThere_5 : decode cX8_isThere 5 = .ok (.iconst (-1), 1) := by decide +kernel
theorem dX8_isThere_6 : decode cX8_isThere 6 = .ok (.if_icmp .eq 7, 3) := by decide +kernel
theorem dX8_isThere_9 : decode cX8_isThere 9 = .ok (.iconst 1, 1) := by decide +kernel
theorem dX8_isThere_10 : decode cX8_isThere 10 = .ok (.goto 4, 3) := by decide +kernel
theorem dX8_isThere_13 : decode cX8_isThere 13 = .ok (.iconst 0, 1) := by decide +kernel
theorem dX8_isThere_14 : decode cX8_isThere 14 = .ok (.ireturn, 1) := by decide +kernel
set_option maxRecDepth 20000 in
theorem ggX8_isPlace_X8_sizeOf : GoodIn wsX8_isPlace wsX8_sizeOf := goodIn_r _ [5, 6, 7, 8, 9, 4, 10, 11, 12] (by decide +kernel) (by decide +kernel)
set_option maxRecDepth 20000 in
theorem gX8_isPlace_X8_sizeOf : GoodIn wsX8_isPlace (wsV RX8 24 RX8 yX8_sizeOf wsX8_sizeOf) := goodIn_app (goodIn_of _ (by decide +kernel)) ggX8_isPlace_X8_sizeOf
theorem dX8_isPlace_0 : decode cX8_isPlace 0 = .ok (.iload_n 2, 1) := by decide +kernel
theorem dX8_isPlace_1 : decode cX8_isPlace 1 = .ok (.ifCond .lt 16, 3) := by decide +kernel
theorem dX8_isPlace_4 : decode cX8_isPlace 4 = .ok (.iload_n 2, 1) := by decide +kernel
theorem dX8_isPlace_5 : decode cX8_isPlace 5 = .ok (.aload_n 0, 1) := by decide +kernel
theorem dX8_isPlace_6 : decode cX8_isPlace 6 = .ok (.iload_n 1, 1) := by decide +kernel
theorem dX8_isPlace_7 : decode cX8_isPlace 7 = .ok (.invokevirtual 24, 3) := by decide +kernel
theorem dX8_isPlace_10 : decode cX8_isPlace 10 = .ok (.if_icmp .ge 7, 3) := by decide +kernel
theorem dX8_isPlace_13 : decode cX8_isPlace 13 = .ok (.iconst 1, 1) := by decide +kernel
theorem dX8_isPlace_14 : decode cX8_isPlace 14 = .ok (.goto 4, 3) := by decide +kernel
theorem dX8_isPlace_17 : decode cX8_isPlace 17 = .ok (.iconst 0, 1) := by decide +kernel
theorem dX8_isPlace_18 : decode cX8_isPlace 18 = .ok (.ireturn, 1) := by decide +kernel
set_option maxRecDepth 20000 in
theorem ggX8_get_X8_isPlace : GoodIn wsX8_get wsX8_isPlace := goodIn_r _ [6, 7, 8, 9, 5, 10, 11, 12, 13, 14, 15, 16, 17] (by decide +kernel) (by decide +kernel)
set_option maxRecDepth 20000 in
theorem gX8_get_X8_isPlace : GoodIn wsX8_get (wsV RX8 28 RX8 yX8_isPlace wsX8_isPlace) := goodIn_app (goodIn_of _ (by decide +kernel)) ggX8_get_X8_isPlace
theorem dX8_get_0 : decode cX8_get 0 = .ok (.aload_n 0, 1) := by decide +kernel
theorem dX8_get_1 : decode cX8_get 1 = .ok (.iload_n 1, 1) := by decide +kernel
theorem dX8_get_2 : decode cX8_get 2 = .ok (.iload_n 2, 1) := by decide +kernel
theorem dX8_get_3 : decode cX8_get 3 = .ok (.invokevirtual 28, 3) := by decide +kernel
theorem dX8_get_6 : decode cX8_get 6 = .ok (.ifCond .eq 14, 3) := by decide +kernel
theorem dX8_get_9 : decode cX8_get 9 = .ok (.aload_n 0, 1) := by decide +kernel
theorem dX8_get_10 : decode cX8_get 10 = .ok (.getfield 11, 3) := by decide +kernel
theorem dX8_get_13 : decode cX8_get 13 = .ok (.iload_n 1, 1) := by decide +kernel
theorem dX8_get_14 : decode cX8_get 14 = .ok (.aaload, 1) := by decide +kernel
theorem dX8_get_15 : decode cX8_get 15 = .ok (.iload_n 2, 1) := by decide +kernel
theorem dX8_get_16 : decode cX8_get 16 = .ok (.baload, 1) := by decide +kernel
theorem dX8_get_17 : decode cX8_get 17 = .ok (.goto 5, 3) := by decide +kernel
theorem dX8_get_20 : decode cX8_get 20 = .ok (.bipush 32, 2) := by decide +kernel
theorem dX8_get_22 : decode cX8_get 22 = .ok (.ireturn, 1) := by decide +kernel
set_option maxRecDepth 20000 in
theorem ggX8_set_X8_isPlace : GoodIn wsX8_set wsX8_isPlace := goodIn_r _ [6, 7, 8, 9, 5, 10, 11, 12, 13, 14, 15, 16, 17] (by decide +kernel) (by decide +kernel)
set_option maxRecDepth 20000 in
theorem gX8_set_X8_isPlace : GoodIn wsX8_set (wsV RX8 28 RX8 yX8_isPlace wsX8_isPlace) := goodIn_app (goodIn_of _ (by decide +kernel)) ggX8_set_X8_isPlace
theorem dX8_set_0 : decode cX8_set 0 = .ok (.aload_n 0, 1) := by decide +kernel
theorem dX8_set_1 : decode cX8_set 1 = .ok (.iload_n 1, 1) := by decide +kernel
theorem dX8_set_2 : decode cX8_set 2 = .ok (.iload_n 2, 1) := by decide +kernel
theorem dX8_set_3 : decode cX8_set 3 = .ok (.invokevirtual 28, 3) := by decide +kernel
theorem dX8_set_6 : decode cX8_set 6 = .ok (.ifCond .eq 12, 3) := by decide +kernel
theorem dX8_set_9 : decode cX8_set 9 = .ok (.aload_n 0, 1) := by decide +kernel
theorem dX8_set_10 : decode cX8_set 10 = .ok (.getfield 11, 3) := by decide +kernel
theorem dX8_set_13 : decode cX8_set 13 = .ok (.iload_n 1, 1) := by decide +kernel
theorem dX8_set_14 : decode cX8_set 14 = .ok (.aaload, 1) := by decide +kernel
theorem dX8_set_15 : decode cX8_set 15 = .ok (.iload_n 2, 1) := by decide +kernel
theorem dX8_set_16 : decode cX8_set 16 = .ok (.iload_n 3, 1) := by decide +kernel
theorem dX8_set_17 : decode cX8_set 17 = .ok (.bastore, 1) := by decide +kernel
theorem dX8_set_18 : decode cX8_set 18 = .ok (.return_, 1) := by decide +kernel
set_option maxRecDepth 20000 in
theorem ggX8_make_X8_isNumber : GoodIn wsX8_make wsX8_isNumber := goodIn_r _ [7] (by decide +kernel) (by decide +kernel)
set_option maxRecDepth 20000 in
theorem gX8_make_X8_isNumber : GoodIn wsX8_make (wsV RX8 20 RX8 yX8_isNumber wsX8_isNumber) := goodIn_app (goodIn_of _ (by decide +kernel)) ggX8_make_X8_isNumber
theorem dX8_make_0 : decode cX8_make 0 = .ok (.aload_n 0, 1) := by decide +kernel
theorem dX8_make_1 : decode cX8_make 1 = .ok (.iload_n 1, 1) := by decide +kernel
theorem dX8_make_2 : decode cX8_make 2 = .ok (.invokevirtual 20, 3) := by decide +kernel
theorem dX8_make_5 : decode cX8_make 5 = .ok (.ifCond .eq 13, 3) := by decide +kernel
theorem dX8_make_8 : decode cX8_make 8 = .ok (.iload_n 2, 1) := by decide +kernel
theorem dX8_make_9 : decode cX8_make 9 = .ok (.ifCond .lt 9, 3) := by decide +kernel
theorem dX8_make_12 : decode cX8_make 12 = .ok (.iload_n 2, 1) := by decide +kernel
theorem dX8_make_13 : decode cX8_make 13 = .ok (.bipush 100, 2) := by decide +kernel
theorem dX8_make_15 : decode cX8_make 15 = .ok (.if_icmp .le 4, 3) := by decide +kernel
theorem dX8_make_18 : decode cX8_make 18 = .ok (.return_, 1) := by decide +kernel
theorem dX8_make_19 : decode cX8_make 19 = .ok (.aload_n 0, 1) := by decide +kernel
theorem dX8_make_20 : decode cX8_make 20 = .ok (.getfield 16, 3) := by decide +kernel
theorem dX8_make_23 : decode cX8_make 23 = .ok (.iload_n 1, 1) := by decide +kernel
theorem dX8_make_24 : decode cX8_make 24 = .ok (.iload_n 2, 1) := by decide +kernel
theorem dX8_make_25 : decode cX8_make 25 = .ok (.iastore, 1) := by decide +kernel
theorem dX8_make_26 : decode cX8_make 26 = .ok (.iconst 0, 1) := by decide +kernel
theorem dX8_make_27 : decode cX8_make 27 = .ok (.istore_n 3, 1) := by decide +kernel
theorem dX8_make_28 : decode cX8_make 28 = .ok (.iload_n 3, 1) := by decide +kernel
theorem dX8_make_29 : decode cX8_make 29 = .ok (.iload_n 2, 1) := by decide +kernel
theorem dX8_make_30 : decode cX8_make 30 = .ok (.if_icmp .ge 19, 3) := by decide +kernel
theorem dX8_make_33 : decode cX8_make 33 = .ok (.aload_n 0, 1) := by decide +kernel
theorem dX8_make_34 : decode cX8_make 34 = .ok (.getfield 11, 3) := by decide +kernel
theorem dX8_make_37 : decode cX8_make 37 = .ok (.iload_n 1, 1) := by decide +kernel
theorem dX8_make_38 : decode cX8_make 38 = .ok (.aaload, 1) := by decide +kernel
theorem dX8_make_39 : decode cX8_make 39 = .ok (.iload_n 3, 1) := by decide +kernel
theorem dX8_make_40 : decode cX8_make 40 = .ok (.bipush 32, 2) := by decide +kernel
theorem dX8_make_42 : decode cX8_make 42 = .ok (.bastore, 1) := by decide +kernel
theorem dX8_make_43 : decode cX8_make 43 = .ok (.iinc 3 1, 3) := by decide +kernel
theorem dX8_make_46 : decode cX8_make 46 = .ok (.goto (-18), 3) := by decide +kernel
theorem dX8_make_49 : decode cX8_make 49 = .ok (.return_, 1) := by decide +kernel
set_option maxRecDepth 20000 in
theorem ggX8_howMany_X8_isThere : GoodIn wsX8_howMany wsX8_isThere := goodIn_r _ [5, 6, 7, 8, 4, 9, 10, 11, 12, 13, 14, 15, 16] (by decide +kernel) (by decide +kernel)
set_option maxRecDepth 20000 in
theorem gX8_howMany_X8_isThere : GoodIn wsX8_howMany (wsV RX8 32 RX8 yX8_isThere wsX8_isThere) := goodIn_app (goodIn_of _ (by decide +kernel)) ggX8_howMany_X8_isThere
theorem dX8_howMany_0 : decode cX8_howMany 0 = .ok (.iconst 0, 1) := by decide +kernel
theorem dX8_howMany_1 : decode cX8_howMany 1 = .ok (.istore_n 1, 1) := by decide +kernel
theorem dX8_howMany_2 : decode cX8_howMany 2 = .ok (.iconst 0, 1) := by decide +kernel
theorem dX8_howMany_3 : decode cX8_howMany 3 = .ok (.istore_n 2, 1) := by decide +kernel
theorem dX8_howMany_4 : decode cX8_howMany 4 = .ok (.iload_n 2, 1) := by decide +kernel
theorem dX8_howMany_5 : decode cX8_howMany 5 = .ok (.iconst 4, 1) := by decide +kernel
theorem dX8_howMany_6 : decode cX8_howMany 6 = .ok (.if_icmp .ge 25, 3) := by decide +kernel
theorem dX8_howMany_9 : decode cX8_howMany 9 = .ok (.iload_n 1, 1) := by decide +kernel
theorem dX8_howMany_10 : decode cX8_howMany 10 = .ok (.aload_n 0, 1) := by decide +kernel
theorem dX8_howMany_11 : decode cX8_howMany 11 = .ok (.iload_n 2, 1) := by decide +kernel
theorem dX8_howMany_12 : decode cX8_howMany 12 = .ok (.invokevirtual 32, 3) := by decide +kernel
theorem dX8_howMany_15 : decode cX8_howMany 15 = .ok (.ifCond .eq 7, 3) := by decide +kernel
theorem dX8_howMany_18 : decode cX8_howMany 18 = .ok (.iconst 1, 1) := by decide +kernel
theorem dX8_howMany_19 : decode cX8_howMany 19 = .ok (.goto 4, 3) := by decide +kernel
theorem dX8_howMany_22 : decode cX8_howMany 22 = .ok (.iconst 0, 1) := by decide +kernel
theorem dX8_howMany_23 : decode cX8_howMany 23 = .ok (.iadd, 1) := by decide +kernel
theorem dX8_howMany_24 : decode cX8_howMany 24 = .ok (.istore_n 1, 1) := by decide +kernel
theorem dX8_howMany_25 : decode cX8_howMany 25 = .ok (.iinc 2 1, 3) := by decide +kernel
theorem dX8_howMany_28 : decode cX8_howMany 28 = .ok (.goto (-24), 3) := by decide +kernel
theorem dX8_howMany_31 : decode cX8_howMany 31 = .ok (.iload_n 1, 1) := by decide +kernel
theorem dX8_howMany_32 : decode cX8_howMany 32 = .ok (.ireturn, 1) := by decide +kernel
set_option maxRecDepth 20000 in
theorem ggX8_mix_X8_sizeOf : GoodIn wsX8_mix wsX8_sizeOf := goodIn_r _ [6, 7, 8, 9, 10, 5, 11, 21, 22] (by decide +kernel) (by decide +kernel)
set_option maxRecDepth 20000 in
theorem gX8_mix_X8_sizeOf : GoodIn wsX8_mix (wsV RX8 24 RX8 yX8_sizeOf wsX8_sizeOf) := goodIn_app (goodIn_of _ (by decide +kernel)) ggX8_mix_X8_sizeOf
set_option maxRecDepth 20000 in
theorem ggX8_mix_X8_get : GoodIn wsX8_mix wsX8_get := goodIn_r _ [15, 16, 17, 18, 19, 5, 20, 2, 3, 4, 6, 7, 8, 9, 10, 11, 21, 22] (by decide +kernel) (by decide +kernel)
set_option maxRecDepth 20000 in
theorem gX8_mix_X8_get : GoodIn wsX8_mix (wsV RX8 37 RX8 yX8_get wsX8_get) := goodIn_app (goodIn_of _ (by decide +kernel)) ggX8_mix_X8_get
theorem dX8_mix_0 : decode cX8_mix 0 = .ok (.iconst 0, 1) := by decide +kernel
theorem dX8_mix_1 : decode cX8_mix 1 = .ok (.istore_n 3, 1) := by decide +kernel
theorem dX8_mix_2 : decode cX8_mix 2 = .ok (.iload_n 3, 1) := by decide +kernel
theorem dX8_mix_3 : decode cX8_mix 3 = .ok (.iconst 4, 1) := by decide +kernel
theorem dX8_mix_4 : decode cX8_mix 4 = .ok (.if_icmp .ge 56, 3) := by decide +kernel
theorem dX8_mix_7 : decode cX8_mix 7 = .ok (.ldc2_w 35, 3) := by decide +kernel
theorem dX8_mix_10 : decode cX8_mix 10 = .ok (.lload_n 1, 1) := by decide +kernel
theorem dX8_mix_11 : decode cX8_mix 11 = .ok (.lmul, 1) := by decide +kernel
theorem dX8_mix_12 : decode cX8_mix 12 = .ok (.aload_n 0, 1) := by decide +kernel
theorem dX8_mix_13 : decode cX8_mix 13 = .ok (.iload_n 3, 1) := by decide +kernel
theorem dX8_mix_14 : decode cX8_mix 14 = .ok (.invokevirtual 24, 3) := by decide +kernel
theorem dX8_mix_17 : decode cX8_mix 17 = .ok (.i2l, 1) := by decide +kernel
theorem dX8_mix_18 : decode cX8_mix 18 = .ok (.ladd, 1) := by decide +kernel
theorem dX8_mix_19 : decode cX8_mix 19 = .ok (.lstore_n 1, 1) := by decide +kernel
theorem dX8_mix_20 : decode cX8_mix 20 = .ok (.iconst 0, 1) := by decide +kernel
theorem dX8_mix_21 : decode cX8_mix 21 = .ok (.istore 4, 2) := by decide +kernel
theorem dX8_mix_23 : decode cX8_mix 23 = .ok (.iload 4, 2) := by decide +kernel
theorem dX8_mix_25 : decode cX8_mix 25 = .ok (.aload_n 0, 1) := by decide +kernel
theorem dX8_mix_26 : decode cX8_mix 26 = .ok (.iload_n 3, 1) := by decide +kernel
theorem dX8_mix_27 : decode cX8_mix 27 = .ok (.invokevirtual 24, 3) := by decide +kernel
theorem dX8_mix_30 : decode cX8_mix 30 = .ok (.if_icmp .ge 24, 3) := by decide +kernel
theorem dX8_mix_33 : decode cX8_mix 33 = .ok (.ldc2_w 35, 3) := by decide +kernel
theorem dX8_mix_36 : decode cX8_mix 36 = .ok (.lload_n 1, 1) := by decide +kernel
theorem dX8_mix_37 : decode cX8_mix 37 = .ok (.lmul, 1) := by decide +kernel
theorem dX8_mix_38 : decode cX8_mix 38 = .ok (.aload_n 0, 1) := by decide +kernel
theorem dX8_mix_39 : decode cX8_mix 39 = .ok (.iload_n 3, 1) := by decide +kernel
theorem dX8_mix_40 : decode cX8_mix 40 = .ok (.iload 4, 2) := by decide +kernel
theorem dX8_mix_42 : decode cX8_mix 42 = .ok (.invokevirtual 37, 3) := by decide +kernel
theorem dX8_mix_45 : decode cX8_mix 45 = .ok (.i2l, 1) := by decide +kernel
theorem dX8_mix_46 : decode cX8_mix 46 = .ok (.ladd, 1) := by decide +kernel
theorem dX8_mix_47 : decode cX8_mix 47 = .ok (.lstore_n 1, 1) := by decide +kernel
theorem dX8_mix_48 : decode cX8_mix 48 = .ok (.iinc 4 1, 3) := by decide +kernel
theorem dX8_mix_51 : decode cX8_mix 51 = .ok (.goto (-28), 3) := by decide +kernel
theorem dX8_mix_54 : decode cX8_mix 54 = .ok (.iinc 3 1, 3) := by decide +kernel
theorem dX8_mix_57 : decode cX8_mix 57 = .ok (.goto (-55), 3) := by decide +kernel
theorem dX8_mix_60 : decode cX8_mix 60 = .ok (.lload_n 1, 1) := by decide +kernel
theorem dX8_mix_61 : decode cX8_mix 61 = .ok (.lreturn, 1) := by decide +kernel
theorem dX9_init_0 : decode cX9_init 0 = .ok (.aload_n 0, 1) := by decide +kernel
theorem dX9_init_1 : decode cX9_init 1 = .ok (.invokespecial 3, 3) := by decide +kernel
theorem dX9_init_4 : decode cX9_init 4 = .ok (.aload_n 0, 1) := by decide +kernel
theorem dX9_init_5 : decode cX9_init 5 = .ok (.bipush 6, 2) := by decide +kernel
theorem dX9_init_7 : decode cX9_init 7 = .ok (.newarray .int, 2) := by decide +kernel
theorem dX9_init_9 : decode cX9_init 9 = .ok (.putfield 9, 3) := by decide +kernel
theorem dX9_init_12 : decode cX9_init 12 = .ok (.aload_n 0, 1) := by decide +kernel
theorem dX9_init_13 : decode cX9_init 13 = .ok (.lconst 1, 1) := by decide +kernel
theorem dX9_init_14 : decode cX9_init 14 = .ok (.putfield 15, 3) := by decide +kernel
theorem dX9_init_17 : decode cX9_init 17 = .ok (.return_, 1) := by decide +kernel
theorem dX9_tell_0 : decode cX9_tell 0 = .ok (.aload_n 0, 1) := by decide +kernel
theorem dX9_tell_1 : decode cX9_tell 1 = .ok (.iload_n 1, 1) := by decide +kernel
theorem dX9_tell_2 : decode cX9_tell 2 = .ok (.putfield 19, 3) := by decide +kernel
theorem dX9_tell_5 : decode cX9_tell 5 = .ok (.return_, 1) := by decide +kernel
theorem dX9_latest_0 : decode cX9_latest 0 = .ok (.aload_n 0, 1) := by decide +kernel
theorem dX9_latest_1 : decode cX9_latest 1 = .ok (.getfield 19, 3) := by decide +kernel
theorem dX9_latest_4 : decode cX9_latest 4 = .ok (.ireturn, 1) := by decide +kernel
theorem dX9_found_0 : decode cX9_found 0 = .ok (.iload_n 1, 1) := by decide +kernel
theorem dX9_found_1 : decode cX9_found 1 = .ok (.iconst 1, 1) := by decide +kernel
theorem dX9_found_2 : decode cX9_found 2 = .ok (.if_icmp .lt 23, 3) := by decide +kernel
theorem dX9_found_5 : decode cX9_found 5 = .ok (.iload_n 1, 1) := by decide +kernel
theorem dX9_found_6 : decode cX9_found 6 = .ok (.iconst 5, 1) := by decide +kernel
theorem dX9_found_7 : decode cX9_found 7 = .ok (.if_icmp .gt 18, 3) := by decide +kernel
theorem dX9_found_10 : decode cX9_found 10 = .ok (.aload_n 0, 1) := by decide +kernel
theorem dX9_found_11 : decode cX9_found 11 = .ok (.iload_n 1, 1) := by decide +kernel
theorem dX9_found_12 : decode cX9_found 12 = .ok (.putfield 23, 3) := by decide +kernel
theorem dX9_found_15 : decode cX9_found 15 = .ok (.aload_n 0, 1) := by decide +kernel
theorem dX9_found_16 : decode cX9_found 16 = .ok (.getfield 9, 3) := by decide +kernel
theorem dX9_found_19 : decode cX9_found 19 = .ok (.iload_n 1, 1) := by decide +kernel
theorem dX9_found_20 : decode cX9_found 20 = .ok (.dup2, 1) := by decide +kernel
theorem dX9_found_21 : decode cX9_found 21 = .ok (.iaload, 1) := by decide +kernel
theorem dX9_found_22 : decode cX9_found 22 = .ok (.iconst 1, 1) := by decide +kernel
theorem dX9_found_23 : decode cX9_found 23 = .ok (.iadd, 1) := by decide +kernel
theorem dX9_found_24 : decode cX9_found 24 = .ok (.iastore, 1) := by decide +kernel
theorem dX9_found_25 : decode cX9_found 25 = .ok (.bipush (-3), 2) := by decide +kernel
theorem dX9_found_27 : decode cX9_found 27 = .ok (.ireturn, 1) := by decide +kernel
theorem dX9_tellFraction_0 : decode cX9_tellFraction 0 = .ok (.aload_n 0, 1) := by decide +kernel
theorem dX9_tellFraction_1 : decode cX9_tellFraction 1 = .ok (.iload_n 1, 1) := by decide +kernel
theorem dX9_tellFraction_2 : decode cX9_tellFraction 2 = .ok (.i2l, 1) := by decide +kernel
theorem dX9_tellFraction_3 : decode cX9_tellFraction 3 = .ok (.putfield 26, 3) := by decide +kernel
theorem dX9_tellFraction_6 : decode cX9_tellFraction 6 = .ok (.aload_n 0, 1) := by decide +kernel
theorem dX9_tellFraction_7 : decode cX9_tellFraction 7 = .ok (.iload_n 2, 1) := by decide +kernel
theorem dX9_tellFraction_8 : decode cX9_tellFraction 8 = .ok (.i2l, 1) := by decide +kernel
theorem dX9_tellFraction_9 : decode cX9_tellFraction 9 = .ok (.putfield 15, 3) := by decide +kernel
theorem dX9_tellFraction_12 : decode cX9_tellFraction 12 = .ok (.iload_n 2, 1) := by decide +kernel
theorem dX9_tellFraction_13 : decode cX9_tellFraction 13 = .ok (.istore_n 3, 1) := by decide +kernel
theorem dX9_tellFraction_14 : decode cX9_tellFraction 14 = .ok (.iload_n 3, 1) := by decide +kernel
theorem dX9_tellFraction_15 : decode cX9_tellFraction 15 = .ok (.iconst 1, 1) := by decide +kernel
theorem dX9_tellFraction_16 : decode cX9_tellFraction 16 = .ok (.if_icmp .le 38, 3) := by decide +kernel
theorem dX9_tellFraction_19 : decode cX9_tellFraction 19 = .ok (.iload_n 1, 1) := by decide +kernel
theorem dX9_tellFraction_20 : decode cX9_tellFraction 20 = .ok (.iload_n 3, 1) := by decide +kernel
theorem dX9_tellFraction_21 : decode cX9_tellFraction 21 = .ok (.irem, 1) := by decide +kernel
theorem dX9_tellFraction_22 : decode cX9_tellFraction 22 = .ok (.ifCond .ne 26, 3) := by decide +kernel
theorem dX9_tellFraction_25 : decode cX9_tellFraction 25 = .ok (.iload_n 2, 1) := by decide +kernel
theorem dX9_tellFraction_26 : decode cX9_tellFraction 26 = .ok (.iload_n 3, 1) := by decide +kernel
theorem dX9_tellFraction_27 : decode cX9_tellFraction 27 = .ok (.irem, 1) := by decide +kernel
theorem dX9_tellFraction_28 : decode cX9_tellFraction 28 = .ok (.ifCond .ne 20, 3) := by decide +kernel
theorem dX9_tellFraction_31 : decode cX9_tellFraction 31 = .ok (.aload_n 0, 1) := by decide +kernel
theorem dX9_tellFraction_32 : decode cX9_tellFraction 32 = .ok (.iload_n 1, 1) := by decide +kernel
theorem dX9_tellFraction_33 : decode cX9_tellFraction 33 = .ok (.iload_n 3, 1) := by decide +kernel
theorem dX9_tellFraction_34 : decode cX9_tellFraction 34 = .ok (.idiv, 1) := by decide +kernel
theorem dX9_tellFraction_35 : decode cX9_tellFraction 35 = .ok (.i2l, 1) := by decide +kernel
theorem dX9_tellFraction_36 : decode cX9_tellFraction 36 = .ok (.putfield 26, 3) := by decide +kernel
theorem dX9_tellFraction_39 : decode cX9_tellFraction 39 = .ok (.aload_n 0, 1) := by decide +kernel
theorem dX9_tellFraction_40 : decode cX9_tellFraction 40 = .ok (.iload_n 2, 1) := by decide +kernel
theorem dX9_tellFraction_41 : decode cX9_tellFraction 41 = .ok (.iload_n 3, 1) := by decide +kernel
theorem dX9_tellFraction_42 : decode cX9_tellFraction 42 = .ok (.idiv, 1) := by decide +kernel
theorem dX9_tellFraction_43 : decode cX9_tellFraction 43 = .ok (.i2l, 1) := by decide +kernel
theorem dX9_tellFraction_44 : decode cX9_tellFraction 44 = .ok (.putfield 15, 3) := by decide +kernel
theorem dX9_tellFraction_47 : decode cX9_tellFraction 47 = .ok (.return_, 1) := by decide +kernel
theorem dX9_tellFraction_48 : decode cX9_tellFraction 48 = .ok (.iinc 3 (-1), 3) := by decide +kernel
theorem dX9_tellFraction_51 : decode cX9_tellFraction 51 = .ok (.goto (-37), 3) := by decide +kernel
theorem dX9_tellFraction_54 : decode cX9_tellFraction 54 = .ok (.return_, 1) := by decide +kernel
theorem dX9_upperNumber_0 : decode cX9_upperNumber 0 = .ok (.aload_n 0, 1) := by decide +kernel
theorem dX9_upperNumber_1 : decode cX9_upperNumber 1 = .ok (.getfield 26, 3) := by decide +kernel
theorem dX9_upperNumber_4 : decode cX9_upperNumber 4 = .ok (.lreturn, 1) := by decide +kernel
theorem dX9_lowerNumber_0 : decode cX9_lowerNumber 0 = .ok (.aload_n 0, 1) := by decide +kernel
theorem dX9_lowerNumber_1 : decode cX9_lowerNumber 1 = .ok (.getfield 15, 3) := by decide +kernel
theorem dX9_lowerNumber_4 : decode cX9_lowerNumber 4 = .ok (.lreturn, 1) := by decide +kernel
set_option maxRecDepth 20000 in
theorem ggX10_init_X9_init : GoodIn wsX10_init wsX9_init := goodIn_r _ [45, 46, 2, 3, 47, 48, 49, 114, 115, 116, 117, 118] (by decide +kernel) (by decide +kernel)
set_option maxRecDepth 20000 in
theorem gX10_init_X9_init_n9 : GoodIn wsX10_init (wsX9_init) := ggX10_init_X9_init
set_option maxRecDepth 20000 in
theorem ggX10_init_X6_init : GoodIn wsX10_init wsX6_init := goodIn_r _ [52, 53, 2, 3, 54, 47, 55, 56, 129, 130] (by decide +kernel) (by decide +kernel)
set_option maxRecDepth 20000 in
theorem gX10_init_X6_init : GoodIn wsX10_init (wsX6_init) := ggX10_init_X6_init
set_option maxRecDepth 20000 in
theorem ggX10_init_X8_init : GoodIn wsX10_init wsX8_init := goodIn_r _ [59, 60, 2, 3, 61, 62, 63, 47, 64, 131, 132] (by decide +kernel) (by decide +kernel)
set_option maxRecDepth 20000 in
theorem gX10_init_X8_init : GoodIn wsX10_init (wsX8_init) := ggX10_init_X8_init
set_option maxRecDepth 20000 in
theorem ggX10_init_X5_init : GoodIn wsX10_init wsX5_init := goodIn_r _ [66, 67, 2, 3, 68, 21, 22, 69, 47, 70, 71, 72, 73, 74, 75, 76, 77, 78, 138, 139, 140, 141, 142, 143, 144, 145, 133, 134, 135, 136, 137] (by decide +kernel) (by decide +kernel)
set_option maxRecDepth 20000 in
theorem gX10_init_X5_init_n32 : GoodIn wsX10_init (wsX5_init) := ggX10_init_X5_init
set_option maxRecDepth 20000 in
theorem ggX10_init_X2_init : GoodIn wsX10_init wsX2_init := goodIn_r _ [72, 73, 2, 3, 47, 74, 75, 76, 77, 78, 138, 139, 140, 141, 142, 143, 144, 145] (by decide +kernel) (by decide +kernel)
set_option maxRecDepth 20000 in
theorem gX10_init_X2_init_n39 : GoodIn wsX10_init (wsX2_init) := ggX10_init_X2_init
set_option maxRecDepth 20000 in
theorem ggX10_init_X1_init : GoodIn wsX10_init wsX1_init := goodIn_r _ [81, 82, 2, 3, 47, 83, 84, 85, 86, 87, 26, 88, 146, 147, 148, 149] (by decide +kernel) (by decide +kernel)
set_option maxRecDepth 20000 in
theorem gX10_init_X1_init : GoodIn wsX10_init (wsX1_init) := ggX10_init_X1_init
set_option maxRecDepth 20000 in
theorem ggX10_init_X4_init : GoodIn wsX10_init wsX4_init := goodIn_r _ [90, 91, 2, 3, 47, 92, 150, 151] (by decide +kernel) (by decide +kernel)
set_option maxRecDepth 20000 in
theorem gX10_init_X4_init_n53 : GoodIn wsX10_init (wsX4_init) := ggX10_init_X4_init
set_option maxRecDepth 20000 in
theorem ggX10_init_X3_init : GoodIn wsX10_init wsX3_init := goodIn_r _ [94, 95, 2, 3, 47, 96, 97, 98, 99, 152, 153, 154, 155] (by decide +kernel) (by decide +kernel)
set_option maxRecDepth 20000 in
theorem gX10_init_X3_init_n60 : GoodIn wsX10_init (wsX3_init) := ggX10_init_X3_init
set_option maxRecDepth 20000 in
theorem ggX10_init_X0_init : GoodIn wsX10_init wsX0_init := goodIn_r _ [101, 102, 2, 3, 103, 21, 22, 104, 105, 29, 30, 106, 47, 107, 108, 71, 72, 73, 74, 75, 76, 77, 78, 89, 90, 91, 92, 138, 139, 140, 141, 142, 143, 144, 145, 156, 157, 158, 159, 150, 151] (by decide +kernel) (by decide +kernel)
set_option maxRecDepth 20000 in
theorem gX10_init_X0_init_n67 : GoodIn wsX10_init (wsX0_init) := ggX10_init_X0_init
set_option maxRecDepth 20000 in
theorem ggX10_init_X7_init : GoodIn wsX10_init wsX7_init := goodIn_r _ [110, 111, 2, 3, 47, 112, 113, 160, 161, 162] (by decide +kernel) (by decide +kernel)
set_option maxRecDepth 20000 in
theorem gX10_init_X7_init_n74 : GoodIn wsX10_init (wsX7_init) := ggX10_init_X7_init
theorem dX10_init_0 : decode cX10_init 0 = .ok (.aload_n 0, 1) := by decide +kernel
theorem dX10_init_1 : decode cX10_init 1 = .ok (.invokespecial 1, 3) := by decide +kernel
theorem dX10_init_4 : decode cX10_init 4 = .ok (.aload_n 0, 1) := by decide +kernel
theorem dX10_init_5 : decode cX10_init 5 = .ok (.new 7, 3) := by decide +kernel
theorem dX10_init_8 : decode cX10_init 8 = .ok (.dup, 1) := by decide +kernel
theorem dX10_init_9 : decode cX10_init 9 = .ok (.invokespecial 9, 3) := by decide +kernel
theorem dX10_init_12 : decode cX10_init 12 = .ok (.putfield 10, 3) := by decide +kernel
theorem dX10_init_15 : decode cX10_init 15 = .ok (.aload_n 0, 1) := by decide +kernel
theorem dX10_init_16 : decode cX10_init 16 = .ok (.new 16, 3) := by decide +kernel
theorem dX10_init_19 : decode cX10_init 19 = .ok (.dup, 1) := by decide +kernel
theorem dX10_init_20 : decode cX10_init 20 = .ok (.invokespecial 18, 3) := by decide +kernel
theorem dX10_init_23 : decode cX10_init 23 = .ok (.putfield 19, 3) := by decide +kernel
theorem dX10_init_26 : decode cX10_init 26 = .ok (.aload_n 0, 1) := by decide +kernel
theorem dX10_init_27 : decode cX10_init 27 = .ok (.new 23, 3) := by decide +kernel
theorem dX10_init_30 : decode cX10_init 30 = .ok (.dup, 1) := by decide +kernel
theorem dX10_init_31 : decode cX10_init 31 = .ok (.invokespecial 25, 3) := by decide +kernel
theorem dX10_init_34 : decode cX10_init 34 = .ok (.putfield 26, 3) := by decide +kernel
theorem dX10_init_37 : decode cX10_init 37 = .ok (.aload_n 0, 1) := by decide +kernel
theorem dX10_init_38 : decode cX10_init 38 = .ok (.new 30, 3) := by decide +kernel
theorem dX10_init_41 : decode cX10_init 41 = .ok (.dup, 1) := by decide +kernel
theorem dX10_init_42 : decode cX10_init 42 = .ok (.invokespecial 32, 3) := by decide +kernel
theorem dX10_init_45 : decode cX10_init 45 = .ok (.putfield 33, 3) := by decide +kernel
theorem dX10_init_48 : decode cX10_init 48 = .ok (.aload_n 0, 1) := by decide +kernel
theorem dX10_init_49 : decode cX10_init 49 = .ok (.new 37, 3) := by decide +kernel
theorem dX10_init_52 : decode cX10_init 52 = .ok (.dup, 1) := by decide +kernel
theorem dX10_init_53 : decode cX10_init 53 = .ok (.invokespecial 39, 3) := by decide +kernel
theorem dX10_init_56 : decode cX10_init 56 = .ok (.putfield 40, 3) := by decide +kernel
theorem dX10_init_59 : decode cX10_init 59 = .ok (.aload_n 0, 1) := by decide +kernel
theorem dX10_init_60 : decode cX10_init 60 = .ok (.new 44, 3) := by decide +kernel
theorem dX10_init_63 : decode cX10_init 63 = .ok (.dup, 1) := by decide +kernel
theorem dX10_init_64 : decode cX10_init 64 = .ok (.invokespecial 46, 3) := by decide +kernel
theorem dX10_init_67 : decode cX10_init 67 = .ok (.putfield 47, 3) := by decide +kernel
theorem dX10_init_70 : decode cX10_init 70 = .ok (.aload_n 0, 1) := by decide +kernel
theorem dX10_init_71 : decode cX10_init 71 = .ok (.new 51, 3) := by decide +kernel
theorem dX10_init_74 : decode cX10_init 74 = .ok (.dup, 1) := by decide +kernel
theorem dX10_init_75 : decode cX10_init 75 = .ok (.invokespecial 53, 3) := by decide +kernel
theorem dX10_init_78 : decode cX10_init 78 = .ok (.putfield 54, 3) := by decide +kernel
theorem dX10_init_81 : decode cX10_init 81 = .ok (.aload_n 0, 1) := by decide +kernel
theorem dX10_init_82 : decode cX10_init 82 = .ok (.new 58, 3) := by decide +kernel
theorem dX10_init_85 : decode cX10_init 85 = .ok (.dup, 1) := by decide +kernel
theorem dX10_init_86 : decode cX10_init 86 = .ok (.invokespecial 60, 3) := by decide +kernel
theorem dX10_init_89 : decode cX10_init 89 = .ok (.putfield 61, 3) := by decide +kernel
theorem dX10_init_92 : decode cX10_init 92 = .ok (.aload_n 0, 1) := by decide +kernel
theorem dX10_init_93 : decode cX10_init 93 = .ok (.new 65, 3) := by decide +kernel
theorem dX10_init_96 : decode cX10_init 96 = .ok (.dup, 1) := by decide +kernel
theorem dX10_init_97 : decode cX10_init 97 = .ok (.invokespecial 67, 3) := by decide +kernel
theorem dX10_init_100 : decode cX10_init 100 = .ok (.putfield 68, 3) := by decide +kernel
theorem dX10_init_103 : decode cX10_init 103 = .ok (.aload_n 0, 1) := by decide +kernel
theorem dX10_init_104 : decode cX10_init 104 = .ok (.new 72, 3) := by decide +kernel
theorem dX10_init_107 : decode cX10_init 107 = .ok (.dup, 1) := by decide +kernel
theorem dX10_init_108 : decode cX10_init 108 = .ok (.invokespecial 74, 3) := by decide +kernel
theorem dX10_init_111 : decode cX10_init 111 = .ok (.putfield 75, 3) := by decide +kernel
theorem dX10_init_114 : decode cX10_init 114 = .ok (.return_, 1) := by decide +kernel
set_option maxRecDepth 20000 in
theorem ggX10_row_X6_isNumber : GoodIn wsX10_row wsX6_isNumber := goodIn_r _ [7] (by decide +kernel) (by decide +kernel)
set_option maxRecDepth 20000 in
theorem gX10_row_X6_isNumber : GoodIn wsX10_row (wsV RX10 79 RX6 yX6_isNumber wsX6_isNumber) := goodIn_app (goodIn_of _ (by decide +kernel)) ggX10_row_X6_isNumber
set_option maxRecDepth 20000 in
theorem ggX10_row_X9_found : GoodIn wsX10_row wsX9_found := goodIn_r _ [12, 13, 14, 32, 33, 34, 35, 36] (by decide +kernel) (by decide +kernel)
set_option maxRecDepth 20000 in
theorem gX10_row_X9_found : GoodIn wsX10_row (wsV RX10 83 RX9 yX9_found wsX9_found) := goodIn_app (goodIn_of _ (by decide +kernel)) ggX10_row_X9_found
set_option maxRecDepth 20000 in
theorem ggX10_row_X6_make : GoodIn wsX10_row wsX6_make := goodIn_r _ [18, 19, 20, 21, 4, 5, 6, 7, 37, 38] (by decide +kernel) (by decide +kernel)
set_option maxRecDepth 20000 in
theorem gX10_row_X6_make : GoodIn wsX10_row (wsV RX10 87 RX6 yX6_make wsX6_make) := goodIn_app (goodIn_of _ (by decide +kernel)) ggX10_row_X6_make
theorem dX10_row_0 : decode cX10_row 0 = .ok (.aload_n 0, 1) := by decide +kernel
theorem dX10_row_1 : decode cX10_row 1 = .ok (.getfield 19, 3) := by decide +kernel
theorem dX10_row_4 : decode cX10_row 4 = .ok (.iload_n 1, 1) := by decide +kernel
theorem dX10_row_5 : decode cX10_row 5 = .ok (.invokevirtual 79, 3) := by decide +kernel
theorem dX10_row_8 : decode cX10_row 8 = .ok (.ifCond .eq 9, 3) := by decide +kernel
theorem dX10_row_11 : decode cX10_row 11 = .ok (.iload_n 2, 1) := by decide +kernel
theorem dX10_row_12 : decode cX10_row 12 = .ok (.bipush 60, 2) := by decide +kernel
theorem dX10_row_14 : decode cX10_row 14 = .ok (.if_icmp .le 5, 3) := by decide +kernel
theorem dX10_row_17 : decode cX10_row 17 = .ok (.iconst (-1), 1) := by decide +kernel
theorem dX10_row_18 : decode cX10_row 18 = .ok (.ireturn, 1) := by decide +kernel
theorem dX10_row_19 : decode cX10_row 19 = .ok (.iload_n 2, 1) := by decide +kernel
theorem dX10_row_20 : decode cX10_row 20 = .ok (.ifCond .ge 12, 3) := by decide +kernel
theorem dX10_row_23 : decode cX10_row 23 = .ok (.aload_n 0, 1) := by decide +kernel
theorem dX10_row_24 : decode cX10_row 24 = .ok (.getfield 10, 3) := by decide +kernel
theorem dX10_row_27 : decode cX10_row 27 = .ok (.iconst 5, 1) := by decide +kernel
theorem dX10_row_28 : decode cX10_row 28 = .ok (.invokevirtual 83, 3) := by decide +kernel
theorem dX10_row_31 : decode cX10_row 31 = .ok (.ireturn, 1) := by decide +kernel
theorem dX10_row_32 : decode cX10_row 32 = .ok (.aload_n 0, 1) := by decide +kernel
theorem dX10_row_33 : decode cX10_row 33 = .ok (.getfield 19, 3) := by decide +kernel
theorem dX10_row_36 : decode cX10_row 36 = .ok (.iload_n 1, 1) := by decide +kernel
theorem dX10_row_37 : decode cX10_row 37 = .ok (.iload_n 2, 1) := by decide +kernel
theorem dX10_row_38 : decode cX10_row 38 = .ok (.invokevirtual 87, 3) := by decide +kernel
theorem dX10_row_41 : decode cX10_row 41 = .ok (.iload_n 2, 1) := by decide +kernel
theorem dX10_row_42 : decode cX10_row 42 = .ok (.ireturn, 1) := by decide +kernel
set_option maxRecDepth 20000 in
theorem ggX10_lay_X10_placeRefusal : GoodIn wsX10_lay wsX10_placeRefusal := goodIn_r _ [7, 2, 1, 8, 9, 10, 6, 11, 12, 13, 14, 15, 16, 17, 18, 19, 20, 21, 22, 23, 24, 25, 26, 27, 28, 29, 30, 31, 32, 33, 34, 35, 36, 37, 53, 54, 55, 56, 57, 58, 59, 60, 61, 62, 63, 64, 65, 66, 67, 68, 69] (by decide +kernel) (by decide +kernel)
set_option maxRecDepth 20000 in
theorem gX10_lay_X10_placeRefusal : GoodIn wsX10_lay (wsV RX10 91 RX10 yX10_placeRefusal wsX10_placeRefusal) := goodIn_app (goodIn_of _ (by decide +kernel)) ggX10_lay_X10_placeRefusal
set_option maxRecDepth 20000 in
theorem ggX10_lay_X6_get : GoodIn wsX10_lay wsX6_get := goodIn_r _ [41, 42, 43, 35, 36, 15, 37, 21, 22, 23, 24, 25, 26, 13, 14, 16, 63, 64] (by decide +kernel) (by decide +kernel)
set_option maxRecDepth 20000 in
theorem gX10_lay_X6_get : GoodIn wsX10_lay (wsV RX10 95 RX6 yX6_get wsX6_get) := goodIn_app (goodIn_of _ (by decide +kernel)) ggX10_lay_X6_get
set_option maxRecDepth 20000 in
theorem ggX10_lay_X9_tell : GoodIn wsX10_lay wsX9_tell := goodIn_r _ [47, 48, 65, 66, 67, 68, 69] (by decide +kernel) (by decide +kernel)
set_option maxRecDepth 20000 in
theorem gX10_lay_X9_tell : GoodIn wsX10_lay (wsV RX10 98 RX9 yX9_tell wsX9_tell) := goodIn_app (goodIn_of _ (by decide +kernel)) ggX10_lay_X9_tell
set_option maxRecDepth 20000 in
theorem ggX10_lay_X6_set : GoodIn wsX10_lay wsX6_set := goodIn_r _ [52, 42, 43, 35, 36, 15, 37, 21, 22, 23, 24, 25, 26, 13, 14, 16, 63, 64] (by decide +kernel) (by decide +kernel)
set_option maxRecDepth 20000 in
theorem gX10_lay_X6_set : GoodIn wsX10_lay (wsV RX10 102 RX6 yX6_set wsX6_set) := goodIn_app (goodIn_of _ (by decide +kernel)) ggX10_lay_X6_set
theorem dX10_lay_0 : decode cX10_lay 0 = .ok (.aload_n 0, 1) := by decide +kernel
theorem dX10_lay_1 : decode cX10_lay 1 = .ok (.iload_n 1, 1) := by decide +kernel
theorem dX10_lay_2 : decode cX10_lay 2 = .ok (.iload_n 2, 1) := by decide +kernel
theorem dX10_lay_3 : decode cX10_lay 3 = .ok (.invokevirtual 91, 3) := by decide +kernel
theorem dX10_lay_6 : decode cX10_lay 6 = .ok (.istore 4, 2) := by decide +kernel
theorem dX10_lay_8 : decode cX10_lay 8 = .ok (.iload 4, 2) := by decide +kernel
theorem dX10_lay_10 : decode cX10_lay 10 = .ok (.ifCond .eq 6, 3) := by decide +kernel
theorem dX10_lay_13 : decode cX10_lay 13 = .ok (.iload 4, 2) := by decide +kernel
theorem dX10_lay_15 : decode cX10_lay 15 = .ok (.ireturn, 1) := by decide +kernel
theorem dX10_lay_16 : decode cX10_lay 16 = .ok (.aload_n 0, 1) := by decide +kernel
theorem dX10_lay_17 : decode cX10_lay 17 = .ok (.getfield 10, 3) := by decide +kernel
theorem dX10_lay_20 : decode cX10_lay 20 = .ok (.aload_n 0, 1) := by decide +kernel
theorem dX10_lay_21 : decode cX10_lay 21 = .ok (.getfield 19, 3) := by decide +kernel
theorem dX10_lay_24 : decode cX10_lay 24 = .ok (.iload_n 1, 1) := by decide +kernel
theorem dX10_lay_25 : decode cX10_lay 25 = .ok (.iload_n 2, 1) := by decide +kernel
theorem dX10_lay_26 : decode cX10_lay 26 = .ok (.invokevirtual 95, 3) := by decide +kernel
theorem dX10_lay_29 : decode cX10_lay 29 = .ok (.invokevirtual 98, 3) := by decide +kernel
theorem dX10_lay_32 : decode cX10_lay 32 = .ok (.aload_n 0, 1) := by decide +kernel
theorem dX10_lay_33 : decode cX10_lay 33 = .ok (.getfield 19, 3) := by decide +kernel
theorem dX10_lay_36 : decode cX10_lay 36 = .ok (.iload_n 1, 1) := by decide +kernel
theorem dX10_lay_37 : decode cX10_lay 37 = .ok (.iload_n 2, 1) := by decide +kernel
theorem dX10_lay_38 : decode cX10_lay 38 = .ok (.iload_n 3, 1) := by decide +kernel
theorem dX10_lay_39 : decode cX10_lay 39 = .ok (.invokevirtual 102, 3) := by decide +kernel
theorem dX10_lay_42 : decode cX10_lay 42 = .ok (.iconst 1, 1) := by decide +kernel
theorem dX10_lay_43 : decode cX10_lay 43 = .ok (.ireturn, 1) := by decide +kernel
set_option maxRecDepth 20000 in
theorem ggX10_at_X10_placeRefusal : GoodIn wsX10_at wsX10_placeRefusal := goodIn_r _ [7, 2, 1, 8, 9, 10, 6, 11, 12, 13, 14, 15, 16, 17, 18, 19, 20, 21, 22, 23, 24, 25, 26, 27, 28, 29, 30, 31, 32, 33, 34, 35, 36, 37, 49, 50, 51, 52, 53, 54, 55, 56, 57, 58, 59, 60, 61, 62, 63, 64, 65] (by decide +kernel) (by decide +kernel)
set_option maxRecDepth 20000 in
theorem gX10_at_X10_placeRefusal : GoodIn wsX10_at (wsV RX10 91 RX10 yX10_placeRefusal wsX10_placeRefusal) := goodIn_app (goodIn_of _ (by decide +kernel)) ggX10_at_X10_placeRefusal
set_option maxRecDepth 20000 in
theorem ggX10_at_X6_get : GoodIn wsX10_at wsX6_get := goodIn_r _ [41, 42, 43, 35, 36, 15, 37, 21, 22, 23, 24, 25, 26, 13, 14, 16, 59, 60] (by decide +kernel) (by decide +kernel)
set_option maxRecDepth 20000 in
theorem gX10_at_X6_get : GoodIn wsX10_at (wsV RX10 95 RX6 yX6_get wsX6_get) := goodIn_app (goodIn_of _ (by decide +kernel)) ggX10_at_X6_get
set_option maxRecDepth 20000 in
theorem ggX10_at_X9_tell : GoodIn wsX10_at wsX9_tell := goodIn_r _ [47, 48, 61, 62, 63, 64, 65] (by decide +kernel) (by decide +kernel)
set_option maxRecDepth 20000 in
theorem gX10_at_X9_tell : GoodIn wsX10_at (wsV RX10 98 RX9 yX9_tell wsX9_tell) := goodIn_app (goodIn_of _ (by decide +kernel)) ggX10_at_X9_tell
theorem dX10_at_0 : decode cX10_at 0 = .ok (.aload_n 0, 1) := by decide +kernel
theorem dX10_at_1 : decode cX10_at 1 = .ok (.iload_n 1, 1) := by decide +kernel
theorem dX10_at_2 : decode cX10_at 2 = .ok (.iload_n 2, 1) := by decide +kernel
theorem dX10_at_3 : decode cX10_at 3 = .ok (.invokevirtual 91, 3) := by decide +kernel
theorem dX10_at_6 : decode cX10_at 6 = .ok (.istore_n 3, 1) := by decide +kernel
theorem dX10_at_7 : decode cX10_at 7 = .ok (.iload_n 3, 1) := by decide +kernel
theorem dX10_at_8 : decode cX10_at 8 = .ok (.ifCond .eq 5, 3) := by decide +kernel
theorem dX10_at_11 : decode cX10_at 11 = .ok (.iload_n 3, 1) := by decide +kernel
theorem dX10_at_12 : decode cX10_at 12 = .ok (.ireturn, 1) := by decide +kernel
theorem dX10_at_13 : decode cX10_at 13 = .ok (.aload_n 0, 1) := by decide +kernel
theorem dX10_at_14 : decode cX10_at 14 = .ok (.getfield 10, 3) := by decide +kernel
theorem dX10_at_17 : decode cX10_at 17 = .ok (.aload_n 0, 1) := by decide +kernel
theorem dX10_at_18 : decode cX10_at 18 = .ok (.getfield 19, 3) := by decide +kernel
theorem dX10_at_21 : decode cX10_at 21 = .ok (.iload_n 1, 1) := by decide +kernel
theorem dX10_at_22 : decode cX10_at 22 = .ok (.iload_n 2, 1) := by decide +kernel
theorem dX10_at_23 : decode cX10_at 23 = .ok (.invokevirtual 95, 3) := by decide +kernel
theorem dX10_at_26 : decode cX10_at 26 = .ok (.invokevirtual 98, 3) := by decide +kernel
theorem dX10_at_29 : decode cX10_at 29 = .ok (.iconst 1, 1) := by decide +kernel
theorem dX10_at_30 : decode cX10_at 30 = .ok (.ireturn, 1) := by decide +kernel
set_option maxRecDepth 20000 in
theorem ggX10_text_X8_isNumber : GoodIn wsX10_text wsX8_isNumber := goodIn_r _ [7] (by decide +kernel) (by decide +kernel)
set_option maxRecDepth 20000 in
theorem gX10_text_X8_isNumber : GoodIn wsX10_text (wsV RX10 130 RX8 yX8_isNumber wsX8_isNumber) := goodIn_app (goodIn_of _ (by decide +kernel)) ggX10_text_X8_isNumber
set_option maxRecDepth 20000 in
theorem ggX10_text_X9_found : GoodIn wsX10_text wsX9_found := goodIn_r _ [12, 13, 14, 32, 33, 34, 35, 36] (by decide +kernel) (by decide +kernel)
set_option maxRecDepth 20000 in
theorem gX10_text_X9_found : GoodIn wsX10_text (wsV RX10 83 RX9 yX9_found wsX9_found) := goodIn_app (goodIn_of _ (by decide +kernel)) ggX10_text_X9_found
set_option maxRecDepth 20000 in
theorem ggX10_text_X8_make : GoodIn wsX10_text wsX8_make := goodIn_r _ [18, 19, 20, 21, 4, 5, 6, 7, 37, 38] (by decide +kernel) (by decide +kernel)
set_option maxRecDepth 20000 in
theorem gX10_text_X8_make : GoodIn wsX10_text (wsV RX10 131 RX8 yX8_make wsX8_make) := goodIn_app (goodIn_of _ (by decide +kernel)) ggX10_text_X8_make
theorem dX10_text_0 : decode cX10_text 0 = .ok (.aload_n 0, 1) := by decide +kernel
theorem dX10_text_1 : decode cX10_text 1 = .ok (.getfield 26, 3) := by decide +kernel
theorem dX10_text_4 : decode cX10_text 4 = .ok (.iload_n 1, 1) := by decide +kernel
theorem dX10_text_5 : decode cX10_text 5 = .ok (.invokevirtual 130, 3) := by decide +kernel
theorem dX10_text_8 : decode cX10_text 8 = .ok (.ifCond .eq 9, 3) := by decide +kernel
theorem dX10_text_11 : decode cX10_text 11 = .ok (.iload_n 2, 1) := by decide +kernel
theorem dX10_text_12 : decode cX10_text 12 = .ok (.bipush 100, 2) := by decide +kernel
theorem dX10_text_14 : decode cX10_text 14 = .ok (.if_icmp .le 5, 3) := by decide +kernel
theorem dX10_text_17 : decode cX10_text 17 = .ok (.iconst (-1), 1) := by decide +kernel
theorem dX10_text_18 : decode cX10_text 18 = .ok (.ireturn, 1) := by decide +kernel
theorem dX10_text_19 : decode cX10_text 19 = .ok (.iload_n 2, 1) := by decide +kernel
theorem dX10_text_20 : decode cX10_text 20 = .ok (.ifCond .ge 12, 3) := by decide +kernel
theorem dX10_text_23 : decode cX10_text 23 = .ok (.aload_n 0, 1) := by decide +kernel
theorem dX10_text_24 : decode cX10_text 24 = .ok (.getfield 10, 3) := by decide +kernel
theorem dX10_text_27 : decode cX10_text 27 = .ok (.iconst 5, 1) := by decide +kernel
theorem dX10_text_28 : decode cX10_text 28 = .ok (.invokevirtual 83, 3) := by decide +kernel
theorem dX10_text_31 : decode cX10_text 31 = .ok (.ireturn, 1) := by decide +kernel
theorem dX10_text_32 : decode cX10_text 32 = .ok (.aload_n 0, 1) := by decide +kernel
theorem dX10_text_33 : decode cX10_text 33 = .ok (.getfield 26, 3) := by decide +kernel
theorem dX10_text_36 : decode cX10_text 36 = .ok (.iload_n 1, 1) := by decide +kernel
theorem dX10_text_37 : decode cX10_text 37 = .ok (.iload_n 2, 1) := by decide +kernel
theorem dX10_text_38 : decode cX10_text 38 = .ok (.invokevirtual 131, 3) := by decide +kernel
theorem dX10_text_41 : decode cX10_text 41 = .ok (.iload_n 2, 1) := by decide +kernel
theorem dX10_text_42 : decode cX10_text 42 = .ok (.ireturn, 1) := by decide +kernel
set_option maxRecDepth 20000 in
theorem ggX10_put_X10_textRefusal : GoodIn wsX10_put wsX10_textRefusal := goodIn_r _ [7, 1, 2, 8, 9, 10, 11, 12, 13, 14, 15, 16, 17, 18, 19, 20, 21, 22, 23, 24, 25, 26, 27, 28, 29, 44, 45, 46, 47, 48, 49, 50, 51, 52, 53, 54, 55, 56, 57, 58, 59, 60] (by decide +kernel) (by decide +kernel)
set_option maxRecDepth 20000 in
theorem gX10_put_X10_textRefusal : GoodIn wsX10_put (wsV RX10 132 RX10 yX10_textRefusal wsX10_textRefusal) := goodIn_app (goodIn_of _ (by decide +kernel)) ggX10_put_X10_textRefusal
set_option maxRecDepth 20000 in
theorem ggX10_put_X8_isPlace : GoodIn wsX10_put wsX8_isPlace := goodIn_r _ [33, 17, 18, 19, 11, 20, 21, 22, 9, 10, 12, 54, 55] (by decide +kernel) (by decide +kernel)
set_option maxRecDepth 20000 in
theorem gX10_put_X8_isPlace : GoodIn wsX10_put (wsV RX10 135 RX8 yX8_isPlace wsX8_isPlace) := goodIn_app (goodIn_of _ (by decide +kernel)) ggX10_put_X8_isPlace
set_option maxRecDepth 20000 in
theorem ggX10_put_X9_found : GoodIn wsX10_put wsX9_found := goodIn_r _ [27, 28, 29, 56, 57, 58, 59, 60] (by decide +kernel) (by decide +kernel)
set_option maxRecDepth 20000 in
theorem gX10_put_X9_found : GoodIn wsX10_put (wsV RX10 83 RX9 yX9_found wsX9_found) := goodIn_app (goodIn_of _ (by decide +kernel)) ggX10_put_X9_found
set_option maxRecDepth 20000 in
theorem ggX10_put_X8_get : GoodIn wsX10_put wsX8_get := goodIn_r _ [37, 38, 39, 31, 32, 11, 33, 17, 18, 19, 20, 21, 22, 9, 10, 12, 54, 55] (by decide +kernel) (by decide +kernel)
set_option maxRecDepth 20000 in
theorem gX10_put_X8_get : GoodIn wsX10_put (wsV RX10 139 RX8 yX8_get wsX8_get) := goodIn_app (goodIn_of _ (by decide +kernel)) ggX10_put_X8_get
set_option maxRecDepth 20000 in
theorem ggX10_put_X8_set : GoodIn wsX10_put wsX8_set := goodIn_r _ [43, 38, 39, 31, 32, 11, 33, 17, 18, 19, 20, 21, 22, 9, 10, 12, 54, 55] (by decide +kernel) (by decide +kernel)
set_option maxRecDepth 20000 in
theorem gX10_put_X8_set : GoodIn wsX10_put (wsV RX10 140 RX8 yX8_set wsX8_set) := goodIn_app (goodIn_of _ (by decide +kernel)) ggX10_put_X8_set
theorem dX10_put_0 : decode cX10_put 0 = .ok (.aload_n 0, 1) := by decide +kernel
theorem dX10_put_1 : decode cX10_put 1 = .ok (.iload_n 1, 1) := by decide +kernel
theorem dX10_put_2 : decode cX10_put 2 = .ok (.invokevirtual 132, 3) := by decide +kernel
theorem dX10_put_5 : decode cX10_put 5 = .ok (.istore 4, 2) := by decide +kernel
theorem dX10_put_7 : decode cX10_put 7 = .ok (.iload 4, 2) := by decide +kernel
theorem dX10_put_9 : decode cX10_put 9 = .ok (.ifCond .eq 6, 3) := by decide +kernel
theorem dX10_put_12 : decode cX10_put 12 = .ok (.iload 4, 2) := by decide +kernel
theorem dX10_put_14 : decode cX10_put 14 = .ok (.ireturn, 1) := by decide +kernel
theorem dX10_put_15 : decode cX10_put 15 = .ok (.aload_n 0, 1) := by decide +kernel
theorem dX10_put_16 : decode cX10_put 16 = .ok (.getfield 26, 3) := by decide +kernel
theorem dX10_put_19 : decode cX10_put 19 = .ok (.iload_n 1, 1) := by decide +kernel
theorem dX10_put_20 : decode cX10_put 20 = .ok (.iload_n 2, 1) := by decide +kernel
theorem dX10_put_21 : decode cX10_put 21 = .ok (.invokevirtual 135, 3) := by decide +kernel
theorem dX10_put_24 : decode cX10_put 24 = .ok (.ifCond .ne 12, 3) := by decide +kernel
theorem dX10_put_27 : decode cX10_put 27 = .ok (.aload_n 0, 1) := by decide +kernel
theorem dX10_put_28 : decode cX10_put 28 = .ok (.getfield 10, 3) := by decide +kernel
theorem dX10_put_31 : decode cX10_put 31 = .ok (.iconst 2, 1) := by decide +kernel
theorem dX10_put_32 : decode cX10_put 32 = .ok (.invokevirtual 83, 3) := by decide +kernel
theorem dX10_put_35 : decode cX10_put 35 = .ok (.ireturn, 1) := by decide +kernel
theorem dX10_put_36 : decode cX10_put 36 = .ok (.aload_n 0, 1) := by decide +kernel
theorem dX10_put_37 : decode cX10_put 37 = .ok (.getfield 26, 3) := by decide +kernel
theorem dX10_put_40 : decode cX10_put 40 = .ok (.iload_n 1, 1) := by decide +kernel
theorem dX10_put_41 : decode cX10_put 41 = .ok (.iload_n 2, 1) := by decide +kernel
theorem dX10_put_42 : decode cX10_put 42 = .ok (.invokevirtual 139, 3) := by decide +kernel
theorem dX10_put_45 : decode cX10_put 45 = .ok (.istore 5, 2) := by decide +kernel
theorem dX10_put_47 : decode cX10_put 47 = .ok (.aload_n 0, 1) := by decide +kernel
theorem dX10_put_48 : decode cX10_put 48 = .ok (.getfield 26, 3) := by decide +kernel
theorem dX10_put_51 : decode cX10_put 51 = .ok (.iload_n 1, 1) := by decide +kernel
theorem dX10_put_52 : decode cX10_put 52 = .ok (.iload_n 2, 1) := by decide +kernel
theorem dX10_put_53 : decode cX10_put 53 = .ok (.iload_n 3, 1) := by decide +kernel
theorem dX10_put_54 : decode cX10_put 54 = .ok (.i2b, 1) := by decide +kernel
theorem dX10_put_55 : decode cX10_put 55 = .ok (.invokevirtual 140, 3) := by decide +kernel
theorem dX10_put_58 : decode cX10_put 58 = .ok (.iload 5, 2) := by decide +kernel
theorem dX10_put_60 : decode cX10_put 60 = .ok (.sipush 1000, 3) := by decide +kernel
theorem dX10_put_63 : decode cX10_put 63 = .ok (.iadd, 1) := by decide +kernel
theorem dX10_put_64 : decode cX10_put 64 = .ok (.ireturn, 1) := by decide +kernel
set_option maxRecDepth 20000 in
theorem ggX10_fault_X10_textRefusal : GoodIn wsX10_fault wsX10_textRefusal := goodIn_r _ [7, 2, 8, 9, 10, 11, 12, 13, 14, 15, 16, 17, 18, 19, 20, 21, 22, 23, 24, 25, 26, 27, 28, 29, 30, 154, 155, 156, 157, 158, 159, 160, 161, 162, 163, 164, 165, 166, 167, 168, 169, 170] (by decide +kernel) (by decide +kernel)
set_option maxRecDepth 20000 in
theorem gX10_fault_X10_textRefusal : GoodIn wsX10_fault (wsV RX10 132 RX10 yX10_textRefusal wsX10_textRefusal) := goodIn_app (goodIn_of _ (by decide +kernel)) ggX10_fault_X10_textRefusal
set_option maxRecDepth 20000 in
theorem ggX10_fault_X5_read : GoodIn wsX10_fault wsX5_read := goodIn_r _ [35, 36, 37, 38, 39, 19, 20, 12, 21, 22, 23, 10, 11, 13, 40, 41, 42, 43, 44, 45, 46, 47, 48, 18, 49, 50, 51, 34, 52, 53, 54, 55, 56, 57, 58, 59, 60, 61, 62, 63, 64, 65, 66, 67, 68, 69, 70, 71, 72, 73, 74, 75, 76, 77, 78, 79, 80, 81, 82, 83, 84, 85, 86, 87, 88, 89, 90, 91, 92, 93, 94, 95, 96, 97, 98, 99, 100, 101, 102, 103, 104, 105, 106, 107, 108, 109, 110, 111, 112, 113, 114, 115, 116, 117, 118, 119, 120, 121, 122, 123, 124, 125, 126, 127, 128, 129, 130, 131, 132, 133, 134, 135, 136, 137, 138, 139, 140, 141, 142, 143, 144, 145, 146, 147, 148, 149, 150, 151, 152, 153, 171, 172, 173, 174, 175, 164, 165, 176, 177, 178, 179, 180, 181, 182, 183] (by decide +kernel) (by decide +kernel)
set_option maxRecDepth 20000 in
theorem gX10_fault_X5_read : GoodIn wsX10_fault (wsV RX10 143 RX5 yX5_read wsX5_read) := goodIn_app (goodIn_of _ (by decide +kernel)) ggX10_fault_X5_read
theorem dX10_fault_0 : decode cX10_fault 0 = .ok (.aload_n 0, 1) := by decide +kernel
theorem dX10_fault_1 : decode cX10_fault 1 = .ok (.iload_n 1, 1) := by decide +kernel
theorem dX10_fault_2 : decode cX10_fault 2 = .ok (.invokevirtual 132, 3) := by decide +kernel
theorem dX10_fault_5 : decode cX10_fault 5 = .ok (.istore_n 2, 1) := by decide +kernel
theorem dX10_fault_6 : decode cX10_fault 6 = .ok (.iload_n 2, 1) := by decide +kernel
theorem dX10_fault_7 : decode cX10_fault 7 = .ok (.ifCond .eq 5, 3) := by decide +kernel
theorem dX10_fault_10 : decode cX10_fault 10 = .ok (.iload_n 2, 1) := by decide +kernel
theorem dX10_fault_11 : decode cX10_fault 11 = .ok (.ireturn, 1) := by decide +kernel
theorem dX10_fault_12 : decode cX10_fault 12 = .ok (.aload_n 0, 1) := by decide +kernel
theorem dX10_fault_13 : decode cX10_fault 13 = .ok (.getfield 33, 3) := by decide +kernel
theorem dX10_fault_16 : decode cX10_fault 16 = .ok (.aload_n 0, 1) := by decide +kernel
theorem dX10_fault_17 : decode cX10_fault 17 = .ok (.getfield 26, 3) := by decide +kernel
theorem dX10_fault_20 : decode cX10_fault 20 = .ok (.iload_n 1, 1) := by decide +kernel
theorem dX10_fault_21 : decode cX10_fault 21 = .ok (.invokevirtual 143, 3) := by decide +kernel
theorem dX10_fault_24 : decode cX10_fault 24 = .ok (.ireturn, 1) := by decide +kernel
set_option maxRecDepth 20000 in
theorem ggX10_jail_X10_textRefusal : GoodIn wsX10_jail wsX10_textRefusal := goodIn_r _ [10, 2, 11, 12, 13, 14, 15, 16, 17, 18, 19, 20, 21, 22, 23, 24, 25, 26, 27, 28, 29, 30, 31, 32, 33, 193, 194, 195, 196, 197, 198, 199, 200, 201, 202, 203, 204, 205, 206, 207, 208, 209] (by decide +kernel) (by decide +kernel)
set_option maxRecDepth 20000 in
theorem gX10_jail_X10_textRefusal : GoodIn wsX10_jail (wsV RX10 132 RX10 yX10_textRefusal wsX10_textRefusal) := goodIn_app (goodIn_of _ (by decide +kernel)) ggX10_jail_X10_textRefusal
set_option maxRecDepth 20000 in
theorem ggX10_jail_X5_read : GoodIn wsX10_jail wsX5_read := goodIn_r _ [38, 39, 40, 41, 42, 22, 23, 15, 24, 25, 26, 13, 14, 16, 43, 44, 45, 46, 47, 48, 49, 50, 51, 21, 52, 53, 54, 37, 55, 56, 57, 58, 59, 60, 61, 62, 63, 64, 65, 66, 67, 68, 69, 70, 71, 72, 73, 74, 75, 76, 77, 78, 79, 80, 81, 82, 83, 84, 85, 86, 87, 88, 89, 90, 91, 92, 93, 94, 95, 96, 97, 98, 99, 100, 101, 102, 103, 104, 105, 106, 107, 108, 109, 110, 111, 112, 113, 114, 115, 116, 117, 118, 119, 120, 121, 122, 123, 124, 125, 126, 127, 128, 129, 130, 131, 132, 133, 134, 135, 136, 137, 138, 139, 140, 141, 142, 143, 144, 145, 146, 147, 148, 149, 150, 151, 152, 153, 154, 155, 156, 210, 211, 212, 213, 214, 203, 204, 215, 216, 217, 218, 219, 220, 221, 222] (by decide +kernel) (by decide +kernel)
set_option maxRecDepth 20000 in
theorem gX10_jail_X5_read : GoodIn wsX10_jail (wsV RX10 143 RX5 yX5_read wsX5_read) := goodIn_app (goodIn_of _ (by decide +kernel)) ggX10_jail_X5_read
set_option maxRecDepth 20000 in
theorem ggX10_jail_X5_draft : GoodIn wsX10_jail wsX5_draft := goodIn_r _ [160, 121, 210, 211, 212, 213, 214] (by decide +kernel) (by decide +kernel)
set_option maxRecDepth 20000 in
theorem gX10_jail_X5_draft : GoodIn wsX10_jail (wsV RX10 147 RX5 yX5_draft wsX5_draft) := goodIn_app (goodIn_of _ (by decide +kernel)) ggX10_jail_X5_draft
set_option maxRecDepth 20000 in
theorem ggX10_jail_X2_become : GoodIn wsX10_jail wsX2_become := goodIn_r _ [164, 127, 147, 148, 149, 150, 142, 165, 137, 138, 125, 139, 140, 141, 143, 144, 145, 146, 151, 123, 124, 126, 215, 216, 217, 218, 219, 220, 221, 222] (by decide +kernel) (by decide +kernel)
set_option maxRecDepth 20000 in
theorem gX10_jail_X2_become : GoodIn wsX10_jail (wsV RX10 151 RX2 yX2_become wsX2_become) := goodIn_app (goodIn_of _ (by decide +kernel)) ggX10_jail_X2_become
set_option maxRecDepth 20000 in
theorem ggX10_jail_X1_clear : GoodIn wsX10_jail wsX1_clear := goodIn_r _ [170, 171, 172, 173, 169, 174, 175, 176, 177, 178, 179, 180, 181, 182, 223, 224, 225, 226] (by decide +kernel) (by decide +kernel)
set_option maxRecDepth 20000 in
theorem gX10_jail_X1_clear : GoodIn wsX10_jail (wsV RX10 155 RX1 yX1_clear wsX1_clear) := goodIn_app (goodIn_of _ (by decide +kernel)) ggX10_jail_X1_clear
set_option maxRecDepth 20000 in
theorem ggX10_jail_X7_dropFrom : GoodIn wsX10_jail wsX7_dropFrom := goodIn_r _ [187, 188, 227, 228, 229] (by decide +kernel) (by decide +kernel)
set_option maxRecDepth 20000 in
theorem gX10_jail_X7_dropFrom : GoodIn wsX10_jail (wsV RX10 158 RX7 yX7_dropFrom wsX7_dropFrom) := goodIn_app (goodIn_of _ (by decide +kernel)) ggX10_jail_X7_dropFrom
set_option maxRecDepth 20000 in
theorem ggX10_jail_X2_cells : GoodIn wsX10_jail wsX2_cells := goodIn_r _ [192, 127, 215, 216, 217, 218, 219, 220, 221, 222] (by decide +kernel) (by decide +kernel)
set_option maxRecDepth 20000 in
theorem gX10_jail_X2_cells : GoodIn wsX10_jail (wsV RX10 161 RX2 yX2_cells wsX2_cells) := goodIn_app (goodIn_of _ (by decide +kernel)) ggX10_jail_X2_cells
theorem dX10_jail_0 : decode cX10_jail 0 = .ok (.aload_n 0, 1) := by decide +kernel
theorem dX10_jail_1 : decode cX10_jail 1 = .ok (.iload_n 1, 1) := by decide +kernel
theorem dX10_jail_2 : decode cX10_jail 2 = .ok (.invokevirtual 132, 3) := by decide +kernel
theorem dX10_jail_5 : decode cX10_jail 5 = .ok (.istore_n 2, 1) := by decide +kernel
theorem dX10_jail_6 : decode cX10_jail 6 = .ok (.iload_n 2, 1) := by decide +kernel
theorem dX10_jail_7 : decode cX10_jail 7 = .ok (.ifCond .eq 5, 3) := by decide +kernel
theorem dX10_jail_10 : decode cX10_jail 10 = .ok (.iload_n 2, 1) := by decide +kernel
theorem dX10_jail_11 : decode cX10_jail 11 = .ok (.ireturn, 1) := by decide +kernel
theorem dX10_jail_12 : decode cX10_jail 12 = .ok (.aload_n 0, 1) := by decide +kernel
theorem dX10_jail_13 : decode cX10_jail 13 = .ok (.getfield 33, 3) := by decide +kernel
theorem dX10_jail_16 : decode cX10_jail 16 = .ok (.aload_n 0, 1) := by decide +kernel
theorem dX10_jail_17 : decode cX10_jail 17 = .ok (.getfield 26, 3) := by decide +kernel
theorem dX10_jail_20 : decode cX10_jail 20 = .ok (.iload_n 1, 1) := by decide +kernel
theorem dX10_jail_21 : decode cX10_jail 21 = .ok (.invokevirtual 143, 3) := by decide +kernel
theorem dX10_jail_24 : decode cX10_jail 24 = .ok (.bipush (-9), 2) := by decide +kernel
theorem dX10_jail_26 : decode cX10_jail 26 = .ok (.if_icmp .eq 6, 3) := by decide +kernel
theorem dX10_jail_29 : decode cX10_jail 29 = .ok (.bipush (-4), 2) := by decide +kernel
theorem dX10_jail_31 : decode cX10_jail 31 = .ok (.ireturn, 1) := by decide +kernel
theorem dX10_jail_32 : decode cX10_jail 32 = .ok (.aload_n 0, 1) := by decide +kernel
theorem dX10_jail_33 : decode cX10_jail 33 = .ok (.getfield 40, 3) := by decide +kernel
theorem dX10_jail_36 : decode cX10_jail 36 = .ok (.aload_n 0, 1) := by decide +kernel
theorem dX10_jail_37 : decode cX10_jail 37 = .ok (.getfield 33, 3) := by decide +kernel
theorem dX10_jail_40 : decode cX10_jail 40 = .ok (.invokevirtual 147, 3) := by decide +kernel
theorem dX10_jail_43 : decode cX10_jail 43 = .ok (.invokevirtual 151, 3) := by decide +kernel
theorem dX10_jail_46 : decode cX10_jail 46 = .ok (.aload_n 0, 1) := by decide +kernel
theorem dX10_jail_47 : decode cX10_jail 47 = .ok (.getfield 47, 3) := by decide +kernel
theorem dX10_jail_50 : decode cX10_jail 50 = .ok (.invokevirtual 155, 3) := by decide +kernel
theorem dX10_jail_53 : decode cX10_jail 53 = .ok (.aload_n 0, 1) := by decide +kernel
theorem dX10_jail_54 : decode cX10_jail 54 = .ok (.getfield 75, 3) := by decide +kernel
theorem dX10_jail_57 : decode cX10_jail 57 = .ok (.iconst 0, 1) := by decide +kernel
theorem dX10_jail_58 : decode cX10_jail 58 = .ok (.invokevirtual 158, 3) := by decide +kernel
theorem dX10_jail_61 : decode cX10_jail 61 = .ok (.pop, 1) := by decide +kernel
theorem dX10_jail_62 : decode cX10_jail 62 = .ok (.aload_n 0, 1) := by decide +kernel
theorem dX10_jail_63 : decode cX10_jail 63 = .ok (.getfield 40, 3) := by decide +kernel
theorem dX10_jail_66 : decode cX10_jail 66 = .ok (.invokevirtual 161, 3) := by decide +kernel
theorem dX10_jail_69 : decode cX10_jail 69 = .ok (.ireturn, 1) := by decide +kernel
set_option maxRecDepth 20000 in
theorem ggX10_door_X2_isCell : GoodIn wsX10_door wsX2_isCell := goodIn_r _ [7, 8, 34, 35, 36, 37, 38, 39, 40, 41] (by decide +kernel) (by decide +kernel)
set_option maxRecDepth 20000 in
theorem gX10_door_X2_isCell : GoodIn wsX10_door (wsV RX10 165 RX2 yX2_isCell wsX2_isCell) := goodIn_app (goodIn_of _ (by decide +kernel)) ggX10_door_X2_isCell
set_option maxRecDepth 20000 in
theorem ggX10_door_X2_doorAnswer : GoodIn wsX10_door wsX2_doorAnswer := goodIn_r _ [12, 13, 14, 15, 16, 17, 4, 5, 6, 7, 8, 34, 35, 36, 37, 38, 39, 40, 41] (by decide +kernel) (by decide +kernel)
set_option maxRecDepth 20000 in
theorem gX10_door_X2_doorAnswer : GoodIn wsX10_door (wsV RX10 168 RX2 yX2_doorAnswer wsX2_doorAnswer) := goodIn_app (goodIn_of _ (by decide +kernel)) ggX10_door_X2_doorAnswer
set_option maxRecDepth 20000 in
theorem ggX10_door_X9_tell : GoodIn wsX10_door wsX9_tell := goodIn_r _ [22, 23, 42, 43, 44, 45, 46] (by decide +kernel) (by decide +kernel)
set_option maxRecDepth 20000 in
theorem gX10_door_X9_tell : GoodIn wsX10_door (wsV RX10 98 RX9 yX9_tell wsX9_tell) := goodIn_app (goodIn_of _ (by decide +kernel)) ggX10_door_X9_tell
theorem dX10_door_0 : decode cX10_door 0 = .ok (.aload_n 0, 1) := by decide +kernel
theorem dX10_door_1 : decode cX10_door 1 = .ok (.getfield 40, 3) := by decide +kernel
theorem dX10_door_4 : decode cX10_door 4 = .ok (.iload_n 1, 1) := by decide +kernel
theorem dX10_door_5 : decode cX10_door 5 = .ok (.invokevirtual 165, 3) := by decide +kernel
theorem dX10_door_8 : decode cX10_door 8 = .ok (.ifCond .eq 12, 3) := by decide +kernel
theorem dX10_door_11 : decode cX10_door 11 = .ok (.iload_n 2, 1) := by decide +kernel
theorem dX10_door_12 : decode cX10_door 12 = .ok (.ifCond .lt 8, 3) := by decide +kernel
theorem dX10_door_15 : decode cX10_door 15 = .ok (.iload_n 2, 1) := by decide +kernel
theorem dX10_door_16 : decode cX10_door 16 = .ok (.iconst 4, 1) := by decide +kernel
theorem dX10_door_17 : decode cX10_door 17 = .ok (.if_icmp .lt 5, 3) := by decide +kernel
theorem dX10_door_20 : decode cX10_door 20 = .ok (.iconst (-1), 1) := by decide +kernel
theorem dX10_door_21 : decode cX10_door 21 = .ok (.ireturn, 1) := by decide +kernel
theorem dX10_door_22 : decode cX10_door 22 = .ok (.aload_n 0, 1) := by decide +kernel
theorem dX10_door_23 : decode cX10_door 23 = .ok (.getfield 10, 3) := by decide +kernel
theorem dX10_door_26 : decode cX10_door 26 = .ok (.aload_n 0, 1) := by decide +kernel
theorem dX10_door_27 : decode cX10_door 27 = .ok (.getfield 40, 3) := by decide +kernel
theorem dX10_door_30 : decode cX10_door 30 = .ok (.iload_n 1, 1) := by decide +kernel
theorem dX10_door_31 : decode cX10_door 31 = .ok (.iload_n 2, 1) := by decide +kernel
theorem dX10_door_32 : decode cX10_door 32 = .ok (.invokevirtual 168, 3) := by decide +kernel
theorem dX10_door_35 : decode cX10_door 35 = .ok (.invokevirtual 98, 3) := by decide +kernel
theorem dX10_door_38 : decode cX10_door 38 = .ok (.iconst 1, 1) := by decide +kernel
theorem dX10_door_39 : decode cX10_door 39 = .ok (.ireturn, 1) := by decide +kernel
set_option maxRecDepth 20000 in
theorem ggX10_quarrel_X2_isCell : GoodIn wsX10_quarrel wsX2_isCell := goodIn_r _ [6, 7, 32, 33, 34, 35, 36, 37, 38, 39] (by decide +kernel) (by decide +kernel)
set_option maxRecDepth 20000 in
theorem gX10_quarrel_X2_isCell : GoodIn wsX10_quarrel (wsV RX10 165 RX2 yX2_isCell wsX2_isCell) := goodIn_app (goodIn_of _ (by decide +kernel)) ggX10_quarrel_X2_isCell
set_option maxRecDepth 20000 in
theorem ggX10_quarrel_X10_isYesOrNo : GoodIn wsX10_quarrel wsX10_isYesOrNo := goodIn_r _ [11] (by decide +kernel) (by decide +kernel)
set_option maxRecDepth 20000 in
theorem gX10_quarrel_X10_isYesOrNo : GoodIn wsX10_quarrel (va_wsS RX10 186 yX10_isYesOrNo wsX10_isYesOrNo) := goodIn_app (goodIn_of _ (by decide +kernel)) ggX10_quarrel_X10_isYesOrNo
set_option maxRecDepth 20000 in
theorem ggX10_quarrel_X2_foesOf : GoodIn wsX10_quarrel wsX2_foesOf := goodIn_r _ [15, 16, 17, 3, 4, 5, 6, 7, 32, 33, 34, 35, 36, 37, 38, 39] (by decide +kernel) (by decide +kernel)
set_option maxRecDepth 20000 in
theorem gX10_quarrel_X2_foesOf : GoodIn wsX10_quarrel (wsV RX10 189 RX2 yX2_foesOf wsX2_foesOf) := goodIn_app (goodIn_of _ (by decide +kernel)) ggX10_quarrel_X2_foesOf
set_option maxRecDepth 20000 in
theorem ggX10_quarrel_X2_setQuarrel : GoodIn wsX10_quarrel wsX2_setQuarrel := goodIn_r _ [21, 16, 17, 3, 4, 5, 6, 7, 32, 33, 34, 35, 36, 37, 38, 39] (by decide +kernel) (by decide +kernel)
set_option maxRecDepth 20000 in
theorem gX10_quarrel_X2_setQuarrel : GoodIn wsX10_quarrel (wsV RX10 192 RX2 yX2_setQuarrel wsX2_setQuarrel) := goodIn_app (goodIn_of _ (by decide +kernel)) ggX10_quarrel_X2_setQuarrel
theorem dX10_quarrel_0 : decode cX10_quarrel 0 = .ok (.aload_n 0, 1) := by decide +kernel
theorem dX10_quarrel_1 : decode cX10_quarrel 1 = .ok (.getfield 40, 3) := by decide +kernel
theorem dX10_quarrel_4 : decode cX10_quarrel 4 = .ok (.iload_n 1, 1) := by decide +kernel
theorem dX10_quarrel_5 : decode cX10_quarrel 5 = .ok (.invokevirtual 165, 3) := by decide +kernel
theorem dX10_quarrel_8 : decode cX10_quarrel 8 = .ok (.ifCond .eq 26, 3) := by decide +kernel
theorem dX10_quarrel_11 : decode cX10_quarrel 11 = .ok (.aload_n 0, 1) := by decide +kernel
theorem dX10_quarrel_12 : decode cX10_quarrel 12 = .ok (.getfield 40, 3) := by decide +kernel
theorem dX10_quarrel_15 : decode cX10_quarrel 15 = .ok (.iload_n 2, 1) := by decide +kernel
theorem dX10_quarrel_16 : decode cX10_quarrel 16 = .ok (.invokevirtual 165, 3) := by decide +kernel
theorem dX10_quarrel_19 : decode cX10_quarrel 19 = .ok (.ifCond .eq 15, 3) := by decide +kernel
theorem dX10_quarrel_22 : decode cX10_quarrel 22 = .ok (.iload_n 1, 1) := by decide +kernel
theorem dX10_quarrel_23 : decode cX10_quarrel 23 = .ok (.iload_n 2, 1) := by decide +kernel
theorem dX10_quarrel_24 : decode cX10_quarrel 24 = .ok (.if_icmp .eq 10, 3) := by decide +kernel
theorem dX10_quarrel_27 : decode cX10_quarrel 27 = .ok (.iload_n 3, 1) := by decide +kernel
theorem dX10_quarrel_28 : decode cX10_quarrel 28 = .ok (.invokestatic 186, 3) := by decide +kernel
theorem dX10_quarrel_31 : decode cX10_quarrel 31 = .ok (.ifCond .ne 5, 3) := by decide +kernel
theorem dX10_quarrel_34 : decode cX10_quarrel 34 = .ok (.iconst (-1), 1) := by decide +kernel
theorem dX10_quarrel_35 : decode cX10_quarrel 35 = .ok (.ireturn, 1) := by decide +kernel
theorem dX10_quarrel_36 : decode cX10_quarrel 36 = .ok (.aload_n 0, 1) := by decide +kernel
theorem dX10_quarrel_37 : decode cX10_quarrel 37 = .ok (.getfield 40, 3) := by decide +kernel
theorem dX10_quarrel_40 : decode cX10_quarrel 40 = .ok (.iload_n 1, 1) := by decide +kernel
theorem dX10_quarrel_41 : decode cX10_quarrel 41 = .ok (.invokevirtual 189, 3) := by decide +kernel
theorem dX10_quarrel_44 : decode cX10_quarrel 44 = .ok (.iload_n 2, 1) := by decide +kernel
theorem dX10_quarrel_45 : decode cX10_quarrel 45 = .ok (.ishr, 1) := by decide +kernel
theorem dX10_quarrel_46 : decode cX10_quarrel 46 = .ok (.iconst 1, 1) := by decide +kernel
theorem dX10_quarrel_47 : decode cX10_quarrel 47 = .ok (.iand, 1) := by decide +kernel
theorem dX10_quarrel_48 : decode cX10_quarrel 48 = .ok (.istore 4, 2) := by decide +kernel
theorem dX10_quarrel_50 : decode cX10_quarrel 50 = .ok (.aload_n 0, 1) := by decide +kernel
theorem dX10_quarrel_51 : decode cX10_quarrel 51 = .ok (.getfield 40, 3) := by decide +kernel
theorem dX10_quarrel_54 : decode cX10_quarrel 54 = .ok (.iload_n 1, 1) := by decide +kernel
theorem dX10_quarrel_55 : decode cX10_quarrel 55 = .ok (.iload_n 2, 1) := by decide +kernel
theorem dX10_quarrel_56 : decode cX10_quarrel 56 = .ok (.iload_n 3, 1) := by decide +kernel
theorem dX10_quarrel_57 : decode cX10_quarrel 57 = .ok (.invokevirtual 192, 3) := by decide +kernel
theorem dX10_quarrel_60 : decode cX10_quarrel 60 = .ok (.iload 4, 2) := by decide +kernel
theorem dX10_quarrel_62 : decode cX10_quarrel 62 = .ok (.ireturn, 1) := by decide +kernel
set_option maxRecDepth 20000 in
theorem ggX10_can_X2_isCell : GoodIn wsX10_can wsX2_isCell := goodIn_r _ [7, 8, 64, 65, 66, 67, 68, 69, 70, 71] (by decide +kernel) (by decide +kernel)
set_option maxRecDepth 20000 in
theorem gX10_can_X2_isCell : GoodIn wsX10_can (wsV RX10 165 RX2 yX2_isCell wsX2_isCell) := goodIn_app (goodIn_of _ (by decide +kernel)) ggX10_can_X2_isCell
set_option maxRecDepth 20000 in
theorem ggX10_can_X1_hasOut : GoodIn wsX10_can wsX1_hasOut := goodIn_r _ [13, 14, 72, 73, 74, 75] (by decide +kernel) (by decide +kernel)
set_option maxRecDepth 20000 in
theorem gX10_can_X1_hasOut : GoodIn wsX10_can (wsV RX10 195 RX1 yX1_hasOut wsX1_hasOut) := goodIn_app (goodIn_of _ (by decide +kernel)) ggX10_can_X1_hasOut
set_option maxRecDepth 20000 in
theorem ggX10_can_X1_whoIsOut : GoodIn wsX10_can wsX1_whoIsOut := goodIn_r _ [18, 14, 72, 73, 74, 75] (by decide +kernel) (by decide +kernel)
set_option maxRecDepth 20000 in
theorem gX10_can_X1_whoIsOut : GoodIn wsX10_can (wsV RX10 198 RX1 yX1_whoIsOut wsX1_whoIsOut) := goodIn_app (goodIn_of _ (by decide +kernel)) ggX10_can_X1_whoIsOut
set_option maxRecDepth 20000 in
theorem ggX10_can_X2_everyone : GoodIn wsX10_can wsX2_everyone := goodIn_r _ [22, 8, 64, 65, 66, 67, 68, 69, 70, 71] (by decide +kernel) (by decide +kernel)
set_option maxRecDepth 20000 in
theorem gX10_can_X2_everyone : GoodIn wsX10_can (wsV RX10 201 RX2 yX2_everyone wsX2_everyone) := goodIn_app (goodIn_of _ (by decide +kernel)) ggX10_can_X2_everyone
set_option maxRecDepth 20000 in
theorem ggX10_can_X2_favoursFor : GoodIn wsX10_can wsX2_favoursFor := goodIn_r _ [26, 27, 28, 29, 30, 31, 4, 5, 6, 7, 8, 32, 33, 34, 35, 36, 37, 38, 39, 40, 41, 42, 43, 44, 45, 46, 47, 48, 49, 50, 51, 52, 53, 64, 65, 66, 67, 68, 69, 70, 71] (by decide +kernel) (by decide +kernel)
set_option maxRecDepth 20000 in
theorem gX10_can_X2_favoursFor : GoodIn wsX10_can (wsV RX10 204 RX2 yX2_favoursFor wsX2_favoursFor) := goodIn_app (goodIn_of _ (by decide +kernel)) ggX10_can_X2_favoursFor
theorem dX10_can_0 : decode cX10_can 0 = .ok (.aload_n 0, 1) := by decide +kernel
theorem dX10_can_1 : decode cX10_can 1 = .ok (.getfield 40, 3) := by decide +kernel
theorem dX10_can_4 : decode cX10_can 4 = .ok (.iload_n 1, 1) := by decide +kernel
theorem dX10_can_5 : decode cX10_can 5 = .ok (.invokevirtual 165, 3) := by decide +kernel
theorem dX10_can_8 : decode cX10_can 8 = .ok (.ifCond .ne 5, 3) := by decide +kernel
theorem dX10_can_11 : decode cX10_can 11 = .ok (.iconst (-1), 1) := by decide +kernel
theorem dX10_can_12 : decode cX10_can 12 = .ok (.ireturn, 1) := by decide +kernel
theorem dX10_can_13 : decode cX10_can 13 = .ok (.aload_n 0, 1) := by decide +kernel
theorem dX10_can_14 : decode cX10_can 14 = .ok (.getfield 47, 3) := by decide +kernel
theorem dX10_can_17 : decode cX10_can 17 = .ok (.iload_n 1, 1) := by decide +kernel
theorem dX10_can_18 : decode cX10_can 18 = .ok (.invokevirtual 195, 3) := by decide +kernel
theorem dX10_can_21 : decode cX10_can 21 = .ok (.ifCond .eq 6, 3) := by decide +kernel
theorem dX10_can_24 : decode cX10_can 24 = .ok (.bipush (-4), 2) := by decide +kernel
theorem dX10_can_26 : decode cX10_can 26 = .ok (.ireturn, 1) := by decide +kernel
theorem dX10_can_27 : decode cX10_can 27 = .ok (.aload_n 0, 1) := by decide +kernel
theorem dX10_can_28 : decode cX10_can 28 = .ok (.getfield 40, 3) := by decide +kernel
theorem dX10_can_31 : decode cX10_can 31 = .ok (.iload_n 1, 1) := by decide +kernel
theorem dX10_can_32 : decode cX10_can 32 = .ok (.aload_n 0, 1) := by decide +kernel
theorem dX10_can_33 : decode cX10_can 33 = .ok (.getfield 47, 3) := by decide +kernel
theorem dX10_can_36 : decode cX10_can 36 = .ok (.invokevirtual 198, 3) := by decide +kernel
theorem dX10_can_39 : decode cX10_can 39 = .ok (.aload_n 0, 1) := by decide +kernel
theorem dX10_can_40 : decode cX10_can 40 = .ok (.getfield 40, 3) := by decide +kernel
theorem dX10_can_43 : decode cX10_can 43 = .ok (.invokevirtual 201, 3) := by decide +kernel
theorem dX10_can_46 : decode cX10_can 46 = .ok (.invokevirtual 204, 3) := by decide +kernel
theorem dX10_can_49 : decode cX10_can 49 = .ok (.ireturn, 1) := by decide +kernel
set_option maxRecDepth 20000 in
theorem ggX10_let_X10_can : GoodIn wsX10_let wsX10_can := goodIn_r _ [6, 7, 1, 8, 9, 10, 11, 12, 13, 14, 15, 16, 17, 18, 19, 20, 21, 22, 23, 24, 25, 26, 27, 28, 29, 30, 31, 32, 33, 34, 35, 36, 37, 38, 39, 40, 41, 42, 43, 44, 45, 46, 47, 48, 49, 50, 51, 52, 53, 54, 55, 56, 57, 58, 64, 65, 66, 67, 68, 69, 70, 71, 72, 73, 74, 75, 76, 77, 78, 79, 80, 81, 82, 83, 84, 85] (by decide +kernel) (by decide +kernel)
set_option maxRecDepth 20000 in
theorem gX10_let_X10_can : GoodIn wsX10_let (wsV RX10 208 RX10 yX10_can wsX10_can) := goodIn_app (goodIn_of _ (by decide +kernel)) ggX10_let_X10_can
set_option maxRecDepth 20000 in
theorem ggX10_let_X1_addOut : GoodIn wsX10_let wsX1_addOut := goodIn_r _ [62, 19, 63, 82, 83, 84, 85] (by decide +kernel) (by decide +kernel)
set_option maxRecDepth 20000 in
theorem gX10_let_X1_addOut : GoodIn wsX10_let (wsV RX10 211 RX1 yX1_addOut wsX1_addOut) := goodIn_app (goodIn_of _ (by decide +kernel)) ggX10_let_X1_addOut
theorem dX10_let_0 : decode cX10_let 0 = .ok (.aload_n 0, 1) := by decide +kernel
theorem dX10_let_1 : decode cX10_let 1 = .ok (.iload_n 1, 1) := by decide +kernel
theorem dX10_let_2 : decode cX10_let 2 = .ok (.invokevirtual 208, 3) := by decide +kernel
theorem dX10_let_5 : decode cX10_let 5 = .ok (.istore_n 2, 1) := by decide +kernel
theorem dX10_let_6 : decode cX10_let 6 = .ok (.iload_n 2, 1) := by decide +kernel
theorem dX10_let_7 : decode cX10_let 7 = .ok (.ifCond .lt 12, 3) := by decide +kernel
theorem dX10_let_10 : decode cX10_let 10 = .ok (.aload_n 0, 1) := by decide +kernel
theorem dX10_let_11 : decode cX10_let 11 = .ok (.getfield 47, 3) := by decide +kernel
theorem dX10_let_14 : decode cX10_let 14 = .ok (.iload_n 1, 1) := by decide +kernel
theorem dX10_let_15 : decode cX10_let 15 = .ok (.iload_n 2, 1) := by decide +kernel
theorem dX10_let_16 : decode cX10_let 16 = .ok (.invokevirtual 211, 3) := by decide +kernel
theorem dX10_let_19 : decode cX10_let 19 = .ok (.iload_n 2, 1) := by decide +kernel
theorem dX10_let_20 : decode cX10_let 20 = .ok (.ireturn, 1) := by decide +kernel
set_option maxRecDepth 20000 in
theorem ggX10_out_X1_favours : GoodIn wsX10_out wsX1_favours := goodIn_r _ [7, 8, 30, 31, 32, 33] (by decide +kernel) (by decide +kernel)
set_option maxRecDepth 20000 in
theorem gX10_out_X1_favours : GoodIn wsX10_out (wsV RX10 214 RX1 yX1_favours wsX1_favours) := goodIn_app (goodIn_of _ (by decide +kernel)) ggX10_out_X1_favours
set_option maxRecDepth 20000 in
theorem ggX10_out_X9_tell : GoodIn wsX10_out wsX9_tell := goodIn_r _ [13, 14, 34, 35, 36, 37, 38] (by decide +kernel) (by decide +kernel)
set_option maxRecDepth 20000 in
theorem gX10_out_X9_tell : GoodIn wsX10_out (wsV RX10 98 RX9 yX9_tell wsX9_tell) := goodIn_app (goodIn_of _ (by decide +kernel)) ggX10_out_X9_tell
set_option maxRecDepth 20000 in
theorem ggX10_out_X1_whoIsOut : GoodIn wsX10_out wsX1_whoIsOut := goodIn_r _ [18, 19, 30, 31, 32, 33] (by decide +kernel) (by decide +kernel)
set_option maxRecDepth 20000 in
theorem gX10_out_X1_whoIsOut : GoodIn wsX10_out (wsV RX10 198 RX1 yX1_whoIsOut wsX1_whoIsOut) := goodIn_app (goodIn_of _ (by decide +kernel)) ggX10_out_X1_whoIsOut
theorem dX10_out_0 : decode cX10_out 0 = .ok (.aload_n 0, 1) := by decide +kernel
theorem dX10_out_1 : decode cX10_out 1 = .ok (.getfield 10, 3) := by decide +kernel
theorem dX10_out_4 : decode cX10_out 4 = .ok (.aload_n 0, 1) := by decide +kernel
theorem dX10_out_5 : decode cX10_out 5 = .ok (.getfield 47, 3) := by decide +kernel
theorem dX10_out_8 : decode cX10_out 8 = .ok (.invokevirtual 214, 3) := by decide +kernel
theorem dX10_out_11 : decode cX10_out 11 = .ok (.invokevirtual 98, 3) := by decide +kernel
theorem dX10_out_14 : decode cX10_out 14 = .ok (.aload_n 0, 1) := by decide +kernel
theorem dX10_out_15 : decode cX10_out 15 = .ok (.getfield 47, 3) := by decide +kernel
theorem dX10_out_18 : decode cX10_out 18 = .ok (.invokevirtual 198, 3) := by decide +kernel
theorem dX10_out_21 : decode cX10_out 21 = .ok (.ireturn, 1) := by decide +kernel
set_option maxRecDepth 20000 in
theorem ggX10_bell_X1_howManyOut : GoodIn wsX10_bell wsX1_howManyOut := goodIn_r _ [6, 7, 8, 9, 10, 11, 12, 13, 14, 30, 31, 32, 33] (by decide +kernel) (by decide +kernel)
set_option maxRecDepth 20000 in
theorem gX10_bell_X1_howManyOut : GoodIn wsX10_bell (wsV RX10 217 RX1 yX1_howManyOut wsX1_howManyOut) := goodIn_app (goodIn_of _ (by decide +kernel)) ggX10_bell_X1_howManyOut
set_option maxRecDepth 20000 in
theorem ggX10_bell_X1_allIn : GoodIn wsX10_bell wsX1_allIn := goodIn_r _ [18, 7, 19, 30, 31, 32, 33] (by decide +kernel) (by decide +kernel)
set_option maxRecDepth 20000 in
theorem gX10_bell_X1_allIn : GoodIn wsX10_bell (wsV RX10 220 RX1 yX1_allIn wsX1_allIn) := goodIn_app (goodIn_of _ (by decide +kernel)) ggX10_bell_X1_allIn
theorem dX10_bell_0 : decode cX10_bell 0 = .ok (.aload_n 0, 1) := by decide +kernel
theorem dX10_bell_1 : decode cX10_bell 1 = .ok (.getfield 47, 3) := by decide +kernel
theorem dX10_bell_4 : decode cX10_bell 4 = .ok (.invokevirtual 217, 3) := by decide +kernel
theorem dX10_bell_7 : decode cX10_bell 7 = .ok (.istore_n 1, 1) := by decide +kernel
theorem dX10_bell_8 : decode cX10_bell 8 = .ok (.aload_n 0, 1) := by decide +kernel
theorem dX10_bell_9 : decode cX10_bell 9 = .ok (.getfield 47, 3) := by decide +kernel
theorem dX10_bell_12 : decode cX10_bell 12 = .ok (.invokevirtual 220, 3) := by decide +kernel
theorem dX10_bell_15 : decode cX10_bell 15 = .ok (.iload_n 1, 1) := by decide +kernel
theorem dX10_bell_16 : decode cX10_bell 16 = .ok (.ireturn, 1) := by decide +kernel
set_option maxRecDepth 20000 in
theorem ggX10_lets_X10_rowRefusal : GoodIn wsX10_lets wsX10_rowRefusal := goodIn_r _ [8, 1, 3, 9, 10, 11, 12, 13, 14, 15, 16, 17, 18, 19, 20, 21, 22, 23, 24, 25, 26, 27, 28, 29, 30, 99, 100, 101, 102, 103, 104, 105, 106, 107, 108, 109, 110, 111, 112, 113, 114, 115] (by decide +kernel) (by decide +kernel)
set_option maxRecDepth 20000 in
theorem gX10_lets_X10_rowRefusal : GoodIn wsX10_lets (wsV RX10 106 RX10 yX10_rowRefusal wsX10_rowRefusal) := goodIn_app (goodIn_of _ (by decide +kernel)) ggX10_lets_X10_rowRefusal
set_option maxRecDepth 20000 in
theorem ggX10_lets_X6_sizeOf : GoodIn wsX10_lets wsX6_sizeOf := goodIn_r _ [21, 22, 23, 10, 11, 12, 13, 109, 110] (by decide +kernel) (by decide +kernel)
set_option maxRecDepth 20000 in
theorem gX10_lets_X6_sizeOf : GoodIn wsX10_lets (wsV RX10 123 RX6 yX6_sizeOf wsX6_sizeOf) := goodIn_app (goodIn_of _ (by decide +kernel)) ggX10_lets_X6_sizeOf
set_option maxRecDepth 20000 in
theorem ggX10_lets_X2_cells : GoodIn wsX10_lets wsX2_cells := goodIn_r _ [36, 37, 116, 117, 118, 119, 120, 121, 122, 123] (by decide +kernel) (by decide +kernel)
set_option maxRecDepth 20000 in
theorem gX10_lets_X2_cells : GoodIn wsX10_lets (wsV RX10 161 RX2 yX2_cells wsX2_cells) := goodIn_app (goodIn_of _ (by decide +kernel)) ggX10_lets_X2_cells
set_option maxRecDepth 20000 in
theorem ggX10_lets_X9_found : GoodIn wsX10_lets wsX9_found := goodIn_r _ [28, 29, 30, 111, 112, 113, 114, 115] (by decide +kernel) (by decide +kernel)
set_option maxRecDepth 20000 in
theorem gX10_lets_X9_found : GoodIn wsX10_lets (wsV RX10 83 RX9 yX9_found wsX9_found) := goodIn_app (goodIn_of _ (by decide +kernel)) ggX10_lets_X9_found
set_option maxRecDepth 20000 in
theorem ggX10_lets_X10_tellsUnlikeCells : GoodIn wsX10_lets wsX10_tellsUnlikeCells := goodIn_r _ [41, 1, 2, 31, 19, 20, 12, 21, 22, 23, 10, 11, 13, 42, 43, 44, 45, 46, 47, 48, 49, 50, 18, 51, 52, 53, 35, 54, 37, 99, 100, 101, 102, 103, 104, 105, 106, 107, 108, 109, 110, 116, 117, 118, 119, 120, 121, 122, 123] (by decide +kernel) (by decide +kernel)
set_option maxRecDepth 20000 in
theorem gX10_lets_X10_tellsUnlikeCells : GoodIn wsX10_lets (wsV RX10 233 RX10 yX10_tellsUnlikeCells wsX10_tellsUnlikeCells) := goodIn_app (goodIn_of _ (by decide +kernel)) ggX10_lets_X10_tellsUnlikeCells
set_option maxRecDepth 20000 in
theorem ggX10_lets_X10_letRowOut : GoodIn wsX10_lets wsX10_letRowOut := goodIn_r _ [58, 1, 2, 3, 31, 19, 20, 12, 21, 22, 23, 10, 11, 13, 42, 43, 44, 45, 46, 47, 48, 49, 50, 18, 59, 60, 61, 35, 62, 37, 63, 64, 65, 66, 67, 68, 69, 70, 71, 52, 53, 54, 72, 73, 74, 75, 76, 77, 78, 79, 80, 81, 82, 83, 84, 85, 86, 87, 88, 89, 90, 91, 92, 93, 94, 95, 96, 27, 97, 98, 99, 100, 101, 102, 103, 104, 105, 106, 107, 108, 109, 110, 116, 117, 118, 119, 120, 121, 122, 123, 111, 112, 113, 114, 115] (by decide +kernel) (by decide +kernel)
set_option maxRecDepth 20000 in
theorem gX10_lets_X10_letRowOut : GoodIn wsX10_lets (wsV RX10 236 RX10 yX10_letRowOut wsX10_letRowOut) := goodIn_app (goodIn_of _ (by decide +kernel)) ggX10_lets_X10_letRowOut
theorem dX10_lets_0 : decode cX10_lets 0 = .ok (.aload_n 0, 1) := by decide +kernel
theorem dX10_lets_1 : decode cX10_lets 1 = .ok (.iload_n 1, 1) := by decide +kernel
theorem dX10_lets_2 : decode cX10_lets 2 = .ok (.invokevirtual 106, 3) := by decide +kernel
theorem dX10_lets_5 : decode cX10_lets 5 = .ok (.istore_n 2, 1) := by decide +kernel
theorem dX10_lets_6 : decode cX10_lets 6 = .ok (.iload_n 2, 1) := by decide +kernel
theorem dX10_lets_7 : decode cX10_lets 7 = .ok (.ifCond .eq 5, 3) := by decide +kernel
theorem dX10_lets_10 : decode cX10_lets 10 = .ok (.iload_n 2, 1) := by decide +kernel
theorem dX10_lets_11 : decode cX10_lets 11 = .ok (.ireturn, 1) := by decide +kernel
theorem dX10_lets_12 : decode cX10_lets 12 = .ok (.aload_n 0, 1) := by decide +kernel
theorem dX10_lets_13 : decode cX10_lets 13 = .ok (.getfield 19, 3) := by decide +kernel
theorem dX10_lets_16 : decode cX10_lets 16 = .ok (.iload_n 1, 1) := by decide +kernel
theorem dX10_lets_17 : decode cX10_lets 17 = .ok (.invokevirtual 123, 3) := by decide +kernel
theorem dX10_lets_20 : decode cX10_lets 20 = .ok (.aload_n 0, 1) := by decide +kernel
theorem dX10_lets_21 : decode cX10_lets 21 = .ok (.getfield 40, 3) := by decide +kernel
theorem dX10_lets_24 : decode cX10_lets 24 = .ok (.invokevirtual 161, 3) := by decide +kernel
theorem dX10_lets_27 : decode cX10_lets 27 = .ok (.if_icmp .le 12, 3) := by decide +kernel
theorem dX10_lets_30 : decode cX10_lets 30 = .ok (.aload_n 0, 1) := by decide +kernel
theorem dX10_lets_31 : decode cX10_lets 31 = .ok (.getfield 10, 3) := by decide +kernel
theorem dX10_lets_34 : decode cX10_lets 34 = .ok (.iconst 5, 1) := by decide +kernel
theorem dX10_lets_35 : decode cX10_lets 35 = .ok (.invokevirtual 83, 3) := by decide +kernel
theorem dX10_lets_38 : decode cX10_lets 38 = .ok (.ireturn, 1) := by decide +kernel
theorem dX10_lets_39 : decode cX10_lets 39 = .ok (.aload_n 0, 1) := by decide +kernel
theorem dX10_lets_40 : decode cX10_lets 40 = .ok (.iload_n 1, 1) := by decide +kernel
theorem dX10_lets_41 : decode cX10_lets 41 = .ok (.invokevirtual 233, 3) := by decide +kernel
theorem dX10_lets_44 : decode cX10_lets 44 = .ok (.ifCond .ne 12, 3) := by decide +kernel
theorem dX10_lets_47 : decode cX10_lets 47 = .ok (.aload_n 0, 1) := by decide +kernel
theorem dX10_lets_48 : decode cX10_lets 48 = .ok (.getfield 10, 3) := by decide +kernel
theorem dX10_lets_51 : decode cX10_lets 51 = .ok (.iconst 3, 1) := by decide +kernel
theorem dX10_lets_52 : decode cX10_lets 52 = .ok (.invokevirtual 83, 3) := by decide +kernel
theorem dX10_lets_55 : decode cX10_lets 55 = .ok (.ireturn, 1) := by decide +kernel
theorem dX10_lets_56 : decode cX10_lets 56 = .ok (.aload_n 0, 1) := by decide +kernel
theorem dX10_lets_57 : decode cX10_lets 57 = .ok (.iload_n 1, 1) := by decide +kernel
theorem dX10_lets_58 : decode cX10_lets 58 = .ok (.invokevirtual 236, 3) := by decide +kernel
theorem dX10_lets_61 : decode cX10_lets 61 = .ok (.ireturn, 1) := by decide +kernel
set_option maxRecDepth 20000 in
theorem ggX10_least_X2_isSet : GoodIn wsX10_least wsX2_isSet := goodIn_r _ [8, 9, 10, 11, 7, 12, 13, 85, 86, 87, 88, 89, 90, 91, 92] (by decide +kernel) (by decide +kernel)
set_option maxRecDepth 20000 in
theorem gX10_least_X2_isSet : GoodIn wsX10_least (wsV RX10 239 RX2 yX2_isSet wsX2_isSet) := goodIn_app (goodIn_of _ (by decide +kernel)) ggX10_least_X2_isSet
set_option maxRecDepth 20000 in
theorem ggX10_least_X10_reachAll : GoodIn wsX10_least wsX10_reachAll := goodIn_r _ [18, 2, 1, 19, 10, 11, 7, 12, 13, 20, 21, 22, 23, 24, 25, 26, 27, 28, 29, 30, 31, 32, 33, 34, 35, 36, 37, 38, 39, 40, 41, 42, 43, 44, 45, 46, 47, 48, 49, 50, 51, 52, 53, 54, 55, 56, 57, 58, 59, 60, 75, 76, 77, 78, 79, 80, 81, 82, 83, 84, 85, 86, 87, 88, 89, 90, 91, 92, 93, 94] (by decide +kernel) (by decide +kernel)
