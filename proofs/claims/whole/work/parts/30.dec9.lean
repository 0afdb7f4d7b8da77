set_option maxRecDepth 20000 in
theorem ggX9_init_X3_init : GoodIn wsX9_init wsX3_init := goodIn_r _ [41, 42, 2, 3, 43, 44, 45, 46, 47, 48, 49, 37, 50, 51, 52, 53, 54, 55, 56, 57, 58, 159, 160, 161, 162, 163, 112, 113, 114, 115, 116] rfl (by decide +kernel)
set_option maxRecDepth 20000 in
theorem gX9_init_X3_init_n11 : GoodIn wsX9_init (wsX3_init) := ggX9_init_X3_init
set_option maxRecDepth 20000 in
theorem ggX9_init_X6_init : GoodIn wsX9_init wsX6_init := goodIn_r _ [60, 61, 2, 3, 37, 62, 63, 64, 65, 66, 128, 129, 130, 131, 132] rfl (by decide +kernel)
set_option maxRecDepth 20000 in
theorem gX9_init_X6_init_n18 : GoodIn wsX9_init (wsX6_init) := ggX9_init_X6_init
set_option maxRecDepth 20000 in
theorem ggX9_init_X4_init : GoodIn wsX9_init wsX4_init := goodIn_r _ [68, 69, 2, 3, 37, 70, 71, 72, 73, 74, 75, 76, 77, 78, 79, 133, 134, 135, 136, 137, 138, 139, 140, 141, 142] rfl (by decide +kernel)
set_option maxRecDepth 20000 in
theorem gX9_init_X4_init_n25 : GoodIn wsX9_init (wsX4_init) := ggX9_init_X4_init
set_option maxRecDepth 20000 in
theorem ggX9_init_X5_init : GoodIn wsX9_init wsX5_init := goodIn_r _ [81, 82, 2, 3, 37, 83, 143] rfl (by decide +kernel)
set_option maxRecDepth 20000 in
theorem gX9_init_X5_init_n32 : GoodIn wsX9_init (wsX5_init) := ggX9_init_X5_init
set_option maxRecDepth 20000 in
theorem ggX9_init_X8_init : GoodIn wsX9_init wsX8_init := goodIn_r _ [85, 86, 2, 3, 37, 87, 88, 89, 90, 144, 145, 146, 147] rfl (by decide +kernel)
set_option maxRecDepth 20000 in
theorem gX9_init_X8_init_n39 : GoodIn wsX9_init (wsX8_init) := ggX9_init_X8_init
set_option maxRecDepth 20000 in
theorem ggX9_init_X1_init : GoodIn wsX9_init wsX1_init := goodIn_r _ [92, 93, 2, 3, 94, 95, 148, 149] rfl (by decide +kernel)
set_option maxRecDepth 20000 in
theorem gX9_init_X1_init_n46 : GoodIn wsX9_init (wsX1_init) := ggX9_init_X1_init
set_option maxRecDepth 20000 in
theorem ggX9_init_X7_init : GoodIn wsX9_init wsX7_init := goodIn_r _ [98, 99, 2, 3, 37, 100, 101, 102, 103, 104, 105, 150, 151, 152, 153, 154, 155] rfl (by decide +kernel)
set_option maxRecDepth 20000 in
theorem gX9_init_X7_init : GoodIn wsX9_init (wsX7_init) := ggX9_init_X7_init
set_option maxRecDepth 20000 in
theorem ggX9_init_X2_init : GoodIn wsX9_init wsX2_init := goodIn_r _ [107, 108, 2, 3, 109, 110, 111, 156, 157, 158] rfl (by decide +kernel)
set_option maxRecDepth 20000 in
theorem gX9_init_X2_init_n65 : GoodIn wsX9_init (wsX2_init) := ggX9_init_X2_init
theorem dX9_init_0 : decode cX9_init 0 = .ok (.aload_n 0, 1) := by decide +kernel
theorem dX9_init_1 : decode cX9_init 1 = .ok (.invokespecial 3, 3) := by decide +kernel
theorem dX9_init_4 : decode cX9_init 4 = .ok (.aload_n 0, 1) := by decide +kernel
theorem dX9_init_5 : decode cX9_init 5 = .ok (.new 9, 3) := by decide +kernel
theorem dX9_init_8 : decode cX9_init 8 = .ok (.dup, 1) := by decide +kernel
theorem dX9_init_9 : decode cX9_init 9 = .ok (.invokespecial 11, 3) := by decide +kernel
theorem dX9_init_12 : decode cX9_init 12 = .ok (.putfield 12, 3) := by decide +kernel
theorem dX9_init_15 : decode cX9_init 15 = .ok (.aload_n 0, 1) := by decide +kernel
theorem dX9_init_16 : decode cX9_init 16 = .ok (.new 16, 3) := by decide +kernel
theorem dX9_init_19 : decode cX9_init 19 = .ok (.dup, 1) := by decide +kernel
theorem dX9_init_20 : decode cX9_init 20 = .ok (.invokespecial 18, 3) := by decide +kernel
theorem dX9_init_23 : decode cX9_init 23 = .ok (.putfield 19, 3) := by decide +kernel
theorem dX9_init_26 : decode cX9_init 26 = .ok (.aload_n 0, 1) := by decide +kernel
theorem dX9_init_27 : decode cX9_init 27 = .ok (.new 23, 3) := by decide +kernel
theorem dX9_init_30 : decode cX9_init 30 = .ok (.dup, 1) := by decide +kernel
theorem dX9_init_31 : decode cX9_init 31 = .ok (.invokespecial 25, 3) := by decide +kernel
theorem dX9_init_34 : decode cX9_init 34 = .ok (.putfield 26, 3) := by decide +kernel
theorem dX9_init_37 : decode cX9_init 37 = .ok (.aload_n 0, 1) := by decide +kernel
theorem dX9_init_38 : decode cX9_init 38 = .ok (.new 30, 3) := by decide +kernel
theorem dX9_init_41 : decode cX9_init 41 = .ok (.dup, 1) := by decide +kernel
theorem dX9_init_42 : decode cX9_init 42 = .ok (.invokespecial 32, 3) := by decide +kernel
theorem dX9_init_45 : decode cX9_init 45 = .ok (.putfield 33, 3) := by decide +kernel
theorem dX9_init_48 : decode cX9_init 48 = .ok (.aload_n 0, 1) := by decide +kernel
theorem dX9_init_49 : decode cX9_init 49 = .ok (.new 37, 3) := by decide +kernel
theorem dX9_init_52 : decode cX9_init 52 = .ok (.dup, 1) := by decide +kernel
theorem dX9_init_53 : decode cX9_init 53 = .ok (.invokespecial 39, 3) := by decide +kernel
theorem dX9_init_56 : decode cX9_init 56 = .ok (.putfield 40, 3) := by decide +kernel
theorem dX9_init_59 : decode cX9_init 59 = .ok (.aload_n 0, 1) := by decide +kernel
theorem dX9_init_60 : decode cX9_init 60 = .ok (.new 44, 3) := by decide +kernel
theorem dX9_init_63 : decode cX9_init 63 = .ok (.dup, 1) := by decide +kernel
theorem dX9_init_64 : decode cX9_init 64 = .ok (.invokespecial 46, 3) := by decide +kernel
theorem dX9_init_67 : decode cX9_init 67 = .ok (.putfield 47, 3) := by decide +kernel
theorem dX9_init_70 : decode cX9_init 70 = .ok (.aload_n 0, 1) := by decide +kernel
theorem dX9_init_71 : decode cX9_init 71 = .ok (.new 44, 3) := by decide +kernel
theorem dX9_init_74 : decode cX9_init 74 = .ok (.dup, 1) := by decide +kernel
theorem dX9_init_75 : decode cX9_init 75 = .ok (.invokespecial 46, 3) := by decide +kernel
theorem dX9_init_78 : decode cX9_init 78 = .ok (.putfield 51, 3) := by decide +kernel
theorem dX9_init_81 : decode cX9_init 81 = .ok (.aload_n 0, 1) := by decide +kernel
theorem dX9_init_82 : decode cX9_init 82 = .ok (.new 54, 3) := by decide +kernel
theorem dX9_init_85 : decode cX9_init 85 = .ok (.dup, 1) := by decide +kernel
theorem dX9_init_86 : decode cX9_init 86 = .ok (.aload_n 0, 1) := by decide +kernel
theorem dX9_init_87 : decode cX9_init 87 = .ok (.getfield 40, 3) := by decide +kernel
theorem dX9_init_90 : decode cX9_init 90 = .ok (.invokespecial 56, 3) := by decide +kernel
theorem dX9_init_93 : decode cX9_init 93 = .ok (.putfield 59, 3) := by decide +kernel
theorem dX9_init_96 : decode cX9_init 96 = .ok (.aload_n 0, 1) := by decide +kernel
theorem dX9_init_97 : decode cX9_init 97 = .ok (.new 63, 3) := by decide +kernel
theorem dX9_init_100 : decode cX9_init 100 = .ok (.dup, 1) := by decide +kernel
theorem dX9_init_101 : decode cX9_init 101 = .ok (.invokespecial 65, 3) := by decide +kernel
theorem dX9_init_104 : decode cX9_init 104 = .ok (.putfield 66, 3) := by decide +kernel
theorem dX9_init_107 : decode cX9_init 107 = .ok (.aload_n 0, 1) := by decide +kernel
theorem dX9_init_108 : decode cX9_init 108 = .ok (.bipush 7, 2) := by decide +kernel
theorem dX9_init_110 : decode cX9_init 110 = .ok (.newarray .int, 2) := by decide +kernel
theorem dX9_init_112 : decode cX9_init 112 = .ok (.putfield 70, 3) := by decide +kernel
theorem dX9_init_115 : decode cX9_init 115 = .ok (.aload_n 0, 1) := by decide +kernel
theorem dX9_init_116 : decode cX9_init 116 = .ok (.iconst 0, 1) := by decide +kernel
theorem dX9_init_117 : decode cX9_init 117 = .ok (.putfield 74, 3) := by decide +kernel
theorem dX9_init_120 : decode cX9_init 120 = .ok (.return_, 1) := by decide +kernel
set_option maxRecDepth 20000 in
theorem ggX9_line_X9_faultOfRow : GoodIn wsX9_line wsX9_faultOfRow := goodIn_r _ [9, 10, 11, 8, 12, 13, 14, 15] rfl (by decide +kernel)
set_option maxRecDepth 20000 in
theorem gX9_line_X9_faultOfRow : GoodIn wsX9_line (va_wsS RX9 78 yX9_faultOfRow wsX9_faultOfRow) := goodIn_app (goodIn_of _ (by decide +kernel)) ggX9_line_X9_faultOfRow
set_option maxRecDepth 20000 in
theorem ggX9_line_X9_refuse : GoodIn wsX9_line wsX9_refuse := goodIn_r _ [19, 20, 42, 43, 44, 45, 46, 47, 48, 49, 50, 51, 52] rfl (by decide +kernel)
set_option maxRecDepth 20000 in
theorem gX9_line_X9_refuse : GoodIn wsX9_line (wsV RX9 82 RX9 yX9_refuse wsX9_refuse) := goodIn_app (goodIn_of _ (by decide +kernel)) ggX9_line_X9_refuse
set_option maxRecDepth 20000 in
theorem ggX9_line_X3_tell : GoodIn wsX9_line wsX3_tell := goodIn_r _ [25, 26, 27, 28, 29, 30, 31, 32, 33, 34, 35, 36, 37, 38, 39, 40, 41, 53, 54, 55, 56, 57, 58, 59, 60, 61, 62] rfl (by decide +kernel)
set_option maxRecDepth 20000 in
theorem gX9_line_X3_tell : GoodIn wsX9_line (wsV RX9 99 RX3 yX3_tell wsX3_tell) := goodIn_app (goodIn_of _ (by decide +kernel)) ggX9_line_X3_tell
theorem dX9_line_0 : decode cX9_line 0 = .ok (.iload_n 1, 1) := by decide +kernel
theorem dX9_line_1 : decode cX9_line 1 = .ok (.iload_n 2, 1) := by decide +kernel
theorem dX9_line_2 : decode cX9_line 2 = .ok (.iload_n 3, 1) := by decide +kernel
theorem dX9_line_3 : decode cX9_line 3 = .ok (.iload 4, 2) := by decide +kernel
theorem dX9_line_5 : decode cX9_line 5 = .ok (.invokestatic 78, 3) := by decide +kernel
theorem dX9_line_8 : decode cX9_line 8 = .ok (.istore 5, 2) := by decide +kernel
theorem dX9_line_10 : decode cX9_line 10 = .ok (.iload 5, 2) := by decide +kernel
theorem dX9_line_12 : decode cX9_line 12 = .ok (.ifCond .eq 10, 3) := by decide +kernel
theorem dX9_line_15 : decode cX9_line 15 = .ok (.aload_n 0, 1) := by decide +kernel
theorem dX9_line_16 : decode cX9_line 16 = .ok (.iload 5, 2) := by decide +kernel
theorem dX9_line_18 : decode cX9_line 18 = .ok (.invokevirtual 82, 3) := by decide +kernel
theorem dX9_line_21 : decode cX9_line 21 = .ok (.ireturn, 1) := by decide +kernel
theorem dX9_line_22 : decode cX9_line 22 = .ok (.aload_n 0, 1) := by decide +kernel
theorem dX9_line_23 : decode cX9_line 23 = .ok (.getfield 12, 3) := by decide +kernel
theorem dX9_line_26 : decode cX9_line 26 = .ok (.getfield 86, 3) := by decide +kernel
theorem dX9_line_29 : decode cX9_line 29 = .ok (.getfield 90, 3) := by decide +kernel
theorem dX9_line_32 : decode cX9_line 32 = .ok (.ifCond .le 10, 3) := by decide +kernel
theorem dX9_line_35 : decode cX9_line 35 = .ok (.aload_n 0, 1) := by decide +kernel
theorem dX9_line_36 : decode cX9_line 36 = .ok (.bipush (-3), 2) := by decide +kernel
theorem dX9_line_38 : decode cX9_line 38 = .ok (.invokevirtual 82, 3) := by decide +kernel
theorem dX9_line_41 : decode cX9_line 41 = .ok (.ireturn, 1) := by decide +kernel
theorem dX9_line_42 : decode cX9_line 42 = .ok (.aload_n 0, 1) := by decide +kernel
theorem dX9_line_43 : decode cX9_line 43 = .ok (.getfield 12, 3) := by decide +kernel
theorem dX9_line_46 : decode cX9_line 46 = .ok (.getfield 96, 3) := by decide +kernel
theorem dX9_line_49 : decode cX9_line 49 = .ok (.getfield 90, 3) := by decide +kernel
theorem dX9_line_52 : decode cX9_line 52 = .ok (.bipush 24, 2) := by decide +kernel
theorem dX9_line_54 : decode cX9_line 54 = .ok (.if_icmp .lt 10, 3) := by decide +kernel
theorem dX9_line_57 : decode cX9_line 57 = .ok (.aload_n 0, 1) := by decide +kernel
theorem dX9_line_58 : decode cX9_line 58 = .ok (.bipush (-6), 2) := by decide +kernel
theorem dX9_line_60 : decode cX9_line 60 = .ok (.invokevirtual 82, 3) := by decide +kernel
theorem dX9_line_63 : decode cX9_line 63 = .ok (.ireturn, 1) := by decide +kernel
theorem dX9_line_64 : decode cX9_line 64 = .ok (.aload_n 0, 1) := by decide +kernel
theorem dX9_line_65 : decode cX9_line 65 = .ok (.iconst 0, 1) := by decide +kernel
theorem dX9_line_66 : decode cX9_line 66 = .ok (.putfield 74, 3) := by decide +kernel
theorem dX9_line_69 : decode cX9_line 69 = .ok (.aload_n 0, 1) := by decide +kernel
theorem dX9_line_70 : decode cX9_line 70 = .ok (.getfield 12, 3) := by decide +kernel
theorem dX9_line_73 : decode cX9_line 73 = .ok (.iload_n 1, 1) := by decide +kernel
theorem dX9_line_74 : decode cX9_line 74 = .ok (.iload_n 2, 1) := by decide +kernel
theorem dX9_line_75 : decode cX9_line 75 = .ok (.iload_n 3, 1) := by decide +kernel
theorem dX9_line_76 : decode cX9_line 76 = .ok (.iload 4, 2) := by decide +kernel
theorem dX9_line_78 : decode cX9_line 78 = .ok (.invokevirtual 99, 3) := by decide +kernel
theorem dX9_line_81 : decode cX9_line 81 = .ok (.aload_n 0, 1) := by decide +kernel
theorem dX9_line_82 : decode cX9_line 82 = .ok (.getfield 12, 3) := by decide +kernel
theorem dX9_line_85 : decode cX9_line 85 = .ok (.getfield 96, 3) := by decide +kernel
theorem dX9_line_88 : decode cX9_line 88 = .ok (.getfield 90, 3) := by decide +kernel
theorem dX9_line_91 : decode cX9_line 91 = .ok (.iconst 1, 1) := by decide +kernel
theorem dX9_line_92 : decode cX9_line 92 = .ok (.isub, 1) := by decide +kernel
theorem dX9_line_93 : decode cX9_line 93 = .ok (.ireturn, 1) := by decide +kernel
set_option maxRecDepth 20000 in
theorem ggX9_test_X9_refuse : GoodIn wsX9_test wsX9_refuse := goodIn_r _ [8, 9, 17, 18, 19, 20, 21, 22, 23, 24, 25, 26, 27] rfl (by decide +kernel)
set_option maxRecDepth 20000 in
theorem gX9_test_X9_refuse : GoodIn wsX9_test (wsV RX9 82 RX9 yX9_refuse wsX9_refuse) := goodIn_app (goodIn_of _ (by decide +kernel)) ggX9_test_X9_refuse
set_option maxRecDepth 20000 in
theorem ggX9_test_X6_add : GoodIn wsX9_test wsX6_add := goodIn_r _ [14, 15, 16, 28, 29, 30, 31, 32] rfl (by decide +kernel)
set_option maxRecDepth 20000 in
theorem gX9_test_X6_add : GoodIn wsX9_test (wsV RX9 104 RX6 yX6_add wsX6_add) := goodIn_app (goodIn_of _ (by decide +kernel)) ggX9_test_X6_add
theorem dX9_test_0 : decode cX9_test 0 = .ok (.aload_n 0, 1) := by decide +kernel
theorem dX9_test_1 : decode cX9_test 1 = .ok (.getfield 19, 3) := by decide +kernel
theorem dX9_test_4 : decode cX9_test 4 = .ok (.getfield 103, 3) := by decide +kernel
theorem dX9_test_7 : decode cX9_test 7 = .ok (.bipush 12, 2) := by decide +kernel
theorem dX9_test_9 : decode cX9_test 9 = .ok (.if_icmp .lt 10, 3) := by decide +kernel
theorem dX9_test_12 : decode cX9_test 12 = .ok (.aload_n 0, 1) := by decide +kernel
theorem dX9_test_13 : decode cX9_test 13 = .ok (.bipush (-6), 2) := by decide +kernel
theorem dX9_test_15 : decode cX9_test 15 = .ok (.invokevirtual 82, 3) := by decide +kernel
theorem dX9_test_18 : decode cX9_test 18 = .ok (.ireturn, 1) := by decide +kernel
theorem dX9_test_19 : decode cX9_test 19 = .ok (.aload_n 0, 1) := by decide +kernel
theorem dX9_test_20 : decode cX9_test 20 = .ok (.iconst 0, 1) := by decide +kernel
theorem dX9_test_21 : decode cX9_test 21 = .ok (.putfield 74, 3) := by decide +kernel
theorem dX9_test_24 : decode cX9_test 24 = .ok (.aload_n 0, 1) := by decide +kernel
theorem dX9_test_25 : decode cX9_test 25 = .ok (.getfield 19, 3) := by decide +kernel
theorem dX9_test_28 : decode cX9_test 28 = .ok (.iload_n 1, 1) := by decide +kernel
theorem dX9_test_29 : decode cX9_test 29 = .ok (.iload_n 2, 1) := by decide +kernel
theorem dX9_test_30 : decode cX9_test 30 = .ok (.iload_n 3, 1) := by decide +kernel
theorem dX9_test_31 : decode cX9_test 31 = .ok (.iload 4, 2) := by decide +kernel
theorem dX9_test_33 : decode cX9_test 33 = .ok (.invokevirtual 104, 3) := by decide +kernel
theorem dX9_test_36 : decode cX9_test 36 = .ok (.aload_n 0, 1) := by decide +kernel
theorem dX9_test_37 : decode cX9_test 37 = .ok (.getfield 19, 3) := by decide +kernel
theorem dX9_test_40 : decode cX9_test 40 = .ok (.getfield 103, 3) := by decide +kernel
theorem dX9_test_43 : decode cX9_test 43 = .ok (.iconst 1, 1) := by decide +kernel
theorem dX9_test_44 : decode cX9_test 44 = .ok (.isub, 1) := by decide +kernel
theorem dX9_test_45 : decode cX9_test 45 = .ok (.ireturn, 1) := by decide +kernel
set_option maxRecDepth 20000 in
theorem ggX9_wants_X6_has : GoodIn wsX9_wants wsX6_has := goodIn_r _ [8, 9, 33, 34, 35, 36, 37] rfl (by decide +kernel)
set_option maxRecDepth 20000 in
theorem gX9_wants_X6_has : GoodIn wsX9_wants (wsV RX9 107 RX6 yX6_has wsX6_has) := goodIn_app (goodIn_of _ (by decide +kernel)) ggX9_wants_X6_has
set_option maxRecDepth 20000 in
theorem ggX9_wants_X9_refuse : GoodIn wsX9_wants wsX9_refuse := goodIn_r _ [14, 15, 22, 23, 24, 25, 26, 27, 28, 29, 30, 31, 32] rfl (by decide +kernel)
set_option maxRecDepth 20000 in
theorem gX9_wants_X9_refuse : GoodIn wsX9_wants (wsV RX9 82 RX9 yX9_refuse wsX9_refuse) := goodIn_app (goodIn_of _ (by decide +kernel)) ggX9_wants_X9_refuse
set_option maxRecDepth 20000 in
theorem ggX9_wants_X6_want : GoodIn wsX9_wants wsX6_want := goodIn_r _ [19, 20, 21, 33, 34, 35, 36, 37] rfl (by decide +kernel)
set_option maxRecDepth 20000 in
theorem gX9_wants_X6_want : GoodIn wsX9_wants (wsV RX9 114 RX6 yX6_want wsX6_want) := goodIn_app (goodIn_of _ (by decide +kernel)) ggX9_wants_X6_want
theorem dX9_wants_0 : decode cX9_wants 0 = .ok (.aload_n 0, 1) := by decide +kernel
theorem dX9_wants_1 : decode cX9_wants 1 = .ok (.getfield 19, 3) := by decide +kernel
theorem dX9_wants_4 : decode cX9_wants 4 = .ok (.iload_n 1, 1) := by decide +kernel
theorem dX9_wants_5 : decode cX9_wants 5 = .ok (.invokevirtual 107, 3) := by decide +kernel
theorem dX9_wants_8 : decode cX9_wants 8 = .ok (.ifCond .ne 9, 3) := by decide +kernel
theorem dX9_wants_11 : decode cX9_wants 11 = .ok (.aload_n 0, 1) := by decide +kernel
theorem dX9_wants_12 : decode cX9_wants 12 = .ok (.iconst (-1), 1) := by decide +kernel
theorem dX9_wants_13 : decode cX9_wants 13 = .ok (.invokevirtual 82, 3) := by decide +kernel
theorem dX9_wants_16 : decode cX9_wants 16 = .ok (.ireturn, 1) := by decide +kernel
theorem dX9_wants_17 : decode cX9_wants 17 = .ok (.aload_n 0, 1) := by decide +kernel
theorem dX9_wants_18 : decode cX9_wants 18 = .ok (.getfield 19, 3) := by decide +kernel
theorem dX9_wants_21 : decode cX9_wants 21 = .ok (.getfield 111, 3) := by decide +kernel
theorem dX9_wants_24 : decode cX9_wants 24 = .ok (.iload_n 1, 1) := by decide +kernel
theorem dX9_wants_25 : decode cX9_wants 25 = .ok (.iaload, 1) := by decide +kernel
theorem dX9_wants_26 : decode cX9_wants 26 = .ok (.bipush 6, 2) := by decide +kernel
theorem dX9_wants_28 : decode cX9_wants 28 = .ok (.if_icmp .lt 10, 3) := by decide +kernel
theorem dX9_wants_31 : decode cX9_wants 31 = .ok (.aload_n 0, 1) := by decide +kernel
theorem dX9_wants_32 : decode cX9_wants 32 = .ok (.bipush (-6), 2) := by decide +kernel
theorem dX9_wants_34 : decode cX9_wants 34 = .ok (.invokevirtual 82, 3) := by decide +kernel
theorem dX9_wants_37 : decode cX9_wants 37 = .ok (.ireturn, 1) := by decide +kernel
theorem dX9_wants_38 : decode cX9_wants 38 = .ok (.aload_n 0, 1) := by decide +kernel
theorem dX9_wants_39 : decode cX9_wants 39 = .ok (.iconst 0, 1) := by decide +kernel
theorem dX9_wants_40 : decode cX9_wants 40 = .ok (.putfield 74, 3) := by decide +kernel
theorem dX9_wants_43 : decode cX9_wants 43 = .ok (.aload_n 0, 1) := by decide +kernel
theorem dX9_wants_44 : decode cX9_wants 44 = .ok (.getfield 19, 3) := by decide +kernel
theorem dX9_wants_47 : decode cX9_wants 47 = .ok (.iload_n 1, 1) := by decide +kernel
theorem dX9_wants_48 : decode cX9_wants 48 = .ok (.iload_n 2, 1) := by decide +kernel
theorem dX9_wants_49 : decode cX9_wants 49 = .ok (.invokevirtual 114, 3) := by decide +kernel
theorem dX9_wants_52 : decode cX9_wants 52 = .ok (.aload_n 0, 1) := by decide +kernel
theorem dX9_wants_53 : decode cX9_wants 53 = .ok (.getfield 19, 3) := by decide +kernel
theorem dX9_wants_56 : decode cX9_wants 56 = .ok (.getfield 111, 3) := by decide +kernel
theorem dX9_wants_59 : decode cX9_wants 59 = .ok (.iload_n 1, 1) := by decide +kernel
theorem dX9_wants_60 : decode cX9_wants 60 = .ok (.iaload, 1) := by decide +kernel
theorem dX9_wants_61 : decode cX9_wants 61 = .ok (.ireturn, 1) := by decide +kernel
set_option maxRecDepth 20000 in
theorem ggX9_open_X6_has : GoodIn wsX9_open wsX6_has := goodIn_r _ [8, 9, 32, 33, 34, 35, 36] rfl (by decide +kernel)
set_option maxRecDepth 20000 in
theorem gX9_open_X6_has : GoodIn wsX9_open (wsV RX9 107 RX6 yX6_has wsX6_has) := goodIn_app (goodIn_of _ (by decide +kernel)) ggX9_open_X6_has
set_option maxRecDepth 20000 in
theorem ggX9_open_X9_refuse : GoodIn wsX9_open wsX9_refuse := goodIn_r _ [14, 15, 21, 22, 23, 24, 25, 26, 27, 28, 29, 30, 31] rfl (by decide +kernel)
set_option maxRecDepth 20000 in
theorem gX9_open_X9_refuse : GoodIn wsX9_open (wsV RX9 82 RX9 yX9_refuse wsX9_refuse) := goodIn_app (goodIn_of _ (by decide +kernel)) ggX9_open_X9_refuse
set_option maxRecDepth 20000 in
theorem ggX9_open_X6_isOpen : GoodIn wsX9_open wsX6_isOpen := goodIn_r _ [19, 20, 32, 33, 34, 35, 36] rfl (by decide +kernel)
set_option maxRecDepth 20000 in
theorem gX9_open_X6_isOpen : GoodIn wsX9_open (wsV RX9 118 RX6 yX6_isOpen wsX6_isOpen) := goodIn_app (goodIn_of _ (by decide +kernel)) ggX9_open_X6_isOpen
theorem dX9_open_0 : decode cX9_open 0 = .ok (.aload_n 0, 1) := by decide +kernel
theorem dX9_open_1 : decode cX9_open 1 = .ok (.getfield 19, 3) := by decide +kernel
theorem dX9_open_4 : decode cX9_open 4 = .ok (.iload_n 1, 1) := by decide +kernel
theorem dX9_open_5 : decode cX9_open 5 = .ok (.invokevirtual 107, 3) := by decide +kernel
theorem dX9_open_8 : decode cX9_open 8 = .ok (.ifCond .ne 9, 3) := by decide +kernel
theorem dX9_open_11 : decode cX9_open 11 = .ok (.aload_n 0, 1) := by decide +kernel
theorem dX9_open_12 : decode cX9_open 12 = .ok (.iconst (-1), 1) := by decide +kernel
theorem dX9_open_13 : decode cX9_open 13 = .ok (.invokevirtual 82, 3) := by decide +kernel
theorem dX9_open_16 : decode cX9_open 16 = .ok (.ireturn, 1) := by decide +kernel
theorem dX9_open_17 : decode cX9_open 17 = .ok (.aload_n 0, 1) := by decide +kernel
theorem dX9_open_18 : decode cX9_open 18 = .ok (.getfield 19, 3) := by decide +kernel
theorem dX9_open_21 : decode cX9_open 21 = .ok (.iload_n 1, 1) := by decide +kernel
theorem dX9_open_22 : decode cX9_open 22 = .ok (.invokevirtual 118, 3) := by decide +kernel
theorem dX9_open_25 : decode cX9_open 25 = .ok (.iload_n 2, 1) := by decide +kernel
theorem dX9_open_26 : decode cX9_open 26 = .ok (.if_icmp .ne 5, 3) := by decide +kernel
theorem dX9_open_29 : decode cX9_open 29 = .ok (.iconst 0, 1) := by decide +kernel
theorem dX9_open_30 : decode cX9_open 30 = .ok (.ireturn, 1) := by decide +kernel
theorem dX9_open_31 : decode cX9_open 31 = .ok (.aload_n 0, 1) := by decide +kernel
theorem dX9_open_32 : decode cX9_open 32 = .ok (.iconst 0, 1) := by decide +kernel
theorem dX9_open_33 : decode cX9_open 33 = .ok (.putfield 74, 3) := by decide +kernel
theorem dX9_open_36 : decode cX9_open 36 = .ok (.aload_n 0, 1) := by decide +kernel
theorem dX9_open_37 : decode cX9_open 37 = .ok (.getfield 19, 3) := by decide +kernel
theorem dX9_open_40 : decode cX9_open 40 = .ok (.dup, 1) := by decide +kernel
theorem dX9_open_41 : decode cX9_open 41 = .ok (.getfield 121, 3) := by decide +kernel
theorem dX9_open_44 : decode cX9_open 44 = .ok (.iconst 1, 1) := by decide +kernel
theorem dX9_open_45 : decode cX9_open 45 = .ok (.iload_n 1, 1) := by decide +kernel
theorem dX9_open_46 : decode cX9_open 46 = .ok (.ishl, 1) := by decide +kernel
theorem dX9_open_47 : decode cX9_open 47 = .ok (.ixor, 1) := by decide +kernel
theorem dX9_open_48 : decode cX9_open 48 = .ok (.putfield 121, 3) := by decide +kernel
theorem dX9_open_51 : decode cX9_open 51 = .ok (.iconst 1, 1) := by decide +kernel
theorem dX9_open_52 : decode cX9_open 52 = .ok (.ireturn, 1) := by decide +kernel
set_option maxRecDepth 20000 in
theorem ggX9_passes_X6_has : GoodIn wsX9_passes wsX6_has := goodIn_r _ [6, 7, 90, 91, 92, 93, 94] rfl (by decide +kernel)
set_option maxRecDepth 20000 in
theorem gX9_passes_X6_has : GoodIn wsX9_passes (wsV RX9 107 RX6 yX6_has wsX6_has) := goodIn_app (goodIn_of _ (by decide +kernel)) ggX9_passes_X6_has
set_option maxRecDepth 20000 in
theorem ggX9_passes_X9_refuse : GoodIn wsX9_passes wsX9_refuse := goodIn_r _ [12, 13, 79, 80, 81, 82, 83, 84, 85, 86, 87, 88, 89] rfl (by decide +kernel)
set_option maxRecDepth 20000 in
theorem gX9_passes_X9_refuse : GoodIn wsX9_passes (wsV RX9 82 RX9 yX9_refuse wsX9_refuse) := goodIn_app (goodIn_of _ (by decide +kernel)) ggX9_passes_X9_refuse
set_option maxRecDepth 20000 in
theorem ggX9_passes_X9_passesNow : GoodIn wsX9_passes wsX9_passesNow := goodIn_r _ [17, 18, 19, 20, 1, 21, 22, 23, 24, 25, 26, 27, 28, 29, 30, 31, 32, 33, 34, 35, 36, 37, 38, 39, 40, 41, 42, 43, 44, 45, 46, 47, 48, 49, 50, 51, 52, 53, 54, 55, 56, 57, 58, 59, 60, 61, 62, 63, 5, 64, 65, 66, 67, 68, 69, 70, 71, 72, 73, 74, 75, 79, 80, 81, 82, 83, 84, 85, 86, 87, 88, 89, 95, 96, 97, 98, 99, 100, 101, 102, 103, 104, 105, 106, 107, 108, 109, 110, 111, 112, 113, 114, 90, 91, 92, 93, 94] rfl (by decide +kernel)
set_option maxRecDepth 20000 in
theorem gX9_passes_X9_passesNow : GoodIn wsX9_passes (wsV RX9 124 RX9 yX9_passesNow wsX9_passesNow) := goodIn_app (goodIn_of _ (by decide +kernel)) ggX9_passes_X9_passesNow
set_option maxRecDepth 20000 in
theorem ggX9_passes_X9_asInt : GoodIn wsX9_passes wsX9_asInt := goodIn_r _ [78] rfl (by decide +kernel)
set_option maxRecDepth 20000 in
theorem gX9_passes_X9_asInt : GoodIn wsX9_passes (va_wsS RX9 127 yX9_asInt wsX9_asInt) := goodIn_app (goodIn_of _ (by decide +kernel)) ggX9_passes_X9_asInt
theorem dX9_passes_0 : decode cX9_passes 0 = .ok (.aload_n 0, 1) := by decide +kernel
theorem dX9_passes_1 : decode cX9_passes 1 = .ok (.getfield 19, 3) := by decide +kernel
theorem dX9_passes_4 : decode cX9_passes 4 = .ok (.iload_n 1, 1) := by decide +kernel
theorem dX9_passes_5 : decode cX9_passes 5 = .ok (.invokevirtual 107, 3) := by decide +kernel
theorem dX9_passes_8 : decode cX9_passes 8 = .ok (.ifCond .ne 9, 3) := by decide +kernel
theorem dX9_passes_11 : decode cX9_passes 11 = .ok (.aload_n 0, 1) := by decide +kernel
theorem dX9_passes_12 : decode cX9_passes 12 = .ok (.iconst (-1), 1) := by decide +kernel
theorem dX9_passes_13 : decode cX9_passes 13 = .ok (.invokevirtual 82, 3) := by decide +kernel
theorem dX9_passes_16 : decode cX9_passes 16 = .ok (.ireturn, 1) := by decide +kernel
theorem dX9_passes_17 : decode cX9_passes 17 = .ok (.aload_n 0, 1) := by decide +kernel
theorem dX9_passes_18 : decode cX9_passes 18 = .ok (.iload_n 1, 1) := by decide +kernel
theorem dX9_passes_19 : decode cX9_passes 19 = .ok (.invokevirtual 124, 3) := by decide +kernel
theorem dX9_passes_22 : decode cX9_passes 22 = .ok (.invokestatic 127, 3) := by decide +kernel
theorem dX9_passes_25 : decode cX9_passes 25 = .ok (.ireturn, 1) := by decide +kernel
set_option maxRecDepth 20000 in
theorem ggX9_outs_X6_has : GoodIn wsX9_outs wsX6_has := goodIn_r _ [10, 11, 89, 90, 91, 92, 93] rfl (by decide +kernel)
set_option maxRecDepth 20000 in
theorem gX9_outs_X6_has : GoodIn wsX9_outs (wsV RX9 107 RX6 yX6_has wsX6_has) := goodIn_app (goodIn_of _ (by decide +kernel)) ggX9_outs_X6_has
set_option maxRecDepth 20000 in
theorem ggX9_outs_X9_refuse : GoodIn wsX9_outs wsX9_refuse := goodIn_r _ [16, 17, 63, 64, 65, 66, 67, 68, 69, 70, 71, 72, 73] rfl (by decide +kernel)
set_option maxRecDepth 20000 in
theorem gX9_outs_X9_refuse : GoodIn wsX9_outs (wsV RX9 82 RX9 yX9_refuse wsX9_refuse) := goodIn_app (goodIn_of _ (by decide +kernel)) ggX9_outs_X9_refuse
set_option maxRecDepth 20000 in
theorem ggX9_outs_X4_plainly : GoodIn wsX9_outs wsX4_plainly := goodIn_r _ [22, 23, 24, 25, 26, 27, 21, 28, 29, 30, 31, 32, 33, 34, 35, 36, 37, 38, 39, 40, 41, 42, 43, 44, 45, 46, 47, 48, 49, 50, 51, 52, 53, 54, 55, 56, 57, 58, 59, 60, 9, 61, 62, 79, 80, 81, 82, 83, 84, 85, 86, 87, 88, 94, 95, 96, 97, 98, 89, 90, 91, 92, 93] rfl (by decide +kernel)
set_option maxRecDepth 20000 in
theorem gX9_outs_X4_plainly : GoodIn wsX9_outs (wsV RX9 131 RX4 yX4_plainly wsX4_plainly) := goodIn_app (goodIn_of _ (by decide +kernel)) ggX9_outs_X4_plainly
theorem dX9_outs_0 : decode cX9_outs 0 = .ok (.aload_n 0, 1) := by decide +kernel
theorem dX9_outs_1 : decode cX9_outs 1 = .ok (.getfield 19, 3) := by decide +kernel
theorem dX9_outs_4 : decode cX9_outs 4 = .ok (.iload_n 1, 1) := by decide +kernel
theorem dX9_outs_5 : decode cX9_outs 5 = .ok (.invokevirtual 107, 3) := by decide +kernel
theorem dX9_outs_8 : decode cX9_outs 8 = .ok (.ifCond .ne 9, 3) := by decide +kernel
theorem dX9_outs_11 : decode cX9_outs 11 = .ok (.aload_n 0, 1) := by decide +kernel
theorem dX9_outs_12 : decode cX9_outs 12 = .ok (.iconst (-1), 1) := by decide +kernel
theorem dX9_outs_13 : decode cX9_outs 13 = .ok (.invokevirtual 82, 3) := by decide +kernel
theorem dX9_outs_16 : decode cX9_outs 16 = .ok (.ireturn, 1) := by decide +kernel
theorem dX9_outs_17 : decode cX9_outs 17 = .ok (.aload_n 0, 1) := by decide +kernel
theorem dX9_outs_18 : decode cX9_outs 18 = .ok (.getfield 26, 3) := by decide +kernel
theorem dX9_outs_21 : decode cX9_outs 21 = .ok (.aload_n 0, 1) := by decide +kernel
theorem dX9_outs_22 : decode cX9_outs 22 = .ok (.getfield 12, 3) := by decide +kernel
theorem dX9_outs_25 : decode cX9_outs 25 = .ok (.getfield 96, 3) := by decide +kernel
theorem dX9_outs_28 : decode cX9_outs 28 = .ok (.aload_n 0, 1) := by decide +kernel
theorem dX9_outs_29 : decode cX9_outs 29 = .ok (.getfield 19, 3) := by decide +kernel
theorem dX9_outs_32 : decode cX9_outs 32 = .ok (.iload_n 1, 1) := by decide +kernel
theorem dX9_outs_33 : decode cX9_outs 33 = .ok (.invokevirtual 131, 3) := by decide +kernel
theorem dX9_outs_36 : decode cX9_outs 36 = .ok (.aload_n 0, 1) := by decide +kernel
theorem dX9_outs_37 : decode cX9_outs 37 = .ok (.getfield 26, 3) := by decide +kernel
theorem dX9_outs_40 : decode cX9_outs 40 = .ok (.getfield 135, 3) := by decide +kernel
theorem dX9_outs_43 : decode cX9_outs 43 = .ok (.ireturn, 1) := by decide +kernel
set_option maxRecDepth 20000 in
theorem ggX9_out_X6_has : GoodIn wsX9_out wsX6_has := goodIn_r _ [13, 14, 86, 87, 88, 89, 90] rfl (by decide +kernel)
set_option maxRecDepth 20000 in
theorem gX9_out_X6_has : GoodIn wsX9_out (wsV RX9 107 RX6 yX6_has wsX6_has) := goodIn_app (goodIn_of _ (by decide +kernel)) ggX9_out_X6_has
set_option maxRecDepth 20000 in
theorem ggX9_out_X4_plainly : GoodIn wsX9_out wsX4_plainly := goodIn_r _ [19, 20, 21, 22, 23, 24, 18, 25, 26, 27, 28, 29, 30, 31, 32, 33, 34, 35, 36, 37, 38, 39, 40, 41, 42, 43, 44, 45, 46, 47, 48, 49, 50, 51, 52, 53, 54, 55, 56, 57, 12, 58, 59, 76, 77, 78, 79, 80, 81, 82, 83, 84, 85, 91, 92, 93, 94, 95, 86, 87, 88, 89, 90] rfl (by decide +kernel)
set_option maxRecDepth 20000 in
theorem gX9_out_X4_plainly : GoodIn wsX9_out (wsV RX9 131 RX4 yX4_plainly wsX4_plainly) := goodIn_app (goodIn_of _ (by decide +kernel)) ggX9_out_X4_plainly
theorem dX9_out_0 : decode cX9_out 0 = .ok (.aload_n 0, 1) := by decide +kernel
theorem dX9_out_1 : decode cX9_out 1 = .ok (.getfield 19, 3) := by decide +kernel
theorem dX9_out_4 : decode cX9_out 4 = .ok (.iload_n 1, 1) := by decide +kernel
theorem dX9_out_5 : decode cX9_out 5 = .ok (.invokevirtual 107, 3) := by decide +kernel
theorem dX9_out_8 : decode cX9_out 8 = .ok (.ifCond .ne 13, 3) := by decide +kernel
theorem dX9_out_11 : decode cX9_out 11 = .ok (.new 138, 3) := by decide +kernel
theorem dX9_out_14 : decode cX9_out 14 = .ok (.dup, 1) := by decide +kernel
theorem dX9_out_15 : decode cX9_out 15 = .ok (.ldc 140, 2) := by decide +kernel
theorem dX9_out_17 : decode cX9_out 17 = .ok (.invokespecial 142, 3) := by decide +kernel
theorem dX9_out_20 : decode cX9_out 20 = .ok (.athrow, 1) := by decide +kernel
theorem dX9_out_21 : decode cX9_out 21 = .ok (.aload_n 0, 1) := by decide +kernel
theorem dX9_out_22 : decode cX9_out 22 = .ok (.getfield 26, 3) := by decide +kernel
theorem dX9_out_25 : decode cX9_out 25 = .ok (.aload_n 0, 1) := by decide +kernel
theorem dX9_out_26 : decode cX9_out 26 = .ok (.getfield 12, 3) := by decide +kernel
theorem dX9_out_29 : decode cX9_out 29 = .ok (.getfield 96, 3) := by decide +kernel
theorem dX9_out_32 : decode cX9_out 32 = .ok (.aload_n 0, 1) := by decide +kernel
theorem dX9_out_33 : decode cX9_out 33 = .ok (.getfield 19, 3) := by decide +kernel
theorem dX9_out_36 : decode cX9_out 36 = .ok (.iload_n 1, 1) := by decide +kernel
theorem dX9_out_37 : decode cX9_out 37 = .ok (.invokevirtual 131, 3) := by decide +kernel
theorem dX9_out_40 : decode cX9_out 40 = .ok (.iload_n 2, 1) := by decide +kernel
theorem dX9_out_41 : decode cX9_out 41 = .ok (.ifCond .lt 14, 3) := by decide +kernel
theorem dX9_out_44 : decode cX9_out 44 = .ok (.iload_n 2, 1) := by decide +kernel
theorem dX9_out_45 : decode cX9_out 45 = .ok (.aload_n 0, 1) := by decide +kernel
theorem dX9_out_46 : decode cX9_out 46 = .ok (.getfield 26, 3) := by decide +kernel
theorem dX9_out_49 : decode cX9_out 49 = .ok (.getfield 135, 3) := by decide +kernel
theorem dX9_out_52 : decode cX9_out 52 = .ok (.if_icmp .lt 13, 3) := by decide +kernel
theorem dX9_out_55 : decode cX9_out 55 = .ok (.new 138, 3) := by decide +kernel
theorem dX9_out_58 : decode cX9_out 58 = .ok (.dup, 1) := by decide +kernel
theorem dX9_out_59 : decode cX9_out 59 = .ok (.ldc 145, 2) := by decide +kernel
theorem dX9_out_61 : decode cX9_out 61 = .ok (.invokespecial 142, 3) := by decide +kernel
theorem dX9_out_64 : decode cX9_out 64 = .ok (.athrow, 1) := by decide +kernel
theorem dX9_out_65 : decode cX9_out 65 = .ok (.aload_n 0, 1) := by decide +kernel
theorem dX9_out_66 : decode cX9_out 66 = .ok (.getfield 26, 3) := by decide +kernel
theorem dX9_out_69 : decode cX9_out 69 = .ok (.getfield 147, 3) := by decide +kernel
theorem dX9_out_72 : decode cX9_out 72 = .ok (.iload_n 2, 1) := by decide +kernel
theorem dX9_out_73 : decode cX9_out 73 = .ok (.iaload, 1) := by decide +kernel
theorem dX9_out_74 : decode cX9_out 74 = .ok (.ireturn, 1) := by decide +kernel
set_option maxRecDepth 20000 in
theorem ggX9_steps_X6_has : GoodIn wsX9_steps wsX6_has := goodIn_r _ [10, 11, 89, 90, 91, 92, 93] rfl (by decide +kernel)
set_option maxRecDepth 20000 in
theorem gX9_steps_X6_has : GoodIn wsX9_steps (wsV RX9 107 RX6 yX6_has wsX6_has) := goodIn_app (goodIn_of _ (by decide +kernel)) ggX9_steps_X6_has
set_option maxRecDepth 20000 in
theorem ggX9_steps_X9_refuse : GoodIn wsX9_steps wsX9_refuse := goodIn_r _ [16, 17, 63, 64, 65, 66, 67, 68, 69, 70, 71, 72, 73] rfl (by decide +kernel)
set_option maxRecDepth 20000 in
theorem gX9_steps_X9_refuse : GoodIn wsX9_steps (wsV RX9 82 RX9 yX9_refuse wsX9_refuse) := goodIn_app (goodIn_of _ (by decide +kernel)) ggX9_steps_X9_refuse
set_option maxRecDepth 20000 in
theorem ggX9_steps_X4_plainly : GoodIn wsX9_steps wsX4_plainly := goodIn_r _ [22, 23, 24, 25, 26, 27, 21, 28, 29, 30, 31, 32, 33, 34, 35, 36, 37, 38, 39, 40, 41, 42, 43, 44, 45, 46, 47, 48, 49, 50, 51, 52, 53, 54, 55, 56, 57, 58, 59, 60, 9, 61, 62, 79, 80, 81, 82, 83, 84, 85, 86, 87, 88, 94, 95, 96, 97, 98, 89, 90, 91, 92, 93] rfl (by decide +kernel)
set_option maxRecDepth 20000 in
theorem gX9_steps_X4_plainly : GoodIn wsX9_steps (wsV RX9 131 RX4 yX4_plainly wsX4_plainly) := goodIn_app (goodIn_of _ (by decide +kernel)) ggX9_steps_X4_plainly
theorem dX9_steps_0 : decode cX9_steps 0 = .ok (.aload_n 0, 1) := by decide +kernel
theorem dX9_steps_1 : decode cX9_steps 1 = .ok (.getfield 19, 3) := by decide +kernel
theorem dX9_steps_4 : decode cX9_steps 4 = .ok (.iload_n 1, 1) := by decide +kernel
theorem dX9_steps_5 : decode cX9_steps 5 = .ok (.invokevirtual 107, 3) := by decide +kernel
theorem dX9_steps_8 : decode cX9_steps 8 = .ok (.ifCond .ne 9, 3) := by decide +kernel
theorem dX9_steps_11 : decode cX9_steps 11 = .ok (.aload_n 0, 1) := by decide +kernel
theorem dX9_steps_12 : decode cX9_steps 12 = .ok (.iconst (-1), 1) := by decide +kernel
theorem dX9_steps_13 : decode cX9_steps 13 = .ok (.invokevirtual 82, 3) := by decide +kernel
theorem dX9_steps_16 : decode cX9_steps 16 = .ok (.ireturn, 1) := by decide +kernel
theorem dX9_steps_17 : decode cX9_steps 17 = .ok (.aload_n 0, 1) := by decide +kernel
theorem dX9_steps_18 : decode cX9_steps 18 = .ok (.getfield 26, 3) := by decide +kernel
theorem dX9_steps_21 : decode cX9_steps 21 = .ok (.aload_n 0, 1) := by decide +kernel
theorem dX9_steps_22 : decode cX9_steps 22 = .ok (.getfield 12, 3) := by decide +kernel
theorem dX9_steps_25 : decode cX9_steps 25 = .ok (.getfield 96, 3) := by decide +kernel
theorem dX9_steps_28 : decode cX9_steps 28 = .ok (.aload_n 0, 1) := by decide +kernel
theorem dX9_steps_29 : decode cX9_steps 29 = .ok (.getfield 19, 3) := by decide +kernel
theorem dX9_steps_32 : decode cX9_steps 32 = .ok (.iload_n 1, 1) := by decide +kernel
theorem dX9_steps_33 : decode cX9_steps 33 = .ok (.invokevirtual 131, 3) := by decide +kernel
theorem dX9_steps_36 : decode cX9_steps 36 = .ok (.aload_n 0, 1) := by decide +kernel
theorem dX9_steps_37 : decode cX9_steps 37 = .ok (.getfield 26, 3) := by decide +kernel
theorem dX9_steps_40 : decode cX9_steps 40 = .ok (.getfield 150, 3) := by decide +kernel
theorem dX9_steps_43 : decode cX9_steps 43 = .ok (.ireturn, 1) := by decide +kernel
set_option maxRecDepth 20000 in
theorem ggX9_step_X6_has : GoodIn wsX9_step wsX6_has := goodIn_r _ [11, 12, 90, 91, 92, 93, 94] rfl (by decide +kernel)
set_option maxRecDepth 20000 in
theorem gX9_step_X6_has : GoodIn wsX9_step (wsV RX9 107 RX6 yX6_has wsX6_has) := goodIn_app (goodIn_of _ (by decide +kernel)) ggX9_step_X6_has
set_option maxRecDepth 20000 in
theorem ggX9_step_X9_refuse : GoodIn wsX9_step wsX9_refuse := goodIn_r _ [17, 18, 64, 65, 66, 67, 68, 69, 70, 71, 72, 73, 74] rfl (by decide +kernel)
set_option maxRecDepth 20000 in
theorem gX9_step_X9_refuse : GoodIn wsX9_step (wsV RX9 82 RX9 yX9_refuse wsX9_refuse) := goodIn_app (goodIn_of _ (by decide +kernel)) ggX9_step_X9_refuse
set_option maxRecDepth 20000 in
theorem ggX9_step_X4_plainly : GoodIn wsX9_step wsX4_plainly := goodIn_r _ [23, 24, 25, 26, 27, 28, 22, 29, 30, 31, 32, 33, 34, 35, 36, 37, 38, 39, 40, 41, 42, 43, 44, 45, 46, 47, 48, 49, 50, 51, 52, 53, 54, 55, 56, 57, 58, 59, 60, 61, 10, 62, 63, 80, 81, 82, 83, 84, 85, 86, 87, 88, 89, 95, 96, 97, 98, 99, 90, 91, 92, 93, 94] rfl (by decide +kernel)
set_option maxRecDepth 20000 in
theorem gX9_step_X4_plainly : GoodIn wsX9_step (wsV RX9 131 RX4 yX4_plainly wsX4_plainly) := goodIn_app (goodIn_of _ (by decide +kernel)) ggX9_step_X4_plainly
theorem dX9_step_0 : decode cX9_step 0 = .ok (.aload_n 0, 1) := by decide +kernel
theorem dX9_step_1 : decode cX9_step 1 = .ok (.getfield 19, 3) := by decide +kernel
theorem dX9_step_4 : decode cX9_step 4 = .ok (.iload_n 1, 1) := by decide +kernel
theorem dX9_step_5 : decode cX9_step 5 = .ok (.invokevirtual 107, 3) := by decide +kernel
theorem dX9_step_8 : decode cX9_step 8 = .ok (.ifCond .ne 9, 3) := by decide +kernel
theorem dX9_step_11 : decode cX9_step 11 = .ok (.aload_n 0, 1) := by decide +kernel
theorem dX9_step_12 : decode cX9_step 12 = .ok (.iconst (-1), 1) := by decide +kernel
theorem dX9_step_13 : decode cX9_step 13 = .ok (.invokevirtual 82, 3) := by decide +kernel
theorem dX9_step_16 : decode cX9_step 16 = .ok (.ireturn, 1) := by decide +kernel
theorem dX9_step_17 : decode cX9_step 17 = .ok (.aload_n 0, 1) := by decide +kernel
theorem dX9_step_18 : decode cX9_step 18 = .ok (.getfield 26, 3) := by decide +kernel
theorem dX9_step_21 : decode cX9_step 21 = .ok (.aload_n 0, 1) := by decide +kernel
theorem dX9_step_22 : decode cX9_step 22 = .ok (.getfield 12, 3) := by decide +kernel
theorem dX9_step_25 : decode cX9_step 25 = .ok (.getfield 96, 3) := by decide +kernel
theorem dX9_step_28 : decode cX9_step 28 = .ok (.aload_n 0, 1) := by decide +kernel
theorem dX9_step_29 : decode cX9_step 29 = .ok (.getfield 19, 3) := by decide +kernel
theorem dX9_step_32 : decode cX9_step 32 = .ok (.iload_n 1, 1) := by decide +kernel
theorem dX9_step_33 : decode cX9_step 33 = .ok (.invokevirtual 131, 3) := by decide +kernel
theorem dX9_step_36 : decode cX9_step 36 = .ok (.iload_n 2, 1) := by decide +kernel
theorem dX9_step_37 : decode cX9_step 37 = .ok (.ifCond .lt 26, 3) := by decide +kernel
theorem dX9_step_40 : decode cX9_step 40 = .ok (.iload_n 2, 1) := by decide +kernel
theorem dX9_step_41 : decode cX9_step 41 = .ok (.aload_n 0, 1) := by decide +kernel
theorem dX9_step_42 : decode cX9_step 42 = .ok (.getfield 26, 3) := by decide +kernel
theorem dX9_step_45 : decode cX9_step 45 = .ok (.getfield 150, 3) := by decide +kernel
theorem dX9_step_48 : decode cX9_step 48 = .ok (.if_icmp .ge 15, 3) := by decide +kernel
theorem dX9_step_51 : decode cX9_step 51 = .ok (.aload_n 0, 1) := by decide +kernel
theorem dX9_step_52 : decode cX9_step 52 = .ok (.getfield 26, 3) := by decide +kernel
theorem dX9_step_55 : decode cX9_step 55 = .ok (.getfield 153, 3) := by decide +kernel
theorem dX9_step_58 : decode cX9_step 58 = .ok (.iload_n 2, 1) := by decide +kernel
theorem dX9_step_59 : decode cX9_step 59 = .ok (.iaload, 1) := by decide +kernel
theorem dX9_step_60 : decode cX9_step 60 = .ok (.goto 5, 3) := by decide +kernel
theorem dX9_step_63 : decode cX9_step 63 = .ok (.bipush (-9), 2) := by decide +kernel
theorem dX9_step_65 : decode cX9_step 65 = .ok (.ireturn, 1) := by decide +kernel
set_option maxRecDepth 20000 in
theorem ggX9_met_X6_has : GoodIn wsX9_met wsX6_has := goodIn_r _ [9, 10, 89, 90, 91, 92, 93] rfl (by decide +kernel)
set_option maxRecDepth 20000 in
theorem gX9_met_X6_has : GoodIn wsX9_met (wsV RX9 107 RX6 yX6_has wsX6_has) := goodIn_app (goodIn_of _ (by decide +kernel)) ggX9_met_X6_has
set_option maxRecDepth 20000 in
theorem ggX9_met_X3_hasLine : GoodIn wsX9_met wsX3_hasLine := goodIn_r _ [15, 16, 17, 84, 85, 86, 87, 88, 94, 95, 96, 97, 98] rfl (by decide +kernel)
set_option maxRecDepth 20000 in
theorem gX9_met_X3_hasLine : GoodIn wsX9_met (wsV RX9 156 RX3 yX3_hasLine wsX3_hasLine) := goodIn_app (goodIn_of _ (by decide +kernel)) ggX9_met_X3_hasLine
set_option maxRecDepth 20000 in
theorem ggX9_met_X9_refuse : GoodIn wsX9_met wsX9_refuse := goodIn_r _ [22, 23, 73, 74, 75, 76, 77, 78, 79, 80, 81, 82, 83] rfl (by decide +kernel)
set_option maxRecDepth 20000 in
theorem gX9_met_X9_refuse : GoodIn wsX9_met (wsV RX9 82 RX9 yX9_refuse wsX9_refuse) := goodIn_app (goodIn_of _ (by decide +kernel)) ggX9_met_X9_refuse
set_option maxRecDepth 20000 in
theorem ggX9_met_X4_plainly : GoodIn wsX9_met wsX4_plainly := goodIn_r _ [28, 29, 30, 31, 32, 33, 27, 34, 35, 36, 37, 38, 39, 40, 41, 42, 43, 44, 45, 46, 47, 48, 49, 50, 51, 52, 53, 54, 55, 56, 57, 58, 59, 60, 61, 62, 63, 64, 65, 66, 8, 67, 68, 99, 100, 101, 102, 103, 104, 105, 106, 107, 108, 94, 95, 96, 97, 98, 89, 90, 91, 92, 93] rfl (by decide +kernel)
set_option maxRecDepth 20000 in
theorem gX9_met_X4_plainly : GoodIn wsX9_met (wsV RX9 131 RX4 yX4_plainly wsX4_plainly) := goodIn_app (goodIn_of _ (by decide +kernel)) ggX9_met_X4_plainly
set_option maxRecDepth 20000 in
theorem ggX9_met_X4_timesDone : GoodIn wsX9_met wsX4_timesDone := goodIn_r _ [72, 35, 39, 99, 100, 101, 102, 103, 104, 105, 106, 107, 108] rfl (by decide +kernel)
set_option maxRecDepth 20000 in
theorem gX9_met_X4_timesDone : GoodIn wsX9_met (wsV RX9 159 RX4 yX4_timesDone wsX4_timesDone) := goodIn_app (goodIn_of _ (by decide +kernel)) ggX9_met_X4_timesDone
theorem dX9_met_0 : decode cX9_met 0 = .ok (.aload_n 0, 1) := by decide +kernel
theorem dX9_met_1 : decode cX9_met 1 = .ok (.getfield 19, 3) := by decide +kernel
theorem dX9_met_4 : decode cX9_met 4 = .ok (.iload_n 1, 1) := by decide +kernel
theorem dX9_met_5 : decode cX9_met 5 = .ok (.invokevirtual 107, 3) := by decide +kernel
theorem dX9_met_8 : decode cX9_met 8 = .ok (.ifCond .eq 14, 3) := by decide +kernel
theorem dX9_met_11 : decode cX9_met 11 = .ok (.aload_n 0, 1) := by decide +kernel
theorem dX9_met_12 : decode cX9_met 12 = .ok (.getfield 12, 3) := by decide +kernel
theorem dX9_met_15 : decode cX9_met 15 = .ok (.iload_n 2, 1) := by decide +kernel
theorem dX9_met_16 : decode cX9_met 16 = .ok (.invokevirtual 156, 3) := by decide +kernel
theorem dX9_met_19 : decode cX9_met 19 = .ok (.ifCond .ne 9, 3) := by decide +kernel
theorem dX9_met_22 : decode cX9_met 22 = .ok (.aload_n 0, 1) := by decide +kernel
theorem dX9_met_23 : decode cX9_met 23 = .ok (.iconst (-1), 1) := by decide +kernel
theorem dX9_met_24 : decode cX9_met 24 = .ok (.invokevirtual 82, 3) := by decide +kernel
theorem dX9_met_27 : decode cX9_met 27 = .ok (.ireturn, 1) := by decide +kernel
theorem dX9_met_28 : decode cX9_met 28 = .ok (.aload_n 0, 1) := by decide +kernel
theorem dX9_met_29 : decode cX9_met 29 = .ok (.getfield 26, 3) := by decide +kernel
theorem dX9_met_32 : decode cX9_met 32 = .ok (.aload_n 0, 1) := by decide +kernel
theorem dX9_met_33 : decode cX9_met 33 = .ok (.getfield 12, 3) := by decide +kernel
theorem dX9_met_36 : decode cX9_met 36 = .ok (.getfield 96, 3) := by decide +kernel
theorem dX9_met_39 : decode cX9_met 39 = .ok (.aload_n 0, 1) := by decide +kernel
theorem dX9_met_40 : decode cX9_met 40 = .ok (.getfield 19, 3) := by decide +kernel
theorem dX9_met_43 : decode cX9_met 43 = .ok (.iload_n 1, 1) := by decide +kernel
theorem dX9_met_44 : decode cX9_met 44 = .ok (.invokevirtual 131, 3) := by decide +kernel
theorem dX9_met_47 : decode cX9_met 47 = .ok (.aload_n 0, 1) := by decide +kernel
theorem dX9_met_48 : decode cX9_met 48 = .ok (.getfield 26, 3) := by decide +kernel
theorem dX9_met_51 : decode cX9_met 51 = .ok (.iload_n 2, 1) := by decide +kernel
theorem dX9_met_52 : decode cX9_met 52 = .ok (.invokevirtual 159, 3) := by decide +kernel
theorem dX9_met_55 : decode cX9_met 55 = .ok (.ireturn, 1) := by decide +kernel
set_option maxRecDepth 20000 in
theorem ggX9_score_X3_hasLine : GoodIn wsX9_score wsX3_hasLine := goodIn_r _ [10, 11, 12, 185, 186, 187, 188, 189, 190, 191, 192, 193, 194] rfl (by decide +kernel)
set_option maxRecDepth 20000 in
theorem gX9_score_X3_hasLine : GoodIn wsX9_score (wsV RX9 156 RX3 yX3_hasLine wsX3_hasLine) := goodIn_app (goodIn_of _ (by decide +kernel)) ggX9_score_X3_hasLine
set_option maxRecDepth 20000 in
theorem ggX9_score_X9_refuse : GoodIn wsX9_score wsX9_refuse := goodIn_r _ [17, 18, 172, 173, 174, 175, 176, 177, 178, 179, 180, 181, 182] rfl (by decide +kernel)
set_option maxRecDepth 20000 in
theorem gX9_score_X9_refuse : GoodIn wsX9_score (wsV RX9 82 RX9 yX9_refuse wsX9_refuse) := goodIn_app (goodIn_of _ (by decide +kernel)) ggX9_score_X9_refuse
set_option maxRecDepth 20000 in
theorem ggX9_score_X9_judge : GoodIn wsX9_score wsX9_judge := goodIn_r _ [22, 23, 3, 1, 24, 25, 26, 27, 28, 29, 30, 31, 32, 33, 34, 35, 36, 37, 38, 39, 40, 41, 42, 43, 44, 45, 46, 47, 48, 49, 50, 51, 52, 53, 54, 55, 56, 57, 58, 59, 60, 61, 62, 63, 64, 65, 66, 67, 68, 69, 70, 71, 72, 73, 74, 75, 76, 77, 78, 79, 80, 81, 82, 83, 84, 85, 86, 87, 88, 89, 90, 91, 92, 93, 94, 95, 96, 97, 98, 99, 100, 101, 102, 103, 104, 105, 106, 107, 108, 109, 110, 111, 112, 113, 114, 115, 116, 117, 118, 119, 120, 121, 122, 123, 124, 125, 126, 127, 128, 129, 130, 131, 132, 133, 134, 135, 136, 137, 138, 139, 140, 141, 142, 143, 144, 145, 146, 172, 173, 174, 175, 176, 177, 178, 179, 180, 181, 182, 185, 186, 187, 188, 189, 190, 191, 192, 193, 194, 195, 196, 197, 198, 199, 200, 201, 202, 203, 204, 205, 206, 207, 208, 209, 210, 211, 212, 213, 214, 215, 216, 217, 218, 219] rfl (by decide +kernel)
set_option maxRecDepth 20000 in
theorem gX9_score_X9_judge : GoodIn wsX9_score (wsV RX9 162 RX9 yX9_judge wsX9_judge) := goodIn_app (goodIn_of _ (by decide +kernel)) ggX9_score_X9_judge
set_option maxRecDepth 20000 in
theorem ggX9_score_X1_become : GoodIn wsX9_score wsX1_become := goodIn_r _ [151, 152, 153, 154, 155, 156, 157, 158, 159, 160, 161, 162, 163, 164, 150, 165, 166, 167, 195, 196, 197, 198, 183, 184] rfl (by decide +kernel)
set_option maxRecDepth 20000 in
theorem gX9_score_X1_become : GoodIn wsX9_score (wsV RX9 165 RX1 yX1_become wsX1_become) := goodIn_app (goodIn_of _ (by decide +kernel)) ggX9_score_X1_become
set_option maxRecDepth 20000 in
theorem ggX9_score_X1_reduce : GoodIn wsX9_score wsX1_reduce := goodIn_r _ [171, 167, 166, 183, 184] rfl (by decide +kernel)
set_option maxRecDepth 20000 in
theorem gX9_score_X1_reduce : GoodIn wsX9_score (wsV RX9 169 RX1 yX1_reduce wsX1_reduce) := goodIn_app (goodIn_of _ (by decide +kernel)) ggX9_score_X1_reduce
theorem dX9_score_0 : decode cX9_score 0 = .ok (.aload_n 0, 1) := by decide +kernel
theorem dX9_score_1 : decode cX9_score 1 = .ok (.getfield 12, 3) := by decide +kernel
theorem dX9_score_4 : decode cX9_score 4 = .ok (.iload_n 1, 1) := by decide +kernel
theorem dX9_score_5 : decode cX9_score 5 = .ok (.invokevirtual 156, 3) := by decide +kernel
theorem dX9_score_8 : decode cX9_score 8 = .ok (.ifCond .ne 9, 3) := by decide +kernel
theorem dX9_score_11 : decode cX9_score 11 = .ok (.aload_n 0, 1) := by decide +kernel
theorem dX9_score_12 : decode cX9_score 12 = .ok (.iconst (-1), 1) := by decide +kernel
theorem dX9_score_13 : decode cX9_score 13 = .ok (.invokevirtual 82, 3) := by decide +kernel
theorem dX9_score_16 : decode cX9_score 16 = .ok (.ireturn, 1) := by decide +kernel
theorem dX9_score_17 : decode cX9_score 17 = .ok (.iload_n 2, 1) := by decide +kernel
theorem dX9_score_18 : decode cX9_score 18 = .ok (.ifCond .lt 17, 3) := by decide +kernel
theorem dX9_score_21 : decode cX9_score 21 = .ok (.iload_n 2, 1) := by decide +kernel
theorem dX9_score_22 : decode cX9_score 22 = .ok (.iconst 3, 1) := by decide +kernel
theorem dX9_score_23 : decode cX9_score 23 = .ok (.if_icmp .ge 12, 3) := by decide +kernel
theorem dX9_score_26 : decode cX9_score 26 = .ok (.iload_n 3, 1) := by decide +kernel
theorem dX9_score_27 : decode cX9_score 27 = .ok (.ifCond .lt 8, 3) := by decide +kernel
theorem dX9_score_30 : decode cX9_score 30 = .ok (.iload_n 3, 1) := by decide +kernel
theorem dX9_score_31 : decode cX9_score 31 = .ok (.iconst 2, 1) := by decide +kernel
theorem dX9_score_32 : decode cX9_score 32 = .ok (.if_icmp .lt 10, 3) := by decide +kernel
theorem dX9_score_35 : decode cX9_score 35 = .ok (.aload_n 0, 1) := by decide +kernel
theorem dX9_score_36 : decode cX9_score 36 = .ok (.bipush (-2), 2) := by decide +kernel
theorem dX9_score_38 : decode cX9_score 38 = .ok (.invokevirtual 82, 3) := by decide +kernel
theorem dX9_score_41 : decode cX9_score 41 = .ok (.ireturn, 1) := by decide +kernel
theorem dX9_score_42 : decode cX9_score 42 = .ok (.aload_n 0, 1) := by decide +kernel
theorem dX9_score_43 : decode cX9_score 43 = .ok (.invokevirtual 162, 3) := by decide +kernel
theorem dX9_score_46 : decode cX9_score 46 = .ok (.aload_n 0, 1) := by decide +kernel
theorem dX9_score_47 : decode cX9_score 47 = .ok (.getfield 47, 3) := by decide +kernel
theorem dX9_score_50 : decode cX9_score 50 = .ok (.aload_n 0, 1) := by decide +kernel
theorem dX9_score_51 : decode cX9_score 51 = .ok (.getfield 40, 3) := by decide +kernel
theorem dX9_score_54 : decode cX9_score 54 = .ok (.iload_n 1, 1) := by decide +kernel
theorem dX9_score_55 : decode cX9_score 55 = .ok (.iload_n 2, 1) := by decide +kernel
theorem dX9_score_56 : decode cX9_score 56 = .ok (.invokevirtual 165, 3) := by decide +kernel
theorem dX9_score_59 : decode cX9_score 59 = .ok (.aload_n 0, 1) := by decide +kernel
theorem dX9_score_60 : decode cX9_score 60 = .ok (.getfield 47, 3) := by decide +kernel
theorem dX9_score_63 : decode cX9_score 63 = .ok (.invokevirtual 169, 3) := by decide +kernel
theorem dX9_score_66 : decode cX9_score 66 = .ok (.iload_n 3, 1) := by decide +kernel
theorem dX9_score_67 : decode cX9_score 67 = .ok (.ifCond .ne 13, 3) := by decide +kernel
theorem dX9_score_70 : decode cX9_score 70 = .ok (.aload_n 0, 1) := by decide +kernel
theorem dX9_score_71 : decode cX9_score 71 = .ok (.getfield 47, 3) := by decide +kernel
theorem dX9_score_74 : decode cX9_score 74 = .ok (.getfield 172, 3) := by decide +kernel
theorem dX9_score_77 : decode cX9_score 77 = .ok (.goto 10, 3) := by decide +kernel
theorem dX9_score_80 : decode cX9_score 80 = .ok (.aload_n 0, 1) := by decide +kernel
theorem dX9_score_81 : decode cX9_score 81 = .ok (.getfield 47, 3) := by decide +kernel
theorem dX9_score_84 : decode cX9_score 84 = .ok (.getfield 175, 3) := by decide +kernel
theorem dX9_score_87 : decode cX9_score 87 = .ok (.ireturn, 1) := by decide +kernel
set_option maxRecDepth 20000 in
theorem ggX9_rank_X3_hasLine : GoodIn wsX9_rank wsX3_hasLine := goodIn_r _ [11, 12, 13, 185, 186, 187, 188, 189, 190, 191, 192, 193, 194] rfl (by decide +kernel)
set_option maxRecDepth 20000 in
theorem gX9_rank_X3_hasLine : GoodIn wsX9_rank (wsV RX9 156 RX3 yX3_hasLine wsX3_hasLine) := goodIn_app (goodIn_of _ (by decide +kernel)) ggX9_rank_X3_hasLine
set_option maxRecDepth 20000 in
theorem ggX9_rank_X9_refuse : GoodIn wsX9_rank wsX9_refuse := goodIn_r _ [18, 19, 174, 175, 176, 177, 178, 179, 180, 181, 182, 183, 184] rfl (by decide +kernel)
set_option maxRecDepth 20000 in
theorem gX9_rank_X9_refuse : GoodIn wsX9_rank (wsV RX9 82 RX9 yX9_refuse wsX9_refuse) := goodIn_app (goodIn_of _ (by decide +kernel)) ggX9_rank_X9_refuse
set_option maxRecDepth 20000 in
theorem ggX9_rank_X9_judge : GoodIn wsX9_rank wsX9_judge := goodIn_r _ [23, 24, 3, 1, 4, 25, 26, 27, 5, 28, 29, 30, 31, 32, 33, 34, 35, 36, 37, 38, 39, 40, 41, 42, 43, 44, 45, 46, 47, 48, 49, 50, 51, 52, 53, 54, 55, 56, 57, 58, 59, 60, 61, 62, 63, 64, 65, 66, 67, 68, 69, 70, 71, 72, 73, 74, 75, 76, 77, 78, 79, 80, 81, 82, 83, 84, 85, 86, 87, 88, 89, 90, 91, 92, 93, 94, 95, 96, 97, 98, 99, 100, 101, 102, 103, 104, 105, 106, 107, 108, 109, 110, 111, 112, 113, 114, 115, 116, 117, 118, 119, 120, 121, 122, 123, 124, 125, 126, 127, 128, 129, 130, 131, 132, 133, 134, 135, 136, 137, 138, 139, 140, 141, 142, 143, 144, 145, 174, 175, 176, 177, 178, 179, 180, 181, 182, 183, 184, 185, 186, 187, 188, 189, 190, 191, 192, 193, 194, 195, 196, 197, 198, 199, 200, 201, 202, 203, 204, 205, 206, 207, 208, 209, 210, 211, 212, 213, 214, 215, 216, 217, 218, 219] rfl (by decide +kernel)
set_option maxRecDepth 20000 in
theorem gX9_rank_X9_judge : GoodIn wsX9_rank (wsV RX9 162 RX9 yX9_judge wsX9_judge) := goodIn_app (goodIn_of _ (by decide +kernel)) ggX9_rank_X9_judge
set_option maxRecDepth 20000 in
theorem ggX9_rank_X1_become : GoodIn wsX9_rank wsX1_become := goodIn_r _ [150, 151, 152, 153, 154, 155, 156, 157, 158, 159, 160, 161, 162, 163, 149, 164, 165, 166, 195, 196, 197, 198, 220, 221] rfl (by decide +kernel)
set_option maxRecDepth 20000 in
theorem gX9_rank_X1_become : GoodIn wsX9_rank (wsV RX9 165 RX1 yX1_become wsX1_become) := goodIn_app (goodIn_of _ (by decide +kernel)) ggX9_rank_X1_become
set_option maxRecDepth 20000 in
theorem ggX9_rank_X1_compareWith : GoodIn wsX9_rank wsX1_compareWith := goodIn_r _ [170, 165, 166, 171, 172, 156, 173, 220, 221] rfl (by decide +kernel)
set_option maxRecDepth 20000 in
theorem gX9_rank_X1_compareWith : GoodIn wsX9_rank (wsV RX9 178 RX1 yX1_compareWith wsX1_compareWith) := goodIn_app (goodIn_of _ (by decide +kernel)) ggX9_rank_X1_compareWith
theorem dX9_rank_0 : decode cX9_rank 0 = .ok (.aload_n 0, 1) := by decide +kernel
theorem dX9_rank_1 : decode cX9_rank 1 = .ok (.getfield 12, 3) := by decide +kernel
theorem dX9_rank_4 : decode cX9_rank 4 = .ok (.iload_n 1, 1) := by decide +kernel
theorem dX9_rank_5 : decode cX9_rank 5 = .ok (.invokevirtual 156, 3) := by decide +kernel
theorem dX9_rank_8 : decode cX9_rank 8 = .ok (.ifCond .ne 9, 3) := by decide +kernel
theorem dX9_rank_11 : decode cX9_rank 11 = .ok (.aload_n 0, 1) := by decide +kernel
theorem dX9_rank_12 : decode cX9_rank 12 = .ok (.iconst (-1), 1) := by decide +kernel
theorem dX9_rank_13 : decode cX9_rank 13 = .ok (.invokevirtual 82, 3) := by decide +kernel
theorem dX9_rank_16 : decode cX9_rank 16 = .ok (.ireturn, 1) := by decide +kernel
theorem dX9_rank_17 : decode cX9_rank 17 = .ok (.iload_n 2, 1) := by decide +kernel
theorem dX9_rank_18 : decode cX9_rank 18 = .ok (.ifCond .lt 8, 3) := by decide +kernel
theorem dX9_rank_21 : decode cX9_rank 21 = .ok (.iload_n 2, 1) := by decide +kernel
theorem dX9_rank_22 : decode cX9_rank 22 = .ok (.iconst 3, 1) := by decide +kernel
theorem dX9_rank_23 : decode cX9_rank 23 = .ok (.if_icmp .lt 10, 3) := by decide +kernel
theorem dX9_rank_26 : decode cX9_rank 26 = .ok (.aload_n 0, 1) := by decide +kernel
theorem dX9_rank_27 : decode cX9_rank 27 = .ok (.bipush (-2), 2) := by decide +kernel
theorem dX9_rank_29 : decode cX9_rank 29 = .ok (.invokevirtual 82, 3) := by decide +kernel
theorem dX9_rank_32 : decode cX9_rank 32 = .ok (.ireturn, 1) := by decide +kernel
theorem dX9_rank_33 : decode cX9_rank 33 = .ok (.aload_n 0, 1) := by decide +kernel
theorem dX9_rank_34 : decode cX9_rank 34 = .ok (.invokevirtual 162, 3) := by decide +kernel
theorem dX9_rank_37 : decode cX9_rank 37 = .ok (.aload_n 0, 1) := by decide +kernel
theorem dX9_rank_38 : decode cX9_rank 38 = .ok (.getfield 47, 3) := by decide +kernel
theorem dX9_rank_41 : decode cX9_rank 41 = .ok (.aload_n 0, 1) := by decide +kernel
theorem dX9_rank_42 : decode cX9_rank 42 = .ok (.getfield 40, 3) := by decide +kernel
theorem dX9_rank_45 : decode cX9_rank 45 = .ok (.iload_n 1, 1) := by decide +kernel
theorem dX9_rank_46 : decode cX9_rank 46 = .ok (.iload_n 2, 1) := by decide +kernel
theorem dX9_rank_47 : decode cX9_rank 47 = .ok (.invokevirtual 165, 3) := by decide +kernel
theorem dX9_rank_50 : decode cX9_rank 50 = .ok (.iconst 0, 1) := by decide +kernel
theorem dX9_rank_51 : decode cX9_rank 51 = .ok (.istore_n 3, 1) := by decide +kernel
theorem dX9_rank_52 : decode cX9_rank 52 = .ok (.iconst 0, 1) := by decide +kernel
theorem dX9_rank_53 : decode cX9_rank 53 = .ok (.istore 4, 2) := by decide +kernel
theorem dX9_rank_55 : decode cX9_rank 55 = .ok (.iload 4, 2) := by decide +kernel
theorem dX9_rank_57 : decode cX9_rank 57 = .ok (.aload_n 0, 1) := by decide +kernel
theorem dX9_rank_58 : decode cX9_rank 58 = .ok (.getfield 12, 3) := by decide +kernel
theorem dX9_rank_61 : decode cX9_rank 61 = .ok (.getfield 96, 3) := by decide +kernel
theorem dX9_rank_64 : decode cX9_rank 64 = .ok (.getfield 90, 3) := by decide +kernel
theorem dX9_rank_67 : decode cX9_rank 67 = .ok (.if_icmp .ge 55, 3) := by decide +kernel
theorem dX9_rank_70 : decode cX9_rank 70 = .ok (.aload_n 0, 1) := by decide +kernel
theorem dX9_rank_71 : decode cX9_rank 71 = .ok (.getfield 51, 3) := by decide +kernel
theorem dX9_rank_74 : decode cX9_rank 74 = .ok (.aload_n 0, 1) := by decide +kernel
theorem dX9_rank_75 : decode cX9_rank 75 = .ok (.getfield 40, 3) := by decide +kernel
theorem dX9_rank_78 : decode cX9_rank 78 = .ok (.iload 4, 2) := by decide +kernel
theorem dX9_rank_80 : decode cX9_rank 80 = .ok (.iload_n 2, 1) := by decide +kernel
theorem dX9_rank_81 : decode cX9_rank 81 = .ok (.invokevirtual 165, 3) := by decide +kernel
theorem dX9_rank_84 : decode cX9_rank 84 = .ok (.aload_n 0, 1) := by decide +kernel
theorem dX9_rank_85 : decode cX9_rank 85 = .ok (.getfield 51, 3) := by decide +kernel
theorem dX9_rank_88 : decode cX9_rank 88 = .ok (.aload_n 0, 1) := by decide +kernel
theorem dX9_rank_89 : decode cX9_rank 89 = .ok (.getfield 47, 3) := by decide +kernel
theorem dX9_rank_92 : decode cX9_rank 92 = .ok (.invokevirtual 178, 3) := by decide +kernel
theorem dX9_rank_95 : decode cX9_rank 95 = .ok (.istore 5, 2) := by decide +kernel
theorem dX9_rank_97 : decode cX9_rank 97 = .ok (.iload 5, 2) := by decide +kernel
theorem dX9_rank_99 : decode cX9_rank 99 = .ok (.ifCond .gt 14, 3) := by decide +kernel
theorem dX9_rank_102 : decode cX9_rank 102 = .ok (.iload 5, 2) := by decide +kernel
theorem dX9_rank_104 : decode cX9_rank 104 = .ok (.ifCond .ne 12, 3) := by decide +kernel
theorem dX9_rank_107 : decode cX9_rank 107 = .ok (.iload 4, 2) := by decide +kernel
theorem dX9_rank_109 : decode cX9_rank 109 = .ok (.iload_n 1, 1) := by decide +kernel
theorem dX9_rank_110 : decode cX9_rank 110 = .ok (.if_icmp .ge 6, 3) := by decide +kernel
theorem dX9_rank_113 : decode cX9_rank 113 = .ok (.iinc 3 1, 3) := by decide +kernel
theorem dX9_rank_116 : decode cX9_rank 116 = .ok (.iinc 4 1, 3) := by decide +kernel
theorem dX9_rank_119 : decode cX9_rank 119 = .ok (.goto (-64), 3) := by decide +kernel
theorem dX9_rank_122 : decode cX9_rank 122 = .ok (.iload_n 3, 1) := by decide +kernel
theorem dX9_rank_123 : decode cX9_rank 123 = .ok (.ireturn, 1) := by decide +kernel
set_option maxRecDepth 20000 in
theorem ggX9_prior_X3_hasLine : GoodIn wsX9_prior wsX3_hasLine := goodIn_r _ [8, 9, 10, 34, 35, 36, 37, 38, 39, 40, 41, 42, 43] rfl (by decide +kernel)
set_option maxRecDepth 20000 in
theorem gX9_prior_X3_hasLine : GoodIn wsX9_prior (wsV RX9 156 RX3 yX3_hasLine wsX3_hasLine) := goodIn_app (goodIn_of _ (by decide +kernel)) ggX9_prior_X3_hasLine
set_option maxRecDepth 20000 in
theorem ggX9_prior_X9_refuse : GoodIn wsX9_prior wsX9_refuse := goodIn_r _ [15, 16, 17, 18, 19, 20, 21, 22, 23, 24, 25, 26, 27] rfl (by decide +kernel)
set_option maxRecDepth 20000 in
theorem gX9_prior_X9_refuse : GoodIn wsX9_prior (wsV RX9 82 RX9 yX9_refuse wsX9_refuse) := goodIn_app (goodIn_of _ (by decide +kernel)) ggX9_prior_X9_refuse
theorem dX9_prior_0 : decode cX9_prior 0 = .ok (.aload_n 0, 1) := by decide +kernel
theorem dX9_prior_1 : decode cX9_prior 1 = .ok (.getfield 12, 3) := by decide +kernel
theorem dX9_prior_4 : decode cX9_prior 4 = .ok (.iload_n 1, 1) := by decide +kernel
theorem dX9_prior_5 : decode cX9_prior 5 = .ok (.invokevirtual 156, 3) := by decide +kernel
theorem dX9_prior_8 : decode cX9_prior 8 = .ok (.ifCond .ne 9, 3) := by decide +kernel
theorem dX9_prior_11 : decode cX9_prior 11 = .ok (.aload_n 0, 1) := by decide +kernel
theorem dX9_prior_12 : decode cX9_prior 12 = .ok (.iconst (-1), 1) := by decide +kernel
theorem dX9_prior_13 : decode cX9_prior 13 = .ok (.invokevirtual 82, 3) := by decide +kernel
theorem dX9_prior_16 : decode cX9_prior 16 = .ok (.ireturn, 1) := by decide +kernel
theorem dX9_prior_17 : decode cX9_prior 17 = .ok (.iload_n 2, 1) := by decide +kernel
theorem dX9_prior_18 : decode cX9_prior 18 = .ok (.iconst 1, 1) := by decide +kernel
theorem dX9_prior_19 : decode cX9_prior 19 = .ok (.if_icmp .ge 10, 3) := by decide +kernel
theorem dX9_prior_22 : decode cX9_prior 22 = .ok (.aload_n 0, 1) := by decide +kernel
theorem dX9_prior_23 : decode cX9_prior 23 = .ok (.bipush (-4), 2) := by decide +kernel
theorem dX9_prior_25 : decode cX9_prior 25 = .ok (.invokevirtual 82, 3) := by decide +kernel
theorem dX9_prior_28 : decode cX9_prior 28 = .ok (.ireturn, 1) := by decide +kernel
theorem dX9_prior_29 : decode cX9_prior 29 = .ok (.iload_n 2, 1) := by decide +kernel
theorem dX9_prior_30 : decode cX9_prior 30 = .ok (.bipush 9, 2) := by decide +kernel
theorem dX9_prior_32 : decode cX9_prior 32 = .ok (.if_icmp .le 10, 3) := by decide +kernel
theorem dX9_prior_35 : decode cX9_prior 35 = .ok (.aload_n 0, 1) := by decide +kernel
theorem dX9_prior_36 : decode cX9_prior 36 = .ok (.bipush (-6), 2) := by decide +kernel
theorem dX9_prior_38 : decode cX9_prior 38 = .ok (.invokevirtual 82, 3) := by decide +kernel
theorem dX9_prior_41 : decode cX9_prior 41 = .ok (.ireturn, 1) := by decide +kernel
theorem dX9_prior_42 : decode cX9_prior 42 = .ok (.aload_n 0, 1) := by decide +kernel
theorem dX9_prior_43 : decode cX9_prior 43 = .ok (.getfield 59, 3) := by decide +kernel
theorem dX9_prior_46 : decode cX9_prior 46 = .ok (.getfield 182, 3) := by decide +kernel
theorem dX9_prior_49 : decode cX9_prior 49 = .ok (.iload_n 1, 1) := by decide +kernel
theorem dX9_prior_50 : decode cX9_prior 50 = .ok (.iaload, 1) := by decide +kernel
theorem dX9_prior_51 : decode cX9_prior 51 = .ok (.istore_n 3, 1) := by decide +kernel
theorem dX9_prior_52 : decode cX9_prior 52 = .ok (.aload_n 0, 1) := by decide +kernel
theorem dX9_prior_53 : decode cX9_prior 53 = .ok (.getfield 59, 3) := by decide +kernel
theorem dX9_prior_56 : decode cX9_prior 56 = .ok (.getfield 182, 3) := by decide +kernel
theorem dX9_prior_59 : decode cX9_prior 59 = .ok (.iload_n 1, 1) := by decide +kernel
theorem dX9_prior_60 : decode cX9_prior 60 = .ok (.iload_n 2, 1) := by decide +kernel
theorem dX9_prior_61 : decode cX9_prior 61 = .ok (.iastore, 1) := by decide +kernel
theorem dX9_prior_62 : decode cX9_prior 62 = .ok (.iload_n 3, 1) := by decide +kernel
theorem dX9_prior_63 : decode cX9_prior 63 = .ok (.ireturn, 1) := by decide +kernel
set_option maxRecDepth 20000 in
theorem ggX9_suspects_X9_judge : GoodIn wsX9_suspects wsX9_judge := goodIn_r _ [7, 8, 9, 10, 11, 12, 13, 1, 14, 15, 16, 17, 18, 19, 20, 21, 22, 23, 24, 25, 26, 27, 28, 29, 30, 31, 32, 33, 34, 35, 36, 37, 38, 39, 40, 41, 42, 43, 44, 45, 46, 47, 48, 49, 50, 51, 52, 53, 54, 55, 56, 57, 58, 59, 60, 61, 62, 63, 64, 65, 66, 67, 68, 69, 70, 71, 72, 73, 74, 75, 76, 77, 78, 79, 80, 81, 82, 83, 84, 85, 86, 87, 88, 89, 90, 91, 92, 93, 94, 95, 96, 97, 98, 99, 100, 101, 102, 103, 104, 105, 106, 107, 108, 109, 110, 111, 112, 113, 114, 115, 116, 117, 118, 119, 120, 121, 122, 123, 124, 125, 126, 127, 128, 129, 130, 131, 132, 133, 134, 135, 136, 137, 138, 139, 140, 141, 142, 143, 150, 151, 152, 153, 154, 155, 156, 157, 158, 159, 160, 161, 162, 163, 164, 165, 166, 167, 168, 169, 170, 171, 172, 173, 174, 175, 176, 177, 178, 144, 145, 146, 147, 148, 149] rfl (by decide +kernel)
set_option maxRecDepth 20000 in
theorem gX9_suspects_X9_judge : GoodIn wsX9_suspects (wsV RX9 162 RX9 yX9_judge wsX9_judge) := goodIn_app (goodIn_of _ (by decide +kernel)) ggX9_suspects_X9_judge
theorem dX9_suspects_0 : decode cX9_suspects 0 = .ok (.aload_n 0, 1) := by decide +kernel
theorem dX9_suspects_1 : decode cX9_suspects 1 = .ok (.invokevirtual 162, 3) := by decide +kernel
theorem dX9_suspects_4 : decode cX9_suspects 4 = .ok (.aload_n 0, 1) := by decide +kernel
theorem dX9_suspects_5 : decode cX9_suspects 5 = .ok (.getfield 59, 3) := by decide +kernel
theorem dX9_suspects_8 : decode cX9_suspects 8 = .ok (.getfield 185, 3) := by decide +kernel
theorem dX9_suspects_11 : decode cX9_suspects 11 = .ok (.ireturn, 1) := by decide +kernel
set_option maxRecDepth 20000 in
theorem ggX9_suspect_X9_judge : GoodIn wsX9_suspect wsX9_judge := goodIn_r _ [7, 8, 9, 10, 11, 12, 13, 1, 14, 15, 16, 17, 18, 19, 20, 21, 22, 23, 24, 25, 26, 27, 28, 29, 30, 31, 32, 33, 34, 35, 36, 37, 38, 39, 40, 41, 42, 43, 44, 45, 46, 47, 48, 49, 50, 51, 52, 53, 54, 55, 56, 57, 58, 59, 60, 61, 62, 63, 64, 65, 66, 67, 68, 69, 70, 71, 72, 73, 74, 75, 76, 77, 78, 79, 80, 81, 82, 83, 84, 85, 86, 87, 88, 89, 90, 91, 92, 93, 94, 95, 96, 97, 98, 99, 100, 101, 102, 103, 104, 105, 106, 107, 108, 109, 110, 111, 112, 113, 114, 115, 116, 117, 118, 119, 120, 121, 122, 123, 124, 125, 126, 127, 128, 129, 130, 131, 132, 137, 138, 139, 140, 141, 142, 143, 144, 145, 146, 147, 154, 155, 156, 157, 158, 159, 160, 161, 162, 163, 164, 165, 166, 167, 168, 169, 170, 171, 172, 173, 174, 175, 176, 177, 178, 179, 180, 181, 182, 148, 149, 150, 151, 152, 153] rfl (by decide +kernel)
set_option maxRecDepth 20000 in
theorem gX9_suspect_X9_judge : GoodIn wsX9_suspect (wsV RX9 162 RX9 yX9_judge wsX9_judge) := goodIn_app (goodIn_of _ (by decide +kernel)) ggX9_suspect_X9_judge
set_option maxRecDepth 20000 in
theorem ggX9_suspect_X7_has : GoodIn wsX9_suspect wsX7_has := goodIn_r _ [136, 98, 148, 149, 150, 151, 152, 153] rfl (by decide +kernel)
set_option maxRecDepth 20000 in
theorem gX9_suspect_X7_has : GoodIn wsX9_suspect (wsV RX9 186 RX7 yX7_has wsX7_has) := goodIn_app (goodIn_of _ (by decide +kernel)) ggX9_suspect_X7_has
theorem dX9_suspect_0 : decode cX9_suspect 0 = .ok (.aload_n 0, 1) := by decide +kernel
theorem dX9_suspect_1 : decode cX9_suspect 1 = .ok (.invokevirtual 162, 3) := by decide +kernel
theorem dX9_suspect_4 : decode cX9_suspect 4 = .ok (.aload_n 0, 1) := by decide +kernel
theorem dX9_suspect_5 : decode cX9_suspect 5 = .ok (.getfield 59, 3) := by decide +kernel
theorem dX9_suspect_8 : decode cX9_suspect 8 = .ok (.iload_n 1, 1) := by decide +kernel
theorem dX9_suspect_9 : decode cX9_suspect 9 = .ok (.invokevirtual 186, 3) := by decide +kernel
theorem dX9_suspect_12 : decode cX9_suspect 12 = .ok (.ifCond .eq 15, 3) := by decide +kernel
theorem dX9_suspect_15 : decode cX9_suspect 15 = .ok (.aload_n 0, 1) := by decide +kernel
theorem dX9_suspect_16 : decode cX9_suspect 16 = .ok (.getfield 59, 3) := by decide +kernel
theorem dX9_suspect_19 : decode cX9_suspect 19 = .ok (.getfield 187, 3) := by decide +kernel
theorem dX9_suspect_22 : decode cX9_suspect 22 = .ok (.iload_n 1, 1) := by decide +kernel
theorem dX9_suspect_23 : decode cX9_suspect 23 = .ok (.iaload, 1) := by decide +kernel
theorem dX9_suspect_24 : decode cX9_suspect 24 = .ok (.goto 5, 3) := by decide +kernel
theorem dX9_suspect_27 : decode cX9_suspect 27 = .ok (.bipush (-9), 2) := by decide +kernel
theorem dX9_suspect_29 : decode cX9_suspect 29 = .ok (.ireturn, 1) := by decide +kernel
set_option maxRecDepth 20000 in
theorem ggX9_odds_X9_judge : GoodIn wsX9_odds wsX9_judge := goodIn_r _ [6, 7, 8, 9, 10, 11, 12, 1, 13, 14, 15, 16, 17, 18, 19, 20, 21, 22, 23, 24, 25, 26, 27, 28, 29, 30, 31, 32, 33, 34, 35, 36, 37, 38, 39, 40, 41, 42, 43, 44, 45, 46, 47, 48, 49, 50, 51, 52, 53, 54, 55, 56, 57, 58, 59, 60, 61, 62, 63, 64, 65, 66, 67, 68, 69, 70, 71, 72, 73, 74, 75, 76, 77, 78, 79, 80, 81, 82, 83, 84, 85, 86, 87, 88, 89, 90, 91, 92, 93, 94, 95, 96, 97, 98, 99, 100, 101, 102, 103, 104, 105, 106, 107, 108, 109, 110, 111, 112, 113, 114, 115, 116, 117, 118, 119, 120, 121, 122, 123, 124, 125, 126, 127, 128, 129, 130, 131, 149, 150, 151, 152, 153, 154, 155, 156, 157, 158, 159, 160, 161, 162, 163, 164, 165, 166, 167, 168, 169, 170, 171, 172, 173, 174, 175, 176, 177, 178, 179, 180, 181, 182, 183, 184, 185, 186, 187, 188, 189, 190, 191, 192, 193, 194] rfl (by decide +kernel)
set_option maxRecDepth 20000 in
theorem gX9_odds_X9_judge : GoodIn wsX9_odds (wsV RX9 162 RX9 yX9_judge wsX9_judge) := goodIn_app (goodIn_of _ (by decide +kernel)) ggX9_odds_X9_judge
set_option maxRecDepth 20000 in
theorem ggX9_odds_X7_has : GoodIn wsX9_odds wsX7_has := goodIn_r _ [135, 97, 189, 190, 191, 192, 193, 194] rfl (by decide +kernel)
set_option maxRecDepth 20000 in
theorem gX9_odds_X7_has : GoodIn wsX9_odds (wsV RX9 186 RX7 yX7_has wsX7_has) := goodIn_app (goodIn_of _ (by decide +kernel)) ggX9_odds_X7_has
set_option maxRecDepth 20000 in
theorem ggX9_odds_X7_weigh : GoodIn wsX9_odds wsX7_weigh := goodIn_r _ [139, 98, 114, 140, 99, 141, 115, 142, 143, 144, 145, 146, 147, 148, 189, 190, 191, 192, 193, 194, 170, 171, 172, 173] rfl (by decide +kernel)
set_option maxRecDepth 20000 in
theorem gX9_odds_X7_weigh : GoodIn wsX9_odds (wsV RX9 190 RX7 yX7_weigh wsX7_weigh) := goodIn_app (goodIn_of _ (by decide +kernel)) ggX9_odds_X7_weigh
theorem dX9_odds_0 : decode cX9_odds 0 = .ok (.aload_n 0, 1) := by decide +kernel
theorem dX9_odds_1 : decode cX9_odds 1 = .ok (.invokevirtual 162, 3) := by decide +kernel
theorem dX9_odds_4 : decode cX9_odds 4 = .ok (.aload_n 0, 1) := by decide +kernel
theorem dX9_odds_5 : decode cX9_odds 5 = .ok (.getfield 59, 3) := by decide +kernel
theorem dX9_odds_8 : decode cX9_odds 8 = .ok (.iload_n 1, 1) := by decide +kernel
theorem dX9_odds_9 : decode cX9_odds 9 = .ok (.invokevirtual 186, 3) := by decide +kernel
theorem dX9_odds_12 : decode cX9_odds 12 = .ok (.ifCond .eq 14, 3) := by decide +kernel
theorem dX9_odds_15 : decode cX9_odds 15 = .ok (.aload_n 0, 1) := by decide +kernel
theorem dX9_odds_16 : decode cX9_odds 16 = .ok (.getfield 59, 3) := by decide +kernel
theorem dX9_odds_19 : decode cX9_odds 19 = .ok (.iload_n 1, 1) := by decide +kernel
theorem dX9_odds_20 : decode cX9_odds 20 = .ok (.invokevirtual 190, 3) := by decide +kernel
theorem dX9_odds_23 : decode cX9_odds 23 = .ok (.goto 4, 3) := by decide +kernel
theorem dX9_odds_26 : decode cX9_odds 26 = .ok (.lconst 0, 1) := by decide +kernel
theorem dX9_odds_27 : decode cX9_odds 27 = .ok (.lreturn, 1) := by decide +kernel
set_option maxRecDepth 20000 in
theorem ggX9_best_X9_judge : GoodIn wsX9_best wsX9_judge := goodIn_r _ [8, 9, 10, 11, 12, 13, 14, 1, 15, 16, 17, 18, 19, 20, 21, 22, 23, 24, 25, 26, 27, 28, 29, 30, 31, 32, 33, 34, 35, 36, 37, 38, 39, 40, 41, 42, 43, 44, 45, 46, 47, 48, 49, 50, 51, 52, 53, 54, 55, 56, 57, 58, 59, 60, 61, 62, 63, 64, 65, 66, 67, 68, 69, 70, 71, 72, 73, 74, 75, 76, 77, 78, 79, 80, 81, 82, 83, 84, 85, 86, 87, 88, 89, 90, 91, 92, 93, 94, 95, 96, 97, 98, 99, 100, 101, 102, 103, 104, 105, 106, 107, 108, 109, 110, 111, 112, 113, 114, 115, 116, 117, 118, 119, 120, 121, 122, 123, 124, 125, 126, 127, 128, 129, 130, 131, 132, 133, 147, 148, 149, 150, 151, 152, 153, 154, 155, 156, 157, 164, 165, 166, 167, 168, 169, 170, 171, 172, 173, 174, 175, 176, 177, 178, 179, 180, 181, 182, 183, 184, 185, 186, 187, 188, 189, 190, 191, 192, 158, 159, 160, 161, 162, 163] rfl (by decide +kernel)
set_option maxRecDepth 20000 in
theorem gX9_best_X9_judge : GoodIn wsX9_best (wsV RX9 162 RX9 yX9_judge wsX9_judge) := goodIn_app (goodIn_of _ (by decide +kernel)) ggX9_best_X9_judge
set_option maxRecDepth 20000 in
theorem ggX9_best_X7_weigh : GoodIn wsX9_best wsX7_weigh := goodIn_r _ [137, 100, 116, 138, 101, 139, 117, 140, 141, 142, 143, 144, 145, 146, 158, 159, 160, 161, 162, 163, 174, 175, 176, 177] rfl (by decide +kernel)
set_option maxRecDepth 20000 in
theorem gX9_best_X7_weigh : GoodIn wsX9_best (wsV RX9 190 RX7 yX7_weigh wsX7_weigh) := goodIn_app (goodIn_of _ (by decide +kernel)) ggX9_best_X7_weigh
theorem dX9_best_0 : decode cX9_best 0 = .ok (.aload_n 0, 1) := by decide +kernel
theorem dX9_best_1 : decode cX9_best 1 = .ok (.invokevirtual 162, 3) := by decide +kernel
theorem dX9_best_4 : decode cX9_best 4 = .ok (.bipush (-9), 2) := by decide +kernel
theorem dX9_best_6 : decode cX9_best 6 = .ok (.istore_n 1, 1) := by decide +kernel
theorem dX9_best_7 : decode cX9_best 7 = .ok (.lconst 0, 1) := by decide +kernel
theorem dX9_best_8 : decode cX9_best 8 = .ok (.lstore_n 2, 1) := by decide +kernel
theorem dX9_best_9 : decode cX9_best 9 = .ok (.iconst 0, 1) := by decide +kernel
theorem dX9_best_10 : decode cX9_best 10 = .ok (.istore 4, 2) := by decide +kernel
theorem dX9_best_12 : decode cX9_best 12 = .ok (.iload 4, 2) := by decide +kernel
theorem dX9_best_14 : decode cX9_best 14 = .ok (.aload_n 0, 1) := by decide +kernel
theorem dX9_best_15 : decode cX9_best 15 = .ok (.getfield 59, 3) := by decide +kernel
theorem dX9_best_18 : decode cX9_best 18 = .ok (.getfield 185, 3) := by decide +kernel
theorem dX9_best_21 : decode cX9_best 21 = .ok (.if_icmp .ge 41, 3) := by decide +kernel
theorem dX9_best_24 : decode cX9_best 24 = .ok (.aload_n 0, 1) := by decide +kernel
theorem dX9_best_25 : decode cX9_best 25 = .ok (.getfield 59, 3) := by decide +kernel
theorem dX9_best_28 : decode cX9_best 28 = .ok (.iload 4, 2) := by decide +kernel
theorem dX9_best_30 : decode cX9_best 30 = .ok (.invokevirtual 190, 3) := by decide +kernel
theorem dX9_best_33 : decode cX9_best 33 = .ok (.lstore 5, 2) := by decide +kernel
theorem dX9_best_35 : decode cX9_best 35 = .ok (.lload 5, 2) := by decide +kernel
theorem dX9_best_37 : decode cX9_best 37 = .ok (.lload_n 2, 1) := by decide +kernel
theorem dX9_best_38 : decode cX9_best 38 = .ok (.lcmp, 1) := by decide +kernel
theorem dX9_best_39 : decode cX9_best 39 = .ok (.ifCond .le 17, 3) := by decide +kernel
theorem dX9_best_42 : decode cX9_best 42 = .ok (.lload 5, 2) := by decide +kernel
theorem dX9_best_44 : decode cX9_best 44 = .ok (.lstore_n 2, 1) := by decide +kernel
theorem dX9_best_45 : decode cX9_best 45 = .ok (.aload_n 0, 1) := by decide +kernel
theorem dX9_best_46 : decode cX9_best 46 = .ok (.getfield 59, 3) := by decide +kernel
theorem dX9_best_49 : decode cX9_best 49 = .ok (.getfield 187, 3) := by decide +kernel
theorem dX9_best_52 : decode cX9_best 52 = .ok (.iload 4, 2) := by decide +kernel
theorem dX9_best_54 : decode cX9_best 54 = .ok (.iaload, 1) := by decide +kernel
theorem dX9_best_55 : decode cX9_best 55 = .ok (.istore_n 1, 1) := by decide +kernel
theorem dX9_best_56 : decode cX9_best 56 = .ok (.iinc 4 1, 3) := by decide +kernel
theorem dX9_best_59 : decode cX9_best 59 = .ok (.goto (-47), 3) := by decide +kernel
theorem dX9_best_62 : decode cX9_best 62 = .ok (.iload_n 1, 1) := by decide +kernel
theorem dX9_best_63 : decode cX9_best 63 = .ok (.ireturn, 1) := by decide +kernel
set_option maxRecDepth 20000 in
theorem ggX9_slice_X6_has : GoodIn wsX9_slice wsX6_has := goodIn_r _ [11, 12, 108, 109, 110, 111, 112] rfl (by decide +kernel)
set_option maxRecDepth 20000 in
theorem gX9_slice_X6_has : GoodIn wsX9_slice (wsV RX9 107 RX6 yX6_has wsX6_has) := goodIn_app (goodIn_of _ (by decide +kernel)) ggX9_slice_X6_has
set_option maxRecDepth 20000 in
theorem ggX9_slice_X9_refuse : GoodIn wsX9_slice wsX9_refuse := goodIn_r _ [17, 18, 82, 83, 84, 85, 86, 87, 88, 89, 90, 91, 92] rfl (by decide +kernel)
set_option maxRecDepth 20000 in
theorem gX9_slice_X9_refuse : GoodIn wsX9_slice (wsV RX9 82 RX9 yX9_refuse wsX9_refuse) := goodIn_app (goodIn_of _ (by decide +kernel)) ggX9_slice_X9_refuse
set_option maxRecDepth 20000 in
theorem ggX9_slice_X4_plainly : GoodIn wsX9_slice wsX4_plainly := goodIn_r _ [23, 24, 25, 26, 27, 28, 22, 29, 30, 31, 32, 33, 34, 35, 36, 37, 38, 39, 40, 41, 42, 43, 44, 45, 46, 47, 48, 49, 50, 51, 52, 53, 54, 55, 56, 57, 58, 59, 60, 61, 10, 62, 63, 98, 99, 100, 101, 102, 103, 104, 105, 106, 107, 113, 114, 115, 116, 117, 108, 109, 110, 111, 112] rfl (by decide +kernel)
set_option maxRecDepth 20000 in
theorem gX9_slice_X4_plainly : GoodIn wsX9_slice (wsV RX9 131 RX4 yX4_plainly wsX4_plainly) := goodIn_app (goodIn_of _ (by decide +kernel)) ggX9_slice_X4_plainly
set_option maxRecDepth 20000 in
theorem ggX9_slice_X5_linesBehind : GoodIn wsX9_slice wsX5_linesBehind := goodIn_r _ [68, 69, 70, 71, 72, 73, 74, 75, 76, 67, 77, 78, 79, 80, 16, 81, 118, 98, 99, 100, 101, 102, 103, 104, 105, 106, 107, 113, 114, 115, 116, 117] rfl (by decide +kernel)
set_option maxRecDepth 20000 in
theorem gX9_slice_X5_linesBehind : GoodIn wsX9_slice (wsV RX9 194 RX5 yX5_linesBehind wsX5_linesBehind) := goodIn_app (goodIn_of _ (by decide +kernel)) ggX9_slice_X5_linesBehind
theorem dX9_slice_0 : decode cX9_slice 0 = .ok (.aload_n 0, 1) := by decide +kernel
theorem dX9_slice_1 : decode cX9_slice 1 = .ok (.getfield 19, 3) := by decide +kernel
theorem dX9_slice_4 : decode cX9_slice 4 = .ok (.iload_n 1, 1) := by decide +kernel
theorem dX9_slice_5 : decode cX9_slice 5 = .ok (.invokevirtual 107, 3) := by decide +kernel
theorem dX9_slice_8 : decode cX9_slice 8 = .ok (.ifCond .ne 9, 3) := by decide +kernel
theorem dX9_slice_11 : decode cX9_slice 11 = .ok (.aload_n 0, 1) := by decide +kernel
theorem dX9_slice_12 : decode cX9_slice 12 = .ok (.iconst (-1), 1) := by decide +kernel
theorem dX9_slice_13 : decode cX9_slice 13 = .ok (.invokevirtual 82, 3) := by decide +kernel
theorem dX9_slice_16 : decode cX9_slice 16 = .ok (.ireturn, 1) := by decide +kernel
theorem dX9_slice_17 : decode cX9_slice 17 = .ok (.aload_n 0, 1) := by decide +kernel
theorem dX9_slice_18 : decode cX9_slice 18 = .ok (.getfield 26, 3) := by decide +kernel
theorem dX9_slice_21 : decode cX9_slice 21 = .ok (.aload_n 0, 1) := by decide +kernel
theorem dX9_slice_22 : decode cX9_slice 22 = .ok (.getfield 12, 3) := by decide +kernel
theorem dX9_slice_25 : decode cX9_slice 25 = .ok (.getfield 96, 3) := by decide +kernel
theorem dX9_slice_28 : decode cX9_slice 28 = .ok (.aload_n 0, 1) := by decide +kernel
theorem dX9_slice_29 : decode cX9_slice 29 = .ok (.getfield 19, 3) := by decide +kernel
theorem dX9_slice_32 : decode cX9_slice 32 = .ok (.iload_n 1, 1) := by decide +kernel
theorem dX9_slice_33 : decode cX9_slice 33 = .ok (.invokevirtual 131, 3) := by decide +kernel
theorem dX9_slice_36 : decode cX9_slice 36 = .ok (.iload_n 2, 1) := by decide +kernel
theorem dX9_slice_37 : decode cX9_slice 37 = .ok (.ifCond .lt 14, 3) := by decide +kernel
theorem dX9_slice_40 : decode cX9_slice 40 = .ok (.iload_n 2, 1) := by decide +kernel
theorem dX9_slice_41 : decode cX9_slice 41 = .ok (.aload_n 0, 1) := by decide +kernel
theorem dX9_slice_42 : decode cX9_slice 42 = .ok (.getfield 26, 3) := by decide +kernel
theorem dX9_slice_45 : decode cX9_slice 45 = .ok (.getfield 135, 3) := by decide +kernel
theorem dX9_slice_48 : decode cX9_slice 48 = .ok (.if_icmp .lt 9, 3) := by decide +kernel
theorem dX9_slice_51 : decode cX9_slice 51 = .ok (.aload_n 0, 1) := by decide +kernel
theorem dX9_slice_52 : decode cX9_slice 52 = .ok (.iconst (-1), 1) := by decide +kernel
theorem dX9_slice_53 : decode cX9_slice 53 = .ok (.invokevirtual 82, 3) := by decide +kernel
theorem dX9_slice_56 : decode cX9_slice 56 = .ok (.ireturn, 1) := by decide +kernel
theorem dX9_slice_57 : decode cX9_slice 57 = .ok (.aload_n 0, 1) := by decide +kernel
theorem dX9_slice_58 : decode cX9_slice 58 = .ok (.getfield 33, 3) := by decide +kernel
theorem dX9_slice_61 : decode cX9_slice 61 = .ok (.aload_n 0, 1) := by decide +kernel
theorem dX9_slice_62 : decode cX9_slice 62 = .ok (.getfield 12, 3) := by decide +kernel
theorem dX9_slice_65 : decode cX9_slice 65 = .ok (.getfield 96, 3) := by decide +kernel
theorem dX9_slice_68 : decode cX9_slice 68 = .ok (.aload_n 0, 1) := by decide +kernel
theorem dX9_slice_69 : decode cX9_slice 69 = .ok (.getfield 26, 3) := by decide +kernel
theorem dX9_slice_72 : decode cX9_slice 72 = .ok (.iload_n 2, 1) := by decide +kernel
theorem dX9_slice_73 : decode cX9_slice 73 = .ok (.invokevirtual 194, 3) := by decide +kernel
theorem dX9_slice_76 : decode cX9_slice 76 = .ok (.ireturn, 1) := by decide +kernel
set_option maxRecDepth 20000 in
theorem ggX9_ifs_X6_has : GoodIn wsX9_ifs wsX6_has := goodIn_r _ [10, 11, 89, 90, 91, 92, 93] rfl (by decide +kernel)
set_option maxRecDepth 20000 in
theorem gX9_ifs_X6_has : GoodIn wsX9_ifs (wsV RX9 107 RX6 yX6_has wsX6_has) := goodIn_app (goodIn_of _ (by decide +kernel)) ggX9_ifs_X6_has
set_option maxRecDepth 20000 in
theorem ggX9_ifs_X9_refuse : GoodIn wsX9_ifs wsX9_refuse := goodIn_r _ [16, 17, 63, 64, 65, 66, 67, 68, 69, 70, 71, 72, 73] rfl (by decide +kernel)
set_option maxRecDepth 20000 in
theorem gX9_ifs_X9_refuse : GoodIn wsX9_ifs (wsV RX9 82 RX9 yX9_refuse wsX9_refuse) := goodIn_app (goodIn_of _ (by decide +kernel)) ggX9_ifs_X9_refuse
set_option maxRecDepth 20000 in
theorem ggX9_ifs_X4_plainly : GoodIn wsX9_ifs wsX4_plainly := goodIn_r _ [22, 23, 24, 25, 26, 27, 21, 28, 29, 30, 31, 32, 33, 34, 35, 36, 37, 38, 39, 40, 41, 42, 43, 44, 45, 46, 47, 48, 49, 50, 51, 52, 53, 54, 55, 56, 57, 58, 59, 60, 9, 61, 62, 79, 80, 81, 82, 83, 84, 85, 86, 87, 88, 94, 95, 96, 97, 98, 89, 90, 91, 92, 93] rfl (by decide +kernel)
set_option maxRecDepth 20000 in
theorem gX9_ifs_X4_plainly : GoodIn wsX9_ifs (wsV RX9 131 RX4 yX4_plainly wsX4_plainly) := goodIn_app (goodIn_of _ (by decide +kernel)) ggX9_ifs_X4_plainly
theorem dX9_ifs_0 : decode cX9_ifs 0 = .ok (.aload_n 0, 1) := by decide +kernel
theorem dX9_ifs_1 : decode cX9_ifs 1 = .ok (.getfield 19, 3) := by decide +kernel
theorem dX9_ifs_4 : decode cX9_ifs 4 = .ok (.iload_n 1, 1) := by decide +kernel
theorem dX9_ifs_5 : decode cX9_ifs 5 = .ok (.invokevirtual 107, 3) := by decide +kernel
theorem dX9_ifs_8 : decode cX9_ifs 8 = .ok (.ifCond .ne 9, 3) := by decide +kernel
theorem dX9_ifs_11 : decode cX9_ifs 11 = .ok (.aload_n 0, 1) := by decide +kernel
theorem dX9_ifs_12 : decode cX9_ifs 12 = .ok (.iconst (-1), 1) := by decide +kernel
theorem dX9_ifs_13 : decode cX9_ifs 13 = .ok (.invokevirtual 82, 3) := by decide +kernel
theorem dX9_ifs_16 : decode cX9_ifs 16 = .ok (.ireturn, 1) := by decide +kernel
theorem dX9_ifs_17 : decode cX9_ifs 17 = .ok (.aload_n 0, 1) := by decide +kernel
theorem dX9_ifs_18 : decode cX9_ifs 18 = .ok (.getfield 26, 3) := by decide +kernel
theorem dX9_ifs_21 : decode cX9_ifs 21 = .ok (.aload_n 0, 1) := by decide +kernel
theorem dX9_ifs_22 : decode cX9_ifs 22 = .ok (.getfield 12, 3) := by decide +kernel
theorem dX9_ifs_25 : decode cX9_ifs 25 = .ok (.getfield 96, 3) := by decide +kernel
theorem dX9_ifs_28 : decode cX9_ifs 28 = .ok (.aload_n 0, 1) := by decide +kernel
theorem dX9_ifs_29 : decode cX9_ifs 29 = .ok (.getfield 19, 3) := by decide +kernel
theorem dX9_ifs_32 : decode cX9_ifs 32 = .ok (.iload_n 1, 1) := by decide +kernel
theorem dX9_ifs_33 : decode cX9_ifs 33 = .ok (.invokevirtual 131, 3) := by decide +kernel
theorem dX9_ifs_36 : decode cX9_ifs 36 = .ok (.aload_n 0, 1) := by decide +kernel
theorem dX9_ifs_37 : decode cX9_ifs 37 = .ok (.getfield 26, 3) := by decide +kernel
theorem dX9_ifs_40 : decode cX9_ifs 40 = .ok (.getfield 198, 3) := by decide +kernel
theorem dX9_ifs_43 : decode cX9_ifs 43 = .ok (.ireturn, 1) := by decide +kernel
set_option maxRecDepth 20000 in
theorem ggX9_turn_X6_has : GoodIn wsX9_turn wsX6_has := goodIn_r _ [10, 11, 110, 111, 112, 113, 114] rfl (by decide +kernel)
set_option maxRecDepth 20000 in
theorem gX9_turn_X6_has : GoodIn wsX9_turn (wsV RX9 107 RX6 yX6_has wsX6_has) := goodIn_app (goodIn_of _ (by decide +kernel)) ggX9_turn_X6_has
set_option maxRecDepth 20000 in
theorem ggX9_turn_X9_refuse : GoodIn wsX9_turn wsX9_refuse := goodIn_r _ [16, 17, 84, 85, 86, 87, 88, 89, 90, 91, 92, 93, 94] rfl (by decide +kernel)
set_option maxRecDepth 20000 in
theorem gX9_turn_X9_refuse : GoodIn wsX9_turn (wsV RX9 82 RX9 yX9_refuse wsX9_refuse) := goodIn_app (goodIn_of _ (by decide +kernel)) ggX9_turn_X9_refuse
set_option maxRecDepth 20000 in
theorem ggX9_turn_X4_plainly : GoodIn wsX9_turn wsX4_plainly := goodIn_r _ [22, 23, 24, 25, 26, 27, 21, 28, 29, 30, 31, 32, 33, 34, 35, 36, 37, 38, 39, 40, 41, 42, 43, 44, 45, 46, 47, 48, 49, 50, 51, 52, 53, 54, 55, 56, 57, 58, 59, 60, 9, 61, 62, 100, 101, 102, 103, 104, 105, 106, 107, 108, 109, 115, 116, 117, 118, 119, 110, 111, 112, 113, 114] rfl (by decide +kernel)
set_option maxRecDepth 20000 in
theorem gX9_turn_X4_plainly : GoodIn wsX9_turn (wsV RX9 131 RX4 yX4_plainly wsX4_plainly) := goodIn_app (goodIn_of _ (by decide +kernel)) ggX9_turn_X4_plainly
set_option maxRecDepth 20000 in
theorem ggX9_turn_X9_passesTurned : GoodIn wsX9_turn wsX9_passesTurned := goodIn_r _ [66, 2, 3, 4, 1, 67, 68, 69, 21, 70, 23, 24, 25, 26, 27, 28, 29, 30, 31, 32, 33, 34, 35, 36, 37, 38, 39, 40, 41, 42, 43, 44, 45, 46, 47, 48, 49, 50, 51, 52, 53, 54, 55, 56, 57, 58, 59, 60, 9, 61, 62, 71, 72, 73, 74, 75, 76, 77, 78, 79, 80, 84, 85, 86, 87, 88, 89, 90, 91, 92, 93, 94, 95, 96, 97, 98, 99, 100, 101, 102, 103, 104, 105, 106, 107, 108, 109, 115, 116, 117, 118, 119, 110, 111, 112, 113, 114] rfl (by decide +kernel)
set_option maxRecDepth 20000 in
theorem gX9_turn_X9_passesTurned : GoodIn wsX9_turn (wsV RX9 201 RX9 yX9_passesTurned wsX9_passesTurned) := goodIn_app (goodIn_of _ (by decide +kernel)) ggX9_turn_X9_passesTurned
set_option maxRecDepth 20000 in
theorem ggX9_turn_X9_asInt : GoodIn wsX9_turn wsX9_asInt := goodIn_r _ [83] rfl (by decide +kernel)
set_option maxRecDepth 20000 in
theorem gX9_turn_X9_asInt : GoodIn wsX9_turn (va_wsS RX9 127 yX9_asInt wsX9_asInt) := goodIn_app (goodIn_of _ (by decide +kernel)) ggX9_turn_X9_asInt
theorem dX9_turn_0 : decode cX9_turn 0 = .ok (.aload_n 0, 1) := by decide +kernel
theorem dX9_turn_1 : decode cX9_turn 1 = .ok (.getfield 19, 3) := by decide +kernel
theorem dX9_turn_4 : decode cX9_turn 4 = .ok (.iload_n 1, 1) := by decide +kernel
theorem dX9_turn_5 : decode cX9_turn 5 = .ok (.invokevirtual 107, 3) := by decide +kernel
theorem dX9_turn_8 : decode cX9_turn 8 = .ok (.ifCond .ne 9, 3) := by decide +kernel
theorem dX9_turn_11 : decode cX9_turn 11 = .ok (.aload_n 0, 1) := by decide +kernel
theorem dX9_turn_12 : decode cX9_turn 12 = .ok (.iconst (-1), 1) := by decide +kernel
theorem dX9_turn_13 : decode cX9_turn 13 = .ok (.invokevirtual 82, 3) := by decide +kernel
theorem dX9_turn_16 : decode cX9_turn 16 = .ok (.ireturn, 1) := by decide +kernel
theorem dX9_turn_17 : decode cX9_turn 17 = .ok (.aload_n 0, 1) := by decide +kernel
theorem dX9_turn_18 : decode cX9_turn 18 = .ok (.getfield 26, 3) := by decide +kernel
theorem dX9_turn_21 : decode cX9_turn 21 = .ok (.aload_n 0, 1) := by decide +kernel
theorem dX9_turn_22 : decode cX9_turn 22 = .ok (.getfield 12, 3) := by decide +kernel
theorem dX9_turn_25 : decode cX9_turn 25 = .ok (.getfield 96, 3) := by decide +kernel
theorem dX9_turn_28 : decode cX9_turn 28 = .ok (.aload_n 0, 1) := by decide +kernel
theorem dX9_turn_29 : decode cX9_turn 29 = .ok (.getfield 19, 3) := by decide +kernel
theorem dX9_turn_32 : decode cX9_turn 32 = .ok (.iload_n 1, 1) := by decide +kernel
theorem dX9_turn_33 : decode cX9_turn 33 = .ok (.invokevirtual 131, 3) := by decide +kernel
theorem dX9_turn_36 : decode cX9_turn 36 = .ok (.iload_n 2, 1) := by decide +kernel
theorem dX9_turn_37 : decode cX9_turn 37 = .ok (.ifCond .lt 14, 3) := by decide +kernel
theorem dX9_turn_40 : decode cX9_turn 40 = .ok (.iload_n 2, 1) := by decide +kernel
theorem dX9_turn_41 : decode cX9_turn 41 = .ok (.aload_n 0, 1) := by decide +kernel
theorem dX9_turn_42 : decode cX9_turn 42 = .ok (.getfield 26, 3) := by decide +kernel
theorem dX9_turn_45 : decode cX9_turn 45 = .ok (.getfield 198, 3) := by decide +kernel
theorem dX9_turn_48 : decode cX9_turn 48 = .ok (.if_icmp .lt 9, 3) := by decide +kernel
theorem dX9_turn_51 : decode cX9_turn 51 = .ok (.aload_n 0, 1) := by decide +kernel
theorem dX9_turn_52 : decode cX9_turn 52 = .ok (.iconst (-1), 1) := by decide +kernel
theorem dX9_turn_53 : decode cX9_turn 53 = .ok (.invokevirtual 82, 3) := by decide +kernel
theorem dX9_turn_56 : decode cX9_turn 56 = .ok (.ireturn, 1) := by decide +kernel
theorem dX9_turn_57 : decode cX9_turn 57 = .ok (.aload_n 0, 1) := by decide +kernel
theorem dX9_turn_58 : decode cX9_turn 58 = .ok (.iload_n 1, 1) := by decide +kernel
theorem dX9_turn_59 : decode cX9_turn 59 = .ok (.iload_n 2, 1) := by decide +kernel
theorem dX9_turn_60 : decode cX9_turn 60 = .ok (.invokevirtual 201, 3) := by decide +kernel
theorem dX9_turn_63 : decode cX9_turn 63 = .ok (.invokestatic 127, 3) := by decide +kernel
theorem dX9_turn_66 : decode cX9_turn 66 = .ok (.ireturn, 1) := by decide +kernel
set_option maxRecDepth 20000 in
theorem ggX9_turnFor_X6_has : GoodIn wsX9_turnFor wsX6_has := goodIn_r _ [8, 9, 106, 107, 108, 109, 110] rfl (by decide +kernel)
set_option maxRecDepth 20000 in
theorem gX9_turnFor_X6_has : GoodIn wsX9_turnFor (wsV RX9 107 RX6 yX6_has wsX6_has) := goodIn_app (goodIn_of _ (by decide +kernel)) ggX9_turnFor_X6_has
set_option maxRecDepth 20000 in
theorem ggX9_turnFor_X9_refuse : GoodIn wsX9_turnFor wsX9_refuse := goodIn_r _ [14, 15, 85, 86, 87, 88, 89, 90, 91, 92, 93, 94, 95] rfl (by decide +kernel)
set_option maxRecDepth 20000 in
theorem gX9_turnFor_X9_refuse : GoodIn wsX9_turnFor (wsV RX9 82 RX9 yX9_refuse wsX9_refuse) := goodIn_app (goodIn_of _ (by decide +kernel)) ggX9_turnFor_X9_refuse
set_option maxRecDepth 20000 in
theorem ggX9_turnFor_X9_passesNow : GoodIn wsX9_turnFor wsX9_passesNow := goodIn_r _ [19, 2, 20, 21, 1, 22, 23, 24, 25, 26, 27, 28, 29, 30, 31, 32, 33, 34, 35, 36, 37, 38, 39, 40, 41, 42, 43, 44, 45, 46, 47, 48, 49, 50, 51, 52, 53, 54, 55, 56, 57, 58, 59, 60, 61, 62, 63, 64, 7, 65, 66, 67, 68, 69, 70, 71, 72, 73, 74, 75, 76, 85, 86, 87, 88, 89, 90, 91, 92, 93, 94, 95, 111, 112, 113, 114, 115, 96, 97, 98, 99, 100, 101, 102, 103, 104, 105, 116, 117, 118, 119, 120, 106, 107, 108, 109, 110] rfl (by decide +kernel)
set_option maxRecDepth 20000 in
theorem gX9_turnFor_X9_passesNow : GoodIn wsX9_turnFor (wsV RX9 124 RX9 yX9_passesNow wsX9_passesNow) := goodIn_app (goodIn_of _ (by decide +kernel)) ggX9_turnFor_X9_passesNow
set_option maxRecDepth 20000 in
theorem ggX9_turnFor_X9_passesTurned : GoodIn wsX9_turnFor wsX9_passesTurned := goodIn_r _ [80, 2, 20, 21, 1, 81, 82, 83, 25, 84, 27, 28, 29, 30, 31, 32, 33, 34, 35, 36, 37, 38, 39, 40, 41, 42, 43, 44, 45, 46, 47, 48, 49, 50, 51, 52, 53, 54, 55, 56, 57, 58, 59, 60, 61, 62, 63, 64, 7, 65, 66, 67, 68, 69, 70, 71, 72, 73, 74, 75, 76, 85, 86, 87, 88, 89, 90, 91, 92, 93, 94, 95, 111, 112, 113, 114, 115, 96, 97, 98, 99, 100, 101, 102, 103, 104, 105, 116, 117, 118, 119, 120, 106, 107, 108, 109, 110] rfl (by decide +kernel)
set_option maxRecDepth 20000 in
theorem gX9_turnFor_X9_passesTurned : GoodIn wsX9_turnFor (wsV RX9 201 RX9 yX9_passesTurned wsX9_passesTurned) := goodIn_app (goodIn_of _ (by decide +kernel)) ggX9_turnFor_X9_passesTurned
theorem dX9_turnFor_0 : decode cX9_turnFor 0 = .ok (.aload_n 0, 1) := by decide +kernel
theorem dX9_turnFor_1 : decode cX9_turnFor 1 = .ok (.getfield 19, 3) := by decide +kernel
theorem dX9_turnFor_4 : decode cX9_turnFor 4 = .ok (.iload_n 1, 1) := by decide +kernel
theorem dX9_turnFor_5 : decode cX9_turnFor 5 = .ok (.invokevirtual 107, 3) := by decide +kernel
theorem dX9_turnFor_8 : decode cX9_turnFor 8 = .ok (.ifCond .ne 9, 3) := by decide +kernel
theorem dX9_turnFor_11 : decode cX9_turnFor 11 = .ok (.aload_n 0, 1) := by decide +kernel
theorem dX9_turnFor_12 : decode cX9_turnFor 12 = .ok (.iconst (-1), 1) := by decide +kernel
theorem dX9_turnFor_13 : decode cX9_turnFor 13 = .ok (.invokevirtual 82, 3) := by decide +kernel
theorem dX9_turnFor_16 : decode cX9_turnFor 16 = .ok (.ireturn, 1) := by decide +kernel
theorem dX9_turnFor_17 : decode cX9_turnFor 17 = .ok (.aload_n 0, 1) := by decide +kernel
theorem dX9_turnFor_18 : decode cX9_turnFor 18 = .ok (.iload_n 1, 1) := by decide +kernel
theorem dX9_turnFor_19 : decode cX9_turnFor 19 = .ok (.invokevirtual 124, 3) := by decide +kernel
theorem dX9_turnFor_22 : decode cX9_turnFor 22 = .ok (.ifCond .eq 10, 3) := by decide +kernel
theorem dX9_turnFor_25 : decode cX9_turnFor 25 = .ok (.aload_n 0, 1) := by decide +kernel
theorem dX9_turnFor_26 : decode cX9_turnFor 26 = .ok (.bipush (-3), 2) := by decide +kernel
theorem dX9_turnFor_28 : decode cX9_turnFor 28 = .ok (.invokevirtual 82, 3) := by decide +kernel
theorem dX9_turnFor_31 : decode cX9_turnFor 31 = .ok (.ireturn, 1) := by decide +kernel
theorem dX9_turnFor_32 : decode cX9_turnFor 32 = .ok (.aload_n 0, 1) := by decide +kernel
theorem dX9_turnFor_33 : decode cX9_turnFor 33 = .ok (.getfield 26, 3) := by decide +kernel
theorem dX9_turnFor_36 : decode cX9_turnFor 36 = .ok (.getfield 198, 3) := by decide +kernel
theorem dX9_turnFor_39 : decode cX9_turnFor 39 = .ok (.istore_n 2, 1) := by decide +kernel
theorem dX9_turnFor_40 : decode cX9_turnFor 40 = .ok (.iconst 0, 1) := by decide +kernel
theorem dX9_turnFor_41 : decode cX9_turnFor 41 = .ok (.istore_n 3, 1) := by decide +kernel
theorem dX9_turnFor_42 : decode cX9_turnFor 42 = .ok (.iload_n 3, 1) := by decide +kernel
theorem dX9_turnFor_43 : decode cX9_turnFor 43 = .ok (.iload_n 2, 1) := by decide +kernel
theorem dX9_turnFor_44 : decode cX9_turnFor 44 = .ok (.if_icmp .ge 20, 3) := by decide +kernel
theorem dX9_turnFor_47 : decode cX9_turnFor 47 = .ok (.aload_n 0, 1) := by decide +kernel
theorem dX9_turnFor_48 : decode cX9_turnFor 48 = .ok (.iload_n 1, 1) := by decide +kernel
theorem dX9_turnFor_49 : decode cX9_turnFor 49 = .ok (.iload_n 3, 1) := by decide +kernel
theorem dX9_turnFor_50 : decode cX9_turnFor 50 = .ok (.invokevirtual 201, 3) := by decide +kernel
theorem dX9_turnFor_53 : decode cX9_turnFor 53 = .ok (.ifCond .eq 5, 3) := by decide +kernel
theorem dX9_turnFor_56 : decode cX9_turnFor 56 = .ok (.iload_n 3, 1) := by decide +kernel
theorem dX9_turnFor_57 : decode cX9_turnFor 57 = .ok (.ireturn, 1) := by decide +kernel
theorem dX9_turnFor_58 : decode cX9_turnFor 58 = .ok (.iinc 3 1, 3) := by decide +kernel
theorem dX9_turnFor_61 : decode cX9_turnFor 61 = .ok (.goto (-19), 3) := by decide +kernel
theorem dX9_turnFor_64 : decode cX9_turnFor 64 = .ok (.bipush (-9), 2) := by decide +kernel
theorem dX9_turnFor_66 : decode cX9_turnFor 66 = .ok (.ireturn, 1) := by decide +kernel
set_option maxRecDepth 20000 in
theorem ggX9_mends_X9_faultOfMending : GoodIn wsX9_mends wsX9_faultOfMending := goodIn_r _ [5, 6, 7, 8, 9, 10, 11, 12, 13, 14, 15, 16, 17, 18, 19, 20, 21, 22, 23, 24, 4, 25, 26, 27, 28, 29, 30, 31, 32, 33, 34, 35, 36, 37, 38, 39, 40, 41, 42, 43, 44, 45, 46, 47, 48, 49, 50, 51, 52, 53, 54, 55, 56, 57, 58, 59, 60, 61, 62, 63, 64, 65, 66, 67, 68, 69, 70, 71, 72, 73, 74, 75, 76, 77, 78, 79, 80, 81, 82, 83, 84, 85, 106, 107, 108, 109, 110, 111, 112, 113, 114, 115, 116, 117, 118, 119, 120, 121, 122, 123, 124, 125, 126, 127, 128, 129, 130, 131, 132, 133, 134, 135, 136, 137, 138, 139, 140, 141] rfl (by decide +kernel)
set_option maxRecDepth 20000 in
theorem gX9_mends_X9_faultOfMending : GoodIn wsX9_mends (wsV RX9 205 RX9 yX9_faultOfMending wsX9_faultOfMending) := goodIn_app (goodIn_of _ (by decide +kernel)) ggX9_mends_X9_faultOfMending
set_option maxRecDepth 20000 in
theorem ggX9_mends_X9_refuse : GoodIn wsX9_mends wsX9_refuse := goodIn_r _ [89, 90, 106, 107, 108, 109, 110, 111, 112, 113, 114, 115, 116] rfl (by decide +kernel)
set_option maxRecDepth 20000 in
theorem gX9_mends_X9_refuse : GoodIn wsX9_mends (wsV RX9 82 RX9 yX9_refuse wsX9_refuse) := goodIn_app (goodIn_of _ (by decide +kernel)) ggX9_mends_X9_refuse
set_option maxRecDepth 20000 in
theorem ggX9_mends_X9_mendingValue : GoodIn wsX9_mends wsX9_mendingValue := goodIn_r _ [94, 95, 96, 97, 4, 98, 30, 7, 8, 6, 99, 100, 101, 34, 102, 36, 37, 62, 38, 39, 40, 41, 42, 43, 44, 45, 46, 47, 48, 49, 50, 51, 52, 53, 54, 55, 56, 57, 58, 59, 60, 61, 63, 64, 65, 66, 67, 68, 69, 70, 71, 72, 73, 13, 74, 75, 76, 77, 78, 79, 80, 81, 82, 83, 84, 85, 106, 107, 108, 109, 110, 111, 112, 113, 114, 115, 116, 117, 118, 119, 120, 121, 132, 133, 134, 135, 136, 137, 138, 139, 140, 141, 122, 123, 124, 125, 126, 127, 128, 129, 130, 131] rfl (by decide +kernel)
set_option maxRecDepth 20000 in
theorem gX9_mends_X9_mendingValue : GoodIn wsX9_mends (wsV RX9 209 RX9 yX9_mendingValue wsX9_mendingValue) := goodIn_app (goodIn_of _ (by decide +kernel)) ggX9_mends_X9_mendingValue
set_option maxRecDepth 20000 in
theorem ggX9_mends_X9_asInt : GoodIn wsX9_mends wsX9_asInt := goodIn_r _ [105] rfl (by decide +kernel)
set_option maxRecDepth 20000 in
theorem gX9_mends_X9_asInt : GoodIn wsX9_mends (va_wsS RX9 127 yX9_asInt wsX9_asInt) := goodIn_app (goodIn_of _ (by decide +kernel)) ggX9_mends_X9_asInt
theorem dX9_mends_0 : decode cX9_mends 0 = .ok (.aload_n 0, 1) := by decide +kernel
theorem dX9_mends_1 : decode cX9_mends 1 = .ok (.iload_n 1, 1) := by decide +kernel
theorem dX9_mends_2 : decode cX9_mends 2 = .ok (.iload_n 2, 1) := by decide +kernel
theorem dX9_mends_3 : decode cX9_mends 3 = .ok (.invokevirtual 205, 3) := by decide +kernel
theorem dX9_mends_6 : decode cX9_mends 6 = .ok (.istore_n 3, 1) := by decide +kernel
theorem dX9_mends_7 : decode cX9_mends 7 = .ok (.iload_n 3, 1) := by decide +kernel
theorem dX9_mends_8 : decode cX9_mends 8 = .ok (.ifCond .eq 9, 3) := by decide +kernel
theorem dX9_mends_11 : decode cX9_mends 11 = .ok (.aload_n 0, 1) := by decide +kernel
theorem dX9_mends_12 : decode cX9_mends 12 = .ok (.iload_n 3, 1) := by decide +kernel
theorem dX9_mends_13 : decode cX9_mends 13 = .ok (.invokevirtual 82, 3) := by decide +kernel
theorem dX9_mends_16 : decode cX9_mends 16 = .ok (.ireturn, 1) := by decide +kernel
theorem dX9_mends_17 : decode cX9_mends 17 = .ok (.aload_n 0, 1) := by decide +kernel
theorem dX9_mends_18 : decode cX9_mends 18 = .ok (.iload_n 1, 1) := by decide +kernel
theorem dX9_mends_19 : decode cX9_mends 19 = .ok (.iload_n 2, 1) := by decide +kernel
theorem dX9_mends_20 : decode cX9_mends 20 = .ok (.invokevirtual 209, 3) := by decide +kernel
theorem dX9_mends_23 : decode cX9_mends 23 = .ok (.bipush 21, 2) := by decide +kernel
theorem dX9_mends_25 : decode cX9_mends 25 = .ok (.if_icmp .eq 7, 3) := by decide +kernel
theorem dX9_mends_28 : decode cX9_mends 28 = .ok (.iconst 1, 1) := by decide +kernel
theorem dX9_mends_29 : decode cX9_mends 29 = .ok (.goto 4, 3) := by decide +kernel
theorem dX9_mends_32 : decode cX9_mends 32 = .ok (.iconst 0, 1) := by decide +kernel
theorem dX9_mends_33 : decode cX9_mends 33 = .ok (.invokestatic 127, 3) := by decide +kernel
theorem dX9_mends_36 : decode cX9_mends 36 = .ok (.ireturn, 1) := by decide +kernel
set_option maxRecDepth 20000 in
theorem ggX9_mendBy_X9_faultOfMending : GoodIn wsX9_mendBy wsX9_faultOfMending := goodIn_r _ [7, 8, 9, 10, 11, 12, 13, 14, 15, 16, 17, 18, 19, 20, 21, 22, 23, 24, 25, 26, 6, 27, 28, 29, 30, 31, 32, 33, 34, 35, 36, 37, 38, 39, 40, 41, 42, 43, 44, 45, 46, 47, 48, 49, 50, 51, 52, 53, 54, 55, 56, 57, 58, 59, 60, 61, 62, 63, 64, 65, 66, 67, 68, 69, 70, 71, 72, 73, 74, 75, 76, 77, 78, 79, 80, 81, 82, 83, 84, 85, 86, 87, 100, 101, 102, 103, 104, 105, 106, 107, 108, 109, 110, 111, 112, 113, 114, 115, 116, 117, 118, 119, 120, 121, 122, 123, 124, 125, 126, 127, 128, 129, 130, 131, 132, 133, 134, 135] rfl (by decide +kernel)
set_option maxRecDepth 20000 in
theorem gX9_mendBy_X9_faultOfMending : GoodIn wsX9_mendBy (wsV RX9 205 RX9 yX9_faultOfMending wsX9_faultOfMending) := goodIn_app (goodIn_of _ (by decide +kernel)) ggX9_mendBy_X9_faultOfMending
set_option maxRecDepth 20000 in
theorem ggX9_mendBy_X9_mendingValue : GoodIn wsX9_mendBy wsX9_mendingValue := goodIn_r _ [91, 92, 93, 94, 6, 95, 32, 9, 10, 8, 96, 97, 98, 36, 99, 38, 39, 64, 40, 41, 42, 43, 44, 45, 46, 47, 48, 49, 50, 51, 52, 53, 54, 55, 56, 57, 58, 59, 60, 61, 62, 63, 65, 66, 67, 68, 69, 70, 71, 72, 73, 74, 75, 15, 76, 77, 78, 79, 80, 81, 82, 83, 84, 85, 86, 87, 100, 101, 102, 103, 104, 105, 106, 107, 108, 109, 110, 111, 112, 113, 114, 115, 126, 127, 128, 129, 130, 131, 132, 133, 134, 135, 116, 117, 118, 119, 120, 121, 122, 123, 124, 125] rfl (by decide +kernel)
set_option maxRecDepth 20000 in
theorem gX9_mendBy_X9_mendingValue : GoodIn wsX9_mendBy (wsV RX9 209 RX9 yX9_mendingValue wsX9_mendingValue) := goodIn_app (goodIn_of _ (by decide +kernel)) ggX9_mendBy_X9_mendingValue
theorem dX9_mendBy_0 : decode cX9_mendBy 0 = .ok (.aload_n 0, 1) := by decide +kernel
theorem dX9_mendBy_1 : decode cX9_mendBy 1 = .ok (.iload_n 1, 1) := by decide +kernel
theorem dX9_mendBy_2 : decode cX9_mendBy 2 = .ok (.iload_n 2, 1) := by decide +kernel
theorem dX9_mendBy_3 : decode cX9_mendBy 3 = .ok (.invokevirtual 205, 3) := by decide +kernel
theorem dX9_mendBy_6 : decode cX9_mendBy 6 = .ok (.ifCond .eq 13, 3) := by decide +kernel
theorem dX9_mendBy_9 : decode cX9_mendBy 9 = .ok (.new 138, 3) := by decide +kernel
theorem dX9_mendBy_12 : decode cX9_mendBy 12 = .ok (.dup, 1) := by decide +kernel
theorem dX9_mendBy_13 : decode cX9_mendBy 13 = .ok (.ldc 212, 2) := by decide +kernel
theorem dX9_mendBy_15 : decode cX9_mendBy 15 = .ok (.invokespecial 142, 3) := by decide +kernel
theorem dX9_mendBy_18 : decode cX9_mendBy 18 = .ok (.athrow, 1) := by decide +kernel
theorem dX9_mendBy_19 : decode cX9_mendBy 19 = .ok (.aload_n 0, 1) := by decide +kernel
theorem dX9_mendBy_20 : decode cX9_mendBy 20 = .ok (.iload_n 1, 1) := by decide +kernel
theorem dX9_mendBy_21 : decode cX9_mendBy 21 = .ok (.iload_n 2, 1) := by decide +kernel
theorem dX9_mendBy_22 : decode cX9_mendBy 22 = .ok (.invokevirtual 209, 3) := by decide +kernel
theorem dX9_mendBy_25 : decode cX9_mendBy 25 = .ok (.istore_n 3, 1) := by decide +kernel
theorem dX9_mendBy_26 : decode cX9_mendBy 26 = .ok (.iload_n 3, 1) := by decide +kernel
theorem dX9_mendBy_27 : decode cX9_mendBy 27 = .ok (.bipush 21, 2) := by decide +kernel
theorem dX9_mendBy_29 : decode cX9_mendBy 29 = .ok (.if_icmp .ne 13, 3) := by decide +kernel
theorem dX9_mendBy_32 : decode cX9_mendBy 32 = .ok (.new 138, 3) := by decide +kernel
theorem dX9_mendBy_35 : decode cX9_mendBy 35 = .ok (.dup, 1) := by decide +kernel
theorem dX9_mendBy_36 : decode cX9_mendBy 36 = .ok (.ldc 214, 2) := by decide +kernel
theorem dX9_mendBy_38 : decode cX9_mendBy 38 = .ok (.invokespecial 142, 3) := by decide +kernel
theorem dX9_mendBy_41 : decode cX9_mendBy 41 = .ok (.athrow, 1) := by decide +kernel
theorem dX9_mendBy_42 : decode cX9_mendBy 42 = .ok (.iload_n 3, 1) := by decide +kernel
theorem dX9_mendBy_43 : decode cX9_mendBy 43 = .ok (.ireturn, 1) := by decide +kernel
set_option maxRecDepth 20000 in
theorem ggX9_change_X3_hasLine : GoodIn wsX9_change wsX3_hasLine := goodIn_r _ [9, 10, 11, 59, 60, 61, 62, 63, 64, 65, 66, 67, 68] rfl (by decide +kernel)
set_option maxRecDepth 20000 in
theorem gX9_change_X3_hasLine : GoodIn wsX9_change (wsV RX9 156 RX3 yX3_hasLine wsX3_hasLine) := goodIn_app (goodIn_of _ (by decide +kernel)) ggX9_change_X3_hasLine
set_option maxRecDepth 20000 in
theorem ggX9_change_X9_refuse : GoodIn wsX9_change wsX9_refuse := goodIn_r _ [16, 17, 48, 49, 50, 51, 52, 53, 54, 55, 56, 57, 58] rfl (by decide +kernel)
set_option maxRecDepth 20000 in
theorem gX9_change_X9_refuse : GoodIn wsX9_change (wsV RX9 82 RX9 yX9_refuse wsX9_refuse) := goodIn_app (goodIn_of _ (by decide +kernel)) ggX9_change_X9_refuse
set_option maxRecDepth 20000 in
theorem ggX9_change_X9_faultOfRow : GoodIn wsX9_change wsX9_faultOfRow := goodIn_r _ [20, 21, 22, 15, 23, 24, 25, 26] rfl (by decide +kernel)
set_option maxRecDepth 20000 in
theorem gX9_change_X9_faultOfRow : GoodIn wsX9_change (va_wsS RX9 78 yX9_faultOfRow wsX9_faultOfRow) := goodIn_app (goodIn_of _ (by decide +kernel)) ggX9_change_X9_faultOfRow
set_option maxRecDepth 20000 in
theorem ggX9_change_X3_alter : GoodIn wsX9_change wsX3_alter := goodIn_r _ [30, 31, 32, 11, 10, 33, 34, 35, 36, 37, 38, 39, 40, 41, 42, 43, 44, 45, 46, 47, 59, 60, 61, 62, 63, 64, 65, 66, 67, 68] rfl (by decide +kernel)
set_option maxRecDepth 20000 in
theorem gX9_change_X3_alter : GoodIn wsX9_change (wsV RX9 216 RX3 yX3_alter wsX3_alter) := goodIn_app (goodIn_of _ (by decide +kernel)) ggX9_change_X3_alter
theorem dX9_change_0 : decode cX9_change 0 = .ok (.aload_n 0, 1) := by decide +kernel
theorem dX9_change_1 : decode cX9_change 1 = .ok (.getfield 12, 3) := by decide +kernel
theorem dX9_change_4 : decode cX9_change 4 = .ok (.iload_n 1, 1) := by decide +kernel
theorem dX9_change_5 : decode cX9_change 5 = .ok (.invokevirtual 156, 3) := by decide +kernel
theorem dX9_change_8 : decode cX9_change 8 = .ok (.ifCond .ne 9, 3) := by decide +kernel
theorem dX9_change_11 : decode cX9_change 11 = .ok (.aload_n 0, 1) := by decide +kernel
theorem dX9_change_12 : decode cX9_change 12 = .ok (.iconst (-1), 1) := by decide +kernel
theorem dX9_change_13 : decode cX9_change 13 = .ok (.invokevirtual 82, 3) := by decide +kernel
theorem dX9_change_16 : decode cX9_change 16 = .ok (.ireturn, 1) := by decide +kernel
theorem dX9_change_17 : decode cX9_change 17 = .ok (.iload_n 2, 1) := by decide +kernel
theorem dX9_change_18 : decode cX9_change 18 = .ok (.iload_n 3, 1) := by decide +kernel
theorem dX9_change_19 : decode cX9_change 19 = .ok (.iload 4, 2) := by decide +kernel
theorem dX9_change_21 : decode cX9_change 21 = .ok (.iload 5, 2) := by decide +kernel
theorem dX9_change_23 : decode cX9_change 23 = .ok (.invokestatic 78, 3) := by decide +kernel
theorem dX9_change_26 : decode cX9_change 26 = .ok (.istore 6, 2) := by decide +kernel
theorem dX9_change_28 : decode cX9_change 28 = .ok (.iload 6, 2) := by decide +kernel
theorem dX9_change_30 : decode cX9_change 30 = .ok (.ifCond .eq 10, 3) := by decide +kernel
theorem dX9_change_33 : decode cX9_change 33 = .ok (.aload_n 0, 1) := by decide +kernel
theorem dX9_change_34 : decode cX9_change 34 = .ok (.iload 6, 2) := by decide +kernel
theorem dX9_change_36 : decode cX9_change 36 = .ok (.invokevirtual 82, 3) := by decide +kernel
theorem dX9_change_39 : decode cX9_change 39 = .ok (.ireturn, 1) := by decide +kernel
theorem dX9_change_40 : decode cX9_change 40 = .ok (.aload_n 0, 1) := by decide +kernel
theorem dX9_change_41 : decode cX9_change 41 = .ok (.getfield 12, 3) := by decide +kernel
theorem dX9_change_44 : decode cX9_change 44 = .ok (.getfield 86, 3) := by decide +kernel
theorem dX9_change_47 : decode cX9_change 47 = .ok (.getfield 90, 3) := by decide +kernel
theorem dX9_change_50 : decode cX9_change 50 = .ok (.bipush 20, 2) := by decide +kernel
theorem dX9_change_52 : decode cX9_change 52 = .ok (.if_icmp .lt 10, 3) := by decide +kernel
theorem dX9_change_55 : decode cX9_change 55 = .ok (.aload_n 0, 1) := by decide +kernel
theorem dX9_change_56 : decode cX9_change 56 = .ok (.bipush (-6), 2) := by decide +kernel
theorem dX9_change_58 : decode cX9_change 58 = .ok (.invokevirtual 82, 3) := by decide +kernel
theorem dX9_change_61 : decode cX9_change 61 = .ok (.ireturn, 1) := by decide +kernel
theorem dX9_change_62 : decode cX9_change 62 = .ok (.aload_n 0, 1) := by decide +kernel
theorem dX9_change_63 : decode cX9_change 63 = .ok (.iconst 0, 1) := by decide +kernel
theorem dX9_change_64 : decode cX9_change 64 = .ok (.putfield 74, 3) := by decide +kernel
theorem dX9_change_67 : decode cX9_change 67 = .ok (.aload_n 0, 1) := by decide +kernel
theorem dX9_change_68 : decode cX9_change 68 = .ok (.getfield 12, 3) := by decide +kernel
theorem dX9_change_71 : decode cX9_change 71 = .ok (.iload_n 1, 1) := by decide +kernel
theorem dX9_change_72 : decode cX9_change 72 = .ok (.iload_n 2, 1) := by decide +kernel
theorem dX9_change_73 : decode cX9_change 73 = .ok (.iload_n 3, 1) := by decide +kernel
theorem dX9_change_74 : decode cX9_change 74 = .ok (.iload 4, 2) := by decide +kernel
theorem dX9_change_76 : decode cX9_change 76 = .ok (.iload 5, 2) := by decide +kernel
theorem dX9_change_78 : decode cX9_change 78 = .ok (.invokevirtual 216, 3) := by decide +kernel
theorem dX9_change_81 : decode cX9_change 81 = .ok (.aload_n 0, 1) := by decide +kernel
theorem dX9_change_82 : decode cX9_change 82 = .ok (.getfield 12, 3) := by decide +kernel
theorem dX9_change_85 : decode cX9_change 85 = .ok (.getfield 86, 3) := by decide +kernel
theorem dX9_change_88 : decode cX9_change 88 = .ok (.getfield 90, 3) := by decide +kernel
theorem dX9_change_91 : decode cX9_change 91 = .ok (.iconst 1, 1) := by decide +kernel
theorem dX9_change_92 : decode cX9_change 92 = .ok (.isub, 1) := by decide +kernel
theorem dX9_change_93 : decode cX9_change 93 = .ok (.ireturn, 1) := by decide +kernel
set_option maxRecDepth 20000 in
theorem ggX9_passesIn_X6_has : GoodIn wsX9_passesIn wsX6_has := goodIn_r _ [9, 10, 129, 130, 131, 132, 133] rfl (by decide +kernel)
set_option maxRecDepth 20000 in
theorem gX9_passesIn_X6_has : GoodIn wsX9_passesIn (wsV RX9 107 RX6 yX6_has wsX6_has) := goodIn_app (goodIn_of _ (by decide +kernel)) ggX9_passesIn_X6_has
set_option maxRecDepth 20000 in
theorem ggX9_passesIn_X9_refuse : GoodIn wsX9_passesIn wsX9_refuse := goodIn_r _ [15, 16, 108, 109, 110, 111, 112, 113, 114, 115, 116, 117, 118] rfl (by decide +kernel)
set_option maxRecDepth 20000 in
theorem gX9_passesIn_X9_refuse : GoodIn wsX9_passesIn (wsV RX9 82 RX9 yX9_refuse wsX9_refuse) := goodIn_app (goodIn_of _ (by decide +kernel)) ggX9_passesIn_X9_refuse
set_option maxRecDepth 20000 in
theorem ggX9_passesIn_X9_passesAt : GoodIn wsX9_passesIn wsX9_passesAt := goodIn_r _ [20, 21, 1, 4, 22, 23, 24, 25, 26, 27, 28, 29, 30, 31, 32, 33, 34, 35, 36, 37, 38, 39, 40, 41, 42, 43, 44, 45, 46, 47, 48, 49, 50, 51, 52, 53, 54, 55, 56, 57, 58, 59, 60, 61, 62, 63, 64, 65, 66, 67, 68, 69, 70, 71, 72, 73, 74, 75, 76, 77, 78, 79, 80, 81, 82, 83, 84, 85, 86, 87, 88, 89, 90, 91, 92, 8, 93, 94, 95, 96, 97, 98, 99, 100, 101, 102, 103, 104, 108, 109, 110, 111, 112, 113, 114, 115, 116, 117, 118, 119, 120, 121, 122, 123, 124, 125, 126, 127, 128, 134, 135, 136, 137, 138, 139, 140, 141, 142, 143, 129, 130, 131, 132, 133] rfl (by decide +kernel)
set_option maxRecDepth 20000 in
theorem gX9_passesIn_X9_passesAt : GoodIn wsX9_passesIn (wsV RX9 220 RX9 yX9_passesAt wsX9_passesAt) := goodIn_app (goodIn_of _ (by decide +kernel)) ggX9_passesIn_X9_passesAt
set_option maxRecDepth 20000 in
theorem ggX9_passesIn_X9_asInt : GoodIn wsX9_passesIn wsX9_asInt := goodIn_r _ [107] rfl (by decide +kernel)
set_option maxRecDepth 20000 in
theorem gX9_passesIn_X9_asInt : GoodIn wsX9_passesIn (va_wsS RX9 127 yX9_asInt wsX9_asInt) := goodIn_app (goodIn_of _ (by decide +kernel)) ggX9_passesIn_X9_asInt
theorem dX9_passesIn_0 : decode cX9_passesIn 0 = .ok (.iload_n 1, 1) := by decide +kernel
theorem dX9_passesIn_1 : decode cX9_passesIn 1 = .ok (.ifCond .lt 28, 3) := by decide +kernel
theorem dX9_passesIn_4 : decode cX9_passesIn 4 = .ok (.iload_n 1, 1) := by decide +kernel
theorem dX9_passesIn_5 : decode cX9_passesIn 5 = .ok (.aload_n 0, 1) := by decide +kernel
theorem dX9_passesIn_6 : decode cX9_passesIn 6 = .ok (.getfield 12, 3) := by decide +kernel
theorem dX9_passesIn_9 : decode cX9_passesIn 9 = .ok (.getfield 86, 3) := by decide +kernel
theorem dX9_passesIn_12 : decode cX9_passesIn 12 = .ok (.getfield 90, 3) := by decide +kernel
theorem dX9_passesIn_15 : decode cX9_passesIn 15 = .ok (.if_icmp .gt 14, 3) := by decide +kernel
theorem dX9_passesIn_18 : decode cX9_passesIn 18 = .ok (.aload_n 0, 1) := by decide +kernel
theorem dX9_passesIn_19 : decode cX9_passesIn 19 = .ok (.getfield 19, 3) := by decide +kernel
theorem dX9_passesIn_22 : decode cX9_passesIn 22 = .ok (.iload_n 2, 1) := by decide +kernel
theorem dX9_passesIn_23 : decode cX9_passesIn 23 = .ok (.invokevirtual 107, 3) := by decide +kernel
theorem dX9_passesIn_26 : decode cX9_passesIn 26 = .ok (.ifCond .ne 9, 3) := by decide +kernel
theorem dX9_passesIn_29 : decode cX9_passesIn 29 = .ok (.aload_n 0, 1) := by decide +kernel
theorem dX9_passesIn_30 : decode cX9_passesIn 30 = .ok (.iconst (-1), 1) := by decide +kernel
theorem dX9_passesIn_31 : decode cX9_passesIn 31 = .ok (.invokevirtual 82, 3) := by decide +kernel
theorem dX9_passesIn_34 : decode cX9_passesIn 34 = .ok (.ireturn, 1) := by decide +kernel
theorem dX9_passesIn_35 : decode cX9_passesIn 35 = .ok (.aload_n 0, 1) := by decide +kernel
theorem dX9_passesIn_36 : decode cX9_passesIn 36 = .ok (.iload_n 1, 1) := by decide +kernel
theorem dX9_passesIn_37 : decode cX9_passesIn 37 = .ok (.iload_n 2, 1) := by decide +kernel
theorem dX9_passesIn_38 : decode cX9_passesIn 38 = .ok (.invokevirtual 220, 3) := by decide +kernel
theorem dX9_passesIn_41 : decode cX9_passesIn 41 = .ok (.invokestatic 127, 3) := by decide +kernel
theorem dX9_passesIn_44 : decode cX9_passesIn 44 = .ok (.ireturn, 1) := by decide +kernel
set_option maxRecDepth 20000 in
theorem ggX9_broke_X9_faultOfBreaking : GoodIn wsX9_broke wsX9_faultOfBreaking := goodIn_r _ [7, 8, 9, 10, 11, 12, 13, 14, 15, 16, 17, 6, 18, 19, 20, 21, 22, 23, 24, 25, 26, 27, 28, 29, 30, 31, 32, 33, 34, 35, 36, 37, 38, 39, 40, 41, 42, 43, 44, 45, 46, 47, 48, 49, 50, 51, 52, 53, 54, 55, 56, 57, 58, 59, 60, 61, 62, 63, 64, 65, 66, 67, 68, 69, 70, 71, 72, 73, 74, 75, 76, 77, 78, 79, 80, 81, 82, 83, 84, 85, 86, 87, 88, 89, 90, 91, 92, 93, 94, 95, 96, 97, 98, 99, 100, 101, 102, 103, 104, 105, 106, 107, 108, 141, 142, 143, 144, 145, 146, 147, 148, 149, 150, 151, 155, 156, 157, 158, 159, 160, 161, 162, 163, 164, 165, 166, 167, 168, 169, 170, 171, 172, 173, 174, 175, 176, 177, 178, 179] rfl (by decide +kernel)
set_option maxRecDepth 20000 in
theorem gX9_broke_X9_faultOfBreaking : GoodIn wsX9_broke (wsV RX9 223 RX9 yX9_faultOfBreaking wsX9_faultOfBreaking) := goodIn_app (goodIn_of _ (by decide +kernel)) ggX9_broke_X9_faultOfBreaking
set_option maxRecDepth 20000 in
theorem ggX9_broke_X9_refuse : GoodIn wsX9_broke wsX9_refuse := goodIn_r _ [112, 113, 141, 142, 143, 144, 145, 146, 147, 148, 149, 150, 151] rfl (by decide +kernel)
set_option maxRecDepth 20000 in
theorem gX9_broke_X9_refuse : GoodIn wsX9_broke (wsV RX9 82 RX9 yX9_refuse wsX9_refuse) := goodIn_app (goodIn_of _ (by decide +kernel)) ggX9_broke_X9_refuse
set_option maxRecDepth 20000 in
theorem ggX9_broke_X9_halve : GoodIn wsX9_broke wsX9_halve := goodIn_r _ [117, 1, 20, 118, 119, 120, 121, 122, 123, 124, 125, 126, 127, 128, 129, 130, 131, 132, 133, 134, 135, 77, 78, 79, 6, 80, 19, 8, 81, 82, 83, 84, 85, 86, 87, 88, 89, 90, 91, 92, 93, 94, 95, 96, 97, 98, 99, 100, 101, 102, 103, 104, 105, 106, 107, 108, 22, 23, 24, 25, 26, 27, 28, 29, 30, 31, 32, 33, 34, 35, 36, 37, 38, 39, 40, 41, 42, 43, 44, 45, 46, 47, 48, 49, 50, 51, 52, 53, 54, 55, 56, 57, 58, 59, 60, 61, 62, 63, 64, 12, 65, 66, 67, 68, 69, 70, 71, 72, 73, 74, 75, 76, 136, 137, 138, 139, 140, 141, 142, 143, 144, 145, 146, 147, 148, 149, 150, 151, 160, 161, 162, 163, 164, 175, 176, 177, 178, 179, 152, 153, 154, 165, 166, 167, 168, 169, 170, 171, 172, 173, 174, 155, 156, 157, 158, 159] rfl (by decide +kernel)
set_option maxRecDepth 20000 in
theorem gX9_broke_X9_halve : GoodIn wsX9_broke (wsV RX9 226 RX9 yX9_halve wsX9_halve) := goodIn_app (goodIn_of _ (by decide +kernel)) ggX9_broke_X9_halve
theorem dX9_broke_0 : decode cX9_broke 0 = .ok (.aload_n 0, 1) := by decide +kernel
theorem dX9_broke_1 : decode cX9_broke 1 = .ok (.iload_n 1, 1) := by decide +kernel
theorem dX9_broke_2 : decode cX9_broke 2 = .ok (.invokevirtual 223, 3) := by decide +kernel
theorem dX9_broke_5 : decode cX9_broke 5 = .ok (.istore_n 2, 1) := by decide +kernel
theorem dX9_broke_6 : decode cX9_broke 6 = .ok (.iload_n 2, 1) := by decide +kernel
theorem dX9_broke_7 : decode cX9_broke 7 = .ok (.ifCond .eq 9, 3) := by decide +kernel
theorem dX9_broke_10 : decode cX9_broke 10 = .ok (.aload_n 0, 1) := by decide +kernel
theorem dX9_broke_11 : decode cX9_broke 11 = .ok (.iload_n 2, 1) := by decide +kernel
theorem dX9_broke_12 : decode cX9_broke 12 = .ok (.invokevirtual 82, 3) := by decide +kernel
theorem dX9_broke_15 : decode cX9_broke 15 = .ok (.ireturn, 1) := by decide +kernel
theorem dX9_broke_16 : decode cX9_broke 16 = .ok (.aload_n 0, 1) := by decide +kernel
theorem dX9_broke_17 : decode cX9_broke 17 = .ok (.iload_n 1, 1) := by decide +kernel
theorem dX9_broke_18 : decode cX9_broke 18 = .ok (.invokevirtual 226, 3) := by decide +kernel
theorem dX9_broke_21 : decode cX9_broke 21 = .ok (.aload_n 0, 1) := by decide +kernel
theorem dX9_broke_22 : decode cX9_broke 22 = .ok (.getfield 66, 3) := by decide +kernel
theorem dX9_broke_25 : decode cX9_broke 25 = .ok (.getfield 230, 3) := by decide +kernel
theorem dX9_broke_28 : decode cX9_broke 28 = .ok (.iconst 1, 1) := by decide +kernel
theorem dX9_broke_29 : decode cX9_broke 29 = .ok (.isub, 1) := by decide +kernel
theorem dX9_broke_30 : decode cX9_broke 30 = .ok (.ireturn, 1) := by decide +kernel
set_option maxRecDepth 20000 in
theorem ggX9_looks_X9_faultOfBreaking : GoodIn wsX9_looks wsX9_faultOfBreaking := goodIn_r _ [7, 8, 9, 10, 11, 12, 13, 14, 15, 16, 17, 6, 18, 19, 20, 21, 22, 23, 24, 25, 26, 27, 28, 29, 30, 31, 32, 33, 34, 35, 36, 37, 38, 39, 40, 41, 42, 43, 44, 45, 46, 47, 48, 49, 50, 51, 52, 53, 54, 55, 56, 57, 58, 59, 60, 61, 62, 63, 64, 65, 66, 67, 68, 69, 70, 71, 72, 73, 74, 75, 76, 77, 78, 79, 80, 81, 82, 83, 84, 85, 86, 87, 88, 89, 90, 91, 92, 93, 94, 95, 96, 97, 98, 99, 100, 101, 102, 103, 104, 105, 106, 107, 108, 141, 142, 143, 144, 145, 146, 147, 148, 149, 150, 151, 155, 156, 157, 158, 159, 160, 161, 162, 163, 164, 165, 166, 167, 168, 169, 170, 171, 172, 173, 174, 175, 176, 177, 178, 179] rfl (by decide +kernel)
set_option maxRecDepth 20000 in
theorem gX9_looks_X9_faultOfBreaking : GoodIn wsX9_looks (wsV RX9 223 RX9 yX9_faultOfBreaking wsX9_faultOfBreaking) := goodIn_app (goodIn_of _ (by decide +kernel)) ggX9_looks_X9_faultOfBreaking
set_option maxRecDepth 20000 in
theorem ggX9_looks_X9_refuse : GoodIn wsX9_looks wsX9_refuse := goodIn_r _ [112, 113, 141, 142, 143, 144, 145, 146, 147, 148, 149, 150, 151] rfl (by decide +kernel)
set_option maxRecDepth 20000 in
theorem gX9_looks_X9_refuse : GoodIn wsX9_looks (wsV RX9 82 RX9 yX9_refuse wsX9_refuse) := goodIn_app (goodIn_of _ (by decide +kernel)) ggX9_looks_X9_refuse
set_option maxRecDepth 20000 in
theorem ggX9_looks_X9_halve : GoodIn wsX9_looks wsX9_halve := goodIn_r _ [117, 1, 20, 118, 119, 120, 121, 122, 123, 124, 125, 126, 127, 128, 129, 130, 131, 132, 133, 134, 135, 77, 78, 79, 6, 80, 19, 8, 81, 82, 83, 84, 85, 86, 87, 88, 89, 90, 91, 92, 93, 94, 95, 96, 97, 98, 99, 100, 101, 102, 103, 104, 105, 106, 107, 108, 22, 23, 24, 25, 26, 27, 28, 29, 30, 31, 32, 33, 34, 35, 36, 37, 38, 39, 40, 41, 42, 43, 44, 45, 46, 47, 48, 49, 50, 51, 52, 53, 54, 55, 56, 57, 58, 59, 60, 61, 62, 63, 64, 12, 65, 66, 67, 68, 69, 70, 71, 72, 73, 74, 75, 76, 136, 137, 138, 139, 140, 141, 142, 143, 144, 145, 146, 147, 148, 149, 150, 151, 160, 161, 162, 163, 164, 175, 176, 177, 178, 179, 152, 153, 154, 165, 166, 167, 168, 169, 170, 171, 172, 173, 174, 155, 156, 157, 158, 159] rfl (by decide +kernel)
set_option maxRecDepth 20000 in
theorem gX9_looks_X9_halve : GoodIn wsX9_looks (wsV RX9 226 RX9 yX9_halve wsX9_halve) := goodIn_app (goodIn_of _ (by decide +kernel)) ggX9_looks_X9_halve
theorem dX9_looks_0 : decode cX9_looks 0 = .ok (.aload_n 0, 1) := by decide +kernel
theorem dX9_looks_1 : decode cX9_looks 1 = .ok (.iload_n 1, 1) := by decide +kernel
theorem dX9_looks_2 : decode cX9_looks 2 = .ok (.invokevirtual 223, 3) := by decide +kernel
theorem dX9_looks_5 : decode cX9_looks 5 = .ok (.istore_n 2, 1) := by decide +kernel
theorem dX9_looks_6 : decode cX9_looks 6 = .ok (.iload_n 2, 1) := by decide +kernel
theorem dX9_looks_7 : decode cX9_looks 7 = .ok (.ifCond .eq 9, 3) := by decide +kernel
theorem dX9_looks_10 : decode cX9_looks 10 = .ok (.aload_n 0, 1) := by decide +kernel
theorem dX9_looks_11 : decode cX9_looks 11 = .ok (.iload_n 2, 1) := by decide +kernel
theorem dX9_looks_12 : decode cX9_looks 12 = .ok (.invokevirtual 82, 3) := by decide +kernel
theorem dX9_looks_15 : decode cX9_looks 15 = .ok (.ireturn, 1) := by decide +kernel
theorem dX9_looks_16 : decode cX9_looks 16 = .ok (.aload_n 0, 1) := by decide +kernel
theorem dX9_looks_17 : decode cX9_looks 17 = .ok (.iload_n 1, 1) := by decide +kernel
theorem dX9_looks_18 : decode cX9_looks 18 = .ok (.invokevirtual 226, 3) := by decide +kernel
theorem dX9_looks_21 : decode cX9_looks 21 = .ok (.aload_n 0, 1) := by decide +kernel
theorem dX9_looks_22 : decode cX9_looks 22 = .ok (.getfield 66, 3) := by decide +kernel
theorem dX9_looks_25 : decode cX9_looks 25 = .ok (.getfield 233, 3) := by decide +kernel
theorem dX9_looks_28 : decode cX9_looks 28 = .ok (.ireturn, 1) := by decide +kernel
set_option maxRecDepth 20000 in
theorem ggX9_parting_X9_judge : GoodIn wsX9_parting wsX9_judge := goodIn_r _ [9, 10, 11, 12, 13, 3, 14, 1, 15, 16, 17, 18, 19, 20, 21, 22, 23, 24, 25, 26, 27, 28, 29, 30, 31, 32, 33, 34, 35, 36, 37, 38, 39, 40, 41, 42, 43, 44, 45, 46, 47, 48, 49, 50, 51, 52, 53, 54, 55, 56, 57, 58, 59, 60, 61, 62, 63, 64, 65, 66, 67, 68, 69, 70, 71, 72, 73, 74, 75, 76, 77, 78, 79, 80, 81, 82, 83, 84, 85, 86, 87, 88, 89, 90, 91, 92, 93, 94, 95, 96, 97, 98, 99, 100, 101, 102, 103, 104, 105, 106, 107, 108, 109, 110, 111, 112, 113, 114, 115, 116, 117, 118, 119, 120, 121, 122, 123, 124, 125, 126, 127, 128, 129, 130, 131, 132, 133, 157, 158, 159, 160, 161, 162, 163, 164, 165, 166, 167, 179, 180, 181, 182, 183, 184, 185, 186, 187, 188, 189, 190, 191, 192, 174, 175, 176, 177, 178, 193, 194, 195, 196, 197, 198, 199, 200, 201, 202, 168, 169, 170, 171, 172, 173] rfl (by decide +kernel)
set_option maxRecDepth 20000 in
theorem gX9_parting_X9_judge : GoodIn wsX9_parting (wsV RX9 162 RX9 yX9_judge wsX9_judge) := goodIn_app (goodIn_of _ (by decide +kernel)) ggX9_parting_X9_judge
set_option maxRecDepth 20000 in
theorem ggX9_parting_X6_isOpen : GoodIn wsX9_parting wsX6_isOpen := goodIn_r _ [82, 83, 174, 175, 176, 177, 178] rfl (by decide +kernel)
set_option maxRecDepth 20000 in
theorem gX9_parting_X6_isOpen : GoodIn wsX9_parting (wsV RX9 118 RX6 yX6_isOpen wsX6_isOpen) := goodIn_app (goodIn_of _ (by decide +kernel)) ggX9_parting_X6_isOpen
set_option maxRecDepth 20000 in
theorem ggX9_parting_X7_awayFromHalf : GoodIn wsX9_parting wsX7_awayFromHalf := goodIn_r _ [138, 99, 117, 139, 140, 141, 142, 143, 144, 145, 146, 97, 147, 100, 116, 148, 101, 149, 150, 151, 152, 153, 154, 155, 156, 168, 169, 170, 171, 172, 173, 189, 190, 191, 192] rfl (by decide +kernel)
set_option maxRecDepth 20000 in
theorem gX9_parting_X7_awayFromHalf : GoodIn wsX9_parting (wsV RX9 236 RX7 yX7_awayFromHalf wsX7_awayFromHalf) := goodIn_app (goodIn_of _ (by decide +kernel)) ggX9_parting_X7_awayFromHalf
theorem dX9_parting_0 : decode cX9_parting 0 = .ok (.aload_n 0, 1) := by decide +kernel
theorem dX9_parting_1 : decode cX9_parting 1 = .ok (.invokevirtual 162, 3) := by decide +kernel
theorem dX9_parting_4 : decode cX9_parting 4 = .ok (.aload_n 0, 1) := by decide +kernel
theorem dX9_parting_5 : decode cX9_parting 5 = .ok (.getfield 59, 3) := by decide +kernel
theorem dX9_parting_8 : decode cX9_parting 8 = .ok (.getfield 185, 3) := by decide +kernel
theorem dX9_parting_11 : decode cX9_parting 11 = .ok (.ifCond .ne 6, 3) := by decide +kernel
theorem dX9_parting_14 : decode cX9_parting 14 = .ok (.bipush (-9), 2) := by decide +kernel
theorem dX9_parting_16 : decode cX9_parting 16 = .ok (.ireturn, 1) := by decide +kernel
theorem dX9_parting_17 : decode cX9_parting 17 = .ok (.bipush (-9), 2) := by decide +kernel
theorem dX9_parting_19 : decode cX9_parting 19 = .ok (.istore_n 1, 1) := by decide +kernel
theorem dX9_parting_20 : decode cX9_parting 20 = .ok (.lconst 0, 1) := by decide +kernel
theorem dX9_parting_21 : decode cX9_parting 21 = .ok (.lstore_n 2, 1) := by decide +kernel
theorem dX9_parting_22 : decode cX9_parting 22 = .ok (.iconst 0, 1) := by decide +kernel
theorem dX9_parting_23 : decode cX9_parting 23 = .ok (.istore 4, 2) := by decide +kernel
theorem dX9_parting_25 : decode cX9_parting 25 = .ok (.iload 4, 2) := by decide +kernel
theorem dX9_parting_27 : decode cX9_parting 27 = .ok (.aload_n 0, 1) := by decide +kernel
theorem dX9_parting_28 : decode cX9_parting 28 = .ok (.getfield 19, 3) := by decide +kernel
theorem dX9_parting_31 : decode cX9_parting 31 = .ok (.getfield 103, 3) := by decide +kernel
theorem dX9_parting_34 : decode cX9_parting 34 = .ok (.if_icmp .ge 51, 3) := by decide +kernel
theorem dX9_parting_37 : decode cX9_parting 37 = .ok (.aload_n 0, 1) := by decide +kernel
theorem dX9_parting_38 : decode cX9_parting 38 = .ok (.getfield 19, 3) := by decide +kernel
theorem dX9_parting_41 : decode cX9_parting 41 = .ok (.iload 4, 2) := by decide +kernel
theorem dX9_parting_43 : decode cX9_parting 43 = .ok (.invokevirtual 118, 3) := by decide +kernel
theorem dX9_parting_46 : decode cX9_parting 46 = .ok (.ifCond .eq 33, 3) := by decide +kernel
theorem dX9_parting_49 : decode cX9_parting 49 = .ok (.aload_n 0, 1) := by decide +kernel
theorem dX9_parting_50 : decode cX9_parting 50 = .ok (.getfield 59, 3) := by decide +kernel
theorem dX9_parting_53 : decode cX9_parting 53 = .ok (.iload 4, 2) := by decide +kernel
theorem dX9_parting_55 : decode cX9_parting 55 = .ok (.invokevirtual 236, 3) := by decide +kernel
theorem dX9_parting_58 : decode cX9_parting 58 = .ok (.lstore 5, 2) := by decide +kernel
theorem dX9_parting_60 : decode cX9_parting 60 = .ok (.iload_n 1, 1) := by decide +kernel
theorem dX9_parting_61 : decode cX9_parting 61 = .ok (.bipush (-9), 2) := by decide +kernel
theorem dX9_parting_63 : decode cX9_parting 63 = .ok (.if_icmp .eq 10, 3) := by decide +kernel
theorem dX9_parting_66 : decode cX9_parting 66 = .ok (.lload 5, 2) := by decide +kernel
theorem dX9_parting_68 : decode cX9_parting 68 = .ok (.lload_n 2, 1) := by decide +kernel
theorem dX9_parting_69 : decode cX9_parting 69 = .ok (.lcmp, 1) := by decide +kernel
theorem dX9_parting_70 : decode cX9_parting 70 = .ok (.ifCond .ge 9, 3) := by decide +kernel
theorem dX9_parting_73 : decode cX9_parting 73 = .ok (.iload 4, 2) := by decide +kernel
theorem dX9_parting_75 : decode cX9_parting 75 = .ok (.istore_n 1, 1) := by decide +kernel
theorem dX9_parting_76 : decode cX9_parting 76 = .ok (.lload 5, 2) := by decide +kernel
theorem dX9_parting_78 : decode cX9_parting 78 = .ok (.lstore_n 2, 1) := by decide +kernel
theorem dX9_parting_79 : decode cX9_parting 79 = .ok (.iinc 4 1, 3) := by decide +kernel
theorem dX9_parting_82 : decode cX9_parting 82 = .ok (.goto (-57), 3) := by decide +kernel
theorem dX9_parting_85 : decode cX9_parting 85 = .ok (.iload_n 1, 1) := by decide +kernel
theorem dX9_parting_86 : decode cX9_parting 86 = .ok (.ireturn, 1) := by decide +kernel
set_option maxRecDepth 20000 in
theorem ggX9_count_X9_judge : GoodIn wsX9_count wsX9_judge := goodIn_r _ [17, 18, 7, 2, 3, 5, 19, 20, 4, 21, 22, 23, 24, 25, 26, 27, 28, 29, 30, 31, 32, 33, 34, 35, 36, 37, 38, 39, 40, 41, 42, 43, 44, 45, 46, 47, 48, 49, 50, 51, 52, 53, 54, 55, 56, 57, 58, 59, 60, 61, 62, 63, 64, 65, 66, 67, 68, 69, 70, 71, 72, 73, 74, 75, 76, 77, 78, 79, 80, 81, 82, 83, 84, 85, 86, 87, 88, 89, 90, 91, 92, 93, 94, 95, 96, 97, 98, 99, 100, 101, 102, 103, 104, 105, 106, 107, 108, 109, 110, 111, 112, 113, 114, 115, 116, 117, 118, 119, 120, 121, 122, 123, 124, 125, 126, 127, 128, 129, 130, 131, 132, 133, 134, 135, 136, 137, 138, 146, 147, 148, 149, 150, 151, 152, 153, 154, 155, 156, 157, 158, 159, 160, 161, 162, 163, 164, 165, 166, 172, 173, 174, 175, 167, 168, 169, 170, 171, 176, 177, 178, 179, 180, 181, 182, 183, 184, 185, 186, 187, 188, 189, 190, 191] rfl (by decide +kernel)
set_option maxRecDepth 20000 in
theorem gX9_count_X9_judge : GoodIn wsX9_count (wsV RX9 162 RX9 yX9_judge wsX9_judge) := goodIn_app (goodIn_of _ (by decide +kernel)) ggX9_count_X9_judge
set_option maxRecDepth 20000 in
theorem ggX9_count_J6_bitCount_0f7a4 : GoodIn wsX9_count wsJ6_bitCount_0f7a4 := goodIn_r _ [142, 143, 144, 145] rfl (by decide +kernel)
set_option maxRecDepth 20000 in
theorem gX9_count_J6_bitCount_0f7a4 : GoodIn wsX9_count (va_wsS RX9 242 yJ6_bitCount_0f7a4 wsJ6_bitCount_0f7a4) := goodIn_app (goodIn_of _ (by decide +kernel)) ggX9_count_J6_bitCount_0f7a4
theorem dX9_count_0 : decode cX9_count 0 = .ok (.iload_n 1, 1) := by decide +kernel
theorem dX9_count_1 : decode cX9_count 1 = .ok (.bipush 11, 2) := by decide +kernel
theorem dX9_count_3 : decode cX9_count 3 = .ok (.if_icmp .lt 19, 3) := by decide +kernel
theorem dX9_count_6 : decode cX9_count 6 = .ok (.iload_n 1, 1) := by decide +kernel
theorem dX9_count_7 : decode cX9_count 7 = .ok (.bipush 16, 2) := by decide +kernel
theorem dX9_count_9 : decode cX9_count 9 = .ok (.if_icmp .gt 13, 3) := by decide +kernel
theorem dX9_count_12 : decode cX9_count 12 = .ok (.aload_n 0, 1) := by decide +kernel
theorem dX9_count_13 : decode cX9_count 13 = .ok (.getfield 70, 3) := by decide +kernel
theorem dX9_count_16 : decode cX9_count 16 = .ok (.iload_n 1, 1) := by decide +kernel
theorem dX9_count_17 : decode cX9_count 17 = .ok (.bipush 10, 2) := by decide +kernel
theorem dX9_count_19 : decode cX9_count 19 = .ok (.isub, 1) := by decide +kernel
theorem dX9_count_20 : decode cX9_count 20 = .ok (.iaload, 1) := by decide +kernel
theorem dX9_count_21 : decode cX9_count 21 = .ok (.ireturn, 1) := by decide +kernel
theorem dX9_count_22 : decode cX9_count 22 = .ok (.aload_n 0, 1) := by decide +kernel
theorem dX9_count_23 : decode cX9_count 23 = .ok (.invokevirtual 162, 3) := by decide +kernel
theorem dX9_count_26 : decode cX9_count 26 = .ok (.iload_n 1, 1) := by decide +kernel
theorem dX9_count_27 : decode cX9_count 27 = .ok (.tableswitch 115 0 6 #[41, 52, 60, 71, 82, 93, 104], 41) := by decide +kernel
theorem dX9_count_68 : decode cX9_count 68 = .ok (.aload_n 0, 1) := by decide +kernel
theorem dX9_count_69 : decode cX9_count 69 = .ok (.getfield 12, 3) := by decide +kernel
theorem dX9_count_72 : decode cX9_count 72 = .ok (.getfield 96, 3) := by decide +kernel
theorem dX9_count_75 : decode cX9_count 75 = .ok (.getfield 90, 3) := by decide +kernel
theorem dX9_count_78 : decode cX9_count 78 = .ok (.ireturn, 1) := by decide +kernel
theorem dX9_count_79 : decode cX9_count 79 = .ok (.aload_n 0, 1) := by decide +kernel
theorem dX9_count_80 : decode cX9_count 80 = .ok (.getfield 19, 3) := by decide +kernel
theorem dX9_count_83 : decode cX9_count 83 = .ok (.getfield 103, 3) := by decide +kernel
theorem dX9_count_86 : decode cX9_count 86 = .ok (.ireturn, 1) := by decide +kernel
theorem dX9_count_87 : decode cX9_count 87 = .ok (.aload_n 0, 1) := by decide +kernel
theorem dX9_count_88 : decode cX9_count 88 = .ok (.getfield 40, 3) := by decide +kernel
theorem dX9_count_91 : decode cX9_count 91 = .ok (.getfield 239, 3) := by decide +kernel
theorem dX9_count_94 : decode cX9_count 94 = .ok (.invokestatic 242, 3) := by decide +kernel
theorem dX9_count_97 : decode cX9_count 97 = .ok (.ireturn, 1) := by decide +kernel
theorem dX9_count_98 : decode cX9_count 98 = .ok (.aload_n 0, 1) := by decide +kernel
theorem dX9_count_99 : decode cX9_count 99 = .ok (.getfield 40, 3) := by decide +kernel
theorem dX9_count_102 : decode cX9_count 102 = .ok (.getfield 247, 3) := by decide +kernel
theorem dX9_count_105 : decode cX9_count 105 = .ok (.invokestatic 242, 3) := by decide +kernel
theorem dX9_count_108 : decode cX9_count 108 = .ok (.ireturn, 1) := by decide +kernel
theorem dX9_count_109 : decode cX9_count 109 = .ok (.aload_n 0, 1) := by decide +kernel
theorem dX9_count_110 : decode cX9_count 110 = .ok (.getfield 19, 3) := by decide +kernel
theorem dX9_count_113 : decode cX9_count 113 = .ok (.getfield 121, 3) := by decide +kernel
theorem dX9_count_116 : decode cX9_count 116 = .ok (.invokestatic 242, 3) := by decide +kernel
theorem dX9_count_119 : decode cX9_count 119 = .ok (.ireturn, 1) := by decide +kernel
theorem dX9_count_120 : decode cX9_count 120 = .ok (.aload_n 0, 1) := by decide +kernel
theorem dX9_count_121 : decode cX9_count 121 = .ok (.getfield 12, 3) := by decide +kernel
theorem dX9_count_124 : decode cX9_count 124 = .ok (.getfield 86, 3) := by decide +kernel
theorem dX9_count_127 : decode cX9_count 127 = .ok (.getfield 90, 3) := by decide +kernel
theorem dX9_count_130 : decode cX9_count 130 = .ok (.ireturn, 1) := by decide +kernel
theorem dX9_count_131 : decode cX9_count 131 = .ok (.aload_n 0, 1) := by decide +kernel
theorem dX9_count_132 : decode cX9_count 132 = .ok (.getfield 40, 3) := by decide +kernel
theorem dX9_count_135 : decode cX9_count 135 = .ok (.getfield 250, 3) := by decide +kernel
theorem dX9_count_138 : decode cX9_count 138 = .ok (.invokestatic 242, 3) := by decide +kernel
theorem dX9_count_141 : decode cX9_count 141 = .ok (.ireturn, 1) := by decide +kernel
theorem dX9_count_142 : decode cX9_count 142 = .ok (.bipush (-9), 2) := by decide +kernel
theorem dX9_count_144 : decode cX9_count 144 = .ok (.ireturn, 1) := by decide +kernel
theorem dX9_refuse_0 : decode cX9_refuse 0 = .ok (.aload_n 0, 1) := by decide +kernel
theorem dX9_refuse_1 : decode cX9_refuse 1 = .ok (.getfield 70, 3) := by decide +kernel
theorem dX9_refuse_4 : decode cX9_refuse 4 = .ok (.iload_n 1, 1) := by decide +kernel
theorem dX9_refuse_5 : decode cX9_refuse 5 = .ok (.ineg, 1) := by decide +kernel
theorem dX9_refuse_6 : decode cX9_refuse 6 = .ok (.dup2, 1) := by decide +kernel
theorem dX9_refuse_7 : decode cX9_refuse 7 = .ok (.iaload, 1) := by decide +kernel
theorem dX9_refuse_8 : decode cX9_refuse 8 = .ok (.iconst 1, 1) := by decide +kernel
theorem dX9_refuse_9 : decode cX9_refuse 9 = .ok (.iadd, 1) := by decide +kernel
theorem dX9_refuse_10 : decode cX9_refuse 10 = .ok (.iastore, 1) := by decide +kernel
theorem dX9_refuse_11 : decode cX9_refuse 11 = .ok (.iload_n 1, 1) := by decide +kernel
theorem dX9_refuse_12 : decode cX9_refuse 12 = .ok (.ireturn, 1) := by decide +kernel
theorem dX9_asInt_0 : decode cX9_asInt 0 = .ok (.iload_n 0, 1) := by decide +kernel
theorem dX9_asInt_1 : decode cX9_asInt 1 = .ok (.ifCond .eq 7, 3) := by decide +kernel
theorem dX9_asInt_4 : decode cX9_asInt 4 = .ok (.iconst 1, 1) := by decide +kernel
theorem dX9_asInt_5 : decode cX9_asInt 5 = .ok (.goto 4, 3) := by decide +kernel
theorem dX9_asInt_8 : decode cX9_asInt 8 = .ok (.iconst 0, 1) := by decide +kernel
theorem dX9_asInt_9 : decode cX9_asInt 9 = .ok (.ireturn, 1) := by decide +kernel
set_option maxRecDepth 20000 in
theorem ggX9_judge_X8_become : GoodIn wsX9_judge wsX8_become := goodIn_r _ [13, 14, 15, 16, 17, 18, 19, 20, 21, 22, 23, 24, 25, 26, 27, 28, 29, 30, 31, 32, 33, 34, 35, 36, 37, 38, 39, 40, 41, 42, 43, 44, 45, 46, 47, 48, 49, 50, 51, 52, 53, 54, 55, 56, 57, 58, 59, 60, 61, 62, 63, 64, 65, 66, 67, 12, 68, 69, 70, 71, 72, 73, 74, 75, 76, 77, 78, 79, 80, 81, 82, 83, 84, 85, 86, 148, 149, 150, 151, 152, 153, 154, 155, 156, 157, 158, 159, 160, 161, 162, 163, 164, 165, 166, 143, 144, 145, 146, 147] rfl (by decide +kernel)
set_option maxRecDepth 20000 in
theorem gX9_judge_X8_become : GoodIn wsX9_judge (wsV RX9 253 RX8 yX8_become wsX8_become) := goodIn_app (goodIn_of _ (by decide +kernel)) ggX9_judge_X8_become
set_option maxRecDepth 20000 in
theorem ggX9_judge_X7_gather : GoodIn wsX9_judge wsX7_gather := goodIn_r _ [91, 92, 93, 94, 95, 96, 97, 98, 90, 99, 100, 101, 102, 103, 104, 105, 106, 107, 108, 109, 110, 111, 112, 113, 114, 115, 116, 117, 118, 119, 120, 121, 122, 123, 124, 125, 126, 167, 168, 169, 170, 171, 172, 148, 149, 150, 151] rfl (by decide +kernel)
set_option maxRecDepth 20000 in
theorem gX9_judge_X7_gather : GoodIn wsX9_judge (wsV RX9 256 RX7 yX7_gather wsX7_gather) := goodIn_app (goodIn_of _ (by decide +kernel)) ggX9_judge_X7_gather
theorem dX9_judge_0 : decode cX9_judge 0 = .ok (.aload_n 0, 1) := by decide +kernel
theorem dX9_judge_1 : decode cX9_judge 1 = .ok (.getfield 74, 3) := by decide +kernel
theorem dX9_judge_4 : decode cX9_judge 4 = .ok (.ifCond .eq 4, 3) := by decide +kernel
theorem dX9_judge_7 : decode cX9_judge 7 = .ok (.return_, 1) := by decide +kernel
theorem dX9_judge_8 : decode cX9_judge 8 = .ok (.aload_n 0, 1) := by decide +kernel
theorem dX9_judge_9 : decode cX9_judge 9 = .ok (.getfield 40, 3) := by decide +kernel
theorem dX9_judge_12 : decode cX9_judge 12 = .ok (.aload_n 0, 1) := by decide +kernel
theorem dX9_judge_13 : decode cX9_judge 13 = .ok (.getfield 12, 3) := by decide +kernel
theorem dX9_judge_16 : decode cX9_judge 16 = .ok (.getfield 96, 3) := by decide +kernel
theorem dX9_judge_19 : decode cX9_judge 19 = .ok (.aload_n 0, 1) := by decide +kernel
theorem dX9_judge_20 : decode cX9_judge 20 = .ok (.getfield 19, 3) := by decide +kernel
theorem dX9_judge_23 : decode cX9_judge 23 = .ok (.aload_n 0, 1) := by decide +kernel
theorem dX9_judge_24 : decode cX9_judge 24 = .ok (.getfield 26, 3) := by decide +kernel
theorem dX9_judge_27 : decode cX9_judge 27 = .ok (.invokevirtual 253, 3) := by decide +kernel
theorem dX9_judge_30 : decode cX9_judge 30 = .ok (.aload_n 0, 1) := by decide +kernel
theorem dX9_judge_31 : decode cX9_judge 31 = .ok (.getfield 59, 3) := by decide +kernel
theorem dX9_judge_34 : decode cX9_judge 34 = .ok (.aload_n 0, 1) := by decide +kernel
theorem dX9_judge_35 : decode cX9_judge 35 = .ok (.getfield 12, 3) := by decide +kernel
theorem dX9_judge_38 : decode cX9_judge 38 = .ok (.getfield 96, 3) := by decide +kernel
theorem dX9_judge_41 : decode cX9_judge 41 = .ok (.getfield 90, 3) := by decide +kernel
theorem dX9_judge_44 : decode cX9_judge 44 = .ok (.invokevirtual 256, 3) := by decide +kernel
theorem dX9_judge_47 : decode cX9_judge 47 = .ok (.aload_n 0, 1) := by decide +kernel
theorem dX9_judge_48 : decode cX9_judge 48 = .ok (.iconst 1, 1) := by decide +kernel
theorem dX9_judge_49 : decode cX9_judge 49 = .ok (.putfield 74, 3) := by decide +kernel
theorem dX9_judge_52 : decode cX9_judge 52 = .ok (.return_, 1) := by decide +kernel
set_option maxRecDepth 20000 in
theorem ggX9_passesNow_X4_plainly : GoodIn wsX9_passesNow wsX4_plainly := goodIn_r _ [9, 10, 11, 12, 13, 14, 8, 15, 16, 17, 18, 19, 20, 21, 22, 23, 24, 25, 26, 27, 28, 29, 30, 31, 32, 33, 34, 35, 36, 37, 38, 39, 40, 41, 42, 43, 44, 45, 46, 47, 48, 49, 50, 77, 78, 79, 80, 81, 82, 83, 84, 85, 86, 87, 88, 89, 90, 91, 92, 93, 94, 95, 96] rfl (by decide +kernel)
set_option maxRecDepth 20000 in
theorem gX9_passesNow_X4_plainly : GoodIn wsX9_passesNow (wsV RX9 131 RX4 yX4_plainly wsX4_plainly) := goodIn_app (goodIn_of _ (by decide +kernel)) ggX9_passesNow_X4_plainly
set_option maxRecDepth 20000 in
theorem ggX9_passesNow_X4_bringsOut : GoodIn wsX9_passesNow wsX4_bringsOut := goodIn_r _ [54, 21, 17, 55, 35, 56, 57, 58, 48, 59, 60, 77, 78, 79, 80, 81, 82, 83, 84, 85, 86, 92, 93, 94, 95, 96] rfl (by decide +kernel)
set_option maxRecDepth 20000 in
theorem gX9_passesNow_X4_bringsOut : GoodIn wsX9_passesNow (wsV RX9 259 RX4 yX4_bringsOut wsX4_bringsOut) := goodIn_app (goodIn_of _ (by decide +kernel)) ggX9_passesNow_X4_bringsOut
theorem dX9_passesNow_0 : decode cX9_passesNow 0 = .ok (.aload_n 0, 1) := by decide +kernel
theorem dX9_passesNow_1 : decode cX9_passesNow 1 = .ok (.getfield 26, 3) := by decide +kernel
theorem dX9_passesNow_4 : decode cX9_passesNow 4 = .ok (.aload_n 0, 1) := by decide +kernel
theorem dX9_passesNow_5 : decode cX9_passesNow 5 = .ok (.getfield 12, 3) := by decide +kernel
theorem dX9_passesNow_8 : decode cX9_passesNow 8 = .ok (.getfield 96, 3) := by decide +kernel
theorem dX9_passesNow_11 : decode cX9_passesNow 11 = .ok (.aload_n 0, 1) := by decide +kernel
theorem dX9_passesNow_12 : decode cX9_passesNow 12 = .ok (.getfield 19, 3) := by decide +kernel
theorem dX9_passesNow_15 : decode cX9_passesNow 15 = .ok (.iload_n 1, 1) := by decide +kernel
theorem dX9_passesNow_16 : decode cX9_passesNow 16 = .ok (.invokevirtual 131, 3) := by decide +kernel
theorem dX9_passesNow_19 : decode cX9_passesNow 19 = .ok (.aload_n 0, 1) := by decide +kernel
theorem dX9_passesNow_20 : decode cX9_passesNow 20 = .ok (.getfield 26, 3) := by decide +kernel
theorem dX9_passesNow_23 : decode cX9_passesNow 23 = .ok (.aload_n 0, 1) := by decide +kernel
theorem dX9_passesNow_24 : decode cX9_passesNow 24 = .ok (.getfield 19, 3) := by decide +kernel
theorem dX9_passesNow_27 : decode cX9_passesNow 27 = .ok (.iload_n 1, 1) := by decide +kernel
theorem dX9_passesNow_28 : decode cX9_passesNow 28 = .ok (.invokevirtual 259, 3) := by decide +kernel
theorem dX9_passesNow_31 : decode cX9_passesNow 31 = .ok (.ireturn, 1) := by decide +kernel
set_option maxRecDepth 20000 in
theorem ggX9_passesTurned_X4_turning : GoodIn wsX9_passesTurned wsX4_turning := goodIn_r _ [9, 10, 11, 12, 13, 14, 8, 15, 16, 17, 18, 19, 20, 21, 22, 23, 24, 25, 26, 27, 28, 29, 30, 31, 32, 33, 34, 35, 36, 37, 38, 39, 40, 41, 42, 43, 44, 45, 46, 47, 48, 49, 50, 77, 78, 79, 80, 81, 82, 83, 84, 85, 86, 87, 88, 89, 90, 91, 92, 93, 94, 95, 96] rfl (by decide +kernel)
set_option maxRecDepth 20000 in
theorem gX9_passesTurned_X4_turning : GoodIn wsX9_passesTurned (wsV RX9 263 RX4 yX4_turning wsX4_turning) := goodIn_app (goodIn_of _ (by decide +kernel)) ggX9_passesTurned_X4_turning
set_option maxRecDepth 20000 in
theorem ggX9_passesTurned_X4_bringsOut : GoodIn wsX9_passesTurned wsX4_bringsOut := goodIn_r _ [54, 21, 17, 55, 35, 56, 57, 58, 48, 59, 60, 77, 78, 79, 80, 81, 82, 83, 84, 85, 86, 92, 93, 94, 95, 96] rfl (by decide +kernel)
set_option maxRecDepth 20000 in
theorem gX9_passesTurned_X4_bringsOut : GoodIn wsX9_passesTurned (wsV RX9 259 RX4 yX4_bringsOut wsX4_bringsOut) := goodIn_app (goodIn_of _ (by decide +kernel)) ggX9_passesTurned_X4_bringsOut
theorem dX9_passesTurned_0 : decode cX9_passesTurned 0 = .ok (.aload_n 0, 1) := by decide +kernel
theorem dX9_passesTurned_1 : decode cX9_passesTurned 1 = .ok (.getfield 26, 3) := by decide +kernel
theorem dX9_passesTurned_4 : decode cX9_passesTurned 4 = .ok (.aload_n 0, 1) := by decide +kernel
theorem dX9_passesTurned_5 : decode cX9_passesTurned 5 = .ok (.getfield 12, 3) := by decide +kernel
theorem dX9_passesTurned_8 : decode cX9_passesTurned 8 = .ok (.getfield 96, 3) := by decide +kernel
theorem dX9_passesTurned_11 : decode cX9_passesTurned 11 = .ok (.aload_n 0, 1) := by decide +kernel
theorem dX9_passesTurned_12 : decode cX9_passesTurned 12 = .ok (.getfield 19, 3) := by decide +kernel
theorem dX9_passesTurned_15 : decode cX9_passesTurned 15 = .ok (.iload_n 1, 1) := by decide +kernel
theorem dX9_passesTurned_16 : decode cX9_passesTurned 16 = .ok (.iload_n 2, 1) := by decide +kernel
theorem dX9_passesTurned_17 : decode cX9_passesTurned 17 = .ok (.invokevirtual 263, 3) := by decide +kernel
theorem dX9_passesTurned_20 : decode cX9_passesTurned 20 = .ok (.aload_n 0, 1) := by decide +kernel
theorem dX9_passesTurned_21 : decode cX9_passesTurned 21 = .ok (.getfield 26, 3) := by decide +kernel
theorem dX9_passesTurned_24 : decode cX9_passesTurned 24 = .ok (.aload_n 0, 1) := by decide +kernel
theorem dX9_passesTurned_25 : decode cX9_passesTurned 25 = .ok (.getfield 19, 3) := by decide +kernel
theorem dX9_passesTurned_28 : decode cX9_passesTurned 28 = .ok (.iload_n 1, 1) := by decide +kernel
theorem dX9_passesTurned_29 : decode cX9_passesTurned 29 = .ok (.invokevirtual 259, 3) := by decide +kernel
theorem dX9_passesTurned_32 : decode cX9_passesTurned 32 = .ok (.ireturn, 1) := by decide +kernel
set_option maxRecDepth 20000 in
theorem ggX9_passesAt_X3_version : GoodIn wsX9_passesAt wsX3_version := goodIn_r _ [8, 9, 10, 11, 12, 13, 14, 15, 16, 17, 18, 19, 20, 21, 22, 23, 24, 25, 26, 27, 28, 29, 30, 31, 99, 100, 101, 102, 103, 104, 105, 106, 107, 108] rfl (by decide +kernel)
set_option maxRecDepth 20000 in
theorem gX9_passesAt_X3_version : GoodIn wsX9_passesAt (wsV RX9 267 RX3 yX3_version wsX3_version) := goodIn_app (goodIn_of _ (by decide +kernel)) ggX9_passesAt_X3_version
set_option maxRecDepth 20000 in
theorem ggX9_passesAt_X4_plainly : GoodIn wsX9_passesAt wsX4_plainly := goodIn_r _ [36, 37, 38, 39, 40, 41, 35, 42, 43, 44, 45, 46, 47, 48, 49, 50, 51, 52, 53, 54, 55, 56, 57, 58, 59, 60, 61, 62, 63, 64, 65, 66, 67, 68, 69, 70, 71, 72, 73, 74, 75, 76, 77, 109, 110, 111, 112, 113, 114, 115, 116, 117, 118, 104, 105, 106, 107, 108, 119, 120, 121, 122, 123] rfl (by decide +kernel)
set_option maxRecDepth 20000 in
theorem gX9_passesAt_X4_plainly : GoodIn wsX9_passesAt (wsV RX9 131 RX4 yX4_plainly wsX4_plainly) := goodIn_app (goodIn_of _ (by decide +kernel)) ggX9_passesAt_X4_plainly
set_option maxRecDepth 20000 in
theorem ggX9_passesAt_X4_bringsOut : GoodIn wsX9_passesAt wsX4_bringsOut := goodIn_r _ [81, 48, 44, 82, 62, 83, 84, 85, 75, 86, 87, 109, 110, 111, 112, 113, 114, 115, 116, 117, 118, 119, 120, 121, 122, 123] rfl (by decide +kernel)
set_option maxRecDepth 20000 in
theorem gX9_passesAt_X4_bringsOut : GoodIn wsX9_passesAt (wsV RX9 259 RX4 yX4_bringsOut wsX4_bringsOut) := goodIn_app (goodIn_of _ (by decide +kernel)) ggX9_passesAt_X4_bringsOut
theorem dX9_passesAt_0 : decode cX9_passesAt 0 = .ok (.aload_n 0, 1) := by decide +kernel
theorem dX9_passesAt_1 : decode cX9_passesAt 1 = .ok (.getfield 26, 3) := by decide +kernel
theorem dX9_passesAt_4 : decode cX9_passesAt 4 = .ok (.aload_n 0, 1) := by decide +kernel
theorem dX9_passesAt_5 : decode cX9_passesAt 5 = .ok (.getfield 12, 3) := by decide +kernel
theorem dX9_passesAt_8 : decode cX9_passesAt 8 = .ok (.iload_n 1, 1) := by decide +kernel
theorem dX9_passesAt_9 : decode cX9_passesAt 9 = .ok (.invokevirtual 267, 3) := by decide +kernel
theorem dX9_passesAt_12 : decode cX9_passesAt 12 = .ok (.aload_n 0, 1) := by decide +kernel
theorem dX9_passesAt_13 : decode cX9_passesAt 13 = .ok (.getfield 19, 3) := by decide +kernel
theorem dX9_passesAt_16 : decode cX9_passesAt 16 = .ok (.iload_n 2, 1) := by decide +kernel
theorem dX9_passesAt_17 : decode cX9_passesAt 17 = .ok (.invokevirtual 131, 3) := by decide +kernel
theorem dX9_passesAt_20 : decode cX9_passesAt 20 = .ok (.aload_n 0, 1) := by decide +kernel
theorem dX9_passesAt_21 : decode cX9_passesAt 21 = .ok (.getfield 26, 3) := by decide +kernel
theorem dX9_passesAt_24 : decode cX9_passesAt 24 = .ok (.aload_n 0, 1) := by decide +kernel
theorem dX9_passesAt_25 : decode cX9_passesAt 25 = .ok (.getfield 19, 3) := by decide +kernel
theorem dX9_passesAt_28 : decode cX9_passesAt 28 = .ok (.iload_n 2, 1) := by decide +kernel
theorem dX9_passesAt_29 : decode cX9_passesAt 29 = .ok (.invokevirtual 259, 3) := by decide +kernel
theorem dX9_passesAt_32 : decode cX9_passesAt 32 = .ok (.ireturn, 1) := by decide +kernel
set_option maxRecDepth 20000 in
theorem ggX9_faultOfMending_X6_has : GoodIn wsX9_faultOfMending wsX6_has := goodIn_r _ [9, 10, 103, 104, 105, 106, 107] rfl (by decide +kernel)
set_option maxRecDepth 20000 in
theorem gX9_faultOfMending_X6_has : GoodIn wsX9_faultOfMending (wsV RX9 107 RX6 yX6_has wsX6_has) := goodIn_app (goodIn_of _ (by decide +kernel)) ggX9_faultOfMending_X6_has
set_option maxRecDepth 20000 in
theorem ggX9_faultOfMending_X3_hasLine : GoodIn wsX9_faultOfMending wsX3_hasLine := goodIn_r _ [15, 16, 17, 93, 94, 95, 96, 97, 98, 99, 100, 101, 102] rfl (by decide +kernel)
set_option maxRecDepth 20000 in
theorem gX9_faultOfMending_X3_hasLine : GoodIn wsX9_faultOfMending (wsV RX9 156 RX3 yX3_hasLine wsX3_hasLine) := goodIn_app (goodIn_of _ (by decide +kernel)) ggX9_faultOfMending_X3_hasLine
set_option maxRecDepth 20000 in
theorem ggX9_faultOfMending_X9_writes : GoodIn wsX9_faultOfMending wsX9_writes := goodIn_r _ [21] rfl (by decide +kernel)
set_option maxRecDepth 20000 in
theorem gX9_faultOfMending_X9_writes : GoodIn wsX9_faultOfMending (va_wsS RX9 274 yX9_writes wsX9_writes) := goodIn_app (goodIn_of _ (by decide +kernel)) ggX9_faultOfMending_X9_writes
set_option maxRecDepth 20000 in
theorem ggX9_faultOfMending_X9_passesNow : GoodIn wsX9_faultOfMending wsX9_passesNow := goodIn_r _ [25, 26, 2, 3, 1, 27, 28, 29, 30, 31, 32, 33, 34, 35, 36, 37, 38, 39, 40, 41, 42, 43, 44, 45, 46, 47, 48, 49, 50, 51, 52, 53, 54, 55, 56, 57, 58, 59, 60, 61, 62, 63, 64, 65, 66, 67, 68, 69, 8, 70, 71, 72, 73, 74, 75, 76, 77, 78, 79, 80, 81, 82, 83, 84, 85, 86, 87, 88, 89, 90, 91, 92, 93, 94, 95, 96, 97, 108, 109, 110, 111, 112, 113, 114, 115, 116, 117, 98, 99, 100, 101, 102, 103, 104, 105, 106, 107] rfl (by decide +kernel)
set_option maxRecDepth 20000 in
theorem gX9_faultOfMending_X9_passesNow : GoodIn wsX9_faultOfMending (wsV RX9 124 RX9 yX9_passesNow wsX9_passesNow) := goodIn_app (goodIn_of _ (by decide +kernel)) ggX9_faultOfMending_X9_passesNow
theorem dX9_faultOfMending_0 : decode cX9_faultOfMending 0 = .ok (.aload_n 0, 1) := by decide +kernel
theorem dX9_faultOfMending_1 : decode cX9_faultOfMending 1 = .ok (.getfield 19, 3) := by decide +kernel
theorem dX9_faultOfMending_4 : decode cX9_faultOfMending 4 = .ok (.iload_n 1, 1) := by decide +kernel
theorem dX9_faultOfMending_5 : decode cX9_faultOfMending 5 = .ok (.invokevirtual 107, 3) := by decide +kernel
theorem dX9_faultOfMending_8 : decode cX9_faultOfMending 8 = .ok (.ifCond .eq 14, 3) := by decide +kernel
theorem dX9_faultOfMending_11 : decode cX9_faultOfMending 11 = .ok (.aload_n 0, 1) := by decide +kernel
theorem dX9_faultOfMending_12 : decode cX9_faultOfMending 12 = .ok (.getfield 12, 3) := by decide +kernel
theorem dX9_faultOfMending_15 : decode cX9_faultOfMending 15 = .ok (.iload_n 2, 1) := by decide +kernel
theorem dX9_faultOfMending_16 : decode cX9_faultOfMending 16 = .ok (.invokevirtual 156, 3) := by decide +kernel
theorem dX9_faultOfMending_19 : decode cX9_faultOfMending 19 = .ok (.ifCond .ne 5, 3) := by decide +kernel
theorem dX9_faultOfMending_22 : decode cX9_faultOfMending 22 = .ok (.iconst (-1), 1) := by decide +kernel
theorem dX9_faultOfMending_23 : decode cX9_faultOfMending 23 = .ok (.ireturn, 1) := by decide +kernel
theorem dX9_faultOfMending_24 : decode cX9_faultOfMending 24 = .ok (.aload_n 0, 1) := by decide +kernel
theorem dX9_faultOfMending_25 : decode cX9_faultOfMending 25 = .ok (.getfield 12, 3) := by decide +kernel
theorem dX9_faultOfMending_28 : decode cX9_faultOfMending 28 = .ok (.getfield 96, 3) := by decide +kernel
theorem dX9_faultOfMending_31 : decode cX9_faultOfMending 31 = .ok (.getfield 271, 3) := by decide +kernel
theorem dX9_faultOfMending_34 : decode cX9_faultOfMending 34 = .ok (.iload_n 2, 1) := by decide +kernel
theorem dX9_faultOfMending_35 : decode cX9_faultOfMending 35 = .ok (.iaload, 1) := by decide +kernel
theorem dX9_faultOfMending_36 : decode cX9_faultOfMending 36 = .ok (.invokestatic 274, 3) := by decide +kernel
theorem dX9_faultOfMending_39 : decode cX9_faultOfMending 39 = .ok (.ifCond .eq 11, 3) := by decide +kernel
theorem dX9_faultOfMending_42 : decode cX9_faultOfMending 42 = .ok (.aload_n 0, 1) := by decide +kernel
theorem dX9_faultOfMending_43 : decode cX9_faultOfMending 43 = .ok (.iload_n 1, 1) := by decide +kernel
theorem dX9_faultOfMending_44 : decode cX9_faultOfMending 44 = .ok (.invokevirtual 124, 3) := by decide +kernel
theorem dX9_faultOfMending_47 : decode cX9_faultOfMending 47 = .ok (.ifCond .eq 6, 3) := by decide +kernel
theorem dX9_faultOfMending_50 : decode cX9_faultOfMending 50 = .ok (.bipush (-3), 2) := by decide +kernel
theorem dX9_faultOfMending_52 : decode cX9_faultOfMending 52 = .ok (.ireturn, 1) := by decide +kernel
theorem dX9_faultOfMending_53 : decode cX9_faultOfMending 53 = .ok (.iconst 0, 1) := by decide +kernel
theorem dX9_faultOfMending_54 : decode cX9_faultOfMending 54 = .ok (.ireturn, 1) := by decide +kernel
set_option maxRecDepth 20000 in
theorem ggX9_mendingValue_X9_passesSet : GoodIn wsX9_mendingValue wsX9_passesSet := goodIn_r _ [5, 6, 7, 8, 9, 10, 11, 12, 13, 14, 15, 16, 17, 18, 19, 20, 21, 22, 23, 24, 25, 26, 27, 28, 29, 30, 31, 32, 33, 34, 35, 36, 37, 38, 39, 40, 41, 42, 43, 44, 45, 46, 47, 48, 49, 50, 51, 52, 53, 54, 55, 56, 57, 58, 59, 60, 61, 62, 63, 64, 65, 66, 67, 68, 69, 70, 71, 72, 73, 74, 75, 76, 77, 78, 79, 80, 81, 82, 83, 84, 85, 86, 87, 88, 89, 90, 91, 92, 93, 94, 95, 96, 97, 98, 99, 100, 101] rfl (by decide +kernel)
set_option maxRecDepth 20000 in
theorem gX9_mendingValue_X9_passesSet : GoodIn wsX9_mendingValue (wsV RX9 277 RX9 yX9_passesSet wsX9_passesSet) := goodIn_app (goodIn_of _ (by decide +kernel)) ggX9_mendingValue_X9_passesSet
theorem dX9_mendingValue_0 : decode cX9_mendingValue 0 = .ok (.iconst 0, 1) := by decide +kernel
theorem dX9_mendingValue_1 : decode cX9_mendingValue 1 = .ok (.istore_n 3, 1) := by decide +kernel
theorem dX9_mendingValue_2 : decode cX9_mendingValue 2 = .ok (.iload_n 3, 1) := by decide +kernel
theorem dX9_mendingValue_3 : decode cX9_mendingValue 3 = .ok (.bipush 20, 2) := by decide +kernel
theorem dX9_mendingValue_5 : decode cX9_mendingValue 5 = .ok (.if_icmp .gt 35, 3) := by decide +kernel
theorem dX9_mendingValue_8 : decode cX9_mendingValue 8 = .ok (.aload_n 0, 1) := by decide +kernel
theorem dX9_mendingValue_9 : decode cX9_mendingValue 9 = .ok (.iload_n 1, 1) := by decide +kernel
theorem dX9_mendingValue_10 : decode cX9_mendingValue 10 = .ok (.iload_n 2, 1) := by decide +kernel
theorem dX9_mendingValue_11 : decode cX9_mendingValue 11 = .ok (.iload_n 3, 1) := by decide +kernel
theorem dX9_mendingValue_12 : decode cX9_mendingValue 12 = .ok (.ineg, 1) := by decide +kernel
theorem dX9_mendingValue_13 : decode cX9_mendingValue 13 = .ok (.invokevirtual 277, 3) := by decide +kernel
theorem dX9_mendingValue_16 : decode cX9_mendingValue 16 = .ok (.ifCond .eq 6, 3) := by decide +kernel
theorem dX9_mendingValue_19 : decode cX9_mendingValue 19 = .ok (.iload_n 3, 1) := by decide +kernel
theorem dX9_mendingValue_20 : decode cX9_mendingValue 20 = .ok (.ineg, 1) := by decide +kernel
theorem dX9_mendingValue_21 : decode cX9_mendingValue 21 = .ok (.ireturn, 1) := by decide +kernel
theorem dX9_mendingValue_22 : decode cX9_mendingValue 22 = .ok (.aload_n 0, 1) := by decide +kernel
theorem dX9_mendingValue_23 : decode cX9_mendingValue 23 = .ok (.iload_n 1, 1) := by decide +kernel
theorem dX9_mendingValue_24 : decode cX9_mendingValue 24 = .ok (.iload_n 2, 1) := by decide +kernel
theorem dX9_mendingValue_25 : decode cX9_mendingValue 25 = .ok (.iload_n 3, 1) := by decide +kernel
theorem dX9_mendingValue_26 : decode cX9_mendingValue 26 = .ok (.invokevirtual 277, 3) := by decide +kernel
theorem dX9_mendingValue_29 : decode cX9_mendingValue 29 = .ok (.ifCond .eq 5, 3) := by decide +kernel
theorem dX9_mendingValue_32 : decode cX9_mendingValue 32 = .ok (.iload_n 3, 1) := by decide +kernel
theorem dX9_mendingValue_33 : decode cX9_mendingValue 33 = .ok (.ireturn, 1) := by decide +kernel
theorem dX9_mendingValue_34 : decode cX9_mendingValue 34 = .ok (.iinc 3 1, 3) := by decide +kernel
theorem dX9_mendingValue_37 : decode cX9_mendingValue 37 = .ok (.goto (-35), 3) := by decide +kernel
theorem dX9_mendingValue_40 : decode cX9_mendingValue 40 = .ok (.bipush 21, 2) := by decide +kernel
theorem dX9_mendingValue_42 : decode cX9_mendingValue 42 = .ok (.ireturn, 1) := by decide +kernel
set_option maxRecDepth 20000 in
theorem ggX9_passesSet_X4_setting : GoodIn wsX9_passesSet wsX4_setting := goodIn_r _ [9, 10, 11, 12, 13, 14, 15, 8, 16, 17, 18, 19, 20, 21, 22, 23, 24, 25, 26, 27, 28, 29, 30, 31, 32, 33, 34, 35, 36, 37, 38, 39, 40, 41, 42, 43, 44, 45, 46, 47, 48, 49, 50, 77, 78, 79, 80, 81, 82, 83, 84, 85, 86, 87, 88, 89, 90, 91, 92, 93, 94, 95, 96] rfl (by decide +kernel)
set_option maxRecDepth 20000 in
theorem gX9_passesSet_X4_setting : GoodIn wsX9_passesSet (wsV RX9 281 RX4 yX4_setting wsX4_setting) := goodIn_app (goodIn_of _ (by decide +kernel)) ggX9_passesSet_X4_setting
set_option maxRecDepth 20000 in
theorem ggX9_passesSet_X4_bringsOut : GoodIn wsX9_passesSet wsX4_bringsOut := goodIn_r _ [54, 22, 18, 55, 36, 56, 57, 58, 48, 59, 60, 77, 78, 79, 80, 81, 82, 83, 84, 85, 86, 92, 93, 94, 95, 96] rfl (by decide +kernel)
set_option maxRecDepth 20000 in
theorem gX9_passesSet_X4_bringsOut : GoodIn wsX9_passesSet (wsV RX9 259 RX4 yX4_bringsOut wsX4_bringsOut) := goodIn_app (goodIn_of _ (by decide +kernel)) ggX9_passesSet_X4_bringsOut
theorem dX9_passesSet_0 : decode cX9_passesSet 0 = .ok (.aload_n 0, 1) := by decide +kernel
theorem dX9_passesSet_1 : decode cX9_passesSet 1 = .ok (.getfield 26, 3) := by decide +kernel
theorem dX9_passesSet_4 : decode cX9_passesSet 4 = .ok (.aload_n 0, 1) := by decide +kernel
theorem dX9_passesSet_5 : decode cX9_passesSet 5 = .ok (.getfield 12, 3) := by decide +kernel
theorem dX9_passesSet_8 : decode cX9_passesSet 8 = .ok (.getfield 96, 3) := by decide +kernel
theorem dX9_passesSet_11 : decode cX9_passesSet 11 = .ok (.aload_n 0, 1) := by decide +kernel
theorem dX9_passesSet_12 : decode cX9_passesSet 12 = .ok (.getfield 19, 3) := by decide +kernel
theorem dX9_passesSet_15 : decode cX9_passesSet 15 = .ok (.iload_n 1, 1) := by decide +kernel
theorem dX9_passesSet_16 : decode cX9_passesSet 16 = .ok (.iload_n 2, 1) := by decide +kernel
theorem dX9_passesSet_17 : decode cX9_passesSet 17 = .ok (.iload_n 3, 1) := by decide +kernel
theorem dX9_passesSet_18 : decode cX9_passesSet 18 = .ok (.invokevirtual 281, 3) := by decide +kernel
theorem dX9_passesSet_21 : decode cX9_passesSet 21 = .ok (.aload_n 0, 1) := by decide +kernel
theorem dX9_passesSet_22 : decode cX9_passesSet 22 = .ok (.getfield 26, 3) := by decide +kernel
theorem dX9_passesSet_25 : decode cX9_passesSet 25 = .ok (.aload_n 0, 1) := by decide +kernel
theorem dX9_passesSet_26 : decode cX9_passesSet 26 = .ok (.getfield 19, 3) := by decide +kernel
theorem dX9_passesSet_29 : decode cX9_passesSet 29 = .ok (.iload_n 1, 1) := by decide +kernel
theorem dX9_passesSet_30 : decode cX9_passesSet 30 = .ok (.invokevirtual 259, 3) := by decide +kernel
theorem dX9_passesSet_33 : decode cX9_passesSet 33 = .ok (.ireturn, 1) := by decide +kernel
set_option maxRecDepth 20000 in
theorem ggX9_faultOfBreaking_X6_has : GoodIn wsX9_faultOfBreaking wsX6_has := goodIn_r _ [6, 7, 114, 115, 116, 117, 118] rfl (by decide +kernel)
set_option maxRecDepth 20000 in
theorem gX9_faultOfBreaking_X6_has : GoodIn wsX9_faultOfBreaking (wsV RX9 107 RX6 yX6_has wsX6_has) := goodIn_app (goodIn_of _ (by decide +kernel)) ggX9_faultOfBreaking_X6_has
set_option maxRecDepth 20000 in
theorem ggX9_faultOfBreaking_X9_passesNow : GoodIn wsX9_faultOfBreaking wsX9_passesNow := goodIn_r _ [12, 13, 14, 15, 1, 16, 17, 18, 19, 20, 21, 22, 23, 24, 25, 26, 27, 28, 29, 30, 31, 32, 33, 34, 35, 36, 37, 38, 39, 40, 41, 42, 43, 44, 45, 46, 47, 48, 49, 50, 51, 52, 53, 54, 55, 56, 57, 58, 5, 59, 60, 61, 62, 63, 64, 65, 66, 67, 68, 69, 70, 103, 104, 105, 106, 107, 108, 109, 110, 111, 112, 113, 119, 120, 121, 122, 123, 124, 125, 126, 127, 128, 129, 130, 131, 132, 133, 134, 135, 136, 137, 138, 114, 115, 116, 117, 118] rfl (by decide +kernel)
set_option maxRecDepth 20000 in
theorem gX9_faultOfBreaking_X9_passesNow : GoodIn wsX9_faultOfBreaking (wsV RX9 124 RX9 yX9_passesNow wsX9_passesNow) := goodIn_app (goodIn_of _ (by decide +kernel)) ggX9_faultOfBreaking_X9_passesNow
set_option maxRecDepth 20000 in
theorem ggX9_faultOfBreaking_X9_passesAt : GoodIn wsX9_faultOfBreaking wsX9_passesAt := goodIn_r _ [74, 13, 14, 1, 75, 76, 77, 78, 79, 80, 81, 82, 83, 84, 85, 86, 87, 88, 89, 90, 91, 92, 93, 94, 95, 96, 97, 98, 99, 100, 101, 102, 16, 17, 18, 19, 20, 21, 22, 23, 24, 25, 26, 27, 28, 29, 30, 31, 32, 33, 34, 35, 36, 37, 38, 39, 40, 41, 42, 43, 44, 45, 46, 47, 48, 49, 50, 51, 52, 53, 54, 55, 56, 57, 58, 5, 59, 60, 61, 62, 63, 64, 65, 66, 67, 68, 69, 70, 103, 104, 105, 106, 107, 108, 109, 110, 111, 112, 113, 119, 120, 121, 122, 123, 134, 135, 136, 137, 138, 124, 125, 126, 127, 128, 129, 130, 131, 132, 133, 114, 115, 116, 117, 118] rfl (by decide +kernel)
set_option maxRecDepth 20000 in
theorem gX9_faultOfBreaking_X9_passesAt : GoodIn wsX9_faultOfBreaking (wsV RX9 220 RX9 yX9_passesAt wsX9_passesAt) := goodIn_app (goodIn_of _ (by decide +kernel)) ggX9_faultOfBreaking_X9_passesAt
theorem dX9_faultOfBreaking_0 : decode cX9_faultOfBreaking 0 = .ok (.aload_n 0, 1) := by decide +kernel
theorem dX9_faultOfBreaking_1 : decode cX9_faultOfBreaking 1 = .ok (.getfield 19, 3) := by decide +kernel
theorem dX9_faultOfBreaking_4 : decode cX9_faultOfBreaking 4 = .ok (.iload_n 1, 1) := by decide +kernel
theorem dX9_faultOfBreaking_5 : decode cX9_faultOfBreaking 5 = .ok (.invokevirtual 107, 3) := by decide +kernel
theorem dX9_faultOfBreaking_8 : decode cX9_faultOfBreaking 8 = .ok (.ifCond .ne 5, 3) := by decide +kernel
theorem dX9_faultOfBreaking_11 : decode cX9_faultOfBreaking 11 = .ok (.iconst (-1), 1) := by decide +kernel
theorem dX9_faultOfBreaking_12 : decode cX9_faultOfBreaking 12 = .ok (.ireturn, 1) := by decide +kernel
theorem dX9_faultOfBreaking_13 : decode cX9_faultOfBreaking 13 = .ok (.aload_n 0, 1) := by decide +kernel
theorem dX9_faultOfBreaking_14 : decode cX9_faultOfBreaking 14 = .ok (.iload_n 1, 1) := by decide +kernel
theorem dX9_faultOfBreaking_15 : decode cX9_faultOfBreaking 15 = .ok (.invokevirtual 124, 3) := by decide +kernel
theorem dX9_faultOfBreaking_18 : decode cX9_faultOfBreaking 18 = .ok (.ifCond .ne 12, 3) := by decide +kernel
theorem dX9_faultOfBreaking_21 : decode cX9_faultOfBreaking 21 = .ok (.aload_n 0, 1) := by decide +kernel
theorem dX9_faultOfBreaking_22 : decode cX9_faultOfBreaking 22 = .ok (.iconst 0, 1) := by decide +kernel
theorem dX9_faultOfBreaking_23 : decode cX9_faultOfBreaking 23 = .ok (.iload_n 1, 1) := by decide +kernel
theorem dX9_faultOfBreaking_24 : decode cX9_faultOfBreaking 24 = .ok (.invokevirtual 220, 3) := by decide +kernel
theorem dX9_faultOfBreaking_27 : decode cX9_faultOfBreaking 27 = .ok (.ifCond .ne 6, 3) := by decide +kernel
theorem dX9_faultOfBreaking_30 : decode cX9_faultOfBreaking 30 = .ok (.bipush (-3), 2) := by decide +kernel
theorem dX9_faultOfBreaking_32 : decode cX9_faultOfBreaking 32 = .ok (.ireturn, 1) := by decide +kernel
theorem dX9_faultOfBreaking_33 : decode cX9_faultOfBreaking 33 = .ok (.iconst 0, 1) := by decide +kernel
theorem dX9_faultOfBreaking_34 : decode cX9_faultOfBreaking 34 = .ok (.ireturn, 1) := by decide +kernel
set_option maxRecDepth 20000 in
theorem ggX9_halve_X2_begin : GoodIn wsX9_halve wsX2_begin := goodIn_r _ [9, 10, 11, 12, 138, 139, 140] rfl (by decide +kernel)
set_option maxRecDepth 20000 in
theorem gX9_halve_X2_begin : GoodIn wsX9_halve (wsV RX9 285 RX2 yX2_begin wsX2_begin) := goodIn_app (goodIn_of _ (by decide +kernel)) ggX9_halve_X2_begin
set_option maxRecDepth 20000 in
theorem ggX9_halve_X2_areApart : GoodIn wsX9_halve wsX2_areApart := goodIn_r _ [16, 11, 10, 138, 139, 140] rfl (by decide +kernel)
set_option maxRecDepth 20000 in
theorem gX9_halve_X2_areApart : GoodIn wsX9_halve (wsV RX9 288 RX2 yX2_areApart wsX2_areApart) := goodIn_app (goodIn_of _ (by decide +kernel)) ggX9_halve_X2_areApart
set_option maxRecDepth 20000 in
theorem ggX9_halve_X2_middle : GoodIn wsX9_halve wsX2_middle := goodIn_r _ [20, 10, 11, 138, 139, 140] rfl (by decide +kernel)
set_option maxRecDepth 20000 in
theorem gX9_halve_X2_middle : GoodIn wsX9_halve (wsV RX9 292 RX2 yX2_middle wsX2_middle) := goodIn_app (goodIn_of _ (by decide +kernel)) ggX9_halve_X2_middle
set_option maxRecDepth 20000 in
theorem ggX9_halve_X9_passesAt : GoodIn wsX9_halve wsX9_passesAt := goodIn_r _ [25, 26, 2, 27, 28, 29, 30, 31, 32, 33, 34, 35, 36, 37, 38, 39, 40, 41, 42, 43, 44, 45, 46, 47, 48, 49, 50, 51, 52, 53, 54, 55, 56, 57, 58, 59, 60, 61, 62, 63, 64, 65, 66, 67, 68, 69, 70, 71, 72, 73, 74, 75, 76, 77, 78, 79, 80, 81, 82, 83, 84, 85, 86, 87, 88, 89, 90, 91, 92, 93, 94, 95, 96, 97, 98, 99, 100, 101, 102, 103, 104, 105, 106, 107, 108, 109, 110, 111, 117, 118, 119, 120, 121, 122, 123, 124, 125, 126, 127, 128, 129, 130, 131, 132, 133, 134, 135, 136, 137, 141, 142, 143, 144, 145, 146, 147, 148, 149, 150, 151, 152, 153, 154, 155] rfl (by decide +kernel)
set_option maxRecDepth 20000 in
theorem gX9_halve_X9_passesAt : GoodIn wsX9_halve (wsV RX9 220 RX9 yX9_passesAt wsX9_passesAt) := goodIn_app (goodIn_of _ (by decide +kernel)) ggX9_halve_X9_passesAt
set_option maxRecDepth 20000 in
theorem ggX9_halve_X2_look : GoodIn wsX9_halve wsX2_look := goodIn_r _ [115, 10, 11, 12, 116, 18, 19, 8, 20, 138, 139, 140] rfl (by decide +kernel)
set_option maxRecDepth 20000 in
theorem gX9_halve_X2_look : GoodIn wsX9_halve (wsV RX9 296 RX2 yX2_look wsX2_look) := goodIn_app (goodIn_of _ (by decide +kernel)) ggX9_halve_X2_look
theorem dX9_halve_0 : decode cX9_halve 0 = .ok (.aload_n 0, 1) := by decide +kernel
theorem dX9_halve_1 : decode cX9_halve 1 = .ok (.getfield 66, 3) := by decide +kernel
theorem dX9_halve_4 : decode cX9_halve 4 = .ok (.aload_n 0, 1) := by decide +kernel
theorem dX9_halve_5 : decode cX9_halve 5 = .ok (.getfield 12, 3) := by decide +kernel
theorem dX9_halve_8 : decode cX9_halve 8 = .ok (.getfield 86, 3) := by decide +kernel
theorem dX9_halve_11 : decode cX9_halve 11 = .ok (.getfield 90, 3) := by decide +kernel
theorem dX9_halve_14 : decode cX9_halve 14 = .ok (.invokevirtual 285, 3) := by decide +kernel
theorem dX9_halve_17 : decode cX9_halve 17 = .ok (.iconst 0, 1) := by decide +kernel
theorem dX9_halve_18 : decode cX9_halve 18 = .ok (.istore_n 2, 1) := by decide +kernel
theorem dX9_halve_19 : decode cX9_halve 19 = .ok (.iload_n 2, 1) := by decide +kernel
theorem dX9_halve_20 : decode cX9_halve 20 = .ok (.bipush 20, 2) := by decide +kernel
theorem dX9_halve_22 : decode cX9_halve 22 = .ok (.if_icmp .ge 38, 3) := by decide +kernel
theorem dX9_halve_25 : decode cX9_halve 25 = .ok (.aload_n 0, 1) := by decide +kernel
theorem dX9_halve_26 : decode cX9_halve 26 = .ok (.getfield 66, 3) := by decide +kernel
theorem dX9_halve_29 : decode cX9_halve 29 = .ok (.invokevirtual 288, 3) := by decide +kernel
theorem dX9_halve_32 : decode cX9_halve 32 = .ok (.ifCond .eq 28, 3) := by decide +kernel
theorem dX9_halve_35 : decode cX9_halve 35 = .ok (.aload_n 0, 1) := by decide +kernel
theorem dX9_halve_36 : decode cX9_halve 36 = .ok (.getfield 66, 3) := by decide +kernel
theorem dX9_halve_39 : decode cX9_halve 39 = .ok (.aload_n 0, 1) := by decide +kernel
theorem dX9_halve_40 : decode cX9_halve 40 = .ok (.aload_n 0, 1) := by decide +kernel
theorem dX9_halve_41 : decode cX9_halve 41 = .ok (.getfield 66, 3) := by decide +kernel
theorem dX9_halve_44 : decode cX9_halve 44 = .ok (.invokevirtual 292, 3) := by decide +kernel
theorem dX9_halve_47 : decode cX9_halve 47 = .ok (.iload_n 1, 1) := by decide +kernel
theorem dX9_halve_48 : decode cX9_halve 48 = .ok (.invokevirtual 220, 3) := by decide +kernel
theorem dX9_halve_51 : decode cX9_halve 51 = .ok (.invokevirtual 296, 3) := by decide +kernel
theorem dX9_halve_54 : decode cX9_halve 54 = .ok (.iinc 2 1, 3) := by decide +kernel
theorem dX9_halve_57 : decode cX9_halve 57 = .ok (.goto (-38), 3) := by decide +kernel
theorem dX9_halve_60 : decode cX9_halve 60 = .ok (.return_, 1) := by decide +kernel
set_option maxRecDepth 20000 in
theorem ggX9_faultOfRow_X9_namesWhatThereIs : GoodIn wsX9_faultOfRow wsX9_namesWhatThereIs := goodIn_r _ [4, 5, 6, 3, 7] rfl (by decide +kernel)
set_option maxRecDepth 20000 in
theorem gX9_faultOfRow_X9_namesWhatThereIs : GoodIn wsX9_faultOfRow (va_wsS RX9 300 yX9_namesWhatThereIs wsX9_namesWhatThereIs) := goodIn_app (goodIn_of _ (by decide +kernel)) ggX9_faultOfRow_X9_namesWhatThereIs
theorem dX9_faultOfRow_0 : decode cX9_faultOfRow 0 = .ok (.iload_n 0, 1) := by decide +kernel
theorem dX9_faultOfRow_1 : decode cX9_faultOfRow 1 = .ok (.ifCond .lt 19, 3) := by decide +kernel
theorem dX9_faultOfRow_4 : decode cX9_faultOfRow 4 = .ok (.iload_n 0, 1) := by decide +kernel
theorem dX9_faultOfRow_5 : decode cX9_faultOfRow 5 = .ok (.bipush 7, 2) := by decide +kernel
theorem dX9_faultOfRow_7 : decode cX9_faultOfRow 7 = .ok (.if_icmp .gt 13, 3) := by decide +kernel
theorem dX9_faultOfRow_10 : decode cX9_faultOfRow 10 = .ok (.iload_n 0, 1) := by decide +kernel
theorem dX9_faultOfRow_11 : decode cX9_faultOfRow 11 = .ok (.iload_n 1, 1) := by decide +kernel
theorem dX9_faultOfRow_12 : decode cX9_faultOfRow 12 = .ok (.iload_n 2, 1) := by decide +kernel
theorem dX9_faultOfRow_13 : decode cX9_faultOfRow 13 = .ok (.iload_n 3, 1) := by decide +kernel
theorem dX9_faultOfRow_14 : decode cX9_faultOfRow 14 = .ok (.invokestatic 300, 3) := by decide +kernel
theorem dX9_faultOfRow_17 : decode cX9_faultOfRow 17 = .ok (.ifCond .ne 5, 3) := by decide +kernel
theorem dX9_faultOfRow_20 : decode cX9_faultOfRow 20 = .ok (.iconst (-1), 1) := by decide +kernel
theorem dX9_faultOfRow_21 : decode cX9_faultOfRow 21 = .ok (.ireturn, 1) := by decide +kernel
theorem dX9_faultOfRow_22 : decode cX9_faultOfRow 22 = .ok (.iload_n 0, 1) := by decide +kernel
theorem dX9_faultOfRow_23 : decode cX9_faultOfRow 23 = .ok (.ifCond .ne 13, 3) := by decide +kernel
theorem dX9_faultOfRow_26 : decode cX9_faultOfRow 26 = .ok (.iload_n 2, 1) := by decide +kernel
theorem dX9_faultOfRow_27 : decode cX9_faultOfRow 27 = .ok (.sipush (-1000), 3) := by decide +kernel
theorem dX9_faultOfRow_30 : decode cX9_faultOfRow 30 = .ok (.if_icmp .ge 6, 3) := by decide +kernel
theorem dX9_faultOfRow_33 : decode cX9_faultOfRow 33 = .ok (.bipush (-4), 2) := by decide +kernel
theorem dX9_faultOfRow_35 : decode cX9_faultOfRow 35 = .ok (.ireturn, 1) := by decide +kernel
theorem dX9_faultOfRow_36 : decode cX9_faultOfRow 36 = .ok (.iload_n 0, 1) := by decide +kernel
theorem dX9_faultOfRow_37 : decode cX9_faultOfRow 37 = .ok (.ifCond .ne 13, 3) := by decide +kernel
theorem dX9_faultOfRow_40 : decode cX9_faultOfRow 40 = .ok (.iload_n 2, 1) := by decide +kernel
theorem dX9_faultOfRow_41 : decode cX9_faultOfRow 41 = .ok (.sipush 1000, 3) := by decide +kernel
theorem dX9_faultOfRow_44 : decode cX9_faultOfRow 44 = .ok (.if_icmp .le 6, 3) := by decide +kernel
theorem dX9_faultOfRow_47 : decode cX9_faultOfRow 47 = .ok (.bipush (-6), 2) := by decide +kernel
theorem dX9_faultOfRow_49 : decode cX9_faultOfRow 49 = .ok (.ireturn, 1) := by decide +kernel
theorem dX9_faultOfRow_50 : decode cX9_faultOfRow 50 = .ok (.iconst 0, 1) := by decide +kernel
theorem dX9_faultOfRow_51 : decode cX9_faultOfRow 51 = .ok (.ireturn, 1) := by decide +kernel
set_option maxRecDepth 20000 in
theorem ggX9_namesWhatThereIs_X9_isVariable : GoodIn wsX9_namesWhatThereIs wsX9_isVariable := goodIn_r _ [4] rfl (by decide +kernel)
set_option maxRecDepth 20000 in
theorem gX9_namesWhatThereIs_X9_isVariable : GoodIn wsX9_namesWhatThereIs (va_wsS RX9 304 yX9_isVariable wsX9_isVariable) := goodIn_app (goodIn_of _ (by decide +kernel)) ggX9_namesWhatThereIs_X9_isVariable
theorem dX9_namesWhatThereIs_0 : decode cX9_namesWhatThereIs 0 = .ok (.iload_n 0, 1) := by decide +kernel
theorem dX9_namesWhatThereIs_1 : decode cX9_namesWhatThereIs 1 = .ok (.tableswitch 134 1 6 #[39, 39, 39, 66, 88, 118], 39) := by decide +kernel
theorem dX9_namesWhatThereIs_40 : decode cX9_namesWhatThereIs 40 = .ok (.iload_n 1, 1) := by decide +kernel
theorem dX9_namesWhatThereIs_41 : decode cX9_namesWhatThereIs 41 = .ok (.invokestatic 304, 3) := by decide +kernel
theorem dX9_namesWhatThereIs_44 : decode cX9_namesWhatThereIs 44 = .ok (.ifCond .eq 21, 3) := by decide +kernel
theorem dX9_namesWhatThereIs_47 : decode cX9_namesWhatThereIs 47 = .ok (.iload_n 2, 1) := by decide +kernel
theorem dX9_namesWhatThereIs_48 : decode cX9_namesWhatThereIs 48 = .ok (.invokestatic 304, 3) := by decide +kernel
theorem dX9_namesWhatThereIs_51 : decode cX9_namesWhatThereIs 51 = .ok (.ifCond .eq 14, 3) := by decide +kernel
theorem dX9_namesWhatThereIs_54 : decode cX9_namesWhatThereIs 54 = .ok (.iload_n 3, 1) := by decide +kernel
theorem dX9_namesWhatThereIs_55 : decode cX9_namesWhatThereIs 55 = .ok (.invokestatic 304, 3) := by decide +kernel
theorem dX9_namesWhatThereIs_58 : decode cX9_namesWhatThereIs 58 = .ok (.ifCond .eq 7, 3) := by decide +kernel
theorem dX9_namesWhatThereIs_61 : decode cX9_namesWhatThereIs 61 = .ok (.iconst 1, 1) := by decide +kernel
theorem dX9_namesWhatThereIs_62 : decode cX9_namesWhatThereIs 62 = .ok (.goto 4, 3) := by decide +kernel
theorem dX9_namesWhatThereIs_65 : decode cX9_namesWhatThereIs 65 = .ok (.iconst 0, 1) := by decide +kernel
theorem dX9_namesWhatThereIs_66 : decode cX9_namesWhatThereIs 66 = .ok (.ireturn, 1) := by decide +kernel
theorem dX9_namesWhatThereIs_67 : decode cX9_namesWhatThereIs 67 = .ok (.iload_n 1, 1) := by decide +kernel
theorem dX9_namesWhatThereIs_68 : decode cX9_namesWhatThereIs 68 = .ok (.invokestatic 304, 3) := by decide +kernel
theorem dX9_namesWhatThereIs_71 : decode cX9_namesWhatThereIs 71 = .ok (.ifCond .eq 16, 3) := by decide +kernel
theorem dX9_namesWhatThereIs_74 : decode cX9_namesWhatThereIs 74 = .ok (.iload_n 2, 1) := by decide +kernel
theorem dX9_namesWhatThereIs_75 : decode cX9_namesWhatThereIs 75 = .ok (.ifCond .lt 12, 3) := by decide +kernel
theorem dX9_namesWhatThereIs_78 : decode cX9_namesWhatThereIs 78 = .ok (.iload_n 2, 1) := by decide +kernel
theorem dX9_namesWhatThereIs_79 : decode cX9_namesWhatThereIs 79 = .ok (.iconst 4, 1) := by decide +kernel
theorem dX9_namesWhatThereIs_80 : decode cX9_namesWhatThereIs 80 = .ok (.if_icmp .ge 7, 3) := by decide +kernel
theorem dX9_namesWhatThereIs_83 : decode cX9_namesWhatThereIs 83 = .ok (.iconst 1, 1) := by decide +kernel
theorem dX9_namesWhatThereIs_84 : decode cX9_namesWhatThereIs 84 = .ok (.goto 4, 3) := by decide +kernel
theorem dX9_namesWhatThereIs_87 : decode cX9_namesWhatThereIs 87 = .ok (.iconst 0, 1) := by decide +kernel
theorem dX9_namesWhatThereIs_88 : decode cX9_namesWhatThereIs 88 = .ok (.ireturn, 1) := by decide +kernel
theorem dX9_namesWhatThereIs_89 : decode cX9_namesWhatThereIs 89 = .ok (.iload_n 1, 1) := by decide +kernel
theorem dX9_namesWhatThereIs_90 : decode cX9_namesWhatThereIs 90 = .ok (.invokestatic 304, 3) := by decide +kernel
theorem dX9_namesWhatThereIs_93 : decode cX9_namesWhatThereIs 93 = .ok (.ifCond .eq 24, 3) := by decide +kernel
theorem dX9_namesWhatThereIs_96 : decode cX9_namesWhatThereIs 96 = .ok (.iload_n 2, 1) := by decide +kernel
theorem dX9_namesWhatThereIs_97 : decode cX9_namesWhatThereIs 97 = .ok (.invokestatic 304, 3) := by decide +kernel
theorem dX9_namesWhatThereIs_100 : decode cX9_namesWhatThereIs 100 = .ok (.ifCond .eq 17, 3) := by decide +kernel
theorem dX9_namesWhatThereIs_103 : decode cX9_namesWhatThereIs 103 = .ok (.iload_n 3, 1) := by decide +kernel
theorem dX9_namesWhatThereIs_104 : decode cX9_namesWhatThereIs 104 = .ok (.ifCond .lt 13, 3) := by decide +kernel
theorem dX9_namesWhatThereIs_107 : decode cX9_namesWhatThereIs 107 = .ok (.iload_n 3, 1) := by decide +kernel
theorem dX9_namesWhatThereIs_108 : decode cX9_namesWhatThereIs 108 = .ok (.bipush 24, 2) := by decide +kernel
theorem dX9_namesWhatThereIs_110 : decode cX9_namesWhatThereIs 110 = .ok (.if_icmp .gt 7, 3) := by decide +kernel
theorem dX9_namesWhatThereIs_113 : decode cX9_namesWhatThereIs 113 = .ok (.iconst 1, 1) := by decide +kernel
theorem dX9_namesWhatThereIs_114 : decode cX9_namesWhatThereIs 114 = .ok (.goto 4, 3) := by decide +kernel
theorem dX9_namesWhatThereIs_117 : decode cX9_namesWhatThereIs 117 = .ok (.iconst 0, 1) := by decide +kernel
theorem dX9_namesWhatThereIs_118 : decode cX9_namesWhatThereIs 118 = .ok (.ireturn, 1) := by decide +kernel
theorem dX9_namesWhatThereIs_119 : decode cX9_namesWhatThereIs 119 = .ok (.iload_n 3, 1) := by decide +kernel
theorem dX9_namesWhatThereIs_120 : decode cX9_namesWhatThereIs 120 = .ok (.ifCond .lt 13, 3) := by decide +kernel
theorem dX9_namesWhatThereIs_123 : decode cX9_namesWhatThereIs 123 = .ok (.iload_n 3, 1) := by decide +kernel
theorem dX9_namesWhatThereIs_124 : decode cX9_namesWhatThereIs 124 = .ok (.bipush 24, 2) := by decide +kernel
theorem dX9_namesWhatThereIs_126 : decode cX9_namesWhatThereIs 126 = .ok (.if_icmp .gt 7, 3) := by decide +kernel
theorem dX9_namesWhatThereIs_129 : decode cX9_namesWhatThereIs 129 = .ok (.iconst 1, 1) := by decide +kernel
theorem dX9_namesWhatThereIs_130 : decode cX9_namesWhatThereIs 130 = .ok (.goto 4, 3) := by decide +kernel
theorem dX9_namesWhatThereIs_133 : decode cX9_namesWhatThereIs 133 = .ok (.iconst 0, 1) := by decide +kernel
theorem dX9_namesWhatThereIs_134 : decode cX9_namesWhatThereIs 134 = .ok (.ireturn, 1) := by decide +kernel
theorem dX9_namesWhatThereIs_135 : decode cX9_namesWhatThereIs 135 = .ok (.iload_n 1, 1) := by decide +kernel
theorem dX9_namesWhatThereIs_136 : decode cX9_namesWhatThereIs 136 = .ok (.invokestatic 304, 3) := by decide +kernel
theorem dX9_namesWhatThereIs_139 : decode cX9_namesWhatThereIs 139 = .ok (.ireturn, 1) := by decide +kernel
theorem dX9_isVariable_0 : decode cX9_isVariable 0 = .ok (.iload_n 0, 1) := by decide +kernel
theorem dX9_isVariable_1 : decode cX9_isVariable 1 = .ok (.ifCond .lt 13, 3) := by decide +kernel
theorem dX9_isVariable_4 : decode cX9_isVariable 4 = .ok (.iload_n 0, 1) := by decide +kernel
theorem dX9_isVariable_5 : decode cX9_isVariable 5 = .ok (.bipush 8, 2) := by decide +kernel
theorem dX9_isVariable_7 : decode cX9_isVariable 7 = .ok (.if_icmp .ge 7, 3) := by decide +kernel
theorem dX9_isVariable_10 : decode cX9_isVariable 10 = .ok (.iconst 1, 1) := by decide +kernel
theorem dX9_isVariable_11 : decode cX9_isVariable 11 = .ok (.goto 4, 3) := by decide +kernel
theorem dX9_isVariable_14 : decode cX9_isVariable 14 = .ok (.iconst 0, 1) := by decide +kernel
theorem dX9_isVariable_15 : decode cX9_isVariable 15 = .ok (.ireturn, 1) := by decide +kernel
