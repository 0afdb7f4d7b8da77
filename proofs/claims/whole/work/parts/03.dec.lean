abbrev vwCl : List vw_C := [(RX0, TX0, 5), (RX1, TX1, 2), (RX2, TX2, 3), (RX3, TX3, 5), (RX4, TX4, 10), (RX5, TX5, 1), (RX6, TX6, 5), (RX7, TX7, 6), (RX8, TX8, 4), (RX9, TX9, 11), (RX10, TX10, 33)]
theorem dX0_init_0 : decode cX0_init 0 = .ok (.aload_n 0, 1) := by decide +kernel
theorem dX0_init_1 : decode cX0_init 1 = .ok (.invokespecial 3, 3) := by decide +kernel
theorem dX0_init_4 : decode cX0_init 4 = .ok (.aload_n 0, 1) := by decide +kernel
theorem dX0_init_5 : decode cX0_init 5 = .ok (.bipush 24, 2) := by decide +kernel
theorem dX0_init_7 : decode cX0_init 7 = .ok (.newarray .int, 2) := by decide +kernel
theorem dX0_init_9 : decode cX0_init 9 = .ok (.putfield 9, 3) := by decide +kernel
theorem dX0_init_12 : decode cX0_init 12 = .ok (.aload_n 0, 1) := by decide +kernel
theorem dX0_init_13 : decode cX0_init 13 = .ok (.bipush 24, 2) := by decide +kernel
theorem dX0_init_15 : decode cX0_init 15 = .ok (.newarray .int, 2) := by decide +kernel
theorem dX0_init_17 : decode cX0_init 17 = .ok (.putfield 15, 3) := by decide +kernel
theorem dX0_init_20 : decode cX0_init 20 = .ok (.aload_n 0, 1) := by decide +kernel
theorem dX0_init_21 : decode cX0_init 21 = .ok (.bipush 24, 2) := by decide +kernel
theorem dX0_init_23 : decode cX0_init 23 = .ok (.newarray .int, 2) := by decide +kernel
theorem dX0_init_25 : decode cX0_init 25 = .ok (.putfield 18, 3) := by decide +kernel
theorem dX0_init_28 : decode cX0_init 28 = .ok (.aload_n 0, 1) := by decide +kernel
theorem dX0_init_29 : decode cX0_init 29 = .ok (.bipush 24, 2) := by decide +kernel
theorem dX0_init_31 : decode cX0_init 31 = .ok (.newarray .int, 2) := by decide +kernel
theorem dX0_init_33 : decode cX0_init 33 = .ok (.putfield 21, 3) := by decide +kernel
theorem dX0_init_36 : decode cX0_init 36 = .ok (.aload_n 0, 1) := by decide +kernel
theorem dX0_init_37 : decode cX0_init 37 = .ok (.iconst 0, 1) := by decide +kernel
theorem dX0_init_38 : decode cX0_init 38 = .ok (.putfield 24, 3) := by decide +kernel
theorem dX0_init_41 : decode cX0_init 41 = .ok (.return_, 1) := by decide +kernel
theorem dX0_put_0 : decode cX0_put 0 = .ok (.aload_n 0, 1) := by decide +kernel
theorem dX0_put_1 : decode cX0_put 1 = .ok (.getfield 9, 3) := by decide +kernel
theorem dX0_put_4 : decode cX0_put 4 = .ok (.iload_n 1, 1) := by decide +kernel
theorem dX0_put_5 : decode cX0_put 5 = .ok (.iload_n 2, 1) := by decide +kernel
theorem dX0_put_6 : decode cX0_put 6 = .ok (.iastore, 1) := by decide +kernel
theorem dX0_put_7 : decode cX0_put 7 = .ok (.aload_n 0, 1) := by decide +kernel
theorem dX0_put_8 : decode cX0_put 8 = .ok (.getfield 15, 3) := by decide +kernel
theorem dX0_put_11 : decode cX0_put 11 = .ok (.iload_n 1, 1) := by decide +kernel
theorem dX0_put_12 : decode cX0_put 12 = .ok (.iload_n 3, 1) := by decide +kernel
theorem dX0_put_13 : decode cX0_put 13 = .ok (.iastore, 1) := by decide +kernel
theorem dX0_put_14 : decode cX0_put 14 = .ok (.aload_n 0, 1) := by decide +kernel
theorem dX0_put_15 : decode cX0_put 15 = .ok (.getfield 18, 3) := by decide +kernel
theorem dX0_put_18 : decode cX0_put 18 = .ok (.iload_n 1, 1) := by decide +kernel
theorem dX0_put_19 : decode cX0_put 19 = .ok (.iload 4, 2) := by decide +kernel
theorem dX0_put_21 : decode cX0_put 21 = .ok (.iastore, 1) := by decide +kernel
theorem dX0_put_22 : decode cX0_put 22 = .ok (.aload_n 0, 1) := by decide +kernel
theorem dX0_put_23 : decode cX0_put 23 = .ok (.getfield 21, 3) := by decide +kernel
theorem dX0_put_26 : decode cX0_put 26 = .ok (.iload_n 1, 1) := by decide +kernel
theorem dX0_put_27 : decode cX0_put 27 = .ok (.iload 5, 2) := by decide +kernel
theorem dX0_put_29 : decode cX0_put 29 = .ok (.iastore, 1) := by decide +kernel
theorem dX0_put_30 : decode cX0_put 30 = .ok (.return_, 1) := by decide +kernel
set_option maxRecDepth 20000 in
theorem ggX0_add_X0_put : GoodIn wsX0_add wsX0_put := goodIn_r _ [6, 7, 8, 9, 10, 11, 12, 13, 14, 15] (by decide +kernel) (by decide +kernel)
set_option maxRecDepth 20000 in
theorem gX0_add_X0_put : GoodIn wsX0_add (wsV RX0 28 RX0 yX0_put wsX0_put) := goodIn_app (goodIn_of _ (by decide +kernel)) ggX0_add_X0_put
theorem dX0_add_0 : decode cX0_add 0 = .ok (.aload_n 0, 1) := by decide +kernel
theorem dX0_add_1 : decode cX0_add 1 = .ok (.aload_n 0, 1) := by decide +kernel
theorem dX0_add_2 : decode cX0_add 2 = .ok (.getfield 24, 3) := by decide +kernel
theorem dX0_add_5 : decode cX0_add 5 = .ok (.iload_n 1, 1) := by decide +kernel
theorem dX0_add_6 : decode cX0_add 6 = .ok (.iload_n 2, 1) := by decide +kernel
theorem dX0_add_7 : decode cX0_add 7 = .ok (.iload_n 3, 1) := by decide +kernel
theorem dX0_add_8 : decode cX0_add 8 = .ok (.iload 4, 2) := by decide +kernel
theorem dX0_add_10 : decode cX0_add 10 = .ok (.invokevirtual 28, 3) := by decide +kernel
theorem dX0_add_13 : decode cX0_add 13 = .ok (.aload_n 0, 1) := by decide +kernel
theorem dX0_add_14 : decode cX0_add 14 = .ok (.dup, 1) := by decide +kernel
theorem dX0_add_15 : decode cX0_add 15 = .ok (.getfield 24, 3) := by decide +kernel
theorem dX0_add_18 : decode cX0_add 18 = .ok (.iconst 1, 1) := by decide +kernel
theorem dX0_add_19 : decode cX0_add 19 = .ok (.iadd, 1) := by decide +kernel
theorem dX0_add_20 : decode cX0_add 20 = .ok (.putfield 24, 3) := by decide +kernel
theorem dX0_add_23 : decode cX0_add 23 = .ok (.return_, 1) := by decide +kernel
set_option maxRecDepth 20000 in
theorem ggX0_putRowOf_X0_put : GoodIn wsX0_putRowOf wsX0_put := goodIn_r _ [9, 1, 2, 3, 4, 10, 11, 12, 13, 14] (by decide +kernel) (by decide +kernel)
set_option maxRecDepth 20000 in
theorem gX0_putRowOf_X0_put : GoodIn wsX0_putRowOf (wsV RX0 28 RX0 yX0_put wsX0_put) := goodIn_app (goodIn_of _ (by decide +kernel)) ggX0_putRowOf_X0_put
theorem dX0_putRowOf_0 : decode cX0_putRowOf 0 = .ok (.aload_n 0, 1) := by decide +kernel
theorem dX0_putRowOf_1 : decode cX0_putRowOf 1 = .ok (.iload_n 3, 1) := by decide +kernel
theorem dX0_putRowOf_2 : decode cX0_putRowOf 2 = .ok (.aload_n 1, 1) := by decide +kernel
theorem dX0_putRowOf_3 : decode cX0_putRowOf 3 = .ok (.getfield 9, 3) := by decide +kernel
theorem dX0_putRowOf_6 : decode cX0_putRowOf 6 = .ok (.iload_n 2, 1) := by decide +kernel
theorem dX0_putRowOf_7 : decode cX0_putRowOf 7 = .ok (.iaload, 1) := by decide +kernel
theorem dX0_putRowOf_8 : decode cX0_putRowOf 8 = .ok (.aload_n 1, 1) := by decide +kernel
theorem dX0_putRowOf_9 : decode cX0_putRowOf 9 = .ok (.getfield 15, 3) := by decide +kernel
theorem dX0_putRowOf_12 : decode cX0_putRowOf 12 = .ok (.iload_n 2, 1) := by decide +kernel
theorem dX0_putRowOf_13 : decode cX0_putRowOf 13 = .ok (.iaload, 1) := by decide +kernel
theorem dX0_putRowOf_14 : decode cX0_putRowOf 14 = .ok (.aload_n 1, 1) := by decide +kernel
theorem dX0_putRowOf_15 : decode cX0_putRowOf 15 = .ok (.getfield 18, 3) := by decide +kernel
theorem dX0_putRowOf_18 : decode cX0_putRowOf 18 = .ok (.iload_n 2, 1) := by decide +kernel
theorem dX0_putRowOf_19 : decode cX0_putRowOf 19 = .ok (.iaload, 1) := by decide +kernel
theorem dX0_putRowOf_20 : decode cX0_putRowOf 20 = .ok (.aload_n 1, 1) := by decide +kernel
theorem dX0_putRowOf_21 : decode cX0_putRowOf 21 = .ok (.getfield 21, 3) := by decide +kernel
theorem dX0_putRowOf_24 : decode cX0_putRowOf 24 = .ok (.iload_n 2, 1) := by decide +kernel
theorem dX0_putRowOf_25 : decode cX0_putRowOf 25 = .ok (.iaload, 1) := by decide +kernel
theorem dX0_putRowOf_26 : decode cX0_putRowOf 26 = .ok (.invokevirtual 28, 3) := by decide +kernel
theorem dX0_putRowOf_29 : decode cX0_putRowOf 29 = .ok (.return_, 1) := by decide +kernel
set_option maxRecDepth 20000 in
theorem ggX0_copy_X0_putRowOf : GoodIn wsX0_copy wsX0_putRowOf := goodIn_r _ [6, 7, 8, 9, 10, 11, 12, 13, 5, 14, 15, 16, 17, 18, 19] (by decide +kernel) (by decide +kernel)
set_option maxRecDepth 20000 in
theorem gX0_copy_X0_putRowOf : GoodIn wsX0_copy (wsV RX0 32 RX0 yX0_putRowOf wsX0_putRowOf) := goodIn_app (goodIn_of _ (by decide +kernel)) ggX0_copy_X0_putRowOf
theorem dX0_copy_0 : decode cX0_copy 0 = .ok (.aload_n 0, 1) := by decide +kernel
theorem dX0_copy_1 : decode cX0_copy 1 = .ok (.aload_n 1, 1) := by decide +kernel
theorem dX0_copy_2 : decode cX0_copy 2 = .ok (.getfield 24, 3) := by decide +kernel
theorem dX0_copy_5 : decode cX0_copy 5 = .ok (.putfield 24, 3) := by decide +kernel
theorem dX0_copy_8 : decode cX0_copy 8 = .ok (.iconst 0, 1) := by decide +kernel
theorem dX0_copy_9 : decode cX0_copy 9 = .ok (.istore_n 2, 1) := by decide +kernel
theorem dX0_copy_10 : decode cX0_copy 10 = .ok (.iload_n 2, 1) := by decide +kernel
theorem dX0_copy_11 : decode cX0_copy 11 = .ok (.aload_n 0, 1) := by decide +kernel
theorem dX0_copy_12 : decode cX0_copy 12 = .ok (.getfield 24, 3) := by decide +kernel
theorem dX0_copy_15 : decode cX0_copy 15 = .ok (.if_icmp .ge 16, 3) := by decide +kernel
theorem dX0_copy_18 : decode cX0_copy 18 = .ok (.aload_n 0, 1) := by decide +kernel
theorem dX0_copy_19 : decode cX0_copy 19 = .ok (.aload_n 1, 1) := by decide +kernel
theorem dX0_copy_20 : decode cX0_copy 20 = .ok (.iload_n 2, 1) := by decide +kernel
theorem dX0_copy_21 : decode cX0_copy 21 = .ok (.iload_n 2, 1) := by decide +kernel
theorem dX0_copy_22 : decode cX0_copy 22 = .ok (.invokevirtual 32, 3) := by decide +kernel
theorem dX0_copy_25 : decode cX0_copy 25 = .ok (.iinc 2 1, 3) := by decide +kernel
theorem dX0_copy_28 : decode cX0_copy 28 = .ok (.goto (-18), 3) := by decide +kernel
theorem dX0_copy_31 : decode cX0_copy 31 = .ok (.return_, 1) := by decide +kernel
theorem dX1_init_0 : decode cX1_init 0 = .ok (.aload_n 0, 1) := by decide +kernel
theorem dX1_init_1 : decode cX1_init 1 = .ok (.invokespecial 1, 3) := by decide +kernel
theorem dX1_init_4 : decode cX1_init 4 = .ok (.aload_n 0, 1) := by decide +kernel
theorem dX1_init_5 : decode cX1_init 5 = .ok (.iconst 0, 1) := by decide +kernel
theorem dX1_init_6 : decode cX1_init 6 = .ok (.putfield 7, 3) := by decide +kernel
theorem dX1_init_9 : decode cX1_init 9 = .ok (.aload_n 0, 1) := by decide +kernel
theorem dX1_init_10 : decode cX1_init 10 = .ok (.iconst 1, 1) := by decide +kernel
theorem dX1_init_11 : decode cX1_init 11 = .ok (.putfield 13, 3) := by decide +kernel
theorem dX1_init_14 : decode cX1_init 14 = .ok (.return_, 1) := by decide +kernel
set_option maxRecDepth 20000 in
theorem ggX1_become_J6_bitCount_0f7a4 : GoodIn wsX1_become wsJ6_bitCount_0f7a4 := goodIn_r _ [7, 8, 9, 10] (by decide +kernel) (by decide +kernel)
set_option maxRecDepth 20000 in
theorem gX1_become_J6_bitCount_0f7a4 : GoodIn wsX1_become (va_wsS RX1 25 yJ6_bitCount_0f7a4 wsJ6_bitCount_0f7a4) := goodIn_app (goodIn_of _ (by decide +kernel)) ggX1_become_J6_bitCount_0f7a4
set_option maxRecDepth 20000 in
theorem ggX1_become_X1_hold : GoodIn wsX1_become wsX1_hold := goodIn_r _ [15, 16, 17, 22, 23] (by decide +kernel) (by decide +kernel)
set_option maxRecDepth 20000 in
theorem gX1_become_X1_hold : GoodIn wsX1_become (wsV RX1 34 RX1 yX1_hold wsX1_hold) := goodIn_app (goodIn_of _ (by decide +kernel)) ggX1_become_X1_hold
theorem dX1_become_0 : decode cX1_become 0 = .ok (.aload_n 1, 1) := by decide +kernel
theorem dX1_become_1 : decode cX1_become 1 = .ok (.getfield 16, 3) := by decide +kernel
theorem dX1_become_4 : decode cX1_become 4 = .ok (.iload_n 2, 1) := by decide +kernel
theorem dX1_become_5 : decode cX1_become 5 = .ok (.iaload, 1) := by decide +kernel
theorem dX1_become_6 : decode cX1_become 6 = .ok (.aload_n 1, 1) := by decide +kernel
theorem dX1_become_7 : decode cX1_become 7 = .ok (.getfield 22, 3) := by decide +kernel
theorem dX1_become_10 : decode cX1_become 10 = .ok (.iand, 1) := by decide +kernel
theorem dX1_become_11 : decode cX1_become 11 = .ok (.invokestatic 25, 3) := by decide +kernel
theorem dX1_become_14 : decode cX1_become 14 = .ok (.istore 4, 2) := by decide +kernel
theorem dX1_become_16 : decode cX1_become 16 = .ok (.aload_n 1, 1) := by decide +kernel
theorem dX1_become_17 : decode cX1_become 17 = .ok (.getfield 16, 3) := by decide +kernel
theorem dX1_become_20 : decode cX1_become 20 = .ok (.iload_n 2, 1) := by decide +kernel
theorem dX1_become_21 : decode cX1_become 21 = .ok (.iaload, 1) := by decide +kernel
theorem dX1_become_22 : decode cX1_become 22 = .ok (.aload_n 1, 1) := by decide +kernel
theorem dX1_become_23 : decode cX1_become 23 = .ok (.getfield 31, 3) := by decide +kernel
theorem dX1_become_26 : decode cX1_become 26 = .ok (.iand, 1) := by decide +kernel
theorem dX1_become_27 : decode cX1_become 27 = .ok (.invokestatic 25, 3) := by decide +kernel
theorem dX1_become_30 : decode cX1_become 30 = .ok (.istore 5, 2) := by decide +kernel
theorem dX1_become_32 : decode cX1_become 32 = .ok (.aload_n 1, 1) := by decide +kernel
theorem dX1_become_33 : decode cX1_become 33 = .ok (.getfield 22, 3) := by decide +kernel
theorem dX1_become_36 : decode cX1_become 36 = .ok (.invokestatic 25, 3) := by decide +kernel
theorem dX1_become_39 : decode cX1_become 39 = .ok (.istore 6, 2) := by decide +kernel
theorem dX1_become_41 : decode cX1_become 41 = .ok (.aload_n 1, 1) := by decide +kernel
theorem dX1_become_42 : decode cX1_become 42 = .ok (.getfield 31, 3) := by decide +kernel
theorem dX1_become_45 : decode cX1_become 45 = .ok (.invokestatic 25, 3) := by decide +kernel
theorem dX1_become_48 : decode cX1_become 48 = .ok (.istore 7, 2) := by decide +kernel
theorem dX1_become_50 : decode cX1_become 50 = .ok (.iload_n 3, 1) := by decide +kernel
theorem dX1_become_51 : decode cX1_become 51 = .ok (.ifCond .ne 17, 3) := by decide +kernel
theorem dX1_become_54 : decode cX1_become 54 = .ok (.aload_n 0, 1) := by decide +kernel
theorem dX1_become_55 : decode cX1_become 55 = .ok (.iload 4, 2) := by decide +kernel
theorem dX1_become_57 : decode cX1_become 57 = .ok (.iload 6, 2) := by decide +kernel
theorem dX1_become_59 : decode cX1_become 59 = .ok (.iload 5, 2) := by decide +kernel
theorem dX1_become_61 : decode cX1_become 61 = .ok (.iadd, 1) := by decide +kernel
theorem dX1_become_62 : decode cX1_become 62 = .ok (.invokevirtual 34, 3) := by decide +kernel
theorem dX1_become_65 : decode cX1_become 65 = .ok (.goto 64, 3) := by decide +kernel
theorem dX1_become_68 : decode cX1_become 68 = .ok (.iload_n 3, 1) := by decide +kernel
theorem dX1_become_69 : decode cX1_become 69 = .ok (.iconst 1, 1) := by decide +kernel
theorem dX1_become_70 : decode cX1_become 70 = .ok (.if_icmp .ne 23, 3) := by decide +kernel
theorem dX1_become_73 : decode cX1_become 73 = .ok (.aload_n 0, 1) := by decide +kernel
theorem dX1_become_74 : decode cX1_become 74 = .ok (.iload 4, 2) := by decide +kernel
theorem dX1_become_76 : decode cX1_become 76 = .ok (.iload 4, 2) := by decide +kernel
theorem dX1_become_78 : decode cX1_become 78 = .ok (.imul, 1) := by decide +kernel
theorem dX1_become_79 : decode cX1_become 79 = .ok (.iload 6, 2) := by decide +kernel
theorem dX1_become_81 : decode cX1_become 81 = .ok (.iload 4, 2) := by decide +kernel
theorem dX1_become_83 : decode cX1_become 83 = .ok (.iload 5, 2) := by decide +kernel
theorem dX1_become_85 : decode cX1_become 85 = .ok (.iadd, 1) := by decide +kernel
theorem dX1_become_86 : decode cX1_become 86 = .ok (.imul, 1) := by decide +kernel
theorem dX1_become_87 : decode cX1_become 87 = .ok (.invokevirtual 34, 3) := by decide +kernel
theorem dX1_become_90 : decode cX1_become 90 = .ok (.goto 39, 3) := by decide +kernel
theorem dX1_become_93 : decode cX1_become 93 = .ok (.iload 7, 2) := by decide +kernel
theorem dX1_become_95 : decode cX1_become 95 = .ok (.ifCond .ne 14, 3) := by decide +kernel
theorem dX1_become_98 : decode cX1_become 98 = .ok (.aload_n 0, 1) := by decide +kernel
theorem dX1_become_99 : decode cX1_become 99 = .ok (.iload 4, 2) := by decide +kernel
theorem dX1_become_101 : decode cX1_become 101 = .ok (.iload 6, 2) := by decide +kernel
theorem dX1_become_103 : decode cX1_become 103 = .ok (.invokevirtual 34, 3) := by decide +kernel
theorem dX1_become_106 : decode cX1_become 106 = .ok (.goto 23, 3) := by decide +kernel
theorem dX1_become_109 : decode cX1_become 109 = .ok (.aload_n 0, 1) := by decide +kernel
theorem dX1_become_110 : decode cX1_become 110 = .ok (.iload 4, 2) := by decide +kernel
theorem dX1_become_112 : decode cX1_become 112 = .ok (.iload 7, 2) := by decide +kernel
theorem dX1_become_114 : decode cX1_become 114 = .ok (.imul, 1) := by decide +kernel
theorem dX1_become_115 : decode cX1_become 115 = .ok (.iload 4, 2) := by decide +kernel
theorem dX1_become_117 : decode cX1_become 117 = .ok (.iload 7, 2) := by decide +kernel
theorem dX1_become_119 : decode cX1_become 119 = .ok (.imul, 1) := by decide +kernel
theorem dX1_become_120 : decode cX1_become 120 = .ok (.iload 5, 2) := by decide +kernel
theorem dX1_become_122 : decode cX1_become 122 = .ok (.iload 6, 2) := by decide +kernel
theorem dX1_become_124 : decode cX1_become 124 = .ok (.imul, 1) := by decide +kernel
theorem dX1_become_125 : decode cX1_become 125 = .ok (.iadd, 1) := by decide +kernel
theorem dX1_become_126 : decode cX1_become 126 = .ok (.invokevirtual 34, 3) := by decide +kernel
theorem dX1_become_129 : decode cX1_become 129 = .ok (.return_, 1) := by decide +kernel
theorem dX1_hold_0 : decode cX1_hold 0 = .ok (.aload_n 0, 1) := by decide +kernel
theorem dX1_hold_1 : decode cX1_hold 1 = .ok (.iload_n 2, 1) := by decide +kernel
theorem dX1_hold_2 : decode cX1_hold 2 = .ok (.ifCond .ne 7, 3) := by decide +kernel
theorem dX1_hold_5 : decode cX1_hold 5 = .ok (.iconst 0, 1) := by decide +kernel
theorem dX1_hold_6 : decode cX1_hold 6 = .ok (.goto 4, 3) := by decide +kernel
theorem dX1_hold_9 : decode cX1_hold 9 = .ok (.iload_n 1, 1) := by decide +kernel
theorem dX1_hold_10 : decode cX1_hold 10 = .ok (.putfield 7, 3) := by decide +kernel
theorem dX1_hold_13 : decode cX1_hold 13 = .ok (.aload_n 0, 1) := by decide +kernel
theorem dX1_hold_14 : decode cX1_hold 14 = .ok (.iload_n 2, 1) := by decide +kernel
theorem dX1_hold_15 : decode cX1_hold 15 = .ok (.ifCond .ne 7, 3) := by decide +kernel
theorem dX1_hold_18 : decode cX1_hold 18 = .ok (.iconst 1, 1) := by decide +kernel
theorem dX1_hold_19 : decode cX1_hold 19 = .ok (.goto 4, 3) := by decide +kernel
theorem dX1_hold_22 : decode cX1_hold 22 = .ok (.iload_n 2, 1) := by decide +kernel
theorem dX1_hold_23 : decode cX1_hold 23 = .ok (.putfield 13, 3) := by decide +kernel
theorem dX1_hold_26 : decode cX1_hold 26 = .ok (.return_, 1) := by decide +kernel
theorem dX1_reduce_0 : decode cX1_reduce 0 = .ok (.aload_n 0, 1) := by decide +kernel
theorem dX1_reduce_1 : decode cX1_reduce 1 = .ok (.getfield 13, 3) := by decide +kernel
theorem dX1_reduce_4 : decode cX1_reduce 4 = .ok (.istore_n 1, 1) := by decide +kernel
theorem dX1_reduce_5 : decode cX1_reduce 5 = .ok (.aload_n 0, 1) := by decide +kernel
theorem dX1_reduce_6 : decode cX1_reduce 6 = .ok (.getfield 7, 3) := by decide +kernel
theorem dX1_reduce_9 : decode cX1_reduce 9 = .ok (.istore_n 2, 1) := by decide +kernel
theorem dX1_reduce_10 : decode cX1_reduce 10 = .ok (.iconst 0, 1) := by decide +kernel
theorem dX1_reduce_11 : decode cX1_reduce 11 = .ok (.istore_n 3, 1) := by decide +kernel
theorem dX1_reduce_12 : decode cX1_reduce 12 = .ok (.iload_n 3, 1) := by decide +kernel
theorem dX1_reduce_13 : decode cX1_reduce 13 = .ok (.bipush 64, 2) := by decide +kernel
theorem dX1_reduce_15 : decode cX1_reduce 15 = .ok (.if_icmp .ge 23, 3) := by decide +kernel
theorem dX1_reduce_18 : decode cX1_reduce 18 = .ok (.iload_n 2, 1) := by decide +kernel
theorem dX1_reduce_19 : decode cX1_reduce 19 = .ok (.ifCond .eq 19, 3) := by decide +kernel
theorem dX1_reduce_22 : decode cX1_reduce 22 = .ok (.iload_n 1, 1) := by decide +kernel
theorem dX1_reduce_23 : decode cX1_reduce 23 = .ok (.iload_n 2, 1) := by decide +kernel
theorem dX1_reduce_24 : decode cX1_reduce 24 = .ok (.irem, 1) := by decide +kernel
theorem dX1_reduce_25 : decode cX1_reduce 25 = .ok (.istore 4, 2) := by decide +kernel
theorem dX1_reduce_27 : decode cX1_reduce 27 = .ok (.iload_n 2, 1) := by decide +kernel
theorem dX1_reduce_28 : decode cX1_reduce 28 = .ok (.istore_n 1, 1) := by decide +kernel
theorem dX1_reduce_29 : decode cX1_reduce 29 = .ok (.iload 4, 2) := by decide +kernel
theorem dX1_reduce_31 : decode cX1_reduce 31 = .ok (.istore_n 2, 1) := by decide +kernel
theorem dX1_reduce_32 : decode cX1_reduce 32 = .ok (.iinc 3 1, 3) := by decide +kernel
theorem dX1_reduce_35 : decode cX1_reduce 35 = .ok (.goto (-23), 3) := by decide +kernel
theorem dX1_reduce_38 : decode cX1_reduce 38 = .ok (.iload_n 1, 1) := by decide +kernel
theorem dX1_reduce_39 : decode cX1_reduce 39 = .ok (.iconst 1, 1) := by decide +kernel
theorem dX1_reduce_40 : decode cX1_reduce 40 = .ok (.if_icmp .le 23, 3) := by decide +kernel
theorem dX1_reduce_43 : decode cX1_reduce 43 = .ok (.aload_n 0, 1) := by decide +kernel
theorem dX1_reduce_44 : decode cX1_reduce 44 = .ok (.dup, 1) := by decide +kernel
theorem dX1_reduce_45 : decode cX1_reduce 45 = .ok (.getfield 7, 3) := by decide +kernel
theorem dX1_reduce_48 : decode cX1_reduce 48 = .ok (.iload_n 1, 1) := by decide +kernel
theorem dX1_reduce_49 : decode cX1_reduce 49 = .ok (.idiv, 1) := by decide +kernel
theorem dX1_reduce_50 : decode cX1_reduce 50 = .ok (.putfield 7, 3) := by decide +kernel
theorem dX1_reduce_53 : decode cX1_reduce 53 = .ok (.aload_n 0, 1) := by decide +kernel
theorem dX1_reduce_54 : decode cX1_reduce 54 = .ok (.dup, 1) := by decide +kernel
theorem dX1_reduce_55 : decode cX1_reduce 55 = .ok (.getfield 13, 3) := by decide +kernel
theorem dX1_reduce_58 : decode cX1_reduce 58 = .ok (.iload_n 1, 1) := by decide +kernel
theorem dX1_reduce_59 : decode cX1_reduce 59 = .ok (.idiv, 1) := by decide +kernel
theorem dX1_reduce_60 : decode cX1_reduce 60 = .ok (.putfield 13, 3) := by decide +kernel
theorem dX1_reduce_63 : decode cX1_reduce 63 = .ok (.return_, 1) := by decide +kernel
set_option maxRecDepth 20000 in
theorem ggX1_compareWith_J6_compare_7cf53 : GoodIn wsX1_compareWith wsJ6_compare_7cf53 := goodIn_r _ [6] (by decide +kernel) (by decide +kernel)
set_option maxRecDepth 20000 in
theorem gX1_compareWith_J6_compare_7cf53 : GoodIn wsX1_compareWith (va_wsS RX1 38 yJ6_compare_7cf53 wsJ6_compare_7cf53) := goodIn_app (goodIn_of _ (by decide +kernel)) ggX1_compareWith_J6_compare_7cf53
theorem dX1_compareWith_0 : decode cX1_compareWith 0 = .ok (.aload_n 0, 1) := by decide +kernel
theorem dX1_compareWith_1 : decode cX1_compareWith 1 = .ok (.getfield 7, 3) := by decide +kernel
theorem dX1_compareWith_4 : decode cX1_compareWith 4 = .ok (.aload_n 1, 1) := by decide +kernel
theorem dX1_compareWith_5 : decode cX1_compareWith 5 = .ok (.getfield 13, 3) := by decide +kernel
theorem dX1_compareWith_8 : decode cX1_compareWith 8 = .ok (.imul, 1) := by decide +kernel
theorem dX1_compareWith_9 : decode cX1_compareWith 9 = .ok (.aload_n 1, 1) := by decide +kernel
theorem dX1_compareWith_10 : decode cX1_compareWith 10 = .ok (.getfield 7, 3) := by decide +kernel
theorem dX1_compareWith_13 : decode cX1_compareWith 13 = .ok (.aload_n 0, 1) := by decide +kernel
theorem dX1_compareWith_14 : decode cX1_compareWith 14 = .ok (.getfield 13, 3) := by decide +kernel
theorem dX1_compareWith_17 : decode cX1_compareWith 17 = .ok (.imul, 1) := by decide +kernel
theorem dX1_compareWith_18 : decode cX1_compareWith 18 = .ok (.invokestatic 38, 3) := by decide +kernel
theorem dX1_compareWith_21 : decode cX1_compareWith 21 = .ok (.ireturn, 1) := by decide +kernel
theorem dX2_init_0 : decode cX2_init 0 = .ok (.aload_n 0, 1) := by decide +kernel
theorem dX2_init_1 : decode cX2_init 1 = .ok (.invokespecial 1, 3) := by decide +kernel
theorem dX2_init_4 : decode cX2_init 4 = .ok (.aload_n 0, 1) := by decide +kernel
theorem dX2_init_5 : decode cX2_init 5 = .ok (.iconst 0, 1) := by decide +kernel
theorem dX2_init_6 : decode cX2_init 6 = .ok (.putfield 7, 3) := by decide +kernel
theorem dX2_init_9 : decode cX2_init 9 = .ok (.aload_n 0, 1) := by decide +kernel
theorem dX2_init_10 : decode cX2_init 10 = .ok (.iconst 0, 1) := by decide +kernel
theorem dX2_init_11 : decode cX2_init 11 = .ok (.putfield 13, 3) := by decide +kernel
theorem dX2_init_14 : decode cX2_init 14 = .ok (.aload_n 0, 1) := by decide +kernel
theorem dX2_init_15 : decode cX2_init 15 = .ok (.iconst 0, 1) := by decide +kernel
theorem dX2_init_16 : decode cX2_init 16 = .ok (.putfield 16, 3) := by decide +kernel
theorem dX2_init_19 : decode cX2_init 19 = .ok (.return_, 1) := by decide +kernel
theorem dX2_begin_0 : decode cX2_begin 0 = .ok (.aload_n 0, 1) := by decide +kernel
theorem dX2_begin_1 : decode cX2_begin 1 = .ok (.iconst 0, 1) := by decide +kernel
theorem dX2_begin_2 : decode cX2_begin 2 = .ok (.putfield 7, 3) := by decide +kernel
theorem dX2_begin_5 : decode cX2_begin 5 = .ok (.aload_n 0, 1) := by decide +kernel
theorem dX2_begin_6 : decode cX2_begin 6 = .ok (.iload_n 1, 1) := by decide +kernel
theorem dX2_begin_7 : decode cX2_begin 7 = .ok (.putfield 13, 3) := by decide +kernel
theorem dX2_begin_10 : decode cX2_begin 10 = .ok (.aload_n 0, 1) := by decide +kernel
theorem dX2_begin_11 : decode cX2_begin 11 = .ok (.iconst 0, 1) := by decide +kernel
theorem dX2_begin_12 : decode cX2_begin 12 = .ok (.putfield 16, 3) := by decide +kernel
theorem dX2_begin_15 : decode cX2_begin 15 = .ok (.return_, 1) := by decide +kernel
theorem dX2_areApart_0 : decode cX2_areApart 0 = .ok (.aload_n 0, 1) := by decide +kernel
theorem dX2_areApart_1 : decode cX2_areApart 1 = .ok (.getfield 13, 3) := by decide +kernel
theorem dX2_areApart_4 : decode cX2_areApart 4 = .ok (.aload_n 0, 1) := by decide +kernel
theorem dX2_areApart_5 : decode cX2_areApart 5 = .ok (.getfield 7, 3) := by decide +kernel
theorem dX2_areApart_8 : decode cX2_areApart 8 = .ok (.iconst 1, 1) := by decide +kernel
theorem dX2_areApart_9 : decode cX2_areApart 9 = .ok (.iadd, 1) := by decide +kernel
theorem dX2_areApart_10 : decode cX2_areApart 10 = .ok (.if_icmp .le 7, 3) := by decide +kernel
theorem dX2_areApart_13 : decode cX2_areApart 13 = .ok (.iconst 1, 1) := by decide +kernel
theorem dX2_areApart_14 : decode cX2_areApart 14 = .ok (.goto 4, 3) := by decide +kernel
theorem dX2_areApart_17 : decode cX2_areApart 17 = .ok (.iconst 0, 1) := by decide +kernel
theorem dX2_areApart_18 : decode cX2_areApart 18 = .ok (.ireturn, 1) := by decide +kernel
theorem dX2_middle_0 : decode cX2_middle 0 = .ok (.aload_n 0, 1) := by decide +kernel
theorem dX2_middle_1 : decode cX2_middle 1 = .ok (.getfield 7, 3) := by decide +kernel
theorem dX2_middle_4 : decode cX2_middle 4 = .ok (.aload_n 0, 1) := by decide +kernel
theorem dX2_middle_5 : decode cX2_middle 5 = .ok (.getfield 13, 3) := by decide +kernel
theorem dX2_middle_8 : decode cX2_middle 8 = .ok (.iadd, 1) := by decide +kernel
theorem dX2_middle_9 : decode cX2_middle 9 = .ok (.iconst 2, 1) := by decide +kernel
theorem dX2_middle_10 : decode cX2_middle 10 = .ok (.idiv, 1) := by decide +kernel
theorem dX2_middle_11 : decode cX2_middle 11 = .ok (.ireturn, 1) := by decide +kernel
set_option maxRecDepth 20000 in
theorem ggX2_look_X2_middle : GoodIn wsX2_look wsX2_middle := goodIn_r _ [8, 1, 2, 9, 10, 11] (by decide +kernel) (by decide +kernel)
set_option maxRecDepth 20000 in
theorem gX2_look_X2_middle : GoodIn wsX2_look (wsV RX2 19 RX2 yX2_middle wsX2_middle) := goodIn_app (goodIn_of _ (by decide +kernel)) ggX2_look_X2_middle
theorem dX2_look_0 : decode cX2_look 0 = .ok (.iload_n 1, 1) := by decide +kernel
theorem dX2_look_1 : decode cX2_look 1 = .ok (.ifCond .eq 14, 3) := by decide +kernel
theorem dX2_look_4 : decode cX2_look 4 = .ok (.aload_n 0, 1) := by decide +kernel
theorem dX2_look_5 : decode cX2_look 5 = .ok (.aload_n 0, 1) := by decide +kernel
theorem dX2_look_6 : decode cX2_look 6 = .ok (.invokevirtual 19, 3) := by decide +kernel
theorem dX2_look_9 : decode cX2_look 9 = .ok (.putfield 7, 3) := by decide +kernel
theorem dX2_look_12 : decode cX2_look 12 = .ok (.goto 11, 3) := by decide +kernel
theorem dX2_look_15 : decode cX2_look 15 = .ok (.aload_n 0, 1) := by decide +kernel
theorem dX2_look_16 : decode cX2_look 16 = .ok (.aload_n 0, 1) := by decide +kernel
theorem dX2_look_17 : decode cX2_look 17 = .ok (.invokevirtual 19, 3) := by decide +kernel
theorem dX2_look_20 : decode cX2_look 20 = .ok (.putfield 13, 3) := by decide +kernel
theorem dX2_look_23 : decode cX2_look 23 = .ok (.aload_n 0, 1) := by decide +kernel
theorem dX2_look_24 : decode cX2_look 24 = .ok (.dup, 1) := by decide +kernel
theorem dX2_look_25 : decode cX2_look 25 = .ok (.getfield 16, 3) := by decide +kernel
theorem dX2_look_28 : decode cX2_look 28 = .ok (.iconst 1, 1) := by decide +kernel
theorem dX2_look_29 : decode cX2_look 29 = .ok (.iadd, 1) := by decide +kernel
theorem dX2_look_30 : decode cX2_look 30 = .ok (.putfield 16, 3) := by decide +kernel
theorem dX2_look_33 : decode cX2_look 33 = .ok (.return_, 1) := by decide +kernel
set_option maxRecDepth 20000 in
theorem ggX3_init_X0_init : GoodIn wsX3_init wsX0_init := goodIn_r _ [14, 15, 2, 3, 11, 16, 17, 18, 19, 20, 21, 22, 23, 24, 25] (by decide +kernel) (by decide +kernel)
set_option maxRecDepth 20000 in
theorem gX3_init_X0_init_n11 : GoodIn wsX3_init (wsX0_init) := ggX3_init_X0_init
theorem dX3_init_0 : decode cX3_init 0 = .ok (.aload_n 0, 1) := by decide +kernel
theorem dX3_init_1 : decode cX3_init 1 = .ok (.invokespecial 3, 3) := by decide +kernel
theorem dX3_init_4 : decode cX3_init 4 = .ok (.aload_n 0, 1) := by decide +kernel
theorem dX3_init_5 : decode cX3_init 5 = .ok (.new 9, 3) := by decide +kernel
theorem dX3_init_8 : decode cX3_init 8 = .ok (.dup, 1) := by decide +kernel
theorem dX3_init_9 : decode cX3_init 9 = .ok (.invokespecial 11, 3) := by decide +kernel
theorem dX3_init_12 : decode cX3_init 12 = .ok (.putfield 12, 3) := by decide +kernel
theorem dX3_init_15 : decode cX3_init 15 = .ok (.aload_n 0, 1) := by decide +kernel
theorem dX3_init_16 : decode cX3_init 16 = .ok (.new 9, 3) := by decide +kernel
theorem dX3_init_19 : decode cX3_init 19 = .ok (.dup, 1) := by decide +kernel
theorem dX3_init_20 : decode cX3_init 20 = .ok (.invokespecial 11, 3) := by decide +kernel
theorem dX3_init_23 : decode cX3_init 23 = .ok (.putfield 18, 3) := by decide +kernel
theorem dX3_init_26 : decode cX3_init 26 = .ok (.aload_n 0, 1) := by decide +kernel
theorem dX3_init_27 : decode cX3_init 27 = .ok (.new 9, 3) := by decide +kernel
theorem dX3_init_30 : decode cX3_init 30 = .ok (.dup, 1) := by decide +kernel
theorem dX3_init_31 : decode cX3_init 31 = .ok (.invokespecial 11, 3) := by decide +kernel
theorem dX3_init_34 : decode cX3_init 34 = .ok (.putfield 21, 3) := by decide +kernel
theorem dX3_init_37 : decode cX3_init 37 = .ok (.aload_n 0, 1) := by decide +kernel
theorem dX3_init_38 : decode cX3_init 38 = .ok (.new 9, 3) := by decide +kernel
theorem dX3_init_41 : decode cX3_init 41 = .ok (.dup, 1) := by decide +kernel
theorem dX3_init_42 : decode cX3_init 42 = .ok (.invokespecial 11, 3) := by decide +kernel
theorem dX3_init_45 : decode cX3_init 45 = .ok (.putfield 24, 3) := by decide +kernel
theorem dX3_init_48 : decode cX3_init 48 = .ok (.aload_n 0, 1) := by decide +kernel
theorem dX3_init_49 : decode cX3_init 49 = .ok (.bipush 20, 2) := by decide +kernel
theorem dX3_init_51 : decode cX3_init 51 = .ok (.newarray .int, 2) := by decide +kernel
theorem dX3_init_53 : decode cX3_init 53 = .ok (.putfield 27, 3) := by decide +kernel
theorem dX3_init_56 : decode cX3_init 56 = .ok (.return_, 1) := by decide +kernel
theorem dX3_hasLine_0 : decode cX3_hasLine 0 = .ok (.iload_n 1, 1) := by decide +kernel
theorem dX3_hasLine_1 : decode cX3_hasLine 1 = .ok (.ifCond .lt 18, 3) := by decide +kernel
theorem dX3_hasLine_4 : decode cX3_hasLine 4 = .ok (.iload_n 1, 1) := by decide +kernel
theorem dX3_hasLine_5 : decode cX3_hasLine 5 = .ok (.aload_n 0, 1) := by decide +kernel
theorem dX3_hasLine_6 : decode cX3_hasLine 6 = .ok (.getfield 18, 3) := by decide +kernel
theorem dX3_hasLine_9 : decode cX3_hasLine 9 = .ok (.getfield 31, 3) := by decide +kernel
theorem dX3_hasLine_12 : decode cX3_hasLine 12 = .ok (.if_icmp .ge 7, 3) := by decide +kernel
theorem dX3_hasLine_15 : decode cX3_hasLine 15 = .ok (.iconst 1, 1) := by decide +kernel
theorem dX3_hasLine_16 : decode cX3_hasLine 16 = .ok (.goto 4, 3) := by decide +kernel
theorem dX3_hasLine_19 : decode cX3_hasLine 19 = .ok (.iconst 0, 1) := by decide +kernel
theorem dX3_hasLine_20 : decode cX3_hasLine 20 = .ok (.ireturn, 1) := by decide +kernel
set_option maxRecDepth 20000 in
theorem ggX3_tell_X0_add : GoodIn wsX3_tell wsX0_add := goodIn_r _ [7, 8, 9, 10, 11, 6, 12, 13, 14, 15, 16, 22, 23, 24, 25, 26] (by decide +kernel) (by decide +kernel)
set_option maxRecDepth 20000 in
theorem gX3_tell_X0_add : GoodIn wsX3_tell (wsV RX3 35 RX0 yX0_add wsX0_add) := goodIn_app (goodIn_of _ (by decide +kernel)) ggX3_tell_X0_add
theorem dX3_tell_0 : decode cX3_tell 0 = .ok (.aload_n 0, 1) := by decide +kernel
theorem dX3_tell_1 : decode cX3_tell 1 = .ok (.getfield 12, 3) := by decide +kernel
theorem dX3_tell_4 : decode cX3_tell 4 = .ok (.iload_n 1, 1) := by decide +kernel
theorem dX3_tell_5 : decode cX3_tell 5 = .ok (.iload_n 2, 1) := by decide +kernel
theorem dX3_tell_6 : decode cX3_tell 6 = .ok (.iload_n 3, 1) := by decide +kernel
theorem dX3_tell_7 : decode cX3_tell 7 = .ok (.iload 4, 2) := by decide +kernel
theorem dX3_tell_9 : decode cX3_tell 9 = .ok (.invokevirtual 35, 3) := by decide +kernel
theorem dX3_tell_12 : decode cX3_tell 12 = .ok (.aload_n 0, 1) := by decide +kernel
theorem dX3_tell_13 : decode cX3_tell 13 = .ok (.getfield 18, 3) := by decide +kernel
theorem dX3_tell_16 : decode cX3_tell 16 = .ok (.iload_n 1, 1) := by decide +kernel
theorem dX3_tell_17 : decode cX3_tell 17 = .ok (.iload_n 2, 1) := by decide +kernel
theorem dX3_tell_18 : decode cX3_tell 18 = .ok (.iload_n 3, 1) := by decide +kernel
theorem dX3_tell_19 : decode cX3_tell 19 = .ok (.iload 4, 2) := by decide +kernel
theorem dX3_tell_21 : decode cX3_tell 21 = .ok (.invokevirtual 35, 3) := by decide +kernel
theorem dX3_tell_24 : decode cX3_tell 24 = .ok (.return_, 1) := by decide +kernel
set_option maxRecDepth 20000 in
theorem ggX3_alter_X0_add : GoodIn wsX3_alter wsX0_add := goodIn_r _ [9, 10, 11, 12, 13, 8, 14, 15, 16, 17, 18, 25, 26, 27, 28, 29] (by decide +kernel) (by decide +kernel)
set_option maxRecDepth 20000 in
theorem gX3_alter_X0_add : GoodIn wsX3_alter (wsV RX3 35 RX0 yX0_add wsX0_add) := goodIn_app (goodIn_of _ (by decide +kernel)) ggX3_alter_X0_add
set_option maxRecDepth 20000 in
theorem ggX3_alter_X0_put : GoodIn wsX3_alter wsX0_put := goodIn_r _ [14, 15, 16, 17, 18, 25, 26, 27, 28, 29] (by decide +kernel) (by decide +kernel)
set_option maxRecDepth 20000 in
theorem gX3_alter_X0_put : GoodIn wsX3_alter (wsV RX3 39 RX0 yX0_put wsX0_put) := goodIn_app (goodIn_of _ (by decide +kernel)) ggX3_alter_X0_put
theorem dX3_alter_0 : decode cX3_alter 0 = .ok (.aload_n 0, 1) := by decide +kernel
theorem dX3_alter_1 : decode cX3_alter 1 = .ok (.getfield 27, 3) := by decide +kernel
theorem dX3_alter_4 : decode cX3_alter 4 = .ok (.aload_n 0, 1) := by decide +kernel
theorem dX3_alter_5 : decode cX3_alter 5 = .ok (.getfield 24, 3) := by decide +kernel
theorem dX3_alter_8 : decode cX3_alter 8 = .ok (.getfield 31, 3) := by decide +kernel
theorem dX3_alter_11 : decode cX3_alter 11 = .ok (.iload_n 1, 1) := by decide +kernel
theorem dX3_alter_12 : decode cX3_alter 12 = .ok (.iastore, 1) := by decide +kernel
theorem dX3_alter_13 : decode cX3_alter 13 = .ok (.aload_n 0, 1) := by decide +kernel
theorem dX3_alter_14 : decode cX3_alter 14 = .ok (.getfield 24, 3) := by decide +kernel
theorem dX3_alter_17 : decode cX3_alter 17 = .ok (.iload_n 2, 1) := by decide +kernel
theorem dX3_alter_18 : decode cX3_alter 18 = .ok (.iload_n 3, 1) := by decide +kernel
theorem dX3_alter_19 : decode cX3_alter 19 = .ok (.iload 4, 2) := by decide +kernel
theorem dX3_alter_21 : decode cX3_alter 21 = .ok (.iload 5, 2) := by decide +kernel
theorem dX3_alter_23 : decode cX3_alter 23 = .ok (.invokevirtual 35, 3) := by decide +kernel
theorem dX3_alter_26 : decode cX3_alter 26 = .ok (.aload_n 0, 1) := by decide +kernel
theorem dX3_alter_27 : decode cX3_alter 27 = .ok (.getfield 18, 3) := by decide +kernel
theorem dX3_alter_30 : decode cX3_alter 30 = .ok (.iload_n 1, 1) := by decide +kernel
theorem dX3_alter_31 : decode cX3_alter 31 = .ok (.iload_n 2, 1) := by decide +kernel
theorem dX3_alter_32 : decode cX3_alter 32 = .ok (.iload_n 3, 1) := by decide +kernel
theorem dX3_alter_33 : decode cX3_alter 33 = .ok (.iload 4, 2) := by decide +kernel
theorem dX3_alter_35 : decode cX3_alter 35 = .ok (.iload 5, 2) := by decide +kernel
theorem dX3_alter_37 : decode cX3_alter 37 = .ok (.invokevirtual 39, 3) := by decide +kernel
theorem dX3_alter_40 : decode cX3_alter 40 = .ok (.return_, 1) := by decide +kernel
set_option maxRecDepth 20000 in
theorem ggX3_version_X0_copy : GoodIn wsX3_version wsX0_copy := goodIn_r _ [9, 10, 11, 12, 13, 8, 14, 15, 16, 17, 18, 19, 20, 21, 22, 29, 30, 31, 32, 33] (by decide +kernel) (by decide +kernel)
set_option maxRecDepth 20000 in
theorem gX3_version_X0_copy : GoodIn wsX3_version (wsV RX3 43 RX0 yX0_copy wsX0_copy) := goodIn_app (goodIn_of _ (by decide +kernel)) ggX3_version_X0_copy
set_option maxRecDepth 20000 in
theorem ggX3_version_X0_putRowOf : GoodIn wsX3_version wsX0_putRowOf := goodIn_r _ [14, 15, 16, 17, 18, 19, 20, 21, 8, 22, 29, 30, 31, 32, 33] (by decide +kernel) (by decide +kernel)
set_option maxRecDepth 20000 in
theorem gX3_version_X0_putRowOf : GoodIn wsX3_version (wsV RX3 47 RX0 yX0_putRowOf wsX0_putRowOf) := goodIn_app (goodIn_of _ (by decide +kernel)) ggX3_version_X0_putRowOf
theorem dX3_version_0 : decode cX3_version 0 = .ok (.aload_n 0, 1) := by decide +kernel
theorem dX3_version_1 : decode cX3_version 1 = .ok (.getfield 21, 3) := by decide +kernel
theorem dX3_version_4 : decode cX3_version 4 = .ok (.aload_n 0, 1) := by decide +kernel
theorem dX3_version_5 : decode cX3_version 5 = .ok (.getfield 12, 3) := by decide +kernel
theorem dX3_version_8 : decode cX3_version 8 = .ok (.invokevirtual 43, 3) := by decide +kernel
theorem dX3_version_11 : decode cX3_version 11 = .ok (.iconst 0, 1) := by decide +kernel
theorem dX3_version_12 : decode cX3_version 12 = .ok (.istore_n 2, 1) := by decide +kernel
theorem dX3_version_13 : decode cX3_version 13 = .ok (.iload_n 2, 1) := by decide +kernel
theorem dX3_version_14 : decode cX3_version 14 = .ok (.iload_n 1, 1) := by decide +kernel
theorem dX3_version_15 : decode cX3_version 15 = .ok (.if_icmp .ge 27, 3) := by decide +kernel
theorem dX3_version_18 : decode cX3_version 18 = .ok (.aload_n 0, 1) := by decide +kernel
theorem dX3_version_19 : decode cX3_version 19 = .ok (.getfield 21, 3) := by decide +kernel
theorem dX3_version_22 : decode cX3_version 22 = .ok (.aload_n 0, 1) := by decide +kernel
theorem dX3_version_23 : decode cX3_version 23 = .ok (.getfield 24, 3) := by decide +kernel
theorem dX3_version_26 : decode cX3_version 26 = .ok (.iload_n 2, 1) := by decide +kernel
theorem dX3_version_27 : decode cX3_version 27 = .ok (.aload_n 0, 1) := by decide +kernel
theorem dX3_version_28 : decode cX3_version 28 = .ok (.getfield 27, 3) := by decide +kernel
theorem dX3_version_31 : decode cX3_version 31 = .ok (.iload_n 2, 1) := by decide +kernel
theorem dX3_version_32 : decode cX3_version 32 = .ok (.iaload, 1) := by decide +kernel
theorem dX3_version_33 : decode cX3_version 33 = .ok (.invokevirtual 47, 3) := by decide +kernel
theorem dX3_version_36 : decode cX3_version 36 = .ok (.iinc 2 1, 3) := by decide +kernel
theorem dX3_version_39 : decode cX3_version 39 = .ok (.goto (-26), 3) := by decide +kernel
theorem dX3_version_42 : decode cX3_version 42 = .ok (.aload_n 0, 1) := by decide +kernel
theorem dX3_version_43 : decode cX3_version 43 = .ok (.getfield 21, 3) := by decide +kernel
theorem dX3_version_46 : decode cX3_version 46 = .ok (.areturn, 1) := by decide +kernel
theorem dX4_init_0 : decode cX4_init 0 = .ok (.aload_n 0, 1) := by decide +kernel
theorem dX4_init_1 : decode cX4_init 1 = .ok (.invokespecial 3, 3) := by decide +kernel
theorem dX4_init_4 : decode cX4_init 4 = .ok (.aload_n 0, 1) := by decide +kernel
theorem dX4_init_5 : decode cX4_init 5 = .ok (.sipush 300, 3) := by decide +kernel
theorem dX4_init_8 : decode cX4_init 8 = .ok (.newarray .int, 2) := by decide +kernel
theorem dX4_init_10 : decode cX4_init 10 = .ok (.putfield 9, 3) := by decide +kernel
theorem dX4_init_13 : decode cX4_init 13 = .ok (.aload_n 0, 1) := by decide +kernel
theorem dX4_init_14 : decode cX4_init 14 = .ok (.bipush 6, 2) := by decide +kernel
theorem dX4_init_16 : decode cX4_init 16 = .ok (.newarray .int, 2) := by decide +kernel
theorem dX4_init_18 : decode cX4_init 18 = .ok (.putfield 15, 3) := by decide +kernel
theorem dX4_init_21 : decode cX4_init 21 = .ok (.aload_n 0, 1) := by decide +kernel
theorem dX4_init_22 : decode cX4_init 22 = .ok (.bipush 8, 2) := by decide +kernel
theorem dX4_init_24 : decode cX4_init 24 = .ok (.newarray .int, 2) := by decide +kernel
theorem dX4_init_26 : decode cX4_init 26 = .ok (.putfield 18, 3) := by decide +kernel
theorem dX4_init_29 : decode cX4_init 29 = .ok (.aload_n 0, 1) := by decide +kernel
theorem dX4_init_30 : decode cX4_init 30 = .ok (.iconst 0, 1) := by decide +kernel
theorem dX4_init_31 : decode cX4_init 31 = .ok (.putfield 21, 3) := by decide +kernel
theorem dX4_init_34 : decode cX4_init 34 = .ok (.aload_n 0, 1) := by decide +kernel
theorem dX4_init_35 : decode cX4_init 35 = .ok (.iconst 0, 1) := by decide +kernel
theorem dX4_init_36 : decode cX4_init 36 = .ok (.putfield 25, 3) := by decide +kernel
theorem dX4_init_39 : decode cX4_init 39 = .ok (.aload_n 0, 1) := by decide +kernel
theorem dX4_init_40 : decode cX4_init 40 = .ok (.iconst 0, 1) := by decide +kernel
theorem dX4_init_41 : decode cX4_init 41 = .ok (.putfield 28, 3) := by decide +kernel
theorem dX4_init_44 : decode cX4_init 44 = .ok (.aload_n 0, 1) := by decide +kernel
theorem dX4_init_45 : decode cX4_init 45 = .ok (.iconst 0, 1) := by decide +kernel
theorem dX4_init_46 : decode cX4_init 46 = .ok (.putfield 31, 3) := by decide +kernel
theorem dX4_init_49 : decode cX4_init 49 = .ok (.aload_n 0, 1) := by decide +kernel
theorem dX4_init_50 : decode cX4_init 50 = .ok (.iconst (-1), 1) := by decide +kernel
theorem dX4_init_51 : decode cX4_init 51 = .ok (.putfield 35, 3) := by decide +kernel
theorem dX4_init_54 : decode cX4_init 54 = .ok (.aload_n 0, 1) := by decide +kernel
theorem dX4_init_55 : decode cX4_init 55 = .ok (.iconst (-1), 1) := by decide +kernel
theorem dX4_init_56 : decode cX4_init 56 = .ok (.putfield 38, 3) := by decide +kernel
theorem dX4_init_59 : decode cX4_init 59 = .ok (.aload_n 0, 1) := by decide +kernel
theorem dX4_init_60 : decode cX4_init 60 = .ok (.iconst 0, 1) := by decide +kernel
theorem dX4_init_61 : decode cX4_init 61 = .ok (.putfield 41, 3) := by decide +kernel
theorem dX4_init_64 : decode cX4_init 64 = .ok (.return_, 1) := by decide +kernel
set_option maxRecDepth 20000 in
theorem ggX4_plainly_X4_go : GoodIn wsX4_plainly wsX4_go := goodIn_r _ [7, 8, 9, 10, 11, 12, 13, 14, 15, 16, 6, 17, 18, 19, 20, 21, 22, 23, 24, 25, 26, 27, 2, 28, 29, 30, 31, 32, 1, 33, 34, 35, 36, 37, 38, 39, 40, 41, 42, 43, 44, 45, 46, 47, 48, 49, 50, 51, 52, 53, 54, 55, 56, 57, 58, 59, 60, 61, 62] (by decide +kernel) (by decide +kernel)
set_option maxRecDepth 20000 in
theorem gX4_plainly_X4_go : GoodIn wsX4_plainly (wsV RX4 44 RX4 yX4_go wsX4_go) := goodIn_app (goodIn_of _ (by decide +kernel)) ggX4_plainly_X4_go
theorem dX4_plainly_0 : decode cX4_plainly 0 = .ok (.aload_n 0, 1) := by decide +kernel
theorem dX4_plainly_1 : decode cX4_plainly 1 = .ok (.iconst (-1), 1) := by decide +kernel
theorem dX4_plainly_2 : decode cX4_plainly 2 = .ok (.putfield 35, 3) := by decide +kernel
theorem dX4_plainly_5 : decode cX4_plainly 5 = .ok (.aload_n 0, 1) := by decide +kernel
theorem dX4_plainly_6 : decode cX4_plainly 6 = .ok (.iconst (-1), 1) := by decide +kernel
theorem dX4_plainly_7 : decode cX4_plainly 7 = .ok (.putfield 38, 3) := by decide +kernel
theorem dX4_plainly_10 : decode cX4_plainly 10 = .ok (.aload_n 0, 1) := by decide +kernel
theorem dX4_plainly_11 : decode cX4_plainly 11 = .ok (.aload_n 1, 1) := by decide +kernel
theorem dX4_plainly_12 : decode cX4_plainly 12 = .ok (.aload_n 2, 1) := by decide +kernel
theorem dX4_plainly_13 : decode cX4_plainly 13 = .ok (.iload_n 3, 1) := by decide +kernel
theorem dX4_plainly_14 : decode cX4_plainly 14 = .ok (.invokevirtual 44, 3) := by decide +kernel
theorem dX4_plainly_17 : decode cX4_plainly 17 = .ok (.return_, 1) := by decide +kernel
set_option maxRecDepth 20000 in
theorem ggX4_turning_X4_go : GoodIn wsX4_turning wsX4_go := goodIn_r _ [7, 8, 9, 10, 11, 12, 13, 14, 15, 16, 6, 17, 18, 19, 20, 21, 22, 23, 24, 25, 26, 27, 2, 28, 29, 30, 31, 32, 1, 33, 34, 35, 36, 37, 38, 39, 40, 41, 42, 43, 44, 45, 46, 47, 48, 49, 50, 51, 52, 53, 54, 55, 56, 57, 58, 59, 60, 61, 62] (by decide +kernel) (by decide +kernel)
set_option maxRecDepth 20000 in
theorem gX4_turning_X4_go : GoodIn wsX4_turning (wsV RX4 44 RX4 yX4_go wsX4_go) := goodIn_app (goodIn_of _ (by decide +kernel)) ggX4_turning_X4_go
theorem dX4_turning_0 : decode cX4_turning 0 = .ok (.aload_n 0, 1) := by decide +kernel
theorem dX4_turning_1 : decode cX4_turning 1 = .ok (.iload 4, 2) := by decide +kernel
theorem dX4_turning_3 : decode cX4_turning 3 = .ok (.putfield 35, 3) := by decide +kernel
theorem dX4_turning_6 : decode cX4_turning 6 = .ok (.aload_n 0, 1) := by decide +kernel
theorem dX4_turning_7 : decode cX4_turning 7 = .ok (.iconst (-1), 1) := by decide +kernel
theorem dX4_turning_8 : decode cX4_turning 8 = .ok (.putfield 38, 3) := by decide +kernel
theorem dX4_turning_11 : decode cX4_turning 11 = .ok (.aload_n 0, 1) := by decide +kernel
theorem dX4_turning_12 : decode cX4_turning 12 = .ok (.aload_n 1, 1) := by decide +kernel
theorem dX4_turning_13 : decode cX4_turning 13 = .ok (.aload_n 2, 1) := by decide +kernel
theorem dX4_turning_14 : decode cX4_turning 14 = .ok (.iload_n 3, 1) := by decide +kernel
theorem dX4_turning_15 : decode cX4_turning 15 = .ok (.invokevirtual 44, 3) := by decide +kernel
theorem dX4_turning_18 : decode cX4_turning 18 = .ok (.return_, 1) := by decide +kernel
set_option maxRecDepth 20000 in
theorem ggX4_setting_X4_go : GoodIn wsX4_setting wsX4_go := goodIn_r _ [8, 9, 10, 11, 12, 13, 14, 15, 16, 17, 7, 18, 19, 20, 21, 22, 23, 24, 25, 26, 27, 28, 2, 3, 29, 30, 31, 32, 1, 33, 34, 35, 36, 37, 38, 39, 40, 41, 42, 43, 44, 45, 46, 47, 48, 49, 50, 51, 52, 53, 54, 55, 56, 57, 58, 59, 60, 61, 62] (by decide +kernel) (by decide +kernel)
set_option maxRecDepth 20000 in
theorem gX4_setting_X4_go : GoodIn wsX4_setting (wsV RX4 44 RX4 yX4_go wsX4_go) := goodIn_app (goodIn_of _ (by decide +kernel)) ggX4_setting_X4_go
theorem dX4_setting_0 : decode cX4_setting 0 = .ok (.aload_n 0, 1) := by decide +kernel
theorem dX4_setting_1 : decode cX4_setting 1 = .ok (.iconst (-1), 1) := by decide +kernel
theorem dX4_setting_2 : decode cX4_setting 2 = .ok (.putfield 35, 3) := by decide +kernel
theorem dX4_setting_5 : decode cX4_setting 5 = .ok (.aload_n 0, 1) := by decide +kernel
theorem dX4_setting_6 : decode cX4_setting 6 = .ok (.iload 4, 2) := by decide +kernel
theorem dX4_setting_8 : decode cX4_setting 8 = .ok (.putfield 38, 3) := by decide +kernel
theorem dX4_setting_11 : decode cX4_setting 11 = .ok (.aload_n 0, 1) := by decide +kernel
theorem dX4_setting_12 : decode cX4_setting 12 = .ok (.iload 5, 2) := by decide +kernel
theorem dX4_setting_14 : decode cX4_setting 14 = .ok (.putfield 41, 3) := by decide +kernel
theorem dX4_setting_17 : decode cX4_setting 17 = .ok (.aload_n 0, 1) := by decide +kernel
theorem dX4_setting_18 : decode cX4_setting 18 = .ok (.aload_n 1, 1) := by decide +kernel
theorem dX4_setting_19 : decode cX4_setting 19 = .ok (.aload_n 2, 1) := by decide +kernel
theorem dX4_setting_20 : decode cX4_setting 20 = .ok (.iload_n 3, 1) := by decide +kernel
theorem dX4_setting_21 : decode cX4_setting 21 = .ok (.invokevirtual 44, 3) := by decide +kernel
theorem dX4_setting_24 : decode cX4_setting 24 = .ok (.return_, 1) := by decide +kernel
set_option maxRecDepth 20000 in
theorem ggX4_go_X4_goesOn : GoodIn wsX4_go wsX4_goesOn := goodIn_r _ [11, 12, 2, 49, 50, 51, 52, 53, 39, 40, 41, 42, 43, 44, 45, 46, 47, 48] (by decide +kernel) (by decide +kernel)
set_option maxRecDepth 20000 in
theorem gX4_go_X4_goesOn : GoodIn wsX4_go (wsV RX4 48 RX4 yX4_goesOn wsX4_goesOn) := goodIn_app (goodIn_of _ (by decide +kernel)) ggX4_go_X4_goesOn
set_option maxRecDepth 20000 in
theorem ggX4_go_X4_act : GoodIn wsX4_go wsX4_act := goodIn_r _ [16, 17, 18, 4, 19, 20, 21, 2, 22, 23, 24, 25, 26, 10, 27, 3, 28, 29, 30, 31, 32, 33, 34, 35, 36, 37, 38, 49, 50, 51, 52, 53, 39, 40, 41, 42, 43, 44, 45, 46, 47, 48, 54, 55, 56, 57, 58] (by decide +kernel) (by decide +kernel)
set_option maxRecDepth 20000 in
theorem gX4_go_X4_act : GoodIn wsX4_go (wsV RX4 52 RX4 yX4_act wsX4_act) := goodIn_app (goodIn_of _ (by decide +kernel)) ggX4_go_X4_act
theorem dX4_go_0 : decode cX4_go 0 = .ok (.aload_n 0, 1) := by decide +kernel
theorem dX4_go_1 : decode cX4_go 1 = .ok (.iconst 0, 1) := by decide +kernel
theorem dX4_go_2 : decode cX4_go 2 = .ok (.putfield 21, 3) := by decide +kernel
theorem dX4_go_5 : decode cX4_go 5 = .ok (.aload_n 0, 1) := by decide +kernel
theorem dX4_go_6 : decode cX4_go 6 = .ok (.iconst 0, 1) := by decide +kernel
theorem dX4_go_7 : decode cX4_go 7 = .ok (.putfield 25, 3) := by decide +kernel
theorem dX4_go_10 : decode cX4_go 10 = .ok (.aload_n 0, 1) := by decide +kernel
theorem dX4_go_11 : decode cX4_go 11 = .ok (.iconst 0, 1) := by decide +kernel
theorem dX4_go_12 : decode cX4_go 12 = .ok (.putfield 28, 3) := by decide +kernel
theorem dX4_go_15 : decode cX4_go 15 = .ok (.iconst 0, 1) := by decide +kernel
theorem dX4_go_16 : decode cX4_go 16 = .ok (.istore 4, 2) := by decide +kernel
theorem dX4_go_18 : decode cX4_go 18 = .ok (.iload 4, 2) := by decide +kernel
theorem dX4_go_20 : decode cX4_go 20 = .ok (.bipush 8, 2) := by decide +kernel
theorem dX4_go_22 : decode cX4_go 22 = .ok (.if_icmp .ge 17, 3) := by decide +kernel
theorem dX4_go_25 : decode cX4_go 25 = .ok (.aload_n 0, 1) := by decide +kernel
theorem dX4_go_26 : decode cX4_go 26 = .ok (.getfield 18, 3) := by decide +kernel
theorem dX4_go_29 : decode cX4_go 29 = .ok (.iload 4, 2) := by decide +kernel
theorem dX4_go_31 : decode cX4_go 31 = .ok (.iconst 0, 1) := by decide +kernel
theorem dX4_go_32 : decode cX4_go 32 = .ok (.iastore, 1) := by decide +kernel
theorem dX4_go_33 : decode cX4_go 33 = .ok (.iinc 4 1, 3) := by decide +kernel
theorem dX4_go_36 : decode cX4_go 36 = .ok (.goto (-18), 3) := by decide +kernel
theorem dX4_go_39 : decode cX4_go 39 = .ok (.iconst 0, 1) := by decide +kernel
theorem dX4_go_40 : decode cX4_go 40 = .ok (.istore 4, 2) := by decide +kernel
theorem dX4_go_42 : decode cX4_go 42 = .ok (.aload_n 0, 1) := by decide +kernel
theorem dX4_go_43 : decode cX4_go 43 = .ok (.getfield 21, 3) := by decide +kernel
theorem dX4_go_46 : decode cX4_go 46 = .ok (.sipush 300, 3) := by decide +kernel
theorem dX4_go_49 : decode cX4_go 49 = .ok (.if_icmp .ge 48, 3) := by decide +kernel
theorem dX4_go_52 : decode cX4_go 52 = .ok (.aload_n 0, 1) := by decide +kernel
theorem dX4_go_53 : decode cX4_go 53 = .ok (.aload_n 1, 1) := by decide +kernel
theorem dX4_go_54 : decode cX4_go 54 = .ok (.iload 4, 2) := by decide +kernel
theorem dX4_go_56 : decode cX4_go 56 = .ok (.invokevirtual 48, 3) := by decide +kernel
theorem dX4_go_59 : decode cX4_go 59 = .ok (.ifCond .eq 38, 3) := by decide +kernel
theorem dX4_go_62 : decode cX4_go 62 = .ok (.aload_n 0, 1) := by decide +kernel
theorem dX4_go_63 : decode cX4_go 63 = .ok (.getfield 9, 3) := by decide +kernel
theorem dX4_go_66 : decode cX4_go 66 = .ok (.aload_n 0, 1) := by decide +kernel
theorem dX4_go_67 : decode cX4_go 67 = .ok (.getfield 21, 3) := by decide +kernel
theorem dX4_go_70 : decode cX4_go 70 = .ok (.iload 4, 2) := by decide +kernel
theorem dX4_go_72 : decode cX4_go 72 = .ok (.iastore, 1) := by decide +kernel
theorem dX4_go_73 : decode cX4_go 73 = .ok (.aload_n 0, 1) := by decide +kernel
theorem dX4_go_74 : decode cX4_go 74 = .ok (.dup, 1) := by decide +kernel
theorem dX4_go_75 : decode cX4_go 75 = .ok (.getfield 21, 3) := by decide +kernel
theorem dX4_go_78 : decode cX4_go 78 = .ok (.iconst 1, 1) := by decide +kernel
theorem dX4_go_79 : decode cX4_go 79 = .ok (.iadd, 1) := by decide +kernel
theorem dX4_go_80 : decode cX4_go 80 = .ok (.putfield 21, 3) := by decide +kernel
theorem dX4_go_83 : decode cX4_go 83 = .ok (.aload_n 0, 1) := by decide +kernel
theorem dX4_go_84 : decode cX4_go 84 = .ok (.aload_n 1, 1) := by decide +kernel
theorem dX4_go_85 : decode cX4_go 85 = .ok (.aload_n 2, 1) := by decide +kernel
theorem dX4_go_86 : decode cX4_go 86 = .ok (.iload_n 3, 1) := by decide +kernel
theorem dX4_go_87 : decode cX4_go 87 = .ok (.iload 4, 2) := by decide +kernel
theorem dX4_go_89 : decode cX4_go 89 = .ok (.invokevirtual 52, 3) := by decide +kernel
theorem dX4_go_92 : decode cX4_go 92 = .ok (.istore 4, 2) := by decide +kernel
theorem dX4_go_94 : decode cX4_go 94 = .ok (.goto (-52), 3) := by decide +kernel
theorem dX4_go_97 : decode cX4_go 97 = .ok (.aload_n 0, 1) := by decide +kernel
theorem dX4_go_98 : decode cX4_go 98 = .ok (.aload_n 0, 1) := by decide +kernel
theorem dX4_go_99 : decode cX4_go 99 = .ok (.aload_n 1, 1) := by decide +kernel
theorem dX4_go_100 : decode cX4_go 100 = .ok (.iload 4, 2) := by decide +kernel
theorem dX4_go_102 : decode cX4_go 102 = .ok (.invokevirtual 48, 3) := by decide +kernel
theorem dX4_go_105 : decode cX4_go 105 = .ok (.putfield 31, 3) := by decide +kernel
theorem dX4_go_108 : decode cX4_go 108 = .ok (.return_, 1) := by decide +kernel
theorem dX4_goesOn_0 : decode cX4_goesOn 0 = .ok (.iload_n 2, 1) := by decide +kernel
theorem dX4_goesOn_1 : decode cX4_goesOn 1 = .ok (.aload_n 1, 1) := by decide +kernel
theorem dX4_goesOn_2 : decode cX4_goesOn 2 = .ok (.getfield 56, 3) := by decide +kernel
theorem dX4_goesOn_5 : decode cX4_goesOn 5 = .ok (.if_icmp .ge 16, 3) := by decide +kernel
theorem dX4_goesOn_8 : decode cX4_goesOn 8 = .ok (.aload_n 0, 1) := by decide +kernel
theorem dX4_goesOn_9 : decode cX4_goesOn 9 = .ok (.getfield 25, 3) := by decide +kernel
theorem dX4_goesOn_12 : decode cX4_goesOn 12 = .ok (.bipush 6, 2) := by decide +kernel
theorem dX4_goesOn_14 : decode cX4_goesOn 14 = .ok (.if_icmp .ge 7, 3) := by decide +kernel
theorem dX4_goesOn_17 : decode cX4_goesOn 17 = .ok (.iconst 1, 1) := by decide +kernel
theorem dX4_goesOn_18 : decode cX4_goesOn 18 = .ok (.goto 4, 3) := by decide +kernel
theorem dX4_goesOn_21 : decode cX4_goesOn 21 = .ok (.iconst 0, 1) := by decide +kernel
theorem dX4_goesOn_22 : decode cX4_goesOn 22 = .ok (.ireturn, 1) := by decide +kernel
set_option maxRecDepth 20000 in
theorem ggX4_act_X4_decides : GoodIn wsX4_act wsX4_decides := goodIn_r _ [14, 15, 16, 32, 33, 34, 35, 36, 37, 38, 39, 40, 41] (by decide +kernel) (by decide +kernel)
set_option maxRecDepth 20000 in
theorem gX4_act_X4_decides : GoodIn wsX4_act (wsV RX4 70 RX4 yX4_decides wsX4_decides) := goodIn_app (goodIn_of _ (by decide +kernel)) ggX4_act_X4_decides
set_option maxRecDepth 20000 in
theorem ggX4_act_X4_valueOf : GoodIn wsX4_act wsX4_valueOf := goodIn_r _ [20, 4, 5, 2, 3, 21, 22, 23, 24, 25, 26, 27, 28, 29, 30, 31, 32, 33, 34, 35, 36, 37, 38, 39, 40, 41, 42, 43, 44, 45, 46] (by decide +kernel) (by decide +kernel)
set_option maxRecDepth 20000 in
theorem gX4_act_X4_valueOf : GoodIn wsX4_act (wsV RX4 77 RX4 yX4_valueOf wsX4_valueOf) := goodIn_app (goodIn_of _ (by decide +kernel)) ggX4_act_X4_valueOf
theorem dX4_act_0 : decode cX4_act 0 = .ok (.aload_n 1, 1) := by decide +kernel
theorem dX4_act_1 : decode cX4_act 1 = .ok (.getfield 61, 3) := by decide +kernel
theorem dX4_act_4 : decode cX4_act 4 = .ok (.iload 4, 2) := by decide +kernel
theorem dX4_act_6 : decode cX4_act 6 = .ok (.iaload, 1) := by decide +kernel
theorem dX4_act_7 : decode cX4_act 7 = .ok (.istore 5, 2) := by decide +kernel
theorem dX4_act_9 : decode cX4_act 9 = .ok (.aload_n 1, 1) := by decide +kernel
theorem dX4_act_10 : decode cX4_act 10 = .ok (.getfield 64, 3) := by decide +kernel
theorem dX4_act_13 : decode cX4_act 13 = .ok (.iload 4, 2) := by decide +kernel
theorem dX4_act_15 : decode cX4_act 15 = .ok (.iaload, 1) := by decide +kernel
theorem dX4_act_16 : decode cX4_act 16 = .ok (.tableswitch 116 5 7 #[28, 77, 85], 28) := by decide +kernel
theorem dX4_act_44 : decode cX4_act 44 = .ok (.aload_n 0, 1) := by decide +kernel
theorem dX4_act_45 : decode cX4_act 45 = .ok (.aload_n 0, 1) := by decide +kernel
theorem dX4_act_46 : decode cX4_act 46 = .ok (.getfield 18, 3) := by decide +kernel
theorem dX4_act_49 : decode cX4_act 49 = .ok (.iload 5, 2) := by decide +kernel
theorem dX4_act_51 : decode cX4_act 51 = .ok (.iaload, 1) := by decide +kernel
theorem dX4_act_52 : decode cX4_act 52 = .ok (.aload_n 0, 1) := by decide +kernel
theorem dX4_act_53 : decode cX4_act 53 = .ok (.getfield 18, 3) := by decide +kernel
theorem dX4_act_56 : decode cX4_act 56 = .ok (.aload_n 1, 1) := by decide +kernel
theorem dX4_act_57 : decode cX4_act 57 = .ok (.getfield 67, 3) := by decide +kernel
theorem dX4_act_60 : decode cX4_act 60 = .ok (.iload 4, 2) := by decide +kernel
theorem dX4_act_62 : decode cX4_act 62 = .ok (.iaload, 1) := by decide +kernel
theorem dX4_act_63 : decode cX4_act 63 = .ok (.iaload, 1) := by decide +kernel
theorem dX4_act_64 : decode cX4_act 64 = .ok (.if_icmp .ge 7, 3) := by decide +kernel
theorem dX4_act_67 : decode cX4_act 67 = .ok (.iconst 1, 1) := by decide +kernel
theorem dX4_act_68 : decode cX4_act 68 = .ok (.goto 4, 3) := by decide +kernel
theorem dX4_act_71 : decode cX4_act 71 = .ok (.iconst 0, 1) := by decide +kernel
theorem dX4_act_72 : decode cX4_act 72 = .ok (.invokevirtual 70, 3) := by decide +kernel
theorem dX4_act_75 : decode cX4_act 75 = .ok (.ifCond .eq 13, 3) := by decide +kernel
theorem dX4_act_78 : decode cX4_act 78 = .ok (.aload_n 1, 1) := by decide +kernel
theorem dX4_act_79 : decode cX4_act 79 = .ok (.getfield 74, 3) := by decide +kernel
theorem dX4_act_82 : decode cX4_act 82 = .ok (.iload 4, 2) := by decide +kernel
theorem dX4_act_84 : decode cX4_act 84 = .ok (.iaload, 1) := by decide +kernel
theorem dX4_act_85 : decode cX4_act 85 = .ok (.goto 7, 3) := by decide +kernel
theorem dX4_act_88 : decode cX4_act 88 = .ok (.iload 4, 2) := by decide +kernel
theorem dX4_act_90 : decode cX4_act 90 = .ok (.iconst 1, 1) := by decide +kernel
theorem dX4_act_91 : decode cX4_act 91 = .ok (.iadd, 1) := by decide +kernel
theorem dX4_act_92 : decode cX4_act 92 = .ok (.ireturn, 1) := by decide +kernel
theorem dX4_act_93 : decode cX4_act 93 = .ok (.aload_n 1, 1) := by decide +kernel
theorem dX4_act_94 : decode cX4_act 94 = .ok (.getfield 74, 3) := by decide +kernel
theorem dX4_act_97 : decode cX4_act 97 = .ok (.iload 4, 2) := by decide +kernel
theorem dX4_act_99 : decode cX4_act 99 = .ok (.iaload, 1) := by decide +kernel
theorem dX4_act_100 : decode cX4_act 100 = .ok (.ireturn, 1) := by decide +kernel
theorem dX4_act_101 : decode cX4_act 101 = .ok (.aload_n 0, 1) := by decide +kernel
theorem dX4_act_102 : decode cX4_act 102 = .ok (.getfield 15, 3) := by decide +kernel
theorem dX4_act_105 : decode cX4_act 105 = .ok (.aload_n 0, 1) := by decide +kernel
theorem dX4_act_106 : decode cX4_act 106 = .ok (.getfield 25, 3) := by decide +kernel
theorem dX4_act_109 : decode cX4_act 109 = .ok (.aload_n 0, 1) := by decide +kernel
theorem dX4_act_110 : decode cX4_act 110 = .ok (.getfield 18, 3) := by decide +kernel
theorem dX4_act_113 : decode cX4_act 113 = .ok (.iload 5, 2) := by decide +kernel
theorem dX4_act_115 : decode cX4_act 115 = .ok (.iaload, 1) := by decide +kernel
theorem dX4_act_116 : decode cX4_act 116 = .ok (.iastore, 1) := by decide +kernel
theorem dX4_act_117 : decode cX4_act 117 = .ok (.aload_n 0, 1) := by decide +kernel
theorem dX4_act_118 : decode cX4_act 118 = .ok (.dup, 1) := by decide +kernel
theorem dX4_act_119 : decode cX4_act 119 = .ok (.getfield 25, 3) := by decide +kernel
theorem dX4_act_122 : decode cX4_act 122 = .ok (.iconst 1, 1) := by decide +kernel
theorem dX4_act_123 : decode cX4_act 123 = .ok (.iadd, 1) := by decide +kernel
theorem dX4_act_124 : decode cX4_act 124 = .ok (.putfield 25, 3) := by decide +kernel
theorem dX4_act_127 : decode cX4_act 127 = .ok (.iload 4, 2) := by decide +kernel
theorem dX4_act_129 : decode cX4_act 129 = .ok (.iconst 1, 1) := by decide +kernel
theorem dX4_act_130 : decode cX4_act 130 = .ok (.iadd, 1) := by decide +kernel
theorem dX4_act_131 : decode cX4_act 131 = .ok (.ireturn, 1) := by decide +kernel
theorem dX4_act_132 : decode cX4_act 132 = .ok (.aload_n 0, 1) := by decide +kernel
theorem dX4_act_133 : decode cX4_act 133 = .ok (.getfield 18, 3) := by decide +kernel
theorem dX4_act_136 : decode cX4_act 136 = .ok (.iload 5, 2) := by decide +kernel
theorem dX4_act_138 : decode cX4_act 138 = .ok (.iload 4, 2) := by decide +kernel
theorem dX4_act_140 : decode cX4_act 140 = .ok (.aload_n 0, 1) := by decide +kernel
theorem dX4_act_141 : decode cX4_act 141 = .ok (.getfield 38, 3) := by decide +kernel
theorem dX4_act_144 : decode cX4_act 144 = .ok (.if_icmp .ne 10, 3) := by decide +kernel
theorem dX4_act_147 : decode cX4_act 147 = .ok (.aload_n 0, 1) := by decide +kernel
theorem dX4_act_148 : decode cX4_act 148 = .ok (.getfield 41, 3) := by decide +kernel
theorem dX4_act_151 : decode cX4_act 151 = .ok (.goto 12, 3) := by decide +kernel
theorem dX4_act_154 : decode cX4_act 154 = .ok (.aload_n 0, 1) := by decide +kernel
theorem dX4_act_155 : decode cX4_act 155 = .ok (.aload_n 1, 1) := by decide +kernel
theorem dX4_act_156 : decode cX4_act 156 = .ok (.aload_n 2, 1) := by decide +kernel
theorem dX4_act_157 : decode cX4_act 157 = .ok (.iload_n 3, 1) := by decide +kernel
theorem dX4_act_158 : decode cX4_act 158 = .ok (.iload 4, 2) := by decide +kernel
theorem dX4_act_160 : decode cX4_act 160 = .ok (.invokevirtual 77, 3) := by decide +kernel
theorem dX4_act_163 : decode cX4_act 163 = .ok (.iastore, 1) := by decide +kernel
theorem dX4_act_164 : decode cX4_act 164 = .ok (.iload 4, 2) := by decide +kernel
theorem dX4_act_166 : decode cX4_act 166 = .ok (.iconst 1, 1) := by decide +kernel
theorem dX4_act_167 : decode cX4_act 167 = .ok (.iadd, 1) := by decide +kernel
theorem dX4_act_168 : decode cX4_act 168 = .ok (.ireturn, 1) := by decide +kernel
theorem dX4_decides_0 : decode cX4_decides 0 = .ok (.aload_n 0, 1) := by decide +kernel
theorem dX4_decides_1 : decode cX4_decides 1 = .ok (.getfield 28, 3) := by decide +kernel
theorem dX4_decides_4 : decode cX4_decides 4 = .ok (.aload_n 0, 1) := by decide +kernel
theorem dX4_decides_5 : decode cX4_decides 5 = .ok (.getfield 35, 3) := by decide +kernel
theorem dX4_decides_8 : decode cX4_decides 8 = .ok (.if_icmp .ne 7, 3) := by decide +kernel
theorem dX4_decides_11 : decode cX4_decides 11 = .ok (.iconst 1, 1) := by decide +kernel
theorem dX4_decides_12 : decode cX4_decides 12 = .ok (.goto 4, 3) := by decide +kernel
theorem dX4_decides_15 : decode cX4_decides 15 = .ok (.iconst 0, 1) := by decide +kernel
theorem dX4_decides_16 : decode cX4_decides 16 = .ok (.istore_n 2, 1) := by decide +kernel
theorem dX4_decides_17 : decode cX4_decides 17 = .ok (.aload_n 0, 1) := by decide +kernel
theorem dX4_decides_18 : decode cX4_decides 18 = .ok (.dup, 1) := by decide +kernel
theorem dX4_decides_19 : decode cX4_decides 19 = .ok (.getfield 28, 3) := by decide +kernel
theorem dX4_decides_22 : decode cX4_decides 22 = .ok (.iconst 1, 1) := by decide +kernel
theorem dX4_decides_23 : decode cX4_decides 23 = .ok (.iadd, 1) := by decide +kernel
theorem dX4_decides_24 : decode cX4_decides 24 = .ok (.putfield 28, 3) := by decide +kernel
theorem dX4_decides_27 : decode cX4_decides 27 = .ok (.iload_n 1, 1) := by decide +kernel
theorem dX4_decides_28 : decode cX4_decides 28 = .ok (.iload_n 2, 1) := by decide +kernel
theorem dX4_decides_29 : decode cX4_decides 29 = .ok (.if_icmp .eq 7, 3) := by decide +kernel
theorem dX4_decides_32 : decode cX4_decides 32 = .ok (.iconst 1, 1) := by decide +kernel
theorem dX4_decides_33 : decode cX4_decides 33 = .ok (.goto 4, 3) := by decide +kernel
theorem dX4_decides_36 : decode cX4_decides 36 = .ok (.iconst 0, 1) := by decide +kernel
theorem dX4_decides_37 : decode cX4_decides 37 = .ok (.ireturn, 1) := by decide +kernel
set_option maxRecDepth 20000 in
theorem ggX4_valueOf_X6_inputOf : GoodIn wsX4_valueOf wsX6_inputOf := goodIn_r _ [9, 10, 26, 27, 28, 29, 30] (by decide +kernel) (by decide +kernel)
set_option maxRecDepth 20000 in
theorem gX4_valueOf_X6_inputOf : GoodIn wsX4_valueOf (wsV RX4 80 RX6 yX6_inputOf wsX6_inputOf) := goodIn_app (goodIn_of _ (by decide +kernel)) ggX4_valueOf_X6_inputOf
theorem dX4_valueOf_0 : decode cX4_valueOf 0 = .ok (.aload_n 1, 1) := by decide +kernel
theorem dX4_valueOf_1 : decode cX4_valueOf 1 = .ok (.getfield 67, 3) := by decide +kernel
theorem dX4_valueOf_4 : decode cX4_valueOf 4 = .ok (.iload 4, 2) := by decide +kernel
theorem dX4_valueOf_6 : decode cX4_valueOf 6 = .ok (.iaload, 1) := by decide +kernel
theorem dX4_valueOf_7 : decode cX4_valueOf 7 = .ok (.istore 5, 2) := by decide +kernel
theorem dX4_valueOf_9 : decode cX4_valueOf 9 = .ok (.aload_n 1, 1) := by decide +kernel
theorem dX4_valueOf_10 : decode cX4_valueOf 10 = .ok (.getfield 74, 3) := by decide +kernel
theorem dX4_valueOf_13 : decode cX4_valueOf 13 = .ok (.iload 4, 2) := by decide +kernel
theorem dX4_valueOf_15 : decode cX4_valueOf 15 = .ok (.iaload, 1) := by decide +kernel
theorem dX4_valueOf_16 : decode cX4_valueOf 16 = .ok (.istore 6, 2) := by decide +kernel
theorem dX4_valueOf_18 : decode cX4_valueOf 18 = .ok (.aload_n 1, 1) := by decide +kernel
theorem dX4_valueOf_19 : decode cX4_valueOf 19 = .ok (.getfield 64, 3) := by decide +kernel
theorem dX4_valueOf_22 : decode cX4_valueOf 22 = .ok (.iload 4, 2) := by decide +kernel
theorem dX4_valueOf_24 : decode cX4_valueOf 24 = .ok (.iaload, 1) := by decide +kernel
theorem dX4_valueOf_25 : decode cX4_valueOf 25 = .ok (.tableswitch 87 1 4 #[31, 47, 63, 79], 31) := by decide +kernel
theorem dX4_valueOf_56 : decode cX4_valueOf 56 = .ok (.aload_n 0, 1) := by decide +kernel
theorem dX4_valueOf_57 : decode cX4_valueOf 57 = .ok (.getfield 18, 3) := by decide +kernel
theorem dX4_valueOf_60 : decode cX4_valueOf 60 = .ok (.iload 5, 2) := by decide +kernel
theorem dX4_valueOf_62 : decode cX4_valueOf 62 = .ok (.iaload, 1) := by decide +kernel
theorem dX4_valueOf_63 : decode cX4_valueOf 63 = .ok (.aload_n 0, 1) := by decide +kernel
theorem dX4_valueOf_64 : decode cX4_valueOf 64 = .ok (.getfield 18, 3) := by decide +kernel
theorem dX4_valueOf_67 : decode cX4_valueOf 67 = .ok (.iload 6, 2) := by decide +kernel
theorem dX4_valueOf_69 : decode cX4_valueOf 69 = .ok (.iaload, 1) := by decide +kernel
theorem dX4_valueOf_70 : decode cX4_valueOf 70 = .ok (.iadd, 1) := by decide +kernel
theorem dX4_valueOf_71 : decode cX4_valueOf 71 = .ok (.ireturn, 1) := by decide +kernel
theorem dX4_valueOf_72 : decode cX4_valueOf 72 = .ok (.aload_n 0, 1) := by decide +kernel
theorem dX4_valueOf_73 : decode cX4_valueOf 73 = .ok (.getfield 18, 3) := by decide +kernel
theorem dX4_valueOf_76 : decode cX4_valueOf 76 = .ok (.iload 5, 2) := by decide +kernel
theorem dX4_valueOf_78 : decode cX4_valueOf 78 = .ok (.iaload, 1) := by decide +kernel
theorem dX4_valueOf_79 : decode cX4_valueOf 79 = .ok (.aload_n 0, 1) := by decide +kernel
theorem dX4_valueOf_80 : decode cX4_valueOf 80 = .ok (.getfield 18, 3) := by decide +kernel
theorem dX4_valueOf_83 : decode cX4_valueOf 83 = .ok (.iload 6, 2) := by decide +kernel
theorem dX4_valueOf_85 : decode cX4_valueOf 85 = .ok (.iaload, 1) := by decide +kernel
theorem dX4_valueOf_86 : decode cX4_valueOf 86 = .ok (.isub, 1) := by decide +kernel
theorem dX4_valueOf_87 : decode cX4_valueOf 87 = .ok (.ireturn, 1) := by decide +kernel
theorem dX4_valueOf_88 : decode cX4_valueOf 88 = .ok (.aload_n 0, 1) := by decide +kernel
theorem dX4_valueOf_89 : decode cX4_valueOf 89 = .ok (.getfield 18, 3) := by decide +kernel
theorem dX4_valueOf_92 : decode cX4_valueOf 92 = .ok (.iload 5, 2) := by decide +kernel
theorem dX4_valueOf_94 : decode cX4_valueOf 94 = .ok (.iaload, 1) := by decide +kernel
theorem dX4_valueOf_95 : decode cX4_valueOf 95 = .ok (.aload_n 0, 1) := by decide +kernel
theorem dX4_valueOf_96 : decode cX4_valueOf 96 = .ok (.getfield 18, 3) := by decide +kernel
theorem dX4_valueOf_99 : decode cX4_valueOf 99 = .ok (.iload 6, 2) := by decide +kernel
theorem dX4_valueOf_101 : decode cX4_valueOf 101 = .ok (.iaload, 1) := by decide +kernel
theorem dX4_valueOf_102 : decode cX4_valueOf 102 = .ok (.imul, 1) := by decide +kernel
theorem dX4_valueOf_103 : decode cX4_valueOf 103 = .ok (.ireturn, 1) := by decide +kernel
theorem dX4_valueOf_104 : decode cX4_valueOf 104 = .ok (.aload_n 2, 1) := by decide +kernel
theorem dX4_valueOf_105 : decode cX4_valueOf 105 = .ok (.iload_n 3, 1) := by decide +kernel
theorem dX4_valueOf_106 : decode cX4_valueOf 106 = .ok (.iload 5, 2) := by decide +kernel
theorem dX4_valueOf_108 : decode cX4_valueOf 108 = .ok (.invokevirtual 80, 3) := by decide +kernel
theorem dX4_valueOf_111 : decode cX4_valueOf 111 = .ok (.ireturn, 1) := by decide +kernel
theorem dX4_valueOf_112 : decode cX4_valueOf 112 = .ok (.iload 5, 2) := by decide +kernel
theorem dX4_valueOf_114 : decode cX4_valueOf 114 = .ok (.ireturn, 1) := by decide +kernel
set_option maxRecDepth 20000 in
theorem ggX4_bringsOut_X6_wantedOf : GoodIn wsX4_bringsOut wsX6_wantedOf := goodIn_r _ [9, 10, 21, 22, 23, 24, 25] (by decide +kernel) (by decide +kernel)
set_option maxRecDepth 20000 in
theorem gX4_bringsOut_X6_wantedOf : GoodIn wsX4_bringsOut (wsV RX4 89 RX6 yX6_wantedOf wsX6_wantedOf) := goodIn_app (goodIn_of _ (by decide +kernel)) ggX4_bringsOut_X6_wantedOf
theorem dX4_bringsOut_0 : decode cX4_bringsOut 0 = .ok (.aload_n 0, 1) := by decide +kernel
theorem dX4_bringsOut_1 : decode cX4_bringsOut 1 = .ok (.getfield 31, 3) := by decide +kernel
theorem dX4_bringsOut_4 : decode cX4_bringsOut 4 = .ok (.ifCond .ne 16, 3) := by decide +kernel
theorem dX4_bringsOut_7 : decode cX4_bringsOut 7 = .ok (.aload_n 0, 1) := by decide +kernel
theorem dX4_bringsOut_8 : decode cX4_bringsOut 8 = .ok (.getfield 25, 3) := by decide +kernel
theorem dX4_bringsOut_11 : decode cX4_bringsOut 11 = .ok (.aload_n 1, 1) := by decide +kernel
theorem dX4_bringsOut_12 : decode cX4_bringsOut 12 = .ok (.getfield 86, 3) := by decide +kernel
theorem dX4_bringsOut_15 : decode cX4_bringsOut 15 = .ok (.iload_n 2, 1) := by decide +kernel
theorem dX4_bringsOut_16 : decode cX4_bringsOut 16 = .ok (.iaload, 1) := by decide +kernel
theorem dX4_bringsOut_17 : decode cX4_bringsOut 17 = .ok (.if_icmp .eq 5, 3) := by decide +kernel
theorem dX4_bringsOut_20 : decode cX4_bringsOut 20 = .ok (.iconst 0, 1) := by decide +kernel
theorem dX4_bringsOut_21 : decode cX4_bringsOut 21 = .ok (.ireturn, 1) := by decide +kernel
theorem dX4_bringsOut_22 : decode cX4_bringsOut 22 = .ok (.iconst 0, 1) := by decide +kernel
theorem dX4_bringsOut_23 : decode cX4_bringsOut 23 = .ok (.istore_n 3, 1) := by decide +kernel
theorem dX4_bringsOut_24 : decode cX4_bringsOut 24 = .ok (.iload_n 3, 1) := by decide +kernel
theorem dX4_bringsOut_25 : decode cX4_bringsOut 25 = .ok (.aload_n 0, 1) := by decide +kernel
theorem dX4_bringsOut_26 : decode cX4_bringsOut 26 = .ok (.getfield 25, 3) := by decide +kernel
theorem dX4_bringsOut_29 : decode cX4_bringsOut 29 = .ok (.if_icmp .ge 26, 3) := by decide +kernel
theorem dX4_bringsOut_32 : decode cX4_bringsOut 32 = .ok (.aload_n 0, 1) := by decide +kernel
theorem dX4_bringsOut_33 : decode cX4_bringsOut 33 = .ok (.getfield 15, 3) := by decide +kernel
theorem dX4_bringsOut_36 : decode cX4_bringsOut 36 = .ok (.iload_n 3, 1) := by decide +kernel
theorem dX4_bringsOut_37 : decode cX4_bringsOut 37 = .ok (.iaload, 1) := by decide +kernel
theorem dX4_bringsOut_38 : decode cX4_bringsOut 38 = .ok (.aload_n 1, 1) := by decide +kernel
theorem dX4_bringsOut_39 : decode cX4_bringsOut 39 = .ok (.iload_n 2, 1) := by decide +kernel
theorem dX4_bringsOut_40 : decode cX4_bringsOut 40 = .ok (.iload_n 3, 1) := by decide +kernel
theorem dX4_bringsOut_41 : decode cX4_bringsOut 41 = .ok (.invokevirtual 89, 3) := by decide +kernel
theorem dX4_bringsOut_44 : decode cX4_bringsOut 44 = .ok (.if_icmp .eq 5, 3) := by decide +kernel
theorem dX4_bringsOut_47 : decode cX4_bringsOut 47 = .ok (.iconst 0, 1) := by decide +kernel
theorem dX4_bringsOut_48 : decode cX4_bringsOut 48 = .ok (.ireturn, 1) := by decide +kernel
theorem dX4_bringsOut_49 : decode cX4_bringsOut 49 = .ok (.iinc 3 1, 3) := by decide +kernel
theorem dX4_bringsOut_52 : decode cX4_bringsOut 52 = .ok (.goto (-28), 3) := by decide +kernel
theorem dX4_bringsOut_55 : decode cX4_bringsOut 55 = .ok (.iconst 1, 1) := by decide +kernel
theorem dX4_bringsOut_56 : decode cX4_bringsOut 56 = .ok (.ireturn, 1) := by decide +kernel
theorem dX4_timesDone_0 : decode cX4_timesDone 0 = .ok (.iconst 0, 1) := by decide +kernel
theorem dX4_timesDone_1 : decode cX4_timesDone 1 = .ok (.istore_n 2, 1) := by decide +kernel
theorem dX4_timesDone_2 : decode cX4_timesDone 2 = .ok (.iconst 0, 1) := by decide +kernel
theorem dX4_timesDone_3 : decode cX4_timesDone 3 = .ok (.istore_n 3, 1) := by decide +kernel
theorem dX4_timesDone_4 : decode cX4_timesDone 4 = .ok (.iload_n 3, 1) := by decide +kernel
theorem dX4_timesDone_5 : decode cX4_timesDone 5 = .ok (.aload_n 0, 1) := by decide +kernel
theorem dX4_timesDone_6 : decode cX4_timesDone 6 = .ok (.getfield 21, 3) := by decide +kernel
theorem dX4_timesDone_9 : decode cX4_timesDone 9 = .ok (.if_icmp .ge 22, 3) := by decide +kernel
theorem dX4_timesDone_12 : decode cX4_timesDone 12 = .ok (.aload_n 0, 1) := by decide +kernel
theorem dX4_timesDone_13 : decode cX4_timesDone 13 = .ok (.getfield 9, 3) := by decide +kernel
theorem dX4_timesDone_16 : decode cX4_timesDone 16 = .ok (.iload_n 3, 1) := by decide +kernel
theorem dX4_timesDone_17 : decode cX4_timesDone 17 = .ok (.iaload, 1) := by decide +kernel
theorem dX4_timesDone_18 : decode cX4_timesDone 18 = .ok (.iload_n 1, 1) := by decide +kernel
theorem dX4_timesDone_19 : decode cX4_timesDone 19 = .ok (.if_icmp .ne 6, 3) := by decide +kernel
theorem dX4_timesDone_22 : decode cX4_timesDone 22 = .ok (.iinc 2 1, 3) := by decide +kernel
theorem dX4_timesDone_25 : decode cX4_timesDone 25 = .ok (.iinc 3 1, 3) := by decide +kernel
theorem dX4_timesDone_28 : decode cX4_timesDone 28 = .ok (.goto (-24), 3) := by decide +kernel
theorem dX4_timesDone_31 : decode cX4_timesDone 31 = .ok (.iload_n 2, 1) := by decide +kernel
theorem dX4_timesDone_32 : decode cX4_timesDone 32 = .ok (.ireturn, 1) := by decide +kernel
theorem dX5_init_0 : decode cX5_init 0 = .ok (.aload_n 0, 1) := by decide +kernel
theorem dX5_init_1 : decode cX5_init 1 = .ok (.invokespecial 3, 3) := by decide +kernel
theorem dX5_init_4 : decode cX5_init 4 = .ok (.aload_n 0, 1) := by decide +kernel
theorem dX5_init_5 : decode cX5_init 5 = .ok (.bipush 8, 2) := by decide +kernel
theorem dX5_init_7 : decode cX5_init 7 = .ok (.newarray .int, 2) := by decide +kernel
theorem dX5_init_9 : decode cX5_init 9 = .ok (.putfield 9, 3) := by decide +kernel
theorem dX5_init_12 : decode cX5_init 12 = .ok (.return_, 1) := by decide +kernel
set_option maxRecDepth 20000 in
theorem ggX5_linesBehind_X5_behindReads : GoodIn wsX5_linesBehind wsX5_behindReads := goodIn_r _ [10, 4, 1, 11, 12, 5, 27, 28, 29, 30, 31, 16] (by decide +kernel) (by decide +kernel)
set_option maxRecDepth 20000 in
theorem gX5_linesBehind_X5_behindReads : GoodIn wsX5_linesBehind (wsV RX5 29 RX5 yX5_behindReads wsX5_behindReads) := goodIn_app (goodIn_of _ (by decide +kernel)) ggX5_linesBehind_X5_behindReads
set_option maxRecDepth 20000 in
theorem ggX5_linesBehind_X9_writes : GoodIn wsX5_linesBehind wsX9_writes := goodIn_r _ [15] (by decide +kernel) (by decide +kernel)
set_option maxRecDepth 20000 in
theorem gX5_linesBehind_X9_writes_n33 : GoodIn wsX5_linesBehind (wsX9_writes) := ggX5_linesBehind_X9_writes
theorem dX5_linesBehind_0 : decode cX5_linesBehind 0 = .ok (.iconst 0, 1) := by decide +kernel
theorem dX5_linesBehind_1 : decode cX5_linesBehind 1 = .ok (.istore 4, 2) := by decide +kernel
theorem dX5_linesBehind_3 : decode cX5_linesBehind 3 = .ok (.iload 4, 2) := by decide +kernel
theorem dX5_linesBehind_5 : decode cX5_linesBehind 5 = .ok (.bipush 8, 2) := by decide +kernel
theorem dX5_linesBehind_7 : decode cX5_linesBehind 7 = .ok (.if_icmp .ge 17, 3) := by decide +kernel
theorem dX5_linesBehind_10 : decode cX5_linesBehind 10 = .ok (.aload_n 0, 1) := by decide +kernel
theorem dX5_linesBehind_11 : decode cX5_linesBehind 11 = .ok (.getfield 9, 3) := by decide +kernel
theorem dX5_linesBehind_14 : decode cX5_linesBehind 14 = .ok (.iload 4, 2) := by decide +kernel
theorem dX5_linesBehind_16 : decode cX5_linesBehind 16 = .ok (.iconst 0, 1) := by decide +kernel
theorem dX5_linesBehind_17 : decode cX5_linesBehind 17 = .ok (.iastore, 1) := by decide +kernel
theorem dX5_linesBehind_18 : decode cX5_linesBehind 18 = .ok (.iinc 4 1, 3) := by decide +kernel
theorem dX5_linesBehind_21 : decode cX5_linesBehind 21 = .ok (.goto (-18), 3) := by decide +kernel
theorem dX5_linesBehind_24 : decode cX5_linesBehind 24 = .ok (.iconst 0, 1) := by decide +kernel
theorem dX5_linesBehind_25 : decode cX5_linesBehind 25 = .ok (.istore 4, 2) := by decide +kernel
theorem dX5_linesBehind_27 : decode cX5_linesBehind 27 = .ok (.iconst 0, 1) := by decide +kernel
theorem dX5_linesBehind_28 : decode cX5_linesBehind 28 = .ok (.istore 5, 2) := by decide +kernel
theorem dX5_linesBehind_30 : decode cX5_linesBehind 30 = .ok (.iconst 0, 1) := by decide +kernel
theorem dX5_linesBehind_31 : decode cX5_linesBehind 31 = .ok (.istore 6, 2) := by decide +kernel
theorem dX5_linesBehind_33 : decode cX5_linesBehind 33 = .ok (.iload 6, 2) := by decide +kernel
theorem dX5_linesBehind_35 : decode cX5_linesBehind 35 = .ok (.aload_n 2, 1) := by decide +kernel
theorem dX5_linesBehind_36 : decode cX5_linesBehind 36 = .ok (.getfield 15, 3) := by decide +kernel
theorem dX5_linesBehind_39 : decode cX5_linesBehind 39 = .ok (.if_icmp .ge 101, 3) := by decide +kernel
theorem dX5_linesBehind_42 : decode cX5_linesBehind 42 = .ok (.aload_n 2, 1) := by decide +kernel
theorem dX5_linesBehind_43 : decode cX5_linesBehind 43 = .ok (.getfield 21, 3) := by decide +kernel
theorem dX5_linesBehind_46 : decode cX5_linesBehind 46 = .ok (.iload 6, 2) := by decide +kernel
theorem dX5_linesBehind_48 : decode cX5_linesBehind 48 = .ok (.iaload, 1) := by decide +kernel
theorem dX5_linesBehind_49 : decode cX5_linesBehind 49 = .ok (.istore 7, 2) := by decide +kernel
theorem dX5_linesBehind_51 : decode cX5_linesBehind 51 = .ok (.aload_n 1, 1) := by decide +kernel
theorem dX5_linesBehind_52 : decode cX5_linesBehind 52 = .ok (.getfield 24, 3) := by decide +kernel
theorem dX5_linesBehind_55 : decode cX5_linesBehind 55 = .ok (.iload 7, 2) := by decide +kernel
theorem dX5_linesBehind_57 : decode cX5_linesBehind 57 = .ok (.iaload, 1) := by decide +kernel
theorem dX5_linesBehind_58 : decode cX5_linesBehind 58 = .ok (.istore 8, 2) := by decide +kernel
theorem dX5_linesBehind_60 : decode cX5_linesBehind 60 = .ok (.iconst 1, 1) := by decide +kernel
theorem dX5_linesBehind_61 : decode cX5_linesBehind 61 = .ok (.iload 7, 2) := by decide +kernel
theorem dX5_linesBehind_63 : decode cX5_linesBehind 63 = .ok (.ishl, 1) := by decide +kernel
theorem dX5_linesBehind_64 : decode cX5_linesBehind 64 = .ok (.iload 4, 2) := by decide +kernel
theorem dX5_linesBehind_66 : decode cX5_linesBehind 66 = .ok (.ior, 1) := by decide +kernel
theorem dX5_linesBehind_67 : decode cX5_linesBehind 67 = .ok (.aload_n 0, 1) := by decide +kernel
theorem dX5_linesBehind_68 : decode cX5_linesBehind 68 = .ok (.aload_n 1, 1) := by decide +kernel
theorem dX5_linesBehind_69 : decode cX5_linesBehind 69 = .ok (.iload 7, 2) := by decide +kernel
theorem dX5_linesBehind_71 : decode cX5_linesBehind 71 = .ok (.invokevirtual 29, 3) := by decide +kernel
theorem dX5_linesBehind_74 : decode cX5_linesBehind 74 = .ok (.ior, 1) := by decide +kernel
theorem dX5_linesBehind_75 : decode cX5_linesBehind 75 = .ok (.istore 9, 2) := by decide +kernel
theorem dX5_linesBehind_77 : decode cX5_linesBehind 77 = .ok (.iload 8, 2) := by decide +kernel
theorem dX5_linesBehind_79 : decode cX5_linesBehind 79 = .ok (.iconst 5, 1) := by decide +kernel
theorem dX5_linesBehind_80 : decode cX5_linesBehind 80 = .ok (.if_icmp .ne 10, 3) := by decide +kernel
theorem dX5_linesBehind_83 : decode cX5_linesBehind 83 = .ok (.iload 9, 2) := by decide +kernel
theorem dX5_linesBehind_85 : decode cX5_linesBehind 85 = .ok (.istore 4, 2) := by decide +kernel
theorem dX5_linesBehind_87 : decode cX5_linesBehind 87 = .ok (.goto 47, 3) := by decide +kernel
theorem dX5_linesBehind_90 : decode cX5_linesBehind 90 = .ok (.iload 8, 2) := by decide +kernel
theorem dX5_linesBehind_92 : decode cX5_linesBehind 92 = .ok (.invokestatic 33, 3) := by decide +kernel
theorem dX5_linesBehind_95 : decode cX5_linesBehind 95 = .ok (.ifCond .eq 20, 3) := by decide +kernel
theorem dX5_linesBehind_98 : decode cX5_linesBehind 98 = .ok (.aload_n 0, 1) := by decide +kernel
theorem dX5_linesBehind_99 : decode cX5_linesBehind 99 = .ok (.getfield 9, 3) := by decide +kernel
theorem dX5_linesBehind_102 : decode cX5_linesBehind 102 = .ok (.aload_n 1, 1) := by decide +kernel
theorem dX5_linesBehind_103 : decode cX5_linesBehind 103 = .ok (.getfield 37, 3) := by decide +kernel
theorem dX5_linesBehind_106 : decode cX5_linesBehind 106 = .ok (.iload 7, 2) := by decide +kernel
theorem dX5_linesBehind_108 : decode cX5_linesBehind 108 = .ok (.iaload, 1) := by decide +kernel
theorem dX5_linesBehind_109 : decode cX5_linesBehind 109 = .ok (.iload 9, 2) := by decide +kernel
theorem dX5_linesBehind_111 : decode cX5_linesBehind 111 = .ok (.iastore, 1) := by decide +kernel
theorem dX5_linesBehind_112 : decode cX5_linesBehind 112 = .ok (.goto 22, 3) := by decide +kernel
theorem dX5_linesBehind_115 : decode cX5_linesBehind 115 = .ok (.iload 8, 2) := by decide +kernel
theorem dX5_linesBehind_117 : decode cX5_linesBehind 117 = .ok (.bipush 7, 2) := by decide +kernel
theorem dX5_linesBehind_119 : decode cX5_linesBehind 119 = .ok (.if_icmp .ne 15, 3) := by decide +kernel
theorem dX5_linesBehind_122 : decode cX5_linesBehind 122 = .ok (.iload 5, 2) := by decide +kernel
theorem dX5_linesBehind_124 : decode cX5_linesBehind 124 = .ok (.iload_n 3, 1) := by decide +kernel
theorem dX5_linesBehind_125 : decode cX5_linesBehind 125 = .ok (.if_icmp .ne 6, 3) := by decide +kernel
theorem dX5_linesBehind_128 : decode cX5_linesBehind 128 = .ok (.iload 9, 2) := by decide +kernel
theorem dX5_linesBehind_130 : decode cX5_linesBehind 130 = .ok (.ireturn, 1) := by decide +kernel
theorem dX5_linesBehind_131 : decode cX5_linesBehind 131 = .ok (.iinc 5 1, 3) := by decide +kernel
theorem dX5_linesBehind_134 : decode cX5_linesBehind 134 = .ok (.iinc 6 1, 3) := by decide +kernel
theorem dX5_linesBehind_137 : decode cX5_linesBehind 137 = .ok (.goto (-104), 3) := by decide +kernel
theorem dX5_linesBehind_140 : decode cX5_linesBehind 140 = .ok (.iconst 0, 1) := by decide +kernel
theorem dX5_linesBehind_141 : decode cX5_linesBehind 141 = .ok (.ireturn, 1) := by decide +kernel
theorem dX5_behindReads_0 : decode cX5_behindReads 0 = .ok (.aload_n 1, 1) := by decide +kernel
theorem dX5_behindReads_1 : decode cX5_behindReads 1 = .ok (.getfield 24, 3) := by decide +kernel
theorem dX5_behindReads_4 : decode cX5_behindReads 4 = .ok (.iload_n 2, 1) := by decide +kernel
theorem dX5_behindReads_5 : decode cX5_behindReads 5 = .ok (.iaload, 1) := by decide +kernel
theorem dX5_behindReads_6 : decode cX5_behindReads 6 = .ok (.tableswitch 102 1 7 #[42, 42, 42, 102, 66, 102, 90], 42) := by decide +kernel
theorem dX5_behindReads_48 : decode cX5_behindReads 48 = .ok (.aload_n 0, 1) := by decide +kernel
theorem dX5_behindReads_49 : decode cX5_behindReads 49 = .ok (.getfield 9, 3) := by decide +kernel
theorem dX5_behindReads_52 : decode cX5_behindReads 52 = .ok (.aload_n 1, 1) := by decide +kernel
theorem dX5_behindReads_53 : decode cX5_behindReads 53 = .ok (.getfield 40, 3) := by decide +kernel
theorem dX5_behindReads_56 : decode cX5_behindReads 56 = .ok (.iload_n 2, 1) := by decide +kernel
theorem dX5_behindReads_57 : decode cX5_behindReads 57 = .ok (.iaload, 1) := by decide +kernel
theorem dX5_behindReads_58 : decode cX5_behindReads 58 = .ok (.iaload, 1) := by decide +kernel
theorem dX5_behindReads_59 : decode cX5_behindReads 59 = .ok (.aload_n 0, 1) := by decide +kernel
theorem dX5_behindReads_60 : decode cX5_behindReads 60 = .ok (.getfield 9, 3) := by decide +kernel
theorem dX5_behindReads_63 : decode cX5_behindReads 63 = .ok (.aload_n 1, 1) := by decide +kernel
theorem dX5_behindReads_64 : decode cX5_behindReads 64 = .ok (.getfield 43, 3) := by decide +kernel
theorem dX5_behindReads_67 : decode cX5_behindReads 67 = .ok (.iload_n 2, 1) := by decide +kernel
theorem dX5_behindReads_68 : decode cX5_behindReads 68 = .ok (.iaload, 1) := by decide +kernel
theorem dX5_behindReads_69 : decode cX5_behindReads 69 = .ok (.iaload, 1) := by decide +kernel
theorem dX5_behindReads_70 : decode cX5_behindReads 70 = .ok (.ior, 1) := by decide +kernel
theorem dX5_behindReads_71 : decode cX5_behindReads 71 = .ok (.ireturn, 1) := by decide +kernel
theorem dX5_behindReads_72 : decode cX5_behindReads 72 = .ok (.aload_n 0, 1) := by decide +kernel
theorem dX5_behindReads_73 : decode cX5_behindReads 73 = .ok (.getfield 9, 3) := by decide +kernel
theorem dX5_behindReads_76 : decode cX5_behindReads 76 = .ok (.aload_n 1, 1) := by decide +kernel
theorem dX5_behindReads_77 : decode cX5_behindReads 77 = .ok (.getfield 37, 3) := by decide +kernel
theorem dX5_behindReads_80 : decode cX5_behindReads 80 = .ok (.iload_n 2, 1) := by decide +kernel
theorem dX5_behindReads_81 : decode cX5_behindReads 81 = .ok (.iaload, 1) := by decide +kernel
theorem dX5_behindReads_82 : decode cX5_behindReads 82 = .ok (.iaload, 1) := by decide +kernel
theorem dX5_behindReads_83 : decode cX5_behindReads 83 = .ok (.aload_n 0, 1) := by decide +kernel
theorem dX5_behindReads_84 : decode cX5_behindReads 84 = .ok (.getfield 9, 3) := by decide +kernel
theorem dX5_behindReads_87 : decode cX5_behindReads 87 = .ok (.aload_n 1, 1) := by decide +kernel
theorem dX5_behindReads_88 : decode cX5_behindReads 88 = .ok (.getfield 40, 3) := by decide +kernel
theorem dX5_behindReads_91 : decode cX5_behindReads 91 = .ok (.iload_n 2, 1) := by decide +kernel
theorem dX5_behindReads_92 : decode cX5_behindReads 92 = .ok (.iaload, 1) := by decide +kernel
theorem dX5_behindReads_93 : decode cX5_behindReads 93 = .ok (.iaload, 1) := by decide +kernel
theorem dX5_behindReads_94 : decode cX5_behindReads 94 = .ok (.ior, 1) := by decide +kernel
theorem dX5_behindReads_95 : decode cX5_behindReads 95 = .ok (.ireturn, 1) := by decide +kernel
theorem dX5_behindReads_96 : decode cX5_behindReads 96 = .ok (.aload_n 0, 1) := by decide +kernel
theorem dX5_behindReads_97 : decode cX5_behindReads 97 = .ok (.getfield 9, 3) := by decide +kernel
theorem dX5_behindReads_100 : decode cX5_behindReads 100 = .ok (.aload_n 1, 1) := by decide +kernel
theorem dX5_behindReads_101 : decode cX5_behindReads 101 = .ok (.getfield 37, 3) := by decide +kernel
theorem dX5_behindReads_104 : decode cX5_behindReads 104 = .ok (.iload_n 2, 1) := by decide +kernel
theorem dX5_behindReads_105 : decode cX5_behindReads 105 = .ok (.iaload, 1) := by decide +kernel
theorem dX5_behindReads_106 : decode cX5_behindReads 106 = .ok (.iaload, 1) := by decide +kernel
theorem dX5_behindReads_107 : decode cX5_behindReads 107 = .ok (.ireturn, 1) := by decide +kernel
theorem dX5_behindReads_108 : decode cX5_behindReads 108 = .ok (.iconst 0, 1) := by decide +kernel
theorem dX5_behindReads_109 : decode cX5_behindReads 109 = .ok (.ireturn, 1) := by decide +kernel
theorem dX6_init_0 : decode cX6_init 0 = .ok (.aload_n 0, 1) := by decide +kernel
theorem dX6_init_1 : decode cX6_init 1 = .ok (.invokespecial 3, 3) := by decide +kernel
theorem dX6_init_4 : decode cX6_init 4 = .ok (.aload_n 0, 1) := by decide +kernel
theorem dX6_init_5 : decode cX6_init 5 = .ok (.bipush 48, 2) := by decide +kernel
theorem dX6_init_7 : decode cX6_init 7 = .ok (.newarray .int, 2) := by decide +kernel
theorem dX6_init_9 : decode cX6_init 9 = .ok (.putfield 9, 3) := by decide +kernel
theorem dX6_init_12 : decode cX6_init 12 = .ok (.aload_n 0, 1) := by decide +kernel
theorem dX6_init_13 : decode cX6_init 13 = .ok (.bipush 72, 2) := by decide +kernel
theorem dX6_init_15 : decode cX6_init 15 = .ok (.newarray .int, 2) := by decide +kernel
theorem dX6_init_17 : decode cX6_init 17 = .ok (.putfield 15, 3) := by decide +kernel
theorem dX6_init_20 : decode cX6_init 20 = .ok (.aload_n 0, 1) := by decide +kernel
theorem dX6_init_21 : decode cX6_init 21 = .ok (.bipush 12, 2) := by decide +kernel
theorem dX6_init_23 : decode cX6_init 23 = .ok (.newarray .int, 2) := by decide +kernel
theorem dX6_init_25 : decode cX6_init 25 = .ok (.putfield 18, 3) := by decide +kernel
theorem dX6_init_28 : decode cX6_init 28 = .ok (.aload_n 0, 1) := by decide +kernel
theorem dX6_init_29 : decode cX6_init 29 = .ok (.iconst 0, 1) := by decide +kernel
theorem dX6_init_30 : decode cX6_init 30 = .ok (.putfield 21, 3) := by decide +kernel
theorem dX6_init_33 : decode cX6_init 33 = .ok (.aload_n 0, 1) := by decide +kernel
theorem dX6_init_34 : decode cX6_init 34 = .ok (.iconst 0, 1) := by decide +kernel
theorem dX6_init_35 : decode cX6_init 35 = .ok (.putfield 25, 3) := by decide +kernel
theorem dX6_init_38 : decode cX6_init 38 = .ok (.return_, 1) := by decide +kernel
theorem dX6_has_0 : decode cX6_has 0 = .ok (.iload_n 1, 1) := by decide +kernel
theorem dX6_has_1 : decode cX6_has 1 = .ok (.ifCond .lt 15, 3) := by decide +kernel
theorem dX6_has_4 : decode cX6_has 4 = .ok (.iload_n 1, 1) := by decide +kernel
theorem dX6_has_5 : decode cX6_has 5 = .ok (.aload_n 0, 1) := by decide +kernel
theorem dX6_has_6 : decode cX6_has 6 = .ok (.getfield 25, 3) := by decide +kernel
theorem dX6_has_9 : decode cX6_has 9 = .ok (.if_icmp .ge 7, 3) := by decide +kernel
theorem dX6_has_12 : decode cX6_has 12 = .ok (.iconst 1, 1) := by decide +kernel
theorem dX6_has_13 : decode cX6_has 13 = .ok (.goto 4, 3) := by decide +kernel
theorem dX6_has_16 : decode cX6_has 16 = .ok (.iconst 0, 1) := by decide +kernel
theorem dX6_has_17 : decode cX6_has 17 = .ok (.ireturn, 1) := by decide +kernel
theorem dX6_isOpen_0 : decode cX6_isOpen 0 = .ok (.aload_n 0, 1) := by decide +kernel
theorem dX6_isOpen_1 : decode cX6_isOpen 1 = .ok (.getfield 21, 3) := by decide +kernel
theorem dX6_isOpen_4 : decode cX6_isOpen 4 = .ok (.iload_n 1, 1) := by decide +kernel
theorem dX6_isOpen_5 : decode cX6_isOpen 5 = .ok (.ishr, 1) := by decide +kernel
theorem dX6_isOpen_6 : decode cX6_isOpen 6 = .ok (.iconst 1, 1) := by decide +kernel
theorem dX6_isOpen_7 : decode cX6_isOpen 7 = .ok (.iand, 1) := by decide +kernel
theorem dX6_isOpen_8 : decode cX6_isOpen 8 = .ok (.ifCond .eq 7, 3) := by decide +kernel
theorem dX6_isOpen_11 : decode cX6_isOpen 11 = .ok (.iconst 1, 1) := by decide +kernel
theorem dX6_isOpen_12 : decode cX6_isOpen 12 = .ok (.goto 4, 3) := by decide +kernel
theorem dX6_isOpen_15 : decode cX6_isOpen 15 = .ok (.iconst 0, 1) := by decide +kernel
theorem dX6_isOpen_16 : decode cX6_isOpen 16 = .ok (.ireturn, 1) := by decide +kernel
theorem dX6_add_0 : decode cX6_add 0 = .ok (.aload_n 0, 1) := by decide +kernel
theorem dX6_add_1 : decode cX6_add 1 = .ok (.getfield 25, 3) := by decide +kernel
theorem dX6_add_4 : decode cX6_add 4 = .ok (.iconst 4, 1) := by decide +kernel
theorem dX6_add_5 : decode cX6_add 5 = .ok (.imul, 1) := by decide +kernel
theorem dX6_add_6 : decode cX6_add 6 = .ok (.istore 5, 2) := by decide +kernel
theorem dX6_add_8 : decode cX6_add 8 = .ok (.aload_n 0, 1) := by decide +kernel
theorem dX6_add_9 : decode cX6_add 9 = .ok (.getfield 9, 3) := by decide +kernel
theorem dX6_add_12 : decode cX6_add 12 = .ok (.iload 5, 2) := by decide +kernel
theorem dX6_add_14 : decode cX6_add 14 = .ok (.iload_n 1, 1) := by decide +kernel
theorem dX6_add_15 : decode cX6_add 15 = .ok (.iastore, 1) := by decide +kernel
theorem dX6_add_16 : decode cX6_add 16 = .ok (.aload_n 0, 1) := by decide +kernel
theorem dX6_add_17 : decode cX6_add 17 = .ok (.getfield 9, 3) := by decide +kernel
theorem dX6_add_20 : decode cX6_add 20 = .ok (.iload 5, 2) := by decide +kernel
theorem dX6_add_22 : decode cX6_add 22 = .ok (.iconst 1, 1) := by decide +kernel
theorem dX6_add_23 : decode cX6_add 23 = .ok (.iadd, 1) := by decide +kernel
theorem dX6_add_24 : decode cX6_add 24 = .ok (.iload_n 2, 1) := by decide +kernel
theorem dX6_add_25 : decode cX6_add 25 = .ok (.iastore, 1) := by decide +kernel
theorem dX6_add_26 : decode cX6_add 26 = .ok (.aload_n 0, 1) := by decide +kernel
theorem dX6_add_27 : decode cX6_add 27 = .ok (.getfield 9, 3) := by decide +kernel
theorem dX6_add_30 : decode cX6_add 30 = .ok (.iload 5, 2) := by decide +kernel
theorem dX6_add_32 : decode cX6_add 32 = .ok (.iconst 2, 1) := by decide +kernel
theorem dX6_add_33 : decode cX6_add 33 = .ok (.iadd, 1) := by decide +kernel
theorem dX6_add_34 : decode cX6_add 34 = .ok (.iload_n 3, 1) := by decide +kernel
theorem dX6_add_35 : decode cX6_add 35 = .ok (.iastore, 1) := by decide +kernel
theorem dX6_add_36 : decode cX6_add 36 = .ok (.aload_n 0, 1) := by decide +kernel
theorem dX6_add_37 : decode cX6_add 37 = .ok (.getfield 9, 3) := by decide +kernel
theorem dX6_add_40 : decode cX6_add 40 = .ok (.iload 5, 2) := by decide +kernel
theorem dX6_add_42 : decode cX6_add 42 = .ok (.iconst 3, 1) := by decide +kernel
theorem dX6_add_43 : decode cX6_add 43 = .ok (.iadd, 1) := by decide +kernel
theorem dX6_add_44 : decode cX6_add 44 = .ok (.iload 4, 2) := by decide +kernel
theorem dX6_add_46 : decode cX6_add 46 = .ok (.iastore, 1) := by decide +kernel
theorem dX6_add_47 : decode cX6_add 47 = .ok (.aload_n 0, 1) := by decide +kernel
theorem dX6_add_48 : decode cX6_add 48 = .ok (.dup, 1) := by decide +kernel
theorem dX6_add_49 : decode cX6_add 49 = .ok (.getfield 25, 3) := by decide +kernel
theorem dX6_add_52 : decode cX6_add 52 = .ok (.iconst 1, 1) := by decide +kernel
theorem dX6_add_53 : decode cX6_add 53 = .ok (.iadd, 1) := by decide +kernel
theorem dX6_add_54 : decode cX6_add 54 = .ok (.putfield 25, 3) := by decide +kernel
theorem dX6_add_57 : decode cX6_add 57 = .ok (.return_, 1) := by decide +kernel
theorem dX6_want_0 : decode cX6_want 0 = .ok (.aload_n 0, 1) := by decide +kernel
theorem dX6_want_1 : decode cX6_want 1 = .ok (.getfield 15, 3) := by decide +kernel
theorem dX6_want_4 : decode cX6_want 4 = .ok (.iload_n 1, 1) := by decide +kernel
theorem dX6_want_5 : decode cX6_want 5 = .ok (.bipush 6, 2) := by decide +kernel
theorem dX6_want_7 : decode cX6_want 7 = .ok (.imul, 1) := by decide +kernel
theorem dX6_want_8 : decode cX6_want 8 = .ok (.aload_n 0, 1) := by decide +kernel
theorem dX6_want_9 : decode cX6_want 9 = .ok (.getfield 18, 3) := by decide +kernel
theorem dX6_want_12 : decode cX6_want 12 = .ok (.iload_n 1, 1) := by decide +kernel
theorem dX6_want_13 : decode cX6_want 13 = .ok (.iaload, 1) := by decide +kernel
theorem dX6_want_14 : decode cX6_want 14 = .ok (.iadd, 1) := by decide +kernel
theorem dX6_want_15 : decode cX6_want 15 = .ok (.iload_n 2, 1) := by decide +kernel
theorem dX6_want_16 : decode cX6_want 16 = .ok (.iastore, 1) := by decide +kernel
theorem dX6_want_17 : decode cX6_want 17 = .ok (.aload_n 0, 1) := by decide +kernel
theorem dX6_want_18 : decode cX6_want 18 = .ok (.getfield 18, 3) := by decide +kernel
theorem dX6_want_21 : decode cX6_want 21 = .ok (.iload_n 1, 1) := by decide +kernel
theorem dX6_want_22 : decode cX6_want 22 = .ok (.dup2, 1) := by decide +kernel
theorem dX6_want_23 : decode cX6_want 23 = .ok (.iaload, 1) := by decide +kernel
theorem dX6_want_24 : decode cX6_want 24 = .ok (.iconst 1, 1) := by decide +kernel
theorem dX6_want_25 : decode cX6_want 25 = .ok (.iadd, 1) := by decide +kernel
theorem dX6_want_26 : decode cX6_want 26 = .ok (.iastore, 1) := by decide +kernel
theorem dX6_want_27 : decode cX6_want 27 = .ok (.return_, 1) := by decide +kernel
theorem dX6_inputOf_0 : decode cX6_inputOf 0 = .ok (.aload_n 0, 1) := by decide +kernel
theorem dX6_inputOf_1 : decode cX6_inputOf 1 = .ok (.getfield 9, 3) := by decide +kernel
theorem dX6_inputOf_4 : decode cX6_inputOf 4 = .ok (.iload_n 1, 1) := by decide +kernel
theorem dX6_inputOf_5 : decode cX6_inputOf 5 = .ok (.iconst 4, 1) := by decide +kernel
theorem dX6_inputOf_6 : decode cX6_inputOf 6 = .ok (.imul, 1) := by decide +kernel
theorem dX6_inputOf_7 : decode cX6_inputOf 7 = .ok (.iload_n 2, 1) := by decide +kernel
theorem dX6_inputOf_8 : decode cX6_inputOf 8 = .ok (.iadd, 1) := by decide +kernel
theorem dX6_inputOf_9 : decode cX6_inputOf 9 = .ok (.iaload, 1) := by decide +kernel
theorem dX6_inputOf_10 : decode cX6_inputOf 10 = .ok (.ireturn, 1) := by decide +kernel
theorem dX6_wantedOf_0 : decode cX6_wantedOf 0 = .ok (.aload_n 0, 1) := by decide +kernel
theorem dX6_wantedOf_1 : decode cX6_wantedOf 1 = .ok (.getfield 15, 3) := by decide +kernel
theorem dX6_wantedOf_4 : decode cX6_wantedOf 4 = .ok (.iload_n 1, 1) := by decide +kernel
theorem dX6_wantedOf_5 : decode cX6_wantedOf 5 = .ok (.bipush 6, 2) := by decide +kernel
theorem dX6_wantedOf_7 : decode cX6_wantedOf 7 = .ok (.imul, 1) := by decide +kernel
theorem dX6_wantedOf_8 : decode cX6_wantedOf 8 = .ok (.iload_n 2, 1) := by decide +kernel
theorem dX6_wantedOf_9 : decode cX6_wantedOf 9 = .ok (.iadd, 1) := by decide +kernel
theorem dX6_wantedOf_10 : decode cX6_wantedOf 10 = .ok (.iaload, 1) := by decide +kernel
theorem dX6_wantedOf_11 : decode cX6_wantedOf 11 = .ok (.ireturn, 1) := by decide +kernel
theorem dX7_init_0 : decode cX7_init 0 = .ok (.aload_n 0, 1) := by decide +kernel
theorem dX7_init_1 : decode cX7_init 1 = .ok (.invokespecial 3, 3) := by decide +kernel
theorem dX7_init_4 : decode cX7_init 4 = .ok (.aload_n 0, 1) := by decide +kernel
theorem dX7_init_5 : decode cX7_init 5 = .ok (.sipush 2324, 3) := by decide +kernel
theorem dX7_init_8 : decode cX7_init 8 = .ok (.newarray .int, 2) := by decide +kernel
theorem dX7_init_10 : decode cX7_init 10 = .ok (.putfield 9, 3) := by decide +kernel
theorem dX7_init_13 : decode cX7_init 13 = .ok (.aload_n 0, 1) := by decide +kernel
theorem dX7_init_14 : decode cX7_init 14 = .ok (.sipush 2324, 3) := by decide +kernel
theorem dX7_init_17 : decode cX7_init 17 = .ok (.newarray .int, 2) := by decide +kernel
theorem dX7_init_19 : decode cX7_init 19 = .ok (.putfield 15, 3) := by decide +kernel
theorem dX7_init_22 : decode cX7_init 22 = .ok (.aload_n 0, 1) := by decide +kernel
theorem dX7_init_23 : decode cX7_init 23 = .ok (.bipush 24, 2) := by decide +kernel
theorem dX7_init_25 : decode cX7_init 25 = .ok (.newarray .int, 2) := by decide +kernel
theorem dX7_init_27 : decode cX7_init 27 = .ok (.putfield 18, 3) := by decide +kernel
theorem dX7_init_30 : decode cX7_init 30 = .ok (.aload_n 0, 1) := by decide +kernel
theorem dX7_init_31 : decode cX7_init 31 = .ok (.iconst 0, 1) := by decide +kernel
theorem dX7_init_32 : decode cX7_init 32 = .ok (.putfield 21, 3) := by decide +kernel
theorem dX7_init_35 : decode cX7_init 35 = .ok (.aload_n 0, 1) := by decide +kernel
theorem dX7_init_36 : decode cX7_init 36 = .ok (.iconst 0, 1) := by decide +kernel
theorem dX7_init_37 : decode cX7_init 37 = .ok (.putfield 25, 3) := by decide +kernel
theorem dX7_init_40 : decode cX7_init 40 = .ok (.aload_n 0, 1) := by decide +kernel
theorem dX7_init_41 : decode cX7_init 41 = .ok (.aload_n 1, 1) := by decide +kernel
theorem dX7_init_42 : decode cX7_init 42 = .ok (.putfield 28, 3) := by decide +kernel
theorem dX7_init_45 : decode cX7_init 45 = .ok (.iconst 0, 1) := by decide +kernel
theorem dX7_init_46 : decode cX7_init 46 = .ok (.istore_n 2, 1) := by decide +kernel
theorem dX7_init_47 : decode cX7_init 47 = .ok (.iload_n 2, 1) := by decide +kernel
theorem dX7_init_48 : decode cX7_init 48 = .ok (.bipush 24, 2) := by decide +kernel
theorem dX7_init_50 : decode cX7_init 50 = .ok (.if_icmp .ge 16, 3) := by decide +kernel
theorem dX7_init_53 : decode cX7_init 53 = .ok (.aload_n 0, 1) := by decide +kernel
theorem dX7_init_54 : decode cX7_init 54 = .ok (.getfield 18, 3) := by decide +kernel
theorem dX7_init_57 : decode cX7_init 57 = .ok (.iload_n 2, 1) := by decide +kernel
theorem dX7_init_58 : decode cX7_init 58 = .ok (.iconst 2, 1) := by decide +kernel
theorem dX7_init_59 : decode cX7_init 59 = .ok (.iastore, 1) := by decide +kernel
theorem dX7_init_60 : decode cX7_init 60 = .ok (.iinc 2 1, 3) := by decide +kernel
theorem dX7_init_63 : decode cX7_init 63 = .ok (.goto (-16), 3) := by decide +kernel
theorem dX7_init_66 : decode cX7_init 66 = .ok (.return_, 1) := by decide +kernel
theorem dX7_has_0 : decode cX7_has 0 = .ok (.iload_n 1, 1) := by decide +kernel
theorem dX7_has_1 : decode cX7_has 1 = .ok (.ifCond .lt 15, 3) := by decide +kernel
theorem dX7_has_4 : decode cX7_has 4 = .ok (.iload_n 1, 1) := by decide +kernel
theorem dX7_has_5 : decode cX7_has 5 = .ok (.aload_n 0, 1) := by decide +kernel
theorem dX7_has_6 : decode cX7_has 6 = .ok (.getfield 21, 3) := by decide +kernel
theorem dX7_has_9 : decode cX7_has 9 = .ok (.if_icmp .ge 7, 3) := by decide +kernel
theorem dX7_has_12 : decode cX7_has 12 = .ok (.iconst 1, 1) := by decide +kernel
theorem dX7_has_13 : decode cX7_has 13 = .ok (.goto 4, 3) := by decide +kernel
theorem dX7_has_16 : decode cX7_has 16 = .ok (.iconst 0, 1) := by decide +kernel
theorem dX7_has_17 : decode cX7_has 17 = .ok (.ireturn, 1) := by decide +kernel
set_option maxRecDepth 20000 in
theorem ggX7_gather_X7_gatherSingle : GoodIn wsX7_gather wsX7_gatherSingle := goodIn_r _ [9, 3, 10, 11, 12, 13, 8, 14, 4, 15, 16, 17, 18, 1, 19, 20, 37, 38, 39, 40, 41, 42, 43, 44, 45, 46] (by decide +kernel) (by decide +kernel)
set_option maxRecDepth 20000 in
theorem gX7_gather_X7_gatherSingle : GoodIn wsX7_gather (wsV RX7 37 RX7 yX7_gatherSingle wsX7_gatherSingle) := goodIn_app (goodIn_of _ (by decide +kernel)) ggX7_gather_X7_gatherSingle
set_option maxRecDepth 20000 in
theorem ggX7_gather_X7_gatherPairs : GoodIn wsX7_gather wsX7_gatherPairs := goodIn_r _ [24, 3, 10, 25, 26, 27, 8, 28, 11, 12, 13, 14, 4, 15, 16, 17, 18, 1, 19, 20, 37, 38, 39, 40, 41, 42, 43, 44, 45, 46] (by decide +kernel) (by decide +kernel)
set_option maxRecDepth 20000 in
theorem gX7_gather_X7_gatherPairs : GoodIn wsX7_gather (wsV RX7 41 RX7 yX7_gatherPairs wsX7_gatherPairs) := goodIn_app (goodIn_of _ (by decide +kernel)) ggX7_gather_X7_gatherPairs
set_option maxRecDepth 20000 in
theorem ggX7_gather_X7_gatherTriples : GoodIn wsX7_gather wsX7_gatherTriples := goodIn_r _ [32, 3, 10, 25, 26, 27, 8, 28, 11, 12, 13, 14, 4, 33, 34, 35, 36, 15, 16, 17, 18, 1, 19, 20, 37, 38, 39, 40, 41, 42, 43, 44, 45, 46] (by decide +kernel) (by decide +kernel)
set_option maxRecDepth 20000 in
theorem gX7_gather_X7_gatherTriples : GoodIn wsX7_gather (wsV RX7 44 RX7 yX7_gatherTriples wsX7_gatherTriples) := goodIn_app (goodIn_of _ (by decide +kernel)) ggX7_gather_X7_gatherTriples
theorem dX7_gather_0 : decode cX7_gather 0 = .ok (.aload_n 0, 1) := by decide +kernel
theorem dX7_gather_1 : decode cX7_gather 1 = .ok (.iconst 0, 1) := by decide +kernel
theorem dX7_gather_2 : decode cX7_gather 2 = .ok (.putfield 21, 3) := by decide +kernel
theorem dX7_gather_5 : decode cX7_gather 5 = .ok (.aload_n 0, 1) := by decide +kernel
theorem dX7_gather_6 : decode cX7_gather 6 = .ok (.iload_n 1, 1) := by decide +kernel
theorem dX7_gather_7 : decode cX7_gather 7 = .ok (.putfield 25, 3) := by decide +kernel
theorem dX7_gather_10 : decode cX7_gather 10 = .ok (.aload_n 0, 1) := by decide +kernel
theorem dX7_gather_11 : decode cX7_gather 11 = .ok (.getfield 28, 3) := by decide +kernel
theorem dX7_gather_14 : decode cX7_gather 14 = .ok (.getfield 32, 3) := by decide +kernel
theorem dX7_gather_17 : decode cX7_gather 17 = .ok (.ifCond .ne 4, 3) := by decide +kernel
theorem dX7_gather_20 : decode cX7_gather 20 = .ok (.return_, 1) := by decide +kernel
theorem dX7_gather_21 : decode cX7_gather 21 = .ok (.iconst 0, 1) := by decide +kernel
theorem dX7_gather_22 : decode cX7_gather 22 = .ok (.istore_n 2, 1) := by decide +kernel
theorem dX7_gather_23 : decode cX7_gather 23 = .ok (.iload_n 2, 1) := by decide +kernel
theorem dX7_gather_24 : decode cX7_gather 24 = .ok (.aload_n 0, 1) := by decide +kernel
theorem dX7_gather_25 : decode cX7_gather 25 = .ok (.getfield 25, 3) := by decide +kernel
theorem dX7_gather_28 : decode cX7_gather 28 = .ok (.if_icmp .ge 14, 3) := by decide +kernel
theorem dX7_gather_31 : decode cX7_gather 31 = .ok (.aload_n 0, 1) := by decide +kernel
theorem dX7_gather_32 : decode cX7_gather 32 = .ok (.iload_n 2, 1) := by decide +kernel
theorem dX7_gather_33 : decode cX7_gather 33 = .ok (.invokevirtual 37, 3) := by decide +kernel
theorem dX7_gather_36 : decode cX7_gather 36 = .ok (.iinc 2 1, 3) := by decide +kernel
theorem dX7_gather_39 : decode cX7_gather 39 = .ok (.goto (-16), 3) := by decide +kernel
theorem dX7_gather_42 : decode cX7_gather 42 = .ok (.iconst 1, 1) := by decide +kernel
theorem dX7_gather_43 : decode cX7_gather 43 = .ok (.istore_n 2, 1) := by decide +kernel
theorem dX7_gather_44 : decode cX7_gather 44 = .ok (.iload_n 2, 1) := by decide +kernel
theorem dX7_gather_45 : decode cX7_gather 45 = .ok (.aload_n 0, 1) := by decide +kernel
theorem dX7_gather_46 : decode cX7_gather 46 = .ok (.getfield 25, 3) := by decide +kernel
theorem dX7_gather_49 : decode cX7_gather 49 = .ok (.if_icmp .ge 14, 3) := by decide +kernel
theorem dX7_gather_52 : decode cX7_gather 52 = .ok (.aload_n 0, 1) := by decide +kernel
theorem dX7_gather_53 : decode cX7_gather 53 = .ok (.iload_n 2, 1) := by decide +kernel
theorem dX7_gather_54 : decode cX7_gather 54 = .ok (.invokevirtual 41, 3) := by decide +kernel
theorem dX7_gather_57 : decode cX7_gather 57 = .ok (.iinc 2 1, 3) := by decide +kernel
theorem dX7_gather_60 : decode cX7_gather 60 = .ok (.goto (-16), 3) := by decide +kernel
theorem dX7_gather_63 : decode cX7_gather 63 = .ok (.iconst 2, 1) := by decide +kernel
theorem dX7_gather_64 : decode cX7_gather 64 = .ok (.istore_n 2, 1) := by decide +kernel
theorem dX7_gather_65 : decode cX7_gather 65 = .ok (.iload_n 2, 1) := by decide +kernel
theorem dX7_gather_66 : decode cX7_gather 66 = .ok (.aload_n 0, 1) := by decide +kernel
theorem dX7_gather_67 : decode cX7_gather 67 = .ok (.getfield 25, 3) := by decide +kernel
theorem dX7_gather_70 : decode cX7_gather 70 = .ok (.if_icmp .ge 14, 3) := by decide +kernel
theorem dX7_gather_73 : decode cX7_gather 73 = .ok (.aload_n 0, 1) := by decide +kernel
theorem dX7_gather_74 : decode cX7_gather 74 = .ok (.iload_n 2, 1) := by decide +kernel
theorem dX7_gather_75 : decode cX7_gather 75 = .ok (.invokevirtual 44, 3) := by decide +kernel
theorem dX7_gather_78 : decode cX7_gather 78 = .ok (.iinc 2 1, 3) := by decide +kernel
theorem dX7_gather_81 : decode cX7_gather 81 = .ok (.goto (-16), 3) := by decide +kernel
theorem dX7_gather_84 : decode cX7_gather 84 = .ok (.return_, 1) := by decide +kernel
set_option maxRecDepth 20000 in
theorem ggX7_gatherSingle_X7_explains : GoodIn wsX7_gatherSingle wsX7_explains := goodIn_r _ [7, 1, 8, 16, 17, 18, 19, 20, 21, 22, 23, 24, 25] (by decide +kernel) (by decide +kernel)
set_option maxRecDepth 20000 in
theorem gX7_gatherSingle_X7_explains : GoodIn wsX7_gatherSingle (wsV RX7 50 RX7 yX7_explains wsX7_explains) := goodIn_app (goodIn_of _ (by decide +kernel)) ggX7_gatherSingle_X7_explains
set_option maxRecDepth 20000 in
theorem ggX7_gatherSingle_X7_keep : GoodIn wsX7_gatherSingle wsX7_keep := goodIn_r _ [12, 13, 14, 15, 16, 17, 18, 19, 20, 21] (by decide +kernel) (by decide +kernel)
set_option maxRecDepth 20000 in
theorem gX7_gatherSingle_X7_keep : GoodIn wsX7_gatherSingle (wsV RX7 54 RX7 yX7_keep wsX7_keep) := goodIn_app (goodIn_of _ (by decide +kernel)) ggX7_gatherSingle_X7_keep
theorem dX7_gatherSingle_0 : decode cX7_gatherSingle 0 = .ok (.aload_n 0, 1) := by decide +kernel
theorem dX7_gatherSingle_1 : decode cX7_gatherSingle 1 = .ok (.aload_n 0, 1) := by decide +kernel
theorem dX7_gatherSingle_2 : decode cX7_gatherSingle 2 = .ok (.getfield 28, 3) := by decide +kernel
theorem dX7_gatherSingle_5 : decode cX7_gatherSingle 5 = .ok (.getfield 47, 3) := by decide +kernel
theorem dX7_gatherSingle_8 : decode cX7_gatherSingle 8 = .ok (.iload_n 1, 1) := by decide +kernel
theorem dX7_gatherSingle_9 : decode cX7_gatherSingle 9 = .ok (.iaload, 1) := by decide +kernel
theorem dX7_gatherSingle_10 : decode cX7_gatherSingle 10 = .ok (.invokevirtual 50, 3) := by decide +kernel
theorem dX7_gatherSingle_13 : decode cX7_gatherSingle 13 = .ok (.ifCond .eq 19, 3) := by decide +kernel
theorem dX7_gatherSingle_16 : decode cX7_gatherSingle 16 = .ok (.aload_n 0, 1) := by decide +kernel
theorem dX7_gatherSingle_17 : decode cX7_gatherSingle 17 = .ok (.iconst 1, 1) := by decide +kernel
theorem dX7_gatherSingle_18 : decode cX7_gatherSingle 18 = .ok (.iload_n 1, 1) := by decide +kernel
theorem dX7_gatherSingle_19 : decode cX7_gatherSingle 19 = .ok (.ishl, 1) := by decide +kernel
theorem dX7_gatherSingle_20 : decode cX7_gatherSingle 20 = .ok (.aload_n 0, 1) := by decide +kernel
theorem dX7_gatherSingle_21 : decode cX7_gatherSingle 21 = .ok (.getfield 28, 3) := by decide +kernel
theorem dX7_gatherSingle_24 : decode cX7_gatherSingle 24 = .ok (.getfield 47, 3) := by decide +kernel
theorem dX7_gatherSingle_27 : decode cX7_gatherSingle 27 = .ok (.iload_n 1, 1) := by decide +kernel
theorem dX7_gatherSingle_28 : decode cX7_gatherSingle 28 = .ok (.iaload, 1) := by decide +kernel
theorem dX7_gatherSingle_29 : decode cX7_gatherSingle 29 = .ok (.invokevirtual 54, 3) := by decide +kernel
theorem dX7_gatherSingle_32 : decode cX7_gatherSingle 32 = .ok (.return_, 1) := by decide +kernel
set_option maxRecDepth 20000 in
theorem ggX7_gatherPairs_X7_pairMetBy : GoodIn wsX7_gatherPairs wsX7_pairMetBy := goodIn_r _ [7, 1, 2, 20, 21, 22, 23, 24, 25, 26, 27, 28, 29] (by decide +kernel) (by decide +kernel)
set_option maxRecDepth 20000 in
theorem gX7_gatherPairs_X7_pairMetBy : GoodIn wsX7_gatherPairs (wsV RX7 58 RX7 yX7_pairMetBy wsX7_pairMetBy) := goodIn_app (goodIn_of _ (by decide +kernel)) ggX7_gatherPairs_X7_pairMetBy
set_option maxRecDepth 20000 in
theorem ggX7_gatherPairs_X7_explains : GoodIn wsX7_gatherPairs wsX7_explains := goodIn_r _ [11, 1, 12, 20, 21, 22, 23, 24, 25, 26, 27, 28, 29] (by decide +kernel) (by decide +kernel)
set_option maxRecDepth 20000 in
theorem gX7_gatherPairs_X7_explains : GoodIn wsX7_gatherPairs (wsV RX7 50 RX7 yX7_explains wsX7_explains) := goodIn_app (goodIn_of _ (by decide +kernel)) ggX7_gatherPairs_X7_explains
set_option maxRecDepth 20000 in
theorem ggX7_gatherPairs_X7_keep : GoodIn wsX7_gatherPairs wsX7_keep := goodIn_r _ [16, 17, 18, 19, 20, 21, 22, 23, 24, 25] (by decide +kernel) (by decide +kernel)
set_option maxRecDepth 20000 in
theorem gX7_gatherPairs_X7_keep : GoodIn wsX7_gatherPairs (wsV RX7 54 RX7 yX7_keep wsX7_keep) := goodIn_app (goodIn_of _ (by decide +kernel)) ggX7_gatherPairs_X7_keep
theorem dX7_gatherPairs_0 : decode cX7_gatherPairs 0 = .ok (.iconst 0, 1) := by decide +kernel
theorem dX7_gatherPairs_1 : decode cX7_gatherPairs 1 = .ok (.istore_n 2, 1) := by decide +kernel
theorem dX7_gatherPairs_2 : decode cX7_gatherPairs 2 = .ok (.iload_n 2, 1) := by decide +kernel
theorem dX7_gatherPairs_3 : decode cX7_gatherPairs 3 = .ok (.iload_n 1, 1) := by decide +kernel
theorem dX7_gatherPairs_4 : decode cX7_gatherPairs 4 = .ok (.if_icmp .ge 68, 3) := by decide +kernel
theorem dX7_gatherPairs_7 : decode cX7_gatherPairs 7 = .ok (.aload_n 0, 1) := by decide +kernel
theorem dX7_gatherPairs_8 : decode cX7_gatherPairs 8 = .ok (.iload_n 2, 1) := by decide +kernel
theorem dX7_gatherPairs_9 : decode cX7_gatherPairs 9 = .ok (.iload_n 1, 1) := by decide +kernel
theorem dX7_gatherPairs_10 : decode cX7_gatherPairs 10 = .ok (.invokevirtual 58, 3) := by decide +kernel
theorem dX7_gatherPairs_13 : decode cX7_gatherPairs 13 = .ok (.istore_n 3, 1) := by decide +kernel
theorem dX7_gatherPairs_14 : decode cX7_gatherPairs 14 = .ok (.aload_n 0, 1) := by decide +kernel
theorem dX7_gatherPairs_15 : decode cX7_gatherPairs 15 = .ok (.iload_n 3, 1) := by decide +kernel
theorem dX7_gatherPairs_16 : decode cX7_gatherPairs 16 = .ok (.invokevirtual 50, 3) := by decide +kernel
theorem dX7_gatherPairs_19 : decode cX7_gatherPairs 19 = .ok (.ifCond .eq 47, 3) := by decide +kernel
theorem dX7_gatherPairs_22 : decode cX7_gatherPairs 22 = .ok (.aload_n 0, 1) := by decide +kernel
theorem dX7_gatherPairs_23 : decode cX7_gatherPairs 23 = .ok (.aload_n 0, 1) := by decide +kernel
theorem dX7_gatherPairs_24 : decode cX7_gatherPairs 24 = .ok (.getfield 28, 3) := by decide +kernel
theorem dX7_gatherPairs_27 : decode cX7_gatherPairs 27 = .ok (.getfield 47, 3) := by decide +kernel
theorem dX7_gatherPairs_30 : decode cX7_gatherPairs 30 = .ok (.iload_n 2, 1) := by decide +kernel
theorem dX7_gatherPairs_31 : decode cX7_gatherPairs 31 = .ok (.iaload, 1) := by decide +kernel
theorem dX7_gatherPairs_32 : decode cX7_gatherPairs 32 = .ok (.invokevirtual 50, 3) := by decide +kernel
theorem dX7_gatherPairs_35 : decode cX7_gatherPairs 35 = .ok (.ifCond .ne 31, 3) := by decide +kernel
theorem dX7_gatherPairs_38 : decode cX7_gatherPairs 38 = .ok (.aload_n 0, 1) := by decide +kernel
theorem dX7_gatherPairs_39 : decode cX7_gatherPairs 39 = .ok (.aload_n 0, 1) := by decide +kernel
theorem dX7_gatherPairs_40 : decode cX7_gatherPairs 40 = .ok (.getfield 28, 3) := by decide +kernel
theorem dX7_gatherPairs_43 : decode cX7_gatherPairs 43 = .ok (.getfield 47, 3) := by decide +kernel
theorem dX7_gatherPairs_46 : decode cX7_gatherPairs 46 = .ok (.iload_n 1, 1) := by decide +kernel
theorem dX7_gatherPairs_47 : decode cX7_gatherPairs 47 = .ok (.iaload, 1) := by decide +kernel
theorem dX7_gatherPairs_48 : decode cX7_gatherPairs 48 = .ok (.invokevirtual 50, 3) := by decide +kernel
theorem dX7_gatherPairs_51 : decode cX7_gatherPairs 51 = .ok (.ifCond .ne 15, 3) := by decide +kernel
theorem dX7_gatherPairs_54 : decode cX7_gatherPairs 54 = .ok (.aload_n 0, 1) := by decide +kernel
theorem dX7_gatherPairs_55 : decode cX7_gatherPairs 55 = .ok (.iconst 1, 1) := by decide +kernel
theorem dX7_gatherPairs_56 : decode cX7_gatherPairs 56 = .ok (.iload_n 2, 1) := by decide +kernel
theorem dX7_gatherPairs_57 : decode cX7_gatherPairs 57 = .ok (.ishl, 1) := by decide +kernel
theorem dX7_gatherPairs_58 : decode cX7_gatherPairs 58 = .ok (.iconst 1, 1) := by decide +kernel
theorem dX7_gatherPairs_59 : decode cX7_gatherPairs 59 = .ok (.iload_n 1, 1) := by decide +kernel
theorem dX7_gatherPairs_60 : decode cX7_gatherPairs 60 = .ok (.ishl, 1) := by decide +kernel
theorem dX7_gatherPairs_61 : decode cX7_gatherPairs 61 = .ok (.ior, 1) := by decide +kernel
theorem dX7_gatherPairs_62 : decode cX7_gatherPairs 62 = .ok (.iload_n 3, 1) := by decide +kernel
theorem dX7_gatherPairs_63 : decode cX7_gatherPairs 63 = .ok (.invokevirtual 54, 3) := by decide +kernel
theorem dX7_gatherPairs_66 : decode cX7_gatherPairs 66 = .ok (.iinc 2 1, 3) := by decide +kernel
theorem dX7_gatherPairs_69 : decode cX7_gatherPairs 69 = .ok (.goto (-67), 3) := by decide +kernel
theorem dX7_gatherPairs_72 : decode cX7_gatherPairs 72 = .ok (.return_, 1) := by decide +kernel
set_option maxRecDepth 20000 in
theorem ggX7_gatherTriples_X7_pairMetBy : GoodIn wsX7_gatherTriples wsX7_pairMetBy := goodIn_r _ [7, 1, 2, 24, 25, 26, 27, 28, 29, 30, 31, 32, 33] (by decide +kernel) (by decide +kernel)
set_option maxRecDepth 20000 in
theorem gX7_gatherTriples_X7_pairMetBy : GoodIn wsX7_gatherTriples (wsV RX7 58 RX7 yX7_pairMetBy wsX7_pairMetBy) := goodIn_app (goodIn_of _ (by decide +kernel)) ggX7_gatherTriples_X7_pairMetBy
set_option maxRecDepth 20000 in
theorem ggX7_gatherTriples_X7_explains : GoodIn wsX7_gatherTriples wsX7_explains := goodIn_r _ [11, 1, 12, 24, 25, 26, 27, 28, 29, 30, 31, 32, 33] (by decide +kernel) (by decide +kernel)
set_option maxRecDepth 20000 in
theorem gX7_gatherTriples_X7_explains : GoodIn wsX7_gatherTriples (wsV RX7 50 RX7 yX7_explains wsX7_explains) := goodIn_app (goodIn_of _ (by decide +kernel)) ggX7_gatherTriples_X7_explains
set_option maxRecDepth 20000 in
theorem ggX7_gatherTriples_X7_noPairExplains : GoodIn wsX7_gatherTriples wsX7_noPairExplains := goodIn_r _ [16, 3, 4, 5, 6, 7, 1, 2, 8, 9, 10, 11, 12, 24, 25, 26, 27, 28, 29, 30, 31, 32, 33] (by decide +kernel) (by decide +kernel)
set_option maxRecDepth 20000 in
theorem gX7_gatherTriples_X7_noPairExplains : GoodIn wsX7_gatherTriples (wsV RX7 62 RX7 yX7_noPairExplains wsX7_noPairExplains) := goodIn_app (goodIn_of _ (by decide +kernel)) ggX7_gatherTriples_X7_noPairExplains
set_option maxRecDepth 20000 in
theorem ggX7_gatherTriples_X7_keep : GoodIn wsX7_gatherTriples wsX7_keep := goodIn_r _ [20, 21, 22, 23, 24, 25, 26, 27, 28, 29] (by decide +kernel) (by decide +kernel)
set_option maxRecDepth 20000 in
theorem gX7_gatherTriples_X7_keep : GoodIn wsX7_gatherTriples (wsV RX7 54 RX7 yX7_keep wsX7_keep) := goodIn_app (goodIn_of _ (by decide +kernel)) ggX7_gatherTriples_X7_keep
theorem dX7_gatherTriples_0 : decode cX7_gatherTriples 0 = .ok (.iconst 1, 1) := by decide +kernel
theorem dX7_gatherTriples_1 : decode cX7_gatherTriples 1 = .ok (.istore_n 2, 1) := by decide +kernel
theorem dX7_gatherTriples_2 : decode cX7_gatherTriples 2 = .ok (.iload_n 2, 1) := by decide +kernel
theorem dX7_gatherTriples_3 : decode cX7_gatherTriples 3 = .ok (.iload_n 1, 1) := by decide +kernel
theorem dX7_gatherTriples_4 : decode cX7_gatherTriples 4 = .ok (.if_icmp .ge 76, 3) := by decide +kernel
theorem dX7_gatherTriples_7 : decode cX7_gatherTriples 7 = .ok (.iconst 0, 1) := by decide +kernel
theorem dX7_gatherTriples_8 : decode cX7_gatherTriples 8 = .ok (.istore_n 3, 1) := by decide +kernel
theorem dX7_gatherTriples_9 : decode cX7_gatherTriples 9 = .ok (.iload_n 3, 1) := by decide +kernel
theorem dX7_gatherTriples_10 : decode cX7_gatherTriples 10 = .ok (.iload_n 2, 1) := by decide +kernel
theorem dX7_gatherTriples_11 : decode cX7_gatherTriples 11 = .ok (.if_icmp .ge 63, 3) := by decide +kernel
theorem dX7_gatherTriples_14 : decode cX7_gatherTriples 14 = .ok (.aload_n 0, 1) := by decide +kernel
theorem dX7_gatherTriples_15 : decode cX7_gatherTriples 15 = .ok (.getfield 28, 3) := by decide +kernel
theorem dX7_gatherTriples_18 : decode cX7_gatherTriples 18 = .ok (.getfield 47, 3) := by decide +kernel
theorem dX7_gatherTriples_21 : decode cX7_gatherTriples 21 = .ok (.iload_n 3, 1) := by decide +kernel
theorem dX7_gatherTriples_22 : decode cX7_gatherTriples 22 = .ok (.iaload, 1) := by decide +kernel
theorem dX7_gatherTriples_23 : decode cX7_gatherTriples 23 = .ok (.aload_n 0, 1) := by decide +kernel
theorem dX7_gatherTriples_24 : decode cX7_gatherTriples 24 = .ok (.iload_n 2, 1) := by decide +kernel
theorem dX7_gatherTriples_25 : decode cX7_gatherTriples 25 = .ok (.iload_n 1, 1) := by decide +kernel
theorem dX7_gatherTriples_26 : decode cX7_gatherTriples 26 = .ok (.invokevirtual 58, 3) := by decide +kernel
theorem dX7_gatherTriples_29 : decode cX7_gatherTriples 29 = .ok (.ior, 1) := by decide +kernel
theorem dX7_gatherTriples_30 : decode cX7_gatherTriples 30 = .ok (.istore 4, 2) := by decide +kernel
theorem dX7_gatherTriples_32 : decode cX7_gatherTriples 32 = .ok (.aload_n 0, 1) := by decide +kernel
theorem dX7_gatherTriples_33 : decode cX7_gatherTriples 33 = .ok (.iload 4, 2) := by decide +kernel
theorem dX7_gatherTriples_35 : decode cX7_gatherTriples 35 = .ok (.invokevirtual 50, 3) := by decide +kernel
theorem dX7_gatherTriples_38 : decode cX7_gatherTriples 38 = .ok (.ifCond .eq 30, 3) := by decide +kernel
theorem dX7_gatherTriples_41 : decode cX7_gatherTriples 41 = .ok (.aload_n 0, 1) := by decide +kernel
theorem dX7_gatherTriples_42 : decode cX7_gatherTriples 42 = .ok (.iload_n 3, 1) := by decide +kernel
theorem dX7_gatherTriples_43 : decode cX7_gatherTriples 43 = .ok (.iload_n 2, 1) := by decide +kernel
theorem dX7_gatherTriples_44 : decode cX7_gatherTriples 44 = .ok (.iload_n 1, 1) := by decide +kernel
theorem dX7_gatherTriples_45 : decode cX7_gatherTriples 45 = .ok (.invokevirtual 62, 3) := by decide +kernel
theorem dX7_gatherTriples_48 : decode cX7_gatherTriples 48 = .ok (.ifCond .eq 20, 3) := by decide +kernel
theorem dX7_gatherTriples_51 : decode cX7_gatherTriples 51 = .ok (.aload_n 0, 1) := by decide +kernel
theorem dX7_gatherTriples_52 : decode cX7_gatherTriples 52 = .ok (.iconst 1, 1) := by decide +kernel
theorem dX7_gatherTriples_53 : decode cX7_gatherTriples 53 = .ok (.iload_n 3, 1) := by decide +kernel
theorem dX7_gatherTriples_54 : decode cX7_gatherTriples 54 = .ok (.ishl, 1) := by decide +kernel
theorem dX7_gatherTriples_55 : decode cX7_gatherTriples 55 = .ok (.iconst 1, 1) := by decide +kernel
theorem dX7_gatherTriples_56 : decode cX7_gatherTriples 56 = .ok (.iload_n 2, 1) := by decide +kernel
theorem dX7_gatherTriples_57 : decode cX7_gatherTriples 57 = .ok (.ishl, 1) := by decide +kernel
theorem dX7_gatherTriples_58 : decode cX7_gatherTriples 58 = .ok (.ior, 1) := by decide +kernel
theorem dX7_gatherTriples_59 : decode cX7_gatherTriples 59 = .ok (.iconst 1, 1) := by decide +kernel
theorem dX7_gatherTriples_60 : decode cX7_gatherTriples 60 = .ok (.iload_n 1, 1) := by decide +kernel
theorem dX7_gatherTriples_61 : decode cX7_gatherTriples 61 = .ok (.ishl, 1) := by decide +kernel
theorem dX7_gatherTriples_62 : decode cX7_gatherTriples 62 = .ok (.ior, 1) := by decide +kernel
theorem dX7_gatherTriples_63 : decode cX7_gatherTriples 63 = .ok (.iload 4, 2) := by decide +kernel
theorem dX7_gatherTriples_65 : decode cX7_gatherTriples 65 = .ok (.invokevirtual 54, 3) := by decide +kernel
theorem dX7_gatherTriples_68 : decode cX7_gatherTriples 68 = .ok (.iinc 3 1, 3) := by decide +kernel
theorem dX7_gatherTriples_71 : decode cX7_gatherTriples 71 = .ok (.goto (-62), 3) := by decide +kernel
theorem dX7_gatherTriples_74 : decode cX7_gatherTriples 74 = .ok (.iinc 2 1, 3) := by decide +kernel
theorem dX7_gatherTriples_77 : decode cX7_gatherTriples 77 = .ok (.goto (-75), 3) := by decide +kernel
theorem dX7_gatherTriples_80 : decode cX7_gatherTriples 80 = .ok (.return_, 1) := by decide +kernel
set_option maxRecDepth 20000 in
theorem ggX7_noPairExplains_X7_pairMetBy : GoodIn wsX7_noPairExplains wsX7_pairMetBy := goodIn_r _ [5, 6, 7, 13, 14, 15, 16, 17, 18, 19, 20, 21, 22] (by decide +kernel) (by decide +kernel)
set_option maxRecDepth 20000 in
theorem gX7_noPairExplains_X7_pairMetBy : GoodIn wsX7_noPairExplains (wsV RX7 58 RX7 yX7_pairMetBy wsX7_pairMetBy) := goodIn_app (goodIn_of _ (by decide +kernel)) ggX7_noPairExplains_X7_pairMetBy
set_option maxRecDepth 20000 in
theorem ggX7_noPairExplains_X7_explains : GoodIn wsX7_noPairExplains wsX7_explains := goodIn_r _ [11, 6, 12, 13, 14, 15, 16, 17, 18, 19, 20, 21, 22] (by decide +kernel) (by decide +kernel)
set_option maxRecDepth 20000 in
theorem gX7_noPairExplains_X7_explains : GoodIn wsX7_noPairExplains (wsV RX7 50 RX7 yX7_explains wsX7_explains) := goodIn_app (goodIn_of _ (by decide +kernel)) ggX7_noPairExplains_X7_explains
theorem dX7_noPairExplains_0 : decode cX7_noPairExplains 0 = .ok (.aload_n 0, 1) := by decide +kernel
theorem dX7_noPairExplains_1 : decode cX7_noPairExplains 1 = .ok (.aload_n 0, 1) := by decide +kernel
theorem dX7_noPairExplains_2 : decode cX7_noPairExplains 2 = .ok (.iload_n 1, 1) := by decide +kernel
theorem dX7_noPairExplains_3 : decode cX7_noPairExplains 3 = .ok (.iload_n 2, 1) := by decide +kernel
theorem dX7_noPairExplains_4 : decode cX7_noPairExplains 4 = .ok (.invokevirtual 58, 3) := by decide +kernel
theorem dX7_noPairExplains_7 : decode cX7_noPairExplains 7 = .ok (.invokevirtual 50, 3) := by decide +kernel
theorem dX7_noPairExplains_10 : decode cX7_noPairExplains 10 = .ok (.ifCond .ne 33, 3) := by decide +kernel
theorem dX7_noPairExplains_13 : decode cX7_noPairExplains 13 = .ok (.aload_n 0, 1) := by decide +kernel
theorem dX7_noPairExplains_14 : decode cX7_noPairExplains 14 = .ok (.aload_n 0, 1) := by decide +kernel
theorem dX7_noPairExplains_15 : decode cX7_noPairExplains 15 = .ok (.iload_n 1, 1) := by decide +kernel
theorem dX7_noPairExplains_16 : decode cX7_noPairExplains 16 = .ok (.iload_n 3, 1) := by decide +kernel
theorem dX7_noPairExplains_17 : decode cX7_noPairExplains 17 = .ok (.invokevirtual 58, 3) := by decide +kernel
theorem dX7_noPairExplains_20 : decode cX7_noPairExplains 20 = .ok (.invokevirtual 50, 3) := by decide +kernel
theorem dX7_noPairExplains_23 : decode cX7_noPairExplains 23 = .ok (.ifCond .ne 20, 3) := by decide +kernel
theorem dX7_noPairExplains_26 : decode cX7_noPairExplains 26 = .ok (.aload_n 0, 1) := by decide +kernel
theorem dX7_noPairExplains_27 : decode cX7_noPairExplains 27 = .ok (.aload_n 0, 1) := by decide +kernel
theorem dX7_noPairExplains_28 : decode cX7_noPairExplains 28 = .ok (.iload_n 2, 1) := by decide +kernel
theorem dX7_noPairExplains_29 : decode cX7_noPairExplains 29 = .ok (.iload_n 3, 1) := by decide +kernel
theorem dX7_noPairExplains_30 : decode cX7_noPairExplains 30 = .ok (.invokevirtual 58, 3) := by decide +kernel
theorem dX7_noPairExplains_33 : decode cX7_noPairExplains 33 = .ok (.invokevirtual 50, 3) := by decide +kernel
theorem dX7_noPairExplains_36 : decode cX7_noPairExplains 36 = .ok (.ifCond .ne 7, 3) := by decide +kernel
theorem dX7_noPairExplains_39 : decode cX7_noPairExplains 39 = .ok (.iconst 1, 1) := by decide +kernel
theorem dX7_noPairExplains_40 : decode cX7_noPairExplains 40 = .ok (.goto 4, 3) := by decide +kernel
theorem dX7_noPairExplains_43 : decode cX7_noPairExplains 43 = .ok (.iconst 0, 1) := by decide +kernel
theorem dX7_noPairExplains_44 : decode cX7_noPairExplains 44 = .ok (.ireturn, 1) := by decide +kernel
theorem dX7_pairMetBy_0 : decode cX7_pairMetBy 0 = .ok (.aload_n 0, 1) := by decide +kernel
theorem dX7_pairMetBy_1 : decode cX7_pairMetBy 1 = .ok (.getfield 28, 3) := by decide +kernel
theorem dX7_pairMetBy_4 : decode cX7_pairMetBy 4 = .ok (.getfield 47, 3) := by decide +kernel
theorem dX7_pairMetBy_7 : decode cX7_pairMetBy 7 = .ok (.iload_n 1, 1) := by decide +kernel
theorem dX7_pairMetBy_8 : decode cX7_pairMetBy 8 = .ok (.iaload, 1) := by decide +kernel
theorem dX7_pairMetBy_9 : decode cX7_pairMetBy 9 = .ok (.aload_n 0, 1) := by decide +kernel
theorem dX7_pairMetBy_10 : decode cX7_pairMetBy 10 = .ok (.getfield 28, 3) := by decide +kernel
theorem dX7_pairMetBy_13 : decode cX7_pairMetBy 13 = .ok (.getfield 47, 3) := by decide +kernel
theorem dX7_pairMetBy_16 : decode cX7_pairMetBy 16 = .ok (.iload_n 2, 1) := by decide +kernel
theorem dX7_pairMetBy_17 : decode cX7_pairMetBy 17 = .ok (.iaload, 1) := by decide +kernel
theorem dX7_pairMetBy_18 : decode cX7_pairMetBy 18 = .ok (.ior, 1) := by decide +kernel
theorem dX7_pairMetBy_19 : decode cX7_pairMetBy 19 = .ok (.ireturn, 1) := by decide +kernel
theorem dX7_explains_0 : decode cX7_explains 0 = .ok (.iload_n 1, 1) := by decide +kernel
theorem dX7_explains_1 : decode cX7_explains 1 = .ok (.aload_n 0, 1) := by decide +kernel
theorem dX7_explains_2 : decode cX7_explains 2 = .ok (.getfield 28, 3) := by decide +kernel
theorem dX7_explains_5 : decode cX7_explains 5 = .ok (.getfield 32, 3) := by decide +kernel
theorem dX7_explains_8 : decode cX7_explains 8 = .ok (.iand, 1) := by decide +kernel
theorem dX7_explains_9 : decode cX7_explains 9 = .ok (.aload_n 0, 1) := by decide +kernel
theorem dX7_explains_10 : decode cX7_explains 10 = .ok (.getfield 28, 3) := by decide +kernel
theorem dX7_explains_13 : decode cX7_explains 13 = .ok (.getfield 32, 3) := by decide +kernel
theorem dX7_explains_16 : decode cX7_explains 16 = .ok (.if_icmp .ne 7, 3) := by decide +kernel
theorem dX7_explains_19 : decode cX7_explains 19 = .ok (.iconst 1, 1) := by decide +kernel
theorem dX7_explains_20 : decode cX7_explains 20 = .ok (.goto 4, 3) := by decide +kernel
theorem dX7_explains_23 : decode cX7_explains 23 = .ok (.iconst 0, 1) := by decide +kernel
theorem dX7_explains_24 : decode cX7_explains 24 = .ok (.ireturn, 1) := by decide +kernel
theorem dX7_keep_0 : decode cX7_keep 0 = .ok (.aload_n 0, 1) := by decide +kernel
theorem dX7_keep_1 : decode cX7_keep 1 = .ok (.getfield 21, 3) := by decide +kernel
theorem dX7_keep_4 : decode cX7_keep 4 = .ok (.sipush 2324, 3) := by decide +kernel
theorem dX7_keep_7 : decode cX7_keep 7 = .ok (.if_icmp .ge 33, 3) := by decide +kernel
theorem dX7_keep_10 : decode cX7_keep 10 = .ok (.aload_n 0, 1) := by decide +kernel
theorem dX7_keep_11 : decode cX7_keep 11 = .ok (.getfield 9, 3) := by decide +kernel
theorem dX7_keep_14 : decode cX7_keep 14 = .ok (.aload_n 0, 1) := by decide +kernel
theorem dX7_keep_15 : decode cX7_keep 15 = .ok (.getfield 21, 3) := by decide +kernel
theorem dX7_keep_18 : decode cX7_keep 18 = .ok (.iload_n 1, 1) := by decide +kernel
theorem dX7_keep_19 : decode cX7_keep 19 = .ok (.iastore, 1) := by decide +kernel
theorem dX7_keep_20 : decode cX7_keep 20 = .ok (.aload_n 0, 1) := by decide +kernel
theorem dX7_keep_21 : decode cX7_keep 21 = .ok (.getfield 15, 3) := by decide +kernel
theorem dX7_keep_24 : decode cX7_keep 24 = .ok (.aload_n 0, 1) := by decide +kernel
theorem dX7_keep_25 : decode cX7_keep 25 = .ok (.getfield 21, 3) := by decide +kernel
theorem dX7_keep_28 : decode cX7_keep 28 = .ok (.iload_n 2, 1) := by decide +kernel
theorem dX7_keep_29 : decode cX7_keep 29 = .ok (.iastore, 1) := by decide +kernel
theorem dX7_keep_30 : decode cX7_keep 30 = .ok (.aload_n 0, 1) := by decide +kernel
theorem dX7_keep_31 : decode cX7_keep 31 = .ok (.dup, 1) := by decide +kernel
theorem dX7_keep_32 : decode cX7_keep 32 = .ok (.getfield 21, 3) := by decide +kernel
theorem dX7_keep_35 : decode cX7_keep 35 = .ok (.iconst 1, 1) := by decide +kernel
theorem dX7_keep_36 : decode cX7_keep 36 = .ok (.iadd, 1) := by decide +kernel
theorem dX7_keep_37 : decode cX7_keep 37 = .ok (.putfield 21, 3) := by decide +kernel
theorem dX7_keep_40 : decode cX7_keep 40 = .ok (.return_, 1) := by decide +kernel
set_option maxRecDepth 20000 in
theorem ggX7_weigh_J6_bitCount_0f7a4 : GoodIn wsX7_weigh wsJ6_bitCount_0f7a4 := goodIn_r _ [10, 11, 12, 13] (by decide +kernel) (by decide +kernel)
set_option maxRecDepth 20000 in
theorem gX7_weigh_J6_bitCount_0f7a4 : GoodIn wsX7_weigh (va_wsS RX7 69 yJ6_bitCount_0f7a4 wsJ6_bitCount_0f7a4) := goodIn_app (goodIn_of _ (by decide +kernel)) ggX7_weigh_J6_bitCount_0f7a4
theorem dX7_weigh_0 : decode cX7_weigh 0 = .ok (.lconst 1, 1) := by decide +kernel
theorem dX7_weigh_1 : decode cX7_weigh 1 = .ok (.lstore_n 2, 1) := by decide +kernel
theorem dX7_weigh_2 : decode cX7_weigh 2 = .ok (.iconst 0, 1) := by decide +kernel
theorem dX7_weigh_3 : decode cX7_weigh 3 = .ok (.istore 4, 2) := by decide +kernel
theorem dX7_weigh_5 : decode cX7_weigh 5 = .ok (.iload 4, 2) := by decide +kernel
theorem dX7_weigh_7 : decode cX7_weigh 7 = .ok (.aload_n 0, 1) := by decide +kernel
theorem dX7_weigh_8 : decode cX7_weigh 8 = .ok (.getfield 25, 3) := by decide +kernel
theorem dX7_weigh_11 : decode cX7_weigh 11 = .ok (.if_icmp .ge 67, 3) := by decide +kernel
theorem dX7_weigh_14 : decode cX7_weigh 14 = .ok (.iload 4, 2) := by decide +kernel
theorem dX7_weigh_16 : decode cX7_weigh 16 = .ok (.bipush 12, 2) := by decide +kernel
theorem dX7_weigh_18 : decode cX7_weigh 18 = .ok (.if_icmp .ge 60, 3) := by decide +kernel
theorem dX7_weigh_21 : decode cX7_weigh 21 = .ok (.aload_n 0, 1) := by decide +kernel
theorem dX7_weigh_22 : decode cX7_weigh 22 = .ok (.getfield 9, 3) := by decide +kernel
theorem dX7_weigh_25 : decode cX7_weigh 25 = .ok (.iload_n 1, 1) := by decide +kernel
theorem dX7_weigh_26 : decode cX7_weigh 26 = .ok (.iaload, 1) := by decide +kernel
theorem dX7_weigh_27 : decode cX7_weigh 27 = .ok (.iload 4, 2) := by decide +kernel
theorem dX7_weigh_29 : decode cX7_weigh 29 = .ok (.ishr, 1) := by decide +kernel
theorem dX7_weigh_30 : decode cX7_weigh 30 = .ok (.iconst 1, 1) := by decide +kernel
theorem dX7_weigh_31 : decode cX7_weigh 31 = .ok (.iand, 1) := by decide +kernel
theorem dX7_weigh_32 : decode cX7_weigh 32 = .ok (.ifCond .eq 7, 3) := by decide +kernel
theorem dX7_weigh_35 : decode cX7_weigh 35 = .ok (.iconst 1, 1) := by decide +kernel
theorem dX7_weigh_36 : decode cX7_weigh 36 = .ok (.goto 4, 3) := by decide +kernel
theorem dX7_weigh_39 : decode cX7_weigh 39 = .ok (.iconst 0, 1) := by decide +kernel
theorem dX7_weigh_40 : decode cX7_weigh 40 = .ok (.istore 5, 2) := by decide +kernel
theorem dX7_weigh_42 : decode cX7_weigh 42 = .ok (.lload_n 2, 1) := by decide +kernel
theorem dX7_weigh_43 : decode cX7_weigh 43 = .ok (.iload 5, 2) := by decide +kernel
theorem dX7_weigh_45 : decode cX7_weigh 45 = .ok (.ifCond .eq 14, 3) := by decide +kernel
theorem dX7_weigh_48 : decode cX7_weigh 48 = .ok (.aload_n 0, 1) := by decide +kernel
theorem dX7_weigh_49 : decode cX7_weigh 49 = .ok (.getfield 18, 3) := by decide +kernel
theorem dX7_weigh_52 : decode cX7_weigh 52 = .ok (.iload 4, 2) := by decide +kernel
theorem dX7_weigh_54 : decode cX7_weigh 54 = .ok (.iaload, 1) := by decide +kernel
theorem dX7_weigh_55 : decode cX7_weigh 55 = .ok (.i2l, 1) := by decide +kernel
theorem dX7_weigh_56 : decode cX7_weigh 56 = .ok (.goto 14, 3) := by decide +kernel
theorem dX7_weigh_59 : decode cX7_weigh 59 = .ok (.bipush 10, 2) := by decide +kernel
theorem dX7_weigh_61 : decode cX7_weigh 61 = .ok (.aload_n 0, 1) := by decide +kernel
theorem dX7_weigh_62 : decode cX7_weigh 62 = .ok (.getfield 18, 3) := by decide +kernel
theorem dX7_weigh_65 : decode cX7_weigh 65 = .ok (.iload 4, 2) := by decide +kernel
theorem dX7_weigh_67 : decode cX7_weigh 67 = .ok (.iaload, 1) := by decide +kernel
theorem dX7_weigh_68 : decode cX7_weigh 68 = .ok (.isub, 1) := by decide +kernel
theorem dX7_weigh_69 : decode cX7_weigh 69 = .ok (.i2l, 1) := by decide +kernel
theorem dX7_weigh_70 : decode cX7_weigh 70 = .ok (.lmul, 1) := by decide +kernel
theorem dX7_weigh_71 : decode cX7_weigh 71 = .ok (.lstore_n 2, 1) := by decide +kernel
theorem dX7_weigh_72 : decode cX7_weigh 72 = .ok (.iinc 4 1, 3) := by decide +kernel
theorem dX7_weigh_75 : decode cX7_weigh 75 = .ok (.goto (-70), 3) := by decide +kernel
theorem dX7_weigh_78 : decode cX7_weigh 78 = .ok (.lload_n 2, 1) := by decide +kernel
theorem dX7_weigh_79 : decode cX7_weigh 79 = .ok (.aload_n 0, 1) := by decide +kernel
theorem dX7_weigh_80 : decode cX7_weigh 80 = .ok (.getfield 28, 3) := by decide +kernel
theorem dX7_weigh_83 : decode cX7_weigh 83 = .ok (.getfield 66, 3) := by decide +kernel
theorem dX7_weigh_86 : decode cX7_weigh 86 = .ok (.aload_n 0, 1) := by decide +kernel
theorem dX7_weigh_87 : decode cX7_weigh 87 = .ok (.getfield 15, 3) := by decide +kernel
theorem dX7_weigh_90 : decode cX7_weigh 90 = .ok (.iload_n 1, 1) := by decide +kernel
theorem dX7_weigh_91 : decode cX7_weigh 91 = .ok (.iaload, 1) := by decide +kernel
theorem dX7_weigh_92 : decode cX7_weigh 92 = .ok (.iconst (-1), 1) := by decide +kernel
theorem dX7_weigh_93 : decode cX7_weigh 93 = .ok (.ixor, 1) := by decide +kernel
theorem dX7_weigh_94 : decode cX7_weigh 94 = .ok (.iand, 1) := by decide +kernel
theorem dX7_weigh_95 : decode cX7_weigh 95 = .ok (.invokestatic 69, 3) := by decide +kernel
theorem dX7_weigh_98 : decode cX7_weigh 98 = .ok (.lshl, 1) := by decide +kernel
theorem dX7_weigh_99 : decode cX7_weigh 99 = .ok (.lreturn, 1) := by decide +kernel
set_option maxRecDepth 20000 in
theorem ggX7_awayFromHalf_X7_weigh : GoodIn wsX7_awayFromHalf wsX7_weigh := goodIn_r _ [12, 13, 14, 15, 16, 17, 2, 18, 19, 20, 21, 22, 23, 24, 25, 26, 27, 28, 29, 30, 31, 32, 33, 34] (by decide +kernel) (by decide +kernel)
set_option maxRecDepth 20000 in
theorem gX7_awayFromHalf_X7_weigh : GoodIn wsX7_awayFromHalf (wsV RX7 75 RX7 yX7_weigh wsX7_weigh) := goodIn_app (goodIn_of _ (by decide +kernel)) ggX7_awayFromHalf_X7_weigh
theorem dX7_awayFromHalf_0 : decode cX7_awayFromHalf 0 = .ok (.lconst 0, 1) := by decide +kernel
theorem dX7_awayFromHalf_1 : decode cX7_awayFromHalf 1 = .ok (.lstore_n 2, 1) := by decide +kernel
theorem dX7_awayFromHalf_2 : decode cX7_awayFromHalf 2 = .ok (.lconst 0, 1) := by decide +kernel
theorem dX7_awayFromHalf_3 : decode cX7_awayFromHalf 3 = .ok (.lstore 4, 2) := by decide +kernel
theorem dX7_awayFromHalf_5 : decode cX7_awayFromHalf 5 = .ok (.iconst 0, 1) := by decide +kernel
theorem dX7_awayFromHalf_6 : decode cX7_awayFromHalf 6 = .ok (.istore 6, 2) := by decide +kernel
theorem dX7_awayFromHalf_8 : decode cX7_awayFromHalf 8 = .ok (.iload 6, 2) := by decide +kernel
theorem dX7_awayFromHalf_10 : decode cX7_awayFromHalf 10 = .ok (.aload_n 0, 1) := by decide +kernel
theorem dX7_awayFromHalf_11 : decode cX7_awayFromHalf 11 = .ok (.getfield 21, 3) := by decide +kernel
theorem dX7_awayFromHalf_14 : decode cX7_awayFromHalf 14 = .ok (.if_icmp .ge 43, 3) := by decide +kernel
theorem dX7_awayFromHalf_17 : decode cX7_awayFromHalf 17 = .ok (.aload_n 0, 1) := by decide +kernel
theorem dX7_awayFromHalf_18 : decode cX7_awayFromHalf 18 = .ok (.iload 6, 2) := by decide +kernel
theorem dX7_awayFromHalf_20 : decode cX7_awayFromHalf 20 = .ok (.invokevirtual 75, 3) := by decide +kernel
theorem dX7_awayFromHalf_23 : decode cX7_awayFromHalf 23 = .ok (.lstore 7, 2) := by decide +kernel
theorem dX7_awayFromHalf_25 : decode cX7_awayFromHalf 25 = .ok (.lload 4, 2) := by decide +kernel
theorem dX7_awayFromHalf_27 : decode cX7_awayFromHalf 27 = .ok (.lload 7, 2) := by decide +kernel
theorem dX7_awayFromHalf_29 : decode cX7_awayFromHalf 29 = .ok (.ladd, 1) := by decide +kernel
theorem dX7_awayFromHalf_30 : decode cX7_awayFromHalf 30 = .ok (.lstore 4, 2) := by decide +kernel
theorem dX7_awayFromHalf_32 : decode cX7_awayFromHalf 32 = .ok (.aload_n 0, 1) := by decide +kernel
theorem dX7_awayFromHalf_33 : decode cX7_awayFromHalf 33 = .ok (.getfield 15, 3) := by decide +kernel
theorem dX7_awayFromHalf_36 : decode cX7_awayFromHalf 36 = .ok (.iload 6, 2) := by decide +kernel
theorem dX7_awayFromHalf_38 : decode cX7_awayFromHalf 38 = .ok (.iaload, 1) := by decide +kernel
theorem dX7_awayFromHalf_39 : decode cX7_awayFromHalf 39 = .ok (.iload_n 1, 1) := by decide +kernel
theorem dX7_awayFromHalf_40 : decode cX7_awayFromHalf 40 = .ok (.ishr, 1) := by decide +kernel
theorem dX7_awayFromHalf_41 : decode cX7_awayFromHalf 41 = .ok (.iconst 1, 1) := by decide +kernel
theorem dX7_awayFromHalf_42 : decode cX7_awayFromHalf 42 = .ok (.iand, 1) := by decide +kernel
theorem dX7_awayFromHalf_43 : decode cX7_awayFromHalf 43 = .ok (.ifCond .eq 8, 3) := by decide +kernel
theorem dX7_awayFromHalf_46 : decode cX7_awayFromHalf 46 = .ok (.lload_n 2, 1) := by decide +kernel
theorem dX7_awayFromHalf_47 : decode cX7_awayFromHalf 47 = .ok (.lload 7, 2) := by decide +kernel
theorem dX7_awayFromHalf_49 : decode cX7_awayFromHalf 49 = .ok (.ladd, 1) := by decide +kernel
theorem dX7_awayFromHalf_50 : decode cX7_awayFromHalf 50 = .ok (.lstore_n 2, 1) := by decide +kernel
theorem dX7_awayFromHalf_51 : decode cX7_awayFromHalf 51 = .ok (.iinc 6 1, 3) := by decide +kernel
theorem dX7_awayFromHalf_54 : decode cX7_awayFromHalf 54 = .ok (.goto (-46), 3) := by decide +kernel
theorem dX7_awayFromHalf_57 : decode cX7_awayFromHalf 57 = .ok (.ldc2_w 79, 3) := by decide +kernel
theorem dX7_awayFromHalf_60 : decode cX7_awayFromHalf 60 = .ok (.lload_n 2, 1) := by decide +kernel
theorem dX7_awayFromHalf_61 : decode cX7_awayFromHalf 61 = .ok (.lmul, 1) := by decide +kernel
theorem dX7_awayFromHalf_62 : decode cX7_awayFromHalf 62 = .ok (.lload 4, 2) := by decide +kernel
theorem dX7_awayFromHalf_64 : decode cX7_awayFromHalf 64 = .ok (.lsub, 1) := by decide +kernel
theorem dX7_awayFromHalf_65 : decode cX7_awayFromHalf 65 = .ok (.invokestatic 81, 3) := by decide +kernel
theorem dX7_awayFromHalf_68 : decode cX7_awayFromHalf 68 = .ok (.lreturn, 1) := by decide +kernel
theorem dX8_init_0 : decode cX8_init 0 = .ok (.aload_n 0, 1) := by decide +kernel
theorem dX8_init_1 : decode cX8_init 1 = .ok (.invokespecial 3, 3) := by decide +kernel
theorem dX8_init_4 : decode cX8_init 4 = .ok (.aload_n 0, 1) := by decide +kernel
theorem dX8_init_5 : decode cX8_init 5 = .ok (.bipush 24, 2) := by decide +kernel
theorem dX8_init_7 : decode cX8_init 7 = .ok (.newarray .int, 2) := by decide +kernel
theorem dX8_init_9 : decode cX8_init 9 = .ok (.putfield 9, 3) := by decide +kernel
theorem dX8_init_12 : decode cX8_init 12 = .ok (.aload_n 0, 1) := by decide +kernel
theorem dX8_init_13 : decode cX8_init 13 = .ok (.iconst 0, 1) := by decide +kernel
theorem dX8_init_14 : decode cX8_init 14 = .ok (.putfield 15, 3) := by decide +kernel
theorem dX8_init_17 : decode cX8_init 17 = .ok (.aload_n 0, 1) := by decide +kernel
theorem dX8_init_18 : decode cX8_init 18 = .ok (.iconst 0, 1) := by decide +kernel
theorem dX8_init_19 : decode cX8_init 19 = .ok (.putfield 19, 3) := by decide +kernel
theorem dX8_init_22 : decode cX8_init 22 = .ok (.aload_n 0, 1) := by decide +kernel
theorem dX8_init_23 : decode cX8_init 23 = .ok (.iconst 0, 1) := by decide +kernel
theorem dX8_init_24 : decode cX8_init 24 = .ok (.putfield 22, 3) := by decide +kernel
theorem dX8_init_27 : decode cX8_init 27 = .ok (.return_, 1) := by decide +kernel
set_option maxRecDepth 20000 in
theorem ggX8_become_X4_plainly : GoodIn wsX8_become wsX4_plainly := goodIn_r _ [10, 11, 12, 13, 14, 15, 9, 16, 17, 18, 19, 20, 21, 22, 23, 24, 25, 26, 27, 28, 29, 30, 31, 32, 33, 34, 35, 36, 37, 38, 39, 40, 41, 42, 43, 44, 45, 46, 47, 48, 49, 50, 51, 84, 85, 86, 87, 88, 89, 90, 91, 92, 93, 94, 95, 96, 97, 98, 79, 80, 81, 82, 83] (by decide +kernel) (by decide +kernel)
set_option maxRecDepth 20000 in
theorem gX8_become_X4_plainly : GoodIn wsX8_become (wsV RX8 30 RX4 yX4_plainly wsX4_plainly) := goodIn_app (goodIn_of _ (by decide +kernel)) ggX8_become_X4_plainly
set_option maxRecDepth 20000 in
theorem ggX8_become_X8_note : GoodIn wsX8_become wsX8_note := goodIn_r _ [56, 57, 1, 58, 59, 4, 3, 2, 60, 61, 62, 49, 63, 64, 65, 66, 67, 9, 68, 22, 18, 69, 36, 70, 71, 72, 73, 74, 84, 85, 86, 87, 88, 89, 90, 91, 92, 93, 75, 76, 77, 78, 79, 80, 81, 82, 83] (by decide +kernel) (by decide +kernel)
set_option maxRecDepth 20000 in
theorem gX8_become_X8_note : GoodIn wsX8_become (wsV RX8 36 RX8 yX8_note wsX8_note) := goodIn_app (goodIn_of _ (by decide +kernel)) ggX8_become_X8_note
theorem dX8_become_0 : decode cX8_become 0 = .ok (.iconst 0, 1) := by decide +kernel
theorem dX8_become_1 : decode cX8_become 1 = .ok (.istore 4, 2) := by decide +kernel
theorem dX8_become_3 : decode cX8_become 3 = .ok (.iload 4, 2) := by decide +kernel
theorem dX8_become_5 : decode cX8_become 5 = .ok (.bipush 24, 2) := by decide +kernel
theorem dX8_become_7 : decode cX8_become 7 = .ok (.if_icmp .ge 17, 3) := by decide +kernel
theorem dX8_become_10 : decode cX8_become 10 = .ok (.aload_n 0, 1) := by decide +kernel
theorem dX8_become_11 : decode cX8_become 11 = .ok (.getfield 9, 3) := by decide +kernel
theorem dX8_become_14 : decode cX8_become 14 = .ok (.iload 4, 2) := by decide +kernel
theorem dX8_become_16 : decode cX8_become 16 = .ok (.iconst 0, 1) := by decide +kernel
theorem dX8_become_17 : decode cX8_become 17 = .ok (.iastore, 1) := by decide +kernel
theorem dX8_become_18 : decode cX8_become 18 = .ok (.iinc 4 1, 3) := by decide +kernel
theorem dX8_become_21 : decode cX8_become 21 = .ok (.goto (-18), 3) := by decide +kernel
theorem dX8_become_24 : decode cX8_become 24 = .ok (.aload_n 0, 1) := by decide +kernel
theorem dX8_become_25 : decode cX8_become 25 = .ok (.iconst 0, 1) := by decide +kernel
theorem dX8_become_26 : decode cX8_become 26 = .ok (.putfield 15, 3) := by decide +kernel
theorem dX8_become_29 : decode cX8_become 29 = .ok (.aload_n 0, 1) := by decide +kernel
theorem dX8_become_30 : decode cX8_become 30 = .ok (.iconst 0, 1) := by decide +kernel
theorem dX8_become_31 : decode cX8_become 31 = .ok (.putfield 19, 3) := by decide +kernel
theorem dX8_become_34 : decode cX8_become 34 = .ok (.aload_n 0, 1) := by decide +kernel
theorem dX8_become_35 : decode cX8_become 35 = .ok (.iconst 0, 1) := by decide +kernel
theorem dX8_become_36 : decode cX8_become 36 = .ok (.putfield 22, 3) := by decide +kernel
theorem dX8_become_39 : decode cX8_become 39 = .ok (.iconst 0, 1) := by decide +kernel
theorem dX8_become_40 : decode cX8_become 40 = .ok (.istore 4, 2) := by decide +kernel
theorem dX8_become_42 : decode cX8_become 42 = .ok (.iload 4, 2) := by decide +kernel
theorem dX8_become_44 : decode cX8_become 44 = .ok (.aload_n 2, 1) := by decide +kernel
theorem dX8_become_45 : decode cX8_become 45 = .ok (.getfield 25, 3) := by decide +kernel
theorem dX8_become_48 : decode cX8_become 48 = .ok (.if_icmp .ge 25, 3) := by decide +kernel
theorem dX8_become_51 : decode cX8_become 51 = .ok (.aload_n 3, 1) := by decide +kernel
theorem dX8_become_52 : decode cX8_become 52 = .ok (.aload_n 1, 1) := by decide +kernel
theorem dX8_become_53 : decode cX8_become 53 = .ok (.aload_n 2, 1) := by decide +kernel
theorem dX8_become_54 : decode cX8_become 54 = .ok (.iload 4, 2) := by decide +kernel
theorem dX8_become_56 : decode cX8_become 56 = .ok (.invokevirtual 30, 3) := by decide +kernel
theorem dX8_become_59 : decode cX8_become 59 = .ok (.aload_n 0, 1) := by decide +kernel
theorem dX8_become_60 : decode cX8_become 60 = .ok (.aload_n 2, 1) := by decide +kernel
theorem dX8_become_61 : decode cX8_become 61 = .ok (.aload_n 3, 1) := by decide +kernel
theorem dX8_become_62 : decode cX8_become 62 = .ok (.iload 4, 2) := by decide +kernel
theorem dX8_become_64 : decode cX8_become 64 = .ok (.invokevirtual 36, 3) := by decide +kernel
theorem dX8_become_67 : decode cX8_become 67 = .ok (.iinc 4 1, 3) := by decide +kernel
theorem dX8_become_70 : decode cX8_become 70 = .ok (.goto (-28), 3) := by decide +kernel
theorem dX8_become_73 : decode cX8_become 73 = .ok (.return_, 1) := by decide +kernel
set_option maxRecDepth 20000 in
theorem ggX8_note_X6_isOpen : GoodIn wsX8_note wsX6_isOpen := goodIn_r _ [12, 13, 42, 43, 44, 45, 46] (by decide +kernel) (by decide +kernel)
set_option maxRecDepth 20000 in
theorem gX8_note_X6_isOpen : GoodIn wsX8_note (wsV RX8 50 RX6 yX6_isOpen wsX6_isOpen) := goodIn_app (goodIn_of _ (by decide +kernel)) ggX8_note_X6_isOpen
set_option maxRecDepth 20000 in
theorem ggX8_note_X4_bringsOut : GoodIn wsX8_note wsX4_bringsOut := goodIn_r _ [18, 19, 20, 21, 22, 23, 24, 25, 11, 26, 27, 28, 29, 30, 31, 32, 33, 34, 35, 36, 37, 42, 43, 44, 45, 46] (by decide +kernel) (by decide +kernel)
set_option maxRecDepth 20000 in
theorem gX8_note_X4_bringsOut : GoodIn wsX8_note (wsV RX8 54 RX4 yX4_bringsOut wsX4_bringsOut) := goodIn_app (goodIn_of _ (by decide +kernel)) ggX8_note_X4_bringsOut
theorem dX8_note_0 : decode cX8_note 0 = .ok (.iconst 1, 1) := by decide +kernel
theorem dX8_note_1 : decode cX8_note 1 = .ok (.iload_n 3, 1) := by decide +kernel
theorem dX8_note_2 : decode cX8_note 2 = .ok (.ishl, 1) := by decide +kernel
theorem dX8_note_3 : decode cX8_note 3 = .ok (.istore 4, 2) := by decide +kernel
theorem dX8_note_5 : decode cX8_note 5 = .ok (.iconst 0, 1) := by decide +kernel
theorem dX8_note_6 : decode cX8_note 6 = .ok (.istore 5, 2) := by decide +kernel
theorem dX8_note_8 : decode cX8_note 8 = .ok (.iload 5, 2) := by decide +kernel
theorem dX8_note_10 : decode cX8_note 10 = .ok (.aload_n 2, 1) := by decide +kernel
theorem dX8_note_11 : decode cX8_note 11 = .ok (.getfield 40, 3) := by decide +kernel
theorem dX8_note_14 : decode cX8_note 14 = .ok (.if_icmp .ge 26, 3) := by decide +kernel
theorem dX8_note_17 : decode cX8_note 17 = .ok (.aload_n 0, 1) := by decide +kernel
theorem dX8_note_18 : decode cX8_note 18 = .ok (.getfield 9, 3) := by decide +kernel
theorem dX8_note_21 : decode cX8_note 21 = .ok (.aload_n 2, 1) := by decide +kernel
theorem dX8_note_22 : decode cX8_note 22 = .ok (.getfield 43, 3) := by decide +kernel
theorem dX8_note_25 : decode cX8_note 25 = .ok (.iload 5, 2) := by decide +kernel
theorem dX8_note_27 : decode cX8_note 27 = .ok (.iaload, 1) := by decide +kernel
theorem dX8_note_28 : decode cX8_note 28 = .ok (.dup2, 1) := by decide +kernel
theorem dX8_note_29 : decode cX8_note 29 = .ok (.iaload, 1) := by decide +kernel
theorem dX8_note_30 : decode cX8_note 30 = .ok (.iload 4, 2) := by decide +kernel
theorem dX8_note_32 : decode cX8_note 32 = .ok (.ior, 1) := by decide +kernel
theorem dX8_note_33 : decode cX8_note 33 = .ok (.iastore, 1) := by decide +kernel
theorem dX8_note_34 : decode cX8_note 34 = .ok (.iinc 5 1, 3) := by decide +kernel
theorem dX8_note_37 : decode cX8_note 37 = .ok (.goto (-29), 3) := by decide +kernel
theorem dX8_note_40 : decode cX8_note 40 = .ok (.aload_n 2, 1) := by decide +kernel
theorem dX8_note_41 : decode cX8_note 41 = .ok (.getfield 46, 3) := by decide +kernel
theorem dX8_note_44 : decode cX8_note 44 = .ok (.ifCond .eq 14, 3) := by decide +kernel
theorem dX8_note_47 : decode cX8_note 47 = .ok (.aload_n 0, 1) := by decide +kernel
theorem dX8_note_48 : decode cX8_note 48 = .ok (.dup, 1) := by decide +kernel
theorem dX8_note_49 : decode cX8_note 49 = .ok (.getfield 22, 3) := by decide +kernel
theorem dX8_note_52 : decode cX8_note 52 = .ok (.iload 4, 2) := by decide +kernel
theorem dX8_note_54 : decode cX8_note 54 = .ok (.ior, 1) := by decide +kernel
theorem dX8_note_55 : decode cX8_note 55 = .ok (.putfield 22, 3) := by decide +kernel
theorem dX8_note_58 : decode cX8_note 58 = .ok (.aload_n 1, 1) := by decide +kernel
theorem dX8_note_59 : decode cX8_note 59 = .ok (.iload_n 3, 1) := by decide +kernel
theorem dX8_note_60 : decode cX8_note 60 = .ok (.invokevirtual 50, 3) := by decide +kernel
theorem dX8_note_63 : decode cX8_note 63 = .ok (.ifCond .eq 4, 3) := by decide +kernel
theorem dX8_note_66 : decode cX8_note 66 = .ok (.return_, 1) := by decide +kernel
theorem dX8_note_67 : decode cX8_note 67 = .ok (.aload_n 2, 1) := by decide +kernel
theorem dX8_note_68 : decode cX8_note 68 = .ok (.aload_n 1, 1) := by decide +kernel
theorem dX8_note_69 : decode cX8_note 69 = .ok (.iload_n 3, 1) := by decide +kernel
theorem dX8_note_70 : decode cX8_note 70 = .ok (.invokevirtual 54, 3) := by decide +kernel
theorem dX8_note_73 : decode cX8_note 73 = .ok (.ifCond .eq 17, 3) := by decide +kernel
theorem dX8_note_76 : decode cX8_note 76 = .ok (.aload_n 0, 1) := by decide +kernel
theorem dX8_note_77 : decode cX8_note 77 = .ok (.dup, 1) := by decide +kernel
theorem dX8_note_78 : decode cX8_note 78 = .ok (.getfield 19, 3) := by decide +kernel
theorem dX8_note_81 : decode cX8_note 81 = .ok (.iload 4, 2) := by decide +kernel
theorem dX8_note_83 : decode cX8_note 83 = .ok (.ior, 1) := by decide +kernel
theorem dX8_note_84 : decode cX8_note 84 = .ok (.putfield 19, 3) := by decide +kernel
theorem dX8_note_87 : decode cX8_note 87 = .ok (.goto 14, 3) := by decide +kernel
theorem dX8_note_90 : decode cX8_note 90 = .ok (.aload_n 0, 1) := by decide +kernel
theorem dX8_note_91 : decode cX8_note 91 = .ok (.dup, 1) := by decide +kernel
theorem dX8_note_92 : decode cX8_note 92 = .ok (.getfield 15, 3) := by decide +kernel
theorem dX8_note_95 : decode cX8_note 95 = .ok (.iload 4, 2) := by decide +kernel
theorem dX8_note_97 : decode cX8_note 97 = .ok (.ior, 1) := by decide +kernel
theorem dX8_note_98 : decode cX8_note 98 = .ok (.putfield 15, 3) := by decide +kernel
theorem dX8_note_101 : decode cX8_note 101 = .ok (.return_, 1) := by decide +kernel
theorem dJ6_compare_7cf53_0 : decode cJ6_compare_7cf53 0 = .ok (.iload_n 0, 1) := by decide +kernel
theorem dJ6_compare_7cf53_1 : decode cJ6_compare_7cf53 1 = .ok (.iload_n 1, 1) := by decide +kernel
theorem dJ6_compare_7cf53_2 : decode cJ6_compare_7cf53 2 = .ok (.if_icmp .ge 7, 3) := by decide +kernel
theorem dJ6_compare_7cf53_5 : decode cJ6_compare_7cf53 5 = .ok (.iconst (-1), 1) := by decide +kernel
theorem dJ6_compare_7cf53_6 : decode cJ6_compare_7cf53 6 = .ok (.goto 13, 3) := by decide +kernel
theorem dJ6_compare_7cf53_9 : decode cJ6_compare_7cf53 9 = .ok (.iload_n 0, 1) := by decide +kernel
theorem dJ6_compare_7cf53_10 : decode cJ6_compare_7cf53 10 = .ok (.iload_n 1, 1) := by decide +kernel
theorem dJ6_compare_7cf53_11 : decode cJ6_compare_7cf53 11 = .ok (.if_icmp .ne 7, 3) := by decide +kernel
theorem dJ6_compare_7cf53_14 : decode cJ6_compare_7cf53 14 = .ok (.iconst 0, 1) := by decide +kernel
theorem dJ6_compare_7cf53_15 : decode cJ6_compare_7cf53 15 = .ok (.goto 4, 3) := by decide +kernel
theorem dJ6_compare_7cf53_18 : decode cJ6_compare_7cf53 18 = .ok (.iconst 1, 1) := by decide +kernel
theorem dJ6_compare_7cf53_19 : decode cJ6_compare_7cf53 19 = .ok (.ireturn, 1) := by decide +kernel
theorem dJ6_bitCount_0f7a4_0 : decode cJ6_bitCount_0f7a4 0 = .ok (.iload_n 0, 1) := by decide +kernel
theorem dJ6_bitCount_0f7a4_1 : decode cJ6_bitCount_0f7a4 1 = .ok (.iload_n 0, 1) := by decide +kernel
theorem dJ6_bitCount_0f7a4_2 : decode cJ6_bitCount_0f7a4 2 = .ok (.iconst 1, 1) := by decide +kernel
theorem dJ6_bitCount_0f7a4_3 : decode cJ6_bitCount_0f7a4 3 = .ok (.iushr, 1) := by decide +kernel
theorem dJ6_bitCount_0f7a4_4 : decode cJ6_bitCount_0f7a4 4 = .ok (.ldc_w 265, 3) := by decide +kernel
theorem dJ6_bitCount_0f7a4_7 : decode cJ6_bitCount_0f7a4 7 = .ok (.iand, 1) := by decide +kernel
theorem dJ6_bitCount_0f7a4_8 : decode cJ6_bitCount_0f7a4 8 = .ok (.isub, 1) := by decide +kernel
theorem dJ6_bitCount_0f7a4_9 : decode cJ6_bitCount_0f7a4 9 = .ok (.istore_n 0, 1) := by decide +kernel
theorem dJ6_bitCount_0f7a4_10 : decode cJ6_bitCount_0f7a4 10 = .ok (.iload_n 0, 1) := by decide +kernel
theorem dJ6_bitCount_0f7a4_11 : decode cJ6_bitCount_0f7a4 11 = .ok (.ldc_w 266, 3) := by decide +kernel
theorem dJ6_bitCount_0f7a4_14 : decode cJ6_bitCount_0f7a4 14 = .ok (.iand, 1) := by decide +kernel
theorem dJ6_bitCount_0f7a4_15 : decode cJ6_bitCount_0f7a4 15 = .ok (.iload_n 0, 1) := by decide +kernel
theorem dJ6_bitCount_0f7a4_16 : decode cJ6_bitCount_0f7a4 16 = .ok (.iconst 2, 1) := by decide +kernel
theorem dJ6_bitCount_0f7a4_17 : decode cJ6_bitCount_0f7a4 17 = .ok (.iushr, 1) := by decide +kernel
theorem dJ6_bitCount_0f7a4_18 : decode cJ6_bitCount_0f7a4 18 = .ok (.ldc_w 266, 3) := by decide +kernel
theorem dJ6_bitCount_0f7a4_21 : decode cJ6_bitCount_0f7a4 21 = .ok (.iand, 1) := by decide +kernel
theorem dJ6_bitCount_0f7a4_22 : decode cJ6_bitCount_0f7a4 22 = .ok (.iadd, 1) := by decide +kernel
theorem dJ6_bitCount_0f7a4_23 : decode cJ6_bitCount_0f7a4 23 = .ok (.istore_n 0, 1) := by decide +kernel
theorem dJ6_bitCount_0f7a4_24 : decode cJ6_bitCount_0f7a4 24 = .ok (.iload_n 0, 1) := by decide +kernel
theorem dJ6_bitCount_0f7a4_25 : decode cJ6_bitCount_0f7a4 25 = .ok (.iload_n 0, 1) := by decide +kernel
theorem dJ6_bitCount_0f7a4_26 : decode cJ6_bitCount_0f7a4 26 = .ok (.iconst 4, 1) := by decide +kernel
theorem dJ6_bitCount_0f7a4_27 : decode cJ6_bitCount_0f7a4 27 = .ok (.iushr, 1) := by decide +kernel
theorem dJ6_bitCount_0f7a4_28 : decode cJ6_bitCount_0f7a4 28 = .ok (.iadd, 1) := by decide +kernel
theorem dJ6_bitCount_0f7a4_29 : decode cJ6_bitCount_0f7a4 29 = .ok (.ldc_w 267, 3) := by decide +kernel
theorem dJ6_bitCount_0f7a4_32 : decode cJ6_bitCount_0f7a4 32 = .ok (.iand, 1) := by decide +kernel
theorem dJ6_bitCount_0f7a4_33 : decode cJ6_bitCount_0f7a4 33 = .ok (.istore_n 0, 1) := by decide +kernel
theorem dJ6_bitCount_0f7a4_34 : decode cJ6_bitCount_0f7a4 34 = .ok (.iload_n 0, 1) := by decide +kernel
theorem dJ6_bitCount_0f7a4_35 : decode cJ6_bitCount_0f7a4 35 = .ok (.iload_n 0, 1) := by decide +kernel
theorem dJ6_bitCount_0f7a4_36 : decode cJ6_bitCount_0f7a4 36 = .ok (.bipush 8, 2) := by decide +kernel
theorem dJ6_bitCount_0f7a4_38 : decode cJ6_bitCount_0f7a4 38 = .ok (.iushr, 1) := by decide +kernel
theorem dJ6_bitCount_0f7a4_39 : decode cJ6_bitCount_0f7a4 39 = .ok (.iadd, 1) := by decide +kernel
theorem dJ6_bitCount_0f7a4_40 : decode cJ6_bitCount_0f7a4 40 = .ok (.istore_n 0, 1) := by decide +kernel
theorem dJ6_bitCount_0f7a4_41 : decode cJ6_bitCount_0f7a4 41 = .ok (.iload_n 0, 1) := by decide +kernel
theorem dJ6_bitCount_0f7a4_42 : decode cJ6_bitCount_0f7a4 42 = .ok (.iload_n 0, 1) := by decide +kernel
theorem dJ6_bitCount_0f7a4_43 : decode cJ6_bitCount_0f7a4 43 = .ok (.bipush 16, 2) := by decide +kernel
theorem dJ6_bitCount_0f7a4_45 : decode cJ6_bitCount_0f7a4 45 = .ok (.iushr, 1) := by decide +kernel
theorem dJ6_bitCount_0f7a4_46 : decode cJ6_bitCount_0f7a4 46 = .ok (.iadd, 1) := by decide +kernel
theorem dJ6_bitCount_0f7a4_47 : decode cJ6_bitCount_0f7a4 47 = .ok (.istore_n 0, 1) := by decide +kernel
theorem dJ6_bitCount_0f7a4_48 : decode cJ6_bitCount_0f7a4 48 = .ok (.iload_n 0, 1) := by decide +kernel
theorem dJ6_bitCount_0f7a4_49 : decode cJ6_bitCount_0f7a4 49 = .ok (.bipush 63, 2) := by decide +kernel
theorem dJ6_bitCount_0f7a4_51 : decode cJ6_bitCount_0f7a4 51 = .ok (.iand, 1) := by decide +kernel
theorem dJ6_bitCount_0f7a4_52 : decode cJ6_bitCount_0f7a4 52 = .ok (.ireturn, 1) := by decide +kernel
theorem dJ9_abs_067f4_0 : decode cJ9_abs_067f4 0 = .ok (.lload_n 0, 1) := by decide +kernel
theorem dJ9_abs_067f4_1 : decode cJ9_abs_067f4 1 = .ok (.lconst 0, 1) := by decide +kernel
theorem dJ9_abs_067f4_2 : decode cJ9_abs_067f4 2 = .ok (.lcmp, 1) := by decide +kernel
theorem dJ9_abs_067f4_3 : decode cJ9_abs_067f4 3 = .ok (.ifCond .ge 8, 3) := by decide +kernel
theorem dJ9_abs_067f4_6 : decode cJ9_abs_067f4 6 = .ok (.lload_n 0, 1) := by decide +kernel
theorem dJ9_abs_067f4_7 : decode cJ9_abs_067f4 7 = .ok (.lneg, 1) := by decide +kernel
theorem dJ9_abs_067f4_8 : decode cJ9_abs_067f4 8 = .ok (.goto 4, 3) := by decide +kernel
theorem dJ9_abs_067f4_11 : decode cJ9_abs_067f4 11 = .ok (.lload_n 0, 1) := by decide +kernel
theorem dJ9_abs_067f4_12 : decode cJ9_abs_067f4 12 = .ok (.lreturn, 1) := by decide +kernel
