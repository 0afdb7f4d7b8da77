theorem dJ6_bitCount_0f7a4_25 : decode cJ6_bitCount_0f7a4 25 = .ok (.iload_n 0, 1) := by decide +kernel
theorem dJ6_bitCount_0f7a4_26 : decode cJ6_bitCount_0f7a4 26 = .ok (.iconst 4, 1) := by decide +kernel
theorem dJ6_bitCount_0f7a4_27 : decode cJ6_bitCount_0f7a4 27 = .ok (.iushr, 1) := by decide +kernel
theorem dJ6_bitCount_0f7a4_28 : decode cJ6_bitCount_0f7a4 28 = .ok (.iadd, 1) := by decide +kernel
theorem dJ6_bitCount_0f7a4_29 : decode cJ6_bitCount_0f7a4 29 = .ok (.ldc_w 267, 3) := by decide +kernel
theorem dJ6_bitCount_0f7a4_32 : decode cJ6_bitCount_0f7a4 32 = .ok (.iand, 1) := by decide +kernel
theorem dJ6_bitCount_0f7a4_33 : decode cJ6_bitCount_0f7a4 33 = .ok (.istore_n 0, 1) := by decide +kernel
theorem dJ6_bitCount_0f7a4_34 : decode cJ6_bitCount_0f7a4 34 = .ok (.iload_n 0, 1) := by decide +kernel
theorem dJ6_bitCount_0f7a4_35 : decode cJ6_bitCount_0f7a4 35 = .ok (.iload_n 0, 1) := by decide +kernel
theorem dJ6_bitCount_0f7a4_36 : decode cJ6_bitCount_0f7a4 36 = .ok (.bipush 8, 2) := by decide +kernel
theorem dJ6_bitCount_0f7a4_38 : decode cJ6_bitCount_0f7a4 38 = .ok (.iushr, 1) := by decide +kernel
theorem dJ6_bitCount_0f7a4_39 : decode cJ6_bitCount_0f7a4 39 = .ok (.iadd, 1) := by decide +kernel
theorem dJ6_bitCount_0f7a4_40 : decode cJ6_bitCount_0f7a4 40 = .ok (.istore_n 0, 1) := by decide +kernel
theorem dJ6_bitCount_0f7a4_41 : decode cJ6_bitCount_0f7a4 41 = .ok (.iload_n 0, 1) := by decide +kernel
theorem dJ6_bitCount_0f7a4_42 : decode cJ6_bitCount_0f7a4 42 = .ok (.iload_n 0, 1) := by decide +kernel
theorem dJ6_bitCount_0f7a4_43 : decode cJ6_bitCount_0f7a4 43 = .ok (.bipush 16, 2) := by decide +kernel
theorem dJ6_bitCount_0f7a4_45 : decode cJ6_bitCount_0f7a4 45 = .ok (.iushr, 1) := by decide +kernel
theorem dJ6_bitCount_0f7a4_46 : decode cJ6_bitCount_0f7a4 46 = .ok (.iadd, 1) := by decide +kernel
theorem dJ6_bitCount_0f7a4_47 : decode cJ6_bitCount_0f7a4 47 = .ok (.istore_n 0, 1) := by decide +kernel
theorem dJ6_bitCount_0f7a4_48 : decode cJ6_bitCount_0f7a4 48 = .ok (.iload_n 0, 1) := by decide +kernel
theorem dJ6_bitCount_0f7a4_49 : decode cJ6_bitCount_0f7a4 49 = .ok (.bipush 63, 2) := by decide +kernel
theorem dJ6_bitCount_0f7a4_51 : decode cJ6_bitCount_0f7a4 51 = .ok (.iand, 1) := by decide +kernel
theorem dJ6_bitCount_0f7a4_52 : decode cJ6_bitCount_0f7a4 52 = .ok (.ireturn, 1) := by decide +kernel
theorem dJ9_abs_067f4_0 : decode cJ9_abs_067f4 0 = .ok (.lload_n 0, 1) := by decide +kernel
theorem dJ9_abs_067f4_1 : decode cJ9_abs_067f4 1 = .ok (.lconst 0, 1) := by decide +kernel
theorem dJ9_abs_067f4_2 : decode cJ9_abs_067f4 2 = .ok (.lcmp, 1) := by decide +kernel
theorem dJ9_abs_067f4_3 : decode cJ9_abs_067f4 3 = .ok (.ifCond .ge 8, 3) := by decide +kernel
theorem dJ9_abs_067f4_6 : decode cJ9_abs_067f4 6 = .ok (.lload_n 0, 1) := by decide +kernel
theorem dJ9_abs_067f4_7 : decode cJ9_abs_067f4 7 = .ok (.lneg, 1) := by decide +kernel
theorem dJ9_abs_067f4_8 : decode cJ9_abs_067f4 8 = .ok (.goto 4, 3) := by decide +kernel
theorem dJ9_abs_067f4_11 : decode cJ9_abs_067f4 11 = .ok (.lload_n 0, 1) := by decide +kernel
theorem dJ9_abs_067f4_12 : decode cJ9_abs_067f4 12 = .ok (.lreturn, 1) := by decide +kernel
set_option maxRecDepth 20000 in
theorem ggL_out_X9_out : GoodIn wsL_out wsX9_out := goodIn_ca (goodIn_r _ [6, 7, 8, 9, 10, 11, 12, 13, 14, 15, 16, 17, 18, 19, 20, 21, 22, 23, 24, 25, 26, 27, 28, 29, 30, 31, 32, 33, 34, 35, 36, 37, 38, 39, 40, 41, 42, 43, 44, 45, 46, 47, 48, 49, 50, 51, 52, 53, 54, 55, 56, 57, 58, 59, 60, 61, 62, 63, 64, 65, 66, 67, 68, 69, 70, 71, 72, 73, 74, 75, 76, 77, 78, 79, 80, 81, 82, 83, 84, 85, 86, 87, 88, 89, 90, 91, 92, 93, 94, 95, 96, 97, 98, 99, 100, 101] (by decide +kernel) (by decide +kernel)) (goodIn_sub (fun _ h => List.mem_cons_of_mem _ (List.mem_append_right _ h)) (by decide +kernel))
set_option maxRecDepth 20000 in
theorem gL_out_X9_out : GoodIn wsL_out (wsV RL 7 RX9 yX9_out wsX9_out) := goodIn_app (goodIn_of _ (by decide +kernel)) ggL_out_X9_out
theorem dL_out_0 : decode cL_out 0 = .ok (.aload_n 3, 1) := by decide +kernel
theorem dL_out_1 : decode cL_out 1 = .ok (.iconst 0, 1) := by decide +kernel
theorem dL_out_2 : decode cL_out 2 = .ok (.aload_n 0, 1) := by decide +kernel
theorem dL_out_3 : decode cL_out 3 = .ok (.iload_n 1, 1) := by decide +kernel
theorem dL_out_4 : decode cL_out 4 = .ok (.iload_n 2, 1) := by decide +kernel
theorem dL_out_5 : decode cL_out 5 = .ok (.invokevirtual 7, 3) := by decide +kernel
theorem dL_out_8 : decode cL_out 8 = .ok (.i2l, 1) := by decide +kernel
theorem dL_out_9 : decode cL_out 9 = .ok (.lastore, 1) := by decide +kernel
theorem dL_out_10 : decode cL_out 10 = .ok (.goto 7, 3) := by decide +kernel
theorem dL_out_13 : decode cL_out 13 = .ok (.astore 4, 2) := by decide +kernel
theorem dL_out_15 : decode cL_out 15 = .ok (.iconst 1, 1) := by decide +kernel
theorem dL_out_16 : decode cL_out 16 = .ok (.ireturn, 1) := by decide +kernel
theorem dL_out_17 : decode cL_out 17 = .ok (.iconst 0, 1) := by decide +kernel
theorem dL_out_18 : decode cL_out 18 = .ok (.ireturn, 1) := by decide +kernel
set_option maxRecDepth 20000 in
theorem ggL_mendBy_X9_mendBy : GoodIn wsL_mendBy wsX9_mendBy := goodIn_ca (goodIn_r _ [6, 7, 8, 9, 10, 11, 5, 12, 13, 14, 15, 16, 17, 18, 19, 20, 21, 22, 23, 24, 25, 26, 27, 28, 29, 30, 31, 32, 33, 34, 35, 36, 37, 38, 39, 40, 41, 42, 43, 44, 45, 46, 47, 48, 49, 50, 51, 52, 53, 54, 55, 56, 57, 58, 59, 60, 61, 62, 63, 64, 65, 66, 67, 68, 69, 70, 71, 72, 73, 74, 75, 76, 77, 78, 79, 80, 81, 82, 83, 84, 85, 86, 87, 88, 89, 90, 91, 92, 93, 94, 95, 96, 97, 98, 99, 100, 101, 102, 103, 104, 105, 106, 107, 108, 109, 110, 111, 112, 113, 114, 115, 116, 117, 118, 119, 120, 121, 122, 123, 124, 125, 126, 127, 128, 129, 130, 131, 132, 133, 134, 135, 136, 137, 138, 139, 140] (by decide +kernel) (by decide +kernel)) (goodIn_sub (fun _ h => List.mem_cons_of_mem _ (List.mem_append_right _ h)) (by decide +kernel))
set_option maxRecDepth 20000 in
theorem gL_mendBy_X9_mendBy : GoodIn wsL_mendBy (wsV RL 15 RX9 yX9_mendBy wsX9_mendBy) := goodIn_app (goodIn_of _ (by decide +kernel)) ggL_mendBy_X9_mendBy
theorem dL_mendBy_0 : decode cL_mendBy 0 = .ok (.aload_n 3, 1) := by decide +kernel
theorem dL_mendBy_1 : decode cL_mendBy 1 = .ok (.iconst 0, 1) := by decide +kernel
theorem dL_mendBy_2 : decode cL_mendBy 2 = .ok (.aload_n 0, 1) := by decide +kernel
theorem dL_mendBy_3 : decode cL_mendBy 3 = .ok (.iload_n 1, 1) := by decide +kernel
theorem dL_mendBy_4 : decode cL_mendBy 4 = .ok (.iload_n 2, 1) := by decide +kernel
theorem dL_mendBy_5 : decode cL_mendBy 5 = .ok (.invokevirtual 15, 3) := by decide +kernel
theorem dL_mendBy_8 : decode cL_mendBy 8 = .ok (.i2l, 1) := by decide +kernel
theorem dL_mendBy_9 : decode cL_mendBy 9 = .ok (.lastore, 1) := by decide +kernel
theorem dL_mendBy_10 : decode cL_mendBy 10 = .ok (.goto 7, 3) := by decide +kernel
theorem dL_mendBy_13 : decode cL_mendBy 13 = .ok (.astore 4, 2) := by decide +kernel
theorem dL_mendBy_15 : decode cL_mendBy 15 = .ok (.iconst 1, 1) := by decide +kernel
theorem dL_mendBy_16 : decode cL_mendBy 16 = .ok (.ireturn, 1) := by decide +kernel
theorem dL_mendBy_17 : decode cL_mendBy 17 = .ok (.iconst 0, 1) := by decide +kernel
theorem dL_mendBy_18 : decode cL_mendBy 18 = .ok (.ireturn, 1) := by decide +kernel
set_option maxRecDepth 20000 in
theorem ggL_law_X9_init : GoodIn wsL_law wsX9_init := goodIn_r _ [9, 10, 11, 12, 13, 14, 15, 16, 17, 18, 19, 20, 21, 22, 23, 24, 25, 26, 27, 28, 29, 30, 31, 32, 33, 34, 35, 36, 37, 38, 39, 40, 41, 42, 43, 44, 45, 46, 47, 48, 49, 50, 51, 52, 53, 54, 55, 56, 57, 58, 59, 60, 61, 62, 63, 64, 65, 66, 67, 68, 69, 70, 71, 72, 73, 74, 75, 76, 77, 78, 79, 80, 81, 82, 83, 84, 85, 86, 87, 88, 89, 90, 91, 92, 93, 94, 95, 96, 97, 98, 99, 100, 101, 102, 103, 104, 105, 106, 107, 108, 109, 110, 111, 112, 113, 114, 115, 116, 117, 118, 119, 120, 871, 872, 873, 874, 875, 827, 828, 829, 830, 831, 832, 833, 834, 835, 836, 837, 876, 877, 878, 879, 880, 881, 882, 883, 884, 885, 886, 887, 888, 889, 890, 891, 892, 893, 894, 895, 896, 897, 898, 899, 900, 901, 902, 903, 904, 905, 906, 907, 908, 909, 910, 911] (by decide +kernel) (by decide +kernel)
set_option maxRecDepth 20000 in
theorem gL_law_X9_init : GoodIn wsL_law (wsX9_init) := ggL_law_X9_init
set_option maxRecDepth 20000 in
theorem ggL_law_X10_init : GoodIn wsL_law wsX10_init := goodIn_r _ [123, 124, 11, 12, 46, 125, 126, 127, 128, 129, 130, 131, 132, 133, 134, 135, 136, 137, 138, 139, 140, 141, 6, 142, 143, 838, 839, 840, 841, 842, 843, 844, 845, 846, 847, 848, 849, 850, 851, 852, 853, 854, 855, 856, 857, 858, 859, 860, 861, 862, 863, 864, 865, 866, 867, 868, 869, 870] (by decide +kernel) (by decide +kernel)
set_option maxRecDepth 20000 in
theorem gL_law_X10_init : GoodIn wsL_law (wsX10_init) := ggL_law_X10_init
set_option maxRecDepth 20000 in
theorem ggL_law_X9_line : GoodIn wsL_law wsX9_line := goodIn_r _ [147, 16, 148, 149, 150, 48, 151, 152, 2, 153, 154, 155, 156, 157, 158, 159, 160, 161, 162, 163, 47, 164, 165, 166, 15, 167, 55, 56, 168, 169, 170, 54, 171, 67, 172, 173, 174, 175, 63, 64, 65, 66, 827, 828, 829, 830, 831, 832, 833, 834, 835, 836, 837, 871, 872, 873, 874, 875, 907, 908, 909, 910, 911] (by decide +kernel) (by decide +kernel)
set_option maxRecDepth 20000 in
theorem gL_law_X9_line : GoodIn wsL_law (wsV RL 22 RX9 yX9_line wsX9_line) := goodIn_app (goodIn_of _ (by decide +kernel)) ggL_law_X9_line
set_option maxRecDepth 20000 in
theorem ggL_law_X10_line : GoodIn wsL_law wsX10_line := goodIn_r _ [179, 180, 181, 126, 182, 183, 5, 184, 185, 186, 187, 188, 189, 190, 191, 192, 193, 194, 125, 195, 196, 197, 838, 839, 840, 841, 842, 843, 844, 845, 846, 847, 848, 849, 850, 851, 852, 853, 854, 855, 856, 857, 858, 859, 860, 861, 862, 863, 864, 865, 866, 867, 868, 869, 870] (by decide +kernel) (by decide +kernel)
set_option maxRecDepth 20000 in
theorem gL_law_X10_line : GoodIn wsL_law (wsV RL 26 RX10 yX10_line wsX10_line) := goodIn_app (goodIn_of _ (by decide +kernel)) ggL_law_X10_line
set_option maxRecDepth 20000 in
theorem ggL_law_X9_test : GoodIn wsL_law wsX9_test := goodIn_r _ [201, 20, 202, 48, 160, 161, 162, 2, 163, 47, 203, 204, 205, 19, 206, 75, 71, 827, 828, 829, 830, 831, 832, 833, 834, 835, 836, 837, 876, 877, 878, 879, 880] (by decide +kernel) (by decide +kernel)
set_option maxRecDepth 20000 in
theorem gL_law_X9_test : GoodIn wsL_law (wsV RL 27 RX9 yX9_test wsX9_test) := goodIn_app (goodIn_of _ (by decide +kernel)) ggL_law_X9_test
set_option maxRecDepth 20000 in
theorem ggL_law_X10_test : GoodIn wsL_law wsX10_test := goodIn_r _ [210, 211, 130, 191, 192, 193, 5, 194, 125, 195, 196, 197, 838, 839, 840, 841, 842, 843, 844, 845, 846, 847, 848, 849, 850, 851, 852, 853, 854, 855, 856, 857, 858, 859, 860, 861, 862, 863, 864, 865, 866, 867, 868, 869, 870] (by decide +kernel) (by decide +kernel)
set_option maxRecDepth 20000 in
theorem gL_law_X10_test : GoodIn wsL_law (wsV RL 30 RX10 yX10_test wsX10_test) := goodIn_app (goodIn_of _ (by decide +kernel)) ggL_law_X10_test
set_option maxRecDepth 20000 in
theorem ggL_law_X9_wants : GoodIn wsL_law wsX9_wants := goodIn_r _ [215, 20, 216, 48, 217, 218, 219, 19, 220, 75, 160, 161, 162, 2, 163, 47, 221, 222, 223, 224, 72, 73, 827, 828, 829, 830, 831, 832, 833, 834, 835, 836, 837, 876, 877, 878, 879, 880] (by decide +kernel) (by decide +kernel)
set_option maxRecDepth 20000 in
theorem gL_law_X9_wants : GoodIn wsL_law (wsV RL 31 RX9 yX9_wants wsX9_wants) := goodIn_app (goodIn_of _ (by decide +kernel)) ggL_law_X9_wants
set_option maxRecDepth 20000 in
theorem ggL_law_X10_wants : GoodIn wsL_law wsX10_wants := goodIn_r _ [228, 132, 131, 229, 230, 231, 5, 232, 211, 185, 186, 187, 191, 192, 193, 194, 125, 838, 839, 840, 841, 842, 843, 844, 845, 846, 847, 848, 849, 850, 851, 852, 853, 854, 855, 856, 857, 858, 859, 860, 861, 862, 863, 864, 865, 866, 867, 868, 869, 870] (by decide +kernel) (by decide +kernel)
set_option maxRecDepth 20000 in
theorem gL_law_X10_wants : GoodIn wsL_law (wsV RL 34 RX10 yX10_wants wsX10_wants) := goodIn_app (goodIn_of _ (by decide +kernel)) ggL_law_X10_wants
set_option maxRecDepth 20000 in
theorem ggL_law_X9_open : GoodIn wsL_law wsX9_open := goodIn_r _ [236, 20, 48, 237, 217, 218, 219, 19, 220, 75, 160, 161, 162, 2, 163, 47, 238, 239, 240, 241, 74, 827, 828, 829, 830, 831, 832, 833, 834, 835, 836, 837, 876, 877, 878, 879, 880] (by decide +kernel) (by decide +kernel)
set_option maxRecDepth 20000 in
theorem gL_law_X9_open : GoodIn wsL_law (wsV RL 35 RX9 yX9_open wsX9_open) := goodIn_app (goodIn_of _ (by decide +kernel)) ggL_law_X9_open
set_option maxRecDepth 20000 in
theorem ggL_law_X10_open : GoodIn wsL_law wsX10_open := goodIn_r _ [245, 134, 229, 230, 231, 5, 232, 211, 185, 186, 187, 191, 192, 193, 194, 125, 838, 839, 840, 841, 842, 843, 844, 845, 846, 847, 848, 849, 850, 851, 852, 853, 854, 855, 856, 857, 858, 859, 860, 861, 862, 863, 864, 865, 866, 867, 868, 869, 870] (by decide +kernel) (by decide +kernel)
set_option maxRecDepth 20000 in
theorem gL_law_X10_open : GoodIn wsL_law (wsV RL 39 RX10 yX10_open wsX10_open) := goodIn_app (goodIn_of _ (by decide +kernel)) ggL_law_X10_open
set_option maxRecDepth 20000 in
theorem ggL_law_X9_passes : GoodIn wsL_law wsX9_passes := goodIn_r _ [249, 20, 217, 218, 219, 19, 220, 75, 160, 161, 162, 2, 163, 47, 250, 251, 252, 253, 24, 16, 150, 254, 255, 256, 23, 257, 86, 87, 258, 259, 260, 261, 82, 83, 84, 81, 79, 85, 262, 263, 264, 265, 266, 267, 268, 269, 270, 271, 272, 273, 274, 80, 88, 275, 276, 277, 278, 279, 280, 281, 282, 283, 284, 285, 286, 71, 287, 288, 289, 290, 291, 292, 293, 294, 295, 72, 296, 297, 298, 827, 828, 829, 830, 831, 832, 833, 834, 835, 836, 837, 876, 877, 878, 879, 880, 871, 872, 873, 874, 875, 881, 882, 883, 884, 885, 886, 887, 888, 889, 890, 907, 908, 909, 910, 911] (by decide +kernel) (by decide +kernel)
set_option maxRecDepth 20000 in
theorem gL_law_X9_passes : GoodIn wsL_law (wsV RL 40 RX9 yX9_passes wsX9_passes) := goodIn_app (goodIn_of _ (by decide +kernel)) ggL_law_X9_passes
set_option maxRecDepth 20000 in
theorem ggL_law_X10_passes : GoodIn wsL_law wsX10_passes := goodIn_r _ [302, 229, 230, 231, 5, 232, 211, 185, 186, 187, 191, 192, 193, 194, 125, 303, 304, 305, 306, 180, 307, 308, 309, 310, 181, 127, 126, 128, 311, 312, 313, 314, 315, 316, 317, 318, 138, 319, 320, 321, 135, 322, 323, 324, 325, 326, 130, 136, 137, 327, 328, 329, 330, 132, 131, 838, 839, 840, 841, 842, 843, 844, 845, 846, 847, 848, 849, 850, 851, 852, 853, 854, 855, 856, 857, 858, 859, 860, 861, 862, 863, 864, 865, 866, 867, 868, 869, 870] (by decide +kernel) (by decide +kernel)
set_option maxRecDepth 20000 in
theorem gL_law_X10_passes : GoodIn wsL_law (wsV RL 44 RX10 yX10_passes wsX10_passes) := goodIn_app (goodIn_of _ (by decide +kernel)) ggL_law_X10_passes
set_option maxRecDepth 20000 in
theorem ggL_law_X9_outs : GoodIn wsL_law wsX9_outs := goodIn_r _ [334, 20, 24, 16, 150, 335, 217, 218, 219, 19, 220, 75, 160, 161, 162, 2, 163, 47, 254, 255, 256, 23, 257, 86, 87, 258, 259, 260, 261, 82, 83, 84, 81, 79, 85, 262, 263, 264, 265, 266, 267, 268, 269, 270, 271, 272, 273, 274, 80, 88, 275, 276, 277, 278, 279, 280, 281, 282, 283, 284, 285, 286, 71, 827, 828, 829, 830, 831, 832, 833, 834, 835, 836, 837, 871, 872, 873, 874, 875, 881, 882, 883, 884, 885, 886, 887, 888, 889, 890, 876, 877, 878, 879, 880, 907, 908, 909, 910, 911] (by decide +kernel) (by decide +kernel)
set_option maxRecDepth 20000 in
theorem gL_law_X9_outs : GoodIn wsL_law (wsV RL 45 RX9 yX9_outs wsX9_outs) := goodIn_app (goodIn_of _ (by decide +kernel)) ggL_law_X9_outs
set_option maxRecDepth 20000 in
theorem ggL_law_X10_outs : GoodIn wsL_law wsX10_outs := goodIn_r _ [339, 320, 229, 230, 231, 5, 232, 211, 185, 186, 187, 191, 192, 193, 194, 125, 303, 304, 305, 306, 180, 307, 308, 309, 310, 181, 127, 126, 128, 315, 316, 317, 318, 138, 319, 321, 135, 322, 323, 324, 325, 326, 130, 136, 137, 838, 839, 840, 841, 842, 843, 844, 845, 846, 847, 848, 849, 850, 851, 852, 853, 854, 855, 856, 857, 858, 859, 860, 861, 862, 863, 864, 865, 866, 867, 868, 869, 870] (by decide +kernel) (by decide +kernel)
set_option maxRecDepth 20000 in
theorem gL_law_X10_outs : GoodIn wsL_law (wsV RL 48 RX10 yX10_outs wsX10_outs) := goodIn_app (goodIn_of _ (by decide +kernel)) ggL_law_X10_outs
set_option maxRecDepth 20000 in
theorem ggL_law_L_out : GoodIn wsL_law wsL_out := goodIn_ca (goodIn_r _ [343, 344, 345, 346, 347, 2, 348, 349, 350, 20, 24, 16, 150, 335, 351, 217, 218, 219, 19, 220, 75, 254, 255, 256, 23, 257, 86, 87, 258, 259, 260, 261, 82, 83, 84, 81, 79, 85, 262, 263, 264, 265, 266, 267, 268, 269, 270, 271, 272, 273, 274, 80, 88, 275, 276, 277, 278, 279, 280, 281, 282, 283, 284, 285, 286, 71, 827, 828, 829, 830, 831, 832, 833, 834, 835, 836, 837, 871, 872, 873, 874, 875, 881, 882, 883, 884, 885, 886, 887, 888, 889, 890, 876, 877, 878, 879, 880, 907, 908, 909, 910, 911] (by decide +kernel) (by decide +kernel)) (goodIn_sub (fun _ h => List.mem_append_right _ h) (by decide +kernel))
set_option maxRecDepth 20000 in
theorem gL_law_L_out : GoodIn wsL_law (va_wsS RL 49 yL_out wsL_out) := goodIn_app (goodIn_of _ (by decide +kernel)) ggL_law_L_out
set_option maxRecDepth 20000 in
theorem ggL_law_X10_out : GoodIn wsL_law wsX10_out := goodIn_r _ [355, 356, 320, 136, 229, 230, 231, 5, 232, 211, 185, 186, 187, 357, 358, 359, 360, 303, 304, 305, 306, 180, 307, 308, 309, 310, 181, 127, 126, 128, 315, 316, 317, 318, 138, 319, 321, 135, 322, 323, 324, 325, 326, 130, 137, 838, 839, 840, 841, 842, 843, 844, 845, 846, 847, 848, 849, 850, 851, 852, 853, 854, 855, 856, 857, 858, 859, 860, 861, 862, 863, 864, 865, 866, 867, 868, 869, 870] (by decide +kernel) (by decide +kernel)
set_option maxRecDepth 20000 in
theorem gL_law_X10_out : GoodIn wsL_law (wsV RL 54 RX10 yX10_out wsX10_out) := goodIn_app (goodIn_of _ (by decide +kernel)) ggL_law_X10_out
set_option maxRecDepth 20000 in
theorem ggL_law_X10_thrown : GoodIn wsL_law wsX10_thrown := goodIn_r _ [364, 356, 838, 839, 840, 841, 842, 843, 844, 845, 846, 847, 848, 849, 850, 851, 852, 853, 854, 855, 856, 857, 858, 859, 860, 861, 862, 863, 864, 865, 866, 867, 868, 869, 870] (by decide +kernel) (by decide +kernel)
set_option maxRecDepth 20000 in
theorem gL_law_X10_thrown : GoodIn wsL_law (wsV RL 55 RX10 yX10_thrown wsX10_thrown) := goodIn_app (goodIn_of _ (by decide +kernel)) ggL_law_X10_thrown
set_option maxRecDepth 20000 in
theorem ggL_law_X9_steps : GoodIn wsL_law wsX9_steps := goodIn_r _ [368, 20, 24, 16, 150, 369, 217, 218, 219, 19, 220, 75, 160, 161, 162, 2, 163, 47, 254, 255, 256, 23, 257, 86, 87, 258, 259, 260, 261, 82, 83, 84, 81, 79, 85, 262, 263, 264, 265, 266, 267, 268, 269, 270, 271, 272, 273, 274, 80, 88, 275, 276, 277, 278, 279, 280, 281, 282, 283, 284, 285, 286, 71, 827, 828, 829, 830, 831, 832, 833, 834, 835, 836, 837, 871, 872, 873, 874, 875, 881, 882, 883, 884, 885, 886, 887, 888, 889, 890, 876, 877, 878, 879, 880, 907, 908, 909, 910, 911] (by decide +kernel) (by decide +kernel)
set_option maxRecDepth 20000 in
theorem gL_law_X9_steps : GoodIn wsL_law (wsV RL 59 RX9 yX9_steps wsX9_steps) := goodIn_app (goodIn_of _ (by decide +kernel)) ggL_law_X9_steps
set_option maxRecDepth 20000 in
theorem ggL_law_X10_steps : GoodIn wsL_law wsX10_steps := goodIn_r _ [373, 319, 229, 230, 231, 5, 232, 211, 185, 186, 187, 191, 192, 193, 194, 125, 303, 304, 305, 306, 180, 307, 308, 309, 310, 181, 127, 126, 128, 315, 316, 317, 318, 138, 320, 321, 135, 322, 323, 324, 325, 326, 130, 136, 137, 838, 839, 840, 841, 842, 843, 844, 845, 846, 847, 848, 849, 850, 851, 852, 853, 854, 855, 856, 857, 858, 859, 860, 861, 862, 863, 864, 865, 866, 867, 868, 869, 870] (by decide +kernel) (by decide +kernel)
set_option maxRecDepth 20000 in
theorem gL_law_X10_steps : GoodIn wsL_law (wsV RL 62 RX10 yX10_steps wsX10_steps) := goodIn_app (goodIn_of _ (by decide +kernel)) ggL_law_X10_steps
set_option maxRecDepth 20000 in
theorem ggL_law_X9_step : GoodIn wsL_law wsX9_step := goodIn_r _ [377, 20, 24, 16, 150, 369, 378, 217, 218, 219, 19, 220, 75, 160, 161, 162, 2, 163, 47, 254, 255, 256, 23, 257, 86, 87, 258, 259, 260, 261, 82, 83, 84, 81, 79, 85, 262, 263, 264, 265, 266, 267, 268, 269, 270, 271, 272, 273, 274, 80, 88, 275, 276, 277, 278, 279, 280, 281, 282, 283, 284, 285, 286, 71, 827, 828, 829, 830, 831, 832, 833, 834, 835, 836, 837, 871, 872, 873, 874, 875, 881, 882, 883, 884, 885, 886, 887, 888, 889, 890, 876, 877, 878, 879, 880, 907, 908, 909, 910, 911] (by decide +kernel) (by decide +kernel)
set_option maxRecDepth 20000 in
theorem gL_law_X9_step : GoodIn wsL_law (wsV RL 63 RX9 yX9_step wsX9_step) := goodIn_app (goodIn_of _ (by decide +kernel)) ggL_law_X9_step
set_option maxRecDepth 20000 in
theorem ggL_law_X10_step : GoodIn wsL_law wsX10_step := goodIn_r _ [382, 319, 135, 229, 230, 231, 5, 232, 211, 185, 186, 187, 191, 192, 193, 194, 125, 303, 304, 305, 306, 180, 307, 308, 309, 310, 181, 127, 126, 128, 315, 316, 317, 318, 138, 320, 321, 322, 323, 324, 325, 326, 130, 136, 137, 838, 839, 840, 841, 842, 843, 844, 845, 846, 847, 848, 849, 850, 851, 852, 853, 854, 855, 856, 857, 858, 859, 860, 861, 862, 863, 864, 865, 866, 867, 868, 869, 870] (by decide +kernel) (by decide +kernel)
set_option maxRecDepth 20000 in
theorem gL_law_X10_step : GoodIn wsL_law (wsV RL 66 RX10 yX10_step wsX10_step) := goodIn_app (goodIn_of _ (by decide +kernel)) ggL_law_X10_step
set_option maxRecDepth 20000 in
theorem ggL_law_X9_met : GoodIn wsL_law wsX9_met := goodIn_r _ [386, 20, 16, 24, 150, 217, 218, 219, 19, 220, 75, 387, 388, 389, 15, 390, 56, 391, 160, 161, 162, 2, 163, 47, 254, 255, 256, 23, 257, 86, 87, 258, 259, 260, 261, 82, 83, 84, 81, 79, 85, 262, 263, 264, 265, 266, 267, 268, 269, 270, 271, 272, 273, 274, 80, 88, 275, 276, 277, 278, 279, 280, 281, 282, 283, 284, 285, 286, 71, 392, 393, 394, 395, 827, 828, 829, 830, 831, 832, 833, 834, 835, 836, 837, 871, 872, 873, 874, 875, 876, 877, 878, 879, 880, 907, 908, 909, 910, 911, 881, 882, 883, 884, 885, 886, 887, 888, 889, 890] (by decide +kernel) (by decide +kernel)
set_option maxRecDepth 20000 in
theorem gL_law_X9_met : GoodIn wsL_law (wsV RL 67 RX9 yX9_met wsX9_met) := goodIn_app (goodIn_of _ (by decide +kernel)) ggL_law_X9_met
set_option maxRecDepth 20000 in
theorem ggL_law_X10_met : GoodIn wsL_law wsX10_met := goodIn_r _ [399, 319, 135, 229, 230, 231, 5, 232, 211, 185, 186, 187, 400, 401, 402, 403, 181, 191, 192, 193, 194, 125, 303, 304, 305, 306, 180, 307, 308, 309, 310, 127, 126, 128, 315, 316, 317, 318, 138, 320, 321, 322, 323, 324, 325, 326, 130, 136, 137, 838, 839, 840, 841, 842, 843, 844, 845, 846, 847, 848, 849, 850, 851, 852, 853, 854, 855, 856, 857, 858, 859, 860, 861, 862, 863, 864, 865, 866, 867, 868, 869, 870] (by decide +kernel) (by decide +kernel)
set_option maxRecDepth 20000 in
theorem gL_law_X10_met : GoodIn wsL_law (wsV RL 70 RX10 yX10_met wsX10_met) := goodIn_app (goodIn_of _ (by decide +kernel)) ggL_law_X10_met
set_option maxRecDepth 20000 in
theorem ggL_law_X9_score : GoodIn wsL_law wsX9_score := goodIn_r _ [407, 16, 36, 32, 408, 409, 387, 388, 389, 15, 390, 56, 391, 160, 161, 162, 2, 163, 47, 410, 411, 412, 413, 48, 150, 20, 24, 41, 149, 414, 415, 416, 31, 417, 96, 97, 98, 99, 418, 419, 255, 256, 23, 257, 86, 87, 258, 259, 260, 261, 82, 83, 84, 81, 79, 85, 262, 263, 264, 265, 266, 267, 268, 269, 270, 271, 272, 273, 274, 80, 88, 275, 276, 277, 278, 279, 280, 281, 282, 283, 284, 285, 19, 286, 71, 420, 421, 422, 423, 424, 425, 426, 427, 239, 240, 241, 74, 428, 288, 289, 290, 291, 292, 293, 294, 295, 72, 429, 430, 431, 40, 432, 112, 113, 114, 433, 434, 435, 436, 437, 438, 439, 440, 441, 442, 443, 444, 445, 446, 109, 110, 447, 448, 449, 450, 451, 452, 453, 454, 455, 456, 457, 458, 459, 460, 461, 462, 463, 464, 465, 35, 466, 467, 468, 469, 470, 471, 472, 473, 474, 475, 476, 477, 478, 479, 480, 103, 104, 481, 482, 483, 484, 827, 828, 829, 830, 831, 832, 833, 834, 835, 836, 837, 896, 897, 871, 872, 873, 874, 875, 907, 908, 909, 910, 911, 892, 893, 894, 895, 876, 877, 878, 879, 880, 881, 882, 883, 884, 885, 886, 887, 888, 889, 890, 898, 899, 900, 901, 902, 903] (by decide +kernel) (by decide +kernel)
set_option maxRecDepth 20000 in
theorem gL_law_X9_score : GoodIn wsL_law (wsV RL 71 RX9 yX9_score wsX9_score) := goodIn_app (goodIn_of _ (by decide +kernel)) ggL_law_X9_score
set_option maxRecDepth 20000 in
theorem ggL_law_X10_score : GoodIn wsL_law wsX10_score := goodIn_r _ [488, 489, 490, 400, 401, 402, 5, 403, 181, 185, 186, 187, 191, 192, 193, 194, 125, 491, 492, 493, 494, 495, 496, 497, 211, 140, 139, 319, 135, 322, 134, 303, 304, 305, 306, 180, 307, 308, 309, 310, 127, 126, 128, 311, 312, 313, 314, 315, 316, 317, 318, 138, 320, 321, 323, 324, 325, 326, 130, 136, 137, 327, 328, 329, 330, 132, 131, 498, 499, 500, 501, 502, 503, 504, 505, 838, 839, 840, 841, 842, 843, 844, 845, 846, 847, 848, 849, 850, 851, 852, 853, 854, 855, 856, 857, 858, 859, 860, 861, 862, 863, 864, 865, 866, 867, 868, 869, 870] (by decide +kernel) (by decide +kernel)
set_option maxRecDepth 20000 in
theorem gL_law_X10_score : GoodIn wsL_law (wsV RL 75 RX10 yX10_score wsX10_score) := goodIn_app (goodIn_of _ (by decide +kernel)) ggL_law_X10_score
set_option maxRecDepth 20000 in
theorem ggL_law_X9_rank : GoodIn wsL_law wsX9_rank := goodIn_r _ [509, 16, 36, 32, 150, 149, 37, 387, 388, 389, 15, 390, 56, 391, 160, 161, 162, 2, 163, 47, 410, 411, 412, 413, 48, 20, 24, 41, 414, 415, 416, 31, 417, 96, 97, 98, 99, 418, 419, 255, 256, 23, 257, 86, 87, 258, 259, 260, 261, 82, 83, 84, 81, 79, 85, 262, 263, 264, 265, 266, 267, 268, 269, 270, 271, 272, 273, 274, 80, 88, 275, 276, 277, 278, 279, 280, 281, 282, 283, 284, 285, 19, 286, 71, 420, 421, 422, 423, 424, 425, 426, 427, 239, 240, 241, 74, 428, 288, 289, 290, 291, 292, 293, 294, 295, 72, 429, 430, 431, 40, 432, 112, 113, 114, 433, 434, 435, 436, 437, 438, 439, 440, 441, 442, 443, 444, 445, 446, 109, 110, 447, 448, 449, 450, 451, 452, 453, 454, 455, 456, 457, 458, 459, 460, 461, 462, 463, 464, 465, 35, 466, 467, 468, 469, 470, 471, 472, 473, 474, 475, 476, 477, 478, 479, 480, 103, 104, 510, 511, 512, 513, 514, 515, 516, 827, 828, 829, 830, 831, 832, 833, 834, 835, 836, 837, 871, 872, 873, 874, 875, 907, 908, 909, 910, 911, 892, 893, 894, 895, 876, 877, 878, 879, 880, 881, 882, 883, 884, 885, 886, 887, 888, 889, 890, 898, 899, 900, 901, 902, 903, 896, 897] (by decide +kernel) (by decide +kernel)
set_option maxRecDepth 20000 in
theorem gL_law_X9_rank : GoodIn wsL_law (wsV RL 76 RX9 yX9_rank wsX9_rank) := goodIn_app (goodIn_of _ (by decide +kernel)) ggL_law_X9_rank
set_option maxRecDepth 20000 in
theorem ggL_law_X10_rank : GoodIn wsL_law wsX10_rank := goodIn_r _ [520, 489, 490, 181, 400, 401, 402, 5, 403, 185, 186, 187, 191, 192, 193, 194, 125, 491, 492, 493, 494, 495, 496, 497, 211, 140, 139, 319, 135, 322, 134, 303, 304, 305, 306, 180, 307, 308, 309, 310, 127, 126, 128, 311, 312, 313, 314, 315, 316, 317, 318, 138, 320, 321, 323, 324, 325, 326, 130, 136, 137, 327, 328, 329, 330, 132, 131, 498, 499, 500, 501, 502, 503, 504, 505, 838, 839, 840, 841, 842, 843, 844, 845, 846, 847, 848, 849, 850, 851, 852, 853, 854, 855, 856, 857, 858, 859, 860, 861, 862, 863, 864, 865, 866, 867, 868, 869, 870] (by decide +kernel) (by decide +kernel)
set_option maxRecDepth 20000 in
theorem gL_law_X10_rank : GoodIn wsL_law (wsV RL 79 RX10 yX10_rank wsX10_rank) := goodIn_app (goodIn_of _ (by decide +kernel)) ggL_law_X10_rank
set_option maxRecDepth 20000 in
theorem ggL_law_X9_prior : GoodIn wsL_law wsX9_prior := goodIn_r _ [524, 16, 41, 525, 387, 388, 389, 15, 390, 56, 391, 160, 161, 162, 2, 163, 47, 827, 828, 829, 830, 831, 832, 833, 834, 835, 836, 837, 898, 899, 900, 901, 902, 903, 871, 872, 873, 874, 875, 907, 908, 909, 910, 911] (by decide +kernel) (by decide +kernel)
set_option maxRecDepth 20000 in
theorem gL_law_X9_prior : GoodIn wsL_law (wsV RL 80 RX9 yX9_prior wsX9_prior) := goodIn_app (goodIn_of _ (by decide +kernel)) ggL_law_X9_prior
set_option maxRecDepth 20000 in
theorem ggL_law_X10_prior : GoodIn wsL_law wsX10_prior := goodIn_r _ [529, 129, 400, 401, 402, 5, 403, 181, 185, 186, 187, 188, 189, 190, 191, 192, 193, 194, 125, 838, 839, 840, 841, 842, 843, 844, 845, 846, 847, 848, 849, 850, 851, 852, 853, 854, 855, 856, 857, 858, 859, 860, 861, 862, 863, 864, 865, 866, 867, 868, 869, 870] (by decide +kernel) (by decide +kernel)
set_option maxRecDepth 20000 in
theorem gL_law_X10_prior : GoodIn wsL_law (wsV RL 83 RX10 yX10_prior wsX10_prior) := goodIn_app (goodIn_of _ (by decide +kernel)) ggL_law_X10_prior
set_option maxRecDepth 20000 in
theorem ggL_law_X9_suspects : GoodIn wsL_law wsX9_suspects := goodIn_r _ [533, 41, 534, 410, 411, 412, 2, 413, 48, 32, 16, 150, 20, 24, 149, 414, 415, 416, 31, 417, 96, 97, 98, 99, 418, 419, 255, 256, 23, 257, 86, 87, 258, 259, 260, 261, 82, 83, 84, 81, 79, 85, 262, 263, 264, 265, 266, 267, 268, 269, 270, 271, 272, 273, 274, 80, 88, 275, 276, 277, 278, 279, 280, 281, 282, 283, 284, 285, 19, 286, 71, 420, 421, 422, 423, 424, 425, 426, 427, 239, 240, 241, 74, 428, 288, 289, 290, 291, 292, 293, 294, 295, 72, 429, 430, 431, 40, 432, 112, 113, 114, 433, 434, 435, 436, 437, 438, 439, 440, 441, 442, 443, 444, 445, 446, 109, 110, 447, 448, 449, 450, 451, 452, 453, 454, 455, 456, 457, 458, 459, 460, 461, 462, 827, 828, 829, 830, 831, 832, 833, 834, 835, 836, 837, 898, 899, 900, 901, 902, 903, 871, 872, 873, 874, 875, 907, 908, 909, 910, 911, 892, 893, 894, 895, 876, 877, 878, 879, 880, 881, 882, 883, 884, 885, 886, 887, 888, 889, 890] (by decide +kernel) (by decide +kernel)
set_option maxRecDepth 20000 in
theorem gL_law_X9_suspects : GoodIn wsL_law (wsV RL 84 RX9 yX9_suspects wsX9_suspects) := goodIn_app (goodIn_of _ (by decide +kernel)) ggL_law_X9_suspects
set_option maxRecDepth 20000 in
theorem ggL_law_X10_suspects : GoodIn wsL_law wsX10_suspects := goodIn_r _ [538, 539, 540, 541, 542, 5, 543, 495, 181, 491, 492, 493, 494, 496, 497, 211, 140, 139, 319, 135, 322, 134, 303, 304, 305, 306, 180, 307, 308, 309, 310, 127, 126, 128, 311, 312, 313, 314, 315, 316, 317, 318, 138, 320, 321, 323, 324, 325, 326, 130, 136, 137, 327, 328, 329, 330, 132, 131, 544, 545, 546, 547, 129, 548, 141, 142, 549, 550, 551, 552, 553, 554, 555, 556, 838, 839, 840, 841, 842, 843, 844, 845, 846, 847, 848, 849, 850, 851, 852, 853, 854, 855, 856, 857, 858, 859, 860, 861, 862, 863, 864, 865, 866, 867, 868, 869, 870] (by decide +kernel) (by decide +kernel)
set_option maxRecDepth 20000 in
theorem gL_law_X10_suspects : GoodIn wsL_law (wsV RL 87 RX10 yX10_suspects wsX10_suspects) := goodIn_app (goodIn_of _ (by decide +kernel)) ggL_law_X10_suspects
set_option maxRecDepth 20000 in
theorem ggL_law_X9_suspect : GoodIn wsL_law wsX9_suspect := goodIn_r _ [560, 41, 561, 410, 411, 412, 2, 413, 48, 32, 16, 150, 20, 24, 149, 414, 415, 416, 31, 417, 96, 97, 98, 99, 418, 419, 255, 256, 23, 257, 86, 87, 258, 259, 260, 261, 82, 83, 84, 81, 79, 85, 262, 263, 264, 265, 266, 267, 268, 269, 270, 271, 272, 273, 274, 80, 88, 275, 276, 277, 278, 279, 280, 281, 282, 283, 284, 285, 19, 286, 71, 420, 421, 422, 423, 424, 425, 426, 427, 239, 240, 241, 74, 428, 288, 289, 290, 291, 292, 293, 294, 295, 72, 429, 430, 431, 40, 432, 112, 113, 114, 433, 434, 435, 436, 437, 438, 439, 440, 441, 442, 443, 444, 445, 446, 109, 110, 447, 448, 449, 450, 451, 452, 453, 454, 455, 456, 457, 458, 459, 460, 461, 462, 562, 563, 564, 565, 827, 828, 829, 830, 831, 832, 833, 834, 835, 836, 837, 898, 899, 900, 901, 902, 903, 871, 872, 873, 874, 875, 907, 908, 909, 910, 911, 892, 893, 894, 895, 876, 877, 878, 879, 880, 881, 882, 883, 884, 885, 886, 887, 888, 889, 890] (by decide +kernel) (by decide +kernel)
set_option maxRecDepth 20000 in
theorem gL_law_X9_suspect : GoodIn wsL_law (wsV RL 88 RX9 yX9_suspect wsX9_suspect) := goodIn_app (goodIn_of _ (by decide +kernel)) ggL_law_X9_suspect
set_option maxRecDepth 20000 in
theorem ggL_law_X10_suspect : GoodIn wsL_law wsX10_suspect := goodIn_r _ [569, 539, 141, 540, 541, 542, 5, 543, 495, 181, 491, 492, 493, 494, 496, 497, 211, 140, 139, 319, 135, 322, 134, 303, 304, 305, 306, 180, 307, 308, 309, 310, 127, 126, 128, 311, 312, 313, 314, 315, 316, 317, 318, 138, 320, 321, 323, 324, 325, 326, 130, 136, 137, 327, 328, 329, 330, 132, 131, 544, 545, 546, 547, 129, 548, 142, 549, 550, 551, 552, 553, 554, 555, 556, 185, 186, 187, 838, 839, 840, 841, 842, 843, 844, 845, 846, 847, 848, 849, 850, 851, 852, 853, 854, 855, 856, 857, 858, 859, 860, 861, 862, 863, 864, 865, 866, 867, 868, 869, 870] (by decide +kernel) (by decide +kernel)
set_option maxRecDepth 20000 in
theorem gL_law_X10_suspect : GoodIn wsL_law (wsV RL 91 RX10 yX10_suspect wsX10_suspect) := goodIn_app (goodIn_of _ (by decide +kernel)) ggL_law_X10_suspect
set_option maxRecDepth 20000 in
theorem ggL_law_X9_odds : GoodIn wsL_law wsX9_odds := goodIn_r _ [573, 41, 410, 411, 412, 2, 413, 48, 32, 16, 150, 20, 24, 149, 414, 415, 416, 31, 417, 96, 97, 98, 99, 418, 419, 255, 256, 23, 257, 86, 87, 258, 259, 260, 261, 82, 83, 84, 81, 79, 85, 262, 263, 264, 265, 266, 267, 268, 269, 270, 271, 272, 273, 274, 80, 88, 275, 276, 277, 278, 279, 280, 281, 282, 283, 284, 285, 19, 286, 71, 420, 421, 422, 423, 424, 425, 426, 427, 239, 240, 241, 74, 428, 288, 289, 290, 291, 292, 293, 294, 295, 72, 429, 430, 431, 40, 432, 112, 113, 114, 433, 434, 435, 436, 437, 438, 439, 440, 441, 442, 443, 444, 445, 446, 109, 110, 447, 448, 449, 450, 451, 452, 453, 454, 455, 456, 457, 458, 459, 460, 461, 462, 562, 563, 564, 565, 574, 575, 576, 577, 111, 578, 579, 471, 472, 473, 474, 475, 476, 827, 828, 829, 830, 831, 832, 833, 834, 835, 836, 837, 871, 872, 873, 874, 875, 907, 908, 909, 910, 911, 892, 893, 894, 895, 876, 877, 878, 879, 880, 881, 882, 883, 884, 885, 886, 887, 888, 889, 890, 898, 899, 900, 901, 902, 903] (by decide +kernel) (by decide +kernel)
set_option maxRecDepth 20000 in
theorem gL_law_X9_odds : GoodIn wsL_law (wsV RL 92 RX9 yX9_odds wsX9_odds) := goodIn_app (goodIn_of _ (by decide +kernel)) ggL_law_X9_odds
set_option maxRecDepth 20000 in
theorem ggL_law_X10_odds : GoodIn wsL_law wsX10_odds := goodIn_r _ [583, 539, 142, 540, 541, 542, 5, 543, 495, 181, 491, 492, 493, 494, 496, 497, 211, 140, 139, 319, 135, 322, 134, 303, 304, 305, 306, 180, 307, 308, 309, 310, 127, 126, 128, 311, 312, 313, 314, 315, 316, 317, 318, 138, 320, 321, 323, 324, 325, 326, 130, 136, 137, 327, 328, 329, 330, 132, 131, 544, 545, 546, 547, 129, 548, 141, 549, 550, 551, 552, 553, 554, 555, 556, 185, 186, 187, 838, 839, 840, 841, 842, 843, 844, 845, 846, 847, 848, 849, 850, 851, 852, 853, 854, 855, 856, 857, 858, 859, 860, 861, 862, 863, 864, 865, 866, 867, 868, 869, 870] (by decide +kernel) (by decide +kernel)
set_option maxRecDepth 20000 in
theorem gL_law_X10_odds : GoodIn wsL_law (wsV RL 96 RX10 yX10_odds wsX10_odds) := goodIn_app (goodIn_of _ (by decide +kernel)) ggL_law_X10_odds
set_option maxRecDepth 20000 in
theorem ggL_law_X9_best : GoodIn wsL_law wsX9_best := goodIn_r _ [587, 41, 534, 561, 410, 411, 412, 2, 413, 48, 32, 16, 150, 20, 24, 149, 414, 415, 416, 31, 417, 96, 97, 98, 99, 418, 419, 255, 256, 23, 257, 86, 87, 258, 259, 260, 261, 82, 83, 84, 81, 79, 85, 262, 263, 264, 265, 266, 267, 268, 269, 270, 271, 272, 273, 274, 80, 88, 275, 276, 277, 278, 279, 280, 281, 282, 283, 284, 285, 19, 286, 71, 420, 421, 422, 423, 424, 425, 426, 427, 239, 240, 241, 74, 428, 288, 289, 290, 291, 292, 293, 294, 295, 72, 429, 430, 431, 40, 432, 112, 113, 114, 433, 434, 435, 436, 437, 438, 439, 440, 441, 442, 443, 444, 445, 446, 109, 110, 447, 448, 449, 450, 451, 452, 453, 454, 455, 456, 457, 458, 459, 460, 461, 462, 574, 575, 576, 577, 111, 578, 579, 471, 472, 473, 474, 475, 476, 827, 828, 829, 830, 831, 832, 833, 834, 835, 836, 837, 898, 899, 900, 901, 902, 903, 871, 872, 873, 874, 875, 907, 908, 909, 910, 911, 892, 893, 894, 895, 876, 877, 878, 879, 880, 881, 882, 883, 884, 885, 886, 887, 888, 889, 890] (by decide +kernel) (by decide +kernel)
set_option maxRecDepth 20000 in
theorem gL_law_X9_best : GoodIn wsL_law (wsV RL 97 RX9 yX9_best wsX9_best) := goodIn_app (goodIn_of _ (by decide +kernel)) ggL_law_X9_best
set_option maxRecDepth 20000 in
theorem ggL_law_X10_best : GoodIn wsL_law wsX10_best := goodIn_r _ [591, 539, 142, 141, 540, 541, 542, 5, 543, 495, 181, 491, 492, 493, 494, 496, 497, 211, 140, 139, 319, 135, 322, 134, 303, 304, 305, 306, 180, 307, 308, 309, 310, 127, 126, 128, 311, 312, 313, 314, 315, 316, 317, 318, 138, 320, 321, 323, 324, 325, 326, 130, 136, 137, 327, 328, 329, 330, 132, 131, 544, 545, 546, 547, 129, 548, 549, 550, 551, 552, 553, 554, 555, 556, 838, 839, 840, 841, 842, 843, 844, 845, 846, 847, 848, 849, 850, 851, 852, 853, 854, 855, 856, 857, 858, 859, 860, 861, 862, 863, 864, 865, 866, 867, 868, 869, 870] (by decide +kernel) (by decide +kernel)
set_option maxRecDepth 20000 in
theorem gL_law_X10_best : GoodIn wsL_law (wsV RL 100 RX10 yX10_best wsX10_best) := goodIn_app (goodIn_of _ (by decide +kernel)) ggL_law_X10_best
set_option maxRecDepth 20000 in
theorem ggL_law_X9_slice : GoodIn wsL_law wsX9_slice := goodIn_r _ [595, 20, 24, 16, 150, 335, 28, 217, 218, 219, 19, 220, 75, 160, 161, 162, 2, 163, 47, 254, 255, 256, 23, 257, 86, 87, 258, 259, 260, 261, 82, 83, 84, 81, 79, 85, 262, 263, 264, 265, 266, 267, 268, 269, 270, 271, 272, 273, 274, 80, 88, 275, 276, 277, 278, 279, 280, 281, 282, 283, 284, 285, 286, 71, 596, 597, 598, 27, 599, 92, 600, 601, 602, 603, 604, 605, 606, 607, 608, 609, 610, 611, 827, 828, 829, 830, 831, 832, 833, 834, 835, 836, 837, 871, 872, 873, 874, 875, 881, 882, 883, 884, 885, 886, 887, 888, 889, 890, 876, 877, 878, 879, 880, 907, 908, 909, 910, 911, 891] (by decide +kernel) (by decide +kernel)
set_option maxRecDepth 20000 in
theorem gL_law_X9_slice : GoodIn wsL_law (wsV RL 101 RX9 yX9_slice wsX9_slice) := goodIn_app (goodIn_of _ (by decide +kernel)) ggL_law_X9_slice
set_option maxRecDepth 20000 in
theorem ggL_law_X10_slice : GoodIn wsL_law wsX10_slice := goodIn_r _ [615, 320, 319, 143, 137, 135, 127, 229, 230, 231, 5, 232, 211, 185, 186, 187, 191, 192, 193, 194, 125, 303, 304, 305, 306, 180, 307, 308, 309, 310, 181, 126, 128, 315, 316, 317, 318, 138, 321, 322, 323, 324, 325, 326, 130, 136, 616, 617, 618, 619, 620, 621, 622, 623, 838, 839, 840, 841, 842, 843, 844, 845, 846, 847, 848, 849, 850, 851, 852, 853, 854, 855, 856, 857, 858, 859, 860, 861, 862, 863, 864, 865, 866, 867, 868, 869, 870] (by decide +kernel) (by decide +kernel)
set_option maxRecDepth 20000 in
theorem gL_law_X10_slice : GoodIn wsL_law (wsV RL 104 RX10 yX10_slice wsX10_slice) := goodIn_app (goodIn_of _ (by decide +kernel)) ggL_law_X10_slice
set_option maxRecDepth 20000 in
theorem ggL_law_X9_ifs : GoodIn wsL_law wsX9_ifs := goodIn_r _ [627, 20, 24, 16, 150, 628, 217, 218, 219, 19, 220, 75, 160, 161, 162, 2, 163, 47, 254, 255, 256, 23, 257, 86, 87, 258, 259, 260, 261, 82, 83, 84, 81, 79, 85, 262, 263, 264, 265, 266, 267, 268, 269, 270, 271, 272, 273, 274, 80, 88, 275, 276, 277, 278, 279, 280, 281, 282, 283, 284, 285, 286, 71, 827, 828, 829, 830, 831, 832, 833, 834, 835, 836, 837, 871, 872, 873, 874, 875, 881, 882, 883, 884, 885, 886, 887, 888, 889, 890, 876, 877, 878, 879, 880, 907, 908, 909, 910, 911] (by decide +kernel) (by decide +kernel)
set_option maxRecDepth 20000 in
theorem gL_law_X9_ifs : GoodIn wsL_law (wsV RL 105 RX9 yX9_ifs wsX9_ifs) := goodIn_app (goodIn_of _ (by decide +kernel)) ggL_law_X9_ifs
set_option maxRecDepth 20000 in
theorem ggL_law_X10_ifs : GoodIn wsL_law wsX10_ifs := goodIn_r _ [632, 321, 229, 230, 231, 5, 232, 211, 185, 186, 187, 191, 192, 193, 194, 125, 303, 304, 305, 306, 180, 307, 308, 309, 310, 181, 127, 126, 128, 315, 316, 317, 318, 138, 319, 320, 135, 322, 323, 324, 325, 326, 130, 136, 137, 838, 839, 840, 841, 842, 843, 844, 845, 846, 847, 848, 849, 850, 851, 852, 853, 854, 855, 856, 857, 858, 859, 860, 861, 862, 863, 864, 865, 866, 867, 868, 869, 870] (by decide +kernel) (by decide +kernel)
set_option maxRecDepth 20000 in
theorem gL_law_X10_ifs : GoodIn wsL_law (wsV RL 108 RX10 yX10_ifs wsX10_ifs) := goodIn_app (goodIn_of _ (by decide +kernel)) ggL_law_X10_ifs
set_option maxRecDepth 20000 in
theorem ggL_law_X9_turn : GoodIn wsL_law wsX9_turn := goodIn_r _ [636, 20, 24, 16, 150, 628, 217, 218, 219, 19, 220, 75, 160, 161, 162, 2, 163, 47, 254, 255, 256, 23, 257, 86, 87, 258, 259, 260, 261, 82, 83, 84, 81, 79, 85, 262, 263, 264, 265, 266, 267, 268, 269, 270, 271, 272, 273, 274, 80, 88, 275, 276, 277, 278, 279, 280, 281, 282, 283, 284, 285, 286, 71, 637, 638, 639, 640, 641, 642, 643, 644, 287, 288, 289, 290, 291, 292, 293, 294, 295, 72, 296, 297, 298, 827, 828, 829, 830, 831, 832, 833, 834, 835, 836, 837, 871, 872, 873, 874, 875, 881, 882, 883, 884, 885, 886, 887, 888, 889, 890, 876, 877, 878, 879, 880, 907, 908, 909, 910, 911] (by decide +kernel) (by decide +kernel)
set_option maxRecDepth 20000 in
theorem gL_law_X9_turn : GoodIn wsL_law (wsV RL 109 RX9 yX9_turn wsX9_turn) := goodIn_app (goodIn_of _ (by decide +kernel)) ggL_law_X9_turn
set_option maxRecDepth 20000 in
theorem ggL_law_X10_turn : GoodIn wsL_law wsX10_turn := goodIn_r _ [648, 321, 229, 230, 231, 5, 232, 211, 185, 186, 187, 191, 192, 193, 194, 125, 303, 304, 305, 306, 180, 307, 308, 309, 310, 181, 127, 126, 128, 315, 316, 317, 318, 138, 319, 320, 135, 322, 323, 324, 325, 326, 130, 136, 137, 649, 650, 651, 652, 327, 328, 329, 330, 132, 131, 838, 839, 840, 841, 842, 843, 844, 845, 846, 847, 848, 849, 850, 851, 852, 853, 854, 855, 856, 857, 858, 859, 860, 861, 862, 863, 864, 865, 866, 867, 868, 869, 870] (by decide +kernel) (by decide +kernel)
set_option maxRecDepth 20000 in
theorem gL_law_X10_turn : GoodIn wsL_law (wsV RL 112 RX10 yX10_turn wsX10_turn) := goodIn_app (goodIn_of _ (by decide +kernel)) ggL_law_X10_turn
set_option maxRecDepth 20000 in
theorem ggL_law_X9_turnFor : GoodIn wsL_law wsX9_turnFor := goodIn_r _ [656, 20, 24, 628, 217, 218, 219, 19, 220, 75, 160, 161, 162, 2, 163, 47, 250, 251, 252, 253, 16, 150, 254, 255, 256, 23, 257, 86, 87, 258, 259, 260, 261, 82, 83, 84, 81, 79, 85, 262, 263, 264, 265, 266, 267, 268, 269, 270, 271, 272, 273, 274, 80, 88, 275, 276, 277, 278, 279, 280, 281, 282, 283, 284, 285, 286, 71, 287, 288, 289, 290, 291, 292, 293, 294, 295, 72, 637, 638, 639, 640, 641, 642, 643, 644, 827, 828, 829, 830, 831, 832, 833, 834, 835, 836, 837, 881, 882, 883, 884, 885, 886, 887, 888, 889, 890, 876, 877, 878, 879, 880, 871, 872, 873, 874, 875, 907, 908, 909, 910, 911] (by decide +kernel) (by decide +kernel)
set_option maxRecDepth 20000 in
theorem gL_law_X9_turnFor : GoodIn wsL_law (wsV RL 113 RX9 yX9_turnFor wsX9_turnFor) := goodIn_app (goodIn_of _ (by decide +kernel)) ggL_law_X9_turnFor
set_option maxRecDepth 20000 in
theorem ggL_law_X10_turnFor : GoodIn wsL_law wsX10_turnFor := goodIn_r _ [660, 321, 229, 230, 231, 5, 232, 211, 185, 186, 187, 191, 192, 193, 194, 125, 303, 304, 305, 306, 180, 307, 308, 309, 310, 181, 127, 126, 128, 311, 312, 313, 314, 315, 316, 317, 318, 138, 319, 320, 135, 322, 323, 324, 325, 326, 130, 136, 137, 327, 328, 329, 330, 132, 131, 649, 650, 651, 652, 838, 839, 840, 841, 842, 843, 844, 845, 846, 847, 848, 849, 850, 851, 852, 853, 854, 855, 856, 857, 858, 859, 860, 861, 862, 863, 864, 865, 866, 867, 868, 869, 870] (by decide +kernel) (by decide +kernel)
set_option maxRecDepth 20000 in
theorem gL_law_X10_turnFor : GoodIn wsL_law (wsV RL 116 RX10 yX10_turnFor wsX10_turnFor) := goodIn_app (goodIn_of _ (by decide +kernel)) ggL_law_X10_turnFor
set_option maxRecDepth 20000 in
theorem ggL_law_X9_mends : GoodIn wsL_law wsX9_mends := goodIn_r _ [664, 665, 666, 667, 2, 668, 20, 16, 150, 669, 217, 218, 219, 19, 220, 75, 387, 388, 389, 15, 390, 56, 391, 670, 610, 611, 250, 251, 252, 253, 24, 254, 255, 256, 23, 257, 86, 87, 258, 259, 260, 261, 82, 83, 84, 81, 79, 85, 262, 263, 264, 265, 266, 267, 268, 269, 270, 271, 272, 273, 274, 80, 88, 275, 276, 277, 278, 279, 280, 281, 282, 283, 284, 285, 286, 71, 287, 288, 289, 290, 291, 292, 293, 294, 295, 72, 160, 161, 162, 163, 47, 671, 672, 673, 674, 675, 676, 677, 678, 679, 680, 681, 682, 296, 297, 298, 827, 828, 829, 830, 831, 832, 833, 834, 835, 836, 837, 871, 872, 873, 874, 875, 907, 908, 909, 910, 911, 876, 877, 878, 879, 880, 881, 882, 883, 884, 885, 886, 887, 888, 889, 890] (by decide +kernel) (by decide +kernel)
set_option maxRecDepth 20000 in
theorem gL_law_X9_mends : GoodIn wsL_law (wsV RL 117 RX9 yX9_mends wsX9_mends) := goodIn_app (goodIn_of _ (by decide +kernel)) ggL_law_X9_mends
set_option maxRecDepth 20000 in
theorem ggL_law_X10_mends : GoodIn wsL_law wsX10_mends := goodIn_r _ [686, 687, 688, 689, 5, 690, 127, 229, 230, 231, 232, 211, 185, 186, 187, 400, 401, 402, 403, 181, 303, 304, 305, 306, 180, 307, 308, 309, 310, 126, 128, 311, 312, 313, 314, 315, 316, 317, 318, 138, 319, 320, 321, 135, 322, 323, 324, 325, 326, 130, 136, 137, 327, 328, 329, 330, 132, 131, 191, 192, 193, 194, 125, 691, 692, 693, 694, 838, 839, 840, 841, 842, 843, 844, 845, 846, 847, 848, 849, 850, 851, 852, 853, 854, 855, 856, 857, 858, 859, 860, 861, 862, 863, 864, 865, 866, 867, 868, 869, 870] (by decide +kernel) (by decide +kernel)
set_option maxRecDepth 20000 in
theorem gL_law_X10_mends : GoodIn wsL_law (wsV RL 120 RX10 yX10_mends wsX10_mends) := goodIn_app (goodIn_of _ (by decide +kernel)) ggL_law_X10_mends
set_option maxRecDepth 20000 in
theorem ggL_law_L_mendBy : GoodIn wsL_law wsL_mendBy := goodIn_ca (goodIn_r _ [697, 344, 698, 699, 700, 2, 701, 349, 350, 665, 666, 667, 668, 20, 16, 150, 669, 217, 218, 219, 19, 220, 75, 387, 388, 389, 15, 390, 56, 391, 670, 610, 611, 250, 251, 252, 253, 24, 254, 255, 256, 23, 257, 86, 87, 258, 259, 260, 261, 82, 83, 84, 81, 79, 85, 262, 263, 264, 265, 266, 267, 268, 269, 270, 271, 272, 273, 274, 80, 88, 275, 276, 277, 278, 279, 280, 281, 282, 283, 284, 285, 286, 71, 287, 288, 289, 290, 291, 292, 293, 294, 295, 72, 671, 672, 673, 674, 675, 676, 677, 678, 679, 680, 681, 682, 827, 828, 829, 830, 831, 832, 833, 834, 835, 836, 837, 871, 872, 873, 874, 875, 907, 908, 909, 910, 911, 876, 877, 878, 879, 880, 881, 882, 883, 884, 885, 886, 887, 888, 889, 890] (by decide +kernel) (by decide +kernel)) (goodIn_sub (fun _ h => List.mem_append_right _ h) (by decide +kernel))
set_option maxRecDepth 20000 in
theorem gL_law_L_mendBy : GoodIn wsL_law (va_wsS RL 121 yL_mendBy wsL_mendBy) := goodIn_app (goodIn_of _ (by decide +kernel)) ggL_law_L_mendBy
set_option maxRecDepth 20000 in
theorem ggL_law_X10_mendBy : GoodIn wsL_law wsX10_mendBy := goodIn_r _ [705, 356, 687, 688, 689, 5, 690, 127, 229, 230, 231, 232, 211, 185, 186, 187, 400, 401, 402, 403, 181, 303, 304, 305, 306, 180, 307, 308, 309, 310, 126, 128, 311, 312, 313, 314, 315, 316, 317, 318, 138, 319, 320, 321, 135, 322, 323, 324, 325, 326, 130, 136, 137, 327, 328, 329, 330, 132, 131, 357, 358, 359, 360, 691, 692, 693, 694, 838, 839, 840, 841, 842, 843, 844, 845, 846, 847, 848, 849, 850, 851, 852, 853, 854, 855, 856, 857, 858, 859, 860, 861, 862, 863, 864, 865, 866, 867, 868, 869, 870] (by decide +kernel) (by decide +kernel)
set_option maxRecDepth 20000 in
theorem gL_law_X10_mendBy : GoodIn wsL_law (wsV RL 123 RX10 yX10_mendBy wsX10_mendBy) := goodIn_app (goodIn_of _ (by decide +kernel)) ggL_law_X10_mendBy
set_option maxRecDepth 20000 in
theorem ggL_law_X9_change : GoodIn wsL_law wsX9_change := goodIn_r _ [709, 16, 148, 149, 48, 387, 388, 389, 15, 390, 56, 391, 160, 161, 162, 2, 163, 47, 151, 152, 153, 154, 155, 156, 157, 158, 159, 710, 711, 712, 713, 59, 58, 168, 169, 170, 54, 171, 67, 172, 173, 174, 175, 63, 64, 65, 66, 714, 827, 828, 829, 830, 831, 832, 833, 834, 835, 836, 837, 871, 872, 873, 874, 875, 907, 908, 909, 910, 911] (by decide +kernel) (by decide +kernel)
set_option maxRecDepth 20000 in
theorem gL_law_X9_change : GoodIn wsL_law (wsV RL 124 RX9 yX9_change wsX9_change) := goodIn_app (goodIn_of _ (by decide +kernel)) ggL_law_X9_change
set_option maxRecDepth 20000 in
theorem ggL_law_X10_change : GoodIn wsL_law wsX10_change := goodIn_r _ [718, 180, 128, 400, 401, 402, 5, 403, 181, 185, 186, 187, 182, 183, 184, 188, 189, 190, 191, 192, 193, 194, 125, 195, 196, 197, 838, 839, 840, 841, 842, 843, 844, 845, 846, 847, 848, 849, 850, 851, 852, 853, 854, 855, 856, 857, 858, 859, 860, 861, 862, 863, 864, 865, 866, 867, 868, 869, 870] (by decide +kernel) (by decide +kernel)
set_option maxRecDepth 20000 in
theorem gL_law_X10_change : GoodIn wsL_law (wsV RL 128 RX10 yX10_change wsX10_change) := goodIn_app (goodIn_of _ (by decide +kernel)) ggL_law_X10_change
set_option maxRecDepth 20000 in
theorem ggL_law_X9_passesIn : GoodIn wsL_law wsX9_passesIn := goodIn_r _ [722, 16, 148, 149, 20, 217, 218, 219, 19, 220, 75, 160, 161, 162, 2, 163, 47, 723, 724, 725, 726, 24, 727, 728, 729, 15, 730, 57, 55, 58, 59, 731, 732, 733, 54, 734, 67, 735, 736, 737, 738, 63, 64, 65, 66, 172, 173, 174, 175, 739, 254, 255, 256, 23, 257, 86, 87, 258, 259, 260, 261, 82, 83, 84, 81, 79, 85, 262, 263, 264, 265, 266, 267, 268, 269, 270, 271, 272, 273, 274, 80, 88, 275, 276, 277, 278, 279, 280, 281, 282, 283, 284, 285, 286, 71, 287, 288, 289, 290, 291, 292, 293, 294, 295, 72, 296, 297, 298, 827, 828, 829, 830, 831, 832, 833, 834, 835, 836, 837, 871, 872, 873, 874, 875, 907, 908, 909, 910, 911, 876, 877, 878, 879, 880, 881, 882, 883, 884, 885, 886, 887, 888, 889, 890] (by decide +kernel) (by decide +kernel)
set_option maxRecDepth 20000 in
theorem gL_law_X9_passesIn : GoodIn wsL_law (wsV RL 129 RX9 yX9_passesIn wsX9_passesIn) := goodIn_app (goodIn_of _ (by decide +kernel)) ggL_law_X9_passesIn
set_option maxRecDepth 20000 in
theorem ggL_law_X10_passesIn : GoodIn wsL_law wsX10_passesIn := goodIn_r _ [743, 180, 185, 186, 5, 187, 229, 230, 231, 232, 211, 191, 192, 193, 194, 125, 744, 745, 746, 747, 307, 308, 309, 310, 181, 127, 126, 128, 311, 312, 313, 314, 315, 316, 317, 318, 138, 319, 320, 321, 135, 322, 323, 324, 325, 326, 130, 136, 137, 327, 328, 329, 330, 132, 131, 838, 839, 840, 841, 842, 843, 844, 845, 846, 847, 848, 849, 850, 851, 852, 853, 854, 855, 856, 857, 858, 859, 860, 861, 862, 863, 864, 865, 866, 867, 868, 869, 870] (by decide +kernel) (by decide +kernel)
set_option maxRecDepth 20000 in
theorem gL_law_X10_passesIn : GoodIn wsL_law (wsV RL 132 RX10 yX10_passesIn wsX10_passesIn) := goodIn_app (goodIn_of _ (by decide +kernel)) ggL_law_X10_passesIn
set_option maxRecDepth 20000 in
theorem ggL_law_X9_broke : GoodIn wsL_law wsX9_broke := goodIn_r _ [751, 45, 752, 753, 754, 755, 2, 756, 20, 217, 218, 219, 19, 220, 75, 250, 251, 252, 253, 24, 16, 150, 254, 255, 256, 23, 257, 86, 87, 258, 259, 260, 261, 82, 83, 84, 81, 79, 85, 262, 263, 264, 265, 266, 267, 268, 269, 270, 271, 272, 273, 274, 80, 88, 275, 276, 277, 278, 279, 280, 281, 282, 283, 284, 285, 286, 71, 287, 288, 289, 290, 291, 292, 293, 294, 295, 72, 723, 724, 725, 726, 727, 728, 729, 15, 730, 57, 55, 58, 59, 731, 732, 733, 54, 734, 67, 735, 736, 737, 738, 63, 64, 65, 66, 172, 173, 174, 175, 739, 160, 161, 162, 163, 47, 757, 758, 759, 760, 148, 149, 761, 762, 763, 44, 764, 118, 119, 120, 765, 766, 767, 768, 769, 770, 771, 772, 773, 774, 775, 776, 777, 827, 828, 829, 830, 831, 832, 833, 834, 835, 836, 837, 904, 905, 906, 876, 877, 878, 879, 880, 871, 872, 873, 874, 875, 881, 882, 883, 884, 885, 886, 887, 888, 889, 890, 907, 908, 909, 910, 911] (by decide +kernel) (by decide +kernel)
set_option maxRecDepth 20000 in
theorem gL_law_X9_broke : GoodIn wsL_law (wsV RL 133 RX9 yX9_broke wsX9_broke) := goodIn_app (goodIn_of _ (by decide +kernel)) ggL_law_X9_broke
set_option maxRecDepth 20000 in
theorem ggL_law_X10_broke : GoodIn wsL_law wsX10_broke := goodIn_r _ [781, 782, 783, 784, 5, 785, 180, 786, 229, 230, 231, 232, 211, 185, 186, 187, 744, 745, 746, 747, 307, 308, 309, 310, 181, 127, 126, 128, 311, 312, 313, 314, 315, 316, 317, 318, 138, 319, 320, 321, 135, 322, 323, 324, 325, 326, 130, 136, 137, 327, 328, 329, 330, 132, 131, 191, 192, 193, 194, 125, 838, 839, 840, 841, 842, 843, 844, 845, 846, 847, 848, 849, 850, 851, 852, 853, 854, 855, 856, 857, 858, 859, 860, 861, 862, 863, 864, 865, 866, 867, 868, 869, 870] (by decide +kernel) (by decide +kernel)
set_option maxRecDepth 20000 in
theorem gL_law_X10_broke : GoodIn wsL_law (wsV RL 136 RX10 yX10_broke wsX10_broke) := goodIn_app (goodIn_of _ (by decide +kernel)) ggL_law_X10_broke
set_option maxRecDepth 20000 in
theorem ggL_law_X9_looks : GoodIn wsL_law wsX9_looks := goodIn_r _ [790, 45, 791, 753, 754, 755, 2, 756, 20, 217, 218, 219, 19, 220, 75, 250, 251, 252, 253, 24, 16, 150, 254, 255, 256, 23, 257, 86, 87, 258, 259, 260, 261, 82, 83, 84, 81, 79, 85, 262, 263, 264, 265, 266, 267, 268, 269, 270, 271, 272, 273, 274, 80, 88, 275, 276, 277, 278, 279, 280, 281, 282, 283, 284, 285, 286, 71, 287, 288, 289, 290, 291, 292, 293, 294, 295, 72, 723, 724, 725, 726, 727, 728, 729, 15, 730, 57, 55, 58, 59, 731, 732, 733, 54, 734, 67, 735, 736, 737, 738, 63, 64, 65, 66, 172, 173, 174, 175, 739, 160, 161, 162, 163, 47, 757, 758, 759, 760, 148, 149, 761, 762, 763, 44, 764, 118, 119, 120, 765, 766, 767, 768, 769, 770, 771, 772, 773, 774, 775, 776, 777, 827, 828, 829, 830, 831, 832, 833, 834, 835, 836, 837, 904, 905, 906, 876, 877, 878, 879, 880, 871, 872, 873, 874, 875, 881, 882, 883, 884, 885, 886, 887, 888, 889, 890, 907, 908, 909, 910, 911] (by decide +kernel) (by decide +kernel)
set_option maxRecDepth 20000 in
theorem gL_law_X9_looks : GoodIn wsL_law (wsV RL 137 RX9 yX9_looks wsX9_looks) := goodIn_app (goodIn_of _ (by decide +kernel)) ggL_law_X9_looks
set_option maxRecDepth 20000 in
theorem ggL_law_X10_looks : GoodIn wsL_law wsX10_looks := goodIn_r _ [795, 786, 782, 783, 784, 5, 785, 180, 229, 230, 231, 232, 211, 185, 186, 187, 744, 745, 746, 747, 307, 308, 309, 310, 181, 127, 126, 128, 311, 312, 313, 314, 315, 316, 317, 318, 138, 319, 320, 321, 135, 322, 323, 324, 325, 326, 130, 136, 137, 327, 328, 329, 330, 132, 131, 191, 192, 193, 194, 125, 838, 839, 840, 841, 842, 843, 844, 845, 846, 847, 848, 849, 850, 851, 852, 853, 854, 855, 856, 857, 858, 859, 860, 861, 862, 863, 864, 865, 866, 867, 868, 869, 870] (by decide +kernel) (by decide +kernel)
set_option maxRecDepth 20000 in
theorem gL_law_X10_looks : GoodIn wsL_law (wsV RL 140 RX10 yX10_looks wsX10_looks) := goodIn_app (goodIn_of _ (by decide +kernel)) ggL_law_X10_looks
set_option maxRecDepth 20000 in
theorem ggL_law_X9_parting : GoodIn wsL_law wsX9_parting := goodIn_r _ [799, 41, 534, 20, 202, 410, 411, 412, 2, 413, 48, 32, 16, 150, 24, 149, 414, 415, 416, 31, 417, 96, 97, 98, 99, 418, 419, 255, 256, 23, 257, 86, 87, 258, 259, 260, 261, 82, 83, 84, 81, 79, 85, 262, 263, 264, 265, 266, 267, 268, 269, 270, 271, 272, 273, 274, 80, 88, 275, 276, 277, 278, 279, 280, 281, 282, 283, 284, 285, 19, 286, 71, 420, 421, 422, 423, 424, 425, 426, 427, 239, 240, 241, 74, 428, 288, 289, 290, 291, 292, 293, 294, 295, 72, 429, 430, 431, 40, 432, 112, 113, 114, 433, 434, 435, 436, 437, 438, 439, 440, 441, 442, 443, 444, 445, 446, 109, 110, 447, 448, 449, 450, 451, 452, 453, 454, 455, 456, 457, 458, 459, 460, 461, 462, 238, 800, 801, 802, 803, 804, 805, 806, 807, 808, 809, 575, 576, 577, 111, 578, 579, 471, 472, 473, 474, 475, 476, 827, 828, 829, 830, 831, 832, 833, 834, 835, 836, 837, 898, 899, 900, 901, 902, 903, 876, 877, 878, 879, 880, 871, 872, 873, 874, 875, 907, 908, 909, 910, 911, 892, 893, 894, 895, 881, 882, 883, 884, 885, 886, 887, 888, 889, 890] (by decide +kernel) (by decide +kernel)
set_option maxRecDepth 20000 in
theorem gL_law_X9_parting : GoodIn wsL_law (wsV RL 141 RX9 yX9_parting wsX9_parting) := goodIn_app (goodIn_of _ (by decide +kernel)) ggL_law_X9_parting
set_option maxRecDepth 20000 in
theorem ggL_law_X10_parting : GoodIn wsL_law wsX10_parting := goodIn_r _ [813, 539, 142, 211, 134, 139, 141, 548, 814, 806, 807, 808, 540, 541, 542, 5, 543, 495, 181, 491, 492, 493, 494, 496, 497, 140, 319, 135, 322, 303, 304, 305, 306, 180, 307, 308, 309, 310, 127, 126, 128, 311, 312, 313, 314, 315, 316, 317, 318, 138, 320, 321, 323, 324, 325, 326, 130, 136, 137, 327, 328, 329, 330, 132, 131, 544, 545, 546, 547, 129, 549, 550, 551, 552, 553, 554, 555, 556, 838, 839, 840, 841, 842, 843, 844, 845, 846, 847, 848, 849, 850, 851, 852, 853, 854, 855, 856, 857, 858, 859, 860, 861, 862, 863, 864, 865, 866, 867, 868, 869, 870] (by decide +kernel) (by decide +kernel)
set_option maxRecDepth 20000 in
theorem gL_law_X10_parting : GoodIn wsL_law (wsV RL 144 RX10 yX10_parting wsX10_parting) := goodIn_app (goodIn_of _ (by decide +kernel)) ggL_law_X10_parting
set_option maxRecDepth 20000 in
theorem ggL_law_X9_count : GoodIn wsL_law wsX9_count := goodIn_r _ [818, 47, 16, 150, 149, 20, 202, 32, 819, 820, 237, 148, 821, 410, 411, 412, 2, 413, 48, 24, 41, 414, 415, 416, 31, 417, 96, 97, 98, 99, 418, 419, 255, 256, 23, 257, 86, 87, 258, 259, 260, 261, 82, 83, 84, 81, 79, 85, 262, 263, 264, 265, 266, 267, 268, 269, 270, 271, 272, 273, 274, 80, 88, 275, 276, 277, 278, 279, 280, 281, 282, 283, 284, 285, 19, 286, 71, 420, 421, 422, 423, 424, 425, 426, 427, 239, 240, 241, 74, 428, 288, 289, 290, 291, 292, 293, 294, 295, 72, 429, 430, 431, 40, 432, 112, 113, 114, 433, 434, 435, 436, 437, 438, 439, 440, 441, 442, 443, 444, 445, 446, 109, 110, 447, 448, 449, 450, 451, 452, 453, 454, 455, 456, 457, 458, 459, 460, 461, 462, 822, 471, 472, 473, 474, 475, 476, 827, 828, 829, 830, 831, 832, 833, 834, 835, 836, 837, 871, 872, 873, 874, 875, 907, 908, 909, 910, 911, 876, 877, 878, 879, 880, 892, 893, 894, 895, 881, 882, 883, 884, 885, 886, 887, 888, 889, 890, 898, 899, 900, 901, 902, 903] (by decide +kernel) (by decide +kernel)
set_option maxRecDepth 20000 in
theorem gL_law_X9_count : GoodIn wsL_law (wsV RL 145 RX9 yX9_count wsX9_count) := goodIn_app (goodIn_of _ (by decide +kernel)) ggL_law_X9_count
set_option maxRecDepth 20000 in
theorem ggL_law_X10_count : GoodIn wsL_law wsX10_count := goodIn_r _ [826, 125, 181, 211, 495, 496, 134, 180, 497, 491, 492, 493, 5, 494, 140, 139, 319, 135, 322, 303, 304, 305, 306, 307, 308, 309, 310, 127, 126, 128, 311, 312, 313, 314, 315, 316, 317, 318, 138, 320, 321, 323, 324, 325, 326, 130, 136, 137, 327, 328, 329, 330, 132, 131, 838, 839, 840, 841, 842, 843, 844, 845, 846, 847, 848, 849, 850, 851, 852, 853, 854, 855, 856, 857, 858, 859, 860, 861, 862, 863, 864, 865, 866, 867, 868, 869, 870] (by decide +kernel) (by decide +kernel)
set_option maxRecDepth 20000 in
theorem gL_law_X10_count : GoodIn wsL_law (wsV RL 148 RX10 yX10_count wsX10_count) := goodIn_app (goodIn_of _ (by decide +kernel)) ggL_law_X10_count
abbrev vwCl : List vw_C := [(RX0, TX0, 5), (RX1, TX1, 2), (RX2, TX2, 3), (RX3, TX3, 5), (RX4, TX4, 10), (RX5, TX5, 1), (RX6, TX6, 5), (RX7, TX7, 6), (RX8, TX8, 4), (RX9, TX9, 11), (RX10, TX10, 33)]
