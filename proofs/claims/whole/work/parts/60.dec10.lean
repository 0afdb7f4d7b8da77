theorem dX10_init_0 : decode cX10_init 0 = .ok (.aload_n 0, 1) := by decide +kernel
theorem dX10_init_1 : decode cX10_init 1 = .ok (.invokespecial 1, 3) := by decide +kernel
theorem dX10_init_4 : decode cX10_init 4 = .ok (.aload_n 0, 1) := by decide +kernel
theorem dX10_init_5 : decode cX10_init 5 = .ok (.bipush 7, 2) := by decide +kernel
theorem dX10_init_7 : decode cX10_init 7 = .ok (.newarray .int, 2) := by decide +kernel
theorem dX10_init_9 : decode cX10_init 9 = .ok (.putfield 7, 3) := by decide +kernel
theorem dX10_init_12 : decode cX10_init 12 = .ok (.aload_n 0, 1) := by decide +kernel
theorem dX10_init_13 : decode cX10_init 13 = .ok (.bipush 96, 2) := by decide +kernel
theorem dX10_init_15 : decode cX10_init 15 = .ok (.newarray .int, 2) := by decide +kernel
theorem dX10_init_17 : decode cX10_init 17 = .ok (.putfield 13, 3) := by decide +kernel
theorem dX10_init_20 : decode cX10_init 20 = .ok (.aload_n 0, 1) := by decide +kernel
theorem dX10_init_21 : decode cX10_init 21 = .ok (.bipush 96, 2) := by decide +kernel
theorem dX10_init_23 : decode cX10_init 23 = .ok (.newarray .int, 2) := by decide +kernel
theorem dX10_init_25 : decode cX10_init 25 = .ok (.putfield 16, 3) := by decide +kernel
theorem dX10_init_28 : decode cX10_init 28 = .ok (.aload_n 0, 1) := by decide +kernel
theorem dX10_init_29 : decode cX10_init 29 = .ok (.bipush 100, 2) := by decide +kernel
theorem dX10_init_31 : decode cX10_init 31 = .ok (.newarray .int, 2) := by decide +kernel
theorem dX10_init_33 : decode cX10_init 33 = .ok (.putfield 19, 3) := by decide +kernel
theorem dX10_init_36 : decode cX10_init 36 = .ok (.aload_n 0, 1) := by decide +kernel
theorem dX10_init_37 : decode cX10_init 37 = .ok (.bipush 24, 2) := by decide +kernel
theorem dX10_init_39 : decode cX10_init 39 = .ok (.newarray .int, 2) := by decide +kernel
theorem dX10_init_41 : decode cX10_init 41 = .ok (.putfield 22, 3) := by decide +kernel
theorem dX10_init_44 : decode cX10_init 44 = .ok (.aload_n 0, 1) := by decide +kernel
theorem dX10_init_45 : decode cX10_init 45 = .ok (.bipush 48, 2) := by decide +kernel
theorem dX10_init_47 : decode cX10_init 47 = .ok (.newarray .int, 2) := by decide +kernel
theorem dX10_init_49 : decode cX10_init 49 = .ok (.putfield 25, 3) := by decide +kernel
theorem dX10_init_52 : decode cX10_init 52 = .ok (.aload_n 0, 1) := by decide +kernel
theorem dX10_init_53 : decode cX10_init 53 = .ok (.bipush 72, 2) := by decide +kernel
theorem dX10_init_55 : decode cX10_init 55 = .ok (.newarray .int, 2) := by decide +kernel
theorem dX10_init_57 : decode cX10_init 57 = .ok (.putfield 28, 3) := by decide +kernel
theorem dX10_init_60 : decode cX10_init 60 = .ok (.aload_n 0, 1) := by decide +kernel
theorem dX10_init_61 : decode cX10_init 61 = .ok (.bipush 12, 2) := by decide +kernel
theorem dX10_init_63 : decode cX10_init 63 = .ok (.newarray .int, 2) := by decide +kernel
theorem dX10_init_65 : decode cX10_init 65 = .ok (.putfield 31, 3) := by decide +kernel
theorem dX10_init_68 : decode cX10_init 68 = .ok (.aload_n 0, 1) := by decide +kernel
theorem dX10_init_69 : decode cX10_init 69 = .ok (.bipush 12, 2) := by decide +kernel
theorem dX10_init_71 : decode cX10_init 71 = .ok (.newarray .boolean, 2) := by decide +kernel
theorem dX10_init_73 : decode cX10_init 73 = .ok (.putfield 34, 3) := by decide +kernel
theorem dX10_init_76 : decode cX10_init 76 = .ok (.aload_n 0, 1) := by decide +kernel
theorem dX10_init_77 : decode cX10_init 77 = .ok (.sipush 300, 3) := by decide +kernel
theorem dX10_init_80 : decode cX10_init 80 = .ok (.newarray .int, 2) := by decide +kernel
theorem dX10_init_82 : decode cX10_init 82 = .ok (.putfield 38, 3) := by decide +kernel
theorem dX10_init_85 : decode cX10_init 85 = .ok (.aload_n 0, 1) := by decide +kernel
theorem dX10_init_86 : decode cX10_init 86 = .ok (.bipush 6, 2) := by decide +kernel
theorem dX10_init_88 : decode cX10_init 88 = .ok (.newarray .int, 2) := by decide +kernel
theorem dX10_init_90 : decode cX10_init 90 = .ok (.putfield 41, 3) := by decide +kernel
theorem dX10_init_93 : decode cX10_init 93 = .ok (.aload_n 0, 1) := by decide +kernel
theorem dX10_init_94 : decode cX10_init 94 = .ok (.bipush 6, 2) := by decide +kernel
theorem dX10_init_96 : decode cX10_init 96 = .ok (.newarray .int, 2) := by decide +kernel
theorem dX10_init_98 : decode cX10_init 98 = .ok (.putfield 44, 3) := by decide +kernel
theorem dX10_init_101 : decode cX10_init 101 = .ok (.aload_n 0, 1) := by decide +kernel
theorem dX10_init_102 : decode cX10_init 102 = .ok (.bipush 8, 2) := by decide +kernel
theorem dX10_init_104 : decode cX10_init 104 = .ok (.newarray .int, 2) := by decide +kernel
theorem dX10_init_106 : decode cX10_init 106 = .ok (.putfield 47, 3) := by decide +kernel
theorem dX10_init_109 : decode cX10_init 109 = .ok (.aload_n 0, 1) := by decide +kernel
theorem dX10_init_110 : decode cX10_init 110 = .ok (.bipush 12, 2) := by decide +kernel
theorem dX10_init_112 : decode cX10_init 112 = .ok (.newarray .int, 2) := by decide +kernel
theorem dX10_init_114 : decode cX10_init 114 = .ok (.putfield 50, 3) := by decide +kernel
theorem dX10_init_117 : decode cX10_init 117 = .ok (.aload_n 0, 1) := by decide +kernel
theorem dX10_init_118 : decode cX10_init 118 = .ok (.bipush 12, 2) := by decide +kernel
theorem dX10_init_120 : decode cX10_init 120 = .ok (.newarray .boolean, 2) := by decide +kernel
theorem dX10_init_122 : decode cX10_init 122 = .ok (.putfield 53, 3) := by decide +kernel
theorem dX10_init_125 : decode cX10_init 125 = .ok (.aload_n 0, 1) := by decide +kernel
theorem dX10_init_126 : decode cX10_init 126 = .ok (.sipush 2400, 3) := by decide +kernel
theorem dX10_init_129 : decode cX10_init 129 = .ok (.newarray .int, 2) := by decide +kernel
theorem dX10_init_131 : decode cX10_init 131 = .ok (.putfield 56, 3) := by decide +kernel
theorem dX10_init_134 : decode cX10_init 134 = .ok (.aload_n 0, 1) := by decide +kernel
theorem dX10_init_135 : decode cX10_init 135 = .ok (.sipush 2400, 3) := by decide +kernel
theorem dX10_init_138 : decode cX10_init 138 = .ok (.newarray .long, 2) := by decide +kernel
theorem dX10_init_140 : decode cX10_init 140 = .ok (.putfield 59, 3) := by decide +kernel
theorem dX10_init_143 : decode cX10_init 143 = .ok (.aload_n 0, 1) := by decide +kernel
theorem dX10_init_144 : decode cX10_init 144 = .ok (.sipush 300, 3) := by decide +kernel
theorem dX10_init_147 : decode cX10_init 147 = .ok (.newarray .boolean, 2) := by decide +kernel
theorem dX10_init_149 : decode cX10_init 149 = .ok (.putfield 63, 3) := by decide +kernel
theorem dX10_init_152 : decode cX10_init 152 = .ok (.iconst 0, 1) := by decide +kernel
theorem dX10_init_153 : decode cX10_init 153 = .ok (.istore_n 1, 1) := by decide +kernel
theorem dX10_init_154 : decode cX10_init 154 = .ok (.iload_n 1, 1) := by decide +kernel
theorem dX10_init_155 : decode cX10_init 155 = .ok (.bipush 24, 2) := by decide +kernel
theorem dX10_init_157 : decode cX10_init 157 = .ok (.if_icmp .ge 16, 3) := by decide +kernel
theorem dX10_init_160 : decode cX10_init 160 = .ok (.aload_n 0, 1) := by decide +kernel
theorem dX10_init_161 : decode cX10_init 161 = .ok (.getfield 22, 3) := by decide +kernel
theorem dX10_init_164 : decode cX10_init 164 = .ok (.iload_n 1, 1) := by decide +kernel
theorem dX10_init_165 : decode cX10_init 165 = .ok (.iconst 2, 1) := by decide +kernel
theorem dX10_init_166 : decode cX10_init 166 = .ok (.iastore, 1) := by decide +kernel
theorem dX10_init_167 : decode cX10_init 167 = .ok (.iinc 1 1, 3) := by decide +kernel
theorem dX10_init_170 : decode cX10_init 170 = .ok (.goto (-16), 3) := by decide +kernel
theorem dX10_init_173 : decode cX10_init 173 = .ok (.return_, 1) := by decide +kernel
theorem dX10_thrown_0 : decode cX10_thrown 0 = .ok (.aload_n 0, 1) := by decide +kernel
theorem dX10_thrown_1 : decode cX10_thrown 1 = .ok (.getfield 66, 3) := by decide +kernel
theorem dX10_thrown_4 : decode cX10_thrown 4 = .ok (.ireturn, 1) := by decide +kernel
theorem dX10_raises_0 : decode cX10_raises 0 = .ok (.aload_n 0, 1) := by decide +kernel
theorem dX10_raises_1 : decode cX10_raises 1 = .ok (.iconst 1, 1) := by decide +kernel
theorem dX10_raises_2 : decode cX10_raises 2 = .ok (.putfield 66, 3) := by decide +kernel
theorem dX10_raises_5 : decode cX10_raises 5 = .ok (.iconst 0, 1) := by decide +kernel
theorem dX10_raises_6 : decode cX10_raises 6 = .ok (.ireturn, 1) := by decide +kernel
theorem dX10_refuse_0 : decode cX10_refuse 0 = .ok (.aload_n 0, 1) := by decide +kernel
theorem dX10_refuse_1 : decode cX10_refuse 1 = .ok (.getfield 7, 3) := by decide +kernel
theorem dX10_refuse_4 : decode cX10_refuse 4 = .ok (.iload_n 1, 1) := by decide +kernel
theorem dX10_refuse_5 : decode cX10_refuse 5 = .ok (.ineg, 1) := by decide +kernel
theorem dX10_refuse_6 : decode cX10_refuse 6 = .ok (.dup2, 1) := by decide +kernel
theorem dX10_refuse_7 : decode cX10_refuse 7 = .ok (.iaload, 1) := by decide +kernel
theorem dX10_refuse_8 : decode cX10_refuse 8 = .ok (.iconst 1, 1) := by decide +kernel
theorem dX10_refuse_9 : decode cX10_refuse 9 = .ok (.iadd, 1) := by decide +kernel
theorem dX10_refuse_10 : decode cX10_refuse 10 = .ok (.iastore, 1) := by decide +kernel
theorem dX10_refuse_11 : decode cX10_refuse 11 = .ok (.iload_n 1, 1) := by decide +kernel
theorem dX10_refuse_12 : decode cX10_refuse 12 = .ok (.ireturn, 1) := by decide +kernel
theorem dX10_isIn_0 : decode cX10_isIn 0 = .ok (.iload_n 0, 1) := by decide +kernel
theorem dX10_isIn_1 : decode cX10_isIn 1 = .ok (.ifCond .lt 12, 3) := by decide +kernel
theorem dX10_isIn_4 : decode cX10_isIn 4 = .ok (.iload_n 0, 1) := by decide +kernel
theorem dX10_isIn_5 : decode cX10_isIn 5 = .ok (.iload_n 1, 1) := by decide +kernel
theorem dX10_isIn_6 : decode cX10_isIn 6 = .ok (.if_icmp .ge 7, 3) := by decide +kernel
theorem dX10_isIn_9 : decode cX10_isIn 9 = .ok (.iconst 1, 1) := by decide +kernel
theorem dX10_isIn_10 : decode cX10_isIn 10 = .ok (.goto 4, 3) := by decide +kernel
theorem dX10_isIn_13 : decode cX10_isIn 13 = .ok (.iconst 0, 1) := by decide +kernel
theorem dX10_isIn_14 : decode cX10_isIn 14 = .ok (.ireturn, 1) := by decide +kernel
theorem dX10_wrong_0 : decode cX10_wrong 0 = .ok (.iload_n 0, 1) := by decide +kernel
theorem dX10_wrong_1 : decode cX10_wrong 1 = .ok (.iload_n 1, 1) := by decide +kernel
theorem dX10_wrong_2 : decode cX10_wrong 2 = .ok (.if_icmp .ge 8, 3) := by decide +kernel
theorem dX10_wrong_5 : decode cX10_wrong 5 = .ok (.bipush (-4), 2) := by decide +kernel
theorem dX10_wrong_7 : decode cX10_wrong 7 = .ok (.goto 14, 3) := by decide +kernel
theorem dX10_wrong_10 : decode cX10_wrong 10 = .ok (.iload_n 0, 1) := by decide +kernel
theorem dX10_wrong_11 : decode cX10_wrong 11 = .ok (.iload_n 2, 1) := by decide +kernel
theorem dX10_wrong_12 : decode cX10_wrong 12 = .ok (.if_icmp .le 8, 3) := by decide +kernel
theorem dX10_wrong_15 : decode cX10_wrong 15 = .ok (.bipush (-6), 2) := by decide +kernel
theorem dX10_wrong_17 : decode cX10_wrong 17 = .ok (.goto 4, 3) := by decide +kernel
theorem dX10_wrong_20 : decode cX10_wrong 20 = .ok (.iconst 0, 1) := by decide +kernel
theorem dX10_wrong_21 : decode cX10_wrong 21 = .ok (.ireturn, 1) := by decide +kernel
set_option maxRecDepth 20000 in
theorem ggX10_wrongLine_X10_isIn : GoodIn wsX10_wrongLine wsX10_isIn := goodIn_r _ [4] rfl (by decide +kernel)
set_option maxRecDepth 20000 in
theorem gX10_wrongLine_X10_isIn : GoodIn wsX10_wrongLine (va_wsS RX10 70 yX10_isIn wsX10_isIn) := goodIn_app (goodIn_of _ (by decide +kernel)) ggX10_wrongLine_X10_isIn
set_option maxRecDepth 20000 in
theorem ggX10_wrongLine_X10_wrong : GoodIn wsX10_wrongLine wsX10_wrong := goodIn_r _ [7] rfl (by decide +kernel)
set_option maxRecDepth 20000 in
theorem gX10_wrongLine_X10_wrong : GoodIn wsX10_wrongLine (va_wsS RX10 74 yX10_wrong wsX10_wrong) := goodIn_app (goodIn_of _ (by decide +kernel)) ggX10_wrongLine_X10_wrong
theorem dX10_wrongLine_0 : decode cX10_wrongLine 0 = .ok (.iload_n 0, 1) := by decide +kernel
theorem dX10_wrongLine_1 : decode cX10_wrongLine 1 = .ok (.tableswitch 181 0 7 #[47, 58, 58, 58, 95, 122, 159, 170], 47) := by decide +kernel
theorem dX10_wrongLine_48 : decode cX10_wrongLine 48 = .ok (.iload_n 1, 1) := by decide +kernel
theorem dX10_wrongLine_49 : decode cX10_wrongLine 49 = .ok (.bipush 8, 2) := by decide +kernel
theorem dX10_wrongLine_51 : decode cX10_wrongLine 51 = .ok (.invokestatic 70, 3) := by decide +kernel
theorem dX10_wrongLine_54 : decode cX10_wrongLine 54 = .ok (.istore 4, 2) := by decide +kernel
theorem dX10_wrongLine_56 : decode cX10_wrongLine 56 = .ok (.goto 129, 3) := by decide +kernel
theorem dX10_wrongLine_59 : decode cX10_wrongLine 59 = .ok (.iload_n 1, 1) := by decide +kernel
theorem dX10_wrongLine_60 : decode cX10_wrongLine 60 = .ok (.bipush 8, 2) := by decide +kernel
theorem dX10_wrongLine_62 : decode cX10_wrongLine 62 = .ok (.invokestatic 70, 3) := by decide +kernel
theorem dX10_wrongLine_65 : decode cX10_wrongLine 65 = .ok (.ifCond .eq 25, 3) := by decide +kernel
theorem dX10_wrongLine_68 : decode cX10_wrongLine 68 = .ok (.iload_n 2, 1) := by decide +kernel
theorem dX10_wrongLine_69 : decode cX10_wrongLine 69 = .ok (.bipush 8, 2) := by decide +kernel
theorem dX10_wrongLine_71 : decode cX10_wrongLine 71 = .ok (.invokestatic 70, 3) := by decide +kernel
theorem dX10_wrongLine_74 : decode cX10_wrongLine 74 = .ok (.ifCond .eq 16, 3) := by decide +kernel
theorem dX10_wrongLine_77 : decode cX10_wrongLine 77 = .ok (.iload_n 3, 1) := by decide +kernel
theorem dX10_wrongLine_78 : decode cX10_wrongLine 78 = .ok (.bipush 8, 2) := by decide +kernel
theorem dX10_wrongLine_80 : decode cX10_wrongLine 80 = .ok (.invokestatic 70, 3) := by decide +kernel
theorem dX10_wrongLine_83 : decode cX10_wrongLine 83 = .ok (.ifCond .eq 7, 3) := by decide +kernel
theorem dX10_wrongLine_86 : decode cX10_wrongLine 86 = .ok (.iconst 1, 1) := by decide +kernel
theorem dX10_wrongLine_87 : decode cX10_wrongLine 87 = .ok (.goto 4, 3) := by decide +kernel
theorem dX10_wrongLine_90 : decode cX10_wrongLine 90 = .ok (.iconst 0, 1) := by decide +kernel
theorem dX10_wrongLine_91 : decode cX10_wrongLine 91 = .ok (.istore 4, 2) := by decide +kernel
theorem dX10_wrongLine_93 : decode cX10_wrongLine 93 = .ok (.goto 92, 3) := by decide +kernel
theorem dX10_wrongLine_96 : decode cX10_wrongLine 96 = .ok (.iload_n 1, 1) := by decide +kernel
theorem dX10_wrongLine_97 : decode cX10_wrongLine 97 = .ok (.bipush 8, 2) := by decide +kernel
theorem dX10_wrongLine_99 : decode cX10_wrongLine 99 = .ok (.invokestatic 70, 3) := by decide +kernel
theorem dX10_wrongLine_102 : decode cX10_wrongLine 102 = .ok (.ifCond .eq 15, 3) := by decide +kernel
theorem dX10_wrongLine_105 : decode cX10_wrongLine 105 = .ok (.iload_n 2, 1) := by decide +kernel
theorem dX10_wrongLine_106 : decode cX10_wrongLine 106 = .ok (.iconst 4, 1) := by decide +kernel
theorem dX10_wrongLine_107 : decode cX10_wrongLine 107 = .ok (.invokestatic 70, 3) := by decide +kernel
theorem dX10_wrongLine_110 : decode cX10_wrongLine 110 = .ok (.ifCond .eq 7, 3) := by decide +kernel
theorem dX10_wrongLine_113 : decode cX10_wrongLine 113 = .ok (.iconst 1, 1) := by decide +kernel
theorem dX10_wrongLine_114 : decode cX10_wrongLine 114 = .ok (.goto 4, 3) := by decide +kernel
theorem dX10_wrongLine_117 : decode cX10_wrongLine 117 = .ok (.iconst 0, 1) := by decide +kernel
theorem dX10_wrongLine_118 : decode cX10_wrongLine 118 = .ok (.istore 4, 2) := by decide +kernel
theorem dX10_wrongLine_120 : decode cX10_wrongLine 120 = .ok (.goto 65, 3) := by decide +kernel
theorem dX10_wrongLine_123 : decode cX10_wrongLine 123 = .ok (.iload_n 1, 1) := by decide +kernel
theorem dX10_wrongLine_124 : decode cX10_wrongLine 124 = .ok (.bipush 8, 2) := by decide +kernel
theorem dX10_wrongLine_126 : decode cX10_wrongLine 126 = .ok (.invokestatic 70, 3) := by decide +kernel
theorem dX10_wrongLine_129 : decode cX10_wrongLine 129 = .ok (.ifCond .eq 25, 3) := by decide +kernel
theorem dX10_wrongLine_132 : decode cX10_wrongLine 132 = .ok (.iload_n 2, 1) := by decide +kernel
theorem dX10_wrongLine_133 : decode cX10_wrongLine 133 = .ok (.bipush 8, 2) := by decide +kernel
theorem dX10_wrongLine_135 : decode cX10_wrongLine 135 = .ok (.invokestatic 70, 3) := by decide +kernel
theorem dX10_wrongLine_138 : decode cX10_wrongLine 138 = .ok (.ifCond .eq 16, 3) := by decide +kernel
theorem dX10_wrongLine_141 : decode cX10_wrongLine 141 = .ok (.iload_n 3, 1) := by decide +kernel
theorem dX10_wrongLine_142 : decode cX10_wrongLine 142 = .ok (.bipush 25, 2) := by decide +kernel
theorem dX10_wrongLine_144 : decode cX10_wrongLine 144 = .ok (.invokestatic 70, 3) := by decide +kernel
theorem dX10_wrongLine_147 : decode cX10_wrongLine 147 = .ok (.ifCond .eq 7, 3) := by decide +kernel
theorem dX10_wrongLine_150 : decode cX10_wrongLine 150 = .ok (.iconst 1, 1) := by decide +kernel
theorem dX10_wrongLine_151 : decode cX10_wrongLine 151 = .ok (.goto 4, 3) := by decide +kernel
theorem dX10_wrongLine_154 : decode cX10_wrongLine 154 = .ok (.iconst 0, 1) := by decide +kernel
theorem dX10_wrongLine_155 : decode cX10_wrongLine 155 = .ok (.istore 4, 2) := by decide +kernel
theorem dX10_wrongLine_157 : decode cX10_wrongLine 157 = .ok (.goto 28, 3) := by decide +kernel
theorem dX10_wrongLine_160 : decode cX10_wrongLine 160 = .ok (.iload_n 3, 1) := by decide +kernel
theorem dX10_wrongLine_161 : decode cX10_wrongLine 161 = .ok (.bipush 25, 2) := by decide +kernel
theorem dX10_wrongLine_163 : decode cX10_wrongLine 163 = .ok (.invokestatic 70, 3) := by decide +kernel
theorem dX10_wrongLine_166 : decode cX10_wrongLine 166 = .ok (.istore 4, 2) := by decide +kernel
theorem dX10_wrongLine_168 : decode cX10_wrongLine 168 = .ok (.goto 17, 3) := by decide +kernel
theorem dX10_wrongLine_171 : decode cX10_wrongLine 171 = .ok (.iload_n 1, 1) := by decide +kernel
theorem dX10_wrongLine_172 : decode cX10_wrongLine 172 = .ok (.bipush 8, 2) := by decide +kernel
theorem dX10_wrongLine_174 : decode cX10_wrongLine 174 = .ok (.invokestatic 70, 3) := by decide +kernel
theorem dX10_wrongLine_177 : decode cX10_wrongLine 177 = .ok (.istore 4, 2) := by decide +kernel
theorem dX10_wrongLine_179 : decode cX10_wrongLine 179 = .ok (.goto 6, 3) := by decide +kernel
theorem dX10_wrongLine_182 : decode cX10_wrongLine 182 = .ok (.iconst 0, 1) := by decide +kernel
theorem dX10_wrongLine_183 : decode cX10_wrongLine 183 = .ok (.istore 4, 2) := by decide +kernel
theorem dX10_wrongLine_185 : decode cX10_wrongLine 185 = .ok (.iload 4, 2) := by decide +kernel
theorem dX10_wrongLine_187 : decode cX10_wrongLine 187 = .ok (.ifCond .ne 5, 3) := by decide +kernel
theorem dX10_wrongLine_190 : decode cX10_wrongLine 190 = .ok (.iconst (-1), 1) := by decide +kernel
theorem dX10_wrongLine_191 : decode cX10_wrongLine 191 = .ok (.ireturn, 1) := by decide +kernel
theorem dX10_wrongLine_192 : decode cX10_wrongLine 192 = .ok (.iload_n 0, 1) := by decide +kernel
theorem dX10_wrongLine_193 : decode cX10_wrongLine 193 = .ok (.ifCond .ne 16, 3) := by decide +kernel
theorem dX10_wrongLine_196 : decode cX10_wrongLine 196 = .ok (.iload_n 2, 1) := by decide +kernel
theorem dX10_wrongLine_197 : decode cX10_wrongLine 197 = .ok (.sipush (-1000), 3) := by decide +kernel
theorem dX10_wrongLine_200 : decode cX10_wrongLine 200 = .ok (.sipush 1000, 3) := by decide +kernel
theorem dX10_wrongLine_203 : decode cX10_wrongLine 203 = .ok (.invokestatic 74, 3) := by decide +kernel
theorem dX10_wrongLine_206 : decode cX10_wrongLine 206 = .ok (.goto 4, 3) := by decide +kernel
theorem dX10_wrongLine_209 : decode cX10_wrongLine 209 = .ok (.iconst 0, 1) := by decide +kernel
theorem dX10_wrongLine_210 : decode cX10_wrongLine 210 = .ok (.ireturn, 1) := by decide +kernel
theorem dX10_put_0 : decode cX10_put 0 = .ok (.aload_n 0, 1) := by decide +kernel
theorem dX10_put_1 : decode cX10_put 1 = .ok (.iload_n 1, 1) := by decide +kernel
theorem dX10_put_2 : decode cX10_put 2 = .ok (.iload_n 2, 1) := by decide +kernel
theorem dX10_put_3 : decode cX10_put 3 = .ok (.iastore, 1) := by decide +kernel
theorem dX10_put_4 : decode cX10_put 4 = .ok (.aload_n 0, 1) := by decide +kernel
theorem dX10_put_5 : decode cX10_put 5 = .ok (.iload_n 1, 1) := by decide +kernel
theorem dX10_put_6 : decode cX10_put 6 = .ok (.iconst 1, 1) := by decide +kernel
theorem dX10_put_7 : decode cX10_put 7 = .ok (.iadd, 1) := by decide +kernel
theorem dX10_put_8 : decode cX10_put 8 = .ok (.iload_n 3, 1) := by decide +kernel
theorem dX10_put_9 : decode cX10_put 9 = .ok (.iastore, 1) := by decide +kernel
theorem dX10_put_10 : decode cX10_put 10 = .ok (.aload_n 0, 1) := by decide +kernel
theorem dX10_put_11 : decode cX10_put 11 = .ok (.iload_n 1, 1) := by decide +kernel
theorem dX10_put_12 : decode cX10_put 12 = .ok (.iconst 2, 1) := by decide +kernel
theorem dX10_put_13 : decode cX10_put 13 = .ok (.iadd, 1) := by decide +kernel
theorem dX10_put_14 : decode cX10_put 14 = .ok (.iload 4, 2) := by decide +kernel
theorem dX10_put_16 : decode cX10_put 16 = .ok (.iastore, 1) := by decide +kernel
theorem dX10_put_17 : decode cX10_put 17 = .ok (.aload_n 0, 1) := by decide +kernel
theorem dX10_put_18 : decode cX10_put 18 = .ok (.iload_n 1, 1) := by decide +kernel
theorem dX10_put_19 : decode cX10_put 19 = .ok (.iconst 3, 1) := by decide +kernel
theorem dX10_put_20 : decode cX10_put 20 = .ok (.iadd, 1) := by decide +kernel
theorem dX10_put_21 : decode cX10_put 21 = .ok (.iload 5, 2) := by decide +kernel
theorem dX10_put_23 : decode cX10_put 23 = .ok (.iastore, 1) := by decide +kernel
theorem dX10_put_24 : decode cX10_put 24 = .ok (.return_, 1) := by decide +kernel
set_option maxRecDepth 20000 in
theorem ggX10_line_X10_wrongLine : GoodIn wsX10_line wsX10_wrongLine := goodIn_r _ [7, 8, 9, 6, 10, 11, 12, 13] rfl (by decide +kernel)
set_option maxRecDepth 20000 in
theorem gX10_line_X10_wrongLine : GoodIn wsX10_line (va_wsS RX10 78 yX10_wrongLine wsX10_wrongLine) := goodIn_app (goodIn_of _ (by decide +kernel)) ggX10_line_X10_wrongLine
set_option maxRecDepth 20000 in
theorem ggX10_line_X10_refuse : GoodIn wsX10_line wsX10_refuse := goodIn_r _ [17, 18, 22, 23, 24, 25, 26, 27, 28, 29, 30, 31, 32, 33, 34, 35, 36, 37, 38, 39, 40, 41, 42, 43, 44, 45, 46, 47, 48, 49, 50, 51, 52, 53, 54] rfl (by decide +kernel)
set_option maxRecDepth 20000 in
theorem gX10_line_X10_refuse : GoodIn wsX10_line (wsV RX10 88 RX10 yX10_refuse wsX10_refuse) := goodIn_app (goodIn_of _ (by decide +kernel)) ggX10_line_X10_refuse
set_option maxRecDepth 20000 in
theorem ggX10_line_X10_put : GoodIn wsX10_line wsX10_put := goodIn_r _ [21] rfl (by decide +kernel)
set_option maxRecDepth 20000 in
theorem gX10_line_X10_put : GoodIn wsX10_line (va_wsS RX10 92 yX10_put wsX10_put) := goodIn_app (goodIn_of _ (by decide +kernel)) ggX10_line_X10_put
theorem dX10_line_0 : decode cX10_line 0 = .ok (.iload_n 1, 1) := by decide +kernel
theorem dX10_line_1 : decode cX10_line 1 = .ok (.iload_n 2, 1) := by decide +kernel
theorem dX10_line_2 : decode cX10_line 2 = .ok (.iload_n 3, 1) := by decide +kernel
theorem dX10_line_3 : decode cX10_line 3 = .ok (.iload 4, 2) := by decide +kernel
theorem dX10_line_5 : decode cX10_line 5 = .ok (.invokestatic 78, 3) := by decide +kernel
theorem dX10_line_8 : decode cX10_line 8 = .ok (.istore 5, 2) := by decide +kernel
theorem dX10_line_10 : decode cX10_line 10 = .ok (.iload 5, 2) := by decide +kernel
theorem dX10_line_12 : decode cX10_line 12 = .ok (.ifCond .ne 14, 3) := by decide +kernel
theorem dX10_line_15 : decode cX10_line 15 = .ok (.aload_n 0, 1) := by decide +kernel
theorem dX10_line_16 : decode cX10_line 16 = .ok (.getfield 82, 3) := by decide +kernel
theorem dX10_line_19 : decode cX10_line 19 = .ok (.ifCond .le 7, 3) := by decide +kernel
theorem dX10_line_22 : decode cX10_line 22 = .ok (.bipush (-3), 2) := by decide +kernel
theorem dX10_line_24 : decode cX10_line 24 = .ok (.istore 5, 2) := by decide +kernel
theorem dX10_line_26 : decode cX10_line 26 = .ok (.iload 5, 2) := by decide +kernel
theorem dX10_line_28 : decode cX10_line 28 = .ok (.ifCond .ne 16, 3) := by decide +kernel
theorem dX10_line_31 : decode cX10_line 31 = .ok (.aload_n 0, 1) := by decide +kernel
theorem dX10_line_32 : decode cX10_line 32 = .ok (.getfield 85, 3) := by decide +kernel
theorem dX10_line_35 : decode cX10_line 35 = .ok (.bipush 24, 2) := by decide +kernel
theorem dX10_line_37 : decode cX10_line 37 = .ok (.if_icmp .ne 7, 3) := by decide +kernel
theorem dX10_line_40 : decode cX10_line 40 = .ok (.bipush (-6), 2) := by decide +kernel
theorem dX10_line_42 : decode cX10_line 42 = .ok (.istore 5, 2) := by decide +kernel
theorem dX10_line_44 : decode cX10_line 44 = .ok (.iload 5, 2) := by decide +kernel
theorem dX10_line_46 : decode cX10_line 46 = .ok (.ifCond .eq 10, 3) := by decide +kernel
theorem dX10_line_49 : decode cX10_line 49 = .ok (.aload_n 0, 1) := by decide +kernel
theorem dX10_line_50 : decode cX10_line 50 = .ok (.iload 5, 2) := by decide +kernel
theorem dX10_line_52 : decode cX10_line 52 = .ok (.invokevirtual 88, 3) := by decide +kernel
theorem dX10_line_55 : decode cX10_line 55 = .ok (.ireturn, 1) := by decide +kernel
theorem dX10_line_56 : decode cX10_line 56 = .ok (.aload_n 0, 1) := by decide +kernel
theorem dX10_line_57 : decode cX10_line 57 = .ok (.getfield 13, 3) := by decide +kernel
theorem dX10_line_60 : decode cX10_line 60 = .ok (.iconst 4, 1) := by decide +kernel
theorem dX10_line_61 : decode cX10_line 61 = .ok (.aload_n 0, 1) := by decide +kernel
theorem dX10_line_62 : decode cX10_line 62 = .ok (.getfield 85, 3) := by decide +kernel
theorem dX10_line_65 : decode cX10_line 65 = .ok (.imul, 1) := by decide +kernel
theorem dX10_line_66 : decode cX10_line 66 = .ok (.iload_n 1, 1) := by decide +kernel
theorem dX10_line_67 : decode cX10_line 67 = .ok (.iload_n 2, 1) := by decide +kernel
theorem dX10_line_68 : decode cX10_line 68 = .ok (.iload_n 3, 1) := by decide +kernel
theorem dX10_line_69 : decode cX10_line 69 = .ok (.iload 4, 2) := by decide +kernel
theorem dX10_line_71 : decode cX10_line 71 = .ok (.invokestatic 92, 3) := by decide +kernel
theorem dX10_line_74 : decode cX10_line 74 = .ok (.aload_n 0, 1) := by decide +kernel
theorem dX10_line_75 : decode cX10_line 75 = .ok (.dup, 1) := by decide +kernel
theorem dX10_line_76 : decode cX10_line 76 = .ok (.getfield 85, 3) := by decide +kernel
theorem dX10_line_79 : decode cX10_line 79 = .ok (.iconst 1, 1) := by decide +kernel
theorem dX10_line_80 : decode cX10_line 80 = .ok (.iadd, 1) := by decide +kernel
theorem dX10_line_81 : decode cX10_line 81 = .ok (.putfield 85, 3) := by decide +kernel
theorem dX10_line_84 : decode cX10_line 84 = .ok (.aload_n 0, 1) := by decide +kernel
theorem dX10_line_85 : decode cX10_line 85 = .ok (.getfield 85, 3) := by decide +kernel
theorem dX10_line_88 : decode cX10_line 88 = .ok (.iconst 1, 1) := by decide +kernel
theorem dX10_line_89 : decode cX10_line 89 = .ok (.isub, 1) := by decide +kernel
theorem dX10_line_90 : decode cX10_line 90 = .ok (.ireturn, 1) := by decide +kernel
set_option maxRecDepth 20000 in
theorem ggX10_change_X10_isLine : GoodIn wsX10_change wsX10_isLine := goodIn_r _ [7, 8, 9, 10, 6, 11, 26, 27, 28, 29, 30, 31, 32, 33, 34, 35, 36, 37, 38, 39, 40, 41, 42, 43, 44, 45, 46, 47, 48, 49, 50, 51, 52, 53, 54, 55, 56, 57, 58] rfl (by decide +kernel)
set_option maxRecDepth 20000 in
theorem gX10_change_X10_isLine : GoodIn wsX10_change (wsV RX10 96 RX10 yX10_isLine wsX10_isLine) := goodIn_app (goodIn_of _ (by decide +kernel)) ggX10_change_X10_isLine
set_option maxRecDepth 20000 in
theorem ggX10_change_X10_wrongLine : GoodIn wsX10_change wsX10_wrongLine := goodIn_r _ [14, 9, 10, 6, 11, 15, 16, 17] rfl (by decide +kernel)
set_option maxRecDepth 20000 in
theorem gX10_change_X10_wrongLine : GoodIn wsX10_change (va_wsS RX10 78 yX10_wrongLine wsX10_wrongLine) := goodIn_app (goodIn_of _ (by decide +kernel)) ggX10_change_X10_wrongLine
set_option maxRecDepth 20000 in
theorem ggX10_change_X10_refuse : GoodIn wsX10_change wsX10_refuse := goodIn_r _ [21, 22, 26, 27, 28, 29, 30, 31, 32, 33, 34, 35, 36, 37, 38, 39, 40, 41, 42, 43, 44, 45, 46, 47, 48, 49, 50, 51, 52, 53, 54, 55, 56, 57, 58] rfl (by decide +kernel)
set_option maxRecDepth 20000 in
theorem gX10_change_X10_refuse : GoodIn wsX10_change (wsV RX10 88 RX10 yX10_refuse wsX10_refuse) := goodIn_app (goodIn_of _ (by decide +kernel)) ggX10_change_X10_refuse
set_option maxRecDepth 20000 in
theorem ggX10_change_X10_put : GoodIn wsX10_change wsX10_put := goodIn_r _ [25] rfl (by decide +kernel)
set_option maxRecDepth 20000 in
theorem gX10_change_X10_put : GoodIn wsX10_change (va_wsS RX10 92 yX10_put wsX10_put) := goodIn_app (goodIn_of _ (by decide +kernel)) ggX10_change_X10_put
theorem dX10_change_0 : decode cX10_change 0 = .ok (.aload_n 0, 1) := by decide +kernel
theorem dX10_change_1 : decode cX10_change 1 = .ok (.iload_n 1, 1) := by decide +kernel
theorem dX10_change_2 : decode cX10_change 2 = .ok (.invokevirtual 96, 3) := by decide +kernel
theorem dX10_change_5 : decode cX10_change 5 = .ok (.ifCond .eq 15, 3) := by decide +kernel
theorem dX10_change_8 : decode cX10_change 8 = .ok (.iload_n 2, 1) := by decide +kernel
theorem dX10_change_9 : decode cX10_change 9 = .ok (.iload_n 3, 1) := by decide +kernel
theorem dX10_change_10 : decode cX10_change 10 = .ok (.iload 4, 2) := by decide +kernel
theorem dX10_change_12 : decode cX10_change 12 = .ok (.iload 5, 2) := by decide +kernel
theorem dX10_change_14 : decode cX10_change 14 = .ok (.invokestatic 78, 3) := by decide +kernel
theorem dX10_change_17 : decode cX10_change 17 = .ok (.goto 4, 3) := by decide +kernel
theorem dX10_change_20 : decode cX10_change 20 = .ok (.iconst (-1), 1) := by decide +kernel
theorem dX10_change_21 : decode cX10_change 21 = .ok (.istore 6, 2) := by decide +kernel
theorem dX10_change_23 : decode cX10_change 23 = .ok (.iload 6, 2) := by decide +kernel
theorem dX10_change_25 : decode cX10_change 25 = .ok (.ifCond .ne 16, 3) := by decide +kernel
theorem dX10_change_28 : decode cX10_change 28 = .ok (.aload_n 0, 1) := by decide +kernel
theorem dX10_change_29 : decode cX10_change 29 = .ok (.getfield 82, 3) := by decide +kernel
theorem dX10_change_32 : decode cX10_change 32 = .ok (.bipush 20, 2) := by decide +kernel
theorem dX10_change_34 : decode cX10_change 34 = .ok (.if_icmp .ne 7, 3) := by decide +kernel
theorem dX10_change_37 : decode cX10_change 37 = .ok (.bipush (-6), 2) := by decide +kernel
theorem dX10_change_39 : decode cX10_change 39 = .ok (.istore 6, 2) := by decide +kernel
theorem dX10_change_41 : decode cX10_change 41 = .ok (.iload 6, 2) := by decide +kernel
theorem dX10_change_43 : decode cX10_change 43 = .ok (.ifCond .eq 10, 3) := by decide +kernel
theorem dX10_change_46 : decode cX10_change 46 = .ok (.aload_n 0, 1) := by decide +kernel
theorem dX10_change_47 : decode cX10_change 47 = .ok (.iload 6, 2) := by decide +kernel
theorem dX10_change_49 : decode cX10_change 49 = .ok (.invokevirtual 88, 3) := by decide +kernel
theorem dX10_change_52 : decode cX10_change 52 = .ok (.ireturn, 1) := by decide +kernel
theorem dX10_change_53 : decode cX10_change 53 = .ok (.aload_n 0, 1) := by decide +kernel
theorem dX10_change_54 : decode cX10_change 54 = .ok (.getfield 19, 3) := by decide +kernel
theorem dX10_change_57 : decode cX10_change 57 = .ok (.iconst 5, 1) := by decide +kernel
theorem dX10_change_58 : decode cX10_change 58 = .ok (.aload_n 0, 1) := by decide +kernel
theorem dX10_change_59 : decode cX10_change 59 = .ok (.getfield 82, 3) := by decide +kernel
theorem dX10_change_62 : decode cX10_change 62 = .ok (.imul, 1) := by decide +kernel
theorem dX10_change_63 : decode cX10_change 63 = .ok (.iload_n 1, 1) := by decide +kernel
theorem dX10_change_64 : decode cX10_change 64 = .ok (.iastore, 1) := by decide +kernel
theorem dX10_change_65 : decode cX10_change 65 = .ok (.aload_n 0, 1) := by decide +kernel
theorem dX10_change_66 : decode cX10_change 66 = .ok (.getfield 19, 3) := by decide +kernel
theorem dX10_change_69 : decode cX10_change 69 = .ok (.iconst 5, 1) := by decide +kernel
theorem dX10_change_70 : decode cX10_change 70 = .ok (.aload_n 0, 1) := by decide +kernel
theorem dX10_change_71 : decode cX10_change 71 = .ok (.getfield 82, 3) := by decide +kernel
theorem dX10_change_74 : decode cX10_change 74 = .ok (.imul, 1) := by decide +kernel
theorem dX10_change_75 : decode cX10_change 75 = .ok (.iconst 1, 1) := by decide +kernel
theorem dX10_change_76 : decode cX10_change 76 = .ok (.iadd, 1) := by decide +kernel
theorem dX10_change_77 : decode cX10_change 77 = .ok (.iload_n 2, 1) := by decide +kernel
theorem dX10_change_78 : decode cX10_change 78 = .ok (.iload_n 3, 1) := by decide +kernel
theorem dX10_change_79 : decode cX10_change 79 = .ok (.iload 4, 2) := by decide +kernel
theorem dX10_change_81 : decode cX10_change 81 = .ok (.iload 5, 2) := by decide +kernel
theorem dX10_change_83 : decode cX10_change 83 = .ok (.invokestatic 92, 3) := by decide +kernel
theorem dX10_change_86 : decode cX10_change 86 = .ok (.aload_n 0, 1) := by decide +kernel
theorem dX10_change_87 : decode cX10_change 87 = .ok (.dup, 1) := by decide +kernel
theorem dX10_change_88 : decode cX10_change 88 = .ok (.getfield 82, 3) := by decide +kernel
theorem dX10_change_91 : decode cX10_change 91 = .ok (.iconst 1, 1) := by decide +kernel
theorem dX10_change_92 : decode cX10_change 92 = .ok (.iadd, 1) := by decide +kernel
theorem dX10_change_93 : decode cX10_change 93 = .ok (.putfield 82, 3) := by decide +kernel
theorem dX10_change_96 : decode cX10_change 96 = .ok (.aload_n 0, 1) := by decide +kernel
theorem dX10_change_97 : decode cX10_change 97 = .ok (.getfield 82, 3) := by decide +kernel
theorem dX10_change_100 : decode cX10_change 100 = .ok (.iconst 1, 1) := by decide +kernel
theorem dX10_change_101 : decode cX10_change 101 = .ok (.isub, 1) := by decide +kernel
theorem dX10_change_102 : decode cX10_change 102 = .ok (.ireturn, 1) := by decide +kernel
set_option maxRecDepth 20000 in
theorem ggX10_isLine_X10_isIn : GoodIn wsX10_isLine wsX10_isIn := goodIn_r _ [5] rfl (by decide +kernel)
set_option maxRecDepth 20000 in
theorem gX10_isLine_X10_isIn : GoodIn wsX10_isLine (va_wsS RX10 70 yX10_isIn wsX10_isIn) := goodIn_app (goodIn_of _ (by decide +kernel)) ggX10_isLine_X10_isIn
theorem dX10_isLine_0 : decode cX10_isLine 0 = .ok (.iload_n 1, 1) := by decide +kernel
theorem dX10_isLine_1 : decode cX10_isLine 1 = .ok (.aload_n 0, 1) := by decide +kernel
theorem dX10_isLine_2 : decode cX10_isLine 2 = .ok (.getfield 85, 3) := by decide +kernel
theorem dX10_isLine_5 : decode cX10_isLine 5 = .ok (.invokestatic 70, 3) := by decide +kernel
theorem dX10_isLine_8 : decode cX10_isLine 8 = .ok (.ireturn, 1) := by decide +kernel
set_option maxRecDepth 20000 in
theorem ggX10_isTest_X10_isIn : GoodIn wsX10_isTest wsX10_isIn := goodIn_r _ [5] rfl (by decide +kernel)
set_option maxRecDepth 20000 in
theorem gX10_isTest_X10_isIn : GoodIn wsX10_isTest (va_wsS RX10 70 yX10_isIn wsX10_isIn) := goodIn_app (goodIn_of _ (by decide +kernel)) ggX10_isTest_X10_isIn
theorem dX10_isTest_0 : decode cX10_isTest 0 = .ok (.iload_n 1, 1) := by decide +kernel
theorem dX10_isTest_1 : decode cX10_isTest 1 = .ok (.aload_n 0, 1) := by decide +kernel
theorem dX10_isTest_2 : decode cX10_isTest 2 = .ok (.getfield 100, 3) := by decide +kernel
theorem dX10_isTest_5 : decode cX10_isTest 5 = .ok (.invokestatic 70, 3) := by decide +kernel
theorem dX10_isTest_8 : decode cX10_isTest 8 = .ok (.ireturn, 1) := by decide +kernel
set_option maxRecDepth 20000 in
theorem ggX10_test_X10_refuse : GoodIn wsX10_test wsX10_refuse := goodIn_r _ [7, 8, 12, 13, 14, 15, 16, 17, 18, 19, 20, 21, 22, 23, 24, 25, 26, 27, 28, 29, 30, 31, 32, 33, 34, 35, 36, 37, 38, 39, 40, 41, 42, 43, 44] rfl (by decide +kernel)
set_option maxRecDepth 20000 in
theorem gX10_test_X10_refuse : GoodIn wsX10_test (wsV RX10 88 RX10 yX10_refuse wsX10_refuse) := goodIn_app (goodIn_of _ (by decide +kernel)) ggX10_test_X10_refuse
set_option maxRecDepth 20000 in
theorem ggX10_test_X10_put : GoodIn wsX10_test wsX10_put := goodIn_r _ [11] rfl (by decide +kernel)
set_option maxRecDepth 20000 in
theorem gX10_test_X10_put : GoodIn wsX10_test (va_wsS RX10 92 yX10_put wsX10_put) := goodIn_app (goodIn_of _ (by decide +kernel)) ggX10_test_X10_put
theorem dX10_test_0 : decode cX10_test 0 = .ok (.aload_n 0, 1) := by decide +kernel
theorem dX10_test_1 : decode cX10_test 1 = .ok (.getfield 100, 3) := by decide +kernel
theorem dX10_test_4 : decode cX10_test 4 = .ok (.bipush 12, 2) := by decide +kernel
theorem dX10_test_6 : decode cX10_test 6 = .ok (.if_icmp .ne 10, 3) := by decide +kernel
theorem dX10_test_9 : decode cX10_test 9 = .ok (.aload_n 0, 1) := by decide +kernel
theorem dX10_test_10 : decode cX10_test 10 = .ok (.bipush (-6), 2) := by decide +kernel
theorem dX10_test_12 : decode cX10_test 12 = .ok (.invokevirtual 88, 3) := by decide +kernel
theorem dX10_test_15 : decode cX10_test 15 = .ok (.ireturn, 1) := by decide +kernel
theorem dX10_test_16 : decode cX10_test 16 = .ok (.aload_n 0, 1) := by decide +kernel
theorem dX10_test_17 : decode cX10_test 17 = .ok (.getfield 25, 3) := by decide +kernel
theorem dX10_test_20 : decode cX10_test 20 = .ok (.iconst 4, 1) := by decide +kernel
theorem dX10_test_21 : decode cX10_test 21 = .ok (.aload_n 0, 1) := by decide +kernel
theorem dX10_test_22 : decode cX10_test 22 = .ok (.getfield 100, 3) := by decide +kernel
theorem dX10_test_25 : decode cX10_test 25 = .ok (.imul, 1) := by decide +kernel
theorem dX10_test_26 : decode cX10_test 26 = .ok (.iload_n 1, 1) := by decide +kernel
theorem dX10_test_27 : decode cX10_test 27 = .ok (.iload_n 2, 1) := by decide +kernel
theorem dX10_test_28 : decode cX10_test 28 = .ok (.iload_n 3, 1) := by decide +kernel
theorem dX10_test_29 : decode cX10_test 29 = .ok (.iload 4, 2) := by decide +kernel
theorem dX10_test_31 : decode cX10_test 31 = .ok (.invokestatic 92, 3) := by decide +kernel
theorem dX10_test_34 : decode cX10_test 34 = .ok (.aload_n 0, 1) := by decide +kernel
theorem dX10_test_35 : decode cX10_test 35 = .ok (.dup, 1) := by decide +kernel
theorem dX10_test_36 : decode cX10_test 36 = .ok (.getfield 100, 3) := by decide +kernel
theorem dX10_test_39 : decode cX10_test 39 = .ok (.iconst 1, 1) := by decide +kernel
theorem dX10_test_40 : decode cX10_test 40 = .ok (.iadd, 1) := by decide +kernel
theorem dX10_test_41 : decode cX10_test 41 = .ok (.putfield 100, 3) := by decide +kernel
theorem dX10_test_44 : decode cX10_test 44 = .ok (.aload_n 0, 1) := by decide +kernel
theorem dX10_test_45 : decode cX10_test 45 = .ok (.getfield 100, 3) := by decide +kernel
theorem dX10_test_48 : decode cX10_test 48 = .ok (.iconst 1, 1) := by decide +kernel
theorem dX10_test_49 : decode cX10_test 49 = .ok (.isub, 1) := by decide +kernel
theorem dX10_test_50 : decode cX10_test 50 = .ok (.ireturn, 1) := by decide +kernel
set_option maxRecDepth 20000 in
theorem ggX10_wants_X10_isTest : GoodIn wsX10_wants wsX10_isTest := goodIn_r _ [7, 8, 9, 10, 6, 11, 17, 18, 19, 20, 21, 22, 23, 24, 25, 26, 27, 28, 29, 30, 31, 32, 33, 34, 35, 36, 37, 38, 39, 40, 41, 42, 43, 44, 45, 46, 47, 48, 49] rfl (by decide +kernel)
set_option maxRecDepth 20000 in
theorem gX10_wants_X10_isTest : GoodIn wsX10_wants (wsV RX10 103 RX10 yX10_isTest wsX10_isTest) := goodIn_app (goodIn_of _ (by decide +kernel)) ggX10_wants_X10_isTest
set_option maxRecDepth 20000 in
theorem ggX10_wants_X10_refuse : GoodIn wsX10_wants wsX10_refuse := goodIn_r _ [15, 16, 17, 18, 19, 20, 21, 22, 23, 24, 25, 26, 27, 28, 29, 30, 31, 32, 33, 34, 35, 36, 37, 38, 39, 40, 41, 42, 43, 44, 45, 46, 47, 48, 49] rfl (by decide +kernel)
set_option maxRecDepth 20000 in
theorem gX10_wants_X10_refuse : GoodIn wsX10_wants (wsV RX10 88 RX10 yX10_refuse wsX10_refuse) := goodIn_app (goodIn_of _ (by decide +kernel)) ggX10_wants_X10_refuse
theorem dX10_wants_0 : decode cX10_wants 0 = .ok (.aload_n 0, 1) := by decide +kernel
theorem dX10_wants_1 : decode cX10_wants 1 = .ok (.iload_n 1, 1) := by decide +kernel
theorem dX10_wants_2 : decode cX10_wants 2 = .ok (.invokevirtual 103, 3) := by decide +kernel
theorem dX10_wants_5 : decode cX10_wants 5 = .ok (.ifCond .ne 9, 3) := by decide +kernel
theorem dX10_wants_8 : decode cX10_wants 8 = .ok (.aload_n 0, 1) := by decide +kernel
theorem dX10_wants_9 : decode cX10_wants 9 = .ok (.iconst (-1), 1) := by decide +kernel
theorem dX10_wants_10 : decode cX10_wants 10 = .ok (.invokevirtual 88, 3) := by decide +kernel
theorem dX10_wants_13 : decode cX10_wants 13 = .ok (.ireturn, 1) := by decide +kernel
theorem dX10_wants_14 : decode cX10_wants 14 = .ok (.aload_n 0, 1) := by decide +kernel
theorem dX10_wants_15 : decode cX10_wants 15 = .ok (.getfield 31, 3) := by decide +kernel
theorem dX10_wants_18 : decode cX10_wants 18 = .ok (.iload_n 1, 1) := by decide +kernel
theorem dX10_wants_19 : decode cX10_wants 19 = .ok (.iaload, 1) := by decide +kernel
theorem dX10_wants_20 : decode cX10_wants 20 = .ok (.bipush 6, 2) := by decide +kernel
theorem dX10_wants_22 : decode cX10_wants 22 = .ok (.if_icmp .ne 10, 3) := by decide +kernel
theorem dX10_wants_25 : decode cX10_wants 25 = .ok (.aload_n 0, 1) := by decide +kernel
theorem dX10_wants_26 : decode cX10_wants 26 = .ok (.bipush (-6), 2) := by decide +kernel
theorem dX10_wants_28 : decode cX10_wants 28 = .ok (.invokevirtual 88, 3) := by decide +kernel
theorem dX10_wants_31 : decode cX10_wants 31 = .ok (.ireturn, 1) := by decide +kernel
theorem dX10_wants_32 : decode cX10_wants 32 = .ok (.aload_n 0, 1) := by decide +kernel
theorem dX10_wants_33 : decode cX10_wants 33 = .ok (.getfield 28, 3) := by decide +kernel
theorem dX10_wants_36 : decode cX10_wants 36 = .ok (.bipush 6, 2) := by decide +kernel
theorem dX10_wants_38 : decode cX10_wants 38 = .ok (.iload_n 1, 1) := by decide +kernel
theorem dX10_wants_39 : decode cX10_wants 39 = .ok (.imul, 1) := by decide +kernel
theorem dX10_wants_40 : decode cX10_wants 40 = .ok (.aload_n 0, 1) := by decide +kernel
theorem dX10_wants_41 : decode cX10_wants 41 = .ok (.getfield 31, 3) := by decide +kernel
theorem dX10_wants_44 : decode cX10_wants 44 = .ok (.iload_n 1, 1) := by decide +kernel
theorem dX10_wants_45 : decode cX10_wants 45 = .ok (.iaload, 1) := by decide +kernel
theorem dX10_wants_46 : decode cX10_wants 46 = .ok (.iadd, 1) := by decide +kernel
theorem dX10_wants_47 : decode cX10_wants 47 = .ok (.iload_n 2, 1) := by decide +kernel
theorem dX10_wants_48 : decode cX10_wants 48 = .ok (.iastore, 1) := by decide +kernel
theorem dX10_wants_49 : decode cX10_wants 49 = .ok (.aload_n 0, 1) := by decide +kernel
theorem dX10_wants_50 : decode cX10_wants 50 = .ok (.getfield 31, 3) := by decide +kernel
theorem dX10_wants_53 : decode cX10_wants 53 = .ok (.iload_n 1, 1) := by decide +kernel
theorem dX10_wants_54 : decode cX10_wants 54 = .ok (.dup2, 1) := by decide +kernel
theorem dX10_wants_55 : decode cX10_wants 55 = .ok (.iaload, 1) := by decide +kernel
theorem dX10_wants_56 : decode cX10_wants 56 = .ok (.iconst 1, 1) := by decide +kernel
theorem dX10_wants_57 : decode cX10_wants 57 = .ok (.iadd, 1) := by decide +kernel
theorem dX10_wants_58 : decode cX10_wants 58 = .ok (.iastore, 1) := by decide +kernel
theorem dX10_wants_59 : decode cX10_wants 59 = .ok (.aload_n 0, 1) := by decide +kernel
theorem dX10_wants_60 : decode cX10_wants 60 = .ok (.getfield 31, 3) := by decide +kernel
theorem dX10_wants_63 : decode cX10_wants 63 = .ok (.iload_n 1, 1) := by decide +kernel
theorem dX10_wants_64 : decode cX10_wants 64 = .ok (.iaload, 1) := by decide +kernel
theorem dX10_wants_65 : decode cX10_wants 65 = .ok (.ireturn, 1) := by decide +kernel
set_option maxRecDepth 20000 in
theorem ggX10_open_X10_isTest : GoodIn wsX10_open wsX10_isTest := goodIn_r _ [6, 7, 8, 9, 5, 10, 16, 17, 18, 19, 20, 21, 22, 23, 24, 25, 26, 27, 28, 29, 30, 31, 32, 33, 34, 35, 36, 37, 38, 39, 40, 41, 42, 43, 44, 45, 46, 47, 48] rfl (by decide +kernel)
set_option maxRecDepth 20000 in
theorem gX10_open_X10_isTest : GoodIn wsX10_open (wsV RX10 103 RX10 yX10_isTest wsX10_isTest) := goodIn_app (goodIn_of _ (by decide +kernel)) ggX10_open_X10_isTest
set_option maxRecDepth 20000 in
theorem ggX10_open_X10_refuse : GoodIn wsX10_open wsX10_refuse := goodIn_r _ [14, 15, 16, 17, 18, 19, 20, 21, 22, 23, 24, 25, 26, 27, 28, 29, 30, 31, 32, 33, 34, 35, 36, 37, 38, 39, 40, 41, 42, 43, 44, 45, 46, 47, 48] rfl (by decide +kernel)
set_option maxRecDepth 20000 in
theorem gX10_open_X10_refuse : GoodIn wsX10_open (wsV RX10 88 RX10 yX10_refuse wsX10_refuse) := goodIn_app (goodIn_of _ (by decide +kernel)) ggX10_open_X10_refuse
theorem dX10_open_0 : decode cX10_open 0 = .ok (.aload_n 0, 1) := by decide +kernel
theorem dX10_open_1 : decode cX10_open 1 = .ok (.iload_n 1, 1) := by decide +kernel
theorem dX10_open_2 : decode cX10_open 2 = .ok (.invokevirtual 103, 3) := by decide +kernel
theorem dX10_open_5 : decode cX10_open 5 = .ok (.ifCond .ne 9, 3) := by decide +kernel
theorem dX10_open_8 : decode cX10_open 8 = .ok (.aload_n 0, 1) := by decide +kernel
theorem dX10_open_9 : decode cX10_open 9 = .ok (.iconst (-1), 1) := by decide +kernel
theorem dX10_open_10 : decode cX10_open 10 = .ok (.invokevirtual 88, 3) := by decide +kernel
theorem dX10_open_13 : decode cX10_open 13 = .ok (.ireturn, 1) := by decide +kernel
theorem dX10_open_14 : decode cX10_open 14 = .ok (.aload_n 0, 1) := by decide +kernel
theorem dX10_open_15 : decode cX10_open 15 = .ok (.getfield 34, 3) := by decide +kernel
theorem dX10_open_18 : decode cX10_open 18 = .ok (.iload_n 1, 1) := by decide +kernel
theorem dX10_open_19 : decode cX10_open 19 = .ok (.baload, 1) := by decide +kernel
theorem dX10_open_20 : decode cX10_open 20 = .ok (.iload_n 2, 1) := by decide +kernel
theorem dX10_open_21 : decode cX10_open 21 = .ok (.if_icmp .ne 5, 3) := by decide +kernel
theorem dX10_open_24 : decode cX10_open 24 = .ok (.iconst 0, 1) := by decide +kernel
theorem dX10_open_25 : decode cX10_open 25 = .ok (.ireturn, 1) := by decide +kernel
theorem dX10_open_26 : decode cX10_open 26 = .ok (.aload_n 0, 1) := by decide +kernel
theorem dX10_open_27 : decode cX10_open 27 = .ok (.getfield 34, 3) := by decide +kernel
theorem dX10_open_30 : decode cX10_open 30 = .ok (.iload_n 1, 1) := by decide +kernel
theorem dX10_open_31 : decode cX10_open 31 = .ok (.iload_n 2, 1) := by decide +kernel
theorem dX10_open_32 : decode cX10_open 32 = .ok (.bastore, 1) := by decide +kernel
theorem dX10_open_33 : decode cX10_open 33 = .ok (.iconst 1, 1) := by decide +kernel
theorem dX10_open_34 : decode cX10_open 34 = .ok (.ireturn, 1) := by decide +kernel
theorem dX10_takes_0 : decode cX10_takes 0 = .ok (.iconst 0, 1) := by decide +kernel
theorem dX10_takes_1 : decode cX10_takes 1 = .ok (.istore_n 2, 1) := by decide +kernel
theorem dX10_takes_2 : decode cX10_takes 2 = .ok (.iload_n 2, 1) := by decide +kernel
theorem dX10_takes_3 : decode cX10_takes 3 = .ok (.iconst 4, 1) := by decide +kernel
theorem dX10_takes_4 : decode cX10_takes 4 = .ok (.aload_n 0, 1) := by decide +kernel
theorem dX10_takes_5 : decode cX10_takes 5 = .ok (.getfield 85, 3) := by decide +kernel
theorem dX10_takes_8 : decode cX10_takes 8 = .ok (.imul, 1) := by decide +kernel
theorem dX10_takes_9 : decode cX10_takes 9 = .ok (.if_icmp .ge 21, 3) := by decide +kernel
theorem dX10_takes_12 : decode cX10_takes 12 = .ok (.aload_n 0, 1) := by decide +kernel
theorem dX10_takes_13 : decode cX10_takes 13 = .ok (.getfield 16, 3) := by decide +kernel
theorem dX10_takes_16 : decode cX10_takes 16 = .ok (.iload_n 2, 1) := by decide +kernel
theorem dX10_takes_17 : decode cX10_takes 17 = .ok (.aload_n 0, 1) := by decide +kernel
theorem dX10_takes_18 : decode cX10_takes 18 = .ok (.getfield 13, 3) := by decide +kernel
theorem dX10_takes_21 : decode cX10_takes 21 = .ok (.iload_n 2, 1) := by decide +kernel
theorem dX10_takes_22 : decode cX10_takes 22 = .ok (.iaload, 1) := by decide +kernel
theorem dX10_takes_23 : decode cX10_takes 23 = .ok (.iastore, 1) := by decide +kernel
theorem dX10_takes_24 : decode cX10_takes 24 = .ok (.iinc 2 1, 3) := by decide +kernel
theorem dX10_takes_27 : decode cX10_takes 27 = .ok (.goto (-25), 3) := by decide +kernel
theorem dX10_takes_30 : decode cX10_takes 30 = .ok (.iconst 0, 1) := by decide +kernel
theorem dX10_takes_31 : decode cX10_takes 31 = .ok (.istore_n 2, 1) := by decide +kernel
theorem dX10_takes_32 : decode cX10_takes 32 = .ok (.iload_n 2, 1) := by decide +kernel
theorem dX10_takes_33 : decode cX10_takes 33 = .ok (.iload_n 1, 1) := by decide +kernel
theorem dX10_takes_34 : decode cX10_takes 34 = .ok (.if_icmp .ge 51, 3) := by decide +kernel
theorem dX10_takes_37 : decode cX10_takes 37 = .ok (.iconst 0, 1) := by decide +kernel
theorem dX10_takes_38 : decode cX10_takes 38 = .ok (.istore_n 3, 1) := by decide +kernel
theorem dX10_takes_39 : decode cX10_takes 39 = .ok (.iload_n 3, 1) := by decide +kernel
theorem dX10_takes_40 : decode cX10_takes 40 = .ok (.iconst 4, 1) := by decide +kernel
theorem dX10_takes_41 : decode cX10_takes 41 = .ok (.if_icmp .ge 38, 3) := by decide +kernel
theorem dX10_takes_44 : decode cX10_takes 44 = .ok (.aload_n 0, 1) := by decide +kernel
theorem dX10_takes_45 : decode cX10_takes 45 = .ok (.getfield 16, 3) := by decide +kernel
theorem dX10_takes_48 : decode cX10_takes 48 = .ok (.iconst 4, 1) := by decide +kernel
theorem dX10_takes_49 : decode cX10_takes 49 = .ok (.aload_n 0, 1) := by decide +kernel
theorem dX10_takes_50 : decode cX10_takes 50 = .ok (.getfield 19, 3) := by decide +kernel
theorem dX10_takes_53 : decode cX10_takes 53 = .ok (.iconst 5, 1) := by decide +kernel
theorem dX10_takes_54 : decode cX10_takes 54 = .ok (.iload_n 2, 1) := by decide +kernel
theorem dX10_takes_55 : decode cX10_takes 55 = .ok (.imul, 1) := by decide +kernel
theorem dX10_takes_56 : decode cX10_takes 56 = .ok (.iaload, 1) := by decide +kernel
theorem dX10_takes_57 : decode cX10_takes 57 = .ok (.imul, 1) := by decide +kernel
theorem dX10_takes_58 : decode cX10_takes 58 = .ok (.iload_n 3, 1) := by decide +kernel
theorem dX10_takes_59 : decode cX10_takes 59 = .ok (.iadd, 1) := by decide +kernel
theorem dX10_takes_60 : decode cX10_takes 60 = .ok (.aload_n 0, 1) := by decide +kernel
theorem dX10_takes_61 : decode cX10_takes 61 = .ok (.getfield 19, 3) := by decide +kernel
theorem dX10_takes_64 : decode cX10_takes 64 = .ok (.iconst 5, 1) := by decide +kernel
theorem dX10_takes_65 : decode cX10_takes 65 = .ok (.iload_n 2, 1) := by decide +kernel
theorem dX10_takes_66 : decode cX10_takes 66 = .ok (.imul, 1) := by decide +kernel
theorem dX10_takes_67 : decode cX10_takes 67 = .ok (.iconst 1, 1) := by decide +kernel
theorem dX10_takes_68 : decode cX10_takes 68 = .ok (.iadd, 1) := by decide +kernel
theorem dX10_takes_69 : decode cX10_takes 69 = .ok (.iload_n 3, 1) := by decide +kernel
theorem dX10_takes_70 : decode cX10_takes 70 = .ok (.iadd, 1) := by decide +kernel
theorem dX10_takes_71 : decode cX10_takes 71 = .ok (.iaload, 1) := by decide +kernel
theorem dX10_takes_72 : decode cX10_takes 72 = .ok (.iastore, 1) := by decide +kernel
theorem dX10_takes_73 : decode cX10_takes 73 = .ok (.iinc 3 1, 3) := by decide +kernel
theorem dX10_takes_76 : decode cX10_takes 76 = .ok (.goto (-37), 3) := by decide +kernel
theorem dX10_takes_79 : decode cX10_takes 79 = .ok (.iinc 2 1, 3) := by decide +kernel
theorem dX10_takes_82 : decode cX10_takes 82 = .ok (.goto (-50), 3) := by decide +kernel
theorem dX10_takes_85 : decode cX10_takes 85 = .ok (.return_, 1) := by decide +kernel
set_option maxRecDepth 20000 in
theorem ggX10_runs_X10_goes : GoodIn wsX10_runs wsX10_goes := goodIn_r _ [13, 7, 1, 14, 4, 15, 3, 16, 2, 17, 18, 19, 20, 21, 22, 23, 24, 25, 26, 27, 28, 29, 30, 31, 32, 33, 34, 35, 36, 37, 38, 39, 40, 41, 42, 43, 44, 45, 46, 47, 48, 49] rfl (by decide +kernel)
set_option maxRecDepth 20000 in
theorem gX10_runs_X10_goes : GoodIn wsX10_runs (wsV RX10 115 RX10 yX10_goes wsX10_goes) := goodIn_app (goodIn_of _ (by decide +kernel)) ggX10_runs_X10_goes
theorem dX10_runs_0 : decode cX10_runs 0 = .ok (.iconst 0, 1) := by decide +kernel
theorem dX10_runs_1 : decode cX10_runs 1 = .ok (.istore 5, 2) := by decide +kernel
theorem dX10_runs_3 : decode cX10_runs 3 = .ok (.iload 5, 2) := by decide +kernel
theorem dX10_runs_5 : decode cX10_runs 5 = .ok (.bipush 8, 2) := by decide +kernel
theorem dX10_runs_7 : decode cX10_runs 7 = .ok (.if_icmp .ge 17, 3) := by decide +kernel
theorem dX10_runs_10 : decode cX10_runs 10 = .ok (.aload_n 0, 1) := by decide +kernel
theorem dX10_runs_11 : decode cX10_runs 11 = .ok (.getfield 47, 3) := by decide +kernel
theorem dX10_runs_14 : decode cX10_runs 14 = .ok (.iload 5, 2) := by decide +kernel
theorem dX10_runs_16 : decode cX10_runs 16 = .ok (.iconst 0, 1) := by decide +kernel
theorem dX10_runs_17 : decode cX10_runs 17 = .ok (.iastore, 1) := by decide +kernel
theorem dX10_runs_18 : decode cX10_runs 18 = .ok (.iinc 5 1, 3) := by decide +kernel
theorem dX10_runs_21 : decode cX10_runs 21 = .ok (.goto (-18), 3) := by decide +kernel
theorem dX10_runs_24 : decode cX10_runs 24 = .ok (.aload_n 0, 1) := by decide +kernel
theorem dX10_runs_25 : decode cX10_runs 25 = .ok (.iconst 0, 1) := by decide +kernel
theorem dX10_runs_26 : decode cX10_runs 26 = .ok (.putfield 106, 3) := by decide +kernel
theorem dX10_runs_29 : decode cX10_runs 29 = .ok (.aload_n 0, 1) := by decide +kernel
theorem dX10_runs_30 : decode cX10_runs 30 = .ok (.iconst 0, 1) := by decide +kernel
theorem dX10_runs_31 : decode cX10_runs 31 = .ok (.putfield 109, 3) := by decide +kernel
theorem dX10_runs_34 : decode cX10_runs 34 = .ok (.aload_n 0, 1) := by decide +kernel
theorem dX10_runs_35 : decode cX10_runs 35 = .ok (.iconst 0, 1) := by decide +kernel
theorem dX10_runs_36 : decode cX10_runs 36 = .ok (.putfield 112, 3) := by decide +kernel
theorem dX10_runs_39 : decode cX10_runs 39 = .ok (.iconst 0, 1) := by decide +kernel
theorem dX10_runs_40 : decode cX10_runs 40 = .ok (.istore 5, 2) := by decide +kernel
theorem dX10_runs_42 : decode cX10_runs 42 = .ok (.iload 5, 2) := by decide +kernel
theorem dX10_runs_44 : decode cX10_runs 44 = .ok (.aload_n 0, 1) := by decide +kernel
theorem dX10_runs_45 : decode cX10_runs 45 = .ok (.getfield 85, 3) := by decide +kernel
theorem dX10_runs_48 : decode cX10_runs 48 = .ok (.if_icmp .ge 106, 3) := by decide +kernel
theorem dX10_runs_51 : decode cX10_runs 51 = .ok (.aload_n 0, 1) := by decide +kernel
theorem dX10_runs_52 : decode cX10_runs 52 = .ok (.getfield 109, 3) := by decide +kernel
theorem dX10_runs_55 : decode cX10_runs 55 = .ok (.bipush 6, 2) := by decide +kernel
theorem dX10_runs_57 : decode cX10_runs 57 = .ok (.if_icmp .ge 97, 3) := by decide +kernel
theorem dX10_runs_60 : decode cX10_runs 60 = .ok (.aload_n 0, 1) := by decide +kernel
theorem dX10_runs_61 : decode cX10_runs 61 = .ok (.getfield 106, 3) := by decide +kernel
theorem dX10_runs_64 : decode cX10_runs 64 = .ok (.sipush 300, 3) := by decide +kernel
theorem dX10_runs_67 : decode cX10_runs 67 = .ok (.if_icmp .ge 87, 3) := by decide +kernel
theorem dX10_runs_70 : decode cX10_runs 70 = .ok (.aload_n 0, 1) := by decide +kernel
theorem dX10_runs_71 : decode cX10_runs 71 = .ok (.getfield 38, 3) := by decide +kernel
theorem dX10_runs_74 : decode cX10_runs 74 = .ok (.aload_n 0, 1) := by decide +kernel
theorem dX10_runs_75 : decode cX10_runs 75 = .ok (.getfield 106, 3) := by decide +kernel
theorem dX10_runs_78 : decode cX10_runs 78 = .ok (.iload 5, 2) := by decide +kernel
theorem dX10_runs_80 : decode cX10_runs 80 = .ok (.iastore, 1) := by decide +kernel
theorem dX10_runs_81 : decode cX10_runs 81 = .ok (.aload_n 0, 1) := by decide +kernel
theorem dX10_runs_82 : decode cX10_runs 82 = .ok (.dup, 1) := by decide +kernel
theorem dX10_runs_83 : decode cX10_runs 83 = .ok (.getfield 106, 3) := by decide +kernel
theorem dX10_runs_86 : decode cX10_runs 86 = .ok (.iconst 1, 1) := by decide +kernel
theorem dX10_runs_87 : decode cX10_runs 87 = .ok (.iadd, 1) := by decide +kernel
theorem dX10_runs_88 : decode cX10_runs 88 = .ok (.putfield 106, 3) := by decide +kernel
theorem dX10_runs_91 : decode cX10_runs 91 = .ok (.aload_n 0, 1) := by decide +kernel
theorem dX10_runs_92 : decode cX10_runs 92 = .ok (.iload_n 1, 1) := by decide +kernel
theorem dX10_runs_93 : decode cX10_runs 93 = .ok (.iload 5, 2) := by decide +kernel
theorem dX10_runs_95 : decode cX10_runs 95 = .ok (.iload_n 2, 1) := by decide +kernel
theorem dX10_runs_96 : decode cX10_runs 96 = .ok (.invokevirtual 115, 3) := by decide +kernel
theorem dX10_runs_99 : decode cX10_runs 99 = .ok (.istore 5, 2) := by decide +kernel
theorem dX10_runs_101 : decode cX10_runs 101 = .ok (.aload_n 0, 1) := by decide +kernel
theorem dX10_runs_102 : decode cX10_runs 102 = .ok (.getfield 38, 3) := by decide +kernel
theorem dX10_runs_105 : decode cX10_runs 105 = .ok (.aload_n 0, 1) := by decide +kernel
theorem dX10_runs_106 : decode cX10_runs 106 = .ok (.getfield 106, 3) := by decide +kernel
theorem dX10_runs_109 : decode cX10_runs 109 = .ok (.iconst 1, 1) := by decide +kernel
theorem dX10_runs_110 : decode cX10_runs 110 = .ok (.isub, 1) := by decide +kernel
theorem dX10_runs_111 : decode cX10_runs 111 = .ok (.iaload, 1) := by decide +kernel
theorem dX10_runs_112 : decode cX10_runs 112 = .ok (.istore 6, 2) := by decide +kernel
theorem dX10_runs_114 : decode cX10_runs 114 = .ok (.iload 6, 2) := by decide +kernel
theorem dX10_runs_116 : decode cX10_runs 116 = .ok (.iload_n 3, 1) := by decide +kernel
theorem dX10_runs_117 : decode cX10_runs 117 = .ok (.if_icmp .ne 34, 3) := by decide +kernel
theorem dX10_runs_120 : decode cX10_runs 120 = .ok (.aload_n 0, 1) := by decide +kernel
theorem dX10_runs_121 : decode cX10_runs 121 = .ok (.getfield 16, 3) := by decide +kernel
theorem dX10_runs_124 : decode cX10_runs 124 = .ok (.iconst 4, 1) := by decide +kernel
theorem dX10_runs_125 : decode cX10_runs 125 = .ok (.iload 6, 2) := by decide +kernel
theorem dX10_runs_127 : decode cX10_runs 127 = .ok (.imul, 1) := by decide +kernel
theorem dX10_runs_128 : decode cX10_runs 128 = .ok (.iaload, 1) := by decide +kernel
theorem dX10_runs_129 : decode cX10_runs 129 = .ok (.iconst 5, 1) := by decide +kernel
theorem dX10_runs_130 : decode cX10_runs 130 = .ok (.if_icmp .ge 21, 3) := by decide +kernel
theorem dX10_runs_133 : decode cX10_runs 133 = .ok (.aload_n 0, 1) := by decide +kernel
theorem dX10_runs_134 : decode cX10_runs 134 = .ok (.getfield 47, 3) := by decide +kernel
theorem dX10_runs_137 : decode cX10_runs 137 = .ok (.aload_n 0, 1) := by decide +kernel
theorem dX10_runs_138 : decode cX10_runs 138 = .ok (.getfield 16, 3) := by decide +kernel
theorem dX10_runs_141 : decode cX10_runs 141 = .ok (.iconst 4, 1) := by decide +kernel
theorem dX10_runs_142 : decode cX10_runs 142 = .ok (.iload 6, 2) := by decide +kernel
theorem dX10_runs_144 : decode cX10_runs 144 = .ok (.imul, 1) := by decide +kernel
theorem dX10_runs_145 : decode cX10_runs 145 = .ok (.iconst 1, 1) := by decide +kernel
theorem dX10_runs_146 : decode cX10_runs 146 = .ok (.iadd, 1) := by decide +kernel
theorem dX10_runs_147 : decode cX10_runs 147 = .ok (.iaload, 1) := by decide +kernel
theorem dX10_runs_148 : decode cX10_runs 148 = .ok (.iload 4, 2) := by decide +kernel
theorem dX10_runs_150 : decode cX10_runs 150 = .ok (.iastore, 1) := by decide +kernel
theorem dX10_runs_151 : decode cX10_runs 151 = .ok (.goto (-109), 3) := by decide +kernel
theorem dX10_runs_154 : decode cX10_runs 154 = .ok (.aload_n 0, 1) := by decide +kernel
theorem dX10_runs_155 : decode cX10_runs 155 = .ok (.iload 5, 2) := by decide +kernel
theorem dX10_runs_157 : decode cX10_runs 157 = .ok (.aload_n 0, 1) := by decide +kernel
theorem dX10_runs_158 : decode cX10_runs 158 = .ok (.getfield 85, 3) := by decide +kernel
theorem dX10_runs_161 : decode cX10_runs 161 = .ok (.if_icmp .ge 16, 3) := by decide +kernel
theorem dX10_runs_164 : decode cX10_runs 164 = .ok (.aload_n 0, 1) := by decide +kernel
theorem dX10_runs_165 : decode cX10_runs 165 = .ok (.getfield 109, 3) := by decide +kernel
theorem dX10_runs_168 : decode cX10_runs 168 = .ok (.bipush 6, 2) := by decide +kernel
theorem dX10_runs_170 : decode cX10_runs 170 = .ok (.if_icmp .ge 7, 3) := by decide +kernel
theorem dX10_runs_173 : decode cX10_runs 173 = .ok (.iconst 1, 1) := by decide +kernel
theorem dX10_runs_174 : decode cX10_runs 174 = .ok (.goto 4, 3) := by decide +kernel
theorem dX10_runs_177 : decode cX10_runs 177 = .ok (.iconst 0, 1) := by decide +kernel
theorem dX10_runs_178 : decode cX10_runs 178 = .ok (.putfield 118, 3) := by decide +kernel
theorem dX10_runs_181 : decode cX10_runs 181 = .ok (.return_, 1) := by decide +kernel
theorem dX10_goes_0 : decode cX10_goes 0 = .ok (.aload_n 0, 1) := by decide +kernel
theorem dX10_goes_1 : decode cX10_goes 1 = .ok (.getfield 16, 3) := by decide +kernel
theorem dX10_goes_4 : decode cX10_goes 4 = .ok (.iconst 4, 1) := by decide +kernel
theorem dX10_goes_5 : decode cX10_goes 5 = .ok (.iload_n 2, 1) := by decide +kernel
theorem dX10_goes_6 : decode cX10_goes 6 = .ok (.imul, 1) := by decide +kernel
theorem dX10_goes_7 : decode cX10_goes 7 = .ok (.iconst 1, 1) := by decide +kernel
theorem dX10_goes_8 : decode cX10_goes 8 = .ok (.iadd, 1) := by decide +kernel
theorem dX10_goes_9 : decode cX10_goes 9 = .ok (.iaload, 1) := by decide +kernel
theorem dX10_goes_10 : decode cX10_goes 10 = .ok (.istore 4, 2) := by decide +kernel
theorem dX10_goes_12 : decode cX10_goes 12 = .ok (.aload_n 0, 1) := by decide +kernel
theorem dX10_goes_13 : decode cX10_goes 13 = .ok (.getfield 16, 3) := by decide +kernel
theorem dX10_goes_16 : decode cX10_goes 16 = .ok (.iconst 4, 1) := by decide +kernel
theorem dX10_goes_17 : decode cX10_goes 17 = .ok (.iload_n 2, 1) := by decide +kernel
theorem dX10_goes_18 : decode cX10_goes 18 = .ok (.imul, 1) := by decide +kernel
theorem dX10_goes_19 : decode cX10_goes 19 = .ok (.iconst 2, 1) := by decide +kernel
theorem dX10_goes_20 : decode cX10_goes 20 = .ok (.iadd, 1) := by decide +kernel
theorem dX10_goes_21 : decode cX10_goes 21 = .ok (.iaload, 1) := by decide +kernel
theorem dX10_goes_22 : decode cX10_goes 22 = .ok (.istore 5, 2) := by decide +kernel
theorem dX10_goes_24 : decode cX10_goes 24 = .ok (.aload_n 0, 1) := by decide +kernel
theorem dX10_goes_25 : decode cX10_goes 25 = .ok (.getfield 16, 3) := by decide +kernel
theorem dX10_goes_28 : decode cX10_goes 28 = .ok (.iconst 4, 1) := by decide +kernel
theorem dX10_goes_29 : decode cX10_goes 29 = .ok (.iload_n 2, 1) := by decide +kernel
theorem dX10_goes_30 : decode cX10_goes 30 = .ok (.imul, 1) := by decide +kernel
theorem dX10_goes_31 : decode cX10_goes 31 = .ok (.iconst 3, 1) := by decide +kernel
theorem dX10_goes_32 : decode cX10_goes 32 = .ok (.iadd, 1) := by decide +kernel
theorem dX10_goes_33 : decode cX10_goes 33 = .ok (.iaload, 1) := by decide +kernel
theorem dX10_goes_34 : decode cX10_goes 34 = .ok (.istore 6, 2) := by decide +kernel
theorem dX10_goes_36 : decode cX10_goes 36 = .ok (.aload_n 0, 1) := by decide +kernel
theorem dX10_goes_37 : decode cX10_goes 37 = .ok (.getfield 16, 3) := by decide +kernel
theorem dX10_goes_40 : decode cX10_goes 40 = .ok (.iconst 4, 1) := by decide +kernel
theorem dX10_goes_41 : decode cX10_goes 41 = .ok (.iload_n 2, 1) := by decide +kernel
theorem dX10_goes_42 : decode cX10_goes 42 = .ok (.imul, 1) := by decide +kernel
theorem dX10_goes_43 : decode cX10_goes 43 = .ok (.iaload, 1) := by decide +kernel
theorem dX10_goes_44 : decode cX10_goes 44 = .ok (.tableswitch 224 0 6 #[44, 56, 81, 106, 131, 152, 221], 44) := by decide +kernel
theorem dX10_goes_88 : decode cX10_goes 88 = .ok (.aload_n 0, 1) := by decide +kernel
theorem dX10_goes_89 : decode cX10_goes 89 = .ok (.getfield 47, 3) := by decide +kernel
theorem dX10_goes_92 : decode cX10_goes 92 = .ok (.iload 4, 2) := by decide +kernel
theorem dX10_goes_94 : decode cX10_goes 94 = .ok (.iload 5, 2) := by decide +kernel
theorem dX10_goes_96 : decode cX10_goes 96 = .ok (.iastore, 1) := by decide +kernel
theorem dX10_goes_97 : decode cX10_goes 97 = .ok (.goto 212, 3) := by decide +kernel
theorem dX10_goes_100 : decode cX10_goes 100 = .ok (.aload_n 0, 1) := by decide +kernel
theorem dX10_goes_101 : decode cX10_goes 101 = .ok (.getfield 47, 3) := by decide +kernel
theorem dX10_goes_104 : decode cX10_goes 104 = .ok (.iload 4, 2) := by decide +kernel
theorem dX10_goes_106 : decode cX10_goes 106 = .ok (.aload_n 0, 1) := by decide +kernel
theorem dX10_goes_107 : decode cX10_goes 107 = .ok (.getfield 47, 3) := by decide +kernel
theorem dX10_goes_110 : decode cX10_goes 110 = .ok (.iload 5, 2) := by decide +kernel
theorem dX10_goes_112 : decode cX10_goes 112 = .ok (.iaload, 1) := by decide +kernel
theorem dX10_goes_113 : decode cX10_goes 113 = .ok (.aload_n 0, 1) := by decide +kernel
theorem dX10_goes_114 : decode cX10_goes 114 = .ok (.getfield 47, 3) := by decide +kernel
theorem dX10_goes_117 : decode cX10_goes 117 = .ok (.iload 6, 2) := by decide +kernel
theorem dX10_goes_119 : decode cX10_goes 119 = .ok (.iaload, 1) := by decide +kernel
theorem dX10_goes_120 : decode cX10_goes 120 = .ok (.iadd, 1) := by decide +kernel
theorem dX10_goes_121 : decode cX10_goes 121 = .ok (.iastore, 1) := by decide +kernel
theorem dX10_goes_122 : decode cX10_goes 122 = .ok (.goto 187, 3) := by decide +kernel
theorem dX10_goes_125 : decode cX10_goes 125 = .ok (.aload_n 0, 1) := by decide +kernel
theorem dX10_goes_126 : decode cX10_goes 126 = .ok (.getfield 47, 3) := by decide +kernel
theorem dX10_goes_129 : decode cX10_goes 129 = .ok (.iload 4, 2) := by decide +kernel
theorem dX10_goes_131 : decode cX10_goes 131 = .ok (.aload_n 0, 1) := by decide +kernel
theorem dX10_goes_132 : decode cX10_goes 132 = .ok (.getfield 47, 3) := by decide +kernel
theorem dX10_goes_135 : decode cX10_goes 135 = .ok (.iload 5, 2) := by decide +kernel
theorem dX10_goes_137 : decode cX10_goes 137 = .ok (.iaload, 1) := by decide +kernel
theorem dX10_goes_138 : decode cX10_goes 138 = .ok (.aload_n 0, 1) := by decide +kernel
theorem dX10_goes_139 : decode cX10_goes 139 = .ok (.getfield 47, 3) := by decide +kernel
theorem dX10_goes_142 : decode cX10_goes 142 = .ok (.iload 6, 2) := by decide +kernel
theorem dX10_goes_144 : decode cX10_goes 144 = .ok (.iaload, 1) := by decide +kernel
theorem dX10_goes_145 : decode cX10_goes 145 = .ok (.isub, 1) := by decide +kernel
theorem dX10_goes_146 : decode cX10_goes 146 = .ok (.iastore, 1) := by decide +kernel
theorem dX10_goes_147 : decode cX10_goes 147 = .ok (.goto 162, 3) := by decide +kernel
theorem dX10_goes_150 : decode cX10_goes 150 = .ok (.aload_n 0, 1) := by decide +kernel
theorem dX10_goes_151 : decode cX10_goes 151 = .ok (.getfield 47, 3) := by decide +kernel
theorem dX10_goes_154 : decode cX10_goes 154 = .ok (.iload 4, 2) := by decide +kernel
theorem dX10_goes_156 : decode cX10_goes 156 = .ok (.aload_n 0, 1) := by decide +kernel
theorem dX10_goes_157 : decode cX10_goes 157 = .ok (.getfield 47, 3) := by decide +kernel
theorem dX10_goes_160 : decode cX10_goes 160 = .ok (.iload 5, 2) := by decide +kernel
theorem dX10_goes_162 : decode cX10_goes 162 = .ok (.iaload, 1) := by decide +kernel
theorem dX10_goes_163 : decode cX10_goes 163 = .ok (.aload_n 0, 1) := by decide +kernel
theorem dX10_goes_164 : decode cX10_goes 164 = .ok (.getfield 47, 3) := by decide +kernel
theorem dX10_goes_167 : decode cX10_goes 167 = .ok (.iload 6, 2) := by decide +kernel
theorem dX10_goes_169 : decode cX10_goes 169 = .ok (.iaload, 1) := by decide +kernel
theorem dX10_goes_170 : decode cX10_goes 170 = .ok (.imul, 1) := by decide +kernel
theorem dX10_goes_171 : decode cX10_goes 171 = .ok (.iastore, 1) := by decide +kernel
theorem dX10_goes_172 : decode cX10_goes 172 = .ok (.goto 137, 3) := by decide +kernel
theorem dX10_goes_175 : decode cX10_goes 175 = .ok (.aload_n 0, 1) := by decide +kernel
theorem dX10_goes_176 : decode cX10_goes 176 = .ok (.getfield 47, 3) := by decide +kernel
theorem dX10_goes_179 : decode cX10_goes 179 = .ok (.iload 4, 2) := by decide +kernel
theorem dX10_goes_181 : decode cX10_goes 181 = .ok (.aload_n 0, 1) := by decide +kernel
theorem dX10_goes_182 : decode cX10_goes 182 = .ok (.getfield 25, 3) := by decide +kernel
theorem dX10_goes_185 : decode cX10_goes 185 = .ok (.iconst 4, 1) := by decide +kernel
theorem dX10_goes_186 : decode cX10_goes 186 = .ok (.iload_n 1, 1) := by decide +kernel
theorem dX10_goes_187 : decode cX10_goes 187 = .ok (.imul, 1) := by decide +kernel
theorem dX10_goes_188 : decode cX10_goes 188 = .ok (.iload 5, 2) := by decide +kernel
theorem dX10_goes_190 : decode cX10_goes 190 = .ok (.iadd, 1) := by decide +kernel
theorem dX10_goes_191 : decode cX10_goes 191 = .ok (.iaload, 1) := by decide +kernel
theorem dX10_goes_192 : decode cX10_goes 192 = .ok (.iastore, 1) := by decide +kernel
theorem dX10_goes_193 : decode cX10_goes 193 = .ok (.goto 116, 3) := by decide +kernel
theorem dX10_goes_196 : decode cX10_goes 196 = .ok (.aload_n 0, 1) := by decide +kernel
theorem dX10_goes_197 : decode cX10_goes 197 = .ok (.getfield 47, 3) := by decide +kernel
theorem dX10_goes_200 : decode cX10_goes 200 = .ok (.iload 4, 2) := by decide +kernel
theorem dX10_goes_202 : decode cX10_goes 202 = .ok (.iaload, 1) := by decide +kernel
theorem dX10_goes_203 : decode cX10_goes 203 = .ok (.aload_n 0, 1) := by decide +kernel
theorem dX10_goes_204 : decode cX10_goes 204 = .ok (.getfield 47, 3) := by decide +kernel
theorem dX10_goes_207 : decode cX10_goes 207 = .ok (.iload 5, 2) := by decide +kernel
theorem dX10_goes_209 : decode cX10_goes 209 = .ok (.iaload, 1) := by decide +kernel
theorem dX10_goes_210 : decode cX10_goes 210 = .ok (.if_icmp .ge 7, 3) := by decide +kernel
theorem dX10_goes_213 : decode cX10_goes 213 = .ok (.iconst 1, 1) := by decide +kernel
theorem dX10_goes_214 : decode cX10_goes 214 = .ok (.goto 4, 3) := by decide +kernel
theorem dX10_goes_217 : decode cX10_goes 217 = .ok (.iconst 0, 1) := by decide +kernel
theorem dX10_goes_218 : decode cX10_goes 218 = .ok (.aload_n 0, 1) := by decide +kernel
theorem dX10_goes_219 : decode cX10_goes 219 = .ok (.getfield 112, 3) := by decide +kernel
theorem dX10_goes_222 : decode cX10_goes 222 = .ok (.iload_n 3, 1) := by decide +kernel
theorem dX10_goes_223 : decode cX10_goes 223 = .ok (.if_icmp .ne 7, 3) := by decide +kernel
theorem dX10_goes_226 : decode cX10_goes 226 = .ok (.iconst 1, 1) := by decide +kernel
theorem dX10_goes_227 : decode cX10_goes 227 = .ok (.goto 4, 3) := by decide +kernel
theorem dX10_goes_230 : decode cX10_goes 230 = .ok (.iconst 0, 1) := by decide +kernel
theorem dX10_goes_231 : decode cX10_goes 231 = .ok (.if_icmp .eq 7, 3) := by decide +kernel
theorem dX10_goes_234 : decode cX10_goes 234 = .ok (.iconst 1, 1) := by decide +kernel
theorem dX10_goes_235 : decode cX10_goes 235 = .ok (.goto 4, 3) := by decide +kernel
theorem dX10_goes_238 : decode cX10_goes 238 = .ok (.iconst 0, 1) := by decide +kernel
theorem dX10_goes_239 : decode cX10_goes 239 = .ok (.istore 7, 2) := by decide +kernel
theorem dX10_goes_241 : decode cX10_goes 241 = .ok (.aload_n 0, 1) := by decide +kernel
theorem dX10_goes_242 : decode cX10_goes 242 = .ok (.dup, 1) := by decide +kernel
theorem dX10_goes_243 : decode cX10_goes 243 = .ok (.getfield 112, 3) := by decide +kernel
theorem dX10_goes_246 : decode cX10_goes 246 = .ok (.iconst 1, 1) := by decide +kernel
theorem dX10_goes_247 : decode cX10_goes 247 = .ok (.iadd, 1) := by decide +kernel
theorem dX10_goes_248 : decode cX10_goes 248 = .ok (.putfield 112, 3) := by decide +kernel
theorem dX10_goes_251 : decode cX10_goes 251 = .ok (.iload 7, 2) := by decide +kernel
theorem dX10_goes_253 : decode cX10_goes 253 = .ok (.ifCond .eq 8, 3) := by decide +kernel
theorem dX10_goes_256 : decode cX10_goes 256 = .ok (.iload 6, 2) := by decide +kernel
theorem dX10_goes_258 : decode cX10_goes 258 = .ok (.goto 6, 3) := by decide +kernel
theorem dX10_goes_261 : decode cX10_goes 261 = .ok (.iload_n 2, 1) := by decide +kernel
theorem dX10_goes_262 : decode cX10_goes 262 = .ok (.iconst 1, 1) := by decide +kernel
theorem dX10_goes_263 : decode cX10_goes 263 = .ok (.iadd, 1) := by decide +kernel
theorem dX10_goes_264 : decode cX10_goes 264 = .ok (.ireturn, 1) := by decide +kernel
theorem dX10_goes_265 : decode cX10_goes 265 = .ok (.iload 6, 2) := by decide +kernel
theorem dX10_goes_267 : decode cX10_goes 267 = .ok (.ireturn, 1) := by decide +kernel
theorem dX10_goes_268 : decode cX10_goes 268 = .ok (.aload_n 0, 1) := by decide +kernel
theorem dX10_goes_269 : decode cX10_goes 269 = .ok (.getfield 41, 3) := by decide +kernel
theorem dX10_goes_272 : decode cX10_goes 272 = .ok (.aload_n 0, 1) := by decide +kernel
theorem dX10_goes_273 : decode cX10_goes 273 = .ok (.getfield 109, 3) := by decide +kernel
theorem dX10_goes_276 : decode cX10_goes 276 = .ok (.aload_n 0, 1) := by decide +kernel
theorem dX10_goes_277 : decode cX10_goes 277 = .ok (.getfield 47, 3) := by decide +kernel
theorem dX10_goes_280 : decode cX10_goes 280 = .ok (.iload 4, 2) := by decide +kernel
theorem dX10_goes_282 : decode cX10_goes 282 = .ok (.iaload, 1) := by decide +kernel
theorem dX10_goes_283 : decode cX10_goes 283 = .ok (.iastore, 1) := by decide +kernel
theorem dX10_goes_284 : decode cX10_goes 284 = .ok (.aload_n 0, 1) := by decide +kernel
theorem dX10_goes_285 : decode cX10_goes 285 = .ok (.getfield 44, 3) := by decide +kernel
theorem dX10_goes_288 : decode cX10_goes 288 = .ok (.aload_n 0, 1) := by decide +kernel
theorem dX10_goes_289 : decode cX10_goes 289 = .ok (.getfield 109, 3) := by decide +kernel
theorem dX10_goes_292 : decode cX10_goes 292 = .ok (.aload_n 0, 1) := by decide +kernel
theorem dX10_goes_293 : decode cX10_goes 293 = .ok (.getfield 106, 3) := by decide +kernel
theorem dX10_goes_296 : decode cX10_goes 296 = .ok (.iconst 1, 1) := by decide +kernel
theorem dX10_goes_297 : decode cX10_goes 297 = .ok (.isub, 1) := by decide +kernel
theorem dX10_goes_298 : decode cX10_goes 298 = .ok (.iastore, 1) := by decide +kernel
theorem dX10_goes_299 : decode cX10_goes 299 = .ok (.aload_n 0, 1) := by decide +kernel
theorem dX10_goes_300 : decode cX10_goes 300 = .ok (.dup, 1) := by decide +kernel
theorem dX10_goes_301 : decode cX10_goes 301 = .ok (.getfield 109, 3) := by decide +kernel
theorem dX10_goes_304 : decode cX10_goes 304 = .ok (.iconst 1, 1) := by decide +kernel
theorem dX10_goes_305 : decode cX10_goes 305 = .ok (.iadd, 1) := by decide +kernel
theorem dX10_goes_306 : decode cX10_goes 306 = .ok (.putfield 109, 3) := by decide +kernel
theorem dX10_goes_309 : decode cX10_goes 309 = .ok (.iload_n 2, 1) := by decide +kernel
theorem dX10_goes_310 : decode cX10_goes 310 = .ok (.iconst 1, 1) := by decide +kernel
theorem dX10_goes_311 : decode cX10_goes 311 = .ok (.iadd, 1) := by decide +kernel
theorem dX10_goes_312 : decode cX10_goes 312 = .ok (.ireturn, 1) := by decide +kernel
theorem dX10_isWell_0 : decode cX10_isWell 0 = .ok (.aload_n 0, 1) := by decide +kernel
theorem dX10_isWell_1 : decode cX10_isWell 1 = .ok (.getfield 118, 3) := by decide +kernel
theorem dX10_isWell_4 : decode cX10_isWell 4 = .ok (.ifCond .ne 20, 3) := by decide +kernel
theorem dX10_isWell_7 : decode cX10_isWell 7 = .ok (.aload_n 0, 1) := by decide +kernel
theorem dX10_isWell_8 : decode cX10_isWell 8 = .ok (.getfield 109, 3) := by decide +kernel
theorem dX10_isWell_11 : decode cX10_isWell 11 = .ok (.aload_n 0, 1) := by decide +kernel
theorem dX10_isWell_12 : decode cX10_isWell 12 = .ok (.getfield 31, 3) := by decide +kernel
theorem dX10_isWell_15 : decode cX10_isWell 15 = .ok (.iload_n 1, 1) := by decide +kernel
theorem dX10_isWell_16 : decode cX10_isWell 16 = .ok (.iaload, 1) := by decide +kernel
theorem dX10_isWell_17 : decode cX10_isWell 17 = .ok (.if_icmp .ne 7, 3) := by decide +kernel
theorem dX10_isWell_20 : decode cX10_isWell 20 = .ok (.iconst 1, 1) := by decide +kernel
theorem dX10_isWell_21 : decode cX10_isWell 21 = .ok (.goto 4, 3) := by decide +kernel
theorem dX10_isWell_24 : decode cX10_isWell 24 = .ok (.iconst 0, 1) := by decide +kernel
theorem dX10_isWell_25 : decode cX10_isWell 25 = .ok (.istore_n 2, 1) := by decide +kernel
theorem dX10_isWell_26 : decode cX10_isWell 26 = .ok (.iconst 0, 1) := by decide +kernel
theorem dX10_isWell_27 : decode cX10_isWell 27 = .ok (.istore_n 3, 1) := by decide +kernel
theorem dX10_isWell_28 : decode cX10_isWell 28 = .ok (.iload_n 3, 1) := by decide +kernel
theorem dX10_isWell_29 : decode cX10_isWell 29 = .ok (.aload_n 0, 1) := by decide +kernel
theorem dX10_isWell_30 : decode cX10_isWell 30 = .ok (.getfield 109, 3) := by decide +kernel
theorem dX10_isWell_33 : decode cX10_isWell 33 = .ok (.if_icmp .ge 39, 3) := by decide +kernel
theorem dX10_isWell_36 : decode cX10_isWell 36 = .ok (.iload_n 2, 1) := by decide +kernel
theorem dX10_isWell_37 : decode cX10_isWell 37 = .ok (.ifCond .eq 35, 3) := by decide +kernel
theorem dX10_isWell_40 : decode cX10_isWell 40 = .ok (.aload_n 0, 1) := by decide +kernel
theorem dX10_isWell_41 : decode cX10_isWell 41 = .ok (.getfield 41, 3) := by decide +kernel
theorem dX10_isWell_44 : decode cX10_isWell 44 = .ok (.iload_n 3, 1) := by decide +kernel
theorem dX10_isWell_45 : decode cX10_isWell 45 = .ok (.iaload, 1) := by decide +kernel
theorem dX10_isWell_46 : decode cX10_isWell 46 = .ok (.aload_n 0, 1) := by decide +kernel
theorem dX10_isWell_47 : decode cX10_isWell 47 = .ok (.getfield 28, 3) := by decide +kernel
theorem dX10_isWell_50 : decode cX10_isWell 50 = .ok (.bipush 6, 2) := by decide +kernel
theorem dX10_isWell_52 : decode cX10_isWell 52 = .ok (.iload_n 1, 1) := by decide +kernel
theorem dX10_isWell_53 : decode cX10_isWell 53 = .ok (.imul, 1) := by decide +kernel
theorem dX10_isWell_54 : decode cX10_isWell 54 = .ok (.iload_n 3, 1) := by decide +kernel
theorem dX10_isWell_55 : decode cX10_isWell 55 = .ok (.iadd, 1) := by decide +kernel
theorem dX10_isWell_56 : decode cX10_isWell 56 = .ok (.iaload, 1) := by decide +kernel
theorem dX10_isWell_57 : decode cX10_isWell 57 = .ok (.if_icmp .ne 7, 3) := by decide +kernel
theorem dX10_isWell_60 : decode cX10_isWell 60 = .ok (.iconst 1, 1) := by decide +kernel
theorem dX10_isWell_61 : decode cX10_isWell 61 = .ok (.goto 4, 3) := by decide +kernel
theorem dX10_isWell_64 : decode cX10_isWell 64 = .ok (.iconst 0, 1) := by decide +kernel
theorem dX10_isWell_65 : decode cX10_isWell 65 = .ok (.istore_n 2, 1) := by decide +kernel
theorem dX10_isWell_66 : decode cX10_isWell 66 = .ok (.iinc 3 1, 3) := by decide +kernel
theorem dX10_isWell_69 : decode cX10_isWell 69 = .ok (.goto (-41), 3) := by decide +kernel
theorem dX10_isWell_72 : decode cX10_isWell 72 = .ok (.iload_n 2, 1) := by decide +kernel
theorem dX10_isWell_73 : decode cX10_isWell 73 = .ok (.ireturn, 1) := by decide +kernel
set_option maxRecDepth 20000 in
theorem ggX10_passesOf_X10_runs : GoodIn wsX10_passesOf wsX10_runs := goodIn_r _ [5, 6, 7, 8, 9, 10, 11, 12, 13, 14, 15, 16, 4, 17, 18, 19, 20, 27, 28, 29, 30, 31, 32, 33, 34, 35, 36, 37, 38, 39, 40, 41, 42, 43, 44, 45, 46, 47, 48, 49, 50, 51, 52, 53, 54, 55, 56, 57, 58, 59] rfl (by decide +kernel)
set_option maxRecDepth 20000 in
theorem gX10_passesOf_X10_runs : GoodIn wsX10_passesOf (wsV RX10 122 RX10 yX10_runs wsX10_runs) := goodIn_app (goodIn_of _ (by decide +kernel)) ggX10_passesOf_X10_runs
set_option maxRecDepth 20000 in
theorem ggX10_passesOf_X10_isWell : GoodIn wsX10_passesOf wsX10_isWell := goodIn_r _ [24, 13, 8, 25, 19, 26, 27, 28, 29, 30, 31, 32, 33, 34, 35, 36, 37, 38, 39, 40, 41, 42, 43, 44, 45, 46, 47, 48, 49, 50, 51, 52, 53, 54, 55, 56, 57, 58, 59] rfl (by decide +kernel)
set_option maxRecDepth 20000 in
theorem gX10_passesOf_X10_isWell : GoodIn wsX10_passesOf (wsV RX10 126 RX10 yX10_isWell wsX10_isWell) := goodIn_app (goodIn_of _ (by decide +kernel)) ggX10_passesOf_X10_isWell
theorem dX10_passesOf_0 : decode cX10_passesOf 0 = .ok (.aload_n 0, 1) := by decide +kernel
theorem dX10_passesOf_1 : decode cX10_passesOf 1 = .ok (.iload_n 1, 1) := by decide +kernel
theorem dX10_passesOf_2 : decode cX10_passesOf 2 = .ok (.iconst (-1), 1) := by decide +kernel
theorem dX10_passesOf_3 : decode cX10_passesOf 3 = .ok (.iconst (-1), 1) := by decide +kernel
theorem dX10_passesOf_4 : decode cX10_passesOf 4 = .ok (.iconst 0, 1) := by decide +kernel
theorem dX10_passesOf_5 : decode cX10_passesOf 5 = .ok (.invokevirtual 122, 3) := by decide +kernel
theorem dX10_passesOf_8 : decode cX10_passesOf 8 = .ok (.aload_n 0, 1) := by decide +kernel
theorem dX10_passesOf_9 : decode cX10_passesOf 9 = .ok (.iload_n 1, 1) := by decide +kernel
theorem dX10_passesOf_10 : decode cX10_passesOf 10 = .ok (.invokevirtual 126, 3) := by decide +kernel
theorem dX10_passesOf_13 : decode cX10_passesOf 13 = .ok (.ireturn, 1) := by decide +kernel
set_option maxRecDepth 20000 in
theorem ggX10_last_X10_takes : GoodIn wsX10_last wsX10_takes := goodIn_r _ [6, 7, 8, 9, 10, 11, 12, 13, 14, 15, 16, 17, 18, 19, 20, 21, 22, 23, 24, 25, 26, 27, 28, 29, 30, 31, 32, 33, 34, 35, 36, 37, 38, 39, 40, 41, 42, 43] rfl (by decide +kernel)
set_option maxRecDepth 20000 in
theorem gX10_last_X10_takes : GoodIn wsX10_last (wsV RX10 129 RX10 yX10_takes wsX10_takes) := goodIn_app (goodIn_of _ (by decide +kernel)) ggX10_last_X10_takes
theorem dX10_last_0 : decode cX10_last 0 = .ok (.aload_n 0, 1) := by decide +kernel
theorem dX10_last_1 : decode cX10_last 1 = .ok (.aload_n 0, 1) := by decide +kernel
theorem dX10_last_2 : decode cX10_last 2 = .ok (.getfield 82, 3) := by decide +kernel
theorem dX10_last_5 : decode cX10_last 5 = .ok (.invokevirtual 129, 3) := by decide +kernel
theorem dX10_last_8 : decode cX10_last 8 = .ok (.return_, 1) := by decide +kernel
set_option maxRecDepth 20000 in
theorem ggX10_passes_X10_isTest : GoodIn wsX10_passes wsX10_isTest := goodIn_r _ [5, 6, 7, 8, 4, 9, 55, 56, 57, 58, 59, 60, 61, 62, 63, 64, 65, 66, 67, 68, 69, 70, 71, 72, 73, 74, 75, 76, 77, 78, 79, 80, 81, 82, 83, 84, 85, 86, 87] rfl (by decide +kernel)
set_option maxRecDepth 20000 in
theorem gX10_passes_X10_isTest : GoodIn wsX10_passes (wsV RX10 103 RX10 yX10_isTest wsX10_isTest) := goodIn_app (goodIn_of _ (by decide +kernel)) ggX10_passes_X10_isTest
set_option maxRecDepth 20000 in
theorem ggX10_passes_X10_refuse : GoodIn wsX10_passes wsX10_refuse := goodIn_r _ [13, 14, 55, 56, 57, 58, 59, 60, 61, 62, 63, 64, 65, 66, 67, 68, 69, 70, 71, 72, 73, 74, 75, 76, 77, 78, 79, 80, 81, 82, 83, 84, 85, 86, 87] rfl (by decide +kernel)
set_option maxRecDepth 20000 in
theorem gX10_passes_X10_refuse : GoodIn wsX10_passes (wsV RX10 88 RX10 yX10_refuse wsX10_refuse) := goodIn_app (goodIn_of _ (by decide +kernel)) ggX10_passes_X10_refuse
set_option maxRecDepth 20000 in
theorem ggX10_passes_X10_last : GoodIn wsX10_passes wsX10_last := goodIn_r _ [18, 19, 20, 21, 22, 4, 23, 24, 25, 26, 27, 55, 56, 57, 58, 59, 60, 61, 62, 63, 64, 65, 66, 67, 68, 69, 70, 71, 72, 73, 74, 75, 76, 77, 78, 79, 80, 81, 82, 83, 84, 85, 86, 87] rfl (by decide +kernel)
set_option maxRecDepth 20000 in
theorem gX10_passes_X10_last : GoodIn wsX10_passes (wsV RX10 133 RX10 yX10_last wsX10_last) := goodIn_app (goodIn_of _ (by decide +kernel)) ggX10_passes_X10_last
set_option maxRecDepth 20000 in
theorem ggX10_passes_X10_passesOf : GoodIn wsX10_passes wsX10_passesOf := goodIn_r _ [31, 32, 33, 34, 4, 35, 36, 37, 38, 39, 24, 40, 25, 41, 42, 43, 44, 45, 46, 47, 48, 49, 50, 51, 52, 53, 54, 55, 56, 57, 58, 59, 60, 61, 62, 63, 64, 65, 66, 67, 68, 69, 70, 71, 72, 73, 74, 75, 76, 77, 78, 79, 80, 81, 82, 83, 84, 85, 86, 87] rfl (by decide +kernel)
set_option maxRecDepth 20000 in
theorem gX10_passes_X10_passesOf : GoodIn wsX10_passes (wsV RX10 136 RX10 yX10_passesOf wsX10_passesOf) := goodIn_app (goodIn_of _ (by decide +kernel)) ggX10_passes_X10_passesOf
theorem dX10_passes_0 : decode cX10_passes 0 = .ok (.aload_n 0, 1) := by decide +kernel
theorem dX10_passes_1 : decode cX10_passes 1 = .ok (.iload_n 1, 1) := by decide +kernel
theorem dX10_passes_2 : decode cX10_passes 2 = .ok (.invokevirtual 103, 3) := by decide +kernel
theorem dX10_passes_5 : decode cX10_passes 5 = .ok (.ifCond .ne 9, 3) := by decide +kernel
theorem dX10_passes_8 : decode cX10_passes 8 = .ok (.aload_n 0, 1) := by decide +kernel
theorem dX10_passes_9 : decode cX10_passes 9 = .ok (.iconst (-1), 1) := by decide +kernel
theorem dX10_passes_10 : decode cX10_passes 10 = .ok (.invokevirtual 88, 3) := by decide +kernel
theorem dX10_passes_13 : decode cX10_passes 13 = .ok (.ireturn, 1) := by decide +kernel
theorem dX10_passes_14 : decode cX10_passes 14 = .ok (.aload_n 0, 1) := by decide +kernel
theorem dX10_passes_15 : decode cX10_passes 15 = .ok (.invokevirtual 133, 3) := by decide +kernel
theorem dX10_passes_18 : decode cX10_passes 18 = .ok (.aload_n 0, 1) := by decide +kernel
theorem dX10_passes_19 : decode cX10_passes 19 = .ok (.iload_n 1, 1) := by decide +kernel
theorem dX10_passes_20 : decode cX10_passes 20 = .ok (.invokevirtual 136, 3) := by decide +kernel
theorem dX10_passes_23 : decode cX10_passes 23 = .ok (.ifCond .eq 7, 3) := by decide +kernel
theorem dX10_passes_26 : decode cX10_passes 26 = .ok (.iconst 1, 1) := by decide +kernel
theorem dX10_passes_27 : decode cX10_passes 27 = .ok (.goto 4, 3) := by decide +kernel
theorem dX10_passes_30 : decode cX10_passes 30 = .ok (.iconst 0, 1) := by decide +kernel
theorem dX10_passes_31 : decode cX10_passes 31 = .ok (.ireturn, 1) := by decide +kernel
set_option maxRecDepth 20000 in
theorem ggX10_outs_X10_isTest : GoodIn wsX10_outs wsX10_isTest := goodIn_r _ [6, 7, 8, 9, 5, 10, 45, 46, 47, 48, 49, 50, 51, 52, 53, 54, 55, 56, 57, 58, 59, 60, 61, 62, 63, 64, 65, 66, 67, 68, 69, 70, 71, 72, 73, 74, 75, 76, 77] rfl (by decide +kernel)
set_option maxRecDepth 20000 in
theorem gX10_outs_X10_isTest : GoodIn wsX10_outs (wsV RX10 103 RX10 yX10_isTest wsX10_isTest) := goodIn_app (goodIn_of _ (by decide +kernel)) ggX10_outs_X10_isTest
set_option maxRecDepth 20000 in
theorem ggX10_outs_X10_refuse : GoodIn wsX10_outs wsX10_refuse := goodIn_r _ [14, 15, 45, 46, 47, 48, 49, 50, 51, 52, 53, 54, 55, 56, 57, 58, 59, 60, 61, 62, 63, 64, 65, 66, 67, 68, 69, 70, 71, 72, 73, 74, 75, 76, 77] rfl (by decide +kernel)
set_option maxRecDepth 20000 in
theorem gX10_outs_X10_refuse : GoodIn wsX10_outs (wsV RX10 88 RX10 yX10_refuse wsX10_refuse) := goodIn_app (goodIn_of _ (by decide +kernel)) ggX10_outs_X10_refuse
set_option maxRecDepth 20000 in
theorem ggX10_outs_X10_last : GoodIn wsX10_outs wsX10_last := goodIn_r _ [19, 20, 21, 22, 23, 5, 24, 25, 26, 27, 28, 45, 46, 47, 48, 49, 50, 51, 52, 53, 54, 55, 56, 57, 58, 59, 60, 61, 62, 63, 64, 65, 66, 67, 68, 69, 70, 71, 72, 73, 74, 75, 76, 77] rfl (by decide +kernel)
set_option maxRecDepth 20000 in
theorem gX10_outs_X10_last : GoodIn wsX10_outs (wsV RX10 133 RX10 yX10_last wsX10_last) := goodIn_app (goodIn_of _ (by decide +kernel)) ggX10_outs_X10_last
set_option maxRecDepth 20000 in
theorem ggX10_outs_X10_runs : GoodIn wsX10_outs wsX10_runs := goodIn_r _ [32, 33, 34, 1, 35, 25, 36, 26, 37, 38, 39, 40, 5, 41, 42, 43, 44, 45, 46, 47, 48, 49, 50, 51, 52, 53, 54, 55, 56, 57, 58, 59, 60, 61, 62, 63, 64, 65, 66, 67, 68, 69, 70, 71, 72, 73, 74, 75, 76, 77] rfl (by decide +kernel)
set_option maxRecDepth 20000 in
theorem gX10_outs_X10_runs : GoodIn wsX10_outs (wsV RX10 122 RX10 yX10_runs wsX10_runs) := goodIn_app (goodIn_of _ (by decide +kernel)) ggX10_outs_X10_runs
theorem dX10_outs_0 : decode cX10_outs 0 = .ok (.aload_n 0, 1) := by decide +kernel
theorem dX10_outs_1 : decode cX10_outs 1 = .ok (.iload_n 1, 1) := by decide +kernel
theorem dX10_outs_2 : decode cX10_outs 2 = .ok (.invokevirtual 103, 3) := by decide +kernel
theorem dX10_outs_5 : decode cX10_outs 5 = .ok (.ifCond .ne 9, 3) := by decide +kernel
theorem dX10_outs_8 : decode cX10_outs 8 = .ok (.aload_n 0, 1) := by decide +kernel
theorem dX10_outs_9 : decode cX10_outs 9 = .ok (.iconst (-1), 1) := by decide +kernel
theorem dX10_outs_10 : decode cX10_outs 10 = .ok (.invokevirtual 88, 3) := by decide +kernel
theorem dX10_outs_13 : decode cX10_outs 13 = .ok (.ireturn, 1) := by decide +kernel
theorem dX10_outs_14 : decode cX10_outs 14 = .ok (.aload_n 0, 1) := by decide +kernel
theorem dX10_outs_15 : decode cX10_outs 15 = .ok (.invokevirtual 133, 3) := by decide +kernel
theorem dX10_outs_18 : decode cX10_outs 18 = .ok (.aload_n 0, 1) := by decide +kernel
theorem dX10_outs_19 : decode cX10_outs 19 = .ok (.iload_n 1, 1) := by decide +kernel
theorem dX10_outs_20 : decode cX10_outs 20 = .ok (.iconst (-1), 1) := by decide +kernel
theorem dX10_outs_21 : decode cX10_outs 21 = .ok (.iconst (-1), 1) := by decide +kernel
theorem dX10_outs_22 : decode cX10_outs 22 = .ok (.iconst 0, 1) := by decide +kernel
theorem dX10_outs_23 : decode cX10_outs 23 = .ok (.invokevirtual 122, 3) := by decide +kernel
theorem dX10_outs_26 : decode cX10_outs 26 = .ok (.aload_n 0, 1) := by decide +kernel
theorem dX10_outs_27 : decode cX10_outs 27 = .ok (.getfield 109, 3) := by decide +kernel
theorem dX10_outs_30 : decode cX10_outs 30 = .ok (.ireturn, 1) := by decide +kernel
set_option maxRecDepth 20000 in
theorem ggX10_out_X10_isTest : GoodIn wsX10_out wsX10_isTest := goodIn_r _ [8, 9, 10, 11, 7, 12, 45, 46, 47, 48, 49, 50, 51, 52, 53, 54, 55, 56, 57, 58, 59, 60, 61, 62, 63, 64, 65, 66, 67, 68, 69, 70, 71, 72, 73, 74, 75, 76, 77] rfl (by decide +kernel)
set_option maxRecDepth 20000 in
theorem gX10_out_X10_isTest : GoodIn wsX10_out (wsV RX10 103 RX10 yX10_isTest wsX10_isTest) := goodIn_app (goodIn_of _ (by decide +kernel)) ggX10_out_X10_isTest
set_option maxRecDepth 20000 in
theorem ggX10_out_X10_raises : GoodIn wsX10_out wsX10_raises := goodIn_r _ [16, 1, 45, 46, 47, 48, 49, 50, 51, 52, 53, 54, 55, 56, 57, 58, 59, 60, 61, 62, 63, 64, 65, 66, 67, 68, 69, 70, 71, 72, 73, 74, 75, 76, 77] rfl (by decide +kernel)
set_option maxRecDepth 20000 in
theorem gX10_out_X10_raises : GoodIn wsX10_out (wsV RX10 139 RX10 yX10_raises wsX10_raises) := goodIn_app (goodIn_of _ (by decide +kernel)) ggX10_out_X10_raises
set_option maxRecDepth 20000 in
theorem ggX10_out_X10_last : GoodIn wsX10_out wsX10_last := goodIn_r _ [20, 21, 22, 23, 24, 7, 25, 26, 27, 28, 29, 45, 46, 47, 48, 49, 50, 51, 52, 53, 54, 55, 56, 57, 58, 59, 60, 61, 62, 63, 64, 65, 66, 67, 68, 69, 70, 71, 72, 73, 74, 75, 76, 77] rfl (by decide +kernel)
set_option maxRecDepth 20000 in
theorem gX10_out_X10_last : GoodIn wsX10_out (wsV RX10 133 RX10 yX10_last wsX10_last) := goodIn_app (goodIn_of _ (by decide +kernel)) ggX10_out_X10_last
set_option maxRecDepth 20000 in
theorem ggX10_out_X10_runs : GoodIn wsX10_out wsX10_runs := goodIn_r _ [33, 34, 35, 2, 36, 26, 37, 27, 38, 39, 40, 41, 7, 42, 43, 3, 44, 45, 46, 47, 48, 49, 50, 51, 52, 53, 54, 55, 56, 57, 58, 59, 60, 61, 62, 63, 64, 65, 66, 67, 68, 69, 70, 71, 72, 73, 74, 75, 76, 77] rfl (by decide +kernel)
set_option maxRecDepth 20000 in
theorem gX10_out_X10_runs : GoodIn wsX10_out (wsV RX10 122 RX10 yX10_runs wsX10_runs) := goodIn_app (goodIn_of _ (by decide +kernel)) ggX10_out_X10_runs
set_option maxRecDepth 20000 in
theorem ggX10_out_X10_isIn : GoodIn wsX10_out wsX10_isIn := goodIn_r _ [12] rfl (by decide +kernel)
set_option maxRecDepth 20000 in
theorem gX10_out_X10_isIn : GoodIn wsX10_out (va_wsS RX10 70 yX10_isIn wsX10_isIn) := goodIn_app (goodIn_of _ (by decide +kernel)) ggX10_out_X10_isIn
theorem dX10_out_0 : decode cX10_out 0 = .ok (.aload_n 0, 1) := by decide +kernel
theorem dX10_out_1 : decode cX10_out 1 = .ok (.iconst 0, 1) := by decide +kernel
theorem dX10_out_2 : decode cX10_out 2 = .ok (.putfield 66, 3) := by decide +kernel
theorem dX10_out_5 : decode cX10_out 5 = .ok (.aload_n 0, 1) := by decide +kernel
theorem dX10_out_6 : decode cX10_out 6 = .ok (.iload_n 1, 1) := by decide +kernel
theorem dX10_out_7 : decode cX10_out 7 = .ok (.invokevirtual 103, 3) := by decide +kernel
theorem dX10_out_10 : decode cX10_out 10 = .ok (.ifCond .ne 8, 3) := by decide +kernel
theorem dX10_out_13 : decode cX10_out 13 = .ok (.aload_n 0, 1) := by decide +kernel
theorem dX10_out_14 : decode cX10_out 14 = .ok (.invokevirtual 139, 3) := by decide +kernel
theorem dX10_out_17 : decode cX10_out 17 = .ok (.ireturn, 1) := by decide +kernel
theorem dX10_out_18 : decode cX10_out 18 = .ok (.aload_n 0, 1) := by decide +kernel
theorem dX10_out_19 : decode cX10_out 19 = .ok (.invokevirtual 133, 3) := by decide +kernel
theorem dX10_out_22 : decode cX10_out 22 = .ok (.aload_n 0, 1) := by decide +kernel
theorem dX10_out_23 : decode cX10_out 23 = .ok (.iload_n 1, 1) := by decide +kernel
theorem dX10_out_24 : decode cX10_out 24 = .ok (.iconst (-1), 1) := by decide +kernel
theorem dX10_out_25 : decode cX10_out 25 = .ok (.iconst (-1), 1) := by decide +kernel
theorem dX10_out_26 : decode cX10_out 26 = .ok (.iconst 0, 1) := by decide +kernel
theorem dX10_out_27 : decode cX10_out 27 = .ok (.invokevirtual 122, 3) := by decide +kernel
theorem dX10_out_30 : decode cX10_out 30 = .ok (.iload_n 2, 1) := by decide +kernel
theorem dX10_out_31 : decode cX10_out 31 = .ok (.aload_n 0, 1) := by decide +kernel
theorem dX10_out_32 : decode cX10_out 32 = .ok (.getfield 109, 3) := by decide +kernel
theorem dX10_out_35 : decode cX10_out 35 = .ok (.invokestatic 70, 3) := by decide +kernel
theorem dX10_out_38 : decode cX10_out 38 = .ok (.ifCond .eq 12, 3) := by decide +kernel
theorem dX10_out_41 : decode cX10_out 41 = .ok (.aload_n 0, 1) := by decide +kernel
theorem dX10_out_42 : decode cX10_out 42 = .ok (.getfield 41, 3) := by decide +kernel
theorem dX10_out_45 : decode cX10_out 45 = .ok (.iload_n 2, 1) := by decide +kernel
theorem dX10_out_46 : decode cX10_out 46 = .ok (.iaload, 1) := by decide +kernel
theorem dX10_out_47 : decode cX10_out 47 = .ok (.goto 7, 3) := by decide +kernel
theorem dX10_out_50 : decode cX10_out 50 = .ok (.aload_n 0, 1) := by decide +kernel
theorem dX10_out_51 : decode cX10_out 51 = .ok (.invokevirtual 139, 3) := by decide +kernel
theorem dX10_out_54 : decode cX10_out 54 = .ok (.ireturn, 1) := by decide +kernel
set_option maxRecDepth 20000 in
theorem ggX10_steps_X10_isTest : GoodIn wsX10_steps wsX10_isTest := goodIn_r _ [6, 7, 8, 9, 5, 10, 45, 46, 47, 48, 49, 50, 51, 52, 53, 54, 55, 56, 57, 58, 59, 60, 61, 62, 63, 64, 65, 66, 67, 68, 69, 70, 71, 72, 73, 74, 75, 76, 77] rfl (by decide +kernel)
set_option maxRecDepth 20000 in
theorem gX10_steps_X10_isTest : GoodIn wsX10_steps (wsV RX10 103 RX10 yX10_isTest wsX10_isTest) := goodIn_app (goodIn_of _ (by decide +kernel)) ggX10_steps_X10_isTest
set_option maxRecDepth 20000 in
theorem ggX10_steps_X10_refuse : GoodIn wsX10_steps wsX10_refuse := goodIn_r _ [14, 15, 45, 46, 47, 48, 49, 50, 51, 52, 53, 54, 55, 56, 57, 58, 59, 60, 61, 62, 63, 64, 65, 66, 67, 68, 69, 70, 71, 72, 73, 74, 75, 76, 77] rfl (by decide +kernel)
set_option maxRecDepth 20000 in
theorem gX10_steps_X10_refuse : GoodIn wsX10_steps (wsV RX10 88 RX10 yX10_refuse wsX10_refuse) := goodIn_app (goodIn_of _ (by decide +kernel)) ggX10_steps_X10_refuse
set_option maxRecDepth 20000 in
theorem ggX10_steps_X10_last : GoodIn wsX10_steps wsX10_last := goodIn_r _ [19, 20, 21, 22, 23, 5, 24, 25, 26, 27, 28, 45, 46, 47, 48, 49, 50, 51, 52, 53, 54, 55, 56, 57, 58, 59, 60, 61, 62, 63, 64, 65, 66, 67, 68, 69, 70, 71, 72, 73, 74, 75, 76, 77] rfl (by decide +kernel)
set_option maxRecDepth 20000 in
theorem gX10_steps_X10_last : GoodIn wsX10_steps (wsV RX10 133 RX10 yX10_last wsX10_last) := goodIn_app (goodIn_of _ (by decide +kernel)) ggX10_steps_X10_last
set_option maxRecDepth 20000 in
theorem ggX10_steps_X10_runs : GoodIn wsX10_steps wsX10_runs := goodIn_r _ [32, 33, 1, 34, 35, 25, 36, 26, 37, 38, 39, 40, 5, 41, 42, 43, 44, 45, 46, 47, 48, 49, 50, 51, 52, 53, 54, 55, 56, 57, 58, 59, 60, 61, 62, 63, 64, 65, 66, 67, 68, 69, 70, 71, 72, 73, 74, 75, 76, 77] rfl (by decide +kernel)
set_option maxRecDepth 20000 in
theorem gX10_steps_X10_runs : GoodIn wsX10_steps (wsV RX10 122 RX10 yX10_runs wsX10_runs) := goodIn_app (goodIn_of _ (by decide +kernel)) ggX10_steps_X10_runs
theorem dX10_steps_0 : decode cX10_steps 0 = .ok (.aload_n 0, 1) := by decide +kernel
theorem dX10_steps_1 : decode cX10_steps 1 = .ok (.iload_n 1, 1) := by decide +kernel
theorem dX10_steps_2 : decode cX10_steps 2 = .ok (.invokevirtual 103, 3) := by decide +kernel
theorem dX10_steps_5 : decode cX10_steps 5 = .ok (.ifCond .ne 9, 3) := by decide +kernel
theorem dX10_steps_8 : decode cX10_steps 8 = .ok (.aload_n 0, 1) := by decide +kernel
theorem dX10_steps_9 : decode cX10_steps 9 = .ok (.iconst (-1), 1) := by decide +kernel
theorem dX10_steps_10 : decode cX10_steps 10 = .ok (.invokevirtual 88, 3) := by decide +kernel
theorem dX10_steps_13 : decode cX10_steps 13 = .ok (.ireturn, 1) := by decide +kernel
theorem dX10_steps_14 : decode cX10_steps 14 = .ok (.aload_n 0, 1) := by decide +kernel
theorem dX10_steps_15 : decode cX10_steps 15 = .ok (.invokevirtual 133, 3) := by decide +kernel
theorem dX10_steps_18 : decode cX10_steps 18 = .ok (.aload_n 0, 1) := by decide +kernel
theorem dX10_steps_19 : decode cX10_steps 19 = .ok (.iload_n 1, 1) := by decide +kernel
theorem dX10_steps_20 : decode cX10_steps 20 = .ok (.iconst (-1), 1) := by decide +kernel
theorem dX10_steps_21 : decode cX10_steps 21 = .ok (.iconst (-1), 1) := by decide +kernel
theorem dX10_steps_22 : decode cX10_steps 22 = .ok (.iconst 0, 1) := by decide +kernel
theorem dX10_steps_23 : decode cX10_steps 23 = .ok (.invokevirtual 122, 3) := by decide +kernel
theorem dX10_steps_26 : decode cX10_steps 26 = .ok (.aload_n 0, 1) := by decide +kernel
theorem dX10_steps_27 : decode cX10_steps 27 = .ok (.getfield 106, 3) := by decide +kernel
theorem dX10_steps_30 : decode cX10_steps 30 = .ok (.ireturn, 1) := by decide +kernel
set_option maxRecDepth 20000 in
theorem ggX10_step_X10_isTest : GoodIn wsX10_step wsX10_isTest := goodIn_r _ [7, 8, 9, 10, 6, 11, 45, 46, 47, 48, 49, 50, 51, 52, 53, 54, 55, 56, 57, 58, 59, 60, 61, 62, 63, 64, 65, 66, 67, 68, 69, 70, 71, 72, 73, 74, 75, 76, 77] rfl (by decide +kernel)
set_option maxRecDepth 20000 in
theorem gX10_step_X10_isTest : GoodIn wsX10_step (wsV RX10 103 RX10 yX10_isTest wsX10_isTest) := goodIn_app (goodIn_of _ (by decide +kernel)) ggX10_step_X10_isTest
set_option maxRecDepth 20000 in
theorem ggX10_step_X10_refuse : GoodIn wsX10_step wsX10_refuse := goodIn_r _ [15, 16, 45, 46, 47, 48, 49, 50, 51, 52, 53, 54, 55, 56, 57, 58, 59, 60, 61, 62, 63, 64, 65, 66, 67, 68, 69, 70, 71, 72, 73, 74, 75, 76, 77] rfl (by decide +kernel)
set_option maxRecDepth 20000 in
theorem gX10_step_X10_refuse : GoodIn wsX10_step (wsV RX10 88 RX10 yX10_refuse wsX10_refuse) := goodIn_app (goodIn_of _ (by decide +kernel)) ggX10_step_X10_refuse
set_option maxRecDepth 20000 in
theorem ggX10_step_X10_last : GoodIn wsX10_step wsX10_last := goodIn_r _ [20, 21, 22, 23, 24, 6, 25, 26, 27, 28, 29, 45, 46, 47, 48, 49, 50, 51, 52, 53, 54, 55, 56, 57, 58, 59, 60, 61, 62, 63, 64, 65, 66, 67, 68, 69, 70, 71, 72, 73, 74, 75, 76, 77] rfl (by decide +kernel)
set_option maxRecDepth 20000 in
theorem gX10_step_X10_last : GoodIn wsX10_step (wsV RX10 133 RX10 yX10_last wsX10_last) := goodIn_app (goodIn_of _ (by decide +kernel)) ggX10_step_X10_last
set_option maxRecDepth 20000 in
theorem ggX10_step_X10_runs : GoodIn wsX10_step wsX10_runs := goodIn_r _ [33, 34, 1, 35, 36, 26, 2, 27, 37, 38, 39, 40, 6, 41, 42, 43, 44, 45, 46, 47, 48, 49, 50, 51, 52, 53, 54, 55, 56, 57, 58, 59, 60, 61, 62, 63, 64, 65, 66, 67, 68, 69, 70, 71, 72, 73, 74, 75, 76, 77] rfl (by decide +kernel)
set_option maxRecDepth 20000 in
theorem gX10_step_X10_runs : GoodIn wsX10_step (wsV RX10 122 RX10 yX10_runs wsX10_runs) := goodIn_app (goodIn_of _ (by decide +kernel)) ggX10_step_X10_runs
set_option maxRecDepth 20000 in
theorem ggX10_step_X10_isIn : GoodIn wsX10_step wsX10_isIn := goodIn_r _ [11] rfl (by decide +kernel)
set_option maxRecDepth 20000 in
theorem gX10_step_X10_isIn : GoodIn wsX10_step (va_wsS RX10 70 yX10_isIn wsX10_isIn) := goodIn_app (goodIn_of _ (by decide +kernel)) ggX10_step_X10_isIn
theorem dX10_step_0 : decode cX10_step 0 = .ok (.aload_n 0, 1) := by decide +kernel
theorem dX10_step_1 : decode cX10_step 1 = .ok (.iload_n 1, 1) := by decide +kernel
theorem dX10_step_2 : decode cX10_step 2 = .ok (.invokevirtual 103, 3) := by decide +kernel
theorem dX10_step_5 : decode cX10_step 5 = .ok (.ifCond .ne 9, 3) := by decide +kernel
theorem dX10_step_8 : decode cX10_step 8 = .ok (.aload_n 0, 1) := by decide +kernel
theorem dX10_step_9 : decode cX10_step 9 = .ok (.iconst (-1), 1) := by decide +kernel
theorem dX10_step_10 : decode cX10_step 10 = .ok (.invokevirtual 88, 3) := by decide +kernel
theorem dX10_step_13 : decode cX10_step 13 = .ok (.ireturn, 1) := by decide +kernel
theorem dX10_step_14 : decode cX10_step 14 = .ok (.aload_n 0, 1) := by decide +kernel
theorem dX10_step_15 : decode cX10_step 15 = .ok (.invokevirtual 133, 3) := by decide +kernel
theorem dX10_step_18 : decode cX10_step 18 = .ok (.aload_n 0, 1) := by decide +kernel
theorem dX10_step_19 : decode cX10_step 19 = .ok (.iload_n 1, 1) := by decide +kernel
theorem dX10_step_20 : decode cX10_step 20 = .ok (.iconst (-1), 1) := by decide +kernel
theorem dX10_step_21 : decode cX10_step 21 = .ok (.iconst (-1), 1) := by decide +kernel
theorem dX10_step_22 : decode cX10_step 22 = .ok (.iconst 0, 1) := by decide +kernel
theorem dX10_step_23 : decode cX10_step 23 = .ok (.invokevirtual 122, 3) := by decide +kernel
theorem dX10_step_26 : decode cX10_step 26 = .ok (.iload_n 2, 1) := by decide +kernel
theorem dX10_step_27 : decode cX10_step 27 = .ok (.aload_n 0, 1) := by decide +kernel
theorem dX10_step_28 : decode cX10_step 28 = .ok (.getfield 106, 3) := by decide +kernel
theorem dX10_step_31 : decode cX10_step 31 = .ok (.invokestatic 70, 3) := by decide +kernel
theorem dX10_step_34 : decode cX10_step 34 = .ok (.ifCond .eq 12, 3) := by decide +kernel
theorem dX10_step_37 : decode cX10_step 37 = .ok (.aload_n 0, 1) := by decide +kernel
theorem dX10_step_38 : decode cX10_step 38 = .ok (.getfield 38, 3) := by decide +kernel
theorem dX10_step_41 : decode cX10_step 41 = .ok (.iload_n 2, 1) := by decide +kernel
theorem dX10_step_42 : decode cX10_step 42 = .ok (.iaload, 1) := by decide +kernel
theorem dX10_step_43 : decode cX10_step 43 = .ok (.goto 5, 3) := by decide +kernel
theorem dX10_step_46 : decode cX10_step 46 = .ok (.bipush (-9), 2) := by decide +kernel
theorem dX10_step_48 : decode cX10_step 48 = .ok (.ireturn, 1) := by decide +kernel
set_option maxRecDepth 20000 in
theorem ggX10_met_X10_isTest : GoodIn wsX10_met wsX10_isTest := goodIn_r _ [7, 8, 9, 10, 6, 11, 49, 50, 51, 52, 53, 54, 55, 56, 57, 58, 59, 60, 61, 62, 63, 64, 65, 66, 67, 68, 69, 70, 71, 72, 73, 74, 75, 76, 77, 78, 79, 80, 81] rfl (by decide +kernel)
set_option maxRecDepth 20000 in
theorem gX10_met_X10_isTest : GoodIn wsX10_met (wsV RX10 103 RX10 yX10_isTest wsX10_isTest) := goodIn_app (goodIn_of _ (by decide +kernel)) ggX10_met_X10_isTest
set_option maxRecDepth 20000 in
theorem ggX10_met_X10_isLine : GoodIn wsX10_met wsX10_isLine := goodIn_r _ [15, 16, 9, 10, 6, 11, 49, 50, 51, 52, 53, 54, 55, 56, 57, 58, 59, 60, 61, 62, 63, 64, 65, 66, 67, 68, 69, 70, 71, 72, 73, 74, 75, 76, 77, 78, 79, 80, 81] rfl (by decide +kernel)
set_option maxRecDepth 20000 in
theorem gX10_met_X10_isLine : GoodIn wsX10_met (wsV RX10 96 RX10 yX10_isLine wsX10_isLine) := goodIn_app (goodIn_of _ (by decide +kernel)) ggX10_met_X10_isLine
set_option maxRecDepth 20000 in
theorem ggX10_met_X10_refuse : GoodIn wsX10_met wsX10_refuse := goodIn_r _ [20, 21, 49, 50, 51, 52, 53, 54, 55, 56, 57, 58, 59, 60, 61, 62, 63, 64, 65, 66, 67, 68, 69, 70, 71, 72, 73, 74, 75, 76, 77, 78, 79, 80, 81] rfl (by decide +kernel)
set_option maxRecDepth 20000 in
theorem gX10_met_X10_refuse : GoodIn wsX10_met (wsV RX10 88 RX10 yX10_refuse wsX10_refuse) := goodIn_app (goodIn_of _ (by decide +kernel)) ggX10_met_X10_refuse
set_option maxRecDepth 20000 in
theorem ggX10_met_X10_last : GoodIn wsX10_met wsX10_last := goodIn_r _ [25, 26, 27, 28, 29, 6, 30, 16, 31, 32, 33, 49, 50, 51, 52, 53, 54, 55, 56, 57, 58, 59, 60, 61, 62, 63, 64, 65, 66, 67, 68, 69, 70, 71, 72, 73, 74, 75, 76, 77, 78, 79, 80, 81] rfl (by decide +kernel)
set_option maxRecDepth 20000 in
theorem gX10_met_X10_last : GoodIn wsX10_met (wsV RX10 133 RX10 yX10_last wsX10_last) := goodIn_app (goodIn_of _ (by decide +kernel)) ggX10_met_X10_last
set_option maxRecDepth 20000 in
theorem ggX10_met_X10_runs : GoodIn wsX10_met wsX10_runs := goodIn_r _ [37, 38, 1, 39, 40, 16, 2, 31, 41, 42, 43, 44, 6, 45, 46, 47, 48, 49, 50, 51, 52, 53, 54, 55, 56, 57, 58, 59, 60, 61, 62, 63, 64, 65, 66, 67, 68, 69, 70, 71, 72, 73, 74, 75, 76, 77, 78, 79, 80, 81] rfl (by decide +kernel)
set_option maxRecDepth 20000 in
theorem gX10_met_X10_runs : GoodIn wsX10_met (wsV RX10 122 RX10 yX10_runs wsX10_runs) := goodIn_app (goodIn_of _ (by decide +kernel)) ggX10_met_X10_runs
theorem dX10_met_0 : decode cX10_met 0 = .ok (.aload_n 0, 1) := by decide +kernel
theorem dX10_met_1 : decode cX10_met 1 = .ok (.iload_n 1, 1) := by decide +kernel
theorem dX10_met_2 : decode cX10_met 2 = .ok (.invokevirtual 103, 3) := by decide +kernel
theorem dX10_met_5 : decode cX10_met 5 = .ok (.ifCond .eq 11, 3) := by decide +kernel
theorem dX10_met_8 : decode cX10_met 8 = .ok (.aload_n 0, 1) := by decide +kernel
theorem dX10_met_9 : decode cX10_met 9 = .ok (.iload_n 2, 1) := by decide +kernel
theorem dX10_met_10 : decode cX10_met 10 = .ok (.invokevirtual 96, 3) := by decide +kernel
theorem dX10_met_13 : decode cX10_met 13 = .ok (.ifCond .ne 9, 3) := by decide +kernel
theorem dX10_met_16 : decode cX10_met 16 = .ok (.aload_n 0, 1) := by decide +kernel
theorem dX10_met_17 : decode cX10_met 17 = .ok (.iconst (-1), 1) := by decide +kernel
theorem dX10_met_18 : decode cX10_met 18 = .ok (.invokevirtual 88, 3) := by decide +kernel
theorem dX10_met_21 : decode cX10_met 21 = .ok (.ireturn, 1) := by decide +kernel
theorem dX10_met_22 : decode cX10_met 22 = .ok (.aload_n 0, 1) := by decide +kernel
theorem dX10_met_23 : decode cX10_met 23 = .ok (.invokevirtual 133, 3) := by decide +kernel
theorem dX10_met_26 : decode cX10_met 26 = .ok (.aload_n 0, 1) := by decide +kernel
theorem dX10_met_27 : decode cX10_met 27 = .ok (.iload_n 1, 1) := by decide +kernel
theorem dX10_met_28 : decode cX10_met 28 = .ok (.iconst (-1), 1) := by decide +kernel
theorem dX10_met_29 : decode cX10_met 29 = .ok (.iconst (-1), 1) := by decide +kernel
theorem dX10_met_30 : decode cX10_met 30 = .ok (.iconst 0, 1) := by decide +kernel
theorem dX10_met_31 : decode cX10_met 31 = .ok (.invokevirtual 122, 3) := by decide +kernel
theorem dX10_met_34 : decode cX10_met 34 = .ok (.iconst 0, 1) := by decide +kernel
theorem dX10_met_35 : decode cX10_met 35 = .ok (.istore_n 3, 1) := by decide +kernel
theorem dX10_met_36 : decode cX10_met 36 = .ok (.iconst 0, 1) := by decide +kernel
theorem dX10_met_37 : decode cX10_met 37 = .ok (.istore 4, 2) := by decide +kernel
theorem dX10_met_39 : decode cX10_met 39 = .ok (.iload 4, 2) := by decide +kernel
theorem dX10_met_41 : decode cX10_met 41 = .ok (.aload_n 0, 1) := by decide +kernel
theorem dX10_met_42 : decode cX10_met 42 = .ok (.getfield 106, 3) := by decide +kernel
theorem dX10_met_45 : decode cX10_met 45 = .ok (.if_icmp .ge 28, 3) := by decide +kernel
theorem dX10_met_48 : decode cX10_met 48 = .ok (.iload_n 3, 1) := by decide +kernel
theorem dX10_met_49 : decode cX10_met 49 = .ok (.aload_n 0, 1) := by decide +kernel
theorem dX10_met_50 : decode cX10_met 50 = .ok (.getfield 38, 3) := by decide +kernel
theorem dX10_met_53 : decode cX10_met 53 = .ok (.iload 4, 2) := by decide +kernel
theorem dX10_met_55 : decode cX10_met 55 = .ok (.iaload, 1) := by decide +kernel
theorem dX10_met_56 : decode cX10_met 56 = .ok (.iload_n 2, 1) := by decide +kernel
theorem dX10_met_57 : decode cX10_met 57 = .ok (.if_icmp .ne 7, 3) := by decide +kernel
theorem dX10_met_60 : decode cX10_met 60 = .ok (.iconst 1, 1) := by decide +kernel
theorem dX10_met_61 : decode cX10_met 61 = .ok (.goto 4, 3) := by decide +kernel
theorem dX10_met_64 : decode cX10_met 64 = .ok (.iconst 0, 1) := by decide +kernel
theorem dX10_met_65 : decode cX10_met 65 = .ok (.iadd, 1) := by decide +kernel
theorem dX10_met_66 : decode cX10_met 66 = .ok (.istore_n 3, 1) := by decide +kernel
theorem dX10_met_67 : decode cX10_met 67 = .ok (.iinc 4 1, 3) := by decide +kernel
theorem dX10_met_70 : decode cX10_met 70 = .ok (.goto (-31), 3) := by decide +kernel
theorem dX10_met_73 : decode cX10_met 73 = .ok (.iload_n 3, 1) := by decide +kernel
theorem dX10_met_74 : decode cX10_met 74 = .ok (.ireturn, 1) := by decide +kernel
set_option maxRecDepth 20000 in
theorem ggX10_gathers_X10_last : GoodIn wsX10_gathers wsX10_last := goodIn_r _ [15, 16, 17, 18, 19, 14, 20, 21, 22, 23, 24, 49, 50, 51, 52, 53, 54, 55, 56, 57, 58, 59, 60, 61, 62, 63, 64, 65, 66, 67, 68, 69, 70, 71, 72, 73, 74, 75, 76, 77, 78, 79, 80, 81] rfl (by decide +kernel)
set_option maxRecDepth 20000 in
theorem gX10_gathers_X10_last : GoodIn wsX10_gathers (wsV RX10 133 RX10 yX10_last wsX10_last) := goodIn_app (goodIn_of _ (by decide +kernel)) ggX10_gathers_X10_last
set_option maxRecDepth 20000 in
theorem ggX10_gathers_X10_passesOf : GoodIn wsX10_gathers wsX10_passesOf := goodIn_r _ [28, 29, 30, 31, 14, 32, 33, 7, 34, 35, 21, 8, 22, 9, 36, 37, 38, 39, 40, 41, 42, 43, 44, 45, 46, 47, 48, 49, 50, 51, 52, 53, 54, 55, 56, 57, 58, 59, 60, 61, 62, 63, 64, 65, 66, 67, 68, 69, 70, 71, 72, 73, 74, 75, 76, 77, 78, 79, 80, 81] rfl (by decide +kernel)
set_option maxRecDepth 20000 in
theorem gX10_gathers_X10_passesOf : GoodIn wsX10_gathers (wsV RX10 136 RX10 yX10_passesOf wsX10_passesOf) := goodIn_app (goodIn_of _ (by decide +kernel)) ggX10_gathers_X10_passesOf
theorem dX10_gathers_0 : decode cX10_gathers 0 = .ok (.aload_n 0, 1) := by decide +kernel
theorem dX10_gathers_1 : decode cX10_gathers 1 = .ok (.invokevirtual 133, 3) := by decide +kernel
theorem dX10_gathers_4 : decode cX10_gathers 4 = .ok (.aload_n 0, 1) := by decide +kernel
theorem dX10_gathers_5 : decode cX10_gathers 5 = .ok (.iconst 0, 1) := by decide +kernel
theorem dX10_gathers_6 : decode cX10_gathers 6 = .ok (.putfield 143, 3) := by decide +kernel
theorem dX10_gathers_9 : decode cX10_gathers 9 = .ok (.aload_n 0, 1) := by decide +kernel
theorem dX10_gathers_10 : decode cX10_gathers 10 = .ok (.iconst 0, 1) := by decide +kernel
theorem dX10_gathers_11 : decode cX10_gathers 11 = .ok (.putfield 146, 3) := by decide +kernel
theorem dX10_gathers_14 : decode cX10_gathers 14 = .ok (.aload_n 0, 1) := by decide +kernel
theorem dX10_gathers_15 : decode cX10_gathers 15 = .ok (.iconst 0, 1) := by decide +kernel
theorem dX10_gathers_16 : decode cX10_gathers 16 = .ok (.putfield 149, 3) := by decide +kernel
theorem dX10_gathers_19 : decode cX10_gathers 19 = .ok (.iconst 0, 1) := by decide +kernel
theorem dX10_gathers_20 : decode cX10_gathers 20 = .ok (.istore_n 1, 1) := by decide +kernel
theorem dX10_gathers_21 : decode cX10_gathers 21 = .ok (.iload_n 1, 1) := by decide +kernel
theorem dX10_gathers_22 : decode cX10_gathers 22 = .ok (.aload_n 0, 1) := by decide +kernel
theorem dX10_gathers_23 : decode cX10_gathers 23 = .ok (.getfield 100, 3) := by decide +kernel
theorem dX10_gathers_26 : decode cX10_gathers 26 = .ok (.if_icmp .ge 145, 3) := by decide +kernel
theorem dX10_gathers_29 : decode cX10_gathers 29 = .ok (.aload_n 0, 1) := by decide +kernel
theorem dX10_gathers_30 : decode cX10_gathers 30 = .ok (.getfield 53, 3) := by decide +kernel
theorem dX10_gathers_33 : decode cX10_gathers 33 = .ok (.iload_n 1, 1) := by decide +kernel
theorem dX10_gathers_34 : decode cX10_gathers 34 = .ok (.aload_n 0, 1) := by decide +kernel
theorem dX10_gathers_35 : decode cX10_gathers 35 = .ok (.iload_n 1, 1) := by decide +kernel
theorem dX10_gathers_36 : decode cX10_gathers 36 = .ok (.invokevirtual 136, 3) := by decide +kernel
theorem dX10_gathers_39 : decode cX10_gathers 39 = .ok (.bastore, 1) := by decide +kernel
theorem dX10_gathers_40 : decode cX10_gathers 40 = .ok (.aload_n 0, 1) := by decide +kernel
theorem dX10_gathers_41 : decode cX10_gathers 41 = .ok (.getfield 50, 3) := by decide +kernel
theorem dX10_gathers_44 : decode cX10_gathers 44 = .ok (.iload_n 1, 1) := by decide +kernel
theorem dX10_gathers_45 : decode cX10_gathers 45 = .ok (.iconst 0, 1) := by decide +kernel
theorem dX10_gathers_46 : decode cX10_gathers 46 = .ok (.iastore, 1) := by decide +kernel
theorem dX10_gathers_47 : decode cX10_gathers 47 = .ok (.iconst 0, 1) := by decide +kernel
theorem dX10_gathers_48 : decode cX10_gathers 48 = .ok (.istore_n 2, 1) := by decide +kernel
theorem dX10_gathers_49 : decode cX10_gathers 49 = .ok (.iload_n 2, 1) := by decide +kernel
theorem dX10_gathers_50 : decode cX10_gathers 50 = .ok (.aload_n 0, 1) := by decide +kernel
theorem dX10_gathers_51 : decode cX10_gathers 51 = .ok (.getfield 106, 3) := by decide +kernel
theorem dX10_gathers_54 : decode cX10_gathers 54 = .ok (.if_icmp .ge 26, 3) := by decide +kernel
theorem dX10_gathers_57 : decode cX10_gathers 57 = .ok (.aload_n 0, 1) := by decide +kernel
theorem dX10_gathers_58 : decode cX10_gathers 58 = .ok (.getfield 50, 3) := by decide +kernel
theorem dX10_gathers_61 : decode cX10_gathers 61 = .ok (.iload_n 1, 1) := by decide +kernel
theorem dX10_gathers_62 : decode cX10_gathers 62 = .ok (.dup2, 1) := by decide +kernel
theorem dX10_gathers_63 : decode cX10_gathers 63 = .ok (.iaload, 1) := by decide +kernel
theorem dX10_gathers_64 : decode cX10_gathers 64 = .ok (.iconst 1, 1) := by decide +kernel
theorem dX10_gathers_65 : decode cX10_gathers 65 = .ok (.aload_n 0, 1) := by decide +kernel
theorem dX10_gathers_66 : decode cX10_gathers 66 = .ok (.getfield 38, 3) := by decide +kernel
theorem dX10_gathers_69 : decode cX10_gathers 69 = .ok (.iload_n 2, 1) := by decide +kernel
theorem dX10_gathers_70 : decode cX10_gathers 70 = .ok (.iaload, 1) := by decide +kernel
theorem dX10_gathers_71 : decode cX10_gathers 71 = .ok (.ishl, 1) := by decide +kernel
theorem dX10_gathers_72 : decode cX10_gathers 72 = .ok (.ior, 1) := by decide +kernel
theorem dX10_gathers_73 : decode cX10_gathers 73 = .ok (.iastore, 1) := by decide +kernel
theorem dX10_gathers_74 : decode cX10_gathers 74 = .ok (.iinc 2 1, 3) := by decide +kernel
theorem dX10_gathers_77 : decode cX10_gathers 77 = .ok (.goto (-28), 3) := by decide +kernel
theorem dX10_gathers_80 : decode cX10_gathers 80 = .ok (.aload_n 0, 1) := by decide +kernel
theorem dX10_gathers_81 : decode cX10_gathers 81 = .ok (.dup, 1) := by decide +kernel
theorem dX10_gathers_82 : decode cX10_gathers 82 = .ok (.getfield 149, 3) := by decide +kernel
theorem dX10_gathers_85 : decode cX10_gathers 85 = .ok (.aload_n 0, 1) := by decide +kernel
theorem dX10_gathers_86 : decode cX10_gathers 86 = .ok (.getfield 118, 3) := by decide +kernel
theorem dX10_gathers_89 : decode cX10_gathers 89 = .ok (.ifCond .eq 7, 3) := by decide +kernel
theorem dX10_gathers_92 : decode cX10_gathers 92 = .ok (.iconst 1, 1) := by decide +kernel
theorem dX10_gathers_93 : decode cX10_gathers 93 = .ok (.goto 4, 3) := by decide +kernel
theorem dX10_gathers_96 : decode cX10_gathers 96 = .ok (.iconst 0, 1) := by decide +kernel
theorem dX10_gathers_97 : decode cX10_gathers 97 = .ok (.iadd, 1) := by decide +kernel
theorem dX10_gathers_98 : decode cX10_gathers 98 = .ok (.putfield 149, 3) := by decide +kernel
theorem dX10_gathers_101 : decode cX10_gathers 101 = .ok (.aload_n 0, 1) := by decide +kernel
theorem dX10_gathers_102 : decode cX10_gathers 102 = .ok (.dup, 1) := by decide +kernel
theorem dX10_gathers_103 : decode cX10_gathers 103 = .ok (.getfield 143, 3) := by decide +kernel
theorem dX10_gathers_106 : decode cX10_gathers 106 = .ok (.aload_n 0, 1) := by decide +kernel
theorem dX10_gathers_107 : decode cX10_gathers 107 = .ok (.getfield 34, 3) := by decide +kernel
theorem dX10_gathers_110 : decode cX10_gathers 110 = .ok (.iload_n 1, 1) := by decide +kernel
theorem dX10_gathers_111 : decode cX10_gathers 111 = .ok (.baload, 1) := by decide +kernel
theorem dX10_gathers_112 : decode cX10_gathers 112 = .ok (.ifCond .ne 12, 3) := by decide +kernel
theorem dX10_gathers_115 : decode cX10_gathers 115 = .ok (.aload_n 0, 1) := by decide +kernel
theorem dX10_gathers_116 : decode cX10_gathers 116 = .ok (.getfield 53, 3) := by decide +kernel
theorem dX10_gathers_119 : decode cX10_gathers 119 = .ok (.iload_n 1, 1) := by decide +kernel
theorem dX10_gathers_120 : decode cX10_gathers 120 = .ok (.baload, 1) := by decide +kernel
theorem dX10_gathers_121 : decode cX10_gathers 121 = .ok (.ifCond .eq 7, 3) := by decide +kernel
theorem dX10_gathers_124 : decode cX10_gathers 124 = .ok (.iconst 0, 1) := by decide +kernel
theorem dX10_gathers_125 : decode cX10_gathers 125 = .ok (.goto 4, 3) := by decide +kernel
theorem dX10_gathers_128 : decode cX10_gathers 128 = .ok (.iconst 1, 1) := by decide +kernel
theorem dX10_gathers_129 : decode cX10_gathers 129 = .ok (.iadd, 1) := by decide +kernel
theorem dX10_gathers_130 : decode cX10_gathers 130 = .ok (.putfield 143, 3) := by decide +kernel
theorem dX10_gathers_133 : decode cX10_gathers 133 = .ok (.aload_n 0, 1) := by decide +kernel
theorem dX10_gathers_134 : decode cX10_gathers 134 = .ok (.dup, 1) := by decide +kernel
theorem dX10_gathers_135 : decode cX10_gathers 135 = .ok (.getfield 146, 3) := by decide +kernel
theorem dX10_gathers_138 : decode cX10_gathers 138 = .ok (.aload_n 0, 1) := by decide +kernel
theorem dX10_gathers_139 : decode cX10_gathers 139 = .ok (.getfield 34, 3) := by decide +kernel
theorem dX10_gathers_142 : decode cX10_gathers 142 = .ok (.iload_n 1, 1) := by decide +kernel
theorem dX10_gathers_143 : decode cX10_gathers 143 = .ok (.baload, 1) := by decide +kernel
theorem dX10_gathers_144 : decode cX10_gathers 144 = .ok (.ifCond .ne 16, 3) := by decide +kernel
theorem dX10_gathers_147 : decode cX10_gathers 147 = .ok (.aload_n 0, 1) := by decide +kernel
theorem dX10_gathers_148 : decode cX10_gathers 148 = .ok (.getfield 53, 3) := by decide +kernel
theorem dX10_gathers_151 : decode cX10_gathers 151 = .ok (.iload_n 1, 1) := by decide +kernel
theorem dX10_gathers_152 : decode cX10_gathers 152 = .ok (.baload, 1) := by decide +kernel
theorem dX10_gathers_153 : decode cX10_gathers 153 = .ok (.ifCond .eq 7, 3) := by decide +kernel
theorem dX10_gathers_156 : decode cX10_gathers 156 = .ok (.iconst 1, 1) := by decide +kernel
theorem dX10_gathers_157 : decode cX10_gathers 157 = .ok (.goto 4, 3) := by decide +kernel
theorem dX10_gathers_160 : decode cX10_gathers 160 = .ok (.iconst 0, 1) := by decide +kernel
theorem dX10_gathers_161 : decode cX10_gathers 161 = .ok (.iadd, 1) := by decide +kernel
theorem dX10_gathers_162 : decode cX10_gathers 162 = .ok (.putfield 146, 3) := by decide +kernel
theorem dX10_gathers_165 : decode cX10_gathers 165 = .ok (.iinc 1 1, 3) := by decide +kernel
theorem dX10_gathers_168 : decode cX10_gathers 168 = .ok (.goto (-147), 3) := by decide +kernel
theorem dX10_gathers_171 : decode cX10_gathers 171 = .ok (.return_, 1) := by decide +kernel
set_option maxRecDepth 20000 in
theorem ggX10_scoreOf_X10_fraction : GoodIn wsX10_scoreOf wsX10_fraction := goodIn_r _ [11, 12, 13, 14, 15, 16, 17, 18, 19, 20, 21, 22, 23, 24, 25, 26, 27, 28, 29, 30, 31, 32, 33, 34, 35, 36, 37, 38, 39, 40, 41, 42, 43, 44, 45, 46] rfl (by decide +kernel)
set_option maxRecDepth 20000 in
theorem gX10_scoreOf_X10_fraction : GoodIn wsX10_scoreOf (wsV RX10 152 RX10 yX10_fraction wsX10_fraction) := goodIn_app (goodIn_of _ (by decide +kernel)) ggX10_scoreOf_X10_fraction
theorem dX10_scoreOf_0 : decode cX10_scoreOf 0 = .ok (.iconst 0, 1) := by decide +kernel
theorem dX10_scoreOf_1 : decode cX10_scoreOf 1 = .ok (.istore_n 3, 1) := by decide +kernel
theorem dX10_scoreOf_2 : decode cX10_scoreOf 2 = .ok (.iconst 0, 1) := by decide +kernel
theorem dX10_scoreOf_3 : decode cX10_scoreOf 3 = .ok (.istore 4, 2) := by decide +kernel
theorem dX10_scoreOf_5 : decode cX10_scoreOf 5 = .ok (.iconst 0, 1) := by decide +kernel
theorem dX10_scoreOf_6 : decode cX10_scoreOf 6 = .ok (.istore 5, 2) := by decide +kernel
theorem dX10_scoreOf_8 : decode cX10_scoreOf 8 = .ok (.iload 5, 2) := by decide +kernel
theorem dX10_scoreOf_10 : decode cX10_scoreOf 10 = .ok (.aload_n 0, 1) := by decide +kernel
theorem dX10_scoreOf_11 : decode cX10_scoreOf 11 = .ok (.getfield 100, 3) := by decide +kernel
theorem dX10_scoreOf_14 : decode cX10_scoreOf 14 = .ok (.if_icmp .ge 55, 3) := by decide +kernel
theorem dX10_scoreOf_17 : decode cX10_scoreOf 17 = .ok (.aload_n 0, 1) := by decide +kernel
theorem dX10_scoreOf_18 : decode cX10_scoreOf 18 = .ok (.getfield 34, 3) := by decide +kernel
theorem dX10_scoreOf_21 : decode cX10_scoreOf 21 = .ok (.iload 5, 2) := by decide +kernel
theorem dX10_scoreOf_23 : decode cX10_scoreOf 23 = .ok (.baload, 1) := by decide +kernel
theorem dX10_scoreOf_24 : decode cX10_scoreOf 24 = .ok (.ifCond .ne 39, 3) := by decide +kernel
theorem dX10_scoreOf_27 : decode cX10_scoreOf 27 = .ok (.aload_n 0, 1) := by decide +kernel
theorem dX10_scoreOf_28 : decode cX10_scoreOf 28 = .ok (.getfield 50, 3) := by decide +kernel
theorem dX10_scoreOf_31 : decode cX10_scoreOf 31 = .ok (.iload 5, 2) := by decide +kernel
theorem dX10_scoreOf_33 : decode cX10_scoreOf 33 = .ok (.iaload, 1) := by decide +kernel
theorem dX10_scoreOf_34 : decode cX10_scoreOf 34 = .ok (.iload_n 1, 1) := by decide +kernel
theorem dX10_scoreOf_35 : decode cX10_scoreOf 35 = .ok (.ishr, 1) := by decide +kernel
theorem dX10_scoreOf_36 : decode cX10_scoreOf 36 = .ok (.iconst 1, 1) := by decide +kernel
theorem dX10_scoreOf_37 : decode cX10_scoreOf 37 = .ok (.iand, 1) := by decide +kernel
theorem dX10_scoreOf_38 : decode cX10_scoreOf 38 = .ok (.ifCond .ne 6, 3) := by decide +kernel
theorem dX10_scoreOf_41 : decode cX10_scoreOf 41 = .ok (.goto 22, 3) := by decide +kernel
theorem dX10_scoreOf_44 : decode cX10_scoreOf 44 = .ok (.aload_n 0, 1) := by decide +kernel
theorem dX10_scoreOf_45 : decode cX10_scoreOf 45 = .ok (.getfield 53, 3) := by decide +kernel
theorem dX10_scoreOf_48 : decode cX10_scoreOf 48 = .ok (.iload 5, 2) := by decide +kernel
theorem dX10_scoreOf_50 : decode cX10_scoreOf 50 = .ok (.baload, 1) := by decide +kernel
theorem dX10_scoreOf_51 : decode cX10_scoreOf 51 = .ok (.ifCond .eq 9, 3) := by decide +kernel
theorem dX10_scoreOf_54 : decode cX10_scoreOf 54 = .ok (.iinc 4 1, 3) := by decide +kernel
theorem dX10_scoreOf_57 : decode cX10_scoreOf 57 = .ok (.goto 6, 3) := by decide +kernel
theorem dX10_scoreOf_60 : decode cX10_scoreOf 60 = .ok (.iinc 3 1, 3) := by decide +kernel
theorem dX10_scoreOf_63 : decode cX10_scoreOf 63 = .ok (.iinc 5 1, 3) := by decide +kernel
theorem dX10_scoreOf_66 : decode cX10_scoreOf 66 = .ok (.goto (-58), 3) := by decide +kernel
theorem dX10_scoreOf_69 : decode cX10_scoreOf 69 = .ok (.iload_n 2, 1) := by decide +kernel
theorem dX10_scoreOf_70 : decode cX10_scoreOf 70 = .ok (.iconst 2, 1) := by decide +kernel
theorem dX10_scoreOf_71 : decode cX10_scoreOf 71 = .ok (.if_icmp .ne 37, 3) := by decide +kernel
theorem dX10_scoreOf_74 : decode cX10_scoreOf 74 = .ok (.aload_n 0, 1) := by decide +kernel
theorem dX10_scoreOf_75 : decode cX10_scoreOf 75 = .ok (.getfield 146, 3) := by decide +kernel
theorem dX10_scoreOf_78 : decode cX10_scoreOf 78 = .ok (.ifCond .le 30, 3) := by decide +kernel
theorem dX10_scoreOf_81 : decode cX10_scoreOf 81 = .ok (.aload_n 0, 1) := by decide +kernel
theorem dX10_scoreOf_82 : decode cX10_scoreOf 82 = .ok (.iload_n 3, 1) := by decide +kernel
theorem dX10_scoreOf_83 : decode cX10_scoreOf 83 = .ok (.aload_n 0, 1) := by decide +kernel
theorem dX10_scoreOf_84 : decode cX10_scoreOf 84 = .ok (.getfield 146, 3) := by decide +kernel
theorem dX10_scoreOf_87 : decode cX10_scoreOf 87 = .ok (.imul, 1) := by decide +kernel
theorem dX10_scoreOf_88 : decode cX10_scoreOf 88 = .ok (.iload_n 3, 1) := by decide +kernel
theorem dX10_scoreOf_89 : decode cX10_scoreOf 89 = .ok (.aload_n 0, 1) := by decide +kernel
theorem dX10_scoreOf_90 : decode cX10_scoreOf 90 = .ok (.getfield 146, 3) := by decide +kernel
theorem dX10_scoreOf_93 : decode cX10_scoreOf 93 = .ok (.imul, 1) := by decide +kernel
theorem dX10_scoreOf_94 : decode cX10_scoreOf 94 = .ok (.iload 4, 2) := by decide +kernel
theorem dX10_scoreOf_96 : decode cX10_scoreOf 96 = .ok (.aload_n 0, 1) := by decide +kernel
theorem dX10_scoreOf_97 : decode cX10_scoreOf 97 = .ok (.getfield 143, 3) := by decide +kernel
theorem dX10_scoreOf_100 : decode cX10_scoreOf 100 = .ok (.imul, 1) := by decide +kernel
theorem dX10_scoreOf_101 : decode cX10_scoreOf 101 = .ok (.iadd, 1) := by decide +kernel
theorem dX10_scoreOf_102 : decode cX10_scoreOf 102 = .ok (.invokevirtual 152, 3) := by decide +kernel
theorem dX10_scoreOf_105 : decode cX10_scoreOf 105 = .ok (.goto 56, 3) := by decide +kernel
theorem dX10_scoreOf_108 : decode cX10_scoreOf 108 = .ok (.iload_n 2, 1) := by decide +kernel
theorem dX10_scoreOf_109 : decode cX10_scoreOf 109 = .ok (.iconst 2, 1) := by decide +kernel
theorem dX10_scoreOf_110 : decode cX10_scoreOf 110 = .ok (.if_icmp .ne 15, 3) := by decide +kernel
theorem dX10_scoreOf_113 : decode cX10_scoreOf 113 = .ok (.aload_n 0, 1) := by decide +kernel
theorem dX10_scoreOf_114 : decode cX10_scoreOf 114 = .ok (.iload_n 3, 1) := by decide +kernel
theorem dX10_scoreOf_115 : decode cX10_scoreOf 115 = .ok (.aload_n 0, 1) := by decide +kernel
theorem dX10_scoreOf_116 : decode cX10_scoreOf 116 = .ok (.getfield 143, 3) := by decide +kernel
theorem dX10_scoreOf_119 : decode cX10_scoreOf 119 = .ok (.invokevirtual 152, 3) := by decide +kernel
theorem dX10_scoreOf_122 : decode cX10_scoreOf 122 = .ok (.goto 39, 3) := by decide +kernel
theorem dX10_scoreOf_125 : decode cX10_scoreOf 125 = .ok (.iload_n 2, 1) := by decide +kernel
theorem dX10_scoreOf_126 : decode cX10_scoreOf 126 = .ok (.iconst 1, 1) := by decide +kernel
theorem dX10_scoreOf_127 : decode cX10_scoreOf 127 = .ok (.if_icmp .ne 22, 3) := by decide +kernel
theorem dX10_scoreOf_130 : decode cX10_scoreOf 130 = .ok (.aload_n 0, 1) := by decide +kernel
theorem dX10_scoreOf_131 : decode cX10_scoreOf 131 = .ok (.iload_n 3, 1) := by decide +kernel
theorem dX10_scoreOf_132 : decode cX10_scoreOf 132 = .ok (.iload_n 3, 1) := by decide +kernel
theorem dX10_scoreOf_133 : decode cX10_scoreOf 133 = .ok (.imul, 1) := by decide +kernel
theorem dX10_scoreOf_134 : decode cX10_scoreOf 134 = .ok (.aload_n 0, 1) := by decide +kernel
theorem dX10_scoreOf_135 : decode cX10_scoreOf 135 = .ok (.getfield 143, 3) := by decide +kernel
theorem dX10_scoreOf_138 : decode cX10_scoreOf 138 = .ok (.iload_n 3, 1) := by decide +kernel
theorem dX10_scoreOf_139 : decode cX10_scoreOf 139 = .ok (.iload 4, 2) := by decide +kernel
theorem dX10_scoreOf_141 : decode cX10_scoreOf 141 = .ok (.iadd, 1) := by decide +kernel
theorem dX10_scoreOf_142 : decode cX10_scoreOf 142 = .ok (.imul, 1) := by decide +kernel
theorem dX10_scoreOf_143 : decode cX10_scoreOf 143 = .ok (.invokevirtual 152, 3) := by decide +kernel
theorem dX10_scoreOf_146 : decode cX10_scoreOf 146 = .ok (.goto 15, 3) := by decide +kernel
theorem dX10_scoreOf_149 : decode cX10_scoreOf 149 = .ok (.aload_n 0, 1) := by decide +kernel
theorem dX10_scoreOf_150 : decode cX10_scoreOf 150 = .ok (.iload_n 3, 1) := by decide +kernel
theorem dX10_scoreOf_151 : decode cX10_scoreOf 151 = .ok (.aload_n 0, 1) := by decide +kernel
theorem dX10_scoreOf_152 : decode cX10_scoreOf 152 = .ok (.getfield 143, 3) := by decide +kernel
theorem dX10_scoreOf_155 : decode cX10_scoreOf 155 = .ok (.iload 4, 2) := by decide +kernel
theorem dX10_scoreOf_157 : decode cX10_scoreOf 157 = .ok (.iadd, 1) := by decide +kernel
theorem dX10_scoreOf_158 : decode cX10_scoreOf 158 = .ok (.invokevirtual 152, 3) := by decide +kernel
theorem dX10_scoreOf_161 : decode cX10_scoreOf 161 = .ok (.return_, 1) := by decide +kernel
theorem dX10_fraction_0 : decode cX10_fraction 0 = .ok (.iload_n 1, 1) := by decide +kernel
theorem dX10_fraction_1 : decode cX10_fraction 1 = .ok (.istore_n 3, 1) := by decide +kernel
theorem dX10_fraction_2 : decode cX10_fraction 2 = .ok (.iload_n 2, 1) := by decide +kernel
theorem dX10_fraction_3 : decode cX10_fraction 3 = .ok (.istore 4, 2) := by decide +kernel
theorem dX10_fraction_5 : decode cX10_fraction 5 = .ok (.iload 4, 2) := by decide +kernel
theorem dX10_fraction_7 : decode cX10_fraction 7 = .ok (.ifCond .eq 19, 3) := by decide +kernel
theorem dX10_fraction_10 : decode cX10_fraction 10 = .ok (.iload_n 3, 1) := by decide +kernel
theorem dX10_fraction_11 : decode cX10_fraction 11 = .ok (.iload 4, 2) := by decide +kernel
theorem dX10_fraction_13 : decode cX10_fraction 13 = .ok (.irem, 1) := by decide +kernel
theorem dX10_fraction_14 : decode cX10_fraction 14 = .ok (.istore 5, 2) := by decide +kernel
theorem dX10_fraction_16 : decode cX10_fraction 16 = .ok (.iload 4, 2) := by decide +kernel
theorem dX10_fraction_18 : decode cX10_fraction 18 = .ok (.istore_n 3, 1) := by decide +kernel
theorem dX10_fraction_19 : decode cX10_fraction 19 = .ok (.iload 5, 2) := by decide +kernel
theorem dX10_fraction_21 : decode cX10_fraction 21 = .ok (.istore 4, 2) := by decide +kernel
theorem dX10_fraction_23 : decode cX10_fraction 23 = .ok (.goto (-18), 3) := by decide +kernel
theorem dX10_fraction_26 : decode cX10_fraction 26 = .ok (.aload_n 0, 1) := by decide +kernel
theorem dX10_fraction_27 : decode cX10_fraction 27 = .ok (.iload_n 2, 1) := by decide +kernel
theorem dX10_fraction_28 : decode cX10_fraction 28 = .ok (.ifCond .ne 7, 3) := by decide +kernel
theorem dX10_fraction_31 : decode cX10_fraction 31 = .ok (.iconst 0, 1) := by decide +kernel
theorem dX10_fraction_32 : decode cX10_fraction 32 = .ok (.goto 6, 3) := by decide +kernel
theorem dX10_fraction_35 : decode cX10_fraction 35 = .ok (.iload_n 1, 1) := by decide +kernel
theorem dX10_fraction_36 : decode cX10_fraction 36 = .ok (.iload_n 3, 1) := by decide +kernel
theorem dX10_fraction_37 : decode cX10_fraction 37 = .ok (.idiv, 1) := by decide +kernel
theorem dX10_fraction_38 : decode cX10_fraction 38 = .ok (.putfield 156, 3) := by decide +kernel
theorem dX10_fraction_41 : decode cX10_fraction 41 = .ok (.aload_n 0, 1) := by decide +kernel
theorem dX10_fraction_42 : decode cX10_fraction 42 = .ok (.iload_n 2, 1) := by decide +kernel
theorem dX10_fraction_43 : decode cX10_fraction 43 = .ok (.ifCond .ne 7, 3) := by decide +kernel
theorem dX10_fraction_46 : decode cX10_fraction 46 = .ok (.iconst 1, 1) := by decide +kernel
theorem dX10_fraction_47 : decode cX10_fraction 47 = .ok (.goto 6, 3) := by decide +kernel
theorem dX10_fraction_50 : decode cX10_fraction 50 = .ok (.iload_n 2, 1) := by decide +kernel
theorem dX10_fraction_51 : decode cX10_fraction 51 = .ok (.iload_n 3, 1) := by decide +kernel
theorem dX10_fraction_52 : decode cX10_fraction 52 = .ok (.idiv, 1) := by decide +kernel
theorem dX10_fraction_53 : decode cX10_fraction 53 = .ok (.putfield 159, 3) := by decide +kernel
theorem dX10_fraction_56 : decode cX10_fraction 56 = .ok (.return_, 1) := by decide +kernel
set_option maxRecDepth 20000 in
theorem ggX10_score_X10_isLine : GoodIn wsX10_score wsX10_isLine := goodIn_r _ [7, 8, 9, 10, 6, 11, 75, 76, 77, 78, 79, 80, 81, 82, 83, 84, 85, 86, 87, 88, 89, 90, 91, 92, 93, 94, 95, 96, 97, 98, 99, 100, 101, 102, 103, 104, 105, 106, 107] rfl (by decide +kernel)
set_option maxRecDepth 20000 in
theorem gX10_score_X10_isLine : GoodIn wsX10_score (wsV RX10 96 RX10 yX10_isLine wsX10_isLine) := goodIn_app (goodIn_of _ (by decide +kernel)) ggX10_score_X10_isLine
set_option maxRecDepth 20000 in
theorem ggX10_score_X10_refuse : GoodIn wsX10_score wsX10_refuse := goodIn_r _ [15, 16, 75, 76, 77, 78, 79, 80, 81, 82, 83, 84, 85, 86, 87, 88, 89, 90, 91, 92, 93, 94, 95, 96, 97, 98, 99, 100, 101, 102, 103, 104, 105, 106, 107] rfl (by decide +kernel)
set_option maxRecDepth 20000 in
theorem gX10_score_X10_refuse : GoodIn wsX10_score (wsV RX10 88 RX10 yX10_refuse wsX10_refuse) := goodIn_app (goodIn_of _ (by decide +kernel)) ggX10_score_X10_refuse
set_option maxRecDepth 20000 in
theorem ggX10_score_X10_isIn : GoodIn wsX10_score wsX10_isIn := goodIn_r _ [11] rfl (by decide +kernel)
set_option maxRecDepth 20000 in
theorem gX10_score_X10_isIn : GoodIn wsX10_score (va_wsS RX10 70 yX10_isIn wsX10_isIn) := goodIn_app (goodIn_of _ (by decide +kernel)) ggX10_score_X10_isIn
set_option maxRecDepth 20000 in
theorem ggX10_score_X10_gathers : GoodIn wsX10_score wsX10_gathers := goodIn_r _ [20, 21, 22, 23, 24, 25, 26, 27, 28, 29, 30, 31, 32, 33, 6, 34, 35, 36, 37, 38, 39, 8, 40, 41, 42, 43, 44, 45, 46, 47, 48, 49, 50, 51, 52, 53, 54, 55, 56, 57, 58, 59, 60, 61, 62, 63, 64, 65, 66, 75, 76, 77, 78, 79, 80, 81, 82, 83, 84, 85, 86, 87, 88, 89, 90, 91, 92, 93, 94, 95, 96, 97, 98, 99, 100, 101, 102, 103, 104, 105, 106, 107] rfl (by decide +kernel)
set_option maxRecDepth 20000 in
theorem gX10_score_X10_gathers : GoodIn wsX10_score (wsV RX10 162 RX10 yX10_gathers wsX10_gathers) := goodIn_app (goodIn_of _ (by decide +kernel)) ggX10_score_X10_gathers
set_option maxRecDepth 20000 in
theorem ggX10_score_X10_scoreOf : GoodIn wsX10_score wsX10_scoreOf := goodIn_r _ [70, 24, 30, 26, 25, 22, 21, 71, 72, 73, 6, 74, 1, 2, 75, 76, 77, 78, 79, 80, 81, 82, 83, 84, 85, 86, 87, 88, 89, 90, 91, 92, 93, 94, 95, 96, 97, 98, 99, 100, 101, 102, 103, 104, 105, 106, 107] rfl (by decide +kernel)
set_option maxRecDepth 20000 in
theorem gX10_score_X10_scoreOf : GoodIn wsX10_score (wsV RX10 165 RX10 yX10_scoreOf wsX10_scoreOf) := goodIn_app (goodIn_of _ (by decide +kernel)) ggX10_score_X10_scoreOf
theorem dX10_score_0 : decode cX10_score 0 = .ok (.aload_n 0, 1) := by decide +kernel
theorem dX10_score_1 : decode cX10_score 1 = .ok (.iload_n 1, 1) := by decide +kernel
theorem dX10_score_2 : decode cX10_score 2 = .ok (.invokevirtual 96, 3) := by decide +kernel
theorem dX10_score_5 : decode cX10_score 5 = .ok (.ifCond .ne 9, 3) := by decide +kernel
theorem dX10_score_8 : decode cX10_score 8 = .ok (.aload_n 0, 1) := by decide +kernel
theorem dX10_score_9 : decode cX10_score 9 = .ok (.iconst (-1), 1) := by decide +kernel
theorem dX10_score_10 : decode cX10_score 10 = .ok (.invokevirtual 88, 3) := by decide +kernel
theorem dX10_score_13 : decode cX10_score 13 = .ok (.ireturn, 1) := by decide +kernel
theorem dX10_score_14 : decode cX10_score 14 = .ok (.iload_n 2, 1) := by decide +kernel
theorem dX10_score_15 : decode cX10_score 15 = .ok (.iconst 3, 1) := by decide +kernel
theorem dX10_score_16 : decode cX10_score 16 = .ok (.invokestatic 70, 3) := by decide +kernel
theorem dX10_score_19 : decode cX10_score 19 = .ok (.ifCond .eq 11, 3) := by decide +kernel
theorem dX10_score_22 : decode cX10_score 22 = .ok (.iload_n 3, 1) := by decide +kernel
theorem dX10_score_23 : decode cX10_score 23 = .ok (.iconst 2, 1) := by decide +kernel
theorem dX10_score_24 : decode cX10_score 24 = .ok (.invokestatic 70, 3) := by decide +kernel
theorem dX10_score_27 : decode cX10_score 27 = .ok (.ifCond .ne 10, 3) := by decide +kernel
theorem dX10_score_30 : decode cX10_score 30 = .ok (.aload_n 0, 1) := by decide +kernel
theorem dX10_score_31 : decode cX10_score 31 = .ok (.bipush (-2), 2) := by decide +kernel
theorem dX10_score_33 : decode cX10_score 33 = .ok (.invokevirtual 88, 3) := by decide +kernel
theorem dX10_score_36 : decode cX10_score 36 = .ok (.ireturn, 1) := by decide +kernel
theorem dX10_score_37 : decode cX10_score 37 = .ok (.aload_n 0, 1) := by decide +kernel
theorem dX10_score_38 : decode cX10_score 38 = .ok (.invokevirtual 162, 3) := by decide +kernel
theorem dX10_score_41 : decode cX10_score 41 = .ok (.aload_n 0, 1) := by decide +kernel
theorem dX10_score_42 : decode cX10_score 42 = .ok (.iload_n 1, 1) := by decide +kernel
theorem dX10_score_43 : decode cX10_score 43 = .ok (.iload_n 2, 1) := by decide +kernel
theorem dX10_score_44 : decode cX10_score 44 = .ok (.invokevirtual 165, 3) := by decide +kernel
theorem dX10_score_47 : decode cX10_score 47 = .ok (.iload_n 3, 1) := by decide +kernel
theorem dX10_score_48 : decode cX10_score 48 = .ok (.ifCond .ne 10, 3) := by decide +kernel
theorem dX10_score_51 : decode cX10_score 51 = .ok (.aload_n 0, 1) := by decide +kernel
theorem dX10_score_52 : decode cX10_score 52 = .ok (.getfield 156, 3) := by decide +kernel
theorem dX10_score_55 : decode cX10_score 55 = .ok (.goto 7, 3) := by decide +kernel
theorem dX10_score_58 : decode cX10_score 58 = .ok (.aload_n 0, 1) := by decide +kernel
theorem dX10_score_59 : decode cX10_score 59 = .ok (.getfield 159, 3) := by decide +kernel
theorem dX10_score_62 : decode cX10_score 62 = .ok (.ireturn, 1) := by decide +kernel
set_option maxRecDepth 20000 in
theorem ggX10_rank_X10_isLine : GoodIn wsX10_rank wsX10_isLine := goodIn_r _ [8, 3, 9, 10, 7, 11, 75, 76, 77, 78, 79, 80, 81, 82, 83, 84, 85, 86, 87, 88, 89, 90, 91, 92, 93, 94, 95, 96, 97, 98, 99, 100, 101, 102, 103, 104, 105, 106, 107] rfl (by decide +kernel)
set_option maxRecDepth 20000 in
theorem gX10_rank_X10_isLine : GoodIn wsX10_rank (wsV RX10 96 RX10 yX10_isLine wsX10_isLine) := goodIn_app (goodIn_of _ (by decide +kernel)) ggX10_rank_X10_isLine
set_option maxRecDepth 20000 in
theorem ggX10_rank_X10_refuse : GoodIn wsX10_rank wsX10_refuse := goodIn_r _ [15, 16, 75, 76, 77, 78, 79, 80, 81, 82, 83, 84, 85, 86, 87, 88, 89, 90, 91, 92, 93, 94, 95, 96, 97, 98, 99, 100, 101, 102, 103, 104, 105, 106, 107] rfl (by decide +kernel)
set_option maxRecDepth 20000 in
theorem gX10_rank_X10_refuse : GoodIn wsX10_rank (wsV RX10 88 RX10 yX10_refuse wsX10_refuse) := goodIn_app (goodIn_of _ (by decide +kernel)) ggX10_rank_X10_refuse
set_option maxRecDepth 20000 in
theorem ggX10_rank_X10_isIn : GoodIn wsX10_rank wsX10_isIn := goodIn_r _ [11] rfl (by decide +kernel)
set_option maxRecDepth 20000 in
theorem gX10_rank_X10_isIn : GoodIn wsX10_rank (va_wsS RX10 70 yX10_isIn wsX10_isIn) := goodIn_app (goodIn_of _ (by decide +kernel)) ggX10_rank_X10_isIn
set_option maxRecDepth 20000 in
theorem ggX10_rank_X10_gathers : GoodIn wsX10_rank wsX10_gathers := goodIn_r _ [20, 21, 22, 23, 24, 25, 26, 27, 28, 29, 30, 31, 32, 33, 7, 34, 35, 36, 37, 38, 39, 3, 40, 41, 42, 43, 44, 45, 46, 47, 48, 49, 50, 51, 52, 53, 54, 55, 56, 57, 58, 59, 60, 61, 62, 63, 64, 65, 66, 75, 76, 77, 78, 79, 80, 81, 82, 83, 84, 85, 86, 87, 88, 89, 90, 91, 92, 93, 94, 95, 96, 97, 98, 99, 100, 101, 102, 103, 104, 105, 106, 107] rfl (by decide +kernel)
set_option maxRecDepth 20000 in
theorem gX10_rank_X10_gathers : GoodIn wsX10_rank (wsV RX10 162 RX10 yX10_gathers wsX10_gathers) := goodIn_app (goodIn_of _ (by decide +kernel)) ggX10_rank_X10_gathers
set_option maxRecDepth 20000 in
theorem ggX10_rank_X10_scoreOf : GoodIn wsX10_rank wsX10_scoreOf := goodIn_r _ [70, 24, 30, 26, 25, 22, 21, 71, 72, 73, 7, 74, 1, 2, 75, 76, 77, 78, 79, 80, 81, 82, 83, 84, 85, 86, 87, 88, 89, 90, 91, 92, 93, 94, 95, 96, 97, 98, 99, 100, 101, 102, 103, 104, 105, 106, 107] rfl (by decide +kernel)
set_option maxRecDepth 20000 in
theorem gX10_rank_X10_scoreOf : GoodIn wsX10_rank (wsV RX10 165 RX10 yX10_scoreOf wsX10_scoreOf) := goodIn_app (goodIn_of _ (by decide +kernel)) ggX10_rank_X10_scoreOf
theorem dX10_rank_0 : decode cX10_rank 0 = .ok (.aload_n 0, 1) := by decide +kernel
theorem dX10_rank_1 : decode cX10_rank 1 = .ok (.iload_n 1, 1) := by decide +kernel
theorem dX10_rank_2 : decode cX10_rank 2 = .ok (.invokevirtual 96, 3) := by decide +kernel
theorem dX10_rank_5 : decode cX10_rank 5 = .ok (.ifCond .ne 9, 3) := by decide +kernel
theorem dX10_rank_8 : decode cX10_rank 8 = .ok (.aload_n 0, 1) := by decide +kernel
theorem dX10_rank_9 : decode cX10_rank 9 = .ok (.iconst (-1), 1) := by decide +kernel
theorem dX10_rank_10 : decode cX10_rank 10 = .ok (.invokevirtual 88, 3) := by decide +kernel
theorem dX10_rank_13 : decode cX10_rank 13 = .ok (.ireturn, 1) := by decide +kernel
theorem dX10_rank_14 : decode cX10_rank 14 = .ok (.iload_n 2, 1) := by decide +kernel
theorem dX10_rank_15 : decode cX10_rank 15 = .ok (.iconst 3, 1) := by decide +kernel
theorem dX10_rank_16 : decode cX10_rank 16 = .ok (.invokestatic 70, 3) := by decide +kernel
theorem dX10_rank_19 : decode cX10_rank 19 = .ok (.ifCond .ne 10, 3) := by decide +kernel
theorem dX10_rank_22 : decode cX10_rank 22 = .ok (.aload_n 0, 1) := by decide +kernel
theorem dX10_rank_23 : decode cX10_rank 23 = .ok (.bipush (-2), 2) := by decide +kernel
theorem dX10_rank_25 : decode cX10_rank 25 = .ok (.invokevirtual 88, 3) := by decide +kernel
theorem dX10_rank_28 : decode cX10_rank 28 = .ok (.ireturn, 1) := by decide +kernel
theorem dX10_rank_29 : decode cX10_rank 29 = .ok (.aload_n 0, 1) := by decide +kernel
theorem dX10_rank_30 : decode cX10_rank 30 = .ok (.invokevirtual 162, 3) := by decide +kernel
theorem dX10_rank_33 : decode cX10_rank 33 = .ok (.aload_n 0, 1) := by decide +kernel
theorem dX10_rank_34 : decode cX10_rank 34 = .ok (.iload_n 1, 1) := by decide +kernel
theorem dX10_rank_35 : decode cX10_rank 35 = .ok (.iload_n 2, 1) := by decide +kernel
theorem dX10_rank_36 : decode cX10_rank 36 = .ok (.invokevirtual 165, 3) := by decide +kernel
theorem dX10_rank_39 : decode cX10_rank 39 = .ok (.aload_n 0, 1) := by decide +kernel
theorem dX10_rank_40 : decode cX10_rank 40 = .ok (.getfield 156, 3) := by decide +kernel
theorem dX10_rank_43 : decode cX10_rank 43 = .ok (.istore_n 3, 1) := by decide +kernel
theorem dX10_rank_44 : decode cX10_rank 44 = .ok (.aload_n 0, 1) := by decide +kernel
theorem dX10_rank_45 : decode cX10_rank 45 = .ok (.getfield 159, 3) := by decide +kernel
theorem dX10_rank_48 : decode cX10_rank 48 = .ok (.istore 4, 2) := by decide +kernel
theorem dX10_rank_50 : decode cX10_rank 50 = .ok (.iconst 0, 1) := by decide +kernel
theorem dX10_rank_51 : decode cX10_rank 51 = .ok (.istore 5, 2) := by decide +kernel
theorem dX10_rank_53 : decode cX10_rank 53 = .ok (.iconst 0, 1) := by decide +kernel
theorem dX10_rank_54 : decode cX10_rank 54 = .ok (.istore 6, 2) := by decide +kernel
theorem dX10_rank_56 : decode cX10_rank 56 = .ok (.iload 6, 2) := by decide +kernel
theorem dX10_rank_58 : decode cX10_rank 58 = .ok (.aload_n 0, 1) := by decide +kernel
theorem dX10_rank_59 : decode cX10_rank 59 = .ok (.getfield 85, 3) := by decide +kernel
theorem dX10_rank_62 : decode cX10_rank 62 = .ok (.if_icmp .ge 58, 3) := by decide +kernel
theorem dX10_rank_65 : decode cX10_rank 65 = .ok (.aload_n 0, 1) := by decide +kernel
theorem dX10_rank_66 : decode cX10_rank 66 = .ok (.iload 6, 2) := by decide +kernel
theorem dX10_rank_68 : decode cX10_rank 68 = .ok (.iload_n 2, 1) := by decide +kernel
theorem dX10_rank_69 : decode cX10_rank 69 = .ok (.invokevirtual 165, 3) := by decide +kernel
theorem dX10_rank_72 : decode cX10_rank 72 = .ok (.aload_n 0, 1) := by decide +kernel
theorem dX10_rank_73 : decode cX10_rank 73 = .ok (.getfield 156, 3) := by decide +kernel
theorem dX10_rank_76 : decode cX10_rank 76 = .ok (.iload 4, 2) := by decide +kernel
theorem dX10_rank_78 : decode cX10_rank 78 = .ok (.imul, 1) := by decide +kernel
theorem dX10_rank_79 : decode cX10_rank 79 = .ok (.iload_n 3, 1) := by decide +kernel
theorem dX10_rank_80 : decode cX10_rank 80 = .ok (.aload_n 0, 1) := by decide +kernel
theorem dX10_rank_81 : decode cX10_rank 81 = .ok (.getfield 159, 3) := by decide +kernel
theorem dX10_rank_84 : decode cX10_rank 84 = .ok (.imul, 1) := by decide +kernel
theorem dX10_rank_85 : decode cX10_rank 85 = .ok (.isub, 1) := by decide +kernel
theorem dX10_rank_86 : decode cX10_rank 86 = .ok (.istore 7, 2) := by decide +kernel
theorem dX10_rank_88 : decode cX10_rank 88 = .ok (.iload 5, 2) := by decide +kernel
theorem dX10_rank_90 : decode cX10_rank 90 = .ok (.iload 7, 2) := by decide +kernel
theorem dX10_rank_92 : decode cX10_rank 92 = .ok (.ifCond .gt 14, 3) := by decide +kernel
theorem dX10_rank_95 : decode cX10_rank 95 = .ok (.iload 7, 2) := by decide +kernel
theorem dX10_rank_97 : decode cX10_rank 97 = .ok (.ifCond .ne 13, 3) := by decide +kernel
theorem dX10_rank_100 : decode cX10_rank 100 = .ok (.iload 6, 2) := by decide +kernel
theorem dX10_rank_102 : decode cX10_rank 102 = .ok (.iload_n 1, 1) := by decide +kernel
theorem dX10_rank_103 : decode cX10_rank 103 = .ok (.if_icmp .ge 7, 3) := by decide +kernel
theorem dX10_rank_106 : decode cX10_rank 106 = .ok (.iconst 1, 1) := by decide +kernel
theorem dX10_rank_107 : decode cX10_rank 107 = .ok (.goto 4, 3) := by decide +kernel
theorem dX10_rank_110 : decode cX10_rank 110 = .ok (.iconst 0, 1) := by decide +kernel
theorem dX10_rank_111 : decode cX10_rank 111 = .ok (.iadd, 1) := by decide +kernel
theorem dX10_rank_112 : decode cX10_rank 112 = .ok (.istore 5, 2) := by decide +kernel
theorem dX10_rank_114 : decode cX10_rank 114 = .ok (.iinc 6 1, 3) := by decide +kernel
theorem dX10_rank_117 : decode cX10_rank 117 = .ok (.goto (-61), 3) := by decide +kernel
theorem dX10_rank_120 : decode cX10_rank 120 = .ok (.iload 5, 2) := by decide +kernel
theorem dX10_rank_122 : decode cX10_rank 122 = .ok (.ireturn, 1) := by decide +kernel
set_option maxRecDepth 20000 in
theorem ggX10_prior_X10_isLine : GoodIn wsX10_prior wsX10_isLine := goodIn_r _ [6, 7, 8, 9, 5, 10, 19, 20, 21, 22, 23, 24, 25, 26, 27, 28, 29, 30, 31, 32, 33, 34, 35, 36, 37, 38, 39, 40, 41, 42, 43, 44, 45, 46, 47, 48, 49, 50, 51] rfl (by decide +kernel)
set_option maxRecDepth 20000 in
theorem gX10_prior_X10_isLine : GoodIn wsX10_prior (wsV RX10 96 RX10 yX10_isLine wsX10_isLine) := goodIn_app (goodIn_of _ (by decide +kernel)) ggX10_prior_X10_isLine
set_option maxRecDepth 20000 in
theorem ggX10_prior_X10_wrong : GoodIn wsX10_prior wsX10_wrong := goodIn_r _ [13] rfl (by decide +kernel)
set_option maxRecDepth 20000 in
theorem gX10_prior_X10_wrong : GoodIn wsX10_prior (va_wsS RX10 74 yX10_wrong wsX10_wrong) := goodIn_app (goodIn_of _ (by decide +kernel)) ggX10_prior_X10_wrong
set_option maxRecDepth 20000 in
theorem ggX10_prior_X10_refuse : GoodIn wsX10_prior wsX10_refuse := goodIn_r _ [17, 18, 19, 20, 21, 22, 23, 24, 25, 26, 27, 28, 29, 30, 31, 32, 33, 34, 35, 36, 37, 38, 39, 40, 41, 42, 43, 44, 45, 46, 47, 48, 49, 50, 51] rfl (by decide +kernel)
set_option maxRecDepth 20000 in
theorem gX10_prior_X10_refuse : GoodIn wsX10_prior (wsV RX10 88 RX10 yX10_refuse wsX10_refuse) := goodIn_app (goodIn_of _ (by decide +kernel)) ggX10_prior_X10_refuse
theorem dX10_prior_0 : decode cX10_prior 0 = .ok (.aload_n 0, 1) := by decide +kernel
theorem dX10_prior_1 : decode cX10_prior 1 = .ok (.iload_n 1, 1) := by decide +kernel
theorem dX10_prior_2 : decode cX10_prior 2 = .ok (.invokevirtual 96, 3) := by decide +kernel
theorem dX10_prior_5 : decode cX10_prior 5 = .ok (.ifCond .eq 13, 3) := by decide +kernel
theorem dX10_prior_8 : decode cX10_prior 8 = .ok (.iload_n 2, 1) := by decide +kernel
theorem dX10_prior_9 : decode cX10_prior 9 = .ok (.iconst 1, 1) := by decide +kernel
theorem dX10_prior_10 : decode cX10_prior 10 = .ok (.bipush 9, 2) := by decide +kernel
theorem dX10_prior_12 : decode cX10_prior 12 = .ok (.invokestatic 74, 3) := by decide +kernel
theorem dX10_prior_15 : decode cX10_prior 15 = .ok (.goto 4, 3) := by decide +kernel
theorem dX10_prior_18 : decode cX10_prior 18 = .ok (.iconst (-1), 1) := by decide +kernel
theorem dX10_prior_19 : decode cX10_prior 19 = .ok (.istore_n 3, 1) := by decide +kernel
theorem dX10_prior_20 : decode cX10_prior 20 = .ok (.iload_n 3, 1) := by decide +kernel
theorem dX10_prior_21 : decode cX10_prior 21 = .ok (.ifCond .eq 9, 3) := by decide +kernel
theorem dX10_prior_24 : decode cX10_prior 24 = .ok (.aload_n 0, 1) := by decide +kernel
theorem dX10_prior_25 : decode cX10_prior 25 = .ok (.iload_n 3, 1) := by decide +kernel
theorem dX10_prior_26 : decode cX10_prior 26 = .ok (.invokevirtual 88, 3) := by decide +kernel
theorem dX10_prior_29 : decode cX10_prior 29 = .ok (.ireturn, 1) := by decide +kernel
theorem dX10_prior_30 : decode cX10_prior 30 = .ok (.aload_n 0, 1) := by decide +kernel
theorem dX10_prior_31 : decode cX10_prior 31 = .ok (.getfield 22, 3) := by decide +kernel
theorem dX10_prior_34 : decode cX10_prior 34 = .ok (.iload_n 1, 1) := by decide +kernel
theorem dX10_prior_35 : decode cX10_prior 35 = .ok (.iaload, 1) := by decide +kernel
theorem dX10_prior_36 : decode cX10_prior 36 = .ok (.istore 4, 2) := by decide +kernel
theorem dX10_prior_38 : decode cX10_prior 38 = .ok (.aload_n 0, 1) := by decide +kernel
theorem dX10_prior_39 : decode cX10_prior 39 = .ok (.getfield 22, 3) := by decide +kernel
theorem dX10_prior_42 : decode cX10_prior 42 = .ok (.iload_n 1, 1) := by decide +kernel
theorem dX10_prior_43 : decode cX10_prior 43 = .ok (.iload_n 2, 1) := by decide +kernel
theorem dX10_prior_44 : decode cX10_prior 44 = .ok (.iastore, 1) := by decide +kernel
theorem dX10_prior_45 : decode cX10_prior 45 = .ok (.iload 4, 2) := by decide +kernel
theorem dX10_prior_47 : decode cX10_prior 47 = .ok (.ireturn, 1) := by decide +kernel
theorem dX10_explains_0 : decode cX10_explains 0 = .ok (.iconst 1, 1) := by decide +kernel
theorem dX10_explains_1 : decode cX10_explains 1 = .ok (.istore_n 2, 1) := by decide +kernel
theorem dX10_explains_2 : decode cX10_explains 2 = .ok (.iconst 0, 1) := by decide +kernel
theorem dX10_explains_3 : decode cX10_explains 3 = .ok (.istore_n 3, 1) := by decide +kernel
theorem dX10_explains_4 : decode cX10_explains 4 = .ok (.iload_n 3, 1) := by decide +kernel
theorem dX10_explains_5 : decode cX10_explains 5 = .ok (.aload_n 0, 1) := by decide +kernel
theorem dX10_explains_6 : decode cX10_explains 6 = .ok (.getfield 100, 3) := by decide +kernel
theorem dX10_explains_9 : decode cX10_explains 9 = .ok (.if_icmp .ge 48, 3) := by decide +kernel
theorem dX10_explains_12 : decode cX10_explains 12 = .ok (.iload_n 2, 1) := by decide +kernel
theorem dX10_explains_13 : decode cX10_explains 13 = .ok (.ifCond .eq 44, 3) := by decide +kernel
theorem dX10_explains_16 : decode cX10_explains 16 = .ok (.aload_n 0, 1) := by decide +kernel
theorem dX10_explains_17 : decode cX10_explains 17 = .ok (.getfield 34, 3) := by decide +kernel
theorem dX10_explains_20 : decode cX10_explains 20 = .ok (.iload_n 3, 1) := by decide +kernel
theorem dX10_explains_21 : decode cX10_explains 21 = .ok (.baload, 1) := by decide +kernel
theorem dX10_explains_22 : decode cX10_explains 22 = .ok (.ifCond .ne 23, 3) := by decide +kernel
theorem dX10_explains_25 : decode cX10_explains 25 = .ok (.aload_n 0, 1) := by decide +kernel
theorem dX10_explains_26 : decode cX10_explains 26 = .ok (.getfield 53, 3) := by decide +kernel
theorem dX10_explains_29 : decode cX10_explains 29 = .ok (.iload_n 3, 1) := by decide +kernel
theorem dX10_explains_30 : decode cX10_explains 30 = .ok (.baload, 1) := by decide +kernel
theorem dX10_explains_31 : decode cX10_explains 31 = .ok (.ifCond .ne 14, 3) := by decide +kernel
theorem dX10_explains_34 : decode cX10_explains 34 = .ok (.aload_n 0, 1) := by decide +kernel
theorem dX10_explains_35 : decode cX10_explains 35 = .ok (.getfield 50, 3) := by decide +kernel
theorem dX10_explains_38 : decode cX10_explains 38 = .ok (.iload_n 3, 1) := by decide +kernel
theorem dX10_explains_39 : decode cX10_explains 39 = .ok (.iaload, 1) := by decide +kernel
theorem dX10_explains_40 : decode cX10_explains 40 = .ok (.iload_n 1, 1) := by decide +kernel
theorem dX10_explains_41 : decode cX10_explains 41 = .ok (.iand, 1) := by decide +kernel
theorem dX10_explains_42 : decode cX10_explains 42 = .ok (.ifCond .eq 7, 3) := by decide +kernel
theorem dX10_explains_45 : decode cX10_explains 45 = .ok (.iconst 1, 1) := by decide +kernel
theorem dX10_explains_46 : decode cX10_explains 46 = .ok (.goto 4, 3) := by decide +kernel
theorem dX10_explains_49 : decode cX10_explains 49 = .ok (.iconst 0, 1) := by decide +kernel
theorem dX10_explains_50 : decode cX10_explains 50 = .ok (.istore_n 2, 1) := by decide +kernel
theorem dX10_explains_51 : decode cX10_explains 51 = .ok (.iinc 3 1, 3) := by decide +kernel
theorem dX10_explains_54 : decode cX10_explains 54 = .ok (.goto (-50), 3) := by decide +kernel
theorem dX10_explains_57 : decode cX10_explains 57 = .ok (.iload_n 2, 1) := by decide +kernel
theorem dX10_explains_58 : decode cX10_explains 58 = .ok (.ireturn, 1) := by decide +kernel
set_option maxRecDepth 20000 in
theorem ggX10_isLeast_X10_explains : GoodIn wsX10_isLeast wsX10_explains := goodIn_r _ [6, 7, 8, 9, 10, 11, 12, 13, 14, 15, 16, 17, 18, 19, 20, 21, 22, 23, 24, 25, 26, 27, 28, 29, 30, 31, 32, 33, 34, 35, 36, 37, 38, 39, 40, 41, 42, 43] rfl (by decide +kernel)
set_option maxRecDepth 20000 in
theorem gX10_isLeast_X10_explains : GoodIn wsX10_isLeast (wsV RX10 168 RX10 yX10_explains wsX10_explains) := goodIn_app (goodIn_of _ (by decide +kernel)) ggX10_isLeast_X10_explains
theorem dX10_isLeast_0 : decode cX10_isLeast 0 = .ok (.aload_n 0, 1) := by decide +kernel
theorem dX10_isLeast_1 : decode cX10_isLeast 1 = .ok (.iload_n 1, 1) := by decide +kernel
theorem dX10_isLeast_2 : decode cX10_isLeast 2 = .ok (.invokevirtual 168, 3) := by decide +kernel
theorem dX10_isLeast_5 : decode cX10_isLeast 5 = .ok (.ifCond .ne 5, 3) := by decide +kernel
theorem dX10_isLeast_8 : decode cX10_isLeast 8 = .ok (.iconst 0, 1) := by decide +kernel
theorem dX10_isLeast_9 : decode cX10_isLeast 9 = .ok (.ireturn, 1) := by decide +kernel
theorem dX10_isLeast_10 : decode cX10_isLeast 10 = .ok (.iconst 0, 1) := by decide +kernel
theorem dX10_isLeast_11 : decode cX10_isLeast 11 = .ok (.istore_n 2, 1) := by decide +kernel
theorem dX10_isLeast_12 : decode cX10_isLeast 12 = .ok (.iload_n 2, 1) := by decide +kernel
theorem dX10_isLeast_13 : decode cX10_isLeast 13 = .ok (.aload_n 0, 1) := by decide +kernel
theorem dX10_isLeast_14 : decode cX10_isLeast 14 = .ok (.getfield 85, 3) := by decide +kernel
theorem dX10_isLeast_17 : decode cX10_isLeast 17 = .ok (.if_icmp .ge 34, 3) := by decide +kernel
theorem dX10_isLeast_20 : decode cX10_isLeast 20 = .ok (.iload_n 1, 1) := by decide +kernel
theorem dX10_isLeast_21 : decode cX10_isLeast 21 = .ok (.iload_n 2, 1) := by decide +kernel
theorem dX10_isLeast_22 : decode cX10_isLeast 22 = .ok (.ishr, 1) := by decide +kernel
theorem dX10_isLeast_23 : decode cX10_isLeast 23 = .ok (.iconst 1, 1) := by decide +kernel
theorem dX10_isLeast_24 : decode cX10_isLeast 24 = .ok (.iand, 1) := by decide +kernel
theorem dX10_isLeast_25 : decode cX10_isLeast 25 = .ok (.iconst 1, 1) := by decide +kernel
theorem dX10_isLeast_26 : decode cX10_isLeast 26 = .ok (.if_icmp .ne 19, 3) := by decide +kernel
theorem dX10_isLeast_29 : decode cX10_isLeast 29 = .ok (.aload_n 0, 1) := by decide +kernel
theorem dX10_isLeast_30 : decode cX10_isLeast 30 = .ok (.iload_n 1, 1) := by decide +kernel
theorem dX10_isLeast_31 : decode cX10_isLeast 31 = .ok (.iconst 1, 1) := by decide +kernel
theorem dX10_isLeast_32 : decode cX10_isLeast 32 = .ok (.iload_n 2, 1) := by decide +kernel
theorem dX10_isLeast_33 : decode cX10_isLeast 33 = .ok (.ishl, 1) := by decide +kernel
theorem dX10_isLeast_34 : decode cX10_isLeast 34 = .ok (.iconst (-1), 1) := by decide +kernel
theorem dX10_isLeast_35 : decode cX10_isLeast 35 = .ok (.ixor, 1) := by decide +kernel
theorem dX10_isLeast_36 : decode cX10_isLeast 36 = .ok (.iand, 1) := by decide +kernel
theorem dX10_isLeast_37 : decode cX10_isLeast 37 = .ok (.invokevirtual 168, 3) := by decide +kernel
theorem dX10_isLeast_40 : decode cX10_isLeast 40 = .ok (.ifCond .eq 5, 3) := by decide +kernel
theorem dX10_isLeast_43 : decode cX10_isLeast 43 = .ok (.iconst 0, 1) := by decide +kernel
theorem dX10_isLeast_44 : decode cX10_isLeast 44 = .ok (.ireturn, 1) := by decide +kernel
theorem dX10_isLeast_45 : decode cX10_isLeast 45 = .ok (.iinc 2 1, 3) := by decide +kernel
theorem dX10_isLeast_48 : decode cX10_isLeast 48 = .ok (.goto (-36), 3) := by decide +kernel
theorem dX10_isLeast_51 : decode cX10_isLeast 51 = .ok (.iconst 1, 1) := by decide +kernel
theorem dX10_isLeast_52 : decode cX10_isLeast 52 = .ok (.ireturn, 1) := by decide +kernel
set_option maxRecDepth 20000 in
theorem ggX10_adds_X10_isLeast : GoodIn wsX10_adds wsX10_isLeast := goodIn_r _ [15, 1, 16, 17, 18, 14, 19, 3, 4, 5, 6, 20, 21, 22, 23, 24, 25, 26, 27, 28, 29, 30, 31, 32, 33, 34, 35, 36, 37, 38, 39, 40, 41, 42, 43, 44, 45, 46, 47, 48, 49, 50, 51, 52] rfl (by decide +kernel)
set_option maxRecDepth 20000 in
theorem gX10_adds_X10_isLeast : GoodIn wsX10_adds (wsV RX10 171 RX10 yX10_isLeast wsX10_isLeast) := goodIn_app (goodIn_of _ (by decide +kernel)) ggX10_adds_X10_isLeast
theorem dX10_adds_0 : decode cX10_adds 0 = .ok (.aload_n 0, 1) := by decide +kernel
theorem dX10_adds_1 : decode cX10_adds 1 = .ok (.iload_n 1, 1) := by decide +kernel
theorem dX10_adds_2 : decode cX10_adds 2 = .ok (.invokevirtual 171, 3) := by decide +kernel
theorem dX10_adds_5 : decode cX10_adds 5 = .ok (.ifCond .ne 4, 3) := by decide +kernel
theorem dX10_adds_8 : decode cX10_adds 8 = .ok (.return_, 1) := by decide +kernel
theorem dX10_adds_9 : decode cX10_adds 9 = .ok (.lconst 1, 1) := by decide +kernel
theorem dX10_adds_10 : decode cX10_adds 10 = .ok (.lstore_n 2, 1) := by decide +kernel
theorem dX10_adds_11 : decode cX10_adds 11 = .ok (.iconst 0, 1) := by decide +kernel
theorem dX10_adds_12 : decode cX10_adds 12 = .ok (.istore 4, 2) := by decide +kernel
theorem dX10_adds_14 : decode cX10_adds 14 = .ok (.iload 4, 2) := by decide +kernel
theorem dX10_adds_16 : decode cX10_adds 16 = .ok (.aload_n 0, 1) := by decide +kernel
theorem dX10_adds_17 : decode cX10_adds 17 = .ok (.getfield 85, 3) := by decide +kernel
theorem dX10_adds_20 : decode cX10_adds 20 = .ok (.if_icmp .ge 51, 3) := by decide +kernel
theorem dX10_adds_23 : decode cX10_adds 23 = .ok (.iload 4, 2) := by decide +kernel
theorem dX10_adds_25 : decode cX10_adds 25 = .ok (.bipush 12, 2) := by decide +kernel
theorem dX10_adds_27 : decode cX10_adds 27 = .ok (.if_icmp .ge 44, 3) := by decide +kernel
theorem dX10_adds_30 : decode cX10_adds 30 = .ok (.lload_n 2, 1) := by decide +kernel
theorem dX10_adds_31 : decode cX10_adds 31 = .ok (.iload_n 1, 1) := by decide +kernel
theorem dX10_adds_32 : decode cX10_adds 32 = .ok (.iload 4, 2) := by decide +kernel
theorem dX10_adds_34 : decode cX10_adds 34 = .ok (.ishr, 1) := by decide +kernel
theorem dX10_adds_35 : decode cX10_adds 35 = .ok (.iconst 1, 1) := by decide +kernel
theorem dX10_adds_36 : decode cX10_adds 36 = .ok (.iand, 1) := by decide +kernel
theorem dX10_adds_37 : decode cX10_adds 37 = .ok (.iconst 1, 1) := by decide +kernel
theorem dX10_adds_38 : decode cX10_adds 38 = .ok (.if_icmp .ne 14, 3) := by decide +kernel
theorem dX10_adds_41 : decode cX10_adds 41 = .ok (.aload_n 0, 1) := by decide +kernel
theorem dX10_adds_42 : decode cX10_adds 42 = .ok (.getfield 22, 3) := by decide +kernel
theorem dX10_adds_45 : decode cX10_adds 45 = .ok (.iload 4, 2) := by decide +kernel
theorem dX10_adds_47 : decode cX10_adds 47 = .ok (.iaload, 1) := by decide +kernel
theorem dX10_adds_48 : decode cX10_adds 48 = .ok (.i2l, 1) := by decide +kernel
theorem dX10_adds_49 : decode cX10_adds 49 = .ok (.goto 14, 3) := by decide +kernel
theorem dX10_adds_52 : decode cX10_adds 52 = .ok (.bipush 10, 2) := by decide +kernel
theorem dX10_adds_54 : decode cX10_adds 54 = .ok (.aload_n 0, 1) := by decide +kernel
theorem dX10_adds_55 : decode cX10_adds 55 = .ok (.getfield 22, 3) := by decide +kernel
theorem dX10_adds_58 : decode cX10_adds 58 = .ok (.iload 4, 2) := by decide +kernel
theorem dX10_adds_60 : decode cX10_adds 60 = .ok (.iaload, 1) := by decide +kernel
theorem dX10_adds_61 : decode cX10_adds 61 = .ok (.isub, 1) := by decide +kernel
theorem dX10_adds_62 : decode cX10_adds 62 = .ok (.i2l, 1) := by decide +kernel
theorem dX10_adds_63 : decode cX10_adds 63 = .ok (.lmul, 1) := by decide +kernel
theorem dX10_adds_64 : decode cX10_adds 64 = .ok (.lstore_n 2, 1) := by decide +kernel
theorem dX10_adds_65 : decode cX10_adds 65 = .ok (.iinc 4 1, 3) := by decide +kernel
theorem dX10_adds_68 : decode cX10_adds 68 = .ok (.goto (-54), 3) := by decide +kernel
theorem dX10_adds_71 : decode cX10_adds 71 = .ok (.iconst 0, 1) := by decide +kernel
theorem dX10_adds_72 : decode cX10_adds 72 = .ok (.istore 4, 2) := by decide +kernel
theorem dX10_adds_74 : decode cX10_adds 74 = .ok (.iload 4, 2) := by decide +kernel
theorem dX10_adds_76 : decode cX10_adds 76 = .ok (.aload_n 0, 1) := by decide +kernel
theorem dX10_adds_77 : decode cX10_adds 77 = .ok (.getfield 100, 3) := by decide +kernel
theorem dX10_adds_80 : decode cX10_adds 80 = .ok (.if_icmp .ge 47, 3) := by decide +kernel
theorem dX10_adds_83 : decode cX10_adds 83 = .ok (.aload_n 0, 1) := by decide +kernel
theorem dX10_adds_84 : decode cX10_adds 84 = .ok (.getfield 34, 3) := by decide +kernel
theorem dX10_adds_87 : decode cX10_adds 87 = .ok (.iload 4, 2) := by decide +kernel
theorem dX10_adds_89 : decode cX10_adds 89 = .ok (.baload, 1) := by decide +kernel
theorem dX10_adds_90 : decode cX10_adds 90 = .ok (.ifCond .ne 31, 3) := by decide +kernel
theorem dX10_adds_93 : decode cX10_adds 93 = .ok (.aload_n 0, 1) := by decide +kernel
theorem dX10_adds_94 : decode cX10_adds 94 = .ok (.getfield 53, 3) := by decide +kernel
theorem dX10_adds_97 : decode cX10_adds 97 = .ok (.iload 4, 2) := by decide +kernel
theorem dX10_adds_99 : decode cX10_adds 99 = .ok (.baload, 1) := by decide +kernel
theorem dX10_adds_100 : decode cX10_adds 100 = .ok (.ifCond .eq 21, 3) := by decide +kernel
theorem dX10_adds_103 : decode cX10_adds 103 = .ok (.aload_n 0, 1) := by decide +kernel
theorem dX10_adds_104 : decode cX10_adds 104 = .ok (.getfield 50, 3) := by decide +kernel
theorem dX10_adds_107 : decode cX10_adds 107 = .ok (.iload 4, 2) := by decide +kernel
theorem dX10_adds_109 : decode cX10_adds 109 = .ok (.iaload, 1) := by decide +kernel
theorem dX10_adds_110 : decode cX10_adds 110 = .ok (.iload_n 1, 1) := by decide +kernel
theorem dX10_adds_111 : decode cX10_adds 111 = .ok (.iand, 1) := by decide +kernel
theorem dX10_adds_112 : decode cX10_adds 112 = .ok (.ifCond .ne 9, 3) := by decide +kernel
theorem dX10_adds_115 : decode cX10_adds 115 = .ok (.lload_n 2, 1) := by decide +kernel
theorem dX10_adds_116 : decode cX10_adds 116 = .ok (.ldc2_w 174, 3) := by decide +kernel
theorem dX10_adds_119 : decode cX10_adds 119 = .ok (.lmul, 1) := by decide +kernel
theorem dX10_adds_120 : decode cX10_adds 120 = .ok (.lstore_n 2, 1) := by decide +kernel
theorem dX10_adds_121 : decode cX10_adds 121 = .ok (.iinc 4 1, 3) := by decide +kernel
theorem dX10_adds_124 : decode cX10_adds 124 = .ok (.goto (-50), 3) := by decide +kernel
theorem dX10_adds_127 : decode cX10_adds 127 = .ok (.aload_n 0, 1) := by decide +kernel
theorem dX10_adds_128 : decode cX10_adds 128 = .ok (.getfield 56, 3) := by decide +kernel
theorem dX10_adds_131 : decode cX10_adds 131 = .ok (.aload_n 0, 1) := by decide +kernel
theorem dX10_adds_132 : decode cX10_adds 132 = .ok (.getfield 176, 3) := by decide +kernel
theorem dX10_adds_135 : decode cX10_adds 135 = .ok (.iload_n 1, 1) := by decide +kernel
theorem dX10_adds_136 : decode cX10_adds 136 = .ok (.iastore, 1) := by decide +kernel
theorem dX10_adds_137 : decode cX10_adds 137 = .ok (.aload_n 0, 1) := by decide +kernel
theorem dX10_adds_138 : decode cX10_adds 138 = .ok (.getfield 59, 3) := by decide +kernel
theorem dX10_adds_141 : decode cX10_adds 141 = .ok (.aload_n 0, 1) := by decide +kernel
theorem dX10_adds_142 : decode cX10_adds 142 = .ok (.getfield 176, 3) := by decide +kernel
theorem dX10_adds_145 : decode cX10_adds 145 = .ok (.lload_n 2, 1) := by decide +kernel
theorem dX10_adds_146 : decode cX10_adds 146 = .ok (.lastore, 1) := by decide +kernel
theorem dX10_adds_147 : decode cX10_adds 147 = .ok (.aload_n 0, 1) := by decide +kernel
theorem dX10_adds_148 : decode cX10_adds 148 = .ok (.dup, 1) := by decide +kernel
theorem dX10_adds_149 : decode cX10_adds 149 = .ok (.getfield 176, 3) := by decide +kernel
theorem dX10_adds_152 : decode cX10_adds 152 = .ok (.iconst 1, 1) := by decide +kernel
theorem dX10_adds_153 : decode cX10_adds 153 = .ok (.iadd, 1) := by decide +kernel
theorem dX10_adds_154 : decode cX10_adds 154 = .ok (.putfield 176, 3) := by decide +kernel
theorem dX10_adds_157 : decode cX10_adds 157 = .ok (.return_, 1) := by decide +kernel
set_option maxRecDepth 20000 in
theorem ggX10_findSets_X10_gathers : GoodIn wsX10_findSets wsX10_gathers := goodIn_r _ [8, 2, 9, 10, 11, 12, 13, 14, 15, 16, 17, 18, 19, 20, 7, 21, 22, 23, 24, 25, 26, 3, 27, 28, 29, 30, 31, 32, 33, 34, 35, 36, 37, 38, 39, 40, 41, 42, 43, 44, 45, 46, 47, 48, 49, 50, 51, 52, 53, 70, 71, 72, 73, 74, 75, 76, 77, 78, 79, 80, 81, 82, 83, 84, 85, 86, 87, 88, 89, 90, 91, 92, 93, 94, 95, 96, 97, 98, 99, 100, 101, 102] rfl (by decide +kernel)
set_option maxRecDepth 20000 in
theorem gX10_findSets_X10_gathers : GoodIn wsX10_findSets (wsV RX10 162 RX10 yX10_gathers wsX10_gathers) := goodIn_app (goodIn_of _ (by decide +kernel)) ggX10_findSets_X10_gathers
set_option maxRecDepth 20000 in
theorem ggX10_findSets_X10_adds : GoodIn wsX10_findSets wsX10_adds := goodIn_r _ [57, 3, 58, 11, 17, 12, 13, 59, 60, 1, 61, 62, 63, 64, 7, 65, 66, 67, 68, 69, 70, 71, 72, 73, 74, 75, 76, 77, 78, 79, 80, 81, 82, 83, 84, 85, 86, 87, 88, 89, 90, 91, 92, 93, 94, 95, 96, 97, 98, 99, 100, 101, 102] rfl (by decide +kernel)
set_option maxRecDepth 20000 in
theorem gX10_findSets_X10_adds : GoodIn wsX10_findSets (wsV RX10 179 RX10 yX10_adds wsX10_adds) := goodIn_app (goodIn_of _ (by decide +kernel)) ggX10_findSets_X10_adds
theorem dX10_findSets_0 : decode cX10_findSets 0 = .ok (.aload_n 0, 1) := by decide +kernel
theorem dX10_findSets_1 : decode cX10_findSets 1 = .ok (.invokevirtual 162, 3) := by decide +kernel
theorem dX10_findSets_4 : decode cX10_findSets 4 = .ok (.aload_n 0, 1) := by decide +kernel
theorem dX10_findSets_5 : decode cX10_findSets 5 = .ok (.iconst 0, 1) := by decide +kernel
theorem dX10_findSets_6 : decode cX10_findSets 6 = .ok (.putfield 176, 3) := by decide +kernel
theorem dX10_findSets_9 : decode cX10_findSets 9 = .ok (.aload_n 0, 1) := by decide +kernel
theorem dX10_findSets_10 : decode cX10_findSets 10 = .ok (.getfield 143, 3) := by decide +kernel
theorem dX10_findSets_13 : decode cX10_findSets 13 = .ok (.ifCond .ne 4, 3) := by decide +kernel
theorem dX10_findSets_16 : decode cX10_findSets 16 = .ok (.return_, 1) := by decide +kernel
theorem dX10_findSets_17 : decode cX10_findSets 17 = .ok (.iconst 0, 1) := by decide +kernel
theorem dX10_findSets_18 : decode cX10_findSets 18 = .ok (.istore_n 1, 1) := by decide +kernel
theorem dX10_findSets_19 : decode cX10_findSets 19 = .ok (.iload_n 1, 1) := by decide +kernel
theorem dX10_findSets_20 : decode cX10_findSets 20 = .ok (.aload_n 0, 1) := by decide +kernel
theorem dX10_findSets_21 : decode cX10_findSets 21 = .ok (.getfield 85, 3) := by decide +kernel
theorem dX10_findSets_24 : decode cX10_findSets 24 = .ok (.if_icmp .ge 16, 3) := by decide +kernel
theorem dX10_findSets_27 : decode cX10_findSets 27 = .ok (.aload_n 0, 1) := by decide +kernel
theorem dX10_findSets_28 : decode cX10_findSets 28 = .ok (.iconst 1, 1) := by decide +kernel
theorem dX10_findSets_29 : decode cX10_findSets 29 = .ok (.iload_n 1, 1) := by decide +kernel
theorem dX10_findSets_30 : decode cX10_findSets 30 = .ok (.ishl, 1) := by decide +kernel
theorem dX10_findSets_31 : decode cX10_findSets 31 = .ok (.invokevirtual 179, 3) := by decide +kernel
theorem dX10_findSets_34 : decode cX10_findSets 34 = .ok (.iinc 1 1, 3) := by decide +kernel
theorem dX10_findSets_37 : decode cX10_findSets 37 = .ok (.goto (-18), 3) := by decide +kernel
theorem dX10_findSets_40 : decode cX10_findSets 40 = .ok (.iconst 0, 1) := by decide +kernel
theorem dX10_findSets_41 : decode cX10_findSets 41 = .ok (.istore_n 1, 1) := by decide +kernel
theorem dX10_findSets_42 : decode cX10_findSets 42 = .ok (.iload_n 1, 1) := by decide +kernel
theorem dX10_findSets_43 : decode cX10_findSets 43 = .ok (.aload_n 0, 1) := by decide +kernel
theorem dX10_findSets_44 : decode cX10_findSets 44 = .ok (.getfield 85, 3) := by decide +kernel
theorem dX10_findSets_47 : decode cX10_findSets 47 = .ok (.if_icmp .ge 33, 3) := by decide +kernel
theorem dX10_findSets_50 : decode cX10_findSets 50 = .ok (.iconst 0, 1) := by decide +kernel
theorem dX10_findSets_51 : decode cX10_findSets 51 = .ok (.istore_n 2, 1) := by decide +kernel
theorem dX10_findSets_52 : decode cX10_findSets 52 = .ok (.iload_n 2, 1) := by decide +kernel
theorem dX10_findSets_53 : decode cX10_findSets 53 = .ok (.iload_n 1, 1) := by decide +kernel
theorem dX10_findSets_54 : decode cX10_findSets 54 = .ok (.if_icmp .ge 20, 3) := by decide +kernel
theorem dX10_findSets_57 : decode cX10_findSets 57 = .ok (.aload_n 0, 1) := by decide +kernel
theorem dX10_findSets_58 : decode cX10_findSets 58 = .ok (.iconst 1, 1) := by decide +kernel
theorem dX10_findSets_59 : decode cX10_findSets 59 = .ok (.iload_n 2, 1) := by decide +kernel
theorem dX10_findSets_60 : decode cX10_findSets 60 = .ok (.ishl, 1) := by decide +kernel
theorem dX10_findSets_61 : decode cX10_findSets 61 = .ok (.iconst 1, 1) := by decide +kernel
theorem dX10_findSets_62 : decode cX10_findSets 62 = .ok (.iload_n 1, 1) := by decide +kernel
theorem dX10_findSets_63 : decode cX10_findSets 63 = .ok (.ishl, 1) := by decide +kernel
theorem dX10_findSets_64 : decode cX10_findSets 64 = .ok (.ior, 1) := by decide +kernel
theorem dX10_findSets_65 : decode cX10_findSets 65 = .ok (.invokevirtual 179, 3) := by decide +kernel
theorem dX10_findSets_68 : decode cX10_findSets 68 = .ok (.iinc 2 1, 3) := by decide +kernel
theorem dX10_findSets_71 : decode cX10_findSets 71 = .ok (.goto (-19), 3) := by decide +kernel
theorem dX10_findSets_74 : decode cX10_findSets 74 = .ok (.iinc 1 1, 3) := by decide +kernel
theorem dX10_findSets_77 : decode cX10_findSets 77 = .ok (.goto (-35), 3) := by decide +kernel
theorem dX10_findSets_80 : decode cX10_findSets 80 = .ok (.iconst 0, 1) := by decide +kernel
theorem dX10_findSets_81 : decode cX10_findSets 81 = .ok (.istore_n 1, 1) := by decide +kernel
theorem dX10_findSets_82 : decode cX10_findSets 82 = .ok (.iload_n 1, 1) := by decide +kernel
theorem dX10_findSets_83 : decode cX10_findSets 83 = .ok (.aload_n 0, 1) := by decide +kernel
theorem dX10_findSets_84 : decode cX10_findSets 84 = .ok (.getfield 85, 3) := by decide +kernel
theorem dX10_findSets_87 : decode cX10_findSets 87 = .ok (.if_icmp .ge 50, 3) := by decide +kernel
theorem dX10_findSets_90 : decode cX10_findSets 90 = .ok (.iconst 0, 1) := by decide +kernel
theorem dX10_findSets_91 : decode cX10_findSets 91 = .ok (.istore_n 2, 1) := by decide +kernel
theorem dX10_findSets_92 : decode cX10_findSets 92 = .ok (.iload_n 2, 1) := by decide +kernel
theorem dX10_findSets_93 : decode cX10_findSets 93 = .ok (.iload_n 1, 1) := by decide +kernel
theorem dX10_findSets_94 : decode cX10_findSets 94 = .ok (.if_icmp .ge 37, 3) := by decide +kernel
theorem dX10_findSets_97 : decode cX10_findSets 97 = .ok (.iconst 0, 1) := by decide +kernel
theorem dX10_findSets_98 : decode cX10_findSets 98 = .ok (.istore_n 3, 1) := by decide +kernel
theorem dX10_findSets_99 : decode cX10_findSets 99 = .ok (.iload_n 3, 1) := by decide +kernel
theorem dX10_findSets_100 : decode cX10_findSets 100 = .ok (.iload_n 2, 1) := by decide +kernel
theorem dX10_findSets_101 : decode cX10_findSets 101 = .ok (.if_icmp .ge 24, 3) := by decide +kernel
theorem dX10_findSets_104 : decode cX10_findSets 104 = .ok (.aload_n 0, 1) := by decide +kernel
theorem dX10_findSets_105 : decode cX10_findSets 105 = .ok (.iconst 1, 1) := by decide +kernel
theorem dX10_findSets_106 : decode cX10_findSets 106 = .ok (.iload_n 3, 1) := by decide +kernel
theorem dX10_findSets_107 : decode cX10_findSets 107 = .ok (.ishl, 1) := by decide +kernel
theorem dX10_findSets_108 : decode cX10_findSets 108 = .ok (.iconst 1, 1) := by decide +kernel
theorem dX10_findSets_109 : decode cX10_findSets 109 = .ok (.iload_n 2, 1) := by decide +kernel
theorem dX10_findSets_110 : decode cX10_findSets 110 = .ok (.ishl, 1) := by decide +kernel
theorem dX10_findSets_111 : decode cX10_findSets 111 = .ok (.ior, 1) := by decide +kernel
theorem dX10_findSets_112 : decode cX10_findSets 112 = .ok (.iconst 1, 1) := by decide +kernel
theorem dX10_findSets_113 : decode cX10_findSets 113 = .ok (.iload_n 1, 1) := by decide +kernel
theorem dX10_findSets_114 : decode cX10_findSets 114 = .ok (.ishl, 1) := by decide +kernel
theorem dX10_findSets_115 : decode cX10_findSets 115 = .ok (.ior, 1) := by decide +kernel
theorem dX10_findSets_116 : decode cX10_findSets 116 = .ok (.invokevirtual 179, 3) := by decide +kernel
theorem dX10_findSets_119 : decode cX10_findSets 119 = .ok (.iinc 3 1, 3) := by decide +kernel
theorem dX10_findSets_122 : decode cX10_findSets 122 = .ok (.goto (-23), 3) := by decide +kernel
theorem dX10_findSets_125 : decode cX10_findSets 125 = .ok (.iinc 2 1, 3) := by decide +kernel
theorem dX10_findSets_128 : decode cX10_findSets 128 = .ok (.goto (-36), 3) := by decide +kernel
theorem dX10_findSets_131 : decode cX10_findSets 131 = .ok (.iinc 1 1, 3) := by decide +kernel
theorem dX10_findSets_134 : decode cX10_findSets 134 = .ok (.goto (-52), 3) := by decide +kernel
theorem dX10_findSets_137 : decode cX10_findSets 137 = .ok (.return_, 1) := by decide +kernel
set_option maxRecDepth 20000 in
theorem ggX10_suspects_X10_findSets : GoodIn wsX10_suspects wsX10_findSets := goodIn_r _ [6, 1, 7, 8, 9, 10, 11, 5, 12, 13, 14, 15, 16, 17, 18, 19, 20, 21, 22, 23, 24, 25, 26, 27, 28, 29, 30, 31, 32, 33, 34, 35, 36, 37, 38, 39, 40, 41, 42, 43, 44, 45, 46, 47, 48, 49, 50, 51, 52, 53, 54, 55, 56, 57, 58, 59, 60, 61, 62, 63, 64, 65, 66, 67, 68, 69, 70, 71, 72, 73, 74, 75, 76, 77, 78, 79, 80, 81, 82, 83, 84, 85, 86, 87, 88, 89, 90, 91, 92, 93, 94, 95, 96, 97, 98, 99, 100, 101, 102, 103, 104, 105, 106] rfl (by decide +kernel)
set_option maxRecDepth 20000 in
theorem gX10_suspects_X10_findSets : GoodIn wsX10_suspects (wsV RX10 182 RX10 yX10_findSets wsX10_findSets) := goodIn_app (goodIn_of _ (by decide +kernel)) ggX10_suspects_X10_findSets
theorem dX10_suspects_0 : decode cX10_suspects 0 = .ok (.aload_n 0, 1) := by decide +kernel
theorem dX10_suspects_1 : decode cX10_suspects 1 = .ok (.invokevirtual 182, 3) := by decide +kernel
theorem dX10_suspects_4 : decode cX10_suspects 4 = .ok (.aload_n 0, 1) := by decide +kernel
theorem dX10_suspects_5 : decode cX10_suspects 5 = .ok (.getfield 176, 3) := by decide +kernel
theorem dX10_suspects_8 : decode cX10_suspects 8 = .ok (.ireturn, 1) := by decide +kernel
set_option maxRecDepth 20000 in
theorem ggX10_suspect_X10_findSets : GoodIn wsX10_suspect wsX10_findSets := goodIn_r _ [7, 1, 8, 9, 10, 11, 12, 6, 13, 14, 15, 16, 17, 18, 19, 20, 21, 22, 23, 24, 25, 26, 27, 28, 29, 30, 31, 32, 33, 34, 35, 36, 37, 38, 39, 40, 41, 42, 43, 44, 45, 46, 47, 48, 49, 50, 51, 52, 53, 54, 55, 56, 57, 58, 59, 60, 61, 62, 63, 64, 2, 65, 66, 67, 68, 69, 70, 71, 72, 73, 77, 78, 79, 80, 81, 82, 83, 84, 85, 86, 87, 88, 89, 90, 91, 92, 93, 94, 95, 96, 97, 98, 99, 100, 101, 102, 103, 104, 105, 106, 107, 108, 109] rfl (by decide +kernel)
set_option maxRecDepth 20000 in
theorem gX10_suspect_X10_findSets : GoodIn wsX10_suspect (wsV RX10 182 RX10 yX10_findSets wsX10_findSets) := goodIn_app (goodIn_of _ (by decide +kernel)) ggX10_suspect_X10_findSets
set_option maxRecDepth 20000 in
theorem ggX10_suspect_X10_isIn : GoodIn wsX10_suspect wsX10_isIn := goodIn_r _ [76] rfl (by decide +kernel)
set_option maxRecDepth 20000 in
theorem gX10_suspect_X10_isIn : GoodIn wsX10_suspect (va_wsS RX10 70 yX10_isIn wsX10_isIn) := goodIn_app (goodIn_of _ (by decide +kernel)) ggX10_suspect_X10_isIn
theorem dX10_suspect_0 : decode cX10_suspect 0 = .ok (.aload_n 0, 1) := by decide +kernel
theorem dX10_suspect_1 : decode cX10_suspect 1 = .ok (.invokevirtual 182, 3) := by decide +kernel
theorem dX10_suspect_4 : decode cX10_suspect 4 = .ok (.iload_n 1, 1) := by decide +kernel
theorem dX10_suspect_5 : decode cX10_suspect 5 = .ok (.aload_n 0, 1) := by decide +kernel
theorem dX10_suspect_6 : decode cX10_suspect 6 = .ok (.getfield 176, 3) := by decide +kernel
theorem dX10_suspect_9 : decode cX10_suspect 9 = .ok (.invokestatic 70, 3) := by decide +kernel
theorem dX10_suspect_12 : decode cX10_suspect 12 = .ok (.ifCond .eq 12, 3) := by decide +kernel
theorem dX10_suspect_15 : decode cX10_suspect 15 = .ok (.aload_n 0, 1) := by decide +kernel
theorem dX10_suspect_16 : decode cX10_suspect 16 = .ok (.getfield 56, 3) := by decide +kernel
theorem dX10_suspect_19 : decode cX10_suspect 19 = .ok (.iload_n 1, 1) := by decide +kernel
theorem dX10_suspect_20 : decode cX10_suspect 20 = .ok (.iaload, 1) := by decide +kernel
theorem dX10_suspect_21 : decode cX10_suspect 21 = .ok (.goto 5, 3) := by decide +kernel
theorem dX10_suspect_24 : decode cX10_suspect 24 = .ok (.bipush (-9), 2) := by decide +kernel
theorem dX10_suspect_26 : decode cX10_suspect 26 = .ok (.ireturn, 1) := by decide +kernel
set_option maxRecDepth 20000 in
theorem ggX10_odds_X10_findSets : GoodIn wsX10_odds wsX10_findSets := goodIn_r _ [7, 1, 8, 9, 10, 11, 12, 6, 13, 14, 15, 16, 17, 18, 19, 20, 21, 22, 23, 24, 25, 26, 27, 28, 29, 30, 31, 32, 33, 34, 35, 36, 37, 38, 39, 40, 41, 42, 43, 44, 45, 46, 47, 48, 49, 50, 51, 52, 53, 54, 55, 56, 57, 58, 59, 60, 61, 62, 63, 64, 65, 2, 66, 67, 68, 69, 70, 71, 72, 73, 77, 78, 79, 80, 81, 82, 83, 84, 85, 86, 87, 88, 89, 90, 91, 92, 93, 94, 95, 96, 97, 98, 99, 100, 101, 102, 103, 104, 105, 106, 107, 108, 109] rfl (by decide +kernel)
set_option maxRecDepth 20000 in
theorem gX10_odds_X10_findSets : GoodIn wsX10_odds (wsV RX10 182 RX10 yX10_findSets wsX10_findSets) := goodIn_app (goodIn_of _ (by decide +kernel)) ggX10_odds_X10_findSets
set_option maxRecDepth 20000 in
theorem ggX10_odds_X10_isIn : GoodIn wsX10_odds wsX10_isIn := goodIn_r _ [76] rfl (by decide +kernel)
set_option maxRecDepth 20000 in
theorem gX10_odds_X10_isIn : GoodIn wsX10_odds (va_wsS RX10 70 yX10_isIn wsX10_isIn) := goodIn_app (goodIn_of _ (by decide +kernel)) ggX10_odds_X10_isIn
theorem dX10_odds_0 : decode cX10_odds 0 = .ok (.aload_n 0, 1) := by decide +kernel
theorem dX10_odds_1 : decode cX10_odds 1 = .ok (.invokevirtual 182, 3) := by decide +kernel
theorem dX10_odds_4 : decode cX10_odds 4 = .ok (.iload_n 1, 1) := by decide +kernel
theorem dX10_odds_5 : decode cX10_odds 5 = .ok (.aload_n 0, 1) := by decide +kernel
theorem dX10_odds_6 : decode cX10_odds 6 = .ok (.getfield 176, 3) := by decide +kernel
theorem dX10_odds_9 : decode cX10_odds 9 = .ok (.invokestatic 70, 3) := by decide +kernel
theorem dX10_odds_12 : decode cX10_odds 12 = .ok (.ifCond .eq 12, 3) := by decide +kernel
theorem dX10_odds_15 : decode cX10_odds 15 = .ok (.aload_n 0, 1) := by decide +kernel
theorem dX10_odds_16 : decode cX10_odds 16 = .ok (.getfield 59, 3) := by decide +kernel
theorem dX10_odds_19 : decode cX10_odds 19 = .ok (.iload_n 1, 1) := by decide +kernel
theorem dX10_odds_20 : decode cX10_odds 20 = .ok (.laload, 1) := by decide +kernel
theorem dX10_odds_21 : decode cX10_odds 21 = .ok (.goto 4, 3) := by decide +kernel
theorem dX10_odds_24 : decode cX10_odds 24 = .ok (.lconst 0, 1) := by decide +kernel
theorem dX10_odds_25 : decode cX10_odds 25 = .ok (.lreturn, 1) := by decide +kernel
set_option maxRecDepth 20000 in
theorem ggX10_best_X10_findSets : GoodIn wsX10_best wsX10_findSets := goodIn_r _ [8, 1, 9, 10, 11, 12, 13, 7, 14, 15, 16, 17, 18, 19, 20, 21, 22, 23, 24, 25, 26, 27, 28, 29, 30, 31, 32, 33, 34, 35, 36, 37, 38, 39, 40, 41, 42, 43, 44, 45, 46, 47, 48, 49, 50, 51, 52, 53, 54, 55, 56, 57, 58, 59, 60, 61, 62, 63, 64, 65, 3, 2, 66, 67, 68, 69, 70, 71, 72, 73, 74, 75, 76, 77, 78, 79, 80, 81, 82, 83, 84, 85, 86, 87, 88, 89, 90, 91, 92, 93, 94, 95, 96, 97, 98, 99, 100, 101, 102, 103, 104, 105, 106] rfl (by decide +kernel)
set_option maxRecDepth 20000 in
theorem gX10_best_X10_findSets : GoodIn wsX10_best (wsV RX10 182 RX10 yX10_findSets wsX10_findSets) := goodIn_app (goodIn_of _ (by decide +kernel)) ggX10_best_X10_findSets
theorem dX10_best_0 : decode cX10_best 0 = .ok (.aload_n 0, 1) := by decide +kernel
theorem dX10_best_1 : decode cX10_best 1 = .ok (.invokevirtual 182, 3) := by decide +kernel
theorem dX10_best_4 : decode cX10_best 4 = .ok (.iconst (-1), 1) := by decide +kernel
theorem dX10_best_5 : decode cX10_best 5 = .ok (.istore_n 1, 1) := by decide +kernel
theorem dX10_best_6 : decode cX10_best 6 = .ok (.iconst 0, 1) := by decide +kernel
theorem dX10_best_7 : decode cX10_best 7 = .ok (.istore_n 2, 1) := by decide +kernel
theorem dX10_best_8 : decode cX10_best 8 = .ok (.iload_n 2, 1) := by decide +kernel
theorem dX10_best_9 : decode cX10_best 9 = .ok (.aload_n 0, 1) := by decide +kernel
theorem dX10_best_10 : decode cX10_best 10 = .ok (.getfield 176, 3) := by decide +kernel
theorem dX10_best_13 : decode cX10_best 13 = .ok (.if_icmp .ge 31, 3) := by decide +kernel
theorem dX10_best_16 : decode cX10_best 16 = .ok (.iload_n 1, 1) := by decide +kernel
theorem dX10_best_17 : decode cX10_best 17 = .ok (.ifCond .lt 19, 3) := by decide +kernel
theorem dX10_best_20 : decode cX10_best 20 = .ok (.aload_n 0, 1) := by decide +kernel
theorem dX10_best_21 : decode cX10_best 21 = .ok (.getfield 59, 3) := by decide +kernel
theorem dX10_best_24 : decode cX10_best 24 = .ok (.iload_n 2, 1) := by decide +kernel
theorem dX10_best_25 : decode cX10_best 25 = .ok (.laload, 1) := by decide +kernel
theorem dX10_best_26 : decode cX10_best 26 = .ok (.aload_n 0, 1) := by decide +kernel
theorem dX10_best_27 : decode cX10_best 27 = .ok (.getfield 59, 3) := by decide +kernel
theorem dX10_best_30 : decode cX10_best 30 = .ok (.iload_n 1, 1) := by decide +kernel
theorem dX10_best_31 : decode cX10_best 31 = .ok (.laload, 1) := by decide +kernel
theorem dX10_best_32 : decode cX10_best 32 = .ok (.lcmp, 1) := by decide +kernel
theorem dX10_best_33 : decode cX10_best 33 = .ok (.ifCond .le 5, 3) := by decide +kernel
theorem dX10_best_36 : decode cX10_best 36 = .ok (.iload_n 2, 1) := by decide +kernel
theorem dX10_best_37 : decode cX10_best 37 = .ok (.istore_n 1, 1) := by decide +kernel
theorem dX10_best_38 : decode cX10_best 38 = .ok (.iinc 2 1, 3) := by decide +kernel
theorem dX10_best_41 : decode cX10_best 41 = .ok (.goto (-33), 3) := by decide +kernel
theorem dX10_best_44 : decode cX10_best 44 = .ok (.iload_n 1, 1) := by decide +kernel
theorem dX10_best_45 : decode cX10_best 45 = .ok (.ifCond .ge 8, 3) := by decide +kernel
theorem dX10_best_48 : decode cX10_best 48 = .ok (.bipush (-9), 2) := by decide +kernel
theorem dX10_best_50 : decode cX10_best 50 = .ok (.goto 9, 3) := by decide +kernel
theorem dX10_best_53 : decode cX10_best 53 = .ok (.aload_n 0, 1) := by decide +kernel
theorem dX10_best_54 : decode cX10_best 54 = .ok (.getfield 56, 3) := by decide +kernel
theorem dX10_best_57 : decode cX10_best 57 = .ok (.iload_n 1, 1) := by decide +kernel
theorem dX10_best_58 : decode cX10_best 58 = .ok (.iaload, 1) := by decide +kernel
theorem dX10_best_59 : decode cX10_best 59 = .ok (.ireturn, 1) := by decide +kernel
set_option maxRecDepth 20000 in
theorem ggX10_parting_X10_findSets : GoodIn wsX10_parting wsX10_findSets := goodIn_r _ [16, 1, 17, 18, 19, 20, 21, 15, 22, 23, 24, 3, 25, 5, 26, 27, 28, 4, 29, 30, 31, 32, 33, 34, 35, 36, 37, 38, 39, 40, 41, 42, 43, 44, 45, 46, 47, 48, 49, 50, 51, 52, 53, 54, 55, 56, 57, 58, 59, 60, 61, 62, 63, 64, 65, 66, 67, 68, 69, 7, 6, 2, 70, 71, 72, 73, 74, 75, 76, 77, 78, 79, 80, 81, 82, 83, 84, 85, 86, 87, 88, 89, 90, 91, 92, 93, 94, 95, 96, 97, 98, 99, 100, 101, 102, 103, 104, 105, 106, 107, 108, 109, 110] rfl (by decide +kernel)
set_option maxRecDepth 20000 in
theorem gX10_parting_X10_findSets : GoodIn wsX10_parting (wsV RX10 182 RX10 yX10_findSets wsX10_findSets) := goodIn_app (goodIn_of _ (by decide +kernel)) ggX10_parting_X10_findSets
theorem dX10_parting_0 : decode cX10_parting 0 = .ok (.aload_n 0, 1) := by decide +kernel
theorem dX10_parting_1 : decode cX10_parting 1 = .ok (.invokevirtual 182, 3) := by decide +kernel
theorem dX10_parting_4 : decode cX10_parting 4 = .ok (.aload_n 0, 1) := by decide +kernel
theorem dX10_parting_5 : decode cX10_parting 5 = .ok (.getfield 176, 3) := by decide +kernel
theorem dX10_parting_8 : decode cX10_parting 8 = .ok (.ifCond .ne 6, 3) := by decide +kernel
theorem dX10_parting_11 : decode cX10_parting 11 = .ok (.bipush (-9), 2) := by decide +kernel
theorem dX10_parting_13 : decode cX10_parting 13 = .ok (.ireturn, 1) := by decide +kernel
theorem dX10_parting_14 : decode cX10_parting 14 = .ok (.lconst 0, 1) := by decide +kernel
theorem dX10_parting_15 : decode cX10_parting 15 = .ok (.lstore_n 1, 1) := by decide +kernel
theorem dX10_parting_16 : decode cX10_parting 16 = .ok (.iconst 0, 1) := by decide +kernel
theorem dX10_parting_17 : decode cX10_parting 17 = .ok (.istore_n 3, 1) := by decide +kernel
theorem dX10_parting_18 : decode cX10_parting 18 = .ok (.iload_n 3, 1) := by decide +kernel
theorem dX10_parting_19 : decode cX10_parting 19 = .ok (.aload_n 0, 1) := by decide +kernel
theorem dX10_parting_20 : decode cX10_parting 20 = .ok (.getfield 176, 3) := by decide +kernel
theorem dX10_parting_23 : decode cX10_parting 23 = .ok (.if_icmp .ge 18, 3) := by decide +kernel
theorem dX10_parting_26 : decode cX10_parting 26 = .ok (.lload_n 1, 1) := by decide +kernel
theorem dX10_parting_27 : decode cX10_parting 27 = .ok (.aload_n 0, 1) := by decide +kernel
theorem dX10_parting_28 : decode cX10_parting 28 = .ok (.getfield 59, 3) := by decide +kernel
theorem dX10_parting_31 : decode cX10_parting 31 = .ok (.iload_n 3, 1) := by decide +kernel
theorem dX10_parting_32 : decode cX10_parting 32 = .ok (.laload, 1) := by decide +kernel
theorem dX10_parting_33 : decode cX10_parting 33 = .ok (.ladd, 1) := by decide +kernel
theorem dX10_parting_34 : decode cX10_parting 34 = .ok (.lstore_n 1, 1) := by decide +kernel
theorem dX10_parting_35 : decode cX10_parting 35 = .ok (.iinc 3 1, 3) := by decide +kernel
theorem dX10_parting_38 : decode cX10_parting 38 = .ok (.goto (-20), 3) := by decide +kernel
theorem dX10_parting_41 : decode cX10_parting 41 = .ok (.bipush (-9), 2) := by decide +kernel
theorem dX10_parting_43 : decode cX10_parting 43 = .ok (.istore_n 3, 1) := by decide +kernel
theorem dX10_parting_44 : decode cX10_parting 44 = .ok (.lconst 0, 1) := by decide +kernel
theorem dX10_parting_45 : decode cX10_parting 45 = .ok (.lstore 4, 2) := by decide +kernel
theorem dX10_parting_47 : decode cX10_parting 47 = .ok (.iconst 0, 1) := by decide +kernel
theorem dX10_parting_48 : decode cX10_parting 48 = .ok (.istore 6, 2) := by decide +kernel
theorem dX10_parting_50 : decode cX10_parting 50 = .ok (.iload 6, 2) := by decide +kernel
theorem dX10_parting_52 : decode cX10_parting 52 = .ok (.aload_n 0, 1) := by decide +kernel
theorem dX10_parting_53 : decode cX10_parting 53 = .ok (.getfield 100, 3) := by decide +kernel
theorem dX10_parting_56 : decode cX10_parting 56 = .ok (.if_icmp .ge 112, 3) := by decide +kernel
theorem dX10_parting_59 : decode cX10_parting 59 = .ok (.aload_n 0, 1) := by decide +kernel
theorem dX10_parting_60 : decode cX10_parting 60 = .ok (.getfield 34, 3) := by decide +kernel
theorem dX10_parting_63 : decode cX10_parting 63 = .ok (.iload 6, 2) := by decide +kernel
theorem dX10_parting_65 : decode cX10_parting 65 = .ok (.baload, 1) := by decide +kernel
theorem dX10_parting_66 : decode cX10_parting 66 = .ok (.ifCond .ne 6, 3) := by decide +kernel
theorem dX10_parting_69 : decode cX10_parting 69 = .ok (.goto 93, 3) := by decide +kernel
theorem dX10_parting_72 : decode cX10_parting 72 = .ok (.lconst 0, 1) := by decide +kernel
theorem dX10_parting_73 : decode cX10_parting 73 = .ok (.lstore 7, 2) := by decide +kernel
theorem dX10_parting_75 : decode cX10_parting 75 = .ok (.iconst 0, 1) := by decide +kernel
theorem dX10_parting_76 : decode cX10_parting 76 = .ok (.istore 9, 2) := by decide +kernel
theorem dX10_parting_78 : decode cX10_parting 78 = .ok (.iload 9, 2) := by decide +kernel
theorem dX10_parting_80 : decode cX10_parting 80 = .ok (.aload_n 0, 1) := by decide +kernel
theorem dX10_parting_81 : decode cX10_parting 81 = .ok (.getfield 176, 3) := by decide +kernel
theorem dX10_parting_84 : decode cX10_parting 84 = .ok (.if_icmp .ge 43, 3) := by decide +kernel
theorem dX10_parting_87 : decode cX10_parting 87 = .ok (.lload 7, 2) := by decide +kernel
theorem dX10_parting_89 : decode cX10_parting 89 = .ok (.aload_n 0, 1) := by decide +kernel
theorem dX10_parting_90 : decode cX10_parting 90 = .ok (.getfield 50, 3) := by decide +kernel
theorem dX10_parting_93 : decode cX10_parting 93 = .ok (.iload 6, 2) := by decide +kernel
theorem dX10_parting_95 : decode cX10_parting 95 = .ok (.iaload, 1) := by decide +kernel
theorem dX10_parting_96 : decode cX10_parting 96 = .ok (.aload_n 0, 1) := by decide +kernel
theorem dX10_parting_97 : decode cX10_parting 97 = .ok (.getfield 56, 3) := by decide +kernel
theorem dX10_parting_100 : decode cX10_parting 100 = .ok (.iload 9, 2) := by decide +kernel
theorem dX10_parting_102 : decode cX10_parting 102 = .ok (.iaload, 1) := by decide +kernel
theorem dX10_parting_103 : decode cX10_parting 103 = .ok (.iand, 1) := by decide +kernel
theorem dX10_parting_104 : decode cX10_parting 104 = .ok (.ifCond .eq 13, 3) := by decide +kernel
theorem dX10_parting_107 : decode cX10_parting 107 = .ok (.aload_n 0, 1) := by decide +kernel
theorem dX10_parting_108 : decode cX10_parting 108 = .ok (.getfield 59, 3) := by decide +kernel
theorem dX10_parting_111 : decode cX10_parting 111 = .ok (.iload 9, 2) := by decide +kernel
theorem dX10_parting_113 : decode cX10_parting 113 = .ok (.laload, 1) := by decide +kernel
theorem dX10_parting_114 : decode cX10_parting 114 = .ok (.goto 4, 3) := by decide +kernel
theorem dX10_parting_117 : decode cX10_parting 117 = .ok (.lconst 0, 1) := by decide +kernel
theorem dX10_parting_118 : decode cX10_parting 118 = .ok (.ladd, 1) := by decide +kernel
theorem dX10_parting_119 : decode cX10_parting 119 = .ok (.lstore 7, 2) := by decide +kernel
theorem dX10_parting_121 : decode cX10_parting 121 = .ok (.iinc 9 1, 3) := by decide +kernel
theorem dX10_parting_124 : decode cX10_parting 124 = .ok (.goto (-46), 3) := by decide +kernel
theorem dX10_parting_127 : decode cX10_parting 127 = .ok (.ldc2_w 174, 3) := by decide +kernel
theorem dX10_parting_130 : decode cX10_parting 130 = .ok (.lload 7, 2) := by decide +kernel
theorem dX10_parting_132 : decode cX10_parting 132 = .ok (.lmul, 1) := by decide +kernel
theorem dX10_parting_133 : decode cX10_parting 133 = .ok (.lload_n 1, 1) := by decide +kernel
theorem dX10_parting_134 : decode cX10_parting 134 = .ok (.lsub, 1) := by decide +kernel
theorem dX10_parting_135 : decode cX10_parting 135 = .ok (.invokestatic 185, 3) := by decide +kernel
theorem dX10_parting_138 : decode cX10_parting 138 = .ok (.lstore 9, 2) := by decide +kernel
theorem dX10_parting_140 : decode cX10_parting 140 = .ok (.iload_n 3, 1) := by decide +kernel
theorem dX10_parting_141 : decode cX10_parting 141 = .ok (.ifCond .lt 14, 3) := by decide +kernel
theorem dX10_parting_144 : decode cX10_parting 144 = .ok (.lload 9, 2) := by decide +kernel
theorem dX10_parting_146 : decode cX10_parting 146 = .ok (.lload 4, 2) := by decide +kernel
theorem dX10_parting_148 : decode cX10_parting 148 = .ok (.lcmp, 1) := by decide +kernel
theorem dX10_parting_149 : decode cX10_parting 149 = .ok (.ifCond .lt 6, 3) := by decide +kernel
theorem dX10_parting_152 : decode cX10_parting 152 = .ok (.goto 10, 3) := by decide +kernel
theorem dX10_parting_155 : decode cX10_parting 155 = .ok (.iload 6, 2) := by decide +kernel
theorem dX10_parting_157 : decode cX10_parting 157 = .ok (.istore_n 3, 1) := by decide +kernel
theorem dX10_parting_158 : decode cX10_parting 158 = .ok (.lload 9, 2) := by decide +kernel
theorem dX10_parting_160 : decode cX10_parting 160 = .ok (.lstore 4, 2) := by decide +kernel
theorem dX10_parting_162 : decode cX10_parting 162 = .ok (.iinc 6 1, 3) := by decide +kernel
theorem dX10_parting_165 : decode cX10_parting 165 = .ok (.goto (-115), 3) := by decide +kernel
theorem dX10_parting_168 : decode cX10_parting 168 = .ok (.iload_n 3, 1) := by decide +kernel
theorem dX10_parting_169 : decode cX10_parting 169 = .ok (.ireturn, 1) := by decide +kernel
theorem dX10_wrote_0 : decode cX10_wrote 0 = .ok (.iload_n 1, 1) := by decide +kernel
theorem dX10_wrote_1 : decode cX10_wrote 1 = .ok (.iconst 1, 1) := by decide +kernel
theorem dX10_wrote_2 : decode cX10_wrote 2 = .ok (.isub, 1) := by decide +kernel
theorem dX10_wrote_3 : decode cX10_wrote 3 = .ok (.istore_n 3, 1) := by decide +kernel
theorem dX10_wrote_4 : decode cX10_wrote 4 = .ok (.iload_n 3, 1) := by decide +kernel
theorem dX10_wrote_5 : decode cX10_wrote 5 = .ok (.ifCond .lt 56, 3) := by decide +kernel
theorem dX10_wrote_8 : decode cX10_wrote 8 = .ok (.aload_n 0, 1) := by decide +kernel
theorem dX10_wrote_9 : decode cX10_wrote 9 = .ok (.getfield 16, 3) := by decide +kernel
theorem dX10_wrote_12 : decode cX10_wrote 12 = .ok (.iconst 4, 1) := by decide +kernel
theorem dX10_wrote_13 : decode cX10_wrote 13 = .ok (.aload_n 0, 1) := by decide +kernel
theorem dX10_wrote_14 : decode cX10_wrote 14 = .ok (.getfield 38, 3) := by decide +kernel
theorem dX10_wrote_17 : decode cX10_wrote 17 = .ok (.iload_n 3, 1) := by decide +kernel
theorem dX10_wrote_18 : decode cX10_wrote 18 = .ok (.iaload, 1) := by decide +kernel
theorem dX10_wrote_19 : decode cX10_wrote 19 = .ok (.imul, 1) := by decide +kernel
theorem dX10_wrote_20 : decode cX10_wrote 20 = .ok (.iaload, 1) := by decide +kernel
theorem dX10_wrote_21 : decode cX10_wrote 21 = .ok (.iconst 4, 1) := by decide +kernel
theorem dX10_wrote_22 : decode cX10_wrote 22 = .ok (.if_icmp .gt 33, 3) := by decide +kernel
theorem dX10_wrote_25 : decode cX10_wrote 25 = .ok (.aload_n 0, 1) := by decide +kernel
theorem dX10_wrote_26 : decode cX10_wrote 26 = .ok (.getfield 16, 3) := by decide +kernel
theorem dX10_wrote_29 : decode cX10_wrote 29 = .ok (.iconst 4, 1) := by decide +kernel
theorem dX10_wrote_30 : decode cX10_wrote 30 = .ok (.aload_n 0, 1) := by decide +kernel
theorem dX10_wrote_31 : decode cX10_wrote 31 = .ok (.getfield 38, 3) := by decide +kernel
theorem dX10_wrote_34 : decode cX10_wrote 34 = .ok (.iload_n 3, 1) := by decide +kernel
theorem dX10_wrote_35 : decode cX10_wrote 35 = .ok (.iaload, 1) := by decide +kernel
theorem dX10_wrote_36 : decode cX10_wrote 36 = .ok (.imul, 1) := by decide +kernel
theorem dX10_wrote_37 : decode cX10_wrote 37 = .ok (.iconst 1, 1) := by decide +kernel
theorem dX10_wrote_38 : decode cX10_wrote 38 = .ok (.iadd, 1) := by decide +kernel
theorem dX10_wrote_39 : decode cX10_wrote 39 = .ok (.iaload, 1) := by decide +kernel
theorem dX10_wrote_40 : decode cX10_wrote 40 = .ok (.iload_n 2, 1) := by decide +kernel
theorem dX10_wrote_41 : decode cX10_wrote 41 = .ok (.if_icmp .eq 6, 3) := by decide +kernel
theorem dX10_wrote_44 : decode cX10_wrote 44 = .ok (.goto 11, 3) := by decide +kernel
theorem dX10_wrote_47 : decode cX10_wrote 47 = .ok (.aload_n 0, 1) := by decide +kernel
theorem dX10_wrote_48 : decode cX10_wrote 48 = .ok (.getfield 63, 3) := by decide +kernel
theorem dX10_wrote_51 : decode cX10_wrote 51 = .ok (.iload_n 3, 1) := by decide +kernel
theorem dX10_wrote_52 : decode cX10_wrote 52 = .ok (.iconst 1, 1) := by decide +kernel
theorem dX10_wrote_53 : decode cX10_wrote 53 = .ok (.bastore, 1) := by decide +kernel
theorem dX10_wrote_54 : decode cX10_wrote 54 = .ok (.return_, 1) := by decide +kernel
theorem dX10_wrote_55 : decode cX10_wrote 55 = .ok (.iinc 3 (-1), 3) := by decide +kernel
theorem dX10_wrote_58 : decode cX10_wrote 58 = .ok (.goto (-54), 3) := by decide +kernel
theorem dX10_wrote_61 : decode cX10_wrote 61 = .ok (.return_, 1) := by decide +kernel
theorem dX10_latestIf_0 : decode cX10_latestIf 0 = .ok (.iload_n 1, 1) := by decide +kernel
theorem dX10_latestIf_1 : decode cX10_latestIf 1 = .ok (.iconst 1, 1) := by decide +kernel
theorem dX10_latestIf_2 : decode cX10_latestIf 2 = .ok (.isub, 1) := by decide +kernel
theorem dX10_latestIf_3 : decode cX10_latestIf 3 = .ok (.istore_n 2, 1) := by decide +kernel
theorem dX10_latestIf_4 : decode cX10_latestIf 4 = .ok (.iload_n 2, 1) := by decide +kernel
theorem dX10_latestIf_5 : decode cX10_latestIf 5 = .ok (.ifCond .lt 37, 3) := by decide +kernel
theorem dX10_latestIf_8 : decode cX10_latestIf 8 = .ok (.aload_n 0, 1) := by decide +kernel
theorem dX10_latestIf_9 : decode cX10_latestIf 9 = .ok (.getfield 16, 3) := by decide +kernel
theorem dX10_latestIf_12 : decode cX10_latestIf 12 = .ok (.iconst 4, 1) := by decide +kernel
theorem dX10_latestIf_13 : decode cX10_latestIf 13 = .ok (.aload_n 0, 1) := by decide +kernel
theorem dX10_latestIf_14 : decode cX10_latestIf 14 = .ok (.getfield 38, 3) := by decide +kernel
theorem dX10_latestIf_17 : decode cX10_latestIf 17 = .ok (.iload_n 2, 1) := by decide +kernel
theorem dX10_latestIf_18 : decode cX10_latestIf 18 = .ok (.iaload, 1) := by decide +kernel
theorem dX10_latestIf_19 : decode cX10_latestIf 19 = .ok (.imul, 1) := by decide +kernel
theorem dX10_latestIf_20 : decode cX10_latestIf 20 = .ok (.iaload, 1) := by decide +kernel
theorem dX10_latestIf_21 : decode cX10_latestIf 21 = .ok (.iconst 5, 1) := by decide +kernel
theorem dX10_latestIf_22 : decode cX10_latestIf 22 = .ok (.if_icmp .eq 6, 3) := by decide +kernel
theorem dX10_latestIf_25 : decode cX10_latestIf 25 = .ok (.goto 11, 3) := by decide +kernel
theorem dX10_latestIf_28 : decode cX10_latestIf 28 = .ok (.aload_n 0, 1) := by decide +kernel
theorem dX10_latestIf_29 : decode cX10_latestIf 29 = .ok (.getfield 63, 3) := by decide +kernel
theorem dX10_latestIf_32 : decode cX10_latestIf 32 = .ok (.iload_n 2, 1) := by decide +kernel
theorem dX10_latestIf_33 : decode cX10_latestIf 33 = .ok (.iconst 1, 1) := by decide +kernel
theorem dX10_latestIf_34 : decode cX10_latestIf 34 = .ok (.bastore, 1) := by decide +kernel
theorem dX10_latestIf_35 : decode cX10_latestIf 35 = .ok (.return_, 1) := by decide +kernel
theorem dX10_latestIf_36 : decode cX10_latestIf 36 = .ok (.iinc 2 (-1), 3) := by decide +kernel
theorem dX10_latestIf_39 : decode cX10_latestIf 39 = .ok (.goto (-35), 3) := by decide +kernel
theorem dX10_latestIf_42 : decode cX10_latestIf 42 = .ok (.return_, 1) := by decide +kernel
set_option maxRecDepth 20000 in
theorem ggX10_slice_X10_isTest : GoodIn wsX10_slice wsX10_isTest := goodIn_r _ [11, 12, 13, 14, 10, 15, 54, 55, 56, 57, 58, 59, 60, 61, 62, 63, 64, 65, 66, 67, 68, 69, 70, 71, 72, 73, 74, 75, 76, 77, 78, 79, 80, 81, 82, 83, 84, 85, 86] rfl (by decide +kernel)
set_option maxRecDepth 20000 in
theorem gX10_slice_X10_isTest : GoodIn wsX10_slice (wsV RX10 103 RX10 yX10_isTest wsX10_isTest) := goodIn_app (goodIn_of _ (by decide +kernel)) ggX10_slice_X10_isTest
set_option maxRecDepth 20000 in
theorem ggX10_slice_X10_refuse : GoodIn wsX10_slice wsX10_refuse := goodIn_r _ [19, 20, 54, 55, 56, 57, 58, 59, 60, 61, 62, 63, 64, 65, 66, 67, 68, 69, 70, 71, 72, 73, 74, 75, 76, 77, 78, 79, 80, 81, 82, 83, 84, 85, 86] rfl (by decide +kernel)
set_option maxRecDepth 20000 in
theorem gX10_slice_X10_refuse : GoodIn wsX10_slice (wsV RX10 88 RX10 yX10_refuse wsX10_refuse) := goodIn_app (goodIn_of _ (by decide +kernel)) ggX10_slice_X10_refuse
set_option maxRecDepth 20000 in
theorem ggX10_slice_X10_last : GoodIn wsX10_slice wsX10_last := goodIn_r _ [24, 25, 26, 27, 28, 10, 29, 30, 6, 31, 32, 54, 55, 56, 57, 58, 59, 60, 61, 62, 63, 64, 65, 66, 67, 68, 69, 70, 71, 72, 73, 74, 75, 76, 77, 78, 79, 80, 81, 82, 83, 84, 85, 86] rfl (by decide +kernel)
set_option maxRecDepth 20000 in
theorem gX10_slice_X10_last : GoodIn wsX10_slice (wsV RX10 133 RX10 yX10_last wsX10_last) := goodIn_app (goodIn_of _ (by decide +kernel)) ggX10_slice_X10_last
set_option maxRecDepth 20000 in
theorem ggX10_slice_X10_runs : GoodIn wsX10_slice wsX10_runs := goodIn_r _ [36, 37, 2, 1, 38, 30, 5, 6, 39, 40, 41, 42, 10, 43, 44, 45, 4, 54, 55, 56, 57, 58, 59, 60, 61, 62, 63, 64, 65, 66, 67, 68, 69, 70, 71, 72, 73, 74, 75, 76, 77, 78, 79, 80, 81, 82, 83, 84, 85, 86] rfl (by decide +kernel)
set_option maxRecDepth 20000 in
theorem gX10_slice_X10_runs : GoodIn wsX10_slice (wsV RX10 122 RX10 yX10_runs wsX10_runs) := goodIn_app (goodIn_of _ (by decide +kernel)) ggX10_slice_X10_runs
set_option maxRecDepth 20000 in
theorem ggX10_slice_X10_isIn : GoodIn wsX10_slice wsX10_isIn := goodIn_r _ [15] rfl (by decide +kernel)
set_option maxRecDepth 20000 in
theorem gX10_slice_X10_isIn : GoodIn wsX10_slice (va_wsS RX10 70 yX10_isIn wsX10_isIn) := goodIn_app (goodIn_of _ (by decide +kernel)) ggX10_slice_X10_isIn
set_option maxRecDepth 20000 in
theorem ggX10_slice_X10_wrote : GoodIn wsX10_slice wsX10_wrote := goodIn_r _ [49, 6, 5, 3, 54, 55, 56, 57, 58, 59, 60, 61, 62, 63, 64, 65, 66, 67, 68, 69, 70, 71, 72, 73, 74, 75, 76, 77, 78, 79, 80, 81, 82, 83, 84, 85, 86] rfl (by decide +kernel)
set_option maxRecDepth 20000 in
theorem gX10_slice_X10_wrote : GoodIn wsX10_slice (wsV RX10 191 RX10 yX10_wrote wsX10_wrote) := goodIn_app (goodIn_of _ (by decide +kernel)) ggX10_slice_X10_wrote
set_option maxRecDepth 20000 in
theorem ggX10_slice_X10_latestIf : GoodIn wsX10_slice wsX10_latestIf := goodIn_r _ [53, 6, 5, 3, 54, 55, 56, 57, 58, 59, 60, 61, 62, 63, 64, 65, 66, 67, 68, 69, 70, 71, 72, 73, 74, 75, 76, 77, 78, 79, 80, 81, 82, 83, 84, 85, 86] rfl (by decide +kernel)
set_option maxRecDepth 20000 in
theorem gX10_slice_X10_latestIf : GoodIn wsX10_slice (wsV RX10 194 RX10 yX10_latestIf wsX10_latestIf) := goodIn_app (goodIn_of _ (by decide +kernel)) ggX10_slice_X10_latestIf
theorem dX10_slice_0 : decode cX10_slice 0 = .ok (.aload_n 0, 1) := by decide +kernel
theorem dX10_slice_1 : decode cX10_slice 1 = .ok (.iload_n 1, 1) := by decide +kernel
theorem dX10_slice_2 : decode cX10_slice 2 = .ok (.invokevirtual 103, 3) := by decide +kernel
theorem dX10_slice_5 : decode cX10_slice 5 = .ok (.ifCond .ne 9, 3) := by decide +kernel
theorem dX10_slice_8 : decode cX10_slice 8 = .ok (.aload_n 0, 1) := by decide +kernel
theorem dX10_slice_9 : decode cX10_slice 9 = .ok (.iconst (-1), 1) := by decide +kernel
theorem dX10_slice_10 : decode cX10_slice 10 = .ok (.invokevirtual 88, 3) := by decide +kernel
theorem dX10_slice_13 : decode cX10_slice 13 = .ok (.ireturn, 1) := by decide +kernel
theorem dX10_slice_14 : decode cX10_slice 14 = .ok (.aload_n 0, 1) := by decide +kernel
theorem dX10_slice_15 : decode cX10_slice 15 = .ok (.invokevirtual 133, 3) := by decide +kernel
theorem dX10_slice_18 : decode cX10_slice 18 = .ok (.aload_n 0, 1) := by decide +kernel
theorem dX10_slice_19 : decode cX10_slice 19 = .ok (.iload_n 1, 1) := by decide +kernel
theorem dX10_slice_20 : decode cX10_slice 20 = .ok (.iconst (-1), 1) := by decide +kernel
theorem dX10_slice_21 : decode cX10_slice 21 = .ok (.iconst (-1), 1) := by decide +kernel
theorem dX10_slice_22 : decode cX10_slice 22 = .ok (.iconst 0, 1) := by decide +kernel
theorem dX10_slice_23 : decode cX10_slice 23 = .ok (.invokevirtual 122, 3) := by decide +kernel
theorem dX10_slice_26 : decode cX10_slice 26 = .ok (.iload_n 2, 1) := by decide +kernel
theorem dX10_slice_27 : decode cX10_slice 27 = .ok (.aload_n 0, 1) := by decide +kernel
theorem dX10_slice_28 : decode cX10_slice 28 = .ok (.getfield 109, 3) := by decide +kernel
theorem dX10_slice_31 : decode cX10_slice 31 = .ok (.invokestatic 70, 3) := by decide +kernel
theorem dX10_slice_34 : decode cX10_slice 34 = .ok (.ifCond .ne 9, 3) := by decide +kernel
theorem dX10_slice_37 : decode cX10_slice 37 = .ok (.aload_n 0, 1) := by decide +kernel
theorem dX10_slice_38 : decode cX10_slice 38 = .ok (.iconst (-1), 1) := by decide +kernel
theorem dX10_slice_39 : decode cX10_slice 39 = .ok (.invokevirtual 88, 3) := by decide +kernel
theorem dX10_slice_42 : decode cX10_slice 42 = .ok (.ireturn, 1) := by decide +kernel
theorem dX10_slice_43 : decode cX10_slice 43 = .ok (.iconst 0, 1) := by decide +kernel
theorem dX10_slice_44 : decode cX10_slice 44 = .ok (.istore_n 3, 1) := by decide +kernel
theorem dX10_slice_45 : decode cX10_slice 45 = .ok (.iload_n 3, 1) := by decide +kernel
theorem dX10_slice_46 : decode cX10_slice 46 = .ok (.aload_n 0, 1) := by decide +kernel
theorem dX10_slice_47 : decode cX10_slice 47 = .ok (.getfield 106, 3) := by decide +kernel
theorem dX10_slice_50 : decode cX10_slice 50 = .ok (.if_icmp .ge 30, 3) := by decide +kernel
theorem dX10_slice_53 : decode cX10_slice 53 = .ok (.aload_n 0, 1) := by decide +kernel
theorem dX10_slice_54 : decode cX10_slice 54 = .ok (.getfield 63, 3) := by decide +kernel
theorem dX10_slice_57 : decode cX10_slice 57 = .ok (.iload_n 3, 1) := by decide +kernel
theorem dX10_slice_58 : decode cX10_slice 58 = .ok (.iload_n 3, 1) := by decide +kernel
theorem dX10_slice_59 : decode cX10_slice 59 = .ok (.aload_n 0, 1) := by decide +kernel
theorem dX10_slice_60 : decode cX10_slice 60 = .ok (.getfield 44, 3) := by decide +kernel
theorem dX10_slice_63 : decode cX10_slice 63 = .ok (.iload_n 2, 1) := by decide +kernel
theorem dX10_slice_64 : decode cX10_slice 64 = .ok (.iaload, 1) := by decide +kernel
theorem dX10_slice_65 : decode cX10_slice 65 = .ok (.if_icmp .ne 7, 3) := by decide +kernel
theorem dX10_slice_68 : decode cX10_slice 68 = .ok (.iconst 1, 1) := by decide +kernel
theorem dX10_slice_69 : decode cX10_slice 69 = .ok (.goto 4, 3) := by decide +kernel
theorem dX10_slice_72 : decode cX10_slice 72 = .ok (.iconst 0, 1) := by decide +kernel
theorem dX10_slice_73 : decode cX10_slice 73 = .ok (.bastore, 1) := by decide +kernel
theorem dX10_slice_74 : decode cX10_slice 74 = .ok (.iinc 3 1, 3) := by decide +kernel
theorem dX10_slice_77 : decode cX10_slice 77 = .ok (.goto (-32), 3) := by decide +kernel
theorem dX10_slice_80 : decode cX10_slice 80 = .ok (.iconst 0, 1) := by decide +kernel
theorem dX10_slice_81 : decode cX10_slice 81 = .ok (.istore_n 3, 1) := by decide +kernel
theorem dX10_slice_82 : decode cX10_slice 82 = .ok (.aload_n 0, 1) := by decide +kernel
theorem dX10_slice_83 : decode cX10_slice 83 = .ok (.getfield 44, 3) := by decide +kernel
theorem dX10_slice_86 : decode cX10_slice 86 = .ok (.iload_n 2, 1) := by decide +kernel
theorem dX10_slice_87 : decode cX10_slice 87 = .ok (.iaload, 1) := by decide +kernel
theorem dX10_slice_88 : decode cX10_slice 88 = .ok (.istore 4, 2) := by decide +kernel
theorem dX10_slice_90 : decode cX10_slice 90 = .ok (.iload 4, 2) := by decide +kernel
theorem dX10_slice_92 : decode cX10_slice 92 = .ok (.ifCond .lt 156, 3) := by decide +kernel
theorem dX10_slice_95 : decode cX10_slice 95 = .ok (.aload_n 0, 1) := by decide +kernel
theorem dX10_slice_96 : decode cX10_slice 96 = .ok (.getfield 63, 3) := by decide +kernel
theorem dX10_slice_99 : decode cX10_slice 99 = .ok (.iload 4, 2) := by decide +kernel
theorem dX10_slice_101 : decode cX10_slice 101 = .ok (.baload, 1) := by decide +kernel
theorem dX10_slice_102 : decode cX10_slice 102 = .ok (.ifCond .ne 6, 3) := by decide +kernel
theorem dX10_slice_105 : decode cX10_slice 105 = .ok (.goto 137, 3) := by decide +kernel
theorem dX10_slice_108 : decode cX10_slice 108 = .ok (.aload_n 0, 1) := by decide +kernel
theorem dX10_slice_109 : decode cX10_slice 109 = .ok (.getfield 38, 3) := by decide +kernel
theorem dX10_slice_112 : decode cX10_slice 112 = .ok (.iload 4, 2) := by decide +kernel
theorem dX10_slice_114 : decode cX10_slice 114 = .ok (.iaload, 1) := by decide +kernel
theorem dX10_slice_115 : decode cX10_slice 115 = .ok (.istore 5, 2) := by decide +kernel
theorem dX10_slice_117 : decode cX10_slice 117 = .ok (.aload_n 0, 1) := by decide +kernel
theorem dX10_slice_118 : decode cX10_slice 118 = .ok (.getfield 16, 3) := by decide +kernel
theorem dX10_slice_121 : decode cX10_slice 121 = .ok (.iconst 4, 1) := by decide +kernel
theorem dX10_slice_122 : decode cX10_slice 122 = .ok (.iload 5, 2) := by decide +kernel
theorem dX10_slice_124 : decode cX10_slice 124 = .ok (.imul, 1) := by decide +kernel
theorem dX10_slice_125 : decode cX10_slice 125 = .ok (.iaload, 1) := by decide +kernel
theorem dX10_slice_126 : decode cX10_slice 126 = .ok (.istore 6, 2) := by decide +kernel
theorem dX10_slice_128 : decode cX10_slice 128 = .ok (.iload_n 3, 1) := by decide +kernel
theorem dX10_slice_129 : decode cX10_slice 129 = .ok (.iconst 1, 1) := by decide +kernel
theorem dX10_slice_130 : decode cX10_slice 130 = .ok (.iload 5, 2) := by decide +kernel
theorem dX10_slice_132 : decode cX10_slice 132 = .ok (.ishl, 1) := by decide +kernel
theorem dX10_slice_133 : decode cX10_slice 133 = .ok (.ior, 1) := by decide +kernel
theorem dX10_slice_134 : decode cX10_slice 134 = .ok (.istore_n 3, 1) := by decide +kernel
theorem dX10_slice_135 : decode cX10_slice 135 = .ok (.iload 6, 2) := by decide +kernel
theorem dX10_slice_137 : decode cX10_slice 137 = .ok (.ifCond .le 46, 3) := by decide +kernel
theorem dX10_slice_140 : decode cX10_slice 140 = .ok (.iload 6, 2) := by decide +kernel
theorem dX10_slice_142 : decode cX10_slice 142 = .ok (.iconst 4, 1) := by decide +kernel
theorem dX10_slice_143 : decode cX10_slice 143 = .ok (.if_icmp .ge 40, 3) := by decide +kernel
theorem dX10_slice_146 : decode cX10_slice 146 = .ok (.aload_n 0, 1) := by decide +kernel
theorem dX10_slice_147 : decode cX10_slice 147 = .ok (.iload 4, 2) := by decide +kernel
theorem dX10_slice_149 : decode cX10_slice 149 = .ok (.aload_n 0, 1) := by decide +kernel
theorem dX10_slice_150 : decode cX10_slice 150 = .ok (.getfield 16, 3) := by decide +kernel
theorem dX10_slice_153 : decode cX10_slice 153 = .ok (.iconst 4, 1) := by decide +kernel
theorem dX10_slice_154 : decode cX10_slice 154 = .ok (.iload 5, 2) := by decide +kernel
theorem dX10_slice_156 : decode cX10_slice 156 = .ok (.imul, 1) := by decide +kernel
theorem dX10_slice_157 : decode cX10_slice 157 = .ok (.iconst 2, 1) := by decide +kernel
theorem dX10_slice_158 : decode cX10_slice 158 = .ok (.iadd, 1) := by decide +kernel
theorem dX10_slice_159 : decode cX10_slice 159 = .ok (.iaload, 1) := by decide +kernel
theorem dX10_slice_160 : decode cX10_slice 160 = .ok (.invokevirtual 191, 3) := by decide +kernel
theorem dX10_slice_163 : decode cX10_slice 163 = .ok (.aload_n 0, 1) := by decide +kernel
theorem dX10_slice_164 : decode cX10_slice 164 = .ok (.iload 4, 2) := by decide +kernel
theorem dX10_slice_166 : decode cX10_slice 166 = .ok (.aload_n 0, 1) := by decide +kernel
theorem dX10_slice_167 : decode cX10_slice 167 = .ok (.getfield 16, 3) := by decide +kernel
theorem dX10_slice_170 : decode cX10_slice 170 = .ok (.iconst 4, 1) := by decide +kernel
theorem dX10_slice_171 : decode cX10_slice 171 = .ok (.iload 5, 2) := by decide +kernel
theorem dX10_slice_173 : decode cX10_slice 173 = .ok (.imul, 1) := by decide +kernel
theorem dX10_slice_174 : decode cX10_slice 174 = .ok (.iconst 3, 1) := by decide +kernel
theorem dX10_slice_175 : decode cX10_slice 175 = .ok (.iadd, 1) := by decide +kernel
theorem dX10_slice_176 : decode cX10_slice 176 = .ok (.iaload, 1) := by decide +kernel
theorem dX10_slice_177 : decode cX10_slice 177 = .ok (.invokevirtual 191, 3) := by decide +kernel
theorem dX10_slice_180 : decode cX10_slice 180 = .ok (.goto 56, 3) := by decide +kernel
theorem dX10_slice_183 : decode cX10_slice 183 = .ok (.iload 6, 2) := by decide +kernel
theorem dX10_slice_185 : decode cX10_slice 185 = .ok (.iconst 5, 1) := by decide +kernel
theorem dX10_slice_186 : decode cX10_slice 186 = .ok (.if_icmp .eq 10, 3) := by decide +kernel
theorem dX10_slice_189 : decode cX10_slice 189 = .ok (.iload 6, 2) := by decide +kernel
theorem dX10_slice_191 : decode cX10_slice 191 = .ok (.bipush 7, 2) := by decide +kernel
theorem dX10_slice_193 : decode cX10_slice 193 = .ok (.if_icmp .ne 43, 3) := by decide +kernel
theorem dX10_slice_196 : decode cX10_slice 196 = .ok (.aload_n 0, 1) := by decide +kernel
theorem dX10_slice_197 : decode cX10_slice 197 = .ok (.iload 4, 2) := by decide +kernel
theorem dX10_slice_199 : decode cX10_slice 199 = .ok (.aload_n 0, 1) := by decide +kernel
theorem dX10_slice_200 : decode cX10_slice 200 = .ok (.getfield 16, 3) := by decide +kernel
theorem dX10_slice_203 : decode cX10_slice 203 = .ok (.iconst 4, 1) := by decide +kernel
theorem dX10_slice_204 : decode cX10_slice 204 = .ok (.iload 5, 2) := by decide +kernel
theorem dX10_slice_206 : decode cX10_slice 206 = .ok (.imul, 1) := by decide +kernel
theorem dX10_slice_207 : decode cX10_slice 207 = .ok (.iconst 1, 1) := by decide +kernel
theorem dX10_slice_208 : decode cX10_slice 208 = .ok (.iadd, 1) := by decide +kernel
theorem dX10_slice_209 : decode cX10_slice 209 = .ok (.iaload, 1) := by decide +kernel
theorem dX10_slice_210 : decode cX10_slice 210 = .ok (.invokevirtual 191, 3) := by decide +kernel
theorem dX10_slice_213 : decode cX10_slice 213 = .ok (.iload 6, 2) := by decide +kernel
theorem dX10_slice_215 : decode cX10_slice 215 = .ok (.iconst 5, 1) := by decide +kernel
theorem dX10_slice_216 : decode cX10_slice 216 = .ok (.if_icmp .ne 20, 3) := by decide +kernel
theorem dX10_slice_219 : decode cX10_slice 219 = .ok (.aload_n 0, 1) := by decide +kernel
theorem dX10_slice_220 : decode cX10_slice 220 = .ok (.iload 4, 2) := by decide +kernel
theorem dX10_slice_222 : decode cX10_slice 222 = .ok (.aload_n 0, 1) := by decide +kernel
theorem dX10_slice_223 : decode cX10_slice 223 = .ok (.getfield 16, 3) := by decide +kernel
theorem dX10_slice_226 : decode cX10_slice 226 = .ok (.iconst 4, 1) := by decide +kernel
theorem dX10_slice_227 : decode cX10_slice 227 = .ok (.iload 5, 2) := by decide +kernel
theorem dX10_slice_229 : decode cX10_slice 229 = .ok (.imul, 1) := by decide +kernel
theorem dX10_slice_230 : decode cX10_slice 230 = .ok (.iconst 2, 1) := by decide +kernel
theorem dX10_slice_231 : decode cX10_slice 231 = .ok (.iadd, 1) := by decide +kernel
theorem dX10_slice_232 : decode cX10_slice 232 = .ok (.iaload, 1) := by decide +kernel
theorem dX10_slice_233 : decode cX10_slice 233 = .ok (.invokevirtual 191, 3) := by decide +kernel
theorem dX10_slice_236 : decode cX10_slice 236 = .ok (.aload_n 0, 1) := by decide +kernel
theorem dX10_slice_237 : decode cX10_slice 237 = .ok (.iload 4, 2) := by decide +kernel
theorem dX10_slice_239 : decode cX10_slice 239 = .ok (.invokevirtual 194, 3) := by decide +kernel
theorem dX10_slice_242 : decode cX10_slice 242 = .ok (.iinc 4 (-1), 3) := by decide +kernel
theorem dX10_slice_245 : decode cX10_slice 245 = .ok (.goto (-155), 3) := by decide +kernel
theorem dX10_slice_248 : decode cX10_slice 248 = .ok (.iload_n 3, 1) := by decide +kernel
theorem dX10_slice_249 : decode cX10_slice 249 = .ok (.ireturn, 1) := by decide +kernel
set_option maxRecDepth 20000 in
theorem ggX10_ifs_X10_isTest : GoodIn wsX10_ifs wsX10_isTest := goodIn_r _ [6, 7, 8, 9, 5, 10, 45, 46, 47, 48, 49, 50, 51, 52, 53, 54, 55, 56, 57, 58, 59, 60, 61, 62, 63, 64, 65, 66, 67, 68, 69, 70, 71, 72, 73, 74, 75, 76, 77] rfl (by decide +kernel)
set_option maxRecDepth 20000 in
theorem gX10_ifs_X10_isTest : GoodIn wsX10_ifs (wsV RX10 103 RX10 yX10_isTest wsX10_isTest) := goodIn_app (goodIn_of _ (by decide +kernel)) ggX10_ifs_X10_isTest
set_option maxRecDepth 20000 in
theorem ggX10_ifs_X10_refuse : GoodIn wsX10_ifs wsX10_refuse := goodIn_r _ [14, 15, 45, 46, 47, 48, 49, 50, 51, 52, 53, 54, 55, 56, 57, 58, 59, 60, 61, 62, 63, 64, 65, 66, 67, 68, 69, 70, 71, 72, 73, 74, 75, 76, 77] rfl (by decide +kernel)
set_option maxRecDepth 20000 in
theorem gX10_ifs_X10_refuse : GoodIn wsX10_ifs (wsV RX10 88 RX10 yX10_refuse wsX10_refuse) := goodIn_app (goodIn_of _ (by decide +kernel)) ggX10_ifs_X10_refuse
set_option maxRecDepth 20000 in
theorem ggX10_ifs_X10_last : GoodIn wsX10_ifs wsX10_last := goodIn_r _ [19, 20, 21, 22, 23, 5, 24, 25, 26, 27, 28, 45, 46, 47, 48, 49, 50, 51, 52, 53, 54, 55, 56, 57, 58, 59, 60, 61, 62, 63, 64, 65, 66, 67, 68, 69, 70, 71, 72, 73, 74, 75, 76, 77] rfl (by decide +kernel)
set_option maxRecDepth 20000 in
theorem gX10_ifs_X10_last : GoodIn wsX10_ifs (wsV RX10 133 RX10 yX10_last wsX10_last) := goodIn_app (goodIn_of _ (by decide +kernel)) ggX10_ifs_X10_last
set_option maxRecDepth 20000 in
theorem ggX10_ifs_X10_runs : GoodIn wsX10_ifs wsX10_runs := goodIn_r _ [32, 33, 34, 35, 1, 25, 36, 26, 37, 38, 39, 40, 5, 41, 42, 43, 44, 45, 46, 47, 48, 49, 50, 51, 52, 53, 54, 55, 56, 57, 58, 59, 60, 61, 62, 63, 64, 65, 66, 67, 68, 69, 70, 71, 72, 73, 74, 75, 76, 77] rfl (by decide +kernel)
set_option maxRecDepth 20000 in
theorem gX10_ifs_X10_runs : GoodIn wsX10_ifs (wsV RX10 122 RX10 yX10_runs wsX10_runs) := goodIn_app (goodIn_of _ (by decide +kernel)) ggX10_ifs_X10_runs
theorem dX10_ifs_0 : decode cX10_ifs 0 = .ok (.aload_n 0, 1) := by decide +kernel
theorem dX10_ifs_1 : decode cX10_ifs 1 = .ok (.iload_n 1, 1) := by decide +kernel
theorem dX10_ifs_2 : decode cX10_ifs 2 = .ok (.invokevirtual 103, 3) := by decide +kernel
theorem dX10_ifs_5 : decode cX10_ifs 5 = .ok (.ifCond .ne 9, 3) := by decide +kernel
theorem dX10_ifs_8 : decode cX10_ifs 8 = .ok (.aload_n 0, 1) := by decide +kernel
theorem dX10_ifs_9 : decode cX10_ifs 9 = .ok (.iconst (-1), 1) := by decide +kernel
theorem dX10_ifs_10 : decode cX10_ifs 10 = .ok (.invokevirtual 88, 3) := by decide +kernel
theorem dX10_ifs_13 : decode cX10_ifs 13 = .ok (.ireturn, 1) := by decide +kernel
theorem dX10_ifs_14 : decode cX10_ifs 14 = .ok (.aload_n 0, 1) := by decide +kernel
theorem dX10_ifs_15 : decode cX10_ifs 15 = .ok (.invokevirtual 133, 3) := by decide +kernel
theorem dX10_ifs_18 : decode cX10_ifs 18 = .ok (.aload_n 0, 1) := by decide +kernel
theorem dX10_ifs_19 : decode cX10_ifs 19 = .ok (.iload_n 1, 1) := by decide +kernel
theorem dX10_ifs_20 : decode cX10_ifs 20 = .ok (.iconst (-1), 1) := by decide +kernel
theorem dX10_ifs_21 : decode cX10_ifs 21 = .ok (.iconst (-1), 1) := by decide +kernel
theorem dX10_ifs_22 : decode cX10_ifs 22 = .ok (.iconst 0, 1) := by decide +kernel
theorem dX10_ifs_23 : decode cX10_ifs 23 = .ok (.invokevirtual 122, 3) := by decide +kernel
theorem dX10_ifs_26 : decode cX10_ifs 26 = .ok (.aload_n 0, 1) := by decide +kernel
theorem dX10_ifs_27 : decode cX10_ifs 27 = .ok (.getfield 112, 3) := by decide +kernel
theorem dX10_ifs_30 : decode cX10_ifs 30 = .ok (.ireturn, 1) := by decide +kernel
set_option maxRecDepth 20000 in
theorem ggX10_turns_X10_runs : GoodIn wsX10_turns wsX10_runs := goodIn_r _ [5, 6, 7, 8, 9, 10, 11, 12, 13, 14, 15, 16, 4, 17, 18, 19, 20, 27, 28, 29, 30, 31, 32, 33, 34, 35, 36, 37, 38, 39, 40, 41, 42, 43, 44, 45, 46, 47, 48, 49, 50, 51, 52, 53, 54, 55, 56, 57, 58, 59] rfl (by decide +kernel)
set_option maxRecDepth 20000 in
theorem gX10_turns_X10_runs : GoodIn wsX10_turns (wsV RX10 122 RX10 yX10_runs wsX10_runs) := goodIn_app (goodIn_of _ (by decide +kernel)) ggX10_turns_X10_runs
set_option maxRecDepth 20000 in
theorem ggX10_turns_X10_isWell : GoodIn wsX10_turns wsX10_isWell := goodIn_r _ [24, 13, 8, 25, 19, 26, 27, 28, 29, 30, 31, 32, 33, 34, 35, 36, 37, 38, 39, 40, 41, 42, 43, 44, 45, 46, 47, 48, 49, 50, 51, 52, 53, 54, 55, 56, 57, 58, 59] rfl (by decide +kernel)
set_option maxRecDepth 20000 in
theorem gX10_turns_X10_isWell : GoodIn wsX10_turns (wsV RX10 126 RX10 yX10_isWell wsX10_isWell) := goodIn_app (goodIn_of _ (by decide +kernel)) ggX10_turns_X10_isWell
theorem dX10_turns_0 : decode cX10_turns 0 = .ok (.aload_n 0, 1) := by decide +kernel
theorem dX10_turns_1 : decode cX10_turns 1 = .ok (.iload_n 1, 1) := by decide +kernel
theorem dX10_turns_2 : decode cX10_turns 2 = .ok (.iload_n 2, 1) := by decide +kernel
theorem dX10_turns_3 : decode cX10_turns 3 = .ok (.iconst (-1), 1) := by decide +kernel
theorem dX10_turns_4 : decode cX10_turns 4 = .ok (.iconst 0, 1) := by decide +kernel
theorem dX10_turns_5 : decode cX10_turns 5 = .ok (.invokevirtual 122, 3) := by decide +kernel
theorem dX10_turns_8 : decode cX10_turns 8 = .ok (.aload_n 0, 1) := by decide +kernel
theorem dX10_turns_9 : decode cX10_turns 9 = .ok (.iload_n 1, 1) := by decide +kernel
theorem dX10_turns_10 : decode cX10_turns 10 = .ok (.invokevirtual 126, 3) := by decide +kernel
theorem dX10_turns_13 : decode cX10_turns 13 = .ok (.ireturn, 1) := by decide +kernel
set_option maxRecDepth 20000 in
theorem ggX10_turn_X10_isTest : GoodIn wsX10_turn wsX10_isTest := goodIn_r _ [6, 7, 8, 9, 5, 10, 55, 56, 57, 58, 59, 60, 61, 62, 63, 64, 65, 66, 67, 68, 69, 70, 71, 72, 73, 74, 75, 76, 77, 78, 79, 80, 81, 82, 83, 84, 85, 86, 87] rfl (by decide +kernel)
set_option maxRecDepth 20000 in
theorem gX10_turn_X10_isTest : GoodIn wsX10_turn (wsV RX10 103 RX10 yX10_isTest wsX10_isTest) := goodIn_app (goodIn_of _ (by decide +kernel)) ggX10_turn_X10_isTest
set_option maxRecDepth 20000 in
theorem ggX10_turn_X10_refuse : GoodIn wsX10_turn wsX10_refuse := goodIn_r _ [14, 15, 55, 56, 57, 58, 59, 60, 61, 62, 63, 64, 65, 66, 67, 68, 69, 70, 71, 72, 73, 74, 75, 76, 77, 78, 79, 80, 81, 82, 83, 84, 85, 86, 87] rfl (by decide +kernel)
set_option maxRecDepth 20000 in
theorem gX10_turn_X10_refuse : GoodIn wsX10_turn (wsV RX10 88 RX10 yX10_refuse wsX10_refuse) := goodIn_app (goodIn_of _ (by decide +kernel)) ggX10_turn_X10_refuse
set_option maxRecDepth 20000 in
theorem ggX10_turn_X10_last : GoodIn wsX10_turn wsX10_last := goodIn_r _ [19, 20, 21, 22, 23, 5, 24, 25, 26, 27, 28, 55, 56, 57, 58, 59, 60, 61, 62, 63, 64, 65, 66, 67, 68, 69, 70, 71, 72, 73, 74, 75, 76, 77, 78, 79, 80, 81, 82, 83, 84, 85, 86, 87] rfl (by decide +kernel)
set_option maxRecDepth 20000 in
theorem gX10_turn_X10_last : GoodIn wsX10_turn (wsV RX10 133 RX10 yX10_last wsX10_last) := goodIn_app (goodIn_of _ (by decide +kernel)) ggX10_turn_X10_last
set_option maxRecDepth 20000 in
theorem ggX10_turn_X10_runs : GoodIn wsX10_turn wsX10_runs := goodIn_r _ [32, 33, 34, 35, 1, 25, 36, 26, 37, 38, 39, 40, 5, 41, 42, 43, 44, 55, 56, 57, 58, 59, 60, 61, 62, 63, 64, 65, 66, 67, 68, 69, 70, 71, 72, 73, 74, 75, 76, 77, 78, 79, 80, 81, 82, 83, 84, 85, 86, 87] rfl (by decide +kernel)
set_option maxRecDepth 20000 in
theorem gX10_turn_X10_runs : GoodIn wsX10_turn (wsV RX10 122 RX10 yX10_runs wsX10_runs) := goodIn_app (goodIn_of _ (by decide +kernel)) ggX10_turn_X10_runs
set_option maxRecDepth 20000 in
theorem ggX10_turn_X10_isIn : GoodIn wsX10_turn wsX10_isIn := goodIn_r _ [10] rfl (by decide +kernel)
set_option maxRecDepth 20000 in
theorem gX10_turn_X10_isIn : GoodIn wsX10_turn (va_wsS RX10 70 yX10_isIn wsX10_isIn) := goodIn_app (goodIn_of _ (by decide +kernel)) ggX10_turn_X10_isIn
set_option maxRecDepth 20000 in
theorem ggX10_turn_X10_turns : GoodIn wsX10_turn wsX10_turns := goodIn_r _ [48, 29, 30, 31, 5, 32, 33, 34, 35, 1, 25, 36, 26, 37, 38, 39, 40, 41, 42, 43, 44, 49, 50, 51, 52, 53, 54, 55, 56, 57, 58, 59, 60, 61, 62, 63, 64, 65, 66, 67, 68, 69, 70, 71, 72, 73, 74, 75, 76, 77, 78, 79, 80, 81, 82, 83, 84, 85, 86, 87] rfl (by decide +kernel)
set_option maxRecDepth 20000 in
theorem gX10_turn_X10_turns : GoodIn wsX10_turn (wsV RX10 197 RX10 yX10_turns wsX10_turns) := goodIn_app (goodIn_of _ (by decide +kernel)) ggX10_turn_X10_turns
theorem dX10_turn_0 : decode cX10_turn 0 = .ok (.aload_n 0, 1) := by decide +kernel
theorem dX10_turn_1 : decode cX10_turn 1 = .ok (.iload_n 1, 1) := by decide +kernel
theorem dX10_turn_2 : decode cX10_turn 2 = .ok (.invokevirtual 103, 3) := by decide +kernel
theorem dX10_turn_5 : decode cX10_turn 5 = .ok (.ifCond .ne 9, 3) := by decide +kernel
theorem dX10_turn_8 : decode cX10_turn 8 = .ok (.aload_n 0, 1) := by decide +kernel
theorem dX10_turn_9 : decode cX10_turn 9 = .ok (.iconst (-1), 1) := by decide +kernel
theorem dX10_turn_10 : decode cX10_turn 10 = .ok (.invokevirtual 88, 3) := by decide +kernel
theorem dX10_turn_13 : decode cX10_turn 13 = .ok (.ireturn, 1) := by decide +kernel
theorem dX10_turn_14 : decode cX10_turn 14 = .ok (.aload_n 0, 1) := by decide +kernel
theorem dX10_turn_15 : decode cX10_turn 15 = .ok (.invokevirtual 133, 3) := by decide +kernel
theorem dX10_turn_18 : decode cX10_turn 18 = .ok (.aload_n 0, 1) := by decide +kernel
theorem dX10_turn_19 : decode cX10_turn 19 = .ok (.iload_n 1, 1) := by decide +kernel
theorem dX10_turn_20 : decode cX10_turn 20 = .ok (.iconst (-1), 1) := by decide +kernel
theorem dX10_turn_21 : decode cX10_turn 21 = .ok (.iconst (-1), 1) := by decide +kernel
theorem dX10_turn_22 : decode cX10_turn 22 = .ok (.iconst 0, 1) := by decide +kernel
theorem dX10_turn_23 : decode cX10_turn 23 = .ok (.invokevirtual 122, 3) := by decide +kernel
theorem dX10_turn_26 : decode cX10_turn 26 = .ok (.iload_n 2, 1) := by decide +kernel
theorem dX10_turn_27 : decode cX10_turn 27 = .ok (.aload_n 0, 1) := by decide +kernel
theorem dX10_turn_28 : decode cX10_turn 28 = .ok (.getfield 112, 3) := by decide +kernel
theorem dX10_turn_31 : decode cX10_turn 31 = .ok (.invokestatic 70, 3) := by decide +kernel
theorem dX10_turn_34 : decode cX10_turn 34 = .ok (.ifCond .ne 9, 3) := by decide +kernel
theorem dX10_turn_37 : decode cX10_turn 37 = .ok (.aload_n 0, 1) := by decide +kernel
theorem dX10_turn_38 : decode cX10_turn 38 = .ok (.iconst (-1), 1) := by decide +kernel
theorem dX10_turn_39 : decode cX10_turn 39 = .ok (.invokevirtual 88, 3) := by decide +kernel
theorem dX10_turn_42 : decode cX10_turn 42 = .ok (.ireturn, 1) := by decide +kernel
theorem dX10_turn_43 : decode cX10_turn 43 = .ok (.aload_n 0, 1) := by decide +kernel
theorem dX10_turn_44 : decode cX10_turn 44 = .ok (.iload_n 1, 1) := by decide +kernel
theorem dX10_turn_45 : decode cX10_turn 45 = .ok (.iload_n 2, 1) := by decide +kernel
theorem dX10_turn_46 : decode cX10_turn 46 = .ok (.invokevirtual 197, 3) := by decide +kernel
theorem dX10_turn_49 : decode cX10_turn 49 = .ok (.ifCond .eq 7, 3) := by decide +kernel
theorem dX10_turn_52 : decode cX10_turn 52 = .ok (.iconst 1, 1) := by decide +kernel
theorem dX10_turn_53 : decode cX10_turn 53 = .ok (.goto 4, 3) := by decide +kernel
theorem dX10_turn_56 : decode cX10_turn 56 = .ok (.iconst 0, 1) := by decide +kernel
theorem dX10_turn_57 : decode cX10_turn 57 = .ok (.ireturn, 1) := by decide +kernel
set_option maxRecDepth 20000 in
theorem ggX10_turnFor_X10_isTest : GoodIn wsX10_turnFor wsX10_isTest := goodIn_r _ [6, 7, 8, 9, 5, 10, 59, 60, 61, 62, 63, 64, 65, 66, 67, 68, 69, 70, 71, 72, 73, 74, 75, 76, 77, 78, 79, 80, 81, 82, 83, 84, 85, 86, 87, 88, 89, 90, 91] rfl (by decide +kernel)
set_option maxRecDepth 20000 in
theorem gX10_turnFor_X10_isTest : GoodIn wsX10_turnFor (wsV RX10 103 RX10 yX10_isTest wsX10_isTest) := goodIn_app (goodIn_of _ (by decide +kernel)) ggX10_turnFor_X10_isTest
set_option maxRecDepth 20000 in
theorem ggX10_turnFor_X10_refuse : GoodIn wsX10_turnFor wsX10_refuse := goodIn_r _ [14, 15, 59, 60, 61, 62, 63, 64, 65, 66, 67, 68, 69, 70, 71, 72, 73, 74, 75, 76, 77, 78, 79, 80, 81, 82, 83, 84, 85, 86, 87, 88, 89, 90, 91] rfl (by decide +kernel)
set_option maxRecDepth 20000 in
theorem gX10_turnFor_X10_refuse : GoodIn wsX10_turnFor (wsV RX10 88 RX10 yX10_refuse wsX10_refuse) := goodIn_app (goodIn_of _ (by decide +kernel)) ggX10_turnFor_X10_refuse
set_option maxRecDepth 20000 in
theorem ggX10_turnFor_X10_last : GoodIn wsX10_turnFor wsX10_last := goodIn_r _ [19, 20, 21, 22, 23, 5, 24, 25, 26, 27, 28, 59, 60, 61, 62, 63, 64, 65, 66, 67, 68, 69, 70, 71, 72, 73, 74, 75, 76, 77, 78, 79, 80, 81, 82, 83, 84, 85, 86, 87, 88, 89, 90, 91] rfl (by decide +kernel)
set_option maxRecDepth 20000 in
theorem gX10_turnFor_X10_last : GoodIn wsX10_turnFor (wsV RX10 133 RX10 yX10_last wsX10_last) := goodIn_app (goodIn_of _ (by decide +kernel)) ggX10_turnFor_X10_last
set_option maxRecDepth 20000 in
theorem ggX10_turnFor_X10_passesOf : GoodIn wsX10_turnFor wsX10_passesOf := goodIn_r _ [32, 33, 34, 35, 5, 36, 37, 38, 39, 1, 25, 40, 26, 41, 42, 43, 44, 45, 46, 47, 48, 49, 50, 51, 52, 53, 54, 59, 60, 61, 62, 63, 64, 65, 66, 67, 68, 69, 70, 71, 72, 73, 74, 75, 76, 77, 78, 79, 80, 81, 82, 83, 84, 85, 86, 87, 88, 89, 90, 91] rfl (by decide +kernel)
set_option maxRecDepth 20000 in
theorem gX10_turnFor_X10_passesOf : GoodIn wsX10_turnFor (wsV RX10 136 RX10 yX10_passesOf wsX10_passesOf) := goodIn_app (goodIn_of _ (by decide +kernel)) ggX10_turnFor_X10_passesOf
set_option maxRecDepth 20000 in
theorem ggX10_turnFor_X10_turns : GoodIn wsX10_turnFor wsX10_turns := goodIn_r _ [58, 33, 34, 35, 5, 36, 37, 38, 39, 1, 25, 40, 26, 41, 42, 43, 44, 45, 46, 47, 48, 49, 50, 51, 52, 53, 54, 59, 60, 61, 62, 63, 64, 65, 66, 67, 68, 69, 70, 71, 72, 73, 74, 75, 76, 77, 78, 79, 80, 81, 82, 83, 84, 85, 86, 87, 88, 89, 90, 91] rfl (by decide +kernel)
set_option maxRecDepth 20000 in
theorem gX10_turnFor_X10_turns : GoodIn wsX10_turnFor (wsV RX10 197 RX10 yX10_turns wsX10_turns) := goodIn_app (goodIn_of _ (by decide +kernel)) ggX10_turnFor_X10_turns
theorem dX10_turnFor_0 : decode cX10_turnFor 0 = .ok (.aload_n 0, 1) := by decide +kernel
theorem dX10_turnFor_1 : decode cX10_turnFor 1 = .ok (.iload_n 1, 1) := by decide +kernel
theorem dX10_turnFor_2 : decode cX10_turnFor 2 = .ok (.invokevirtual 103, 3) := by decide +kernel
theorem dX10_turnFor_5 : decode cX10_turnFor 5 = .ok (.ifCond .ne 9, 3) := by decide +kernel
theorem dX10_turnFor_8 : decode cX10_turnFor 8 = .ok (.aload_n 0, 1) := by decide +kernel
theorem dX10_turnFor_9 : decode cX10_turnFor 9 = .ok (.iconst (-1), 1) := by decide +kernel
theorem dX10_turnFor_10 : decode cX10_turnFor 10 = .ok (.invokevirtual 88, 3) := by decide +kernel
theorem dX10_turnFor_13 : decode cX10_turnFor 13 = .ok (.ireturn, 1) := by decide +kernel
theorem dX10_turnFor_14 : decode cX10_turnFor 14 = .ok (.aload_n 0, 1) := by decide +kernel
theorem dX10_turnFor_15 : decode cX10_turnFor 15 = .ok (.invokevirtual 133, 3) := by decide +kernel
theorem dX10_turnFor_18 : decode cX10_turnFor 18 = .ok (.aload_n 0, 1) := by decide +kernel
theorem dX10_turnFor_19 : decode cX10_turnFor 19 = .ok (.iload_n 1, 1) := by decide +kernel
theorem dX10_turnFor_20 : decode cX10_turnFor 20 = .ok (.invokevirtual 136, 3) := by decide +kernel
theorem dX10_turnFor_23 : decode cX10_turnFor 23 = .ok (.ifCond .eq 10, 3) := by decide +kernel
theorem dX10_turnFor_26 : decode cX10_turnFor 26 = .ok (.aload_n 0, 1) := by decide +kernel
theorem dX10_turnFor_27 : decode cX10_turnFor 27 = .ok (.bipush (-3), 2) := by decide +kernel
theorem dX10_turnFor_29 : decode cX10_turnFor 29 = .ok (.invokevirtual 88, 3) := by decide +kernel
theorem dX10_turnFor_32 : decode cX10_turnFor 32 = .ok (.ireturn, 1) := by decide +kernel
theorem dX10_turnFor_33 : decode cX10_turnFor 33 = .ok (.aload_n 0, 1) := by decide +kernel
theorem dX10_turnFor_34 : decode cX10_turnFor 34 = .ok (.getfield 112, 3) := by decide +kernel
theorem dX10_turnFor_37 : decode cX10_turnFor 37 = .ok (.istore_n 2, 1) := by decide +kernel
theorem dX10_turnFor_38 : decode cX10_turnFor 38 = .ok (.iconst 0, 1) := by decide +kernel
theorem dX10_turnFor_39 : decode cX10_turnFor 39 = .ok (.istore_n 3, 1) := by decide +kernel
theorem dX10_turnFor_40 : decode cX10_turnFor 40 = .ok (.iload_n 3, 1) := by decide +kernel
theorem dX10_turnFor_41 : decode cX10_turnFor 41 = .ok (.iload_n 2, 1) := by decide +kernel
theorem dX10_turnFor_42 : decode cX10_turnFor 42 = .ok (.if_icmp .ge 20, 3) := by decide +kernel
theorem dX10_turnFor_45 : decode cX10_turnFor 45 = .ok (.aload_n 0, 1) := by decide +kernel
theorem dX10_turnFor_46 : decode cX10_turnFor 46 = .ok (.iload_n 1, 1) := by decide +kernel
theorem dX10_turnFor_47 : decode cX10_turnFor 47 = .ok (.iload_n 3, 1) := by decide +kernel
theorem dX10_turnFor_48 : decode cX10_turnFor 48 = .ok (.invokevirtual 197, 3) := by decide +kernel
theorem dX10_turnFor_51 : decode cX10_turnFor 51 = .ok (.ifCond .eq 5, 3) := by decide +kernel
theorem dX10_turnFor_54 : decode cX10_turnFor 54 = .ok (.iload_n 3, 1) := by decide +kernel
theorem dX10_turnFor_55 : decode cX10_turnFor 55 = .ok (.ireturn, 1) := by decide +kernel
theorem dX10_turnFor_56 : decode cX10_turnFor 56 = .ok (.iinc 3 1, 3) := by decide +kernel
theorem dX10_turnFor_59 : decode cX10_turnFor 59 = .ok (.goto (-19), 3) := by decide +kernel
theorem dX10_turnFor_62 : decode cX10_turnFor 62 = .ok (.bipush (-9), 2) := by decide +kernel
theorem dX10_turnFor_64 : decode cX10_turnFor 64 = .ok (.ireturn, 1) := by decide +kernel
set_option maxRecDepth 20000 in
theorem ggX10_wrongMend_X10_isTest : GoodIn wsX10_wrongMend wsX10_isTest := goodIn_r _ [6, 7, 8, 9, 5, 10, 54, 55, 56, 57, 58, 59, 60, 61, 62, 63, 64, 65, 66, 67, 68, 69, 70, 71, 72, 73, 74, 75, 76, 77, 78, 79, 80, 81, 82, 83, 84, 85, 86] rfl (by decide +kernel)
set_option maxRecDepth 20000 in
theorem gX10_wrongMend_X10_isTest : GoodIn wsX10_wrongMend (wsV RX10 103 RX10 yX10_isTest wsX10_isTest) := goodIn_app (goodIn_of _ (by decide +kernel)) ggX10_wrongMend_X10_isTest
set_option maxRecDepth 20000 in
theorem ggX10_wrongMend_X10_isLine : GoodIn wsX10_wrongMend wsX10_isLine := goodIn_r _ [14, 15, 8, 9, 5, 10, 54, 55, 56, 57, 58, 59, 60, 61, 62, 63, 64, 65, 66, 67, 68, 69, 70, 71, 72, 73, 74, 75, 76, 77, 78, 79, 80, 81, 82, 83, 84, 85, 86] rfl (by decide +kernel)
set_option maxRecDepth 20000 in
theorem gX10_wrongMend_X10_isLine : GoodIn wsX10_wrongMend (wsV RX10 96 RX10 yX10_isLine wsX10_isLine) := goodIn_app (goodIn_of _ (by decide +kernel)) ggX10_wrongMend_X10_isLine
set_option maxRecDepth 20000 in
theorem ggX10_wrongMend_X10_last : GoodIn wsX10_wrongMend wsX10_last := goodIn_r _ [19, 20, 21, 22, 23, 5, 24, 15, 1, 25, 26, 54, 55, 56, 57, 58, 59, 60, 61, 62, 63, 64, 65, 66, 67, 68, 69, 70, 71, 72, 73, 74, 75, 76, 77, 78, 79, 80, 81, 82, 83, 84, 85, 86] rfl (by decide +kernel)
set_option maxRecDepth 20000 in
theorem gX10_wrongMend_X10_last : GoodIn wsX10_wrongMend (wsV RX10 133 RX10 yX10_last wsX10_last) := goodIn_app (goodIn_of _ (by decide +kernel)) ggX10_wrongMend_X10_last
set_option maxRecDepth 20000 in
theorem ggX10_wrongMend_X10_passesOf : GoodIn wsX10_wrongMend wsX10_passesOf := goodIn_r _ [30, 31, 32, 33, 5, 34, 35, 36, 37, 38, 15, 39, 1, 40, 41, 42, 43, 44, 45, 46, 47, 48, 49, 50, 51, 52, 53, 54, 55, 56, 57, 58, 59, 60, 61, 62, 63, 64, 65, 66, 67, 68, 69, 70, 71, 72, 73, 74, 75, 76, 77, 78, 79, 80, 81, 82, 83, 84, 85, 86] rfl (by decide +kernel)
set_option maxRecDepth 20000 in
theorem gX10_wrongMend_X10_passesOf : GoodIn wsX10_wrongMend (wsV RX10 136 RX10 yX10_passesOf wsX10_passesOf) := goodIn_app (goodIn_of _ (by decide +kernel)) ggX10_wrongMend_X10_passesOf
theorem dX10_wrongMend_0 : decode cX10_wrongMend 0 = .ok (.aload_n 0, 1) := by decide +kernel
theorem dX10_wrongMend_1 : decode cX10_wrongMend 1 = .ok (.iload_n 1, 1) := by decide +kernel
theorem dX10_wrongMend_2 : decode cX10_wrongMend 2 = .ok (.invokevirtual 103, 3) := by decide +kernel
theorem dX10_wrongMend_5 : decode cX10_wrongMend 5 = .ok (.ifCond .eq 11, 3) := by decide +kernel
theorem dX10_wrongMend_8 : decode cX10_wrongMend 8 = .ok (.aload_n 0, 1) := by decide +kernel
theorem dX10_wrongMend_9 : decode cX10_wrongMend 9 = .ok (.iload_n 2, 1) := by decide +kernel
theorem dX10_wrongMend_10 : decode cX10_wrongMend 10 = .ok (.invokevirtual 96, 3) := by decide +kernel
theorem dX10_wrongMend_13 : decode cX10_wrongMend 13 = .ok (.ifCond .ne 5, 3) := by decide +kernel
theorem dX10_wrongMend_16 : decode cX10_wrongMend 16 = .ok (.iconst (-1), 1) := by decide +kernel
theorem dX10_wrongMend_17 : decode cX10_wrongMend 17 = .ok (.ireturn, 1) := by decide +kernel
theorem dX10_wrongMend_18 : decode cX10_wrongMend 18 = .ok (.aload_n 0, 1) := by decide +kernel
theorem dX10_wrongMend_19 : decode cX10_wrongMend 19 = .ok (.invokevirtual 133, 3) := by decide +kernel
theorem dX10_wrongMend_22 : decode cX10_wrongMend 22 = .ok (.aload_n 0, 1) := by decide +kernel
theorem dX10_wrongMend_23 : decode cX10_wrongMend 23 = .ok (.getfield 16, 3) := by decide +kernel
theorem dX10_wrongMend_26 : decode cX10_wrongMend 26 = .ok (.iconst 4, 1) := by decide +kernel
theorem dX10_wrongMend_27 : decode cX10_wrongMend 27 = .ok (.iload_n 2, 1) := by decide +kernel
theorem dX10_wrongMend_28 : decode cX10_wrongMend 28 = .ok (.imul, 1) := by decide +kernel
theorem dX10_wrongMend_29 : decode cX10_wrongMend 29 = .ok (.iaload, 1) := by decide +kernel
theorem dX10_wrongMend_30 : decode cX10_wrongMend 30 = .ok (.iconst 4, 1) := by decide +kernel
theorem dX10_wrongMend_31 : decode cX10_wrongMend 31 = .ok (.if_icmp .gt 11, 3) := by decide +kernel
theorem dX10_wrongMend_34 : decode cX10_wrongMend 34 = .ok (.aload_n 0, 1) := by decide +kernel
theorem dX10_wrongMend_35 : decode cX10_wrongMend 35 = .ok (.iload_n 1, 1) := by decide +kernel
theorem dX10_wrongMend_36 : decode cX10_wrongMend 36 = .ok (.invokevirtual 136, 3) := by decide +kernel
theorem dX10_wrongMend_39 : decode cX10_wrongMend 39 = .ok (.ifCond .eq 8, 3) := by decide +kernel
theorem dX10_wrongMend_42 : decode cX10_wrongMend 42 = .ok (.bipush (-3), 2) := by decide +kernel
theorem dX10_wrongMend_44 : decode cX10_wrongMend 44 = .ok (.goto 4, 3) := by decide +kernel
theorem dX10_wrongMend_47 : decode cX10_wrongMend 47 = .ok (.iconst 0, 1) := by decide +kernel
theorem dX10_wrongMend_48 : decode cX10_wrongMend 48 = .ok (.ireturn, 1) := by decide +kernel
set_option maxRecDepth 20000 in
theorem ggX10_mendsBy_X10_runs : GoodIn wsX10_mendsBy wsX10_runs := goodIn_r _ [5, 6, 7, 8, 9, 10, 11, 12, 13, 14, 15, 16, 4, 17, 18, 19, 20, 27, 28, 29, 30, 31, 32, 33, 34, 35, 36, 37, 38, 39, 40, 41, 42, 43, 44, 45, 46, 47, 48, 49, 50, 51, 52, 53, 54, 55, 56, 57, 58, 59] rfl (by decide +kernel)
set_option maxRecDepth 20000 in
theorem gX10_mendsBy_X10_runs : GoodIn wsX10_mendsBy (wsV RX10 122 RX10 yX10_runs wsX10_runs) := goodIn_app (goodIn_of _ (by decide +kernel)) ggX10_mendsBy_X10_runs
set_option maxRecDepth 20000 in
theorem ggX10_mendsBy_X10_isWell : GoodIn wsX10_mendsBy wsX10_isWell := goodIn_r _ [24, 13, 8, 25, 19, 26, 27, 28, 29, 30, 31, 32, 33, 34, 35, 36, 37, 38, 39, 40, 41, 42, 43, 44, 45, 46, 47, 48, 49, 50, 51, 52, 53, 54, 55, 56, 57, 58, 59] rfl (by decide +kernel)
set_option maxRecDepth 20000 in
theorem gX10_mendsBy_X10_isWell : GoodIn wsX10_mendsBy (wsV RX10 126 RX10 yX10_isWell wsX10_isWell) := goodIn_app (goodIn_of _ (by decide +kernel)) ggX10_mendsBy_X10_isWell
theorem dX10_mendsBy_0 : decode cX10_mendsBy 0 = .ok (.iconst 0, 1) := by decide +kernel
theorem dX10_mendsBy_1 : decode cX10_mendsBy 1 = .ok (.istore_n 3, 1) := by decide +kernel
theorem dX10_mendsBy_2 : decode cX10_mendsBy 2 = .ok (.iload_n 3, 1) := by decide +kernel
theorem dX10_mendsBy_3 : decode cX10_mendsBy 3 = .ok (.bipush 40, 2) := by decide +kernel
theorem dX10_mendsBy_5 : decode cX10_mendsBy 5 = .ok (.if_icmp .gt 50, 3) := by decide +kernel
theorem dX10_mendsBy_8 : decode cX10_mendsBy 8 = .ok (.iload_n 3, 1) := by decide +kernel
theorem dX10_mendsBy_9 : decode cX10_mendsBy 9 = .ok (.iconst 2, 1) := by decide +kernel
theorem dX10_mendsBy_10 : decode cX10_mendsBy 10 = .ok (.irem, 1) := by decide +kernel
theorem dX10_mendsBy_11 : decode cX10_mendsBy 11 = .ok (.iconst 1, 1) := by decide +kernel
theorem dX10_mendsBy_12 : decode cX10_mendsBy 12 = .ok (.if_icmp .ne 12, 3) := by decide +kernel
theorem dX10_mendsBy_15 : decode cX10_mendsBy 15 = .ok (.iload_n 3, 1) := by decide +kernel
theorem dX10_mendsBy_16 : decode cX10_mendsBy 16 = .ok (.iconst 1, 1) := by decide +kernel
theorem dX10_mendsBy_17 : decode cX10_mendsBy 17 = .ok (.iadd, 1) := by decide +kernel
theorem dX10_mendsBy_18 : decode cX10_mendsBy 18 = .ok (.ineg, 1) := by decide +kernel
theorem dX10_mendsBy_19 : decode cX10_mendsBy 19 = .ok (.iconst 2, 1) := by decide +kernel
theorem dX10_mendsBy_20 : decode cX10_mendsBy 20 = .ok (.idiv, 1) := by decide +kernel
theorem dX10_mendsBy_21 : decode cX10_mendsBy 21 = .ok (.goto 6, 3) := by decide +kernel
theorem dX10_mendsBy_24 : decode cX10_mendsBy 24 = .ok (.iload_n 3, 1) := by decide +kernel
theorem dX10_mendsBy_25 : decode cX10_mendsBy 25 = .ok (.iconst 2, 1) := by decide +kernel
theorem dX10_mendsBy_26 : decode cX10_mendsBy 26 = .ok (.idiv, 1) := by decide +kernel
theorem dX10_mendsBy_27 : decode cX10_mendsBy 27 = .ok (.istore 4, 2) := by decide +kernel
theorem dX10_mendsBy_29 : decode cX10_mendsBy 29 = .ok (.aload_n 0, 1) := by decide +kernel
theorem dX10_mendsBy_30 : decode cX10_mendsBy 30 = .ok (.iload_n 1, 1) := by decide +kernel
theorem dX10_mendsBy_31 : decode cX10_mendsBy 31 = .ok (.iconst (-1), 1) := by decide +kernel
theorem dX10_mendsBy_32 : decode cX10_mendsBy 32 = .ok (.iload_n 2, 1) := by decide +kernel
theorem dX10_mendsBy_33 : decode cX10_mendsBy 33 = .ok (.iload 4, 2) := by decide +kernel
theorem dX10_mendsBy_35 : decode cX10_mendsBy 35 = .ok (.invokevirtual 122, 3) := by decide +kernel
theorem dX10_mendsBy_38 : decode cX10_mendsBy 38 = .ok (.aload_n 0, 1) := by decide +kernel
theorem dX10_mendsBy_39 : decode cX10_mendsBy 39 = .ok (.iload_n 1, 1) := by decide +kernel
theorem dX10_mendsBy_40 : decode cX10_mendsBy 40 = .ok (.invokevirtual 126, 3) := by decide +kernel
theorem dX10_mendsBy_43 : decode cX10_mendsBy 43 = .ok (.ifCond .eq 6, 3) := by decide +kernel
theorem dX10_mendsBy_46 : decode cX10_mendsBy 46 = .ok (.iload 4, 2) := by decide +kernel
theorem dX10_mendsBy_48 : decode cX10_mendsBy 48 = .ok (.ireturn, 1) := by decide +kernel
theorem dX10_mendsBy_49 : decode cX10_mendsBy 49 = .ok (.iinc 3 1, 3) := by decide +kernel
theorem dX10_mendsBy_52 : decode cX10_mendsBy 52 = .ok (.goto (-50), 3) := by decide +kernel
theorem dX10_mendsBy_55 : decode cX10_mendsBy 55 = .ok (.bipush 100, 2) := by decide +kernel
theorem dX10_mendsBy_57 : decode cX10_mendsBy 57 = .ok (.ireturn, 1) := by decide +kernel
set_option maxRecDepth 20000 in
theorem ggX10_mends_X10_wrongMend : GoodIn wsX10_mends wsX10_wrongMend := goodIn_r _ [5, 6, 7, 8, 9, 4, 10, 11, 12, 13, 14, 15, 16, 17, 18, 19, 20, 21, 22, 23, 24, 25, 26, 27, 28, 29, 30, 31, 32, 33, 34, 35, 36, 37, 38, 39, 40, 41, 42, 43, 44, 45, 46, 47, 48, 49, 50, 51, 52, 53, 54, 55, 56, 57, 67, 68, 69, 70, 71, 72, 73, 74, 75, 76, 77, 78, 79, 80, 81, 82, 83, 84, 85, 86, 87, 88, 89, 90, 91, 92, 93, 94, 95, 96, 97, 98, 99] rfl (by decide +kernel)
set_option maxRecDepth 20000 in
theorem gX10_mends_X10_wrongMend : GoodIn wsX10_mends (wsV RX10 200 RX10 yX10_wrongMend wsX10_wrongMend) := goodIn_app (goodIn_of _ (by decide +kernel)) ggX10_mends_X10_wrongMend
set_option maxRecDepth 20000 in
theorem ggX10_mends_X10_refuse : GoodIn wsX10_mends wsX10_refuse := goodIn_r _ [61, 62, 67, 68, 69, 70, 71, 72, 73, 74, 75, 76, 77, 78, 79, 80, 81, 82, 83, 84, 85, 86, 87, 88, 89, 90, 91, 92, 93, 94, 95, 96, 97, 98, 99] rfl (by decide +kernel)
set_option maxRecDepth 20000 in
theorem gX10_mends_X10_refuse : GoodIn wsX10_mends (wsV RX10 88 RX10 yX10_refuse wsX10_refuse) := goodIn_app (goodIn_of _ (by decide +kernel)) ggX10_mends_X10_refuse
set_option maxRecDepth 20000 in
theorem ggX10_mends_X10_mendsBy : GoodIn wsX10_mends wsX10_mendsBy := goodIn_r _ [66, 35, 36, 37, 4, 38, 39, 40, 41, 42, 19, 43, 6, 44, 45, 46, 47, 48, 49, 50, 51, 52, 53, 54, 55, 56, 57, 67, 68, 69, 70, 71, 72, 73, 74, 75, 76, 77, 78, 79, 80, 81, 82, 83, 84, 85, 86, 87, 88, 89, 90, 91, 92, 93, 94, 95, 96, 97, 98, 99] rfl (by decide +kernel)
set_option maxRecDepth 20000 in
theorem gX10_mends_X10_mendsBy : GoodIn wsX10_mends (wsV RX10 204 RX10 yX10_mendsBy wsX10_mendsBy) := goodIn_app (goodIn_of _ (by decide +kernel)) ggX10_mends_X10_mendsBy
theorem dX10_mends_0 : decode cX10_mends 0 = .ok (.aload_n 0, 1) := by decide +kernel
theorem dX10_mends_1 : decode cX10_mends 1 = .ok (.iload_n 1, 1) := by decide +kernel
theorem dX10_mends_2 : decode cX10_mends 2 = .ok (.iload_n 2, 1) := by decide +kernel
theorem dX10_mends_3 : decode cX10_mends 3 = .ok (.invokevirtual 200, 3) := by decide +kernel
theorem dX10_mends_6 : decode cX10_mends 6 = .ok (.istore_n 3, 1) := by decide +kernel
theorem dX10_mends_7 : decode cX10_mends 7 = .ok (.iload_n 3, 1) := by decide +kernel
theorem dX10_mends_8 : decode cX10_mends 8 = .ok (.ifCond .eq 9, 3) := by decide +kernel
theorem dX10_mends_11 : decode cX10_mends 11 = .ok (.aload_n 0, 1) := by decide +kernel
theorem dX10_mends_12 : decode cX10_mends 12 = .ok (.iload_n 3, 1) := by decide +kernel
theorem dX10_mends_13 : decode cX10_mends 13 = .ok (.invokevirtual 88, 3) := by decide +kernel
theorem dX10_mends_16 : decode cX10_mends 16 = .ok (.ireturn, 1) := by decide +kernel
theorem dX10_mends_17 : decode cX10_mends 17 = .ok (.aload_n 0, 1) := by decide +kernel
theorem dX10_mends_18 : decode cX10_mends 18 = .ok (.iload_n 1, 1) := by decide +kernel
theorem dX10_mends_19 : decode cX10_mends 19 = .ok (.iload_n 2, 1) := by decide +kernel
theorem dX10_mends_20 : decode cX10_mends 20 = .ok (.invokevirtual 204, 3) := by decide +kernel
theorem dX10_mends_23 : decode cX10_mends 23 = .ok (.bipush 100, 2) := by decide +kernel
theorem dX10_mends_25 : decode cX10_mends 25 = .ok (.if_icmp .ge 7, 3) := by decide +kernel
theorem dX10_mends_28 : decode cX10_mends 28 = .ok (.iconst 1, 1) := by decide +kernel
theorem dX10_mends_29 : decode cX10_mends 29 = .ok (.goto 4, 3) := by decide +kernel
theorem dX10_mends_32 : decode cX10_mends 32 = .ok (.iconst 0, 1) := by decide +kernel
theorem dX10_mends_33 : decode cX10_mends 33 = .ok (.ireturn, 1) := by decide +kernel
set_option maxRecDepth 20000 in
theorem ggX10_mendBy_X10_wrongMend : GoodIn wsX10_mendBy wsX10_wrongMend := goodIn_r _ [6, 7, 8, 9, 10, 5, 11, 12, 13, 14, 15, 16, 17, 18, 19, 20, 21, 22, 23, 24, 25, 26, 27, 28, 29, 30, 31, 32, 33, 34, 35, 36, 37, 38, 39, 40, 41, 42, 43, 44, 45, 46, 47, 48, 49, 50, 51, 52, 53, 54, 55, 56, 57, 58, 67, 68, 69, 70, 71, 72, 73, 74, 75, 76, 77, 78, 79, 80, 81, 82, 83, 84, 85, 86, 87, 88, 89, 90, 91, 92, 93, 94, 95, 96, 97, 98, 99] rfl (by decide +kernel)
set_option maxRecDepth 20000 in
theorem gX10_mendBy_X10_wrongMend : GoodIn wsX10_mendBy (wsV RX10 200 RX10 yX10_wrongMend wsX10_wrongMend) := goodIn_app (goodIn_of _ (by decide +kernel)) ggX10_mendBy_X10_wrongMend
set_option maxRecDepth 20000 in
theorem ggX10_mendBy_X10_raises : GoodIn wsX10_mendBy wsX10_raises := goodIn_r _ [62, 1, 67, 68, 69, 70, 71, 72, 73, 74, 75, 76, 77, 78, 79, 80, 81, 82, 83, 84, 85, 86, 87, 88, 89, 90, 91, 92, 93, 94, 95, 96, 97, 98, 99] rfl (by decide +kernel)
set_option maxRecDepth 20000 in
theorem gX10_mendBy_X10_raises : GoodIn wsX10_mendBy (wsV RX10 139 RX10 yX10_raises wsX10_raises) := goodIn_app (goodIn_of _ (by decide +kernel)) ggX10_mendBy_X10_raises
set_option maxRecDepth 20000 in
theorem ggX10_mendBy_X10_mendsBy : GoodIn wsX10_mendBy wsX10_mendsBy := goodIn_r _ [66, 36, 37, 38, 5, 39, 40, 41, 42, 43, 20, 44, 7, 45, 46, 47, 48, 49, 50, 51, 52, 53, 54, 55, 56, 57, 58, 67, 68, 69, 70, 71, 72, 73, 74, 75, 76, 77, 78, 79, 80, 81, 82, 83, 84, 85, 86, 87, 88, 89, 90, 91, 92, 93, 94, 95, 96, 97, 98, 99] rfl (by decide +kernel)
set_option maxRecDepth 20000 in
theorem gX10_mendBy_X10_mendsBy : GoodIn wsX10_mendBy (wsV RX10 204 RX10 yX10_mendsBy wsX10_mendsBy) := goodIn_app (goodIn_of _ (by decide +kernel)) ggX10_mendBy_X10_mendsBy
theorem dX10_mendBy_0 : decode cX10_mendBy 0 = .ok (.aload_n 0, 1) := by decide +kernel
theorem dX10_mendBy_1 : decode cX10_mendBy 1 = .ok (.iconst 0, 1) := by decide +kernel
theorem dX10_mendBy_2 : decode cX10_mendBy 2 = .ok (.putfield 66, 3) := by decide +kernel
theorem dX10_mendBy_5 : decode cX10_mendBy 5 = .ok (.aload_n 0, 1) := by decide +kernel
theorem dX10_mendBy_6 : decode cX10_mendBy 6 = .ok (.iload_n 1, 1) := by decide +kernel
theorem dX10_mendBy_7 : decode cX10_mendBy 7 = .ok (.iload_n 2, 1) := by decide +kernel
theorem dX10_mendBy_8 : decode cX10_mendBy 8 = .ok (.invokevirtual 200, 3) := by decide +kernel
theorem dX10_mendBy_11 : decode cX10_mendBy 11 = .ok (.ifCond .eq 8, 3) := by decide +kernel
theorem dX10_mendBy_14 : decode cX10_mendBy 14 = .ok (.aload_n 0, 1) := by decide +kernel
theorem dX10_mendBy_15 : decode cX10_mendBy 15 = .ok (.invokevirtual 139, 3) := by decide +kernel
theorem dX10_mendBy_18 : decode cX10_mendBy 18 = .ok (.ireturn, 1) := by decide +kernel
theorem dX10_mendBy_19 : decode cX10_mendBy 19 = .ok (.aload_n 0, 1) := by decide +kernel
theorem dX10_mendBy_20 : decode cX10_mendBy 20 = .ok (.iload_n 1, 1) := by decide +kernel
theorem dX10_mendBy_21 : decode cX10_mendBy 21 = .ok (.iload_n 2, 1) := by decide +kernel
theorem dX10_mendBy_22 : decode cX10_mendBy 22 = .ok (.invokevirtual 204, 3) := by decide +kernel
theorem dX10_mendBy_25 : decode cX10_mendBy 25 = .ok (.istore_n 3, 1) := by decide +kernel
theorem dX10_mendBy_26 : decode cX10_mendBy 26 = .ok (.iload_n 3, 1) := by decide +kernel
theorem dX10_mendBy_27 : decode cX10_mendBy 27 = .ok (.bipush 100, 2) := by decide +kernel
theorem dX10_mendBy_29 : decode cX10_mendBy 29 = .ok (.if_icmp .ge 7, 3) := by decide +kernel
theorem dX10_mendBy_32 : decode cX10_mendBy 32 = .ok (.iload_n 3, 1) := by decide +kernel
theorem dX10_mendBy_33 : decode cX10_mendBy 33 = .ok (.goto 7, 3) := by decide +kernel
theorem dX10_mendBy_36 : decode cX10_mendBy 36 = .ok (.aload_n 0, 1) := by decide +kernel
theorem dX10_mendBy_37 : decode cX10_mendBy 37 = .ok (.invokevirtual 139, 3) := by decide +kernel
theorem dX10_mendBy_40 : decode cX10_mendBy 40 = .ok (.ireturn, 1) := by decide +kernel
set_option maxRecDepth 20000 in
theorem ggX10_passesAt_X10_takes : GoodIn wsX10_passesAt wsX10_takes := goodIn_r _ [5, 6, 7, 8, 9, 37, 38, 39, 40, 41, 42, 43, 44, 45, 46, 47, 48, 49, 50, 51, 52, 53, 54, 55, 56, 57, 58, 59, 60, 61, 62, 63, 64, 65, 66, 67, 68, 69] rfl (by decide +kernel)
set_option maxRecDepth 20000 in
theorem gX10_passesAt_X10_takes : GoodIn wsX10_passesAt (wsV RX10 129 RX10 yX10_takes wsX10_takes) := goodIn_app (goodIn_of _ (by decide +kernel)) ggX10_passesAt_X10_takes
set_option maxRecDepth 20000 in
theorem ggX10_passesAt_X10_passesOf : GoodIn wsX10_passesAt wsX10_passesOf := goodIn_r _ [13, 14, 15, 16, 4, 17, 18, 19, 20, 21, 6, 22, 7, 23, 24, 25, 26, 27, 28, 29, 30, 31, 32, 33, 34, 35, 36, 37, 38, 39, 40, 41, 42, 43, 44, 45, 46, 47, 48, 49, 50, 51, 52, 53, 54, 55, 56, 57, 58, 59, 60, 61, 62, 63, 64, 65, 66, 67, 68, 69] rfl (by decide +kernel)
set_option maxRecDepth 20000 in
theorem gX10_passesAt_X10_passesOf : GoodIn wsX10_passesAt (wsV RX10 136 RX10 yX10_passesOf wsX10_passesOf) := goodIn_app (goodIn_of _ (by decide +kernel)) ggX10_passesAt_X10_passesOf
theorem dX10_passesAt_0 : decode cX10_passesAt 0 = .ok (.aload_n 0, 1) := by decide +kernel
theorem dX10_passesAt_1 : decode cX10_passesAt 1 = .ok (.iload_n 1, 1) := by decide +kernel
theorem dX10_passesAt_2 : decode cX10_passesAt 2 = .ok (.invokevirtual 129, 3) := by decide +kernel
theorem dX10_passesAt_5 : decode cX10_passesAt 5 = .ok (.aload_n 0, 1) := by decide +kernel
theorem dX10_passesAt_6 : decode cX10_passesAt 6 = .ok (.iload_n 2, 1) := by decide +kernel
theorem dX10_passesAt_7 : decode cX10_passesAt 7 = .ok (.invokevirtual 136, 3) := by decide +kernel
theorem dX10_passesAt_10 : decode cX10_passesAt 10 = .ok (.ireturn, 1) := by decide +kernel
set_option maxRecDepth 20000 in
theorem ggX10_passesIn_X10_isIn : GoodIn wsX10_passesIn wsX10_isIn := goodIn_r _ [5] rfl (by decide +kernel)
set_option maxRecDepth 20000 in
theorem gX10_passesIn_X10_isIn : GoodIn wsX10_passesIn (va_wsS RX10 70 yX10_isIn wsX10_isIn) := goodIn_app (goodIn_of _ (by decide +kernel)) ggX10_passesIn_X10_isIn
set_option maxRecDepth 20000 in
theorem ggX10_passesIn_X10_isTest : GoodIn wsX10_passesIn wsX10_isTest := goodIn_r _ [9, 10, 2, 3, 4, 5, 55, 56, 57, 58, 59, 60, 61, 62, 63, 64, 65, 66, 67, 68, 69, 70, 71, 72, 73, 74, 75, 76, 77, 78, 79, 80, 81, 82, 83, 84, 85, 86, 87] rfl (by decide +kernel)
set_option maxRecDepth 20000 in
theorem gX10_passesIn_X10_isTest : GoodIn wsX10_passesIn (wsV RX10 103 RX10 yX10_isTest wsX10_isTest) := goodIn_app (goodIn_of _ (by decide +kernel)) ggX10_passesIn_X10_isTest
set_option maxRecDepth 20000 in
theorem ggX10_passesIn_X10_refuse : GoodIn wsX10_passesIn wsX10_refuse := goodIn_r _ [14, 15, 55, 56, 57, 58, 59, 60, 61, 62, 63, 64, 65, 66, 67, 68, 69, 70, 71, 72, 73, 74, 75, 76, 77, 78, 79, 80, 81, 82, 83, 84, 85, 86, 87] rfl (by decide +kernel)
set_option maxRecDepth 20000 in
theorem gX10_passesIn_X10_refuse : GoodIn wsX10_passesIn (wsV RX10 88 RX10 yX10_refuse wsX10_refuse) := goodIn_app (goodIn_of _ (by decide +kernel)) ggX10_passesIn_X10_refuse
set_option maxRecDepth 20000 in
theorem ggX10_passesIn_X10_passesAt : GoodIn wsX10_passesIn wsX10_passesAt := goodIn_r _ [19, 20, 21, 22, 4, 23, 24, 25, 26, 27, 28, 29, 30, 31, 32, 33, 34, 35, 36, 37, 38, 39, 40, 41, 42, 43, 44, 45, 46, 47, 48, 49, 50, 51, 52, 53, 54, 55, 56, 57, 58, 59, 60, 61, 62, 63, 64, 65, 66, 67, 68, 69, 70, 71, 72, 73, 74, 75, 76, 77, 78, 79, 80, 81, 82, 83, 84, 85, 86, 87] rfl (by decide +kernel)
set_option maxRecDepth 20000 in
theorem gX10_passesIn_X10_passesAt : GoodIn wsX10_passesIn (wsV RX10 207 RX10 yX10_passesAt wsX10_passesAt) := goodIn_app (goodIn_of _ (by decide +kernel)) ggX10_passesIn_X10_passesAt
theorem dX10_passesIn_0 : decode cX10_passesIn 0 = .ok (.iload_n 1, 1) := by decide +kernel
theorem dX10_passesIn_1 : decode cX10_passesIn 1 = .ok (.aload_n 0, 1) := by decide +kernel
theorem dX10_passesIn_2 : decode cX10_passesIn 2 = .ok (.getfield 82, 3) := by decide +kernel
theorem dX10_passesIn_5 : decode cX10_passesIn 5 = .ok (.iconst 1, 1) := by decide +kernel
theorem dX10_passesIn_6 : decode cX10_passesIn 6 = .ok (.iadd, 1) := by decide +kernel
theorem dX10_passesIn_7 : decode cX10_passesIn 7 = .ok (.invokestatic 70, 3) := by decide +kernel
theorem dX10_passesIn_10 : decode cX10_passesIn 10 = .ok (.ifCond .eq 11, 3) := by decide +kernel
theorem dX10_passesIn_13 : decode cX10_passesIn 13 = .ok (.aload_n 0, 1) := by decide +kernel
theorem dX10_passesIn_14 : decode cX10_passesIn 14 = .ok (.iload_n 2, 1) := by decide +kernel
theorem dX10_passesIn_15 : decode cX10_passesIn 15 = .ok (.invokevirtual 103, 3) := by decide +kernel
theorem dX10_passesIn_18 : decode cX10_passesIn 18 = .ok (.ifCond .ne 9, 3) := by decide +kernel
theorem dX10_passesIn_21 : decode cX10_passesIn 21 = .ok (.aload_n 0, 1) := by decide +kernel
theorem dX10_passesIn_22 : decode cX10_passesIn 22 = .ok (.iconst (-1), 1) := by decide +kernel
theorem dX10_passesIn_23 : decode cX10_passesIn 23 = .ok (.invokevirtual 88, 3) := by decide +kernel
theorem dX10_passesIn_26 : decode cX10_passesIn 26 = .ok (.ireturn, 1) := by decide +kernel
theorem dX10_passesIn_27 : decode cX10_passesIn 27 = .ok (.aload_n 0, 1) := by decide +kernel
theorem dX10_passesIn_28 : decode cX10_passesIn 28 = .ok (.iload_n 1, 1) := by decide +kernel
theorem dX10_passesIn_29 : decode cX10_passesIn 29 = .ok (.iload_n 2, 1) := by decide +kernel
theorem dX10_passesIn_30 : decode cX10_passesIn 30 = .ok (.invokevirtual 207, 3) := by decide +kernel
theorem dX10_passesIn_33 : decode cX10_passesIn 33 = .ok (.ifCond .eq 7, 3) := by decide +kernel
theorem dX10_passesIn_36 : decode cX10_passesIn 36 = .ok (.iconst 1, 1) := by decide +kernel
theorem dX10_passesIn_37 : decode cX10_passesIn 37 = .ok (.goto 4, 3) := by decide +kernel
theorem dX10_passesIn_40 : decode cX10_passesIn 40 = .ok (.iconst 0, 1) := by decide +kernel
theorem dX10_passesIn_41 : decode cX10_passesIn 41 = .ok (.ireturn, 1) := by decide +kernel
set_option maxRecDepth 20000 in
theorem ggX10_breaks_X10_isTest : GoodIn wsX10_breaks wsX10_isTest := goodIn_r _ [7, 8, 9, 10, 6, 11, 51, 52, 53, 54, 55, 56, 57, 58, 59, 60, 61, 62, 63, 64, 65, 66, 67, 68, 69, 70, 71, 72, 73, 74, 75, 76, 77, 78, 79, 80, 81, 82, 83] rfl (by decide +kernel)
set_option maxRecDepth 20000 in
theorem gX10_breaks_X10_isTest : GoodIn wsX10_breaks (wsV RX10 103 RX10 yX10_isTest wsX10_isTest) := goodIn_app (goodIn_of _ (by decide +kernel)) ggX10_breaks_X10_isTest
set_option maxRecDepth 20000 in
theorem ggX10_breaks_X10_passesAt : GoodIn wsX10_breaks wsX10_passesAt := goodIn_r _ [15, 16, 17, 18, 6, 19, 20, 21, 22, 23, 24, 25, 26, 27, 28, 29, 30, 31, 32, 33, 34, 35, 36, 37, 38, 39, 40, 41, 42, 43, 44, 45, 46, 47, 48, 49, 50, 51, 52, 53, 54, 55, 56, 57, 58, 59, 60, 61, 62, 63, 64, 65, 66, 67, 68, 69, 70, 71, 72, 73, 74, 75, 76, 77, 78, 79, 80, 81, 82, 83] rfl (by decide +kernel)
set_option maxRecDepth 20000 in
theorem gX10_breaks_X10_passesAt : GoodIn wsX10_breaks (wsV RX10 207 RX10 yX10_passesAt wsX10_passesAt) := goodIn_app (goodIn_of _ (by decide +kernel)) ggX10_breaks_X10_passesAt
theorem dX10_breaks_0 : decode cX10_breaks 0 = .ok (.aload_n 0, 1) := by decide +kernel
theorem dX10_breaks_1 : decode cX10_breaks 1 = .ok (.iload_n 1, 1) := by decide +kernel
theorem dX10_breaks_2 : decode cX10_breaks 2 = .ok (.invokevirtual 103, 3) := by decide +kernel
theorem dX10_breaks_5 : decode cX10_breaks 5 = .ok (.ifCond .ne 5, 3) := by decide +kernel
theorem dX10_breaks_8 : decode cX10_breaks 8 = .ok (.iconst (-1), 1) := by decide +kernel
theorem dX10_breaks_9 : decode cX10_breaks 9 = .ok (.ireturn, 1) := by decide +kernel
theorem dX10_breaks_10 : decode cX10_breaks 10 = .ok (.aload_n 0, 1) := by decide +kernel
theorem dX10_breaks_11 : decode cX10_breaks 11 = .ok (.aload_n 0, 1) := by decide +kernel
theorem dX10_breaks_12 : decode cX10_breaks 12 = .ok (.getfield 82, 3) := by decide +kernel
theorem dX10_breaks_15 : decode cX10_breaks 15 = .ok (.iload_n 1, 1) := by decide +kernel
theorem dX10_breaks_16 : decode cX10_breaks 16 = .ok (.invokevirtual 207, 3) := by decide +kernel
theorem dX10_breaks_19 : decode cX10_breaks 19 = .ok (.ifCond .ne 12, 3) := by decide +kernel
theorem dX10_breaks_22 : decode cX10_breaks 22 = .ok (.aload_n 0, 1) := by decide +kernel
theorem dX10_breaks_23 : decode cX10_breaks 23 = .ok (.iconst 0, 1) := by decide +kernel
theorem dX10_breaks_24 : decode cX10_breaks 24 = .ok (.iload_n 1, 1) := by decide +kernel
theorem dX10_breaks_25 : decode cX10_breaks 25 = .ok (.invokevirtual 207, 3) := by decide +kernel
theorem dX10_breaks_28 : decode cX10_breaks 28 = .ok (.ifCond .ne 6, 3) := by decide +kernel
theorem dX10_breaks_31 : decode cX10_breaks 31 = .ok (.bipush (-3), 2) := by decide +kernel
theorem dX10_breaks_33 : decode cX10_breaks 33 = .ok (.ireturn, 1) := by decide +kernel
theorem dX10_breaks_34 : decode cX10_breaks 34 = .ok (.iconst 0, 1) := by decide +kernel
theorem dX10_breaks_35 : decode cX10_breaks 35 = .ok (.istore_n 2, 1) := by decide +kernel
theorem dX10_breaks_36 : decode cX10_breaks 36 = .ok (.aload_n 0, 1) := by decide +kernel
theorem dX10_breaks_37 : decode cX10_breaks 37 = .ok (.getfield 82, 3) := by decide +kernel
theorem dX10_breaks_40 : decode cX10_breaks 40 = .ok (.istore_n 3, 1) := by decide +kernel
theorem dX10_breaks_41 : decode cX10_breaks 41 = .ok (.aload_n 0, 1) := by decide +kernel
theorem dX10_breaks_42 : decode cX10_breaks 42 = .ok (.iconst 0, 1) := by decide +kernel
theorem dX10_breaks_43 : decode cX10_breaks 43 = .ok (.putfield 210, 3) := by decide +kernel
theorem dX10_breaks_46 : decode cX10_breaks 46 = .ok (.iload_n 3, 1) := by decide +kernel
theorem dX10_breaks_47 : decode cX10_breaks 47 = .ok (.iload_n 2, 1) := by decide +kernel
theorem dX10_breaks_48 : decode cX10_breaks 48 = .ok (.iconst 1, 1) := by decide +kernel
theorem dX10_breaks_49 : decode cX10_breaks 49 = .ok (.iadd, 1) := by decide +kernel
theorem dX10_breaks_50 : decode cX10_breaks 50 = .ok (.if_icmp .le 42, 3) := by decide +kernel
theorem dX10_breaks_53 : decode cX10_breaks 53 = .ok (.iload_n 2, 1) := by decide +kernel
theorem dX10_breaks_54 : decode cX10_breaks 54 = .ok (.iload_n 3, 1) := by decide +kernel
theorem dX10_breaks_55 : decode cX10_breaks 55 = .ok (.iadd, 1) := by decide +kernel
theorem dX10_breaks_56 : decode cX10_breaks 56 = .ok (.iconst 2, 1) := by decide +kernel
theorem dX10_breaks_57 : decode cX10_breaks 57 = .ok (.idiv, 1) := by decide +kernel
theorem dX10_breaks_58 : decode cX10_breaks 58 = .ok (.istore 4, 2) := by decide +kernel
theorem dX10_breaks_60 : decode cX10_breaks 60 = .ok (.aload_n 0, 1) := by decide +kernel
theorem dX10_breaks_61 : decode cX10_breaks 61 = .ok (.dup, 1) := by decide +kernel
theorem dX10_breaks_62 : decode cX10_breaks 62 = .ok (.getfield 210, 3) := by decide +kernel
theorem dX10_breaks_65 : decode cX10_breaks 65 = .ok (.iconst 1, 1) := by decide +kernel
theorem dX10_breaks_66 : decode cX10_breaks 66 = .ok (.iadd, 1) := by decide +kernel
theorem dX10_breaks_67 : decode cX10_breaks 67 = .ok (.putfield 210, 3) := by decide +kernel
theorem dX10_breaks_70 : decode cX10_breaks 70 = .ok (.aload_n 0, 1) := by decide +kernel
theorem dX10_breaks_71 : decode cX10_breaks 71 = .ok (.iload 4, 2) := by decide +kernel
theorem dX10_breaks_73 : decode cX10_breaks 73 = .ok (.iload_n 1, 1) := by decide +kernel
theorem dX10_breaks_74 : decode cX10_breaks 74 = .ok (.invokevirtual 207, 3) := by decide +kernel
theorem dX10_breaks_77 : decode cX10_breaks 77 = .ok (.ifCond .eq 9, 3) := by decide +kernel
theorem dX10_breaks_80 : decode cX10_breaks 80 = .ok (.iload 4, 2) := by decide +kernel
theorem dX10_breaks_82 : decode cX10_breaks 82 = .ok (.istore_n 2, 1) := by decide +kernel
theorem dX10_breaks_83 : decode cX10_breaks 83 = .ok (.goto 6, 3) := by decide +kernel
theorem dX10_breaks_86 : decode cX10_breaks 86 = .ok (.iload 4, 2) := by decide +kernel
theorem dX10_breaks_88 : decode cX10_breaks 88 = .ok (.istore_n 3, 1) := by decide +kernel
theorem dX10_breaks_89 : decode cX10_breaks 89 = .ok (.goto (-43), 3) := by decide +kernel
theorem dX10_breaks_92 : decode cX10_breaks 92 = .ok (.iload_n 3, 1) := by decide +kernel
theorem dX10_breaks_93 : decode cX10_breaks 93 = .ok (.iconst 1, 1) := by decide +kernel
theorem dX10_breaks_94 : decode cX10_breaks 94 = .ok (.isub, 1) := by decide +kernel
theorem dX10_breaks_95 : decode cX10_breaks 95 = .ok (.ireturn, 1) := by decide +kernel
set_option maxRecDepth 20000 in
theorem ggX10_broke_X10_breaks : GoodIn wsX10_broke wsX10_breaks := goodIn_r _ [5, 6, 7, 8, 9, 10, 4, 11, 12, 13, 14, 15, 16, 17, 18, 19, 20, 21, 22, 23, 24, 25, 26, 27, 28, 29, 30, 31, 32, 33, 34, 35, 36, 37, 38, 39, 40, 41, 42, 43, 44, 45, 46, 47, 48, 49, 50, 51, 52, 53, 54, 60, 61, 62, 63, 64, 65, 66, 67, 68, 69, 70, 71, 72, 73, 74, 75, 76, 77, 78, 79, 80, 81, 82, 83, 84, 85, 86, 87, 88, 89, 90, 91, 92] rfl (by decide +kernel)
set_option maxRecDepth 20000 in
theorem gX10_broke_X10_breaks : GoodIn wsX10_broke (wsV RX10 213 RX10 yX10_breaks wsX10_breaks) := goodIn_app (goodIn_of _ (by decide +kernel)) ggX10_broke_X10_breaks
set_option maxRecDepth 20000 in
theorem ggX10_broke_X10_refuse : GoodIn wsX10_broke wsX10_refuse := goodIn_r _ [58, 59, 60, 61, 62, 63, 64, 65, 66, 67, 68, 69, 70, 71, 72, 73, 74, 75, 76, 77, 78, 79, 80, 81, 82, 83, 84, 85, 86, 87, 88, 89, 90, 91, 92] rfl (by decide +kernel)
set_option maxRecDepth 20000 in
theorem gX10_broke_X10_refuse : GoodIn wsX10_broke (wsV RX10 88 RX10 yX10_refuse wsX10_refuse) := goodIn_app (goodIn_of _ (by decide +kernel)) ggX10_broke_X10_refuse
theorem dX10_broke_0 : decode cX10_broke 0 = .ok (.aload_n 0, 1) := by decide +kernel
theorem dX10_broke_1 : decode cX10_broke 1 = .ok (.iload_n 1, 1) := by decide +kernel
theorem dX10_broke_2 : decode cX10_broke 2 = .ok (.invokevirtual 213, 3) := by decide +kernel
theorem dX10_broke_5 : decode cX10_broke 5 = .ok (.istore_n 2, 1) := by decide +kernel
theorem dX10_broke_6 : decode cX10_broke 6 = .ok (.iload_n 2, 1) := by decide +kernel
theorem dX10_broke_7 : decode cX10_broke 7 = .ok (.ifCond .ge 11, 3) := by decide +kernel
theorem dX10_broke_10 : decode cX10_broke 10 = .ok (.aload_n 0, 1) := by decide +kernel
theorem dX10_broke_11 : decode cX10_broke 11 = .ok (.iload_n 2, 1) := by decide +kernel
theorem dX10_broke_12 : decode cX10_broke 12 = .ok (.invokevirtual 88, 3) := by decide +kernel
theorem dX10_broke_15 : decode cX10_broke 15 = .ok (.goto 4, 3) := by decide +kernel
theorem dX10_broke_18 : decode cX10_broke 18 = .ok (.iload_n 2, 1) := by decide +kernel
theorem dX10_broke_19 : decode cX10_broke 19 = .ok (.ireturn, 1) := by decide +kernel
set_option maxRecDepth 20000 in
theorem ggX10_looks_X10_breaks : GoodIn wsX10_looks wsX10_breaks := goodIn_r _ [6, 7, 1, 8, 9, 10, 5, 11, 12, 13, 14, 15, 16, 17, 18, 19, 20, 21, 22, 23, 24, 25, 26, 27, 28, 29, 30, 31, 32, 33, 34, 35, 36, 37, 38, 39, 40, 41, 42, 43, 44, 45, 46, 47, 48, 49, 50, 51, 52, 53, 54, 60, 61, 62, 63, 64, 65, 66, 67, 68, 69, 70, 71, 72, 73, 74, 75, 76, 77, 78, 79, 80, 81, 82, 83, 84, 85, 86, 87, 88, 89, 90, 91, 92] rfl (by decide +kernel)
set_option maxRecDepth 20000 in
theorem gX10_looks_X10_breaks : GoodIn wsX10_looks (wsV RX10 213 RX10 yX10_breaks wsX10_breaks) := goodIn_app (goodIn_of _ (by decide +kernel)) ggX10_looks_X10_breaks
set_option maxRecDepth 20000 in
theorem ggX10_looks_X10_refuse : GoodIn wsX10_looks wsX10_refuse := goodIn_r _ [58, 59, 60, 61, 62, 63, 64, 65, 66, 67, 68, 69, 70, 71, 72, 73, 74, 75, 76, 77, 78, 79, 80, 81, 82, 83, 84, 85, 86, 87, 88, 89, 90, 91, 92] rfl (by decide +kernel)
set_option maxRecDepth 20000 in
theorem gX10_looks_X10_refuse : GoodIn wsX10_looks (wsV RX10 88 RX10 yX10_refuse wsX10_refuse) := goodIn_app (goodIn_of _ (by decide +kernel)) ggX10_looks_X10_refuse
theorem dX10_looks_0 : decode cX10_looks 0 = .ok (.aload_n 0, 1) := by decide +kernel
theorem dX10_looks_1 : decode cX10_looks 1 = .ok (.iload_n 1, 1) := by decide +kernel
theorem dX10_looks_2 : decode cX10_looks 2 = .ok (.invokevirtual 213, 3) := by decide +kernel
theorem dX10_looks_5 : decode cX10_looks 5 = .ok (.istore_n 2, 1) := by decide +kernel
theorem dX10_looks_6 : decode cX10_looks 6 = .ok (.iload_n 2, 1) := by decide +kernel
theorem dX10_looks_7 : decode cX10_looks 7 = .ok (.ifCond .ge 11, 3) := by decide +kernel
theorem dX10_looks_10 : decode cX10_looks 10 = .ok (.aload_n 0, 1) := by decide +kernel
theorem dX10_looks_11 : decode cX10_looks 11 = .ok (.iload_n 2, 1) := by decide +kernel
theorem dX10_looks_12 : decode cX10_looks 12 = .ok (.invokevirtual 88, 3) := by decide +kernel
theorem dX10_looks_15 : decode cX10_looks 15 = .ok (.goto 7, 3) := by decide +kernel
theorem dX10_looks_18 : decode cX10_looks 18 = .ok (.aload_n 0, 1) := by decide +kernel
theorem dX10_looks_19 : decode cX10_looks 19 = .ok (.getfield 210, 3) := by decide +kernel
theorem dX10_looks_22 : decode cX10_looks 22 = .ok (.ireturn, 1) := by decide +kernel
set_option maxRecDepth 20000 in
theorem ggX10_count_X10_gathers : GoodIn wsX10_count wsX10_gathers := goodIn_r _ [13, 4, 5, 8, 3, 14, 15, 16, 17, 18, 6, 19, 20, 21, 12, 22, 7, 23, 24, 25, 26, 2, 27, 28, 29, 30, 31, 32, 33, 34, 35, 36, 37, 38, 39, 40, 41, 42, 43, 44, 45, 46, 47, 48, 49, 50, 51, 52, 53, 54, 55, 56, 57, 58, 59, 60, 61, 62, 63, 64, 65, 66, 67, 68, 69, 70, 71, 72, 73, 74, 75, 76, 77, 78, 79, 80, 81, 82, 83, 84, 85, 86] rfl (by decide +kernel)
set_option maxRecDepth 20000 in
theorem gX10_count_X10_gathers : GoodIn wsX10_count (wsV RX10 162 RX10 yX10_gathers wsX10_gathers) := goodIn_app (goodIn_of _ (by decide +kernel)) ggX10_count_X10_gathers
theorem dX10_count_0 : decode cX10_count 0 = .ok (.iload_n 1, 1) := by decide +kernel
theorem dX10_count_1 : decode cX10_count 1 = .ok (.bipush 10, 2) := by decide +kernel
theorem dX10_count_3 : decode cX10_count 3 = .ok (.if_icmp .le 19, 3) := by decide +kernel
theorem dX10_count_6 : decode cX10_count 6 = .ok (.iload_n 1, 1) := by decide +kernel
theorem dX10_count_7 : decode cX10_count 7 = .ok (.bipush 17, 2) := by decide +kernel
theorem dX10_count_9 : decode cX10_count 9 = .ok (.if_icmp .ge 13, 3) := by decide +kernel
theorem dX10_count_12 : decode cX10_count 12 = .ok (.aload_n 0, 1) := by decide +kernel
theorem dX10_count_13 : decode cX10_count 13 = .ok (.getfield 7, 3) := by decide +kernel
theorem dX10_count_16 : decode cX10_count 16 = .ok (.iload_n 1, 1) := by decide +kernel
theorem dX10_count_17 : decode cX10_count 17 = .ok (.bipush 10, 2) := by decide +kernel
theorem dX10_count_19 : decode cX10_count 19 = .ok (.isub, 1) := by decide +kernel
theorem dX10_count_20 : decode cX10_count 20 = .ok (.iaload, 1) := by decide +kernel
theorem dX10_count_21 : decode cX10_count 21 = .ok (.ireturn, 1) := by decide +kernel
theorem dX10_count_22 : decode cX10_count 22 = .ok (.iconst 0, 1) := by decide +kernel
theorem dX10_count_23 : decode cX10_count 23 = .ok (.istore_n 2, 1) := by decide +kernel
theorem dX10_count_24 : decode cX10_count 24 = .ok (.iload_n 1, 1) := by decide +kernel
theorem dX10_count_25 : decode cX10_count 25 = .ok (.tableswitch 120 0 6 #[43, 48, 53, 62, 71, 106, 111], 43) := by decide +kernel
theorem dX10_count_68 : decode cX10_count 68 = .ok (.aload_n 0, 1) := by decide +kernel
theorem dX10_count_69 : decode cX10_count 69 = .ok (.getfield 85, 3) := by decide +kernel
theorem dX10_count_72 : decode cX10_count 72 = .ok (.ireturn, 1) := by decide +kernel
theorem dX10_count_73 : decode cX10_count 73 = .ok (.aload_n 0, 1) := by decide +kernel
theorem dX10_count_74 : decode cX10_count 74 = .ok (.getfield 100, 3) := by decide +kernel
theorem dX10_count_77 : decode cX10_count 77 = .ok (.ireturn, 1) := by decide +kernel
theorem dX10_count_78 : decode cX10_count 78 = .ok (.aload_n 0, 1) := by decide +kernel
theorem dX10_count_79 : decode cX10_count 79 = .ok (.invokevirtual 162, 3) := by decide +kernel
theorem dX10_count_82 : decode cX10_count 82 = .ok (.aload_n 0, 1) := by decide +kernel
theorem dX10_count_83 : decode cX10_count 83 = .ok (.getfield 143, 3) := by decide +kernel
theorem dX10_count_86 : decode cX10_count 86 = .ok (.ireturn, 1) := by decide +kernel
theorem dX10_count_87 : decode cX10_count 87 = .ok (.aload_n 0, 1) := by decide +kernel
theorem dX10_count_88 : decode cX10_count 88 = .ok (.invokevirtual 162, 3) := by decide +kernel
theorem dX10_count_91 : decode cX10_count 91 = .ok (.aload_n 0, 1) := by decide +kernel
theorem dX10_count_92 : decode cX10_count 92 = .ok (.getfield 146, 3) := by decide +kernel
theorem dX10_count_95 : decode cX10_count 95 = .ok (.ireturn, 1) := by decide +kernel
theorem dX10_count_96 : decode cX10_count 96 = .ok (.iconst 0, 1) := by decide +kernel
theorem dX10_count_97 : decode cX10_count 97 = .ok (.istore_n 3, 1) := by decide +kernel
theorem dX10_count_98 : decode cX10_count 98 = .ok (.iload_n 3, 1) := by decide +kernel
theorem dX10_count_99 : decode cX10_count 99 = .ok (.aload_n 0, 1) := by decide +kernel
theorem dX10_count_100 : decode cX10_count 100 = .ok (.getfield 100, 3) := by decide +kernel
theorem dX10_count_103 : decode cX10_count 103 = .ok (.if_icmp .ge 26, 3) := by decide +kernel
theorem dX10_count_106 : decode cX10_count 106 = .ok (.iload_n 2, 1) := by decide +kernel
theorem dX10_count_107 : decode cX10_count 107 = .ok (.aload_n 0, 1) := by decide +kernel
theorem dX10_count_108 : decode cX10_count 108 = .ok (.getfield 34, 3) := by decide +kernel
theorem dX10_count_111 : decode cX10_count 111 = .ok (.iload_n 3, 1) := by decide +kernel
theorem dX10_count_112 : decode cX10_count 112 = .ok (.baload, 1) := by decide +kernel
theorem dX10_count_113 : decode cX10_count 113 = .ok (.ifCond .eq 7, 3) := by decide +kernel
theorem dX10_count_116 : decode cX10_count 116 = .ok (.iconst 1, 1) := by decide +kernel
theorem dX10_count_117 : decode cX10_count 117 = .ok (.goto 4, 3) := by decide +kernel
theorem dX10_count_120 : decode cX10_count 120 = .ok (.iconst 0, 1) := by decide +kernel
theorem dX10_count_121 : decode cX10_count 121 = .ok (.iadd, 1) := by decide +kernel
theorem dX10_count_122 : decode cX10_count 122 = .ok (.istore_n 2, 1) := by decide +kernel
theorem dX10_count_123 : decode cX10_count 123 = .ok (.iinc 3 1, 3) := by decide +kernel
theorem dX10_count_126 : decode cX10_count 126 = .ok (.goto (-28), 3) := by decide +kernel
theorem dX10_count_129 : decode cX10_count 129 = .ok (.iload_n 2, 1) := by decide +kernel
theorem dX10_count_130 : decode cX10_count 130 = .ok (.ireturn, 1) := by decide +kernel
theorem dX10_count_131 : decode cX10_count 131 = .ok (.aload_n 0, 1) := by decide +kernel
theorem dX10_count_132 : decode cX10_count 132 = .ok (.getfield 82, 3) := by decide +kernel
theorem dX10_count_135 : decode cX10_count 135 = .ok (.ireturn, 1) := by decide +kernel
theorem dX10_count_136 : decode cX10_count 136 = .ok (.aload_n 0, 1) := by decide +kernel
theorem dX10_count_137 : decode cX10_count 137 = .ok (.invokevirtual 162, 3) := by decide +kernel
theorem dX10_count_140 : decode cX10_count 140 = .ok (.aload_n 0, 1) := by decide +kernel
theorem dX10_count_141 : decode cX10_count 141 = .ok (.getfield 149, 3) := by decide +kernel
theorem dX10_count_144 : decode cX10_count 144 = .ok (.ireturn, 1) := by decide +kernel
theorem dX10_count_145 : decode cX10_count 145 = .ok (.bipush (-9), 2) := by decide +kernel
theorem dX10_count_147 : decode cX10_count 147 = .ok (.ireturn, 1) := by decide +kernel
