theorem dX4_init_0 : decode cX4_init 0 = .ok (.aload_n 0, 1) := by decide +kernel
theorem dX4_init_1 : decode cX4_init 1 = .ok (.invokespecial 1, 3) := by decide +kernel
theorem dX4_init_4 : decode cX4_init 4 = .ok (.aload_n 0, 1) := by decide +kernel
theorem dX4_init_5 : decode cX4_init 5 = .ok (.bipush 7, 2) := by decide +kernel
theorem dX4_init_7 : decode cX4_init 7 = .ok (.newarray .int, 2) := by decide +kernel
theorem dX4_init_9 : decode cX4_init 9 = .ok (.putfield 7, 3) := by decide +kernel
theorem dX4_init_12 : decode cX4_init 12 = .ok (.aload_n 0, 1) := by decide +kernel
theorem dX4_init_13 : decode cX4_init 13 = .ok (.bipush 7, 2) := by decide +kernel
theorem dX4_init_15 : decode cX4_init 15 = .ok (.newarray .int, 2) := by decide +kernel
theorem dX4_init_17 : decode cX4_init 17 = .ok (.putfield 13, 3) := by decide +kernel
theorem dX4_init_20 : decode cX4_init 20 = .ok (.aload_n 0, 1) := by decide +kernel
theorem dX4_init_21 : decode cX4_init 21 = .ok (.bipush 7, 2) := by decide +kernel
theorem dX4_init_23 : decode cX4_init 23 = .ok (.newarray .int, 2) := by decide +kernel
theorem dX4_init_25 : decode cX4_init 25 = .ok (.putfield 16, 3) := by decide +kernel
theorem dX4_init_28 : decode cX4_init 28 = .ok (.aload_n 0, 1) := by decide +kernel
theorem dX4_init_29 : decode cX4_init 29 = .ok (.bipush 28, 2) := by decide +kernel
theorem dX4_init_31 : decode cX4_init 31 = .ok (.newarray .int, 2) := by decide +kernel
theorem dX4_init_33 : decode cX4_init 33 = .ok (.putfield 19, 3) := by decide +kernel
theorem dX4_init_36 : decode cX4_init 36 = .ok (.aload_n 0, 1) := by decide +kernel
theorem dX4_init_37 : decode cX4_init 37 = .ok (.bipush 13, 2) := by decide +kernel
theorem dX4_init_39 : decode cX4_init 39 = .ok (.newarray .int, 2) := by decide +kernel
theorem dX4_init_41 : decode cX4_init 41 = .ok (.putfield 22, 3) := by decide +kernel
theorem dX4_init_44 : decode cX4_init 44 = .ok (.aload_n 0, 1) := by decide +kernel
theorem dX4_init_45 : decode cX4_init 45 = .ok (.bipush 13, 2) := by decide +kernel
theorem dX4_init_47 : decode cX4_init 47 = .ok (.newarray .int, 2) := by decide +kernel
theorem dX4_init_49 : decode cX4_init 49 = .ok (.putfield 25, 3) := by decide +kernel
theorem dX4_init_52 : decode cX4_init 52 = .ok (.aload_n 0, 1) := by decide +kernel
theorem dX4_init_53 : decode cX4_init 53 = .ok (.bipush 13, 2) := by decide +kernel
theorem dX4_init_55 : decode cX4_init 55 = .ok (.newarray .int, 2) := by decide +kernel
theorem dX4_init_57 : decode cX4_init 57 = .ok (.putfield 28, 3) := by decide +kernel
theorem dX4_init_60 : decode cX4_init 60 = .ok (.aload_n 0, 1) := by decide +kernel
theorem dX4_init_61 : decode cX4_init 61 = .ok (.bipush 13, 2) := by decide +kernel
theorem dX4_init_63 : decode cX4_init 63 = .ok (.newarray .int, 2) := by decide +kernel
theorem dX4_init_65 : decode cX4_init 65 = .ok (.putfield 31, 3) := by decide +kernel
theorem dX4_init_68 : decode cX4_init 68 = .ok (.aload_n 0, 1) := by decide +kernel
theorem dX4_init_69 : decode cX4_init 69 = .ok (.bipush 13, 2) := by decide +kernel
theorem dX4_init_71 : decode cX4_init 71 = .ok (.newarray .int, 2) := by decide +kernel
theorem dX4_init_73 : decode cX4_init 73 = .ok (.putfield 34, 3) := by decide +kernel
theorem dX4_init_76 : decode cX4_init 76 = .ok (.aload_n 0, 1) := by decide +kernel
theorem dX4_init_77 : decode cX4_init 77 = .ok (.bipush 13, 2) := by decide +kernel
theorem dX4_init_79 : decode cX4_init 79 = .ok (.newarray .int, 2) := by decide +kernel
theorem dX4_init_81 : decode cX4_init 81 = .ok (.putfield 37, 3) := by decide +kernel
theorem dX4_init_84 : decode cX4_init 84 = .ok (.aload_n 0, 1) := by decide +kernel
theorem dX4_init_85 : decode cX4_init 85 = .ok (.sipush 400, 3) := by decide +kernel
theorem dX4_init_88 : decode cX4_init 88 = .ok (.newarray .int, 2) := by decide +kernel
theorem dX4_init_90 : decode cX4_init 90 = .ok (.putfield 40, 3) := by decide +kernel
theorem dX4_init_93 : decode cX4_init 93 = .ok (.aload_n 0, 1) := by decide +kernel
theorem dX4_init_94 : decode cX4_init 94 = .ok (.sipush 400, 3) := by decide +kernel
theorem dX4_init_97 : decode cX4_init 97 = .ok (.newarray .int, 2) := by decide +kernel
theorem dX4_init_99 : decode cX4_init 99 = .ok (.putfield 43, 3) := by decide +kernel
theorem dX4_init_102 : decode cX4_init 102 = .ok (.aload_n 0, 1) := by decide +kernel
theorem dX4_init_103 : decode cX4_init 103 = .ok (.sipush 400, 3) := by decide +kernel
theorem dX4_init_106 : decode cX4_init 106 = .ok (.newarray .int, 2) := by decide +kernel
theorem dX4_init_108 : decode cX4_init 108 = .ok (.putfield 46, 3) := by decide +kernel
theorem dX4_init_111 : decode cX4_init 111 = .ok (.aload_n 0, 1) := by decide +kernel
theorem dX4_init_112 : decode cX4_init 112 = .ok (.sipush 400, 3) := by decide +kernel
theorem dX4_init_115 : decode cX4_init 115 = .ok (.newarray .int, 2) := by decide +kernel
theorem dX4_init_117 : decode cX4_init 117 = .ok (.putfield 49, 3) := by decide +kernel
theorem dX4_init_120 : decode cX4_init 120 = .ok (.aload_n 0, 1) := by decide +kernel
theorem dX4_init_121 : decode cX4_init 121 = .ok (.sipush 400, 3) := by decide +kernel
theorem dX4_init_124 : decode cX4_init 124 = .ok (.newarray .int, 2) := by decide +kernel
theorem dX4_init_126 : decode cX4_init 126 = .ok (.putfield 52, 3) := by decide +kernel
theorem dX4_init_129 : decode cX4_init 129 = .ok (.aload_n 0, 1) := by decide +kernel
theorem dX4_init_130 : decode cX4_init 130 = .ok (.iconst 3, 1) := by decide +kernel
theorem dX4_init_131 : decode cX4_init 131 = .ok (.putfield 55, 3) := by decide +kernel
theorem dX4_init_134 : decode cX4_init 134 = .ok (.aload_n 0, 1) := by decide +kernel
theorem dX4_init_135 : decode cX4_init 135 = .ok (.iconst 3, 1) := by decide +kernel
theorem dX4_init_136 : decode cX4_init 136 = .ok (.putfield 59, 3) := by decide +kernel
theorem dX4_init_139 : decode cX4_init 139 = .ok (.aload_n 0, 1) := by decide +kernel
theorem dX4_init_140 : decode cX4_init 140 = .ok (.bipush 64, 2) := by decide +kernel
theorem dX4_init_142 : decode cX4_init 142 = .ok (.newarray .int, 2) := by decide +kernel
theorem dX4_init_144 : decode cX4_init 144 = .ok (.putfield 62, 3) := by decide +kernel
theorem dX4_init_147 : decode cX4_init 147 = .ok (.aload_n 0, 1) := by decide +kernel
theorem dX4_init_148 : decode cX4_init 148 = .ok (.bipush 32, 2) := by decide +kernel
theorem dX4_init_150 : decode cX4_init 150 = .ok (.newarray .int, 2) := by decide +kernel
theorem dX4_init_152 : decode cX4_init 152 = .ok (.putfield 65, 3) := by decide +kernel
theorem dX4_init_155 : decode cX4_init 155 = .ok (.aload_n 0, 1) := by decide +kernel
theorem dX4_init_156 : decode cX4_init 156 = .ok (.bipush 32, 2) := by decide +kernel
theorem dX4_init_158 : decode cX4_init 158 = .ok (.newarray .int, 2) := by decide +kernel
theorem dX4_init_160 : decode cX4_init 160 = .ok (.putfield 68, 3) := by decide +kernel
theorem dX4_init_163 : decode cX4_init 163 = .ok (.aload_n 0, 1) := by decide +kernel
theorem dX4_init_164 : decode cX4_init 164 = .ok (.sipush 192, 3) := by decide +kernel
theorem dX4_init_167 : decode cX4_init 167 = .ok (.newarray .int, 2) := by decide +kernel
theorem dX4_init_169 : decode cX4_init 169 = .ok (.putfield 71, 3) := by decide +kernel
theorem dX4_init_172 : decode cX4_init 172 = .ok (.aload_n 0, 1) := by decide +kernel
theorem dX4_init_173 : decode cX4_init 173 = .ok (.sipush 1000, 3) := by decide +kernel
theorem dX4_init_176 : decode cX4_init 176 = .ok (.newarray .int, 2) := by decide +kernel
theorem dX4_init_178 : decode cX4_init 178 = .ok (.putfield 74, 3) := by decide +kernel
theorem dX4_init_181 : decode cX4_init 181 = .ok (.aload_n 0, 1) := by decide +kernel
theorem dX4_init_182 : decode cX4_init 182 = .ok (.bipush 10, 2) := by decide +kernel
theorem dX4_init_184 : decode cX4_init 184 = .ok (.newarray .int, 2) := by decide +kernel
theorem dX4_init_186 : decode cX4_init 186 = .ok (.putfield 77, 3) := by decide +kernel
theorem dX4_init_189 : decode cX4_init 189 = .ok (.aload_n 0, 1) := by decide +kernel
theorem dX4_init_190 : decode cX4_init 190 = .ok (.bipush 8, 2) := by decide +kernel
theorem dX4_init_192 : decode cX4_init 192 = .ok (.newarray .int, 2) := by decide +kernel
theorem dX4_init_194 : decode cX4_init 194 = .ok (.putfield 80, 3) := by decide +kernel
theorem dX4_init_197 : decode cX4_init 197 = .ok (.aload_n 0, 1) := by decide +kernel
theorem dX4_init_198 : decode cX4_init 198 = .ok (.bipush 8, 2) := by decide +kernel
theorem dX4_init_200 : decode cX4_init 200 = .ok (.newarray .int, 2) := by decide +kernel
theorem dX4_init_202 : decode cX4_init 202 = .ok (.putfield 83, 3) := by decide +kernel
theorem dX4_init_205 : decode cX4_init 205 = .ok (.aload_n 0, 1) := by decide +kernel
theorem dX4_init_206 : decode cX4_init 206 = .ok (.bipush 8, 2) := by decide +kernel
theorem dX4_init_208 : decode cX4_init 208 = .ok (.newarray .int, 2) := by decide +kernel
theorem dX4_init_210 : decode cX4_init 210 = .ok (.putfield 86, 3) := by decide +kernel
theorem dX4_init_213 : decode cX4_init 213 = .ok (.aload_n 0, 1) := by decide +kernel
theorem dX4_init_214 : decode cX4_init 214 = .ok (.bipush 9, 2) := by decide +kernel
theorem dX4_init_216 : decode cX4_init 216 = .ok (.newarray .int, 2) := by decide +kernel
theorem dX4_init_218 : decode cX4_init 218 = .ok (.putfield 89, 3) := by decide +kernel
theorem dX4_init_221 : decode cX4_init 221 = .ok (.return_, 1) := by decide +kernel
theorem dX4_no_0 : decode cX4_no 0 = .ok (.aload_n 0, 1) := by decide +kernel
theorem dX4_no_1 : decode cX4_no 1 = .ok (.getfield 7, 3) := by decide +kernel
theorem dX4_no_4 : decode cX4_no 4 = .ok (.iload_n 1, 1) := by decide +kernel
theorem dX4_no_5 : decode cX4_no 5 = .ok (.ineg, 1) := by decide +kernel
theorem dX4_no_6 : decode cX4_no 6 = .ok (.dup2, 1) := by decide +kernel
theorem dX4_no_7 : decode cX4_no 7 = .ok (.iaload, 1) := by decide +kernel
theorem dX4_no_8 : decode cX4_no 8 = .ok (.iconst 1, 1) := by decide +kernel
theorem dX4_no_9 : decode cX4_no 9 = .ok (.iadd, 1) := by decide +kernel
theorem dX4_no_10 : decode cX4_no 10 = .ok (.iastore, 1) := by decide +kernel
theorem dX4_no_11 : decode cX4_no 11 = .ok (.iload_n 1, 1) := by decide +kernel
theorem dX4_no_12 : decode cX4_no 12 = .ok (.ireturn, 1) := by decide +kernel
theorem dX4_lower_0 : decode cX4_lower 0 = .ok (.aload_n 0, 1) := by decide +kernel
theorem dX4_lower_1 : decode cX4_lower 1 = .ok (.getfield 7, 3) := by decide +kernel
theorem dX4_lower_4 : decode cX4_lower 4 = .ok (.iload_n 1, 1) := by decide +kernel
theorem dX4_lower_5 : decode cX4_lower 5 = .ok (.ineg, 1) := by decide +kernel
theorem dX4_lower_6 : decode cX4_lower 6 = .ok (.dup2, 1) := by decide +kernel
theorem dX4_lower_7 : decode cX4_lower 7 = .ok (.iaload, 1) := by decide +kernel
theorem dX4_lower_8 : decode cX4_lower 8 = .ok (.iconst 1, 1) := by decide +kernel
theorem dX4_lower_9 : decode cX4_lower 9 = .ok (.iadd, 1) := by decide +kernel
theorem dX4_lower_10 : decode cX4_lower 10 = .ok (.iastore, 1) := by decide +kernel
theorem dX4_lower_11 : decode cX4_lower 11 = .ok (.ldc 92, 2) := by decide +kernel
theorem dX4_lower_13 : decode cX4_lower 13 = .ok (.iload_n 1, 1) := by decide +kernel
theorem dX4_lower_14 : decode cX4_lower 14 = .ok (.isub, 1) := by decide +kernel
theorem dX4_lower_15 : decode cX4_lower 15 = .ok (.ireturn, 1) := by decide +kernel
theorem dX4_isIn_0 : decode cX4_isIn 0 = .ok (.iload_n 0, 1) := by decide +kernel
theorem dX4_isIn_1 : decode cX4_isIn 1 = .ok (.iload_n 1, 1) := by decide +kernel
theorem dX4_isIn_2 : decode cX4_isIn 2 = .ok (.if_icmp .lt 12, 3) := by decide +kernel
theorem dX4_isIn_5 : decode cX4_isIn 5 = .ok (.iload_n 0, 1) := by decide +kernel
theorem dX4_isIn_6 : decode cX4_isIn 6 = .ok (.iload_n 2, 1) := by decide +kernel
theorem dX4_isIn_7 : decode cX4_isIn 7 = .ok (.if_icmp .gt 7, 3) := by decide +kernel
theorem dX4_isIn_10 : decode cX4_isIn 10 = .ok (.iconst 1, 1) := by decide +kernel
theorem dX4_isIn_11 : decode cX4_isIn 11 = .ok (.goto 4, 3) := by decide +kernel
theorem dX4_isIn_14 : decode cX4_isIn 14 = .ok (.iconst 0, 1) := by decide +kernel
theorem dX4_isIn_15 : decode cX4_isIn 15 = .ok (.ireturn, 1) := by decide +kernel
theorem dX4_bound_0 : decode cX4_bound 0 = .ok (.iload_n 0, 1) := by decide +kernel
theorem dX4_bound_1 : decode cX4_bound 1 = .ok (.iload_n 1, 1) := by decide +kernel
theorem dX4_bound_2 : decode cX4_bound 2 = .ok (.if_icmp .ge 8, 3) := by decide +kernel
theorem dX4_bound_5 : decode cX4_bound 5 = .ok (.bipush (-4), 2) := by decide +kernel
theorem dX4_bound_7 : decode cX4_bound 7 = .ok (.goto 14, 3) := by decide +kernel
theorem dX4_bound_10 : decode cX4_bound 10 = .ok (.iload_n 0, 1) := by decide +kernel
theorem dX4_bound_11 : decode cX4_bound 11 = .ok (.iload_n 2, 1) := by decide +kernel
theorem dX4_bound_12 : decode cX4_bound 12 = .ok (.if_icmp .le 8, 3) := by decide +kernel
theorem dX4_bound_15 : decode cX4_bound 15 = .ok (.bipush (-6), 2) := by decide +kernel
theorem dX4_bound_17 : decode cX4_bound 17 = .ok (.goto 4, 3) := by decide +kernel
theorem dX4_bound_20 : decode cX4_bound 20 = .ok (.iconst 0, 1) := by decide +kernel
theorem dX4_bound_21 : decode cX4_bound 21 = .ok (.ireturn, 1) := by decide +kernel
theorem dX4_isOne_0 : decode cX4_isOne 0 = .ok (.iload_n 1, 1) := by decide +kernel
theorem dX4_isOne_1 : decode cX4_isOne 1 = .ok (.ifCond .lt 15, 3) := by decide +kernel
theorem dX4_isOne_4 : decode cX4_isOne 4 = .ok (.iload_n 1, 1) := by decide +kernel
theorem dX4_isOne_5 : decode cX4_isOne 5 = .ok (.aload_n 0, 1) := by decide +kernel
theorem dX4_isOne_6 : decode cX4_isOne 6 = .ok (.getfield 93, 3) := by decide +kernel
theorem dX4_isOne_9 : decode cX4_isOne 9 = .ok (.if_icmp .ge 7, 3) := by decide +kernel
theorem dX4_isOne_12 : decode cX4_isOne 12 = .ok (.iconst 1, 1) := by decide +kernel
theorem dX4_isOne_13 : decode cX4_isOne 13 = .ok (.goto 4, 3) := by decide +kernel
theorem dX4_isOne_16 : decode cX4_isOne 16 = .ok (.iconst 0, 1) := by decide +kernel
theorem dX4_isOne_17 : decode cX4_isOne 17 = .ok (.ireturn, 1) := by decide +kernel
theorem dX4_isNeed_0 : decode cX4_isNeed 0 = .ok (.iload_n 1, 1) := by decide +kernel
theorem dX4_isNeed_1 : decode cX4_isNeed 1 = .ok (.ifCond .lt 15, 3) := by decide +kernel
theorem dX4_isNeed_4 : decode cX4_isNeed 4 = .ok (.iload_n 1, 1) := by decide +kernel
theorem dX4_isNeed_5 : decode cX4_isNeed 5 = .ok (.aload_n 0, 1) := by decide +kernel
theorem dX4_isNeed_6 : decode cX4_isNeed 6 = .ok (.getfield 96, 3) := by decide +kernel
theorem dX4_isNeed_9 : decode cX4_isNeed 9 = .ok (.if_icmp .ge 7, 3) := by decide +kernel
theorem dX4_isNeed_12 : decode cX4_isNeed 12 = .ok (.iconst 1, 1) := by decide +kernel
theorem dX4_isNeed_13 : decode cX4_isNeed 13 = .ok (.goto 4, 3) := by decide +kernel
theorem dX4_isNeed_16 : decode cX4_isNeed 16 = .ok (.iconst 0, 1) := by decide +kernel
theorem dX4_isNeed_17 : decode cX4_isNeed 17 = .ok (.ireturn, 1) := by decide +kernel
set_option maxRecDepth 20000 in
theorem ggX4_feed_X4_bound : GoodIn wsX4_feed wsX4_bound := goodIn_r _ [6] rfl (by decide +kernel)
set_option maxRecDepth 20000 in
theorem gX4_feed_X4_bound : GoodIn wsX4_feed (va_wsS RX4 99 yX4_bound wsX4_bound) := goodIn_app (goodIn_r _ [3, 4, 5] rfl (by decide +kernel)) ggX4_feed_X4_bound
set_option maxRecDepth 20000 in
theorem ggX4_feed_X4_no : GoodIn wsX4_feed wsX4_no := goodIn_r _ [10, 11, 12, 13, 14, 15, 16, 17, 18, 19, 20, 21, 22, 23, 24, 25, 26, 27, 28, 29, 30, 31, 32, 33, 34, 35, 36, 37, 38, 39, 40, 41, 42, 43, 44, 45, 46, 47, 48, 49, 50, 51, 52, 53, 54, 55, 56] rfl (by decide +kernel)
set_option maxRecDepth 20000 in
theorem gX4_feed_X4_no : GoodIn wsX4_feed (wsV RX4 106 RX4 yX4_no wsX4_no) := goodIn_app (goodIn_r _ [7, 8, 9, 5] rfl (by decide +kernel)) ggX4_feed_X4_no
theorem dX4_feed_0 : decode cX4_feed 0 = .ok (.iload_n 1, 1) := by decide +kernel
theorem dX4_feed_1 : decode cX4_feed 1 = .ok (.iconst 0, 1) := by decide +kernel
theorem dX4_feed_2 : decode cX4_feed 2 = .ok (.sipush 255, 3) := by decide +kernel
theorem dX4_feed_5 : decode cX4_feed 5 = .ok (.invokestatic 99, 3) := by decide +kernel
theorem dX4_feed_8 : decode cX4_feed 8 = .ok (.istore_n 2, 1) := by decide +kernel
theorem dX4_feed_9 : decode cX4_feed 9 = .ok (.iload_n 2, 1) := by decide +kernel
theorem dX4_feed_10 : decode cX4_feed 10 = .ok (.ifCond .ne 15, 3) := by decide +kernel
theorem dX4_feed_13 : decode cX4_feed 13 = .ok (.aload_n 0, 1) := by decide +kernel
theorem dX4_feed_14 : decode cX4_feed 14 = .ok (.getfield 103, 3) := by decide +kernel
theorem dX4_feed_17 : decode cX4_feed 17 = .ok (.bipush 64, 2) := by decide +kernel
theorem dX4_feed_19 : decode cX4_feed 19 = .ok (.if_icmp .ne 6, 3) := by decide +kernel
theorem dX4_feed_22 : decode cX4_feed 22 = .ok (.bipush (-6), 2) := by decide +kernel
theorem dX4_feed_24 : decode cX4_feed 24 = .ok (.istore_n 2, 1) := by decide +kernel
theorem dX4_feed_25 : decode cX4_feed 25 = .ok (.iload_n 2, 1) := by decide +kernel
theorem dX4_feed_26 : decode cX4_feed 26 = .ok (.ifCond .eq 9, 3) := by decide +kernel
theorem dX4_feed_29 : decode cX4_feed 29 = .ok (.aload_n 0, 1) := by decide +kernel
theorem dX4_feed_30 : decode cX4_feed 30 = .ok (.iload_n 2, 1) := by decide +kernel
theorem dX4_feed_31 : decode cX4_feed 31 = .ok (.invokevirtual 106, 3) := by decide +kernel
theorem dX4_feed_34 : decode cX4_feed 34 = .ok (.ireturn, 1) := by decide +kernel
theorem dX4_feed_35 : decode cX4_feed 35 = .ok (.aload_n 0, 1) := by decide +kernel
theorem dX4_feed_36 : decode cX4_feed 36 = .ok (.getfield 62, 3) := by decide +kernel
theorem dX4_feed_39 : decode cX4_feed 39 = .ok (.aload_n 0, 1) := by decide +kernel
theorem dX4_feed_40 : decode cX4_feed 40 = .ok (.getfield 103, 3) := by decide +kernel
theorem dX4_feed_43 : decode cX4_feed 43 = .ok (.iload_n 1, 1) := by decide +kernel
theorem dX4_feed_44 : decode cX4_feed 44 = .ok (.iastore, 1) := by decide +kernel
theorem dX4_feed_45 : decode cX4_feed 45 = .ok (.aload_n 0, 1) := by decide +kernel
theorem dX4_feed_46 : decode cX4_feed 46 = .ok (.dup, 1) := by decide +kernel
theorem dX4_feed_47 : decode cX4_feed 47 = .ok (.getfield 103, 3) := by decide +kernel
theorem dX4_feed_50 : decode cX4_feed 50 = .ok (.iconst 1, 1) := by decide +kernel
theorem dX4_feed_51 : decode cX4_feed 51 = .ok (.iadd, 1) := by decide +kernel
theorem dX4_feed_52 : decode cX4_feed 52 = .ok (.putfield 103, 3) := by decide +kernel
theorem dX4_feed_55 : decode cX4_feed 55 = .ok (.aload_n 0, 1) := by decide +kernel
theorem dX4_feed_56 : decode cX4_feed 56 = .ok (.getfield 103, 3) := by decide +kernel
theorem dX4_feed_59 : decode cX4_feed 59 = .ok (.ireturn, 1) := by decide +kernel
theorem dX4_next_0 : decode cX4_next 0 = .ok (.aload_n 0, 1) := by decide +kernel
theorem dX4_next_1 : decode cX4_next 1 = .ok (.getfield 110, 3) := by decide +kernel
theorem dX4_next_4 : decode cX4_next 4 = .ok (.aload_n 0, 1) := by decide +kernel
theorem dX4_next_5 : decode cX4_next 5 = .ok (.getfield 103, 3) := by decide +kernel
theorem dX4_next_8 : decode cX4_next 8 = .ok (.if_icmp .ge 15, 3) := by decide +kernel
theorem dX4_next_11 : decode cX4_next 11 = .ok (.aload_n 0, 1) := by decide +kernel
theorem dX4_next_12 : decode cX4_next 12 = .ok (.getfield 62, 3) := by decide +kernel
theorem dX4_next_15 : decode cX4_next 15 = .ok (.aload_n 0, 1) := by decide +kernel
theorem dX4_next_16 : decode cX4_next 16 = .ok (.getfield 110, 3) := by decide +kernel
theorem dX4_next_19 : decode cX4_next 19 = .ok (.iaload, 1) := by decide +kernel
theorem dX4_next_20 : decode cX4_next 20 = .ok (.goto 4, 3) := by decide +kernel
theorem dX4_next_23 : decode cX4_next 23 = .ok (.iconst (-1), 1) := by decide +kernel
theorem dX4_next_24 : decode cX4_next 24 = .ok (.ireturn, 1) := by decide +kernel
set_option maxRecDepth 20000 in
theorem ggX4_isNext_X4_next : GoodIn wsX4_isNext wsX4_next := goodIn_r _ [6, 1, 7, 8, 9, 10, 11, 12, 13, 14, 15, 16, 17, 18, 19, 20, 21, 22, 23, 24, 25, 26, 27, 28, 29, 30, 31, 32, 33, 34, 35, 36, 37, 38, 39, 40, 41, 42, 43, 44, 45, 46, 47, 48, 49, 50, 51, 52, 53] rfl (by decide +kernel)
set_option maxRecDepth 20000 in
theorem gX4_isNext_X4_next : GoodIn wsX4_isNext (wsV RX4 113 RX4 yX4_next wsX4_next) := goodIn_app (goodIn_r _ [2, 3, 4, 5] rfl (by decide +kernel)) ggX4_isNext_X4_next
theorem dX4_isNext_0 : decode cX4_isNext 0 = .ok (.aload_n 0, 1) := by decide +kernel
theorem dX4_isNext_1 : decode cX4_isNext 1 = .ok (.invokevirtual 113, 3) := by decide +kernel
theorem dX4_isNext_4 : decode cX4_isNext 4 = .ok (.iload_n 1, 1) := by decide +kernel
theorem dX4_isNext_5 : decode cX4_isNext 5 = .ok (.if_icmp .eq 5, 3) := by decide +kernel
theorem dX4_isNext_8 : decode cX4_isNext 8 = .ok (.iconst 0, 1) := by decide +kernel
theorem dX4_isNext_9 : decode cX4_isNext 9 = .ok (.ireturn, 1) := by decide +kernel
theorem dX4_isNext_10 : decode cX4_isNext 10 = .ok (.aload_n 0, 1) := by decide +kernel
theorem dX4_isNext_11 : decode cX4_isNext 11 = .ok (.dup, 1) := by decide +kernel
theorem dX4_isNext_12 : decode cX4_isNext 12 = .ok (.getfield 110, 3) := by decide +kernel
theorem dX4_isNext_15 : decode cX4_isNext 15 = .ok (.iconst 1, 1) := by decide +kernel
theorem dX4_isNext_16 : decode cX4_isNext 16 = .ok (.iadd, 1) := by decide +kernel
theorem dX4_isNext_17 : decode cX4_isNext 17 = .ok (.putfield 110, 3) := by decide +kernel
theorem dX4_isNext_20 : decode cX4_isNext 20 = .ok (.iconst 1, 1) := by decide +kernel
theorem dX4_isNext_21 : decode cX4_isNext 21 = .ok (.ireturn, 1) := by decide +kernel
set_option maxRecDepth 20000 in
theorem ggX4_reads_X4_next : GoodIn wsX4_reads wsX4_next := goodIn_r _ [7, 1, 8, 9, 13, 14, 15, 16, 17, 18, 19, 20, 21, 22, 23, 24, 25, 26, 27, 28, 29, 30, 31, 32, 33, 34, 35, 36, 37, 38, 39, 40, 41, 42, 43, 44, 45, 46, 47, 48, 49, 50, 51, 52, 53, 54, 55, 56, 57] rfl (by decide +kernel)
set_option maxRecDepth 20000 in
theorem gX4_reads_X4_next : GoodIn wsX4_reads (wsV RX4 113 RX4 yX4_next wsX4_next) := goodIn_app (goodIn_r _ [3, 4, 5, 6] rfl (by decide +kernel)) ggX4_reads_X4_next
set_option maxRecDepth 20000 in
theorem ggX4_reads_X4_isIn : GoodIn wsX4_reads wsX4_isIn := goodIn_r _ [12] rfl (by decide +kernel)
set_option maxRecDepth 20000 in
theorem gX4_reads_X4_isIn : GoodIn wsX4_reads (va_wsS RX4 117 yX4_isIn wsX4_isIn) := goodIn_app (goodIn_r _ [10, 11, 6] rfl (by decide +kernel)) ggX4_reads_X4_isIn
theorem dX4_reads_0 : decode cX4_reads 0 = .ok (.aload_n 0, 1) := by decide +kernel
theorem dX4_reads_1 : decode cX4_reads 1 = .ok (.invokevirtual 113, 3) := by decide +kernel
theorem dX4_reads_4 : decode cX4_reads 4 = .ok (.bipush 48, 2) := by decide +kernel
theorem dX4_reads_6 : decode cX4_reads 6 = .ok (.bipush 57, 2) := by decide +kernel
theorem dX4_reads_8 : decode cX4_reads 8 = .ok (.invokestatic 117, 3) := by decide +kernel
theorem dX4_reads_11 : decode cX4_reads 11 = .ok (.ifCond .ne 5, 3) := by decide +kernel
theorem dX4_reads_14 : decode cX4_reads 14 = .ok (.iconst 0, 1) := by decide +kernel
theorem dX4_reads_15 : decode cX4_reads 15 = .ok (.ireturn, 1) := by decide +kernel
theorem dX4_reads_16 : decode cX4_reads 16 = .ok (.iconst 0, 1) := by decide +kernel
theorem dX4_reads_17 : decode cX4_reads 17 = .ok (.istore_n 3, 1) := by decide +kernel
theorem dX4_reads_18 : decode cX4_reads 18 = .ok (.iconst 0, 1) := by decide +kernel
theorem dX4_reads_19 : decode cX4_reads 19 = .ok (.istore 4, 2) := by decide +kernel
theorem dX4_reads_21 : decode cX4_reads 21 = .ok (.iload 4, 2) := by decide +kernel
theorem dX4_reads_23 : decode cX4_reads 23 = .ok (.iload_n 2, 1) := by decide +kernel
theorem dX4_reads_24 : decode cX4_reads 24 = .ok (.if_icmp .ge 46, 3) := by decide +kernel
theorem dX4_reads_27 : decode cX4_reads 27 = .ok (.aload_n 0, 1) := by decide +kernel
theorem dX4_reads_28 : decode cX4_reads 28 = .ok (.invokevirtual 113, 3) := by decide +kernel
theorem dX4_reads_31 : decode cX4_reads 31 = .ok (.bipush 48, 2) := by decide +kernel
theorem dX4_reads_33 : decode cX4_reads 33 = .ok (.bipush 57, 2) := by decide +kernel
theorem dX4_reads_35 : decode cX4_reads 35 = .ok (.invokestatic 117, 3) := by decide +kernel
theorem dX4_reads_38 : decode cX4_reads 38 = .ok (.ifCond .eq 32, 3) := by decide +kernel
theorem dX4_reads_41 : decode cX4_reads 41 = .ok (.bipush 10, 2) := by decide +kernel
theorem dX4_reads_43 : decode cX4_reads 43 = .ok (.iload_n 3, 1) := by decide +kernel
theorem dX4_reads_44 : decode cX4_reads 44 = .ok (.imul, 1) := by decide +kernel
theorem dX4_reads_45 : decode cX4_reads 45 = .ok (.aload_n 0, 1) := by decide +kernel
theorem dX4_reads_46 : decode cX4_reads 46 = .ok (.invokevirtual 113, 3) := by decide +kernel
theorem dX4_reads_49 : decode cX4_reads 49 = .ok (.iadd, 1) := by decide +kernel
theorem dX4_reads_50 : decode cX4_reads 50 = .ok (.bipush 48, 2) := by decide +kernel
theorem dX4_reads_52 : decode cX4_reads 52 = .ok (.isub, 1) := by decide +kernel
theorem dX4_reads_53 : decode cX4_reads 53 = .ok (.istore_n 3, 1) := by decide +kernel
theorem dX4_reads_54 : decode cX4_reads 54 = .ok (.aload_n 0, 1) := by decide +kernel
theorem dX4_reads_55 : decode cX4_reads 55 = .ok (.dup, 1) := by decide +kernel
theorem dX4_reads_56 : decode cX4_reads 56 = .ok (.getfield 110, 3) := by decide +kernel
theorem dX4_reads_59 : decode cX4_reads 59 = .ok (.iconst 1, 1) := by decide +kernel
theorem dX4_reads_60 : decode cX4_reads 60 = .ok (.iadd, 1) := by decide +kernel
theorem dX4_reads_61 : decode cX4_reads 61 = .ok (.putfield 110, 3) := by decide +kernel
theorem dX4_reads_64 : decode cX4_reads 64 = .ok (.iinc 4 1, 3) := by decide +kernel
theorem dX4_reads_67 : decode cX4_reads 67 = .ok (.goto (-46), 3) := by decide +kernel
theorem dX4_reads_70 : decode cX4_reads 70 = .ok (.aload_n 0, 1) := by decide +kernel
theorem dX4_reads_71 : decode cX4_reads 71 = .ok (.getfield 71, 3) := by decide +kernel
theorem dX4_reads_74 : decode cX4_reads 74 = .ok (.iload_n 1, 1) := by decide +kernel
theorem dX4_reads_75 : decode cX4_reads 75 = .ok (.iload_n 3, 1) := by decide +kernel
theorem dX4_reads_76 : decode cX4_reads 76 = .ok (.iastore, 1) := by decide +kernel
theorem dX4_reads_77 : decode cX4_reads 77 = .ok (.iconst 1, 1) := by decide +kernel
theorem dX4_reads_78 : decode cX4_reads 78 = .ok (.ireturn, 1) := by decide +kernel
set_option maxRecDepth 20000 in
theorem ggX4_readsDigits_X4_reads : GoodIn wsX4_readsDigits wsX4_reads := goodIn_r _ [5, 6, 7, 8, 9, 10, 4, 11, 12, 13, 14, 15, 16, 17, 18, 19, 20, 21, 22, 23, 24, 25, 26, 27, 28, 29, 30, 31, 32, 33, 34, 35, 36, 37, 38, 39, 40, 41, 42, 43, 44, 45, 46, 47, 48, 49, 50, 51, 52, 53, 54, 55, 56, 57, 58, 59, 60, 61] rfl (by decide +kernel)
set_option maxRecDepth 20000 in
theorem gX4_readsDigits_X4_reads : GoodIn wsX4_readsDigits (wsV RX4 121 RX4 yX4_reads wsX4_reads) := goodIn_app (goodIn_r _ [1, 2, 3, 4] rfl (by decide +kernel)) ggX4_readsDigits_X4_reads
theorem dX4_readsDigits_0 : decode cX4_readsDigits 0 = .ok (.iconst 0, 1) := by decide +kernel
theorem dX4_readsDigits_1 : decode cX4_readsDigits 1 = .ok (.istore_n 3, 1) := by decide +kernel
theorem dX4_readsDigits_2 : decode cX4_readsDigits 2 = .ok (.iload_n 3, 1) := by decide +kernel
theorem dX4_readsDigits_3 : decode cX4_readsDigits 3 = .ok (.iload_n 2, 1) := by decide +kernel
theorem dX4_readsDigits_4 : decode cX4_readsDigits 4 = .ok (.if_icmp .ge 22, 3) := by decide +kernel
theorem dX4_readsDigits_7 : decode cX4_readsDigits 7 = .ok (.aload_n 0, 1) := by decide +kernel
theorem dX4_readsDigits_8 : decode cX4_readsDigits 8 = .ok (.iload_n 1, 1) := by decide +kernel
theorem dX4_readsDigits_9 : decode cX4_readsDigits 9 = .ok (.iload_n 3, 1) := by decide +kernel
theorem dX4_readsDigits_10 : decode cX4_readsDigits 10 = .ok (.iadd, 1) := by decide +kernel
theorem dX4_readsDigits_11 : decode cX4_readsDigits 11 = .ok (.iconst 1, 1) := by decide +kernel
theorem dX4_readsDigits_12 : decode cX4_readsDigits 12 = .ok (.invokevirtual 121, 3) := by decide +kernel
theorem dX4_readsDigits_15 : decode cX4_readsDigits 15 = .ok (.ifCond .ne 5, 3) := by decide +kernel
theorem dX4_readsDigits_18 : decode cX4_readsDigits 18 = .ok (.iconst 0, 1) := by decide +kernel
theorem dX4_readsDigits_19 : decode cX4_readsDigits 19 = .ok (.ireturn, 1) := by decide +kernel
theorem dX4_readsDigits_20 : decode cX4_readsDigits 20 = .ok (.iinc 3 1, 3) := by decide +kernel
theorem dX4_readsDigits_23 : decode cX4_readsDigits 23 = .ok (.goto (-21), 3) := by decide +kernel
theorem dX4_readsDigits_26 : decode cX4_readsDigits 26 = .ok (.iconst 1, 1) := by decide +kernel
theorem dX4_readsDigits_27 : decode cX4_readsDigits 27 = .ok (.ireturn, 1) := by decide +kernel
set_option maxRecDepth 20000 in
theorem ggX4_statement_X4_next : GoodIn wsX4_statement wsX4_next := goodIn_r _ [9, 4, 10, 11, 28, 29, 30, 31, 32, 33, 34, 35, 36, 37, 38, 39, 40, 41, 42, 43, 44, 45, 46, 47, 48, 49, 50, 51, 52, 53, 54, 55, 56, 57, 58, 59, 60, 61, 62, 63, 64, 65, 66, 67, 68, 69, 70, 71, 72] rfl (by decide +kernel)
set_option maxRecDepth 20000 in
theorem gX4_statement_X4_next : GoodIn wsX4_statement (wsV RX4 113 RX4 yX4_next wsX4_next) := goodIn_app (goodIn_r _ [5, 6, 7, 8] rfl (by decide +kernel)) ggX4_statement_X4_next
set_option maxRecDepth 20000 in
theorem ggX4_statement_X4_readsDigits : GoodIn wsX4_statement wsX4_readsDigits := goodIn_r _ [15, 16, 17, 18, 8, 19, 4, 20, 5, 6, 7, 9, 10, 11, 21, 22, 23, 28, 29, 30, 31, 32, 33, 34, 35, 36, 37, 38, 39, 40, 41, 42, 43, 44, 45, 46, 47, 48, 49, 50, 51, 52, 53, 54, 55, 56, 57, 58, 59, 60, 61, 62, 63, 64, 65, 66, 67, 68, 69, 70, 71, 72] rfl (by decide +kernel)
set_option maxRecDepth 20000 in
theorem gX4_statement_X4_readsDigits : GoodIn wsX4_statement (wsV RX4 128 RX4 yX4_readsDigits wsX4_readsDigits) := goodIn_app (goodIn_r _ [12, 13, 14, 8] rfl (by decide +kernel)) ggX4_statement_X4_readsDigits
set_option maxRecDepth 20000 in
theorem ggX4_statement_X4_isNext : GoodIn wsX4_statement wsX4_isNext := goodIn_r _ [27, 4, 5, 6, 7, 8, 9, 10, 11, 28, 29, 30, 31, 32, 33, 34, 35, 36, 37, 38, 39, 40, 41, 42, 43, 44, 45, 46, 47, 48, 49, 50, 51, 52, 53, 54, 55, 56, 57, 58, 59, 60, 61, 62, 63, 64, 65, 66, 67, 68, 69, 70, 71, 72] rfl (by decide +kernel)
set_option maxRecDepth 20000 in
theorem gX4_statement_X4_isNext : GoodIn wsX4_statement (wsV RX4 131 RX4 yX4_isNext wsX4_isNext) := goodIn_app (goodIn_r _ [24, 25, 26, 8] rfl (by decide +kernel)) ggX4_statement_X4_isNext
set_option maxRecDepth 20000 in
theorem ggX4_statement_X4_reads : GoodIn wsX4_statement wsX4_reads := goodIn_r _ [19, 4, 20, 5, 6, 7, 8, 9, 10, 11, 21, 22, 23, 28, 29, 30, 31, 32, 33, 34, 35, 36, 37, 38, 39, 40, 41, 42, 43, 44, 45, 46, 47, 48, 49, 50, 51, 52, 53, 54, 55, 56, 57, 58, 59, 60, 61, 62, 63, 64, 65, 66, 67, 68, 69, 70, 71, 72] rfl (by decide +kernel)
set_option maxRecDepth 20000 in
theorem gX4_statement_X4_reads : GoodIn wsX4_statement (wsV RX4 121 RX4 yX4_reads wsX4_reads) := goodIn_app (goodIn_r _ [16, 17, 18, 8] rfl (by decide +kernel)) ggX4_statement_X4_reads
theorem dX4_statement_0 : decode cX4_statement 0 = .ok (.aload_n 0, 1) := by decide +kernel
theorem dX4_statement_1 : decode cX4_statement 1 = .ok (.invokevirtual 113, 3) := by decide +kernel
theorem dX4_statement_4 : decode cX4_statement 4 = .ok (.istore_n 1, 1) := by decide +kernel
theorem dX4_statement_5 : decode cX4_statement 5 = .ok (.iload_n 1, 1) := by decide +kernel
theorem dX4_statement_6 : decode cX4_statement 6 = .ok (.bipush 112, 2) := by decide +kernel
theorem dX4_statement_8 : decode cX4_statement 8 = .ok (.if_icmp .eq 17, 3) := by decide +kernel
theorem dX4_statement_11 : decode cX4_statement 11 = .ok (.iload_n 1, 1) := by decide +kernel
theorem dX4_statement_12 : decode cX4_statement 12 = .ok (.bipush 110, 2) := by decide +kernel
theorem dX4_statement_14 : decode cX4_statement 14 = .ok (.if_icmp .eq 11, 3) := by decide +kernel
theorem dX4_statement_17 : decode cX4_statement 17 = .ok (.iload_n 1, 1) := by decide +kernel
theorem dX4_statement_18 : decode cX4_statement 18 = .ok (.bipush 108, 2) := by decide +kernel
theorem dX4_statement_20 : decode cX4_statement 20 = .ok (.if_icmp .eq 5, 3) := by decide +kernel
theorem dX4_statement_23 : decode cX4_statement 23 = .ok (.iconst 0, 1) := by decide +kernel
theorem dX4_statement_24 : decode cX4_statement 24 = .ok (.ireturn, 1) := by decide +kernel
theorem dX4_statement_25 : decode cX4_statement 25 = .ok (.aload_n 0, 1) := by decide +kernel
theorem dX4_statement_26 : decode cX4_statement 26 = .ok (.getfield 65, 3) := by decide +kernel
theorem dX4_statement_29 : decode cX4_statement 29 = .ok (.aload_n 0, 1) := by decide +kernel
theorem dX4_statement_30 : decode cX4_statement 30 = .ok (.getfield 125, 3) := by decide +kernel
theorem dX4_statement_33 : decode cX4_statement 33 = .ok (.iload_n 1, 1) := by decide +kernel
theorem dX4_statement_34 : decode cX4_statement 34 = .ok (.iastore, 1) := by decide +kernel
theorem dX4_statement_35 : decode cX4_statement 35 = .ok (.aload_n 0, 1) := by decide +kernel
theorem dX4_statement_36 : decode cX4_statement 36 = .ok (.getfield 68, 3) := by decide +kernel
theorem dX4_statement_39 : decode cX4_statement 39 = .ok (.aload_n 0, 1) := by decide +kernel
theorem dX4_statement_40 : decode cX4_statement 40 = .ok (.getfield 125, 3) := by decide +kernel
theorem dX4_statement_43 : decode cX4_statement 43 = .ok (.aload_n 0, 1) := by decide +kernel
theorem dX4_statement_44 : decode cX4_statement 44 = .ok (.getfield 110, 3) := by decide +kernel
theorem dX4_statement_47 : decode cX4_statement 47 = .ok (.iastore, 1) := by decide +kernel
theorem dX4_statement_48 : decode cX4_statement 48 = .ok (.aload_n 0, 1) := by decide +kernel
theorem dX4_statement_49 : decode cX4_statement 49 = .ok (.dup, 1) := by decide +kernel
theorem dX4_statement_50 : decode cX4_statement 50 = .ok (.getfield 110, 3) := by decide +kernel
theorem dX4_statement_53 : decode cX4_statement 53 = .ok (.iconst 1, 1) := by decide +kernel
theorem dX4_statement_54 : decode cX4_statement 54 = .ok (.iadd, 1) := by decide +kernel
theorem dX4_statement_55 : decode cX4_statement 55 = .ok (.putfield 110, 3) := by decide +kernel
theorem dX4_statement_58 : decode cX4_statement 58 = .ok (.bipush 6, 2) := by decide +kernel
theorem dX4_statement_60 : decode cX4_statement 60 = .ok (.aload_n 0, 1) := by decide +kernel
theorem dX4_statement_61 : decode cX4_statement 61 = .ok (.getfield 125, 3) := by decide +kernel
theorem dX4_statement_64 : decode cX4_statement 64 = .ok (.imul, 1) := by decide +kernel
theorem dX4_statement_65 : decode cX4_statement 65 = .ok (.istore_n 2, 1) := by decide +kernel
theorem dX4_statement_66 : decode cX4_statement 66 = .ok (.iload_n 1, 1) := by decide +kernel
theorem dX4_statement_67 : decode cX4_statement 67 = .ok (.bipush 110, 2) := by decide +kernel
theorem dX4_statement_69 : decode cX4_statement 69 = .ok (.if_icmp .ne 27, 3) := by decide +kernel
theorem dX4_statement_72 : decode cX4_statement 72 = .ok (.aload_n 0, 1) := by decide +kernel
theorem dX4_statement_73 : decode cX4_statement 73 = .ok (.iload_n 2, 1) := by decide +kernel
theorem dX4_statement_74 : decode cX4_statement 74 = .ok (.iconst 5, 1) := by decide +kernel
theorem dX4_statement_75 : decode cX4_statement 75 = .ok (.invokevirtual 128, 3) := by decide +kernel
theorem dX4_statement_78 : decode cX4_statement 78 = .ok (.ifCond .eq 16, 3) := by decide +kernel
theorem dX4_statement_81 : decode cX4_statement 81 = .ok (.aload_n 0, 1) := by decide +kernel
theorem dX4_statement_82 : decode cX4_statement 82 = .ok (.bipush 59, 2) := by decide +kernel
theorem dX4_statement_84 : decode cX4_statement 84 = .ok (.invokevirtual 131, 3) := by decide +kernel
theorem dX4_statement_87 : decode cX4_statement 87 = .ok (.ifCond .eq 7, 3) := by decide +kernel
theorem dX4_statement_90 : decode cX4_statement 90 = .ok (.iconst 1, 1) := by decide +kernel
theorem dX4_statement_91 : decode cX4_statement 91 = .ok (.goto 4, 3) := by decide +kernel
theorem dX4_statement_94 : decode cX4_statement 94 = .ok (.iconst 0, 1) := by decide +kernel
theorem dX4_statement_95 : decode cX4_statement 95 = .ok (.ireturn, 1) := by decide +kernel
theorem dX4_statement_96 : decode cX4_statement 96 = .ok (.iload_n 1, 1) := by decide +kernel
theorem dX4_statement_97 : decode cX4_statement 97 = .ok (.bipush 108, 2) := by decide +kernel
theorem dX4_statement_99 : decode cX4_statement 99 = .ok (.if_icmp .ne 27, 3) := by decide +kernel
theorem dX4_statement_102 : decode cX4_statement 102 = .ok (.aload_n 0, 1) := by decide +kernel
theorem dX4_statement_103 : decode cX4_statement 103 = .ok (.iload_n 2, 1) := by decide +kernel
theorem dX4_statement_104 : decode cX4_statement 104 = .ok (.iconst 3, 1) := by decide +kernel
theorem dX4_statement_105 : decode cX4_statement 105 = .ok (.invokevirtual 128, 3) := by decide +kernel
theorem dX4_statement_108 : decode cX4_statement 108 = .ok (.ifCond .eq 16, 3) := by decide +kernel
theorem dX4_statement_111 : decode cX4_statement 111 = .ok (.aload_n 0, 1) := by decide +kernel
theorem dX4_statement_112 : decode cX4_statement 112 = .ok (.bipush 59, 2) := by decide +kernel
theorem dX4_statement_114 : decode cX4_statement 114 = .ok (.invokevirtual 131, 3) := by decide +kernel
theorem dX4_statement_117 : decode cX4_statement 117 = .ok (.ifCond .eq 7, 3) := by decide +kernel
theorem dX4_statement_120 : decode cX4_statement 120 = .ok (.iconst 1, 1) := by decide +kernel
theorem dX4_statement_121 : decode cX4_statement 121 = .ok (.goto 4, 3) := by decide +kernel
theorem dX4_statement_124 : decode cX4_statement 124 = .ok (.iconst 0, 1) := by decide +kernel
theorem dX4_statement_125 : decode cX4_statement 125 = .ok (.ireturn, 1) := by decide +kernel
theorem dX4_statement_126 : decode cX4_statement 126 = .ok (.aload_n 0, 1) := by decide +kernel
theorem dX4_statement_127 : decode cX4_statement 127 = .ok (.iload_n 2, 1) := by decide +kernel
theorem dX4_statement_128 : decode cX4_statement 128 = .ok (.iconst 1, 1) := by decide +kernel
theorem dX4_statement_129 : decode cX4_statement 129 = .ok (.invokevirtual 121, 3) := by decide +kernel
theorem dX4_statement_132 : decode cX4_statement 132 = .ok (.ifCond .eq 47, 3) := by decide +kernel
theorem dX4_statement_135 : decode cX4_statement 135 = .ok (.aload_n 0, 1) := by decide +kernel
theorem dX4_statement_136 : decode cX4_statement 136 = .ok (.iload_n 2, 1) := by decide +kernel
theorem dX4_statement_137 : decode cX4_statement 137 = .ok (.iconst 1, 1) := by decide +kernel
theorem dX4_statement_138 : decode cX4_statement 138 = .ok (.iadd, 1) := by decide +kernel
theorem dX4_statement_139 : decode cX4_statement 139 = .ok (.iconst 2, 1) := by decide +kernel
theorem dX4_statement_140 : decode cX4_statement 140 = .ok (.invokevirtual 121, 3) := by decide +kernel
theorem dX4_statement_143 : decode cX4_statement 143 = .ok (.ifCond .eq 36, 3) := by decide +kernel
theorem dX4_statement_146 : decode cX4_statement 146 = .ok (.aload_n 0, 1) := by decide +kernel
theorem dX4_statement_147 : decode cX4_statement 147 = .ok (.bipush 44, 2) := by decide +kernel
theorem dX4_statement_149 : decode cX4_statement 149 = .ok (.invokevirtual 131, 3) := by decide +kernel
theorem dX4_statement_152 : decode cX4_statement 152 = .ok (.ifCond .eq 27, 3) := by decide +kernel
theorem dX4_statement_155 : decode cX4_statement 155 = .ok (.aload_n 0, 1) := by decide +kernel
theorem dX4_statement_156 : decode cX4_statement 156 = .ok (.iload_n 2, 1) := by decide +kernel
theorem dX4_statement_157 : decode cX4_statement 157 = .ok (.iconst 2, 1) := by decide +kernel
theorem dX4_statement_158 : decode cX4_statement 158 = .ok (.iadd, 1) := by decide +kernel
theorem dX4_statement_159 : decode cX4_statement 159 = .ok (.iconst 4, 1) := by decide +kernel
theorem dX4_statement_160 : decode cX4_statement 160 = .ok (.invokevirtual 128, 3) := by decide +kernel
theorem dX4_statement_163 : decode cX4_statement 163 = .ok (.ifCond .eq 16, 3) := by decide +kernel
theorem dX4_statement_166 : decode cX4_statement 166 = .ok (.aload_n 0, 1) := by decide +kernel
theorem dX4_statement_167 : decode cX4_statement 167 = .ok (.bipush 59, 2) := by decide +kernel
theorem dX4_statement_169 : decode cX4_statement 169 = .ok (.invokevirtual 131, 3) := by decide +kernel
theorem dX4_statement_172 : decode cX4_statement 172 = .ok (.ifCond .eq 7, 3) := by decide +kernel
theorem dX4_statement_175 : decode cX4_statement 175 = .ok (.iconst 1, 1) := by decide +kernel
theorem dX4_statement_176 : decode cX4_statement 176 = .ok (.goto 4, 3) := by decide +kernel
theorem dX4_statement_179 : decode cX4_statement 179 = .ok (.iconst 0, 1) := by decide +kernel
theorem dX4_statement_180 : decode cX4_statement 180 = .ok (.ireturn, 1) := by decide +kernel
theorem dX4_comesPerson_0 : decode cX4_comesPerson 0 = .ok (.aload_n 0, 1) := by decide +kernel
theorem dX4_comesPerson_1 : decode cX4_comesPerson 1 = .ok (.getfield 71, 3) := by decide +kernel
theorem dX4_comesPerson_4 : decode cX4_comesPerson 4 = .ok (.iload_n 1, 1) := by decide +kernel
theorem dX4_comesPerson_5 : decode cX4_comesPerson 5 = .ok (.iaload, 1) := by decide +kernel
theorem dX4_comesPerson_6 : decode cX4_comesPerson 6 = .ok (.bipush 6, 2) := by decide +kernel
theorem dX4_comesPerson_8 : decode cX4_comesPerson 8 = .ok (.if_icmp .gt 12, 3) := by decide +kernel
theorem dX4_comesPerson_11 : decode cX4_comesPerson 11 = .ok (.aload_n 0, 1) := by decide +kernel
theorem dX4_comesPerson_12 : decode cX4_comesPerson 12 = .ok (.getfield 93, 3) := by decide +kernel
theorem dX4_comesPerson_15 : decode cX4_comesPerson 15 = .ok (.bipush 7, 2) := by decide +kernel
theorem dX4_comesPerson_17 : decode cX4_comesPerson 17 = .ok (.if_icmp .ne 5, 3) := by decide +kernel
theorem dX4_comesPerson_20 : decode cX4_comesPerson 20 = .ok (.iconst 0, 1) := by decide +kernel
theorem dX4_comesPerson_21 : decode cX4_comesPerson 21 = .ok (.ireturn, 1) := by decide +kernel
theorem dX4_comesPerson_22 : decode cX4_comesPerson 22 = .ok (.aload_n 0, 1) := by decide +kernel
theorem dX4_comesPerson_23 : decode cX4_comesPerson 23 = .ok (.getfield 13, 3) := by decide +kernel
theorem dX4_comesPerson_26 : decode cX4_comesPerson 26 = .ok (.aload_n 0, 1) := by decide +kernel
theorem dX4_comesPerson_27 : decode cX4_comesPerson 27 = .ok (.getfield 93, 3) := by decide +kernel
theorem dX4_comesPerson_30 : decode cX4_comesPerson 30 = .ok (.aload_n 0, 1) := by decide +kernel
theorem dX4_comesPerson_31 : decode cX4_comesPerson 31 = .ok (.getfield 71, 3) := by decide +kernel
theorem dX4_comesPerson_34 : decode cX4_comesPerson 34 = .ok (.iload_n 1, 1) := by decide +kernel
theorem dX4_comesPerson_35 : decode cX4_comesPerson 35 = .ok (.iaload, 1) := by decide +kernel
theorem dX4_comesPerson_36 : decode cX4_comesPerson 36 = .ok (.iastore, 1) := by decide +kernel
theorem dX4_comesPerson_37 : decode cX4_comesPerson 37 = .ok (.aload_n 0, 1) := by decide +kernel
theorem dX4_comesPerson_38 : decode cX4_comesPerson 38 = .ok (.getfield 16, 3) := by decide +kernel
theorem dX4_comesPerson_41 : decode cX4_comesPerson 41 = .ok (.aload_n 0, 1) := by decide +kernel
theorem dX4_comesPerson_42 : decode cX4_comesPerson 42 = .ok (.getfield 93, 3) := by decide +kernel
theorem dX4_comesPerson_45 : decode cX4_comesPerson 45 = .ok (.aload_n 0, 1) := by decide +kernel
theorem dX4_comesPerson_46 : decode cX4_comesPerson 46 = .ok (.getfield 71, 3) := by decide +kernel
theorem dX4_comesPerson_49 : decode cX4_comesPerson 49 = .ok (.iload_n 1, 1) := by decide +kernel
theorem dX4_comesPerson_50 : decode cX4_comesPerson 50 = .ok (.iconst 1, 1) := by decide +kernel
theorem dX4_comesPerson_51 : decode cX4_comesPerson 51 = .ok (.iadd, 1) := by decide +kernel
theorem dX4_comesPerson_52 : decode cX4_comesPerson 52 = .ok (.iaload, 1) := by decide +kernel
theorem dX4_comesPerson_53 : decode cX4_comesPerson 53 = .ok (.iastore, 1) := by decide +kernel
theorem dX4_comesPerson_54 : decode cX4_comesPerson 54 = .ok (.iconst 0, 1) := by decide +kernel
theorem dX4_comesPerson_55 : decode cX4_comesPerson 55 = .ok (.istore_n 2, 1) := by decide +kernel
theorem dX4_comesPerson_56 : decode cX4_comesPerson 56 = .ok (.iload_n 2, 1) := by decide +kernel
theorem dX4_comesPerson_57 : decode cX4_comesPerson 57 = .ok (.iconst 4, 1) := by decide +kernel
theorem dX4_comesPerson_58 : decode cX4_comesPerson 58 = .ok (.if_icmp .ge 32, 3) := by decide +kernel
theorem dX4_comesPerson_61 : decode cX4_comesPerson 61 = .ok (.aload_n 0, 1) := by decide +kernel
theorem dX4_comesPerson_62 : decode cX4_comesPerson 62 = .ok (.getfield 19, 3) := by decide +kernel
theorem dX4_comesPerson_65 : decode cX4_comesPerson 65 = .ok (.iconst 4, 1) := by decide +kernel
theorem dX4_comesPerson_66 : decode cX4_comesPerson 66 = .ok (.aload_n 0, 1) := by decide +kernel
theorem dX4_comesPerson_67 : decode cX4_comesPerson 67 = .ok (.getfield 93, 3) := by decide +kernel
theorem dX4_comesPerson_70 : decode cX4_comesPerson 70 = .ok (.imul, 1) := by decide +kernel
theorem dX4_comesPerson_71 : decode cX4_comesPerson 71 = .ok (.iload_n 2, 1) := by decide +kernel
theorem dX4_comesPerson_72 : decode cX4_comesPerson 72 = .ok (.iadd, 1) := by decide +kernel
theorem dX4_comesPerson_73 : decode cX4_comesPerson 73 = .ok (.aload_n 0, 1) := by decide +kernel
theorem dX4_comesPerson_74 : decode cX4_comesPerson 74 = .ok (.getfield 71, 3) := by decide +kernel
theorem dX4_comesPerson_77 : decode cX4_comesPerson 77 = .ok (.iload_n 1, 1) := by decide +kernel
theorem dX4_comesPerson_78 : decode cX4_comesPerson 78 = .ok (.iconst 2, 1) := by decide +kernel
theorem dX4_comesPerson_79 : decode cX4_comesPerson 79 = .ok (.iadd, 1) := by decide +kernel
theorem dX4_comesPerson_80 : decode cX4_comesPerson 80 = .ok (.iload_n 2, 1) := by decide +kernel
theorem dX4_comesPerson_81 : decode cX4_comesPerson 81 = .ok (.iadd, 1) := by decide +kernel
theorem dX4_comesPerson_82 : decode cX4_comesPerson 82 = .ok (.iaload, 1) := by decide +kernel
theorem dX4_comesPerson_83 : decode cX4_comesPerson 83 = .ok (.iastore, 1) := by decide +kernel
theorem dX4_comesPerson_84 : decode cX4_comesPerson 84 = .ok (.iinc 2 1, 3) := by decide +kernel
theorem dX4_comesPerson_87 : decode cX4_comesPerson 87 = .ok (.goto (-31), 3) := by decide +kernel
theorem dX4_comesPerson_90 : decode cX4_comesPerson 90 = .ok (.aload_n 0, 1) := by decide +kernel
theorem dX4_comesPerson_91 : decode cX4_comesPerson 91 = .ok (.dup, 1) := by decide +kernel
theorem dX4_comesPerson_92 : decode cX4_comesPerson 92 = .ok (.getfield 93, 3) := by decide +kernel
theorem dX4_comesPerson_95 : decode cX4_comesPerson 95 = .ok (.iconst 1, 1) := by decide +kernel
theorem dX4_comesPerson_96 : decode cX4_comesPerson 96 = .ok (.iadd, 1) := by decide +kernel
theorem dX4_comesPerson_97 : decode cX4_comesPerson 97 = .ok (.putfield 93, 3) := by decide +kernel
theorem dX4_comesPerson_100 : decode cX4_comesPerson 100 = .ok (.iconst 1, 1) := by decide +kernel
theorem dX4_comesPerson_101 : decode cX4_comesPerson 101 = .ok (.ireturn, 1) := by decide +kernel
set_option maxRecDepth 20000 in
theorem ggX4_comesNeed_X4_isOne : GoodIn wsX4_comesNeed wsX4_isOne := goodIn_r _ [13, 14, 18, 19, 20, 21, 22, 23, 24, 25, 26, 27, 28, 29, 30, 31, 32, 33, 34, 35, 36, 37, 38, 39, 40, 41, 42, 43, 44, 45, 46, 47, 48, 49, 50, 51, 52, 53, 54, 55, 56, 57, 58, 59, 60, 61, 62] rfl (by decide +kernel)
set_option maxRecDepth 20000 in
theorem gX4_comesNeed_X4_isOne : GoodIn wsX4_comesNeed (wsV RX4 135 RX4 yX4_isOne wsX4_isOne) := goodIn_app (goodIn_r _ [9, 10, 11, 12] rfl (by decide +kernel)) ggX4_comesNeed_X4_isOne
set_option maxRecDepth 20000 in
theorem ggX4_comesNeed_X4_isIn : GoodIn wsX4_comesNeed wsX4_isIn := goodIn_r _ [17] rfl (by decide +kernel)
set_option maxRecDepth 20000 in
theorem gX4_comesNeed_X4_isIn : GoodIn wsX4_comesNeed (va_wsS RX4 117 yX4_isIn wsX4_isIn) := goodIn_app (goodIn_r _ [15, 16, 12] rfl (by decide +kernel)) ggX4_comesNeed_X4_isIn
theorem dX4_comesNeed_0 : decode cX4_comesNeed 0 = .ok (.aload_n 0, 1) := by decide +kernel
theorem dX4_comesNeed_1 : decode cX4_comesNeed 1 = .ok (.aload_n 0, 1) := by decide +kernel
theorem dX4_comesNeed_2 : decode cX4_comesNeed 2 = .ok (.getfield 71, 3) := by decide +kernel
theorem dX4_comesNeed_5 : decode cX4_comesNeed 5 = .ok (.iload_n 1, 1) := by decide +kernel
theorem dX4_comesNeed_6 : decode cX4_comesNeed 6 = .ok (.iaload, 1) := by decide +kernel
theorem dX4_comesNeed_7 : decode cX4_comesNeed 7 = .ok (.invokevirtual 135, 3) := by decide +kernel
theorem dX4_comesNeed_10 : decode cX4_comesNeed 10 = .ok (.ifCond .eq 51, 3) := by decide +kernel
theorem dX4_comesNeed_13 : decode cX4_comesNeed 13 = .ok (.aload_n 0, 1) := by decide +kernel
theorem dX4_comesNeed_14 : decode cX4_comesNeed 14 = .ok (.getfield 71, 3) := by decide +kernel
theorem dX4_comesNeed_17 : decode cX4_comesNeed 17 = .ok (.iload_n 1, 1) := by decide +kernel
theorem dX4_comesNeed_18 : decode cX4_comesNeed 18 = .ok (.iconst 1, 1) := by decide +kernel
theorem dX4_comesNeed_19 : decode cX4_comesNeed 19 = .ok (.iadd, 1) := by decide +kernel
theorem dX4_comesNeed_20 : decode cX4_comesNeed 20 = .ok (.iaload, 1) := by decide +kernel
theorem dX4_comesNeed_21 : decode cX4_comesNeed 21 = .ok (.iconst 3, 1) := by decide +kernel
theorem dX4_comesNeed_22 : decode cX4_comesNeed 22 = .ok (.if_icmp .gt 39, 3) := by decide +kernel
theorem dX4_comesNeed_25 : decode cX4_comesNeed 25 = .ok (.aload_n 0, 1) := by decide +kernel
theorem dX4_comesNeed_26 : decode cX4_comesNeed 26 = .ok (.getfield 71, 3) := by decide +kernel
theorem dX4_comesNeed_29 : decode cX4_comesNeed 29 = .ok (.iload_n 1, 1) := by decide +kernel
theorem dX4_comesNeed_30 : decode cX4_comesNeed 30 = .ok (.iconst 2, 1) := by decide +kernel
theorem dX4_comesNeed_31 : decode cX4_comesNeed 31 = .ok (.iadd, 1) := by decide +kernel
theorem dX4_comesNeed_32 : decode cX4_comesNeed 32 = .ok (.iaload, 1) := by decide +kernel
theorem dX4_comesNeed_33 : decode cX4_comesNeed 33 = .ok (.ifCond .eq 28, 3) := by decide +kernel
theorem dX4_comesNeed_36 : decode cX4_comesNeed 36 = .ok (.aload_n 0, 1) := by decide +kernel
theorem dX4_comesNeed_37 : decode cX4_comesNeed 37 = .ok (.getfield 71, 3) := by decide +kernel
theorem dX4_comesNeed_40 : decode cX4_comesNeed 40 = .ok (.iload_n 1, 1) := by decide +kernel
theorem dX4_comesNeed_41 : decode cX4_comesNeed 41 = .ok (.iconst 3, 1) := by decide +kernel
theorem dX4_comesNeed_42 : decode cX4_comesNeed 42 = .ok (.iadd, 1) := by decide +kernel
theorem dX4_comesNeed_43 : decode cX4_comesNeed 43 = .ok (.iaload, 1) := by decide +kernel
theorem dX4_comesNeed_44 : decode cX4_comesNeed 44 = .ok (.iconst 1, 1) := by decide +kernel
theorem dX4_comesNeed_45 : decode cX4_comesNeed 45 = .ok (.iconst 3, 1) := by decide +kernel
theorem dX4_comesNeed_46 : decode cX4_comesNeed 46 = .ok (.invokestatic 117, 3) := by decide +kernel
theorem dX4_comesNeed_49 : decode cX4_comesNeed 49 = .ok (.ifCond .eq 12, 3) := by decide +kernel
theorem dX4_comesNeed_52 : decode cX4_comesNeed 52 = .ok (.aload_n 0, 1) := by decide +kernel
theorem dX4_comesNeed_53 : decode cX4_comesNeed 53 = .ok (.getfield 96, 3) := by decide +kernel
theorem dX4_comesNeed_56 : decode cX4_comesNeed 56 = .ok (.bipush 12, 2) := by decide +kernel
theorem dX4_comesNeed_58 : decode cX4_comesNeed 58 = .ok (.if_icmp .ne 5, 3) := by decide +kernel
theorem dX4_comesNeed_61 : decode cX4_comesNeed 61 = .ok (.iconst 0, 1) := by decide +kernel
theorem dX4_comesNeed_62 : decode cX4_comesNeed 62 = .ok (.ireturn, 1) := by decide +kernel
theorem dX4_comesNeed_63 : decode cX4_comesNeed 63 = .ok (.aload_n 0, 1) := by decide +kernel
theorem dX4_comesNeed_64 : decode cX4_comesNeed 64 = .ok (.getfield 22, 3) := by decide +kernel
theorem dX4_comesNeed_67 : decode cX4_comesNeed 67 = .ok (.aload_n 0, 1) := by decide +kernel
theorem dX4_comesNeed_68 : decode cX4_comesNeed 68 = .ok (.getfield 96, 3) := by decide +kernel
theorem dX4_comesNeed_71 : decode cX4_comesNeed 71 = .ok (.aload_n 0, 1) := by decide +kernel
theorem dX4_comesNeed_72 : decode cX4_comesNeed 72 = .ok (.getfield 71, 3) := by decide +kernel
theorem dX4_comesNeed_75 : decode cX4_comesNeed 75 = .ok (.iload_n 1, 1) := by decide +kernel
theorem dX4_comesNeed_76 : decode cX4_comesNeed 76 = .ok (.iaload, 1) := by decide +kernel
theorem dX4_comesNeed_77 : decode cX4_comesNeed 77 = .ok (.iastore, 1) := by decide +kernel
theorem dX4_comesNeed_78 : decode cX4_comesNeed 78 = .ok (.aload_n 0, 1) := by decide +kernel
theorem dX4_comesNeed_79 : decode cX4_comesNeed 79 = .ok (.getfield 25, 3) := by decide +kernel
theorem dX4_comesNeed_82 : decode cX4_comesNeed 82 = .ok (.aload_n 0, 1) := by decide +kernel
theorem dX4_comesNeed_83 : decode cX4_comesNeed 83 = .ok (.getfield 96, 3) := by decide +kernel
theorem dX4_comesNeed_86 : decode cX4_comesNeed 86 = .ok (.aload_n 0, 1) := by decide +kernel
theorem dX4_comesNeed_87 : decode cX4_comesNeed 87 = .ok (.getfield 71, 3) := by decide +kernel
theorem dX4_comesNeed_90 : decode cX4_comesNeed 90 = .ok (.iload_n 1, 1) := by decide +kernel
theorem dX4_comesNeed_91 : decode cX4_comesNeed 91 = .ok (.iconst 1, 1) := by decide +kernel
theorem dX4_comesNeed_92 : decode cX4_comesNeed 92 = .ok (.iadd, 1) := by decide +kernel
theorem dX4_comesNeed_93 : decode cX4_comesNeed 93 = .ok (.iaload, 1) := by decide +kernel
theorem dX4_comesNeed_94 : decode cX4_comesNeed 94 = .ok (.iastore, 1) := by decide +kernel
theorem dX4_comesNeed_95 : decode cX4_comesNeed 95 = .ok (.aload_n 0, 1) := by decide +kernel
theorem dX4_comesNeed_96 : decode cX4_comesNeed 96 = .ok (.getfield 28, 3) := by decide +kernel
theorem dX4_comesNeed_99 : decode cX4_comesNeed 99 = .ok (.aload_n 0, 1) := by decide +kernel
theorem dX4_comesNeed_100 : decode cX4_comesNeed 100 = .ok (.getfield 96, 3) := by decide +kernel
theorem dX4_comesNeed_103 : decode cX4_comesNeed 103 = .ok (.aload_n 0, 1) := by decide +kernel
theorem dX4_comesNeed_104 : decode cX4_comesNeed 104 = .ok (.getfield 71, 3) := by decide +kernel
theorem dX4_comesNeed_107 : decode cX4_comesNeed 107 = .ok (.iload_n 1, 1) := by decide +kernel
theorem dX4_comesNeed_108 : decode cX4_comesNeed 108 = .ok (.iconst 2, 1) := by decide +kernel
theorem dX4_comesNeed_109 : decode cX4_comesNeed 109 = .ok (.iadd, 1) := by decide +kernel
theorem dX4_comesNeed_110 : decode cX4_comesNeed 110 = .ok (.iaload, 1) := by decide +kernel
theorem dX4_comesNeed_111 : decode cX4_comesNeed 111 = .ok (.iastore, 1) := by decide +kernel
theorem dX4_comesNeed_112 : decode cX4_comesNeed 112 = .ok (.aload_n 0, 1) := by decide +kernel
theorem dX4_comesNeed_113 : decode cX4_comesNeed 113 = .ok (.getfield 31, 3) := by decide +kernel
theorem dX4_comesNeed_116 : decode cX4_comesNeed 116 = .ok (.aload_n 0, 1) := by decide +kernel
theorem dX4_comesNeed_117 : decode cX4_comesNeed 117 = .ok (.getfield 96, 3) := by decide +kernel
theorem dX4_comesNeed_120 : decode cX4_comesNeed 120 = .ok (.aload_n 0, 1) := by decide +kernel
theorem dX4_comesNeed_121 : decode cX4_comesNeed 121 = .ok (.getfield 71, 3) := by decide +kernel
theorem dX4_comesNeed_124 : decode cX4_comesNeed 124 = .ok (.iload_n 1, 1) := by decide +kernel
theorem dX4_comesNeed_125 : decode cX4_comesNeed 125 = .ok (.iconst 3, 1) := by decide +kernel
theorem dX4_comesNeed_126 : decode cX4_comesNeed 126 = .ok (.iadd, 1) := by decide +kernel
theorem dX4_comesNeed_127 : decode cX4_comesNeed 127 = .ok (.iaload, 1) := by decide +kernel
theorem dX4_comesNeed_128 : decode cX4_comesNeed 128 = .ok (.iastore, 1) := by decide +kernel
theorem dX4_comesNeed_129 : decode cX4_comesNeed 129 = .ok (.aload_n 0, 1) := by decide +kernel
theorem dX4_comesNeed_130 : decode cX4_comesNeed 130 = .ok (.getfield 34, 3) := by decide +kernel
theorem dX4_comesNeed_133 : decode cX4_comesNeed 133 = .ok (.aload_n 0, 1) := by decide +kernel
theorem dX4_comesNeed_134 : decode cX4_comesNeed 134 = .ok (.getfield 96, 3) := by decide +kernel
theorem dX4_comesNeed_137 : decode cX4_comesNeed 137 = .ok (.aload_n 0, 1) := by decide +kernel
theorem dX4_comesNeed_138 : decode cX4_comesNeed 138 = .ok (.getfield 71, 3) := by decide +kernel
theorem dX4_comesNeed_141 : decode cX4_comesNeed 141 = .ok (.iload_n 1, 1) := by decide +kernel
theorem dX4_comesNeed_142 : decode cX4_comesNeed 142 = .ok (.iconst 4, 1) := by decide +kernel
theorem dX4_comesNeed_143 : decode cX4_comesNeed 143 = .ok (.iadd, 1) := by decide +kernel
theorem dX4_comesNeed_144 : decode cX4_comesNeed 144 = .ok (.iaload, 1) := by decide +kernel
theorem dX4_comesNeed_145 : decode cX4_comesNeed 145 = .ok (.iastore, 1) := by decide +kernel
theorem dX4_comesNeed_146 : decode cX4_comesNeed 146 = .ok (.aload_n 0, 1) := by decide +kernel
theorem dX4_comesNeed_147 : decode cX4_comesNeed 147 = .ok (.getfield 37, 3) := by decide +kernel
theorem dX4_comesNeed_150 : decode cX4_comesNeed 150 = .ok (.aload_n 0, 1) := by decide +kernel
theorem dX4_comesNeed_151 : decode cX4_comesNeed 151 = .ok (.getfield 96, 3) := by decide +kernel
theorem dX4_comesNeed_154 : decode cX4_comesNeed 154 = .ok (.iconst 0, 1) := by decide +kernel
theorem dX4_comesNeed_155 : decode cX4_comesNeed 155 = .ok (.iastore, 1) := by decide +kernel
theorem dX4_comesNeed_156 : decode cX4_comesNeed 156 = .ok (.aload_n 0, 1) := by decide +kernel
theorem dX4_comesNeed_157 : decode cX4_comesNeed 157 = .ok (.dup, 1) := by decide +kernel
theorem dX4_comesNeed_158 : decode cX4_comesNeed 158 = .ok (.getfield 96, 3) := by decide +kernel
theorem dX4_comesNeed_161 : decode cX4_comesNeed 161 = .ok (.iconst 1, 1) := by decide +kernel
theorem dX4_comesNeed_162 : decode cX4_comesNeed 162 = .ok (.iadd, 1) := by decide +kernel
theorem dX4_comesNeed_163 : decode cX4_comesNeed 163 = .ok (.putfield 96, 3) := by decide +kernel
theorem dX4_comesNeed_166 : decode cX4_comesNeed 166 = .ok (.iconst 1, 1) := by decide +kernel
theorem dX4_comesNeed_167 : decode cX4_comesNeed 167 = .ok (.ireturn, 1) := by decide +kernel
set_option maxRecDepth 20000 in
theorem ggX4_comes_X4_comesPerson : GoodIn wsX4_comes wsX4_comesPerson := goodIn_r _ [10, 2, 11, 12, 13, 14, 33, 34, 35, 36, 37, 38, 39, 40, 41, 42, 43, 44, 45, 46, 47, 48, 49, 50, 51, 52, 53, 54, 55, 56, 57, 58, 59, 60, 61, 62, 63, 64, 65, 66, 67, 68, 69, 70, 71, 72, 73, 74, 75, 76, 77] rfl (by decide +kernel)
set_option maxRecDepth 20000 in
theorem gX4_comes_X4_comesPerson : GoodIn wsX4_comes (wsV RX4 138 RX4 yX4_comesPerson wsX4_comesPerson) := goodIn_app (goodIn_r _ [6, 7, 8, 9] rfl (by decide +kernel)) ggX4_comes_X4_comesPerson
set_option maxRecDepth 20000 in
theorem ggX4_comes_X4_comesNeed : GoodIn wsX4_comes wsX4_comesNeed := goodIn_r _ [18, 2, 19, 20, 21, 22, 23, 24, 25, 26, 27, 28, 9, 29, 11, 30, 31, 32, 33, 34, 35, 36, 37, 38, 39, 40, 41, 42, 43, 44, 45, 46, 47, 48, 49, 50, 51, 52, 53, 54, 55, 56, 57, 58, 59, 60, 61, 62, 63, 64, 65, 66, 67, 68, 69, 70, 71, 72, 73, 74, 75, 76, 77] rfl (by decide +kernel)
set_option maxRecDepth 20000 in
theorem gX4_comes_X4_comesNeed : GoodIn wsX4_comes (wsV RX4 141 RX4 yX4_comesNeed wsX4_comesNeed) := goodIn_app (goodIn_r _ [15, 16, 17, 9] rfl (by decide +kernel)) ggX4_comes_X4_comesNeed
theorem dX4_comes_0 : decode cX4_comes 0 = .ok (.aload_n 0, 1) := by decide +kernel
theorem dX4_comes_1 : decode cX4_comes 1 = .ok (.getfield 65, 3) := by decide +kernel
theorem dX4_comes_4 : decode cX4_comes 4 = .ok (.iload_n 1, 1) := by decide +kernel
theorem dX4_comes_5 : decode cX4_comes 5 = .ok (.iaload, 1) := by decide +kernel
theorem dX4_comes_6 : decode cX4_comes 6 = .ok (.bipush 112, 2) := by decide +kernel
theorem dX4_comes_8 : decode cX4_comes 8 = .ok (.if_icmp .ne 12, 3) := by decide +kernel
theorem dX4_comes_11 : decode cX4_comes 11 = .ok (.aload_n 0, 1) := by decide +kernel
theorem dX4_comes_12 : decode cX4_comes 12 = .ok (.bipush 6, 2) := by decide +kernel
theorem dX4_comes_14 : decode cX4_comes 14 = .ok (.iload_n 1, 1) := by decide +kernel
theorem dX4_comes_15 : decode cX4_comes 15 = .ok (.imul, 1) := by decide +kernel
theorem dX4_comes_16 : decode cX4_comes 16 = .ok (.invokevirtual 138, 3) := by decide +kernel
theorem dX4_comes_19 : decode cX4_comes 19 = .ok (.ireturn, 1) := by decide +kernel
theorem dX4_comes_20 : decode cX4_comes 20 = .ok (.aload_n 0, 1) := by decide +kernel
theorem dX4_comes_21 : decode cX4_comes 21 = .ok (.getfield 65, 3) := by decide +kernel
theorem dX4_comes_24 : decode cX4_comes 24 = .ok (.iload_n 1, 1) := by decide +kernel
theorem dX4_comes_25 : decode cX4_comes 25 = .ok (.iaload, 1) := by decide +kernel
theorem dX4_comes_26 : decode cX4_comes 26 = .ok (.bipush 110, 2) := by decide +kernel
theorem dX4_comes_28 : decode cX4_comes 28 = .ok (.if_icmp .ne 12, 3) := by decide +kernel
theorem dX4_comes_31 : decode cX4_comes 31 = .ok (.aload_n 0, 1) := by decide +kernel
theorem dX4_comes_32 : decode cX4_comes 32 = .ok (.bipush 6, 2) := by decide +kernel
theorem dX4_comes_34 : decode cX4_comes 34 = .ok (.iload_n 1, 1) := by decide +kernel
theorem dX4_comes_35 : decode cX4_comes 35 = .ok (.imul, 1) := by decide +kernel
theorem dX4_comes_36 : decode cX4_comes 36 = .ok (.invokevirtual 141, 3) := by decide +kernel
theorem dX4_comes_39 : decode cX4_comes 39 = .ok (.ireturn, 1) := by decide +kernel
theorem dX4_comes_40 : decode cX4_comes 40 = .ok (.aload_n 0, 1) := by decide +kernel
theorem dX4_comes_41 : decode cX4_comes 41 = .ok (.getfield 71, 3) := by decide +kernel
theorem dX4_comes_44 : decode cX4_comes 44 = .ok (.bipush 6, 2) := by decide +kernel
theorem dX4_comes_46 : decode cX4_comes 46 = .ok (.iload_n 1, 1) := by decide +kernel
theorem dX4_comes_47 : decode cX4_comes 47 = .ok (.imul, 1) := by decide +kernel
theorem dX4_comes_48 : decode cX4_comes 48 = .ok (.iaload, 1) := by decide +kernel
theorem dX4_comes_49 : decode cX4_comes 49 = .ok (.iconst 3, 1) := by decide +kernel
theorem dX4_comes_50 : decode cX4_comes 50 = .ok (.if_icmp .gt 17, 3) := by decide +kernel
theorem dX4_comes_53 : decode cX4_comes 53 = .ok (.aload_n 0, 1) := by decide +kernel
theorem dX4_comes_54 : decode cX4_comes 54 = .ok (.getfield 71, 3) := by decide +kernel
theorem dX4_comes_57 : decode cX4_comes 57 = .ok (.bipush 6, 2) := by decide +kernel
theorem dX4_comes_59 : decode cX4_comes 59 = .ok (.iload_n 1, 1) := by decide +kernel
theorem dX4_comes_60 : decode cX4_comes 60 = .ok (.imul, 1) := by decide +kernel
theorem dX4_comes_61 : decode cX4_comes 61 = .ok (.iconst 1, 1) := by decide +kernel
theorem dX4_comes_62 : decode cX4_comes 62 = .ok (.iadd, 1) := by decide +kernel
theorem dX4_comes_63 : decode cX4_comes 63 = .ok (.iaload, 1) := by decide +kernel
theorem dX4_comes_64 : decode cX4_comes 64 = .ok (.ifCond .ne 5, 3) := by decide +kernel
theorem dX4_comes_67 : decode cX4_comes 67 = .ok (.iconst 0, 1) := by decide +kernel
theorem dX4_comes_68 : decode cX4_comes 68 = .ok (.ireturn, 1) := by decide +kernel
theorem dX4_comes_69 : decode cX4_comes 69 = .ok (.aload_n 0, 1) := by decide +kernel
theorem dX4_comes_70 : decode cX4_comes 70 = .ok (.aload_n 0, 1) := by decide +kernel
theorem dX4_comes_71 : decode cX4_comes 71 = .ok (.getfield 71, 3) := by decide +kernel
theorem dX4_comes_74 : decode cX4_comes 74 = .ok (.bipush 6, 2) := by decide +kernel
theorem dX4_comes_76 : decode cX4_comes 76 = .ok (.iload_n 1, 1) := by decide +kernel
theorem dX4_comes_77 : decode cX4_comes 77 = .ok (.imul, 1) := by decide +kernel
theorem dX4_comes_78 : decode cX4_comes 78 = .ok (.iaload, 1) := by decide +kernel
theorem dX4_comes_79 : decode cX4_comes 79 = .ok (.putfield 144, 3) := by decide +kernel
theorem dX4_comes_82 : decode cX4_comes 82 = .ok (.aload_n 0, 1) := by decide +kernel
theorem dX4_comes_83 : decode cX4_comes 83 = .ok (.aload_n 0, 1) := by decide +kernel
theorem dX4_comes_84 : decode cX4_comes 84 = .ok (.getfield 71, 3) := by decide +kernel
theorem dX4_comes_87 : decode cX4_comes 87 = .ok (.bipush 6, 2) := by decide +kernel
theorem dX4_comes_89 : decode cX4_comes 89 = .ok (.iload_n 1, 1) := by decide +kernel
theorem dX4_comes_90 : decode cX4_comes 90 = .ok (.imul, 1) := by decide +kernel
theorem dX4_comes_91 : decode cX4_comes 91 = .ok (.iconst 1, 1) := by decide +kernel
theorem dX4_comes_92 : decode cX4_comes 92 = .ok (.iadd, 1) := by decide +kernel
theorem dX4_comes_93 : decode cX4_comes 93 = .ok (.iaload, 1) := by decide +kernel
theorem dX4_comes_94 : decode cX4_comes 94 = .ok (.putfield 55, 3) := by decide +kernel
theorem dX4_comes_97 : decode cX4_comes 97 = .ok (.aload_n 0, 1) := by decide +kernel
theorem dX4_comes_98 : decode cX4_comes 98 = .ok (.aload_n 0, 1) := by decide +kernel
theorem dX4_comes_99 : decode cX4_comes 99 = .ok (.getfield 71, 3) := by decide +kernel
theorem dX4_comes_102 : decode cX4_comes 102 = .ok (.bipush 6, 2) := by decide +kernel
theorem dX4_comes_104 : decode cX4_comes 104 = .ok (.iload_n 1, 1) := by decide +kernel
theorem dX4_comes_105 : decode cX4_comes 105 = .ok (.imul, 1) := by decide +kernel
theorem dX4_comes_106 : decode cX4_comes 106 = .ok (.iconst 2, 1) := by decide +kernel
theorem dX4_comes_107 : decode cX4_comes 107 = .ok (.iadd, 1) := by decide +kernel
theorem dX4_comes_108 : decode cX4_comes 108 = .ok (.iaload, 1) := by decide +kernel
theorem dX4_comes_109 : decode cX4_comes 109 = .ok (.putfield 59, 3) := by decide +kernel
theorem dX4_comes_112 : decode cX4_comes 112 = .ok (.iconst 1, 1) := by decide +kernel
theorem dX4_comes_113 : decode cX4_comes 113 = .ok (.ireturn, 1) := by decide +kernel
set_option maxRecDepth 20000 in
theorem ggX4_town_X4_statement : GoodIn wsX4_town wsX4_statement := goodIn_r _ [9, 10, 2, 4, 1, 11, 12, 13, 8, 14, 3, 15, 16, 17, 18, 19, 20, 21, 22, 23, 24, 25, 26, 27, 28, 29, 30, 31, 85, 86, 87, 88, 89, 90, 91, 92, 93, 94, 95, 96, 97, 98, 99, 100, 101, 102, 103, 104, 105, 106, 107, 108, 109, 110, 111, 112, 113, 114, 115, 116, 117, 118, 119, 120, 121, 122, 123, 124, 125, 126, 127, 128, 129] rfl (by decide +kernel)
set_option maxRecDepth 20000 in
theorem gX4_town_X4_statement : GoodIn wsX4_town (wsV RX4 147 RX4 yX4_statement wsX4_statement) := goodIn_app (goodIn_r _ [5, 6, 7, 8] rfl (by decide +kernel)) ggX4_town_X4_statement
set_option maxRecDepth 20000 in
theorem ggX4_town_X4_passesAll : GoodIn wsX4_town wsX4_passesAll := goodIn_r _ [35, 36, 37, 38, 39, 40, 41, 42, 43, 44, 45, 46, 47, 48, 49, 50, 51, 52, 53, 54, 55, 56, 57, 58, 59, 60, 61, 62, 8, 63, 64, 65, 66, 67, 68, 85, 86, 87, 88, 89, 90, 91, 92, 93, 94, 95, 96, 97, 98, 99, 100, 101, 102, 103, 104, 105, 106, 107, 108, 109, 110, 111, 112, 113, 114, 115, 116, 117, 118, 119, 120, 121, 122, 123, 124, 125, 126, 127, 128, 129] rfl (by decide +kernel)
set_option maxRecDepth 20000 in
theorem gX4_town_X4_passesAll : GoodIn wsX4_town (wsV RX4 151 RX4 yX4_passesAll wsX4_passesAll) := goodIn_app (goodIn_r _ [32, 33, 34, 8] rfl (by decide +kernel)) ggX4_town_X4_passesAll
set_option maxRecDepth 20000 in
theorem ggX4_town_X4_comes : GoodIn wsX4_town wsX4_comes := goodIn_r _ [72, 10, 24, 55, 56, 57, 73, 74, 75, 8, 76, 52, 38, 39, 40, 77, 78, 79, 80, 53, 41, 42, 43, 44, 45, 46, 81, 82, 83, 84, 25, 26, 27, 85, 86, 87, 88, 89, 90, 91, 92, 93, 94, 95, 96, 97, 98, 99, 100, 101, 102, 103, 104, 105, 106, 107, 108, 109, 110, 111, 112, 113, 114, 115, 116, 117, 118, 119, 120, 121, 122, 123, 124, 125, 126, 127, 128, 129] rfl (by decide +kernel)
set_option maxRecDepth 20000 in
theorem gX4_town_X4_comes : GoodIn wsX4_town (wsV RX4 155 RX4 yX4_comes wsX4_comes) := goodIn_app (goodIn_r _ [69, 70, 71, 8] rfl (by decide +kernel)) ggX4_town_X4_comes
theorem dX4_town_0 : decode cX4_town 0 = .ok (.aload_n 0, 1) := by decide +kernel
theorem dX4_town_1 : decode cX4_town 1 = .ok (.iconst 0, 1) := by decide +kernel
theorem dX4_town_2 : decode cX4_town 2 = .ok (.putfield 110, 3) := by decide +kernel
theorem dX4_town_5 : decode cX4_town 5 = .ok (.aload_n 0, 1) := by decide +kernel
theorem dX4_town_6 : decode cX4_town 6 = .ok (.iconst 0, 1) := by decide +kernel
theorem dX4_town_7 : decode cX4_town 7 = .ok (.putfield 125, 3) := by decide +kernel
theorem dX4_town_10 : decode cX4_town 10 = .ok (.iconst 1, 1) := by decide +kernel
theorem dX4_town_11 : decode cX4_town 11 = .ok (.istore_n 1, 1) := by decide +kernel
theorem dX4_town_12 : decode cX4_town 12 = .ok (.iload_n 1, 1) := by decide +kernel
theorem dX4_town_13 : decode cX4_town 13 = .ok (.ifCond .eq 47, 3) := by decide +kernel
theorem dX4_town_16 : decode cX4_town 16 = .ok (.aload_n 0, 1) := by decide +kernel
theorem dX4_town_17 : decode cX4_town 17 = .ok (.getfield 110, 3) := by decide +kernel
theorem dX4_town_20 : decode cX4_town 20 = .ok (.aload_n 0, 1) := by decide +kernel
theorem dX4_town_21 : decode cX4_town 21 = .ok (.getfield 103, 3) := by decide +kernel
theorem dX4_town_24 : decode cX4_town 24 = .ok (.if_icmp .lt 10, 3) := by decide +kernel
theorem dX4_town_27 : decode cX4_town 27 = .ok (.aload_n 0, 1) := by decide +kernel
theorem dX4_town_28 : decode cX4_town 28 = .ok (.getfield 125, 3) := by decide +kernel
theorem dX4_town_31 : decode cX4_town 31 = .ok (.ifCond .ne 29, 3) := by decide +kernel
theorem dX4_town_34 : decode cX4_town 34 = .ok (.aload_n 0, 1) := by decide +kernel
theorem dX4_town_35 : decode cX4_town 35 = .ok (.invokevirtual 147, 3) := by decide +kernel
theorem dX4_town_38 : decode cX4_town 38 = .ok (.istore_n 1, 1) := by decide +kernel
theorem dX4_town_39 : decode cX4_town 39 = .ok (.aload_n 0, 1) := by decide +kernel
theorem dX4_town_40 : decode cX4_town 40 = .ok (.dup, 1) := by decide +kernel
theorem dX4_town_41 : decode cX4_town 41 = .ok (.getfield 125, 3) := by decide +kernel
theorem dX4_town_44 : decode cX4_town 44 = .ok (.iload_n 1, 1) := by decide +kernel
theorem dX4_town_45 : decode cX4_town 45 = .ok (.ifCond .eq 7, 3) := by decide +kernel
theorem dX4_town_48 : decode cX4_town 48 = .ok (.iconst 1, 1) := by decide +kernel
theorem dX4_town_49 : decode cX4_town 49 = .ok (.goto 4, 3) := by decide +kernel
theorem dX4_town_52 : decode cX4_town 52 = .ok (.iconst 0, 1) := by decide +kernel
theorem dX4_town_53 : decode cX4_town 53 = .ok (.iadd, 1) := by decide +kernel
theorem dX4_town_54 : decode cX4_town 54 = .ok (.putfield 125, 3) := by decide +kernel
theorem dX4_town_57 : decode cX4_town 57 = .ok (.goto (-45), 3) := by decide +kernel
theorem dX4_town_60 : decode cX4_town 60 = .ok (.aload_n 0, 1) := by decide +kernel
theorem dX4_town_61 : decode cX4_town 61 = .ok (.iconst 0, 1) := by decide +kernel
theorem dX4_town_62 : decode cX4_town 62 = .ok (.putfield 103, 3) := by decide +kernel
theorem dX4_town_65 : decode cX4_town 65 = .ok (.iload_n 1, 1) := by decide +kernel
theorem dX4_town_66 : decode cX4_town 66 = .ok (.ifCond .ne 12, 3) := by decide +kernel
theorem dX4_town_69 : decode cX4_town 69 = .ok (.sipush (-1000), 3) := by decide +kernel
theorem dX4_town_72 : decode cX4_town 72 = .ok (.aload_n 0, 1) := by decide +kernel
theorem dX4_town_73 : decode cX4_town 73 = .ok (.getfield 110, 3) := by decide +kernel
theorem dX4_town_76 : decode cX4_town 76 = .ok (.isub, 1) := by decide +kernel
theorem dX4_town_77 : decode cX4_town 77 = .ok (.ireturn, 1) := by decide +kernel
theorem dX4_town_78 : decode cX4_town 78 = .ok (.aload_n 0, 1) := by decide +kernel
theorem dX4_town_79 : decode cX4_town 79 = .ok (.iconst 1, 1) := by decide +kernel
theorem dX4_town_80 : decode cX4_town 80 = .ok (.iconst 1, 1) := by decide +kernel
theorem dX4_town_81 : decode cX4_town 81 = .ok (.invokevirtual 151, 3) := by decide +kernel
theorem dX4_town_84 : decode cX4_town 84 = .ok (.iconst 0, 1) := by decide +kernel
theorem dX4_town_85 : decode cX4_town 85 = .ok (.istore_n 2, 1) := by decide +kernel
theorem dX4_town_86 : decode cX4_town 86 = .ok (.iload_n 2, 1) := by decide +kernel
theorem dX4_town_87 : decode cX4_town 87 = .ok (.aload_n 0, 1) := by decide +kernel
theorem dX4_town_88 : decode cX4_town 88 = .ok (.getfield 125, 3) := by decide +kernel
theorem dX4_town_91 : decode cX4_town 91 = .ok (.if_icmp .ge 37, 3) := by decide +kernel
theorem dX4_town_94 : decode cX4_town 94 = .ok (.aload_n 0, 1) := by decide +kernel
theorem dX4_town_95 : decode cX4_town 95 = .ok (.iload_n 2, 1) := by decide +kernel
theorem dX4_town_96 : decode cX4_town 96 = .ok (.invokevirtual 155, 3) := by decide +kernel
theorem dX4_town_99 : decode cX4_town 99 = .ok (.ifCond .eq 6, 3) := by decide +kernel
theorem dX4_town_102 : decode cX4_town 102 = .ok (.goto 20, 3) := by decide +kernel
theorem dX4_town_105 : decode cX4_town 105 = .ok (.aload_n 0, 1) := by decide +kernel
theorem dX4_town_106 : decode cX4_town 106 = .ok (.iconst 1, 1) := by decide +kernel
theorem dX4_town_107 : decode cX4_town 107 = .ok (.iconst 0, 1) := by decide +kernel
theorem dX4_town_108 : decode cX4_town 108 = .ok (.invokevirtual 151, 3) := by decide +kernel
theorem dX4_town_111 : decode cX4_town 111 = .ok (.sipush (-2000), 3) := by decide +kernel
theorem dX4_town_114 : decode cX4_town 114 = .ok (.aload_n 0, 1) := by decide +kernel
theorem dX4_town_115 : decode cX4_town 115 = .ok (.getfield 68, 3) := by decide +kernel
theorem dX4_town_118 : decode cX4_town 118 = .ok (.iload_n 2, 1) := by decide +kernel
theorem dX4_town_119 : decode cX4_town 119 = .ok (.iaload, 1) := by decide +kernel
theorem dX4_town_120 : decode cX4_town 120 = .ok (.isub, 1) := by decide +kernel
theorem dX4_town_121 : decode cX4_town 121 = .ok (.ireturn, 1) := by decide +kernel
theorem dX4_town_122 : decode cX4_town 122 = .ok (.iinc 2 1, 3) := by decide +kernel
theorem dX4_town_125 : decode cX4_town 125 = .ok (.goto (-39), 3) := by decide +kernel
theorem dX4_town_128 : decode cX4_town 128 = .ok (.aload_n 0, 1) := by decide +kernel
theorem dX4_town_129 : decode cX4_town 129 = .ok (.getfield 125, 3) := by decide +kernel
theorem dX4_town_132 : decode cX4_town 132 = .ok (.ireturn, 1) := by decide +kernel
theorem dX4_passes_0 : decode cX4_passes 0 = .ok (.iconst 0, 1) := by decide +kernel
theorem dX4_passes_1 : decode cX4_passes 1 = .ok (.istore_n 3, 1) := by decide +kernel
theorem dX4_passes_2 : decode cX4_passes 2 = .ok (.iload_n 3, 1) := by decide +kernel
theorem dX4_passes_3 : decode cX4_passes 3 = .ok (.iload_n 2, 1) := by decide +kernel
theorem dX4_passes_4 : decode cX4_passes 4 = .ok (.if_icmp .ge 53, 3) := by decide +kernel
theorem dX4_passes_7 : decode cX4_passes 7 = .ok (.aload_n 0, 1) := by decide +kernel
theorem dX4_passes_8 : decode cX4_passes 8 = .ok (.getfield 158, 3) := by decide +kernel
theorem dX4_passes_11 : decode cX4_passes 11 = .ok (.ifCond .eq 18, 3) := by decide +kernel
theorem dX4_passes_14 : decode cX4_passes 14 = .ok (.aload_n 0, 1) := by decide +kernel
theorem dX4_passes_15 : decode cX4_passes 15 = .ok (.getfield 74, 3) := by decide +kernel
theorem dX4_passes_18 : decode cX4_passes 18 = .ok (.aload_n 0, 1) := by decide +kernel
theorem dX4_passes_19 : decode cX4_passes 19 = .ok (.getfield 162, 3) := by decide +kernel
theorem dX4_passes_22 : decode cX4_passes 22 = .ok (.aload_n 1, 1) := by decide +kernel
theorem dX4_passes_23 : decode cX4_passes 23 = .ok (.iload_n 3, 1) := by decide +kernel
theorem dX4_passes_24 : decode cX4_passes 24 = .ok (.iaload, 1) := by decide +kernel
theorem dX4_passes_25 : decode cX4_passes 25 = .ok (.iastore, 1) := by decide +kernel
theorem dX4_passes_26 : decode cX4_passes 26 = .ok (.goto 15, 3) := by decide +kernel
theorem dX4_passes_29 : decode cX4_passes 29 = .ok (.aload_n 1, 1) := by decide +kernel
theorem dX4_passes_30 : decode cX4_passes 30 = .ok (.iload_n 3, 1) := by decide +kernel
theorem dX4_passes_31 : decode cX4_passes 31 = .ok (.aload_n 0, 1) := by decide +kernel
theorem dX4_passes_32 : decode cX4_passes 32 = .ok (.getfield 74, 3) := by decide +kernel
theorem dX4_passes_35 : decode cX4_passes 35 = .ok (.aload_n 0, 1) := by decide +kernel
theorem dX4_passes_36 : decode cX4_passes 36 = .ok (.getfield 162, 3) := by decide +kernel
theorem dX4_passes_39 : decode cX4_passes 39 = .ok (.iaload, 1) := by decide +kernel
theorem dX4_passes_40 : decode cX4_passes 40 = .ok (.iastore, 1) := by decide +kernel
theorem dX4_passes_41 : decode cX4_passes 41 = .ok (.aload_n 0, 1) := by decide +kernel
theorem dX4_passes_42 : decode cX4_passes 42 = .ok (.dup, 1) := by decide +kernel
theorem dX4_passes_43 : decode cX4_passes 43 = .ok (.getfield 162, 3) := by decide +kernel
theorem dX4_passes_46 : decode cX4_passes 46 = .ok (.iconst 1, 1) := by decide +kernel
theorem dX4_passes_47 : decode cX4_passes 47 = .ok (.iadd, 1) := by decide +kernel
theorem dX4_passes_48 : decode cX4_passes 48 = .ok (.putfield 162, 3) := by decide +kernel
theorem dX4_passes_51 : decode cX4_passes 51 = .ok (.iinc 3 1, 3) := by decide +kernel
theorem dX4_passes_54 : decode cX4_passes 54 = .ok (.goto (-52), 3) := by decide +kernel
theorem dX4_passes_57 : decode cX4_passes 57 = .ok (.return_, 1) := by decide +kernel
theorem dX4_passOne_0 : decode cX4_passOne 0 = .ok (.aload_n 0, 1) := by decide +kernel
theorem dX4_passOne_1 : decode cX4_passOne 1 = .ok (.getfield 158, 3) := by decide +kernel
theorem dX4_passOne_4 : decode cX4_passOne 4 = .ok (.ifCond .eq 7, 3) := by decide +kernel
theorem dX4_passOne_7 : decode cX4_passOne 7 = .ok (.iload_n 1, 1) := by decide +kernel
theorem dX4_passOne_8 : decode cX4_passOne 8 = .ok (.goto 12, 3) := by decide +kernel
theorem dX4_passOne_11 : decode cX4_passOne 11 = .ok (.aload_n 0, 1) := by decide +kernel
theorem dX4_passOne_12 : decode cX4_passOne 12 = .ok (.getfield 74, 3) := by decide +kernel
theorem dX4_passOne_15 : decode cX4_passOne 15 = .ok (.aload_n 0, 1) := by decide +kernel
theorem dX4_passOne_16 : decode cX4_passOne 16 = .ok (.getfield 162, 3) := by decide +kernel
theorem dX4_passOne_19 : decode cX4_passOne 19 = .ok (.iaload, 1) := by decide +kernel
theorem dX4_passOne_20 : decode cX4_passOne 20 = .ok (.istore_n 2, 1) := by decide +kernel
theorem dX4_passOne_21 : decode cX4_passOne 21 = .ok (.aload_n 0, 1) := by decide +kernel
theorem dX4_passOne_22 : decode cX4_passOne 22 = .ok (.getfield 158, 3) := by decide +kernel
theorem dX4_passOne_25 : decode cX4_passOne 25 = .ok (.ifCond .eq 13, 3) := by decide +kernel
theorem dX4_passOne_28 : decode cX4_passOne 28 = .ok (.aload_n 0, 1) := by decide +kernel
theorem dX4_passOne_29 : decode cX4_passOne 29 = .ok (.getfield 74, 3) := by decide +kernel
theorem dX4_passOne_32 : decode cX4_passOne 32 = .ok (.aload_n 0, 1) := by decide +kernel
theorem dX4_passOne_33 : decode cX4_passOne 33 = .ok (.getfield 162, 3) := by decide +kernel
theorem dX4_passOne_36 : decode cX4_passOne 36 = .ok (.iload_n 1, 1) := by decide +kernel
theorem dX4_passOne_37 : decode cX4_passOne 37 = .ok (.iastore, 1) := by decide +kernel
theorem dX4_passOne_38 : decode cX4_passOne 38 = .ok (.aload_n 0, 1) := by decide +kernel
theorem dX4_passOne_39 : decode cX4_passOne 39 = .ok (.dup, 1) := by decide +kernel
theorem dX4_passOne_40 : decode cX4_passOne 40 = .ok (.getfield 162, 3) := by decide +kernel
theorem dX4_passOne_43 : decode cX4_passOne 43 = .ok (.iconst 1, 1) := by decide +kernel
theorem dX4_passOne_44 : decode cX4_passOne 44 = .ok (.iadd, 1) := by decide +kernel
theorem dX4_passOne_45 : decode cX4_passOne 45 = .ok (.putfield 162, 3) := by decide +kernel
theorem dX4_passOne_48 : decode cX4_passOne 48 = .ok (.iload_n 2, 1) := by decide +kernel
theorem dX4_passOne_49 : decode cX4_passOne 49 = .ok (.ireturn, 1) := by decide +kernel
set_option maxRecDepth 20000 in
theorem ggX4_passesAll_X4_passes : GoodIn wsX4_passesAll wsX4_passes := goodIn_r _ [29, 2, 30, 1, 35, 36, 37, 38, 39, 40, 41, 42, 43, 44, 45, 46, 47, 48, 49, 50, 51, 52, 53, 54, 55, 56, 57, 58, 59, 60, 61, 62, 63, 64, 65, 66, 67, 68, 69, 70, 71, 72, 73, 74, 75, 76, 77, 78, 79] rfl (by decide +kernel)
set_option maxRecDepth 20000 in
theorem gX4_passesAll_X4_passes : GoodIn wsX4_passesAll (wsV RX4 165 RX4 yX4_passes wsX4_passes) := goodIn_app (goodIn_r _ [25, 26, 27, 28] rfl (by decide +kernel)) ggX4_passesAll_X4_passes
set_option maxRecDepth 20000 in
theorem ggX4_passesAll_X4_passOne : GoodIn wsX4_passesAll wsX4_passOne := goodIn_r _ [34, 2, 30, 1, 35, 36, 37, 38, 39, 40, 41, 42, 43, 44, 45, 46, 47, 48, 49, 50, 51, 52, 53, 54, 55, 56, 57, 58, 59, 60, 61, 62, 63, 64, 65, 66, 67, 68, 69, 70, 71, 72, 73, 74, 75, 76, 77, 78, 79] rfl (by decide +kernel)
set_option maxRecDepth 20000 in
theorem gX4_passesAll_X4_passOne : GoodIn wsX4_passesAll (wsV RX4 169 RX4 yX4_passOne wsX4_passOne) := goodIn_app (goodIn_r _ [31, 32, 33, 28] rfl (by decide +kernel)) ggX4_passesAll_X4_passOne
theorem dX4_passesAll_0 : decode cX4_passesAll 0 = .ok (.aload_n 0, 1) := by decide +kernel
theorem dX4_passesAll_1 : decode cX4_passesAll 1 = .ok (.sipush 500, 3) := by decide +kernel
theorem dX4_passesAll_4 : decode cX4_passesAll 4 = .ok (.iload_n 1, 1) := by decide +kernel
theorem dX4_passesAll_5 : decode cX4_passesAll 5 = .ok (.imul, 1) := by decide +kernel
theorem dX4_passesAll_6 : decode cX4_passesAll 6 = .ok (.putfield 162, 3) := by decide +kernel
theorem dX4_passesAll_9 : decode cX4_passesAll 9 = .ok (.aload_n 0, 1) := by decide +kernel
theorem dX4_passesAll_10 : decode cX4_passesAll 10 = .ok (.iload_n 2, 1) := by decide +kernel
theorem dX4_passesAll_11 : decode cX4_passesAll 11 = .ok (.putfield 158, 3) := by decide +kernel
theorem dX4_passesAll_14 : decode cX4_passesAll 14 = .ok (.aload_n 0, 1) := by decide +kernel
theorem dX4_passesAll_15 : decode cX4_passesAll 15 = .ok (.aload_n 0, 1) := by decide +kernel
theorem dX4_passesAll_16 : decode cX4_passesAll 16 = .ok (.getfield 13, 3) := by decide +kernel
theorem dX4_passesAll_19 : decode cX4_passesAll 19 = .ok (.bipush 7, 2) := by decide +kernel
theorem dX4_passesAll_21 : decode cX4_passesAll 21 = .ok (.invokevirtual 165, 3) := by decide +kernel
theorem dX4_passesAll_24 : decode cX4_passesAll 24 = .ok (.aload_n 0, 1) := by decide +kernel
theorem dX4_passesAll_25 : decode cX4_passesAll 25 = .ok (.aload_n 0, 1) := by decide +kernel
theorem dX4_passesAll_26 : decode cX4_passesAll 26 = .ok (.getfield 16, 3) := by decide +kernel
theorem dX4_passesAll_29 : decode cX4_passesAll 29 = .ok (.bipush 7, 2) := by decide +kernel
theorem dX4_passesAll_31 : decode cX4_passesAll 31 = .ok (.invokevirtual 165, 3) := by decide +kernel
theorem dX4_passesAll_34 : decode cX4_passesAll 34 = .ok (.aload_n 0, 1) := by decide +kernel
theorem dX4_passesAll_35 : decode cX4_passesAll 35 = .ok (.aload_n 0, 1) := by decide +kernel
theorem dX4_passesAll_36 : decode cX4_passesAll 36 = .ok (.getfield 19, 3) := by decide +kernel
theorem dX4_passesAll_39 : decode cX4_passesAll 39 = .ok (.bipush 28, 2) := by decide +kernel
theorem dX4_passesAll_41 : decode cX4_passesAll 41 = .ok (.invokevirtual 165, 3) := by decide +kernel
theorem dX4_passesAll_44 : decode cX4_passesAll 44 = .ok (.aload_n 0, 1) := by decide +kernel
theorem dX4_passesAll_45 : decode cX4_passesAll 45 = .ok (.aload_n 0, 1) := by decide +kernel
theorem dX4_passesAll_46 : decode cX4_passesAll 46 = .ok (.getfield 22, 3) := by decide +kernel
theorem dX4_passesAll_49 : decode cX4_passesAll 49 = .ok (.bipush 12, 2) := by decide +kernel
theorem dX4_passesAll_51 : decode cX4_passesAll 51 = .ok (.invokevirtual 165, 3) := by decide +kernel
theorem dX4_passesAll_54 : decode cX4_passesAll 54 = .ok (.aload_n 0, 1) := by decide +kernel
theorem dX4_passesAll_55 : decode cX4_passesAll 55 = .ok (.aload_n 0, 1) := by decide +kernel
theorem dX4_passesAll_56 : decode cX4_passesAll 56 = .ok (.getfield 25, 3) := by decide +kernel
theorem dX4_passesAll_59 : decode cX4_passesAll 59 = .ok (.bipush 12, 2) := by decide +kernel
theorem dX4_passesAll_61 : decode cX4_passesAll 61 = .ok (.invokevirtual 165, 3) := by decide +kernel
theorem dX4_passesAll_64 : decode cX4_passesAll 64 = .ok (.aload_n 0, 1) := by decide +kernel
theorem dX4_passesAll_65 : decode cX4_passesAll 65 = .ok (.aload_n 0, 1) := by decide +kernel
theorem dX4_passesAll_66 : decode cX4_passesAll 66 = .ok (.getfield 28, 3) := by decide +kernel
theorem dX4_passesAll_69 : decode cX4_passesAll 69 = .ok (.bipush 12, 2) := by decide +kernel
theorem dX4_passesAll_71 : decode cX4_passesAll 71 = .ok (.invokevirtual 165, 3) := by decide +kernel
theorem dX4_passesAll_74 : decode cX4_passesAll 74 = .ok (.aload_n 0, 1) := by decide +kernel
theorem dX4_passesAll_75 : decode cX4_passesAll 75 = .ok (.aload_n 0, 1) := by decide +kernel
theorem dX4_passesAll_76 : decode cX4_passesAll 76 = .ok (.getfield 31, 3) := by decide +kernel
theorem dX4_passesAll_79 : decode cX4_passesAll 79 = .ok (.bipush 12, 2) := by decide +kernel
theorem dX4_passesAll_81 : decode cX4_passesAll 81 = .ok (.invokevirtual 165, 3) := by decide +kernel
theorem dX4_passesAll_84 : decode cX4_passesAll 84 = .ok (.aload_n 0, 1) := by decide +kernel
theorem dX4_passesAll_85 : decode cX4_passesAll 85 = .ok (.aload_n 0, 1) := by decide +kernel
theorem dX4_passesAll_86 : decode cX4_passesAll 86 = .ok (.getfield 34, 3) := by decide +kernel
theorem dX4_passesAll_89 : decode cX4_passesAll 89 = .ok (.bipush 12, 2) := by decide +kernel
theorem dX4_passesAll_91 : decode cX4_passesAll 91 = .ok (.invokevirtual 165, 3) := by decide +kernel
theorem dX4_passesAll_94 : decode cX4_passesAll 94 = .ok (.aload_n 0, 1) := by decide +kernel
theorem dX4_passesAll_95 : decode cX4_passesAll 95 = .ok (.aload_n 0, 1) := by decide +kernel
theorem dX4_passesAll_96 : decode cX4_passesAll 96 = .ok (.getfield 37, 3) := by decide +kernel
theorem dX4_passesAll_99 : decode cX4_passesAll 99 = .ok (.bipush 12, 2) := by decide +kernel
theorem dX4_passesAll_101 : decode cX4_passesAll 101 = .ok (.invokevirtual 165, 3) := by decide +kernel
theorem dX4_passesAll_104 : decode cX4_passesAll 104 = .ok (.aload_n 0, 1) := by decide +kernel
theorem dX4_passesAll_105 : decode cX4_passesAll 105 = .ok (.aload_n 0, 1) := by decide +kernel
theorem dX4_passesAll_106 : decode cX4_passesAll 106 = .ok (.getfield 40, 3) := by decide +kernel
theorem dX4_passesAll_109 : decode cX4_passesAll 109 = .ok (.bipush 60, 2) := by decide +kernel
theorem dX4_passesAll_111 : decode cX4_passesAll 111 = .ok (.invokevirtual 165, 3) := by decide +kernel
theorem dX4_passesAll_114 : decode cX4_passesAll 114 = .ok (.aload_n 0, 1) := by decide +kernel
theorem dX4_passesAll_115 : decode cX4_passesAll 115 = .ok (.aload_n 0, 1) := by decide +kernel
theorem dX4_passesAll_116 : decode cX4_passesAll 116 = .ok (.getfield 43, 3) := by decide +kernel
theorem dX4_passesAll_119 : decode cX4_passesAll 119 = .ok (.bipush 60, 2) := by decide +kernel
theorem dX4_passesAll_121 : decode cX4_passesAll 121 = .ok (.invokevirtual 165, 3) := by decide +kernel
theorem dX4_passesAll_124 : decode cX4_passesAll 124 = .ok (.aload_n 0, 1) := by decide +kernel
theorem dX4_passesAll_125 : decode cX4_passesAll 125 = .ok (.aload_n 0, 1) := by decide +kernel
theorem dX4_passesAll_126 : decode cX4_passesAll 126 = .ok (.getfield 46, 3) := by decide +kernel
theorem dX4_passesAll_129 : decode cX4_passesAll 129 = .ok (.bipush 60, 2) := by decide +kernel
theorem dX4_passesAll_131 : decode cX4_passesAll 131 = .ok (.invokevirtual 165, 3) := by decide +kernel
theorem dX4_passesAll_134 : decode cX4_passesAll 134 = .ok (.aload_n 0, 1) := by decide +kernel
theorem dX4_passesAll_135 : decode cX4_passesAll 135 = .ok (.aload_n 0, 1) := by decide +kernel
theorem dX4_passesAll_136 : decode cX4_passesAll 136 = .ok (.getfield 49, 3) := by decide +kernel
theorem dX4_passesAll_139 : decode cX4_passesAll 139 = .ok (.bipush 60, 2) := by decide +kernel
theorem dX4_passesAll_141 : decode cX4_passesAll 141 = .ok (.invokevirtual 165, 3) := by decide +kernel
theorem dX4_passesAll_144 : decode cX4_passesAll 144 = .ok (.aload_n 0, 1) := by decide +kernel
theorem dX4_passesAll_145 : decode cX4_passesAll 145 = .ok (.aload_n 0, 1) := by decide +kernel
theorem dX4_passesAll_146 : decode cX4_passesAll 146 = .ok (.getfield 52, 3) := by decide +kernel
theorem dX4_passesAll_149 : decode cX4_passesAll 149 = .ok (.bipush 60, 2) := by decide +kernel
theorem dX4_passesAll_151 : decode cX4_passesAll 151 = .ok (.invokevirtual 165, 3) := by decide +kernel
theorem dX4_passesAll_154 : decode cX4_passesAll 154 = .ok (.aload_n 0, 1) := by decide +kernel
theorem dX4_passesAll_155 : decode cX4_passesAll 155 = .ok (.aload_n 0, 1) := by decide +kernel
theorem dX4_passesAll_156 : decode cX4_passesAll 156 = .ok (.aload_n 0, 1) := by decide +kernel
theorem dX4_passesAll_157 : decode cX4_passesAll 157 = .ok (.getfield 93, 3) := by decide +kernel
theorem dX4_passesAll_160 : decode cX4_passesAll 160 = .ok (.invokevirtual 169, 3) := by decide +kernel
theorem dX4_passesAll_163 : decode cX4_passesAll 163 = .ok (.putfield 93, 3) := by decide +kernel
theorem dX4_passesAll_166 : decode cX4_passesAll 166 = .ok (.aload_n 0, 1) := by decide +kernel
theorem dX4_passesAll_167 : decode cX4_passesAll 167 = .ok (.aload_n 0, 1) := by decide +kernel
theorem dX4_passesAll_168 : decode cX4_passesAll 168 = .ok (.aload_n 0, 1) := by decide +kernel
theorem dX4_passesAll_169 : decode cX4_passesAll 169 = .ok (.getfield 96, 3) := by decide +kernel
theorem dX4_passesAll_172 : decode cX4_passesAll 172 = .ok (.invokevirtual 169, 3) := by decide +kernel
theorem dX4_passesAll_175 : decode cX4_passesAll 175 = .ok (.putfield 96, 3) := by decide +kernel
theorem dX4_passesAll_178 : decode cX4_passesAll 178 = .ok (.aload_n 0, 1) := by decide +kernel
theorem dX4_passesAll_179 : decode cX4_passesAll 179 = .ok (.aload_n 0, 1) := by decide +kernel
theorem dX4_passesAll_180 : decode cX4_passesAll 180 = .ok (.aload_n 0, 1) := by decide +kernel
theorem dX4_passesAll_181 : decode cX4_passesAll 181 = .ok (.getfield 172, 3) := by decide +kernel
theorem dX4_passesAll_184 : decode cX4_passesAll 184 = .ok (.invokevirtual 169, 3) := by decide +kernel
theorem dX4_passesAll_187 : decode cX4_passesAll 187 = .ok (.putfield 172, 3) := by decide +kernel
theorem dX4_passesAll_190 : decode cX4_passesAll 190 = .ok (.aload_n 0, 1) := by decide +kernel
theorem dX4_passesAll_191 : decode cX4_passesAll 191 = .ok (.aload_n 0, 1) := by decide +kernel
theorem dX4_passesAll_192 : decode cX4_passesAll 192 = .ok (.aload_n 0, 1) := by decide +kernel
theorem dX4_passesAll_193 : decode cX4_passesAll 193 = .ok (.getfield 144, 3) := by decide +kernel
theorem dX4_passesAll_196 : decode cX4_passesAll 196 = .ok (.invokevirtual 169, 3) := by decide +kernel
theorem dX4_passesAll_199 : decode cX4_passesAll 199 = .ok (.putfield 144, 3) := by decide +kernel
theorem dX4_passesAll_202 : decode cX4_passesAll 202 = .ok (.aload_n 0, 1) := by decide +kernel
theorem dX4_passesAll_203 : decode cX4_passesAll 203 = .ok (.aload_n 0, 1) := by decide +kernel
theorem dX4_passesAll_204 : decode cX4_passesAll 204 = .ok (.aload_n 0, 1) := by decide +kernel
theorem dX4_passesAll_205 : decode cX4_passesAll 205 = .ok (.getfield 55, 3) := by decide +kernel
theorem dX4_passesAll_208 : decode cX4_passesAll 208 = .ok (.invokevirtual 169, 3) := by decide +kernel
theorem dX4_passesAll_211 : decode cX4_passesAll 211 = .ok (.putfield 55, 3) := by decide +kernel
theorem dX4_passesAll_214 : decode cX4_passesAll 214 = .ok (.aload_n 0, 1) := by decide +kernel
theorem dX4_passesAll_215 : decode cX4_passesAll 215 = .ok (.aload_n 0, 1) := by decide +kernel
theorem dX4_passesAll_216 : decode cX4_passesAll 216 = .ok (.aload_n 0, 1) := by decide +kernel
theorem dX4_passesAll_217 : decode cX4_passesAll 217 = .ok (.getfield 59, 3) := by decide +kernel
theorem dX4_passesAll_220 : decode cX4_passesAll 220 = .ok (.invokevirtual 169, 3) := by decide +kernel
theorem dX4_passesAll_223 : decode cX4_passesAll 223 = .ok (.putfield 59, 3) := by decide +kernel
theorem dX4_passesAll_226 : decode cX4_passesAll 226 = .ok (.aload_n 0, 1) := by decide +kernel
theorem dX4_passesAll_227 : decode cX4_passesAll 227 = .ok (.aload_n 0, 1) := by decide +kernel
theorem dX4_passesAll_228 : decode cX4_passesAll 228 = .ok (.aload_n 0, 1) := by decide +kernel
theorem dX4_passesAll_229 : decode cX4_passesAll 229 = .ok (.getfield 175, 3) := by decide +kernel
theorem dX4_passesAll_232 : decode cX4_passesAll 232 = .ok (.invokevirtual 169, 3) := by decide +kernel
theorem dX4_passesAll_235 : decode cX4_passesAll 235 = .ok (.putfield 175, 3) := by decide +kernel
theorem dX4_passesAll_238 : decode cX4_passesAll 238 = .ok (.aload_n 0, 1) := by decide +kernel
theorem dX4_passesAll_239 : decode cX4_passesAll 239 = .ok (.aload_n 0, 1) := by decide +kernel
theorem dX4_passesAll_240 : decode cX4_passesAll 240 = .ok (.aload_n 0, 1) := by decide +kernel
theorem dX4_passesAll_241 : decode cX4_passesAll 241 = .ok (.getfield 178, 3) := by decide +kernel
theorem dX4_passesAll_244 : decode cX4_passesAll 244 = .ok (.invokevirtual 169, 3) := by decide +kernel
theorem dX4_passesAll_247 : decode cX4_passesAll 247 = .ok (.putfield 178, 3) := by decide +kernel
theorem dX4_passesAll_250 : decode cX4_passesAll 250 = .ok (.return_, 1) := by decide +kernel
set_option maxRecDepth 20000 in
theorem ggX4_image_X4_passesAll : GoodIn wsX4_image wsX4_passesAll := goodIn_r _ [7, 8, 9, 10, 11, 12, 13, 14, 15, 16, 17, 18, 19, 20, 21, 22, 23, 24, 25, 26, 27, 28, 29, 30, 2, 31, 32, 33, 6, 34, 35, 36, 37, 38, 39, 40, 41, 42, 43, 44, 45, 46, 47, 48, 49, 50, 51, 52, 53, 54, 55, 56, 57, 58, 59, 60, 61, 62, 63, 64, 65, 66, 67, 68, 69, 70, 71, 72, 73, 74, 75, 76, 77, 78, 79, 80, 81, 82, 83, 84] rfl (by decide +kernel)
set_option maxRecDepth 20000 in
theorem gX4_image_X4_passesAll : GoodIn wsX4_image (wsV RX4 151 RX4 yX4_passesAll wsX4_passesAll) := goodIn_app (goodIn_r _ [3, 4, 5, 6] rfl (by decide +kernel)) ggX4_image_X4_passesAll
theorem dX4_image_0 : decode cX4_image 0 = .ok (.aload_n 0, 1) := by decide +kernel
theorem dX4_image_1 : decode cX4_image 1 = .ok (.iconst 1, 1) := by decide +kernel
theorem dX4_image_2 : decode cX4_image 2 = .ok (.putfield 181, 3) := by decide +kernel
theorem dX4_image_5 : decode cX4_image 5 = .ok (.aload_n 0, 1) := by decide +kernel
theorem dX4_image_6 : decode cX4_image 6 = .ok (.iconst 0, 1) := by decide +kernel
theorem dX4_image_7 : decode cX4_image 7 = .ok (.iconst 1, 1) := by decide +kernel
theorem dX4_image_8 : decode cX4_image 8 = .ok (.invokevirtual 151, 3) := by decide +kernel
theorem dX4_image_11 : decode cX4_image 11 = .ok (.aload_n 0, 1) := by decide +kernel
theorem dX4_image_12 : decode cX4_image 12 = .ok (.getfield 178, 3) := by decide +kernel
theorem dX4_image_15 : decode cX4_image 15 = .ok (.ireturn, 1) := by decide +kernel
set_option maxRecDepth 20000 in
theorem ggX4_restore_X4_no : GoodIn wsX4_restore wsX4_no := goodIn_r _ [7, 8, 45, 46, 47, 48, 49, 50, 51, 52, 53, 54, 55, 56, 57, 58, 59, 60, 61, 62, 63, 64, 65, 66, 67, 68, 69, 70, 71, 72, 73, 74, 75, 76, 77, 78, 79, 80, 81, 82, 83, 84, 85, 86, 87, 88, 89] rfl (by decide +kernel)
set_option maxRecDepth 20000 in
theorem gX4_restore_X4_no : GoodIn wsX4_restore (wsV RX4 106 RX4 yX4_no wsX4_no) := goodIn_app (goodIn_r _ [3, 4, 5, 6] rfl (by decide +kernel)) ggX4_restore_X4_no
set_option maxRecDepth 20000 in
theorem ggX4_restore_X4_passesAll : GoodIn wsX4_restore wsX4_passesAll := goodIn_r _ [12, 13, 14, 15, 16, 17, 18, 19, 20, 21, 22, 23, 24, 25, 26, 27, 28, 29, 30, 31, 32, 33, 34, 35, 2, 36, 37, 38, 6, 39, 40, 41, 42, 43, 44, 45, 46, 47, 48, 49, 50, 51, 52, 53, 54, 55, 56, 57, 58, 59, 60, 61, 62, 63, 64, 65, 66, 67, 68, 69, 70, 71, 72, 73, 74, 75, 76, 77, 78, 79, 80, 81, 82, 83, 84, 85, 86, 87, 88, 89] rfl (by decide +kernel)
set_option maxRecDepth 20000 in
theorem gX4_restore_X4_passesAll : GoodIn wsX4_restore (wsV RX4 151 RX4 yX4_passesAll wsX4_passesAll) := goodIn_app (goodIn_r _ [9, 10, 11, 6] rfl (by decide +kernel)) ggX4_restore_X4_passesAll
theorem dX4_restore_0 : decode cX4_restore 0 = .ok (.aload_n 0, 1) := by decide +kernel
theorem dX4_restore_1 : decode cX4_restore 1 = .ok (.getfield 181, 3) := by decide +kernel
theorem dX4_restore_4 : decode cX4_restore 4 = .ok (.ifCond .ne 10, 3) := by decide +kernel
theorem dX4_restore_7 : decode cX4_restore 7 = .ok (.aload_n 0, 1) := by decide +kernel
theorem dX4_restore_8 : decode cX4_restore 8 = .ok (.bipush (-3), 2) := by decide +kernel
theorem dX4_restore_10 : decode cX4_restore 10 = .ok (.invokevirtual 106, 3) := by decide +kernel
theorem dX4_restore_13 : decode cX4_restore 13 = .ok (.ireturn, 1) := by decide +kernel
theorem dX4_restore_14 : decode cX4_restore 14 = .ok (.aload_n 0, 1) := by decide +kernel
theorem dX4_restore_15 : decode cX4_restore 15 = .ok (.iconst 0, 1) := by decide +kernel
theorem dX4_restore_16 : decode cX4_restore 16 = .ok (.iconst 0, 1) := by decide +kernel
theorem dX4_restore_17 : decode cX4_restore 17 = .ok (.invokevirtual 151, 3) := by decide +kernel
theorem dX4_restore_20 : decode cX4_restore 20 = .ok (.aload_n 0, 1) := by decide +kernel
theorem dX4_restore_21 : decode cX4_restore 21 = .ok (.getfield 178, 3) := by decide +kernel
theorem dX4_restore_24 : decode cX4_restore 24 = .ok (.ireturn, 1) := by decide +kernel
theorem dX4_minutesOf_0 : decode cX4_minutesOf 0 = .ok (.aload_n 0, 1) := by decide +kernel
theorem dX4_minutesOf_1 : decode cX4_minutesOf 1 = .ok (.getfield 16, 3) := by decide +kernel
theorem dX4_minutesOf_4 : decode cX4_minutesOf 4 = .ok (.iload_n 1, 1) := by decide +kernel
theorem dX4_minutesOf_5 : decode cX4_minutesOf 5 = .ok (.iaload, 1) := by decide +kernel
theorem dX4_minutesOf_6 : decode cX4_minutesOf 6 = .ok (.aload_n 0, 1) := by decide +kernel
theorem dX4_minutesOf_7 : decode cX4_minutesOf 7 = .ok (.getfield 16, 3) := by decide +kernel
theorem dX4_minutesOf_10 : decode cX4_minutesOf 10 = .ok (.iload_n 2, 1) := by decide +kernel
theorem dX4_minutesOf_11 : decode cX4_minutesOf 11 = .ok (.iaload, 1) := by decide +kernel
theorem dX4_minutesOf_12 : decode cX4_minutesOf 12 = .ok (.isub, 1) := by decide +kernel
theorem dX4_minutesOf_13 : decode cX4_minutesOf 13 = .ok (.istore_n 3, 1) := by decide +kernel
theorem dX4_minutesOf_14 : decode cX4_minutesOf 14 = .ok (.iload_n 3, 1) := by decide +kernel
theorem dX4_minutesOf_15 : decode cX4_minutesOf 15 = .ok (.ifCond .ge 8, 3) := by decide +kernel
theorem dX4_minutesOf_18 : decode cX4_minutesOf 18 = .ok (.iload_n 3, 1) := by decide +kernel
theorem dX4_minutesOf_19 : decode cX4_minutesOf 19 = .ok (.ineg, 1) := by decide +kernel
theorem dX4_minutesOf_20 : decode cX4_minutesOf 20 = .ok (.goto 4, 3) := by decide +kernel
theorem dX4_minutesOf_23 : decode cX4_minutesOf 23 = .ok (.iload_n 3, 1) := by decide +kernel
theorem dX4_minutesOf_24 : decode cX4_minutesOf 24 = .ok (.ireturn, 1) := by decide +kernel
theorem dX4_doesCount_0 : decode cX4_doesCount 0 = .ok (.aload_n 0, 1) := by decide +kernel
theorem dX4_doesCount_1 : decode cX4_doesCount 1 = .ok (.getfield 144, 3) := by decide +kernel
theorem dX4_doesCount_4 : decode cX4_doesCount 4 = .ok (.iconst 2, 1) := by decide +kernel
theorem dX4_doesCount_5 : decode cX4_doesCount 5 = .ok (.if_icmp .ne 29, 3) := by decide +kernel
theorem dX4_doesCount_8 : decode cX4_doesCount 8 = .ok (.aload_n 0, 1) := by decide +kernel
theorem dX4_doesCount_9 : decode cX4_doesCount 9 = .ok (.getfield 178, 3) := by decide +kernel
theorem dX4_doesCount_12 : decode cX4_doesCount 12 = .ok (.aload_n 0, 1) := by decide +kernel
theorem dX4_doesCount_13 : decode cX4_doesCount 13 = .ok (.getfield 46, 3) := by decide +kernel
theorem dX4_doesCount_16 : decode cX4_doesCount 16 = .ok (.iload_n 1, 1) := by decide +kernel
theorem dX4_doesCount_17 : decode cX4_doesCount 17 = .ok (.iaload, 1) := by decide +kernel
theorem dX4_doesCount_18 : decode cX4_doesCount 18 = .ok (.isub, 1) := by decide +kernel
theorem dX4_doesCount_19 : decode cX4_doesCount 19 = .ok (.aload_n 0, 1) := by decide +kernel
theorem dX4_doesCount_20 : decode cX4_doesCount 20 = .ok (.getfield 55, 3) := by decide +kernel
theorem dX4_doesCount_23 : decode cX4_doesCount 23 = .ok (.if_icmp .ge 7, 3) := by decide +kernel
theorem dX4_doesCount_26 : decode cX4_doesCount 26 = .ok (.iconst 1, 1) := by decide +kernel
theorem dX4_doesCount_27 : decode cX4_doesCount 27 = .ok (.goto 33, 3) := by decide +kernel
theorem dX4_doesCount_30 : decode cX4_doesCount 30 = .ok (.iconst 0, 1) := by decide +kernel
theorem dX4_doesCount_31 : decode cX4_doesCount 31 = .ok (.goto 29, 3) := by decide +kernel
theorem dX4_doesCount_34 : decode cX4_doesCount 34 = .ok (.aload_n 0, 1) := by decide +kernel
theorem dX4_doesCount_35 : decode cX4_doesCount 35 = .ok (.getfield 144, 3) := by decide +kernel
theorem dX4_doesCount_38 : decode cX4_doesCount 38 = .ok (.iconst 3, 1) := by decide +kernel
theorem dX4_doesCount_39 : decode cX4_doesCount 39 = .ok (.if_icmp .ne 16, 3) := by decide +kernel
theorem dX4_doesCount_42 : decode cX4_doesCount 42 = .ok (.aload_n 0, 1) := by decide +kernel
theorem dX4_doesCount_43 : decode cX4_doesCount 43 = .ok (.getfield 49, 3) := by decide +kernel
theorem dX4_doesCount_46 : decode cX4_doesCount 46 = .ok (.iload_n 1, 1) := by decide +kernel
theorem dX4_doesCount_47 : decode cX4_doesCount 47 = .ok (.iaload, 1) := by decide +kernel
theorem dX4_doesCount_48 : decode cX4_doesCount 48 = .ok (.aload_n 0, 1) := by decide +kernel
theorem dX4_doesCount_49 : decode cX4_doesCount 49 = .ok (.getfield 59, 3) := by decide +kernel
theorem dX4_doesCount_52 : decode cX4_doesCount 52 = .ok (.if_icmp .lt 7, 3) := by decide +kernel
theorem dX4_doesCount_55 : decode cX4_doesCount 55 = .ok (.iconst 1, 1) := by decide +kernel
theorem dX4_doesCount_56 : decode cX4_doesCount 56 = .ok (.goto 4, 3) := by decide +kernel
theorem dX4_doesCount_59 : decode cX4_doesCount 59 = .ok (.iconst 0, 1) := by decide +kernel
theorem dX4_doesCount_60 : decode cX4_doesCount 60 = .ok (.ireturn, 1) := by decide +kernel
set_option maxRecDepth 20000 in
theorem ggX4_isSpent_X4_doesCount : GoodIn wsX4_isSpent wsX4_doesCount := goodIn_r _ [10, 5, 11, 12, 13, 14, 15, 16, 17, 18, 19, 20, 21, 22, 23, 24, 25, 26, 27, 28, 29, 30, 31, 32, 33, 34, 35, 36, 37, 38, 39, 40, 41, 42, 43, 44, 45, 46, 47, 48, 49, 50, 51, 52, 53, 54, 55, 56, 57, 58, 59, 60] rfl (by decide +kernel)
set_option maxRecDepth 20000 in
theorem gX4_isSpent_X4_doesCount : GoodIn wsX4_isSpent (wsV RX4 184 RX4 yX4_doesCount wsX4_doesCount) := goodIn_app (goodIn_r _ [6, 7, 8, 9] rfl (by decide +kernel)) ggX4_isSpent_X4_doesCount
theorem dX4_isSpent_0 : decode cX4_isSpent 0 = .ok (.aload_n 0, 1) := by decide +kernel
theorem dX4_isSpent_1 : decode cX4_isSpent 1 = .ok (.getfield 13, 3) := by decide +kernel
theorem dX4_isSpent_4 : decode cX4_isSpent 4 = .ok (.iload_n 1, 1) := by decide +kernel
theorem dX4_isSpent_5 : decode cX4_isSpent 5 = .ok (.iaload, 1) := by decide +kernel
theorem dX4_isSpent_6 : decode cX4_isSpent 6 = .ok (.iconst 4, 1) := by decide +kernel
theorem dX4_isSpent_7 : decode cX4_isSpent 7 = .ok (.if_icmp .ne 5, 3) := by decide +kernel
theorem dX4_isSpent_10 : decode cX4_isSpent 10 = .ok (.iconst 0, 1) := by decide +kernel
theorem dX4_isSpent_11 : decode cX4_isSpent 11 = .ok (.ireturn, 1) := by decide +kernel
theorem dX4_isSpent_12 : decode cX4_isSpent 12 = .ok (.iconst 0, 1) := by decide +kernel
theorem dX4_isSpent_13 : decode cX4_isSpent 13 = .ok (.istore_n 3, 1) := by decide +kernel
theorem dX4_isSpent_14 : decode cX4_isSpent 14 = .ok (.iload_n 3, 1) := by decide +kernel
theorem dX4_isSpent_15 : decode cX4_isSpent 15 = .ok (.aload_n 0, 1) := by decide +kernel
theorem dX4_isSpent_16 : decode cX4_isSpent 16 = .ok (.getfield 172, 3) := by decide +kernel
theorem dX4_isSpent_19 : decode cX4_isSpent 19 = .ok (.if_icmp .ge 91, 3) := by decide +kernel
theorem dX4_isSpent_22 : decode cX4_isSpent 22 = .ok (.aload_n 0, 1) := by decide +kernel
theorem dX4_isSpent_23 : decode cX4_isSpent 23 = .ok (.getfield 40, 3) := by decide +kernel
theorem dX4_isSpent_26 : decode cX4_isSpent 26 = .ok (.iload_n 3, 1) := by decide +kernel
theorem dX4_isSpent_27 : decode cX4_isSpent 27 = .ok (.iaload, 1) := by decide +kernel
theorem dX4_isSpent_28 : decode cX4_isSpent 28 = .ok (.iload_n 1, 1) := by decide +kernel
theorem dX4_isSpent_29 : decode cX4_isSpent 29 = .ok (.if_icmp .ne 17, 3) := by decide +kernel
theorem dX4_isSpent_32 : decode cX4_isSpent 32 = .ok (.aload_n 0, 1) := by decide +kernel
theorem dX4_isSpent_33 : decode cX4_isSpent 33 = .ok (.getfield 43, 3) := by decide +kernel
theorem dX4_isSpent_36 : decode cX4_isSpent 36 = .ok (.iload_n 3, 1) := by decide +kernel
theorem dX4_isSpent_37 : decode cX4_isSpent 37 = .ok (.iaload, 1) := by decide +kernel
theorem dX4_isSpent_38 : decode cX4_isSpent 38 = .ok (.iload_n 2, 1) := by decide +kernel
theorem dX4_isSpent_39 : decode cX4_isSpent 39 = .ok (.if_icmp .ne 7, 3) := by decide +kernel
theorem dX4_isSpent_42 : decode cX4_isSpent 42 = .ok (.iconst 1, 1) := by decide +kernel
theorem dX4_isSpent_43 : decode cX4_isSpent 43 = .ok (.goto 4, 3) := by decide +kernel
theorem dX4_isSpent_46 : decode cX4_isSpent 46 = .ok (.iconst 0, 1) := by decide +kernel
theorem dX4_isSpent_47 : decode cX4_isSpent 47 = .ok (.istore 4, 2) := by decide +kernel
theorem dX4_isSpent_49 : decode cX4_isSpent 49 = .ok (.aload_n 0, 1) := by decide +kernel
theorem dX4_isSpent_50 : decode cX4_isSpent 50 = .ok (.getfield 40, 3) := by decide +kernel
theorem dX4_isSpent_53 : decode cX4_isSpent 53 = .ok (.iload_n 3, 1) := by decide +kernel
theorem dX4_isSpent_54 : decode cX4_isSpent 54 = .ok (.iaload, 1) := by decide +kernel
theorem dX4_isSpent_55 : decode cX4_isSpent 55 = .ok (.iload_n 2, 1) := by decide +kernel
theorem dX4_isSpent_56 : decode cX4_isSpent 56 = .ok (.if_icmp .ne 25, 3) := by decide +kernel
theorem dX4_isSpent_59 : decode cX4_isSpent 59 = .ok (.aload_n 0, 1) := by decide +kernel
theorem dX4_isSpent_60 : decode cX4_isSpent 60 = .ok (.getfield 43, 3) := by decide +kernel
theorem dX4_isSpent_63 : decode cX4_isSpent 63 = .ok (.iload_n 3, 1) := by decide +kernel
theorem dX4_isSpent_64 : decode cX4_isSpent 64 = .ok (.iaload, 1) := by decide +kernel
theorem dX4_isSpent_65 : decode cX4_isSpent 65 = .ok (.iload_n 1, 1) := by decide +kernel
theorem dX4_isSpent_66 : decode cX4_isSpent 66 = .ok (.if_icmp .ne 15, 3) := by decide +kernel
theorem dX4_isSpent_69 : decode cX4_isSpent 69 = .ok (.aload_n 0, 1) := by decide +kernel
theorem dX4_isSpent_70 : decode cX4_isSpent 70 = .ok (.getfield 144, 3) := by decide +kernel
theorem dX4_isSpent_73 : decode cX4_isSpent 73 = .ok (.iconst 1, 1) := by decide +kernel
theorem dX4_isSpent_74 : decode cX4_isSpent 74 = .ok (.if_icmp .eq 7, 3) := by decide +kernel
theorem dX4_isSpent_77 : decode cX4_isSpent 77 = .ok (.iconst 1, 1) := by decide +kernel
theorem dX4_isSpent_78 : decode cX4_isSpent 78 = .ok (.goto 4, 3) := by decide +kernel
theorem dX4_isSpent_81 : decode cX4_isSpent 81 = .ok (.iconst 0, 1) := by decide +kernel
theorem dX4_isSpent_82 : decode cX4_isSpent 82 = .ok (.istore 5, 2) := by decide +kernel
theorem dX4_isSpent_84 : decode cX4_isSpent 84 = .ok (.iload 4, 2) := by decide +kernel
theorem dX4_isSpent_86 : decode cX4_isSpent 86 = .ok (.ifCond .ne 8, 3) := by decide +kernel
theorem dX4_isSpent_89 : decode cX4_isSpent 89 = .ok (.iload 5, 2) := by decide +kernel
theorem dX4_isSpent_91 : decode cX4_isSpent 91 = .ok (.ifCond .eq 13, 3) := by decide +kernel
theorem dX4_isSpent_94 : decode cX4_isSpent 94 = .ok (.aload_n 0, 1) := by decide +kernel
theorem dX4_isSpent_95 : decode cX4_isSpent 95 = .ok (.iload_n 3, 1) := by decide +kernel
theorem dX4_isSpent_96 : decode cX4_isSpent 96 = .ok (.invokevirtual 184, 3) := by decide +kernel
theorem dX4_isSpent_99 : decode cX4_isSpent 99 = .ok (.ifCond .eq 5, 3) := by decide +kernel
theorem dX4_isSpent_102 : decode cX4_isSpent 102 = .ok (.iconst 1, 1) := by decide +kernel
theorem dX4_isSpent_103 : decode cX4_isSpent 103 = .ok (.ireturn, 1) := by decide +kernel
theorem dX4_isSpent_104 : decode cX4_isSpent 104 = .ok (.iinc 3 1, 3) := by decide +kernel
theorem dX4_isSpent_107 : decode cX4_isSpent 107 = .ok (.goto (-93), 3) := by decide +kernel
theorem dX4_isSpent_110 : decode cX4_isSpent 110 = .ok (.iconst 0, 1) := by decide +kernel
theorem dX4_isSpent_111 : decode cX4_isSpent 111 = .ok (.ireturn, 1) := by decide +kernel
set_option maxRecDepth 20000 in
theorem ggX4_mayHelp_X4_minutesOf : GoodIn wsX4_mayHelp wsX4_minutesOf := goodIn_r _ [6, 7, 25, 26, 27, 28, 29, 30, 31, 32, 33, 34, 35, 36, 37, 38, 39, 40, 41, 42, 43, 44, 45, 46, 47, 48, 49, 50, 51, 52, 53, 54, 55, 56, 57, 58, 59, 60, 61, 62, 63, 64, 65, 66, 67, 68, 69] rfl (by decide +kernel)
set_option maxRecDepth 20000 in
theorem gX4_mayHelp_X4_minutesOf : GoodIn wsX4_mayHelp (wsV RX4 187 RX4 yX4_minutesOf wsX4_minutesOf) := goodIn_app (goodIn_r _ [2, 3, 4, 5] rfl (by decide +kernel)) ggX4_mayHelp_X4_minutesOf
set_option maxRecDepth 20000 in
theorem ggX4_mayHelp_X4_isSpent : GoodIn wsX4_mayHelp wsX4_isSpent := goodIn_r _ [11, 1, 12, 13, 14, 15, 16, 17, 18, 5, 19, 20, 21, 22, 23, 24, 25, 26, 27, 28, 29, 30, 31, 32, 33, 34, 35, 36, 37, 38, 39, 40, 41, 42, 43, 44, 45, 46, 47, 48, 49, 50, 51, 52, 53, 54, 55, 56, 57, 58, 59, 60, 61, 62, 63, 64, 65, 66, 67, 68, 69] rfl (by decide +kernel)
set_option maxRecDepth 20000 in
theorem gX4_mayHelp_X4_isSpent : GoodIn wsX4_mayHelp (wsV RX4 191 RX4 yX4_isSpent wsX4_isSpent) := goodIn_app (goodIn_r _ [8, 9, 10, 5] rfl (by decide +kernel)) ggX4_mayHelp_X4_isSpent
theorem dX4_mayHelp_0 : decode cX4_mayHelp 0 = .ok (.iload_n 1, 1) := by decide +kernel
theorem dX4_mayHelp_1 : decode cX4_mayHelp 1 = .ok (.iload_n 2, 1) := by decide +kernel
theorem dX4_mayHelp_2 : decode cX4_mayHelp 2 = .ok (.if_icmp .eq 38, 3) := by decide +kernel
theorem dX4_mayHelp_5 : decode cX4_mayHelp 5 = .ok (.aload_n 0, 1) := by decide +kernel
theorem dX4_mayHelp_6 : decode cX4_mayHelp 6 = .ok (.getfield 13, 3) := by decide +kernel
theorem dX4_mayHelp_9 : decode cX4_mayHelp 9 = .ok (.iload_n 1, 1) := by decide +kernel
theorem dX4_mayHelp_10 : decode cX4_mayHelp 10 = .ok (.iaload, 1) := by decide +kernel
theorem dX4_mayHelp_11 : decode cX4_mayHelp 11 = .ok (.bipush 6, 2) := by decide +kernel
theorem dX4_mayHelp_13 : decode cX4_mayHelp 13 = .ok (.if_icmp .ne 14, 3) := by decide +kernel
theorem dX4_mayHelp_16 : decode cX4_mayHelp 16 = .ok (.aload_n 0, 1) := by decide +kernel
theorem dX4_mayHelp_17 : decode cX4_mayHelp 17 = .ok (.iload_n 1, 1) := by decide +kernel
theorem dX4_mayHelp_18 : decode cX4_mayHelp 18 = .ok (.iload_n 2, 1) := by decide +kernel
theorem dX4_mayHelp_19 : decode cX4_mayHelp 19 = .ok (.invokevirtual 187, 3) := by decide +kernel
theorem dX4_mayHelp_22 : decode cX4_mayHelp 22 = .ok (.bipush 20, 2) := by decide +kernel
theorem dX4_mayHelp_24 : decode cX4_mayHelp 24 = .ok (.if_icmp .gt 16, 3) := by decide +kernel
theorem dX4_mayHelp_27 : decode cX4_mayHelp 27 = .ok (.aload_n 0, 1) := by decide +kernel
theorem dX4_mayHelp_28 : decode cX4_mayHelp 28 = .ok (.iload_n 1, 1) := by decide +kernel
theorem dX4_mayHelp_29 : decode cX4_mayHelp 29 = .ok (.iload_n 2, 1) := by decide +kernel
theorem dX4_mayHelp_30 : decode cX4_mayHelp 30 = .ok (.invokevirtual 191, 3) := by decide +kernel
theorem dX4_mayHelp_33 : decode cX4_mayHelp 33 = .ok (.ifCond .ne 7, 3) := by decide +kernel
theorem dX4_mayHelp_36 : decode cX4_mayHelp 36 = .ok (.iconst 1, 1) := by decide +kernel
theorem dX4_mayHelp_37 : decode cX4_mayHelp 37 = .ok (.goto 4, 3) := by decide +kernel
theorem dX4_mayHelp_40 : decode cX4_mayHelp 40 = .ok (.iconst 0, 1) := by decide +kernel
theorem dX4_mayHelp_41 : decode cX4_mayHelp 41 = .ok (.ireturn, 1) := by decide +kernel
theorem dX4_above_0 : decode cX4_above 0 = .ok (.iload_n 0, 1) := by decide +kernel
theorem dX4_above_1 : decode cX4_above 1 = .ok (.ifCond .ge 7, 3) := by decide +kernel
theorem dX4_above_4 : decode cX4_above 4 = .ok (.iconst 0, 1) := by decide +kernel
theorem dX4_above_5 : decode cX4_above 5 = .ok (.goto 4, 3) := by decide +kernel
theorem dX4_above_8 : decode cX4_above 8 = .ok (.iload_n 0, 1) := by decide +kernel
theorem dX4_above_9 : decode cX4_above 9 = .ok (.ireturn, 1) := by decide +kernel
set_option maxRecDepth 20000 in
theorem ggX4_goodOf_X4_minutesOf : GoodIn wsX4_goodOf wsX4_minutesOf := goodIn_r _ [10, 11, 15, 16, 17, 18, 19, 20, 21, 22, 23, 24, 25, 26, 27, 28, 29, 30, 31, 32, 33, 34, 35, 36, 37, 38, 39, 40, 41, 42, 43, 44, 45, 46, 47, 48, 49, 50, 51, 52, 53, 54, 55, 56, 57, 58, 59] rfl (by decide +kernel)
set_option maxRecDepth 20000 in
theorem gX4_goodOf_X4_minutesOf : GoodIn wsX4_goodOf (wsV RX4 187 RX4 yX4_minutesOf wsX4_minutesOf) := goodIn_app (goodIn_r _ [6, 7, 8, 9] rfl (by decide +kernel)) ggX4_goodOf_X4_minutesOf
set_option maxRecDepth 20000 in
theorem ggX4_goodOf_X4_above : GoodIn wsX4_goodOf wsX4_above := goodIn_r _ [14] rfl (by decide +kernel)
set_option maxRecDepth 20000 in
theorem gX4_goodOf_X4_above : GoodIn wsX4_goodOf (va_wsS RX4 194 yX4_above wsX4_above) := goodIn_app (goodIn_r _ [12, 13, 9] rfl (by decide +kernel)) ggX4_goodOf_X4_above
theorem dX4_goodOf_0 : decode cX4_goodOf 0 = .ok (.aload_n 0, 1) := by decide +kernel
theorem dX4_goodOf_1 : decode cX4_goodOf 1 = .ok (.getfield 19, 3) := by decide +kernel
theorem dX4_goodOf_4 : decode cX4_goodOf 4 = .ok (.iconst 4, 1) := by decide +kernel
theorem dX4_goodOf_5 : decode cX4_goodOf 5 = .ok (.iload_n 1, 1) := by decide +kernel
theorem dX4_goodOf_6 : decode cX4_goodOf 6 = .ok (.imul, 1) := by decide +kernel
theorem dX4_goodOf_7 : decode cX4_goodOf 7 = .ok (.aload_n 0, 1) := by decide +kernel
theorem dX4_goodOf_8 : decode cX4_goodOf 8 = .ok (.getfield 25, 3) := by decide +kernel
theorem dX4_goodOf_11 : decode cX4_goodOf 11 = .ok (.iload_n 2, 1) := by decide +kernel
theorem dX4_goodOf_12 : decode cX4_goodOf 12 = .ok (.iaload, 1) := by decide +kernel
theorem dX4_goodOf_13 : decode cX4_goodOf 13 = .ok (.iadd, 1) := by decide +kernel
theorem dX4_goodOf_14 : decode cX4_goodOf 14 = .ok (.iaload, 1) := by decide +kernel
theorem dX4_goodOf_15 : decode cX4_goodOf 15 = .ok (.aload_n 0, 1) := by decide +kernel
theorem dX4_goodOf_16 : decode cX4_goodOf 16 = .ok (.getfield 28, 3) := by decide +kernel
theorem dX4_goodOf_19 : decode cX4_goodOf 19 = .ok (.iload_n 2, 1) := by decide +kernel
theorem dX4_goodOf_20 : decode cX4_goodOf 20 = .ok (.iaload, 1) := by decide +kernel
theorem dX4_goodOf_21 : decode cX4_goodOf 21 = .ok (.imul, 1) := by decide +kernel
theorem dX4_goodOf_22 : decode cX4_goodOf 22 = .ok (.istore_n 3, 1) := by decide +kernel
theorem dX4_goodOf_23 : decode cX4_goodOf 23 = .ok (.aload_n 0, 1) := by decide +kernel
theorem dX4_goodOf_24 : decode cX4_goodOf 24 = .ok (.iload_n 1, 1) := by decide +kernel
theorem dX4_goodOf_25 : decode cX4_goodOf 25 = .ok (.aload_n 0, 1) := by decide +kernel
theorem dX4_goodOf_26 : decode cX4_goodOf 26 = .ok (.getfield 22, 3) := by decide +kernel
theorem dX4_goodOf_29 : decode cX4_goodOf 29 = .ok (.iload_n 2, 1) := by decide +kernel
theorem dX4_goodOf_30 : decode cX4_goodOf 30 = .ok (.iaload, 1) := by decide +kernel
theorem dX4_goodOf_31 : decode cX4_goodOf 31 = .ok (.invokevirtual 187, 3) := by decide +kernel
theorem dX4_goodOf_34 : decode cX4_goodOf 34 = .ok (.istore 4, 2) := by decide +kernel
theorem dX4_goodOf_36 : decode cX4_goodOf 36 = .ok (.iload_n 3, 1) := by decide +kernel
theorem dX4_goodOf_37 : decode cX4_goodOf 37 = .ok (.iload 4, 2) := by decide +kernel
theorem dX4_goodOf_39 : decode cX4_goodOf 39 = .ok (.bipush 10, 2) := by decide +kernel
theorem dX4_goodOf_41 : decode cX4_goodOf 41 = .ok (.idiv, 1) := by decide +kernel
theorem dX4_goodOf_42 : decode cX4_goodOf 42 = .ok (.isub, 1) := by decide +kernel
theorem dX4_goodOf_43 : decode cX4_goodOf 43 = .ok (.invokestatic 194, 3) := by decide +kernel
theorem dX4_goodOf_46 : decode cX4_goodOf 46 = .ok (.istore 5, 2) := by decide +kernel
theorem dX4_goodOf_48 : decode cX4_goodOf 48 = .ok (.aload_n 0, 1) := by decide +kernel
theorem dX4_goodOf_49 : decode cX4_goodOf 49 = .ok (.getfield 25, 3) := by decide +kernel
theorem dX4_goodOf_52 : decode cX4_goodOf 52 = .ok (.iload_n 2, 1) := by decide +kernel
theorem dX4_goodOf_53 : decode cX4_goodOf 53 = .ok (.iaload, 1) := by decide +kernel
theorem dX4_goodOf_54 : decode cX4_goodOf 54 = .ok (.ifCond .ne 10, 3) := by decide +kernel
theorem dX4_goodOf_57 : decode cX4_goodOf 57 = .ok (.iconst 2, 1) := by decide +kernel
theorem dX4_goodOf_58 : decode cX4_goodOf 58 = .ok (.iload 5, 2) := by decide +kernel
theorem dX4_goodOf_60 : decode cX4_goodOf 60 = .ok (.imul, 1) := by decide +kernel
theorem dX4_goodOf_61 : decode cX4_goodOf 61 = .ok (.goto 5, 3) := by decide +kernel
theorem dX4_goodOf_64 : decode cX4_goodOf 64 = .ok (.iload 5, 2) := by decide +kernel
theorem dX4_goodOf_66 : decode cX4_goodOf 66 = .ok (.istore 6, 2) := by decide +kernel
theorem dX4_goodOf_68 : decode cX4_goodOf 68 = .ok (.aload_n 0, 1) := by decide +kernel
theorem dX4_goodOf_69 : decode cX4_goodOf 69 = .ok (.getfield 13, 3) := by decide +kernel
theorem dX4_goodOf_72 : decode cX4_goodOf 72 = .ok (.iload_n 1, 1) := by decide +kernel
theorem dX4_goodOf_73 : decode cX4_goodOf 73 = .ok (.iaload, 1) := by decide +kernel
theorem dX4_goodOf_74 : decode cX4_goodOf 74 = .ok (.tableswitch 77 1 6 #[38, 41, 46, 54, 56, 61], 38) := by decide +kernel
theorem dX4_goodOf_112 : decode cX4_goodOf 112 = .ok (.iload 6, 2) := by decide +kernel
theorem dX4_goodOf_114 : decode cX4_goodOf 114 = .ok (.ireturn, 1) := by decide +kernel
theorem dX4_goodOf_115 : decode cX4_goodOf 115 = .ok (.iload 5, 2) := by decide +kernel
theorem dX4_goodOf_117 : decode cX4_goodOf 117 = .ok (.iconst 2, 1) := by decide +kernel
theorem dX4_goodOf_118 : decode cX4_goodOf 118 = .ok (.idiv, 1) := by decide +kernel
theorem dX4_goodOf_119 : decode cX4_goodOf 119 = .ok (.ireturn, 1) := by decide +kernel
theorem dX4_goodOf_120 : decode cX4_goodOf 120 = .ok (.iload 5, 2) := by decide +kernel
theorem dX4_goodOf_122 : decode cX4_goodOf 122 = .ok (.iconst 5, 1) := by decide +kernel
theorem dX4_goodOf_123 : decode cX4_goodOf 123 = .ok (.isub, 1) := by decide +kernel
theorem dX4_goodOf_124 : decode cX4_goodOf 124 = .ok (.invokestatic 194, 3) := by decide +kernel
theorem dX4_goodOf_127 : decode cX4_goodOf 127 = .ok (.ireturn, 1) := by decide +kernel
theorem dX4_goodOf_128 : decode cX4_goodOf 128 = .ok (.iload_n 3, 1) := by decide +kernel
theorem dX4_goodOf_129 : decode cX4_goodOf 129 = .ok (.ireturn, 1) := by decide +kernel
theorem dX4_goodOf_130 : decode cX4_goodOf 130 = .ok (.iload 6, 2) := by decide +kernel
theorem dX4_goodOf_132 : decode cX4_goodOf 132 = .ok (.iconst 3, 1) := by decide +kernel
theorem dX4_goodOf_133 : decode cX4_goodOf 133 = .ok (.iadd, 1) := by decide +kernel
theorem dX4_goodOf_134 : decode cX4_goodOf 134 = .ok (.ireturn, 1) := by decide +kernel
theorem dX4_goodOf_135 : decode cX4_goodOf 135 = .ok (.iload 4, 2) := by decide +kernel
theorem dX4_goodOf_137 : decode cX4_goodOf 137 = .ok (.bipush 20, 2) := by decide +kernel
theorem dX4_goodOf_139 : decode cX4_goodOf 139 = .ok (.if_icmp .le 7, 3) := by decide +kernel
theorem dX4_goodOf_142 : decode cX4_goodOf 142 = .ok (.iconst 0, 1) := by decide +kernel
theorem dX4_goodOf_143 : decode cX4_goodOf 143 = .ok (.goto 7, 3) := by decide +kernel
theorem dX4_goodOf_146 : decode cX4_goodOf 146 = .ok (.iload 5, 2) := by decide +kernel
theorem dX4_goodOf_148 : decode cX4_goodOf 148 = .ok (.iconst 2, 1) := by decide +kernel
theorem dX4_goodOf_149 : decode cX4_goodOf 149 = .ok (.idiv, 1) := by decide +kernel
theorem dX4_goodOf_150 : decode cX4_goodOf 150 = .ok (.ireturn, 1) := by decide +kernel
theorem dX4_goodOf_151 : decode cX4_goodOf 151 = .ok (.iload 5, 2) := by decide +kernel
theorem dX4_goodOf_153 : decode cX4_goodOf 153 = .ok (.ireturn, 1) := by decide +kernel
theorem dX4_isOpen_0 : decode cX4_isOpen 0 = .ok (.aload_n 0, 1) := by decide +kernel
theorem dX4_isOpen_1 : decode cX4_isOpen 1 = .ok (.getfield 34, 3) := by decide +kernel
theorem dX4_isOpen_4 : decode cX4_isOpen 4 = .ok (.iload_n 1, 1) := by decide +kernel
theorem dX4_isOpen_5 : decode cX4_isOpen 5 = .ok (.iaload, 1) := by decide +kernel
theorem dX4_isOpen_6 : decode cX4_isOpen 6 = .ok (.aload_n 0, 1) := by decide +kernel
theorem dX4_isOpen_7 : decode cX4_isOpen 7 = .ok (.getfield 178, 3) := by decide +kernel
theorem dX4_isOpen_10 : decode cX4_isOpen 10 = .ok (.if_icmp .ne 22, 3) := by decide +kernel
theorem dX4_isOpen_13 : decode cX4_isOpen 13 = .ok (.aload_n 0, 1) := by decide +kernel
theorem dX4_isOpen_14 : decode cX4_isOpen 14 = .ok (.getfield 37, 3) := by decide +kernel
theorem dX4_isOpen_17 : decode cX4_isOpen 17 = .ok (.iload_n 1, 1) := by decide +kernel
theorem dX4_isOpen_18 : decode cX4_isOpen 18 = .ok (.iaload, 1) := by decide +kernel
theorem dX4_isOpen_19 : decode cX4_isOpen 19 = .ok (.aload_n 0, 1) := by decide +kernel
theorem dX4_isOpen_20 : decode cX4_isOpen 20 = .ok (.getfield 31, 3) := by decide +kernel
theorem dX4_isOpen_23 : decode cX4_isOpen 23 = .ok (.iload_n 1, 1) := by decide +kernel
theorem dX4_isOpen_24 : decode cX4_isOpen 24 = .ok (.iaload, 1) := by decide +kernel
theorem dX4_isOpen_25 : decode cX4_isOpen 25 = .ok (.if_icmp .ge 7, 3) := by decide +kernel
theorem dX4_isOpen_28 : decode cX4_isOpen 28 = .ok (.iconst 1, 1) := by decide +kernel
theorem dX4_isOpen_29 : decode cX4_isOpen 29 = .ok (.goto 4, 3) := by decide +kernel
theorem dX4_isOpen_32 : decode cX4_isOpen 32 = .ok (.iconst 0, 1) := by decide +kernel
theorem dX4_isOpen_33 : decode cX4_isOpen 33 = .ok (.ireturn, 1) := by decide +kernel
theorem dX4_hasHelped_0 : decode cX4_hasHelped 0 = .ok (.iconst 0, 1) := by decide +kernel
theorem dX4_hasHelped_1 : decode cX4_hasHelped 1 = .ok (.istore_n 3, 1) := by decide +kernel
theorem dX4_hasHelped_2 : decode cX4_hasHelped 2 = .ok (.iload_n 3, 1) := by decide +kernel
theorem dX4_hasHelped_3 : decode cX4_hasHelped 3 = .ok (.aload_n 0, 1) := by decide +kernel
theorem dX4_hasHelped_4 : decode cX4_hasHelped 4 = .ok (.getfield 172, 3) := by decide +kernel
theorem dX4_hasHelped_7 : decode cX4_hasHelped 7 = .ok (.if_icmp .ge 31, 3) := by decide +kernel
theorem dX4_hasHelped_10 : decode cX4_hasHelped 10 = .ok (.aload_n 0, 1) := by decide +kernel
theorem dX4_hasHelped_11 : decode cX4_hasHelped 11 = .ok (.getfield 52, 3) := by decide +kernel
theorem dX4_hasHelped_14 : decode cX4_hasHelped 14 = .ok (.iload_n 3, 1) := by decide +kernel
theorem dX4_hasHelped_15 : decode cX4_hasHelped 15 = .ok (.iaload, 1) := by decide +kernel
theorem dX4_hasHelped_16 : decode cX4_hasHelped 16 = .ok (.iload_n 2, 1) := by decide +kernel
theorem dX4_hasHelped_17 : decode cX4_hasHelped 17 = .ok (.if_icmp .ne 15, 3) := by decide +kernel
theorem dX4_hasHelped_20 : decode cX4_hasHelped 20 = .ok (.aload_n 0, 1) := by decide +kernel
theorem dX4_hasHelped_21 : decode cX4_hasHelped 21 = .ok (.getfield 40, 3) := by decide +kernel
theorem dX4_hasHelped_24 : decode cX4_hasHelped 24 = .ok (.iload_n 3, 1) := by decide +kernel
theorem dX4_hasHelped_25 : decode cX4_hasHelped 25 = .ok (.iaload, 1) := by decide +kernel
theorem dX4_hasHelped_26 : decode cX4_hasHelped 26 = .ok (.iload_n 1, 1) := by decide +kernel
theorem dX4_hasHelped_27 : decode cX4_hasHelped 27 = .ok (.if_icmp .ne 5, 3) := by decide +kernel
theorem dX4_hasHelped_30 : decode cX4_hasHelped 30 = .ok (.iconst 1, 1) := by decide +kernel
theorem dX4_hasHelped_31 : decode cX4_hasHelped 31 = .ok (.ireturn, 1) := by decide +kernel
theorem dX4_hasHelped_32 : decode cX4_hasHelped 32 = .ok (.iinc 3 1, 3) := by decide +kernel
theorem dX4_hasHelped_35 : decode cX4_hasHelped 35 = .ok (.goto (-33), 3) := by decide +kernel
theorem dX4_hasHelped_38 : decode cX4_hasHelped 38 = .ok (.iconst 0, 1) := by decide +kernel
theorem dX4_hasHelped_39 : decode cX4_hasHelped 39 = .ok (.ireturn, 1) := by decide +kernel
set_option maxRecDepth 20000 in
theorem ggX4_mayWith_X4_isOpen : GoodIn wsX4_mayWith wsX4_isOpen := goodIn_r _ [6, 7, 8, 9, 10, 42, 43, 44, 45, 46, 47, 48, 49, 50, 51, 52, 53, 54, 55, 56, 57, 58, 59, 60, 61, 62, 63, 64, 65, 66, 67, 68, 69, 70, 71, 72, 73, 74, 75, 76, 77, 78, 79, 80, 81, 82, 83, 84, 85, 86] rfl (by decide +kernel)
set_option maxRecDepth 20000 in
theorem gX4_mayWith_X4_isOpen : GoodIn wsX4_mayWith (wsV RX4 197 RX4 yX4_isOpen wsX4_isOpen) := goodIn_app (goodIn_r _ [2, 3, 4, 5] rfl (by decide +kernel)) ggX4_mayWith_X4_isOpen
set_option maxRecDepth 20000 in
theorem ggX4_mayWith_X4_mayHelp : GoodIn wsX4_mayWith wsX4_mayHelp := goodIn_r _ [14, 15, 16, 17, 18, 5, 19, 20, 21, 22, 23, 24, 25, 26, 27, 28, 29, 30, 31, 32, 8, 33, 34, 35, 36, 42, 43, 44, 45, 46, 47, 48, 49, 50, 51, 52, 53, 54, 55, 56, 57, 58, 59, 60, 61, 62, 63, 64, 65, 66, 67, 68, 69, 70, 71, 72, 73, 74, 75, 76, 77, 78, 79, 80, 81, 82, 83, 84, 85, 86] rfl (by decide +kernel)
set_option maxRecDepth 20000 in
theorem gX4_mayWith_X4_mayHelp : GoodIn wsX4_mayWith (wsV RX4 200 RX4 yX4_mayHelp wsX4_mayHelp) := goodIn_app (goodIn_r _ [11, 12, 13, 5] rfl (by decide +kernel)) ggX4_mayWith_X4_mayHelp
set_option maxRecDepth 20000 in
theorem ggX4_mayWith_X4_hasHelped : GoodIn wsX4_mayWith wsX4_hasHelped := goodIn_r _ [40, 25, 41, 26, 42, 43, 44, 45, 46, 47, 48, 49, 50, 51, 52, 53, 54, 55, 56, 57, 58, 59, 60, 61, 62, 63, 64, 65, 66, 67, 68, 69, 70, 71, 72, 73, 74, 75, 76, 77, 78, 79, 80, 81, 82, 83, 84, 85, 86] rfl (by decide +kernel)
set_option maxRecDepth 20000 in
theorem gX4_mayWith_X4_hasHelped : GoodIn wsX4_mayWith (wsV RX4 203 RX4 yX4_hasHelped wsX4_hasHelped) := goodIn_app (goodIn_r _ [37, 38, 39, 5] rfl (by decide +kernel)) ggX4_mayWith_X4_hasHelped
theorem dX4_mayWith_0 : decode cX4_mayWith 0 = .ok (.aload_n 0, 1) := by decide +kernel
theorem dX4_mayWith_1 : decode cX4_mayWith 1 = .ok (.iload_n 2, 1) := by decide +kernel
theorem dX4_mayWith_2 : decode cX4_mayWith 2 = .ok (.invokevirtual 197, 3) := by decide +kernel
theorem dX4_mayWith_5 : decode cX4_mayWith 5 = .ok (.ifCond .eq 36, 3) := by decide +kernel
theorem dX4_mayWith_8 : decode cX4_mayWith 8 = .ok (.aload_n 0, 1) := by decide +kernel
theorem dX4_mayWith_9 : decode cX4_mayWith 9 = .ok (.iload_n 1, 1) := by decide +kernel
theorem dX4_mayWith_10 : decode cX4_mayWith 10 = .ok (.aload_n 0, 1) := by decide +kernel
theorem dX4_mayWith_11 : decode cX4_mayWith 11 = .ok (.getfield 22, 3) := by decide +kernel
theorem dX4_mayWith_14 : decode cX4_mayWith 14 = .ok (.iload_n 2, 1) := by decide +kernel
theorem dX4_mayWith_15 : decode cX4_mayWith 15 = .ok (.iaload, 1) := by decide +kernel
theorem dX4_mayWith_16 : decode cX4_mayWith 16 = .ok (.invokevirtual 200, 3) := by decide +kernel
theorem dX4_mayWith_19 : decode cX4_mayWith 19 = .ok (.ifCond .eq 22, 3) := by decide +kernel
theorem dX4_mayWith_22 : decode cX4_mayWith 22 = .ok (.iload_n 2, 1) := by decide +kernel
theorem dX4_mayWith_23 : decode cX4_mayWith 23 = .ok (.bipush 12, 2) := by decide +kernel
theorem dX4_mayWith_25 : decode cX4_mayWith 25 = .ok (.if_icmp .eq 12, 3) := by decide +kernel
theorem dX4_mayWith_28 : decode cX4_mayWith 28 = .ok (.aload_n 0, 1) := by decide +kernel
theorem dX4_mayWith_29 : decode cX4_mayWith 29 = .ok (.iload_n 1, 1) := by decide +kernel
theorem dX4_mayWith_30 : decode cX4_mayWith 30 = .ok (.iload_n 2, 1) := by decide +kernel
theorem dX4_mayWith_31 : decode cX4_mayWith 31 = .ok (.invokevirtual 203, 3) := by decide +kernel
theorem dX4_mayWith_34 : decode cX4_mayWith 34 = .ok (.ifCond .ne 7, 3) := by decide +kernel
theorem dX4_mayWith_37 : decode cX4_mayWith 37 = .ok (.iconst 1, 1) := by decide +kernel
theorem dX4_mayWith_38 : decode cX4_mayWith 38 = .ok (.goto 4, 3) := by decide +kernel
theorem dX4_mayWith_41 : decode cX4_mayWith 41 = .ok (.iconst 0, 1) := by decide +kernel
theorem dX4_mayWith_42 : decode cX4_mayWith 42 = .ok (.ireturn, 1) := by decide +kernel
theorem dX4_writes_0 : decode cX4_writes 0 = .ok (.aload_n 0, 1) := by decide +kernel
theorem dX4_writes_1 : decode cX4_writes 1 = .ok (.getfield 40, 3) := by decide +kernel
theorem dX4_writes_4 : decode cX4_writes 4 = .ok (.aload_n 0, 1) := by decide +kernel
theorem dX4_writes_5 : decode cX4_writes 5 = .ok (.getfield 172, 3) := by decide +kernel
theorem dX4_writes_8 : decode cX4_writes 8 = .ok (.iload_n 1, 1) := by decide +kernel
theorem dX4_writes_9 : decode cX4_writes 9 = .ok (.iastore, 1) := by decide +kernel
theorem dX4_writes_10 : decode cX4_writes 10 = .ok (.aload_n 0, 1) := by decide +kernel
theorem dX4_writes_11 : decode cX4_writes 11 = .ok (.getfield 43, 3) := by decide +kernel
theorem dX4_writes_14 : decode cX4_writes 14 = .ok (.aload_n 0, 1) := by decide +kernel
theorem dX4_writes_15 : decode cX4_writes 15 = .ok (.getfield 172, 3) := by decide +kernel
theorem dX4_writes_18 : decode cX4_writes 18 = .ok (.iload_n 2, 1) := by decide +kernel
theorem dX4_writes_19 : decode cX4_writes 19 = .ok (.iastore, 1) := by decide +kernel
theorem dX4_writes_20 : decode cX4_writes 20 = .ok (.aload_n 0, 1) := by decide +kernel
theorem dX4_writes_21 : decode cX4_writes 21 = .ok (.getfield 46, 3) := by decide +kernel
theorem dX4_writes_24 : decode cX4_writes 24 = .ok (.aload_n 0, 1) := by decide +kernel
theorem dX4_writes_25 : decode cX4_writes 25 = .ok (.getfield 172, 3) := by decide +kernel
theorem dX4_writes_28 : decode cX4_writes 28 = .ok (.aload_n 0, 1) := by decide +kernel
theorem dX4_writes_29 : decode cX4_writes 29 = .ok (.getfield 178, 3) := by decide +kernel
theorem dX4_writes_32 : decode cX4_writes 32 = .ok (.iastore, 1) := by decide +kernel
theorem dX4_writes_33 : decode cX4_writes 33 = .ok (.aload_n 0, 1) := by decide +kernel
theorem dX4_writes_34 : decode cX4_writes 34 = .ok (.getfield 49, 3) := by decide +kernel
theorem dX4_writes_37 : decode cX4_writes 37 = .ok (.aload_n 0, 1) := by decide +kernel
theorem dX4_writes_38 : decode cX4_writes 38 = .ok (.getfield 172, 3) := by decide +kernel
theorem dX4_writes_41 : decode cX4_writes 41 = .ok (.iload_n 3, 1) := by decide +kernel
theorem dX4_writes_42 : decode cX4_writes 42 = .ok (.iastore, 1) := by decide +kernel
theorem dX4_writes_43 : decode cX4_writes 43 = .ok (.aload_n 0, 1) := by decide +kernel
theorem dX4_writes_44 : decode cX4_writes 44 = .ok (.getfield 52, 3) := by decide +kernel
theorem dX4_writes_47 : decode cX4_writes 47 = .ok (.aload_n 0, 1) := by decide +kernel
theorem dX4_writes_48 : decode cX4_writes 48 = .ok (.getfield 172, 3) := by decide +kernel
theorem dX4_writes_51 : decode cX4_writes 51 = .ok (.iload 4, 2) := by decide +kernel
theorem dX4_writes_53 : decode cX4_writes 53 = .ok (.bipush 12, 2) := by decide +kernel
theorem dX4_writes_55 : decode cX4_writes 55 = .ok (.if_icmp .ne 7, 3) := by decide +kernel
theorem dX4_writes_58 : decode cX4_writes 58 = .ok (.iconst (-1), 1) := by decide +kernel
theorem dX4_writes_59 : decode cX4_writes 59 = .ok (.goto 5, 3) := by decide +kernel
theorem dX4_writes_62 : decode cX4_writes 62 = .ok (.iload 4, 2) := by decide +kernel
theorem dX4_writes_64 : decode cX4_writes 64 = .ok (.iastore, 1) := by decide +kernel
theorem dX4_writes_65 : decode cX4_writes 65 = .ok (.aload_n 0, 1) := by decide +kernel
theorem dX4_writes_66 : decode cX4_writes 66 = .ok (.dup, 1) := by decide +kernel
theorem dX4_writes_67 : decode cX4_writes 67 = .ok (.getfield 172, 3) := by decide +kernel
theorem dX4_writes_70 : decode cX4_writes 70 = .ok (.iconst 1, 1) := by decide +kernel
theorem dX4_writes_71 : decode cX4_writes 71 = .ok (.iadd, 1) := by decide +kernel
theorem dX4_writes_72 : decode cX4_writes 72 = .ok (.putfield 172, 3) := by decide +kernel
theorem dX4_writes_75 : decode cX4_writes 75 = .ok (.iload 4, 2) := by decide +kernel
theorem dX4_writes_77 : decode cX4_writes 77 = .ok (.ifCond .lt 14, 3) := by decide +kernel
theorem dX4_writes_80 : decode cX4_writes 80 = .ok (.aload_n 0, 1) := by decide +kernel
theorem dX4_writes_81 : decode cX4_writes 81 = .ok (.getfield 37, 3) := by decide +kernel
theorem dX4_writes_84 : decode cX4_writes 84 = .ok (.iload 4, 2) := by decide +kernel
theorem dX4_writes_86 : decode cX4_writes 86 = .ok (.dup2, 1) := by decide +kernel
theorem dX4_writes_87 : decode cX4_writes 87 = .ok (.iaload, 1) := by decide +kernel
theorem dX4_writes_88 : decode cX4_writes 88 = .ok (.iconst 1, 1) := by decide +kernel
theorem dX4_writes_89 : decode cX4_writes 89 = .ok (.iadd, 1) := by decide +kernel
theorem dX4_writes_90 : decode cX4_writes 90 = .ok (.iastore, 1) := by decide +kernel
theorem dX4_writes_91 : decode cX4_writes 91 = .ok (.return_, 1) := by decide +kernel
theorem dX4_takesBack_0 : decode cX4_takesBack 0 = .ok (.aload_n 0, 1) := by decide +kernel
theorem dX4_takesBack_1 : decode cX4_takesBack 1 = .ok (.dup, 1) := by decide +kernel
theorem dX4_takesBack_2 : decode cX4_takesBack 2 = .ok (.getfield 172, 3) := by decide +kernel
theorem dX4_takesBack_5 : decode cX4_takesBack 5 = .ok (.iconst 1, 1) := by decide +kernel
theorem dX4_takesBack_6 : decode cX4_takesBack 6 = .ok (.isub, 1) := by decide +kernel
theorem dX4_takesBack_7 : decode cX4_takesBack 7 = .ok (.putfield 172, 3) := by decide +kernel
theorem dX4_takesBack_10 : decode cX4_takesBack 10 = .ok (.aload_n 0, 1) := by decide +kernel
theorem dX4_takesBack_11 : decode cX4_takesBack 11 = .ok (.getfield 52, 3) := by decide +kernel
theorem dX4_takesBack_14 : decode cX4_takesBack 14 = .ok (.aload_n 0, 1) := by decide +kernel
theorem dX4_takesBack_15 : decode cX4_takesBack 15 = .ok (.getfield 172, 3) := by decide +kernel
theorem dX4_takesBack_18 : decode cX4_takesBack 18 = .ok (.iaload, 1) := by decide +kernel
theorem dX4_takesBack_19 : decode cX4_takesBack 19 = .ok (.ifCond .lt 21, 3) := by decide +kernel
theorem dX4_takesBack_22 : decode cX4_takesBack 22 = .ok (.aload_n 0, 1) := by decide +kernel
theorem dX4_takesBack_23 : decode cX4_takesBack 23 = .ok (.getfield 37, 3) := by decide +kernel
theorem dX4_takesBack_26 : decode cX4_takesBack 26 = .ok (.aload_n 0, 1) := by decide +kernel
theorem dX4_takesBack_27 : decode cX4_takesBack 27 = .ok (.getfield 52, 3) := by decide +kernel
theorem dX4_takesBack_30 : decode cX4_takesBack 30 = .ok (.aload_n 0, 1) := by decide +kernel
theorem dX4_takesBack_31 : decode cX4_takesBack 31 = .ok (.getfield 172, 3) := by decide +kernel
theorem dX4_takesBack_34 : decode cX4_takesBack 34 = .ok (.iaload, 1) := by decide +kernel
theorem dX4_takesBack_35 : decode cX4_takesBack 35 = .ok (.dup2, 1) := by decide +kernel
theorem dX4_takesBack_36 : decode cX4_takesBack 36 = .ok (.iaload, 1) := by decide +kernel
theorem dX4_takesBack_37 : decode cX4_takesBack 37 = .ok (.iconst 1, 1) := by decide +kernel
theorem dX4_takesBack_38 : decode cX4_takesBack 38 = .ok (.isub, 1) := by decide +kernel
theorem dX4_takesBack_39 : decode cX4_takesBack 39 = .ok (.iastore, 1) := by decide +kernel
theorem dX4_takesBack_40 : decode cX4_takesBack 40 = .ok (.return_, 1) := by decide +kernel
set_option maxRecDepth 20000 in
theorem ggX4_person_X4_isOne : GoodIn wsX4_person wsX4_isOne := goodIn_r _ [8, 9, 18, 19, 20, 21, 22, 23, 24, 25, 26, 27, 28, 29, 30, 31, 32, 33, 34, 35, 36, 37, 38, 39, 40, 41, 42, 43, 44, 45, 46, 47, 48, 49, 50, 51, 52, 53, 54, 55, 56, 57, 58, 59, 60, 61, 62] rfl (by decide +kernel)
set_option maxRecDepth 20000 in
theorem gX4_person_X4_isOne : GoodIn wsX4_person (wsV RX4 135 RX4 yX4_isOne wsX4_isOne) := goodIn_app (goodIn_r _ [4, 5, 6, 7] rfl (by decide +kernel)) ggX4_person_X4_isOne
set_option maxRecDepth 20000 in
theorem ggX4_person_X4_no : GoodIn wsX4_person wsX4_no := goodIn_r _ [13, 14, 18, 19, 20, 21, 22, 23, 24, 25, 26, 27, 28, 29, 30, 31, 32, 33, 34, 35, 36, 37, 38, 39, 40, 41, 42, 43, 44, 45, 46, 47, 48, 49, 50, 51, 52, 53, 54, 55, 56, 57, 58, 59, 60, 61, 62] rfl (by decide +kernel)
set_option maxRecDepth 20000 in
theorem gX4_person_X4_no : GoodIn wsX4_person (wsV RX4 106 RX4 yX4_no wsX4_no) := goodIn_app (goodIn_r _ [10, 11, 12, 7] rfl (by decide +kernel)) ggX4_person_X4_no
set_option maxRecDepth 20000 in
theorem ggX4_person_X4_isIn : GoodIn wsX4_person wsX4_isIn := goodIn_r _ [17] rfl (by decide +kernel)
set_option maxRecDepth 20000 in
theorem gX4_person_X4_isIn : GoodIn wsX4_person (va_wsS RX4 117 yX4_isIn wsX4_isIn) := goodIn_app (goodIn_r _ [15, 16, 7] rfl (by decide +kernel)) ggX4_person_X4_isIn
theorem dX4_person_0 : decode cX4_person 0 = .ok (.aload_n 0, 1) := by decide +kernel
theorem dX4_person_1 : decode cX4_person 1 = .ok (.iload_n 1, 1) := by decide +kernel
theorem dX4_person_2 : decode cX4_person 2 = .ok (.invokevirtual 135, 3) := by decide +kernel
theorem dX4_person_5 : decode cX4_person 5 = .ok (.ifCond .ne 9, 3) := by decide +kernel
theorem dX4_person_8 : decode cX4_person 8 = .ok (.aload_n 0, 1) := by decide +kernel
theorem dX4_person_9 : decode cX4_person 9 = .ok (.iconst (-1), 1) := by decide +kernel
theorem dX4_person_10 : decode cX4_person 10 = .ok (.invokevirtual 106, 3) := by decide +kernel
theorem dX4_person_13 : decode cX4_person 13 = .ok (.ireturn, 1) := by decide +kernel
theorem dX4_person_14 : decode cX4_person 14 = .ok (.iload_n 2, 1) := by decide +kernel
theorem dX4_person_15 : decode cX4_person 15 = .ok (.iconst 0, 1) := by decide +kernel
theorem dX4_person_16 : decode cX4_person 16 = .ok (.iconst 5, 1) := by decide +kernel
theorem dX4_person_17 : decode cX4_person 17 = .ok (.invokestatic 117, 3) := by decide +kernel
theorem dX4_person_20 : decode cX4_person 20 = .ok (.ifCond .ne 10, 3) := by decide +kernel
theorem dX4_person_23 : decode cX4_person 23 = .ok (.aload_n 0, 1) := by decide +kernel
theorem dX4_person_24 : decode cX4_person 24 = .ok (.bipush (-2), 2) := by decide +kernel
theorem dX4_person_26 : decode cX4_person 26 = .ok (.invokevirtual 106, 3) := by decide +kernel
theorem dX4_person_29 : decode cX4_person 29 = .ok (.ireturn, 1) := by decide +kernel
theorem dX4_person_30 : decode cX4_person 30 = .ok (.iload_n 2, 1) := by decide +kernel
theorem dX4_person_31 : decode cX4_person 31 = .ok (.ifCond .ne 12, 3) := by decide +kernel
theorem dX4_person_34 : decode cX4_person 34 = .ok (.aload_n 0, 1) := by decide +kernel
theorem dX4_person_35 : decode cX4_person 35 = .ok (.getfield 13, 3) := by decide +kernel
theorem dX4_person_38 : decode cX4_person 38 = .ok (.iload_n 1, 1) := by decide +kernel
theorem dX4_person_39 : decode cX4_person 39 = .ok (.iaload, 1) := by decide +kernel
theorem dX4_person_40 : decode cX4_person 40 = .ok (.goto 29, 3) := by decide +kernel
theorem dX4_person_43 : decode cX4_person 43 = .ok (.iload_n 2, 1) := by decide +kernel
theorem dX4_person_44 : decode cX4_person 44 = .ok (.iconst 1, 1) := by decide +kernel
theorem dX4_person_45 : decode cX4_person 45 = .ok (.if_icmp .ne 12, 3) := by decide +kernel
theorem dX4_person_48 : decode cX4_person 48 = .ok (.aload_n 0, 1) := by decide +kernel
theorem dX4_person_49 : decode cX4_person 49 = .ok (.getfield 16, 3) := by decide +kernel
theorem dX4_person_52 : decode cX4_person 52 = .ok (.iload_n 1, 1) := by decide +kernel
theorem dX4_person_53 : decode cX4_person 53 = .ok (.iaload, 1) := by decide +kernel
theorem dX4_person_54 : decode cX4_person 54 = .ok (.goto 15, 3) := by decide +kernel
theorem dX4_person_57 : decode cX4_person 57 = .ok (.aload_n 0, 1) := by decide +kernel
theorem dX4_person_58 : decode cX4_person 58 = .ok (.getfield 19, 3) := by decide +kernel
theorem dX4_person_61 : decode cX4_person 61 = .ok (.iconst 4, 1) := by decide +kernel
theorem dX4_person_62 : decode cX4_person 62 = .ok (.iload_n 1, 1) := by decide +kernel
theorem dX4_person_63 : decode cX4_person 63 = .ok (.imul, 1) := by decide +kernel
theorem dX4_person_64 : decode cX4_person 64 = .ok (.iload_n 2, 1) := by decide +kernel
theorem dX4_person_65 : decode cX4_person 65 = .ok (.iadd, 1) := by decide +kernel
theorem dX4_person_66 : decode cX4_person 66 = .ok (.iconst 2, 1) := by decide +kernel
theorem dX4_person_67 : decode cX4_person 67 = .ok (.isub, 1) := by decide +kernel
theorem dX4_person_68 : decode cX4_person 68 = .ok (.iaload, 1) := by decide +kernel
theorem dX4_person_69 : decode cX4_person 69 = .ok (.ireturn, 1) := by decide +kernel
set_option maxRecDepth 20000 in
theorem ggX4_need_X4_isNeed : GoodIn wsX4_need wsX4_isNeed := goodIn_r _ [11, 12, 18, 19, 20, 21, 22, 23, 24, 25, 26, 27, 28, 29, 30, 31, 32, 33, 34, 35, 36, 37, 38, 39, 40, 41, 42, 43, 44, 45, 46, 47, 48, 49, 50, 51, 52, 53, 54, 55, 56, 57, 58, 59, 60, 61, 62] rfl (by decide +kernel)
set_option maxRecDepth 20000 in
theorem gX4_need_X4_isNeed : GoodIn wsX4_need (wsV RX4 206 RX4 yX4_isNeed wsX4_isNeed) := goodIn_app (goodIn_r _ [7, 8, 9, 10] rfl (by decide +kernel)) ggX4_need_X4_isNeed
set_option maxRecDepth 20000 in
theorem ggX4_need_X4_no : GoodIn wsX4_need wsX4_no := goodIn_r _ [16, 17, 18, 19, 20, 21, 22, 23, 24, 25, 26, 27, 28, 29, 30, 31, 32, 33, 34, 35, 36, 37, 38, 39, 40, 41, 42, 43, 44, 45, 46, 47, 48, 49, 50, 51, 52, 53, 54, 55, 56, 57, 58, 59, 60, 61, 62] rfl (by decide +kernel)
set_option maxRecDepth 20000 in
theorem gX4_need_X4_no : GoodIn wsX4_need (wsV RX4 106 RX4 yX4_no wsX4_no) := goodIn_app (goodIn_r _ [13, 14, 15, 10] rfl (by decide +kernel)) ggX4_need_X4_no
theorem dX4_need_0 : decode cX4_need 0 = .ok (.aload_n 0, 1) := by decide +kernel
theorem dX4_need_1 : decode cX4_need 1 = .ok (.iload_n 1, 1) := by decide +kernel
theorem dX4_need_2 : decode cX4_need 2 = .ok (.invokevirtual 206, 3) := by decide +kernel
theorem dX4_need_5 : decode cX4_need 5 = .ok (.ifCond .ne 9, 3) := by decide +kernel
theorem dX4_need_8 : decode cX4_need 8 = .ok (.aload_n 0, 1) := by decide +kernel
theorem dX4_need_9 : decode cX4_need 9 = .ok (.iconst (-1), 1) := by decide +kernel
theorem dX4_need_10 : decode cX4_need 10 = .ok (.invokevirtual 106, 3) := by decide +kernel
theorem dX4_need_13 : decode cX4_need 13 = .ok (.ireturn, 1) := by decide +kernel
theorem dX4_need_14 : decode cX4_need 14 = .ok (.iload_n 2, 1) := by decide +kernel
theorem dX4_need_15 : decode cX4_need 15 = .ok (.tableswitch 79 0 5 #[37, 44, 51, 58, 65, 72], 37) := by decide +kernel
theorem dX4_need_52 : decode cX4_need 52 = .ok (.aload_n 0, 1) := by decide +kernel
theorem dX4_need_53 : decode cX4_need 53 = .ok (.getfield 22, 3) := by decide +kernel
theorem dX4_need_56 : decode cX4_need 56 = .ok (.iload_n 1, 1) := by decide +kernel
theorem dX4_need_57 : decode cX4_need 57 = .ok (.iaload, 1) := by decide +kernel
theorem dX4_need_58 : decode cX4_need 58 = .ok (.ireturn, 1) := by decide +kernel
theorem dX4_need_59 : decode cX4_need 59 = .ok (.aload_n 0, 1) := by decide +kernel
theorem dX4_need_60 : decode cX4_need 60 = .ok (.getfield 25, 3) := by decide +kernel
theorem dX4_need_63 : decode cX4_need 63 = .ok (.iload_n 1, 1) := by decide +kernel
theorem dX4_need_64 : decode cX4_need 64 = .ok (.iaload, 1) := by decide +kernel
theorem dX4_need_65 : decode cX4_need 65 = .ok (.ireturn, 1) := by decide +kernel
theorem dX4_need_66 : decode cX4_need 66 = .ok (.aload_n 0, 1) := by decide +kernel
theorem dX4_need_67 : decode cX4_need 67 = .ok (.getfield 28, 3) := by decide +kernel
theorem dX4_need_70 : decode cX4_need 70 = .ok (.iload_n 1, 1) := by decide +kernel
theorem dX4_need_71 : decode cX4_need 71 = .ok (.iaload, 1) := by decide +kernel
theorem dX4_need_72 : decode cX4_need 72 = .ok (.ireturn, 1) := by decide +kernel
theorem dX4_need_73 : decode cX4_need 73 = .ok (.aload_n 0, 1) := by decide +kernel
theorem dX4_need_74 : decode cX4_need 74 = .ok (.getfield 31, 3) := by decide +kernel
theorem dX4_need_77 : decode cX4_need 77 = .ok (.iload_n 1, 1) := by decide +kernel
theorem dX4_need_78 : decode cX4_need 78 = .ok (.iaload, 1) := by decide +kernel
theorem dX4_need_79 : decode cX4_need 79 = .ok (.ireturn, 1) := by decide +kernel
theorem dX4_need_80 : decode cX4_need 80 = .ok (.aload_n 0, 1) := by decide +kernel
theorem dX4_need_81 : decode cX4_need 81 = .ok (.getfield 34, 3) := by decide +kernel
theorem dX4_need_84 : decode cX4_need 84 = .ok (.iload_n 1, 1) := by decide +kernel
theorem dX4_need_85 : decode cX4_need 85 = .ok (.iaload, 1) := by decide +kernel
theorem dX4_need_86 : decode cX4_need 86 = .ok (.ireturn, 1) := by decide +kernel
theorem dX4_need_87 : decode cX4_need 87 = .ok (.aload_n 0, 1) := by decide +kernel
theorem dX4_need_88 : decode cX4_need 88 = .ok (.getfield 37, 3) := by decide +kernel
theorem dX4_need_91 : decode cX4_need 91 = .ok (.iload_n 1, 1) := by decide +kernel
theorem dX4_need_92 : decode cX4_need 92 = .ok (.iaload, 1) := by decide +kernel
theorem dX4_need_93 : decode cX4_need 93 = .ok (.ireturn, 1) := by decide +kernel
theorem dX4_need_94 : decode cX4_need 94 = .ok (.aload_n 0, 1) := by decide +kernel
theorem dX4_need_95 : decode cX4_need 95 = .ok (.bipush (-2), 2) := by decide +kernel
theorem dX4_need_97 : decode cX4_need 97 = .ok (.invokevirtual 106, 3) := by decide +kernel
theorem dX4_need_100 : decode cX4_need 100 = .ok (.ireturn, 1) := by decide +kernel
set_option maxRecDepth 20000 in
theorem ggX4_set_X4_isIn : GoodIn wsX4_set wsX4_isIn := goodIn_r _ [8] rfl (by decide +kernel)
set_option maxRecDepth 20000 in
theorem gX4_set_X4_isIn : GoodIn wsX4_set (va_wsS RX4 117 yX4_isIn wsX4_isIn) := goodIn_app (goodIn_r _ [5, 6, 7] rfl (by decide +kernel)) ggX4_set_X4_isIn
set_option maxRecDepth 20000 in
theorem ggX4_set_X4_no : GoodIn wsX4_set wsX4_no := goodIn_r _ [12, 13, 17, 18, 19, 20, 21, 22, 23, 24, 25, 26, 27, 28, 29, 30, 31, 32, 33, 34, 35, 36, 37, 38, 39, 40, 41, 42, 43, 44, 45, 46, 47, 48, 49, 50, 51, 52, 53, 54, 55, 56, 57, 58, 59, 60, 61] rfl (by decide +kernel)
set_option maxRecDepth 20000 in
theorem gX4_set_X4_no : GoodIn wsX4_set (wsV RX4 106 RX4 yX4_no wsX4_no) := goodIn_app (goodIn_r _ [9, 10, 11, 7] rfl (by decide +kernel)) ggX4_set_X4_no
set_option maxRecDepth 20000 in
theorem ggX4_set_X4_bound : GoodIn wsX4_set wsX4_bound := goodIn_r _ [16] rfl (by decide +kernel)
set_option maxRecDepth 20000 in
theorem gX4_set_X4_bound : GoodIn wsX4_set (va_wsS RX4 99 yX4_bound wsX4_bound) := goodIn_app (goodIn_r _ [14, 15, 7] rfl (by decide +kernel)) ggX4_set_X4_bound
theorem dX4_set_0 : decode cX4_set 0 = .ok (.iload_n 1, 1) := by decide +kernel
theorem dX4_set_1 : decode cX4_set 1 = .ok (.iconst 0, 1) := by decide +kernel
theorem dX4_set_2 : decode cX4_set 2 = .ok (.iconst 3, 1) := by decide +kernel
theorem dX4_set_3 : decode cX4_set 3 = .ok (.invokestatic 117, 3) := by decide +kernel
theorem dX4_set_6 : decode cX4_set 6 = .ok (.ifCond .ne 10, 3) := by decide +kernel
theorem dX4_set_9 : decode cX4_set 9 = .ok (.aload_n 0, 1) := by decide +kernel
theorem dX4_set_10 : decode cX4_set 10 = .ok (.bipush (-2), 2) := by decide +kernel
theorem dX4_set_12 : decode cX4_set 12 = .ok (.invokevirtual 106, 3) := by decide +kernel
theorem dX4_set_15 : decode cX4_set 15 = .ok (.ireturn, 1) := by decide +kernel
theorem dX4_set_16 : decode cX4_set 16 = .ok (.iload_n 2, 1) := by decide +kernel
theorem dX4_set_17 : decode cX4_set 17 = .ok (.iload_n 1, 1) := by decide +kernel
theorem dX4_set_18 : decode cX4_set 18 = .ok (.iconst 1, 1) := by decide +kernel
theorem dX4_set_19 : decode cX4_set 19 = .ok (.if_icmp .ne 7, 3) := by decide +kernel
theorem dX4_set_22 : decode cX4_set 22 = .ok (.iconst 1, 1) := by decide +kernel
theorem dX4_set_23 : decode cX4_set 23 = .ok (.goto 4, 3) := by decide +kernel
theorem dX4_set_26 : decode cX4_set 26 = .ok (.iconst 0, 1) := by decide +kernel
theorem dX4_set_27 : decode cX4_set 27 = .ok (.iload_n 1, 1) := by decide +kernel
theorem dX4_set_28 : decode cX4_set 28 = .ok (.ifCond .ne 7, 3) := by decide +kernel
theorem dX4_set_31 : decode cX4_set 31 = .ok (.iconst 3, 1) := by decide +kernel
theorem dX4_set_32 : decode cX4_set 32 = .ok (.goto 5, 3) := by decide +kernel
theorem dX4_set_35 : decode cX4_set 35 = .ok (.bipush 9, 2) := by decide +kernel
theorem dX4_set_37 : decode cX4_set 37 = .ok (.invokestatic 99, 3) := by decide +kernel
theorem dX4_set_40 : decode cX4_set 40 = .ok (.istore_n 3, 1) := by decide +kernel
theorem dX4_set_41 : decode cX4_set 41 = .ok (.iload_n 3, 1) := by decide +kernel
theorem dX4_set_42 : decode cX4_set 42 = .ok (.ifCond .eq 9, 3) := by decide +kernel
theorem dX4_set_45 : decode cX4_set 45 = .ok (.aload_n 0, 1) := by decide +kernel
theorem dX4_set_46 : decode cX4_set 46 = .ok (.iload_n 3, 1) := by decide +kernel
theorem dX4_set_47 : decode cX4_set 47 = .ok (.invokevirtual 106, 3) := by decide +kernel
theorem dX4_set_50 : decode cX4_set 50 = .ok (.ireturn, 1) := by decide +kernel
theorem dX4_set_51 : decode cX4_set 51 = .ok (.iload_n 1, 1) := by decide +kernel
theorem dX4_set_52 : decode cX4_set 52 = .ok (.ifCond .ne 10, 3) := by decide +kernel
theorem dX4_set_55 : decode cX4_set 55 = .ok (.aload_n 0, 1) := by decide +kernel
theorem dX4_set_56 : decode cX4_set 56 = .ok (.getfield 144, 3) := by decide +kernel
theorem dX4_set_59 : decode cX4_set 59 = .ok (.goto 31, 3) := by decide +kernel
theorem dX4_set_62 : decode cX4_set 62 = .ok (.iload_n 1, 1) := by decide +kernel
theorem dX4_set_63 : decode cX4_set 63 = .ok (.iconst 1, 1) := by decide +kernel
theorem dX4_set_64 : decode cX4_set 64 = .ok (.if_icmp .ne 10, 3) := by decide +kernel
theorem dX4_set_67 : decode cX4_set 67 = .ok (.aload_n 0, 1) := by decide +kernel
theorem dX4_set_68 : decode cX4_set 68 = .ok (.getfield 55, 3) := by decide +kernel
theorem dX4_set_71 : decode cX4_set 71 = .ok (.goto 19, 3) := by decide +kernel
theorem dX4_set_74 : decode cX4_set 74 = .ok (.iload_n 1, 1) := by decide +kernel
theorem dX4_set_75 : decode cX4_set 75 = .ok (.iconst 2, 1) := by decide +kernel
theorem dX4_set_76 : decode cX4_set 76 = .ok (.if_icmp .ne 10, 3) := by decide +kernel
theorem dX4_set_79 : decode cX4_set 79 = .ok (.aload_n 0, 1) := by decide +kernel
theorem dX4_set_80 : decode cX4_set 80 = .ok (.getfield 59, 3) := by decide +kernel
theorem dX4_set_83 : decode cX4_set 83 = .ok (.goto 7, 3) := by decide +kernel
theorem dX4_set_86 : decode cX4_set 86 = .ok (.aload_n 0, 1) := by decide +kernel
theorem dX4_set_87 : decode cX4_set 87 = .ok (.getfield 175, 3) := by decide +kernel
theorem dX4_set_90 : decode cX4_set 90 = .ok (.istore 4, 2) := by decide +kernel
theorem dX4_set_92 : decode cX4_set 92 = .ok (.iload_n 1, 1) := by decide +kernel
theorem dX4_set_93 : decode cX4_set 93 = .ok (.ifCond .ne 8, 3) := by decide +kernel
theorem dX4_set_96 : decode cX4_set 96 = .ok (.aload_n 0, 1) := by decide +kernel
theorem dX4_set_97 : decode cX4_set 97 = .ok (.iload_n 2, 1) := by decide +kernel
theorem dX4_set_98 : decode cX4_set 98 = .ok (.putfield 144, 3) := by decide +kernel
theorem dX4_set_101 : decode cX4_set 101 = .ok (.iload_n 1, 1) := by decide +kernel
theorem dX4_set_102 : decode cX4_set 102 = .ok (.iconst 1, 1) := by decide +kernel
theorem dX4_set_103 : decode cX4_set 103 = .ok (.if_icmp .ne 8, 3) := by decide +kernel
theorem dX4_set_106 : decode cX4_set 106 = .ok (.aload_n 0, 1) := by decide +kernel
theorem dX4_set_107 : decode cX4_set 107 = .ok (.iload_n 2, 1) := by decide +kernel
theorem dX4_set_108 : decode cX4_set 108 = .ok (.putfield 55, 3) := by decide +kernel
theorem dX4_set_111 : decode cX4_set 111 = .ok (.iload_n 1, 1) := by decide +kernel
theorem dX4_set_112 : decode cX4_set 112 = .ok (.iconst 2, 1) := by decide +kernel
theorem dX4_set_113 : decode cX4_set 113 = .ok (.if_icmp .ne 8, 3) := by decide +kernel
theorem dX4_set_116 : decode cX4_set 116 = .ok (.aload_n 0, 1) := by decide +kernel
theorem dX4_set_117 : decode cX4_set 117 = .ok (.iload_n 2, 1) := by decide +kernel
theorem dX4_set_118 : decode cX4_set 118 = .ok (.putfield 59, 3) := by decide +kernel
theorem dX4_set_121 : decode cX4_set 121 = .ok (.iload_n 1, 1) := by decide +kernel
theorem dX4_set_122 : decode cX4_set 122 = .ok (.iconst 3, 1) := by decide +kernel
theorem dX4_set_123 : decode cX4_set 123 = .ok (.if_icmp .ne 8, 3) := by decide +kernel
theorem dX4_set_126 : decode cX4_set 126 = .ok (.aload_n 0, 1) := by decide +kernel
theorem dX4_set_127 : decode cX4_set 127 = .ok (.iload_n 2, 1) := by decide +kernel
theorem dX4_set_128 : decode cX4_set 128 = .ok (.putfield 175, 3) := by decide +kernel
theorem dX4_set_131 : decode cX4_set 131 = .ok (.iload 4, 2) := by decide +kernel
theorem dX4_set_133 : decode cX4_set 133 = .ok (.ireturn, 1) := by decide +kernel
set_option maxRecDepth 20000 in
theorem ggX4_minutes_X4_isOne : GoodIn wsX4_minutes wsX4_isOne := goodIn_r _ [5, 6, 17, 18, 19, 20, 21, 22, 23, 24, 25, 26, 27, 28, 29, 30, 31, 32, 33, 34, 35, 36, 37, 38, 39, 40, 41, 42, 43, 44, 45, 46, 47, 48, 49, 50, 51, 52, 53, 54, 55, 56, 57, 58, 59, 60, 61] rfl (by decide +kernel)
set_option maxRecDepth 20000 in
theorem gX4_minutes_X4_isOne : GoodIn wsX4_minutes (wsV RX4 135 RX4 yX4_isOne wsX4_isOne) := goodIn_app (goodIn_r _ [1, 2, 3, 4] rfl (by decide +kernel)) ggX4_minutes_X4_isOne
set_option maxRecDepth 20000 in
theorem ggX4_minutes_X4_minutesOf : GoodIn wsX4_minutes wsX4_minutesOf := goodIn_r _ [10, 11, 17, 18, 19, 20, 21, 22, 23, 24, 25, 26, 27, 28, 29, 30, 31, 32, 33, 34, 35, 36, 37, 38, 39, 40, 41, 42, 43, 44, 45, 46, 47, 48, 49, 50, 51, 52, 53, 54, 55, 56, 57, 58, 59, 60, 61] rfl (by decide +kernel)
set_option maxRecDepth 20000 in
theorem gX4_minutes_X4_minutesOf : GoodIn wsX4_minutes (wsV RX4 187 RX4 yX4_minutesOf wsX4_minutesOf) := goodIn_app (goodIn_r _ [7, 8, 9, 4] rfl (by decide +kernel)) ggX4_minutes_X4_minutesOf
set_option maxRecDepth 20000 in
theorem ggX4_minutes_X4_no : GoodIn wsX4_minutes wsX4_no := goodIn_r _ [15, 16, 17, 18, 19, 20, 21, 22, 23, 24, 25, 26, 27, 28, 29, 30, 31, 32, 33, 34, 35, 36, 37, 38, 39, 40, 41, 42, 43, 44, 45, 46, 47, 48, 49, 50, 51, 52, 53, 54, 55, 56, 57, 58, 59, 60, 61] rfl (by decide +kernel)
set_option maxRecDepth 20000 in
theorem gX4_minutes_X4_no : GoodIn wsX4_minutes (wsV RX4 106 RX4 yX4_no wsX4_no) := goodIn_app (goodIn_r _ [12, 13, 14, 4] rfl (by decide +kernel)) ggX4_minutes_X4_no
theorem dX4_minutes_0 : decode cX4_minutes 0 = .ok (.aload_n 0, 1) := by decide +kernel
theorem dX4_minutes_1 : decode cX4_minutes 1 = .ok (.iload_n 1, 1) := by decide +kernel
theorem dX4_minutes_2 : decode cX4_minutes 2 = .ok (.invokevirtual 135, 3) := by decide +kernel
theorem dX4_minutes_5 : decode cX4_minutes 5 = .ok (.ifCond .eq 20, 3) := by decide +kernel
theorem dX4_minutes_8 : decode cX4_minutes 8 = .ok (.aload_n 0, 1) := by decide +kernel
theorem dX4_minutes_9 : decode cX4_minutes 9 = .ok (.iload_n 2, 1) := by decide +kernel
theorem dX4_minutes_10 : decode cX4_minutes 10 = .ok (.invokevirtual 135, 3) := by decide +kernel
theorem dX4_minutes_13 : decode cX4_minutes 13 = .ok (.ifCond .eq 12, 3) := by decide +kernel
theorem dX4_minutes_16 : decode cX4_minutes 16 = .ok (.aload_n 0, 1) := by decide +kernel
theorem dX4_minutes_17 : decode cX4_minutes 17 = .ok (.iload_n 1, 1) := by decide +kernel
theorem dX4_minutes_18 : decode cX4_minutes 18 = .ok (.iload_n 2, 1) := by decide +kernel
theorem dX4_minutes_19 : decode cX4_minutes 19 = .ok (.invokevirtual 187, 3) := by decide +kernel
theorem dX4_minutes_22 : decode cX4_minutes 22 = .ok (.goto 8, 3) := by decide +kernel
theorem dX4_minutes_25 : decode cX4_minutes 25 = .ok (.aload_n 0, 1) := by decide +kernel
theorem dX4_minutes_26 : decode cX4_minutes 26 = .ok (.iconst (-1), 1) := by decide +kernel
theorem dX4_minutes_27 : decode cX4_minutes 27 = .ok (.invokevirtual 106, 3) := by decide +kernel
theorem dX4_minutes_30 : decode cX4_minutes 30 = .ok (.ireturn, 1) := by decide +kernel
set_option maxRecDepth 20000 in
theorem ggX4_spent_X4_isOne : GoodIn wsX4_spent wsX4_isOne := goodIn_r _ [5, 6, 30, 31, 32, 33, 34, 35, 36, 37, 38, 39, 40, 41, 42, 43, 44, 45, 46, 47, 48, 49, 50, 51, 52, 53, 54, 55, 56, 57, 58, 59, 60, 61, 62, 63, 64, 65, 66, 67, 68, 69, 70, 71, 72, 73, 74] rfl (by decide +kernel)
set_option maxRecDepth 20000 in
theorem gX4_spent_X4_isOne : GoodIn wsX4_spent (wsV RX4 135 RX4 yX4_isOne wsX4_isOne) := goodIn_app (goodIn_r _ [1, 2, 3, 4] rfl (by decide +kernel)) ggX4_spent_X4_isOne
set_option maxRecDepth 20000 in
theorem ggX4_spent_X4_no : GoodIn wsX4_spent wsX4_no := goodIn_r _ [10, 11, 30, 31, 32, 33, 34, 35, 36, 37, 38, 39, 40, 41, 42, 43, 44, 45, 46, 47, 48, 49, 50, 51, 52, 53, 54, 55, 56, 57, 58, 59, 60, 61, 62, 63, 64, 65, 66, 67, 68, 69, 70, 71, 72, 73, 74] rfl (by decide +kernel)
set_option maxRecDepth 20000 in
theorem gX4_spent_X4_no : GoodIn wsX4_spent (wsV RX4 106 RX4 yX4_no wsX4_no) := goodIn_app (goodIn_r _ [7, 8, 9, 4] rfl (by decide +kernel)) ggX4_spent_X4_no
set_option maxRecDepth 20000 in
theorem ggX4_spent_X4_isSpent : GoodIn wsX4_spent wsX4_isSpent := goodIn_r _ [15, 16, 17, 18, 19, 20, 21, 22, 23, 4, 24, 25, 26, 27, 28, 29, 30, 31, 32, 33, 34, 35, 36, 37, 38, 39, 40, 41, 42, 43, 44, 45, 46, 47, 48, 49, 50, 51, 52, 53, 54, 55, 56, 57, 58, 59, 60, 61, 62, 63, 64, 65, 66, 67, 68, 69, 70, 71, 72, 73, 74] rfl (by decide +kernel)
set_option maxRecDepth 20000 in
theorem gX4_spent_X4_isSpent : GoodIn wsX4_spent (wsV RX4 191 RX4 yX4_isSpent wsX4_isSpent) := goodIn_app (goodIn_r _ [12, 13, 14, 4] rfl (by decide +kernel)) ggX4_spent_X4_isSpent
theorem dX4_spent_0 : decode cX4_spent 0 = .ok (.aload_n 0, 1) := by decide +kernel
theorem dX4_spent_1 : decode cX4_spent 1 = .ok (.iload_n 1, 1) := by decide +kernel
theorem dX4_spent_2 : decode cX4_spent 2 = .ok (.invokevirtual 135, 3) := by decide +kernel
theorem dX4_spent_5 : decode cX4_spent 5 = .ok (.ifCond .eq 16, 3) := by decide +kernel
theorem dX4_spent_8 : decode cX4_spent 8 = .ok (.aload_n 0, 1) := by decide +kernel
theorem dX4_spent_9 : decode cX4_spent 9 = .ok (.iload_n 2, 1) := by decide +kernel
theorem dX4_spent_10 : decode cX4_spent 10 = .ok (.invokevirtual 135, 3) := by decide +kernel
theorem dX4_spent_13 : decode cX4_spent 13 = .ok (.ifCond .eq 8, 3) := by decide +kernel
theorem dX4_spent_16 : decode cX4_spent 16 = .ok (.iload_n 1, 1) := by decide +kernel
theorem dX4_spent_17 : decode cX4_spent 17 = .ok (.iload_n 2, 1) := by decide +kernel
theorem dX4_spent_18 : decode cX4_spent 18 = .ok (.if_icmp .ne 11, 3) := by decide +kernel
theorem dX4_spent_21 : decode cX4_spent 21 = .ok (.aload_n 0, 1) := by decide +kernel
theorem dX4_spent_22 : decode cX4_spent 22 = .ok (.iconst (-1), 1) := by decide +kernel
theorem dX4_spent_23 : decode cX4_spent 23 = .ok (.invokevirtual 106, 3) := by decide +kernel
theorem dX4_spent_26 : decode cX4_spent 26 = .ok (.goto 17, 3) := by decide +kernel
theorem dX4_spent_29 : decode cX4_spent 29 = .ok (.aload_n 0, 1) := by decide +kernel
theorem dX4_spent_30 : decode cX4_spent 30 = .ok (.iload_n 1, 1) := by decide +kernel
theorem dX4_spent_31 : decode cX4_spent 31 = .ok (.iload_n 2, 1) := by decide +kernel
theorem dX4_spent_32 : decode cX4_spent 32 = .ok (.invokevirtual 191, 3) := by decide +kernel
theorem dX4_spent_35 : decode cX4_spent 35 = .ok (.ifCond .eq 7, 3) := by decide +kernel
theorem dX4_spent_38 : decode cX4_spent 38 = .ok (.iconst 1, 1) := by decide +kernel
theorem dX4_spent_39 : decode cX4_spent 39 = .ok (.goto 4, 3) := by decide +kernel
theorem dX4_spent_42 : decode cX4_spent 42 = .ok (.iconst 0, 1) := by decide +kernel
theorem dX4_spent_43 : decode cX4_spent 43 = .ok (.ireturn, 1) := by decide +kernel
set_option maxRecDepth 20000 in
theorem ggX4_may_X4_isOne : GoodIn wsX4_may wsX4_isOne := goodIn_r _ [5, 6, 39, 40, 41, 42, 43, 44, 45, 46, 47, 48, 49, 50, 51, 52, 53, 54, 55, 56, 57, 58, 59, 60, 61, 62, 63, 64, 65, 66, 67, 68, 69, 70, 71, 72, 73, 74, 75, 76, 77, 78, 79, 80, 81, 82, 83] rfl (by decide +kernel)
set_option maxRecDepth 20000 in
theorem gX4_may_X4_isOne : GoodIn wsX4_may (wsV RX4 135 RX4 yX4_isOne wsX4_isOne) := goodIn_app (goodIn_r _ [1, 2, 3, 4] rfl (by decide +kernel)) ggX4_may_X4_isOne
set_option maxRecDepth 20000 in
theorem ggX4_may_X4_no : GoodIn wsX4_may wsX4_no := goodIn_r _ [10, 11, 39, 40, 41, 42, 43, 44, 45, 46, 47, 48, 49, 50, 51, 52, 53, 54, 55, 56, 57, 58, 59, 60, 61, 62, 63, 64, 65, 66, 67, 68, 69, 70, 71, 72, 73, 74, 75, 76, 77, 78, 79, 80, 81, 82, 83] rfl (by decide +kernel)
set_option maxRecDepth 20000 in
theorem gX4_may_X4_no : GoodIn wsX4_may (wsV RX4 106 RX4 yX4_no wsX4_no) := goodIn_app (goodIn_r _ [7, 8, 9, 4] rfl (by decide +kernel)) ggX4_may_X4_no
set_option maxRecDepth 20000 in
theorem ggX4_may_X4_mayHelp : GoodIn wsX4_may wsX4_mayHelp := goodIn_r _ [15, 16, 17, 18, 19, 4, 20, 21, 22, 23, 24, 25, 26, 27, 28, 29, 30, 31, 32, 33, 34, 35, 36, 37, 38, 39, 40, 41, 42, 43, 44, 45, 46, 47, 48, 49, 50, 51, 52, 53, 54, 55, 56, 57, 58, 59, 60, 61, 62, 63, 64, 65, 66, 67, 68, 69, 70, 71, 72, 73, 74, 75, 76, 77, 78, 79, 80, 81, 82, 83] rfl (by decide +kernel)
set_option maxRecDepth 20000 in
theorem gX4_may_X4_mayHelp : GoodIn wsX4_may (wsV RX4 200 RX4 yX4_mayHelp wsX4_mayHelp) := goodIn_app (goodIn_r _ [12, 13, 14, 4] rfl (by decide +kernel)) ggX4_may_X4_mayHelp
theorem dX4_may_0 : decode cX4_may 0 = .ok (.aload_n 0, 1) := by decide +kernel
theorem dX4_may_1 : decode cX4_may 1 = .ok (.iload_n 1, 1) := by decide +kernel
theorem dX4_may_2 : decode cX4_may 2 = .ok (.invokevirtual 135, 3) := by decide +kernel
theorem dX4_may_5 : decode cX4_may 5 = .ok (.ifCond .eq 11, 3) := by decide +kernel
theorem dX4_may_8 : decode cX4_may 8 = .ok (.aload_n 0, 1) := by decide +kernel
theorem dX4_may_9 : decode cX4_may 9 = .ok (.iload_n 2, 1) := by decide +kernel
theorem dX4_may_10 : decode cX4_may 10 = .ok (.invokevirtual 135, 3) := by decide +kernel
theorem dX4_may_13 : decode cX4_may 13 = .ok (.ifCond .ne 11, 3) := by decide +kernel
theorem dX4_may_16 : decode cX4_may 16 = .ok (.aload_n 0, 1) := by decide +kernel
theorem dX4_may_17 : decode cX4_may 17 = .ok (.iconst (-1), 1) := by decide +kernel
theorem dX4_may_18 : decode cX4_may 18 = .ok (.invokevirtual 106, 3) := by decide +kernel
theorem dX4_may_21 : decode cX4_may 21 = .ok (.goto 17, 3) := by decide +kernel
theorem dX4_may_24 : decode cX4_may 24 = .ok (.aload_n 0, 1) := by decide +kernel
theorem dX4_may_25 : decode cX4_may 25 = .ok (.iload_n 1, 1) := by decide +kernel
theorem dX4_may_26 : decode cX4_may 26 = .ok (.iload_n 2, 1) := by decide +kernel
theorem dX4_may_27 : decode cX4_may 27 = .ok (.invokevirtual 200, 3) := by decide +kernel
theorem dX4_may_30 : decode cX4_may 30 = .ok (.ifCond .eq 7, 3) := by decide +kernel
theorem dX4_may_33 : decode cX4_may 33 = .ok (.iconst 1, 1) := by decide +kernel
theorem dX4_may_34 : decode cX4_may 34 = .ok (.goto 4, 3) := by decide +kernel
theorem dX4_may_37 : decode cX4_may 37 = .ok (.iconst 0, 1) := by decide +kernel
theorem dX4_may_38 : decode cX4_may 38 = .ok (.ireturn, 1) := by decide +kernel
set_option maxRecDepth 20000 in
theorem ggX4_good_X4_isOne : GoodIn wsX4_good wsX4_isOne := goodIn_r _ [5, 6, 34, 35, 36, 37, 38, 39, 40, 41, 42, 43, 44, 45, 46, 47, 48, 49, 50, 51, 52, 53, 54, 55, 56, 57, 58, 59, 60, 61, 62, 63, 64, 65, 66, 67, 68, 69, 70, 71, 72, 73, 74, 75, 76, 77, 78] rfl (by decide +kernel)
set_option maxRecDepth 20000 in
theorem gX4_good_X4_isOne : GoodIn wsX4_good (wsV RX4 135 RX4 yX4_isOne wsX4_isOne) := goodIn_app (goodIn_r _ [1, 2, 3, 4] rfl (by decide +kernel)) ggX4_good_X4_isOne
set_option maxRecDepth 20000 in
theorem ggX4_good_X4_isNeed : GoodIn wsX4_good wsX4_isNeed := goodIn_r _ [10, 11, 34, 35, 36, 37, 38, 39, 40, 41, 42, 43, 44, 45, 46, 47, 48, 49, 50, 51, 52, 53, 54, 55, 56, 57, 58, 59, 60, 61, 62, 63, 64, 65, 66, 67, 68, 69, 70, 71, 72, 73, 74, 75, 76, 77, 78] rfl (by decide +kernel)
set_option maxRecDepth 20000 in
theorem gX4_good_X4_isNeed : GoodIn wsX4_good (wsV RX4 206 RX4 yX4_isNeed wsX4_isNeed) := goodIn_app (goodIn_r _ [7, 8, 9, 4] rfl (by decide +kernel)) ggX4_good_X4_isNeed
set_option maxRecDepth 20000 in
theorem ggX4_good_X4_goodOf : GoodIn wsX4_good wsX4_goodOf := goodIn_r _ [15, 16, 17, 18, 19, 20, 21, 22, 23, 4, 24, 25, 26, 27, 28, 34, 35, 36, 37, 38, 39, 40, 41, 42, 43, 44, 45, 46, 47, 48, 49, 50, 51, 52, 53, 54, 55, 56, 57, 58, 59, 60, 61, 62, 63, 64, 65, 66, 67, 68, 69, 70, 71, 72, 73, 74, 75, 76, 77, 78] rfl (by decide +kernel)
set_option maxRecDepth 20000 in
theorem gX4_good_X4_goodOf : GoodIn wsX4_good (wsV RX4 209 RX4 yX4_goodOf wsX4_goodOf) := goodIn_app (goodIn_r _ [12, 13, 14, 4] rfl (by decide +kernel)) ggX4_good_X4_goodOf
set_option maxRecDepth 20000 in
theorem ggX4_good_X4_no : GoodIn wsX4_good wsX4_no := goodIn_r _ [32, 33, 34, 35, 36, 37, 38, 39, 40, 41, 42, 43, 44, 45, 46, 47, 48, 49, 50, 51, 52, 53, 54, 55, 56, 57, 58, 59, 60, 61, 62, 63, 64, 65, 66, 67, 68, 69, 70, 71, 72, 73, 74, 75, 76, 77, 78] rfl (by decide +kernel)
set_option maxRecDepth 20000 in
theorem gX4_good_X4_no : GoodIn wsX4_good (wsV RX4 106 RX4 yX4_no wsX4_no) := goodIn_app (goodIn_r _ [29, 30, 31, 4] rfl (by decide +kernel)) ggX4_good_X4_no
theorem dX4_good_0 : decode cX4_good 0 = .ok (.aload_n 0, 1) := by decide +kernel
theorem dX4_good_1 : decode cX4_good 1 = .ok (.iload_n 1, 1) := by decide +kernel
theorem dX4_good_2 : decode cX4_good 2 = .ok (.invokevirtual 135, 3) := by decide +kernel
theorem dX4_good_5 : decode cX4_good 5 = .ok (.ifCond .eq 20, 3) := by decide +kernel
theorem dX4_good_8 : decode cX4_good 8 = .ok (.aload_n 0, 1) := by decide +kernel
theorem dX4_good_9 : decode cX4_good 9 = .ok (.iload_n 2, 1) := by decide +kernel
theorem dX4_good_10 : decode cX4_good 10 = .ok (.invokevirtual 206, 3) := by decide +kernel
theorem dX4_good_13 : decode cX4_good 13 = .ok (.ifCond .eq 12, 3) := by decide +kernel
theorem dX4_good_16 : decode cX4_good 16 = .ok (.aload_n 0, 1) := by decide +kernel
theorem dX4_good_17 : decode cX4_good 17 = .ok (.iload_n 1, 1) := by decide +kernel
theorem dX4_good_18 : decode cX4_good 18 = .ok (.iload_n 2, 1) := by decide +kernel
theorem dX4_good_19 : decode cX4_good 19 = .ok (.invokevirtual 209, 3) := by decide +kernel
theorem dX4_good_22 : decode cX4_good 22 = .ok (.goto 8, 3) := by decide +kernel
theorem dX4_good_25 : decode cX4_good 25 = .ok (.aload_n 0, 1) := by decide +kernel
theorem dX4_good_26 : decode cX4_good 26 = .ok (.iconst (-1), 1) := by decide +kernel
theorem dX4_good_27 : decode cX4_good 27 = .ok (.invokevirtual 106, 3) := by decide +kernel
theorem dX4_good_30 : decode cX4_good 30 = .ok (.ireturn, 1) := by decide +kernel
set_option maxRecDepth 20000 in
theorem ggX4_help_X4_isOne : GoodIn wsX4_help wsX4_isOne := goodIn_r _ [8, 9, 75, 76, 77, 78, 79, 80, 81, 82, 83, 84, 85, 86, 87, 88, 89, 90, 91, 92, 93, 94, 95, 96, 97, 98, 99, 100, 101, 102, 103, 104, 105, 106, 107, 108, 109, 110, 111, 112, 113, 114, 115, 116, 117, 118, 119] rfl (by decide +kernel)
set_option maxRecDepth 20000 in
theorem gX4_help_X4_isOne : GoodIn wsX4_help (wsV RX4 135 RX4 yX4_isOne wsX4_isOne) := goodIn_app (goodIn_r _ [4, 5, 6, 7] rfl (by decide +kernel)) ggX4_help_X4_isOne
set_option maxRecDepth 20000 in
theorem ggX4_help_X4_isNeed : GoodIn wsX4_help wsX4_isNeed := goodIn_r _ [13, 14, 75, 76, 77, 78, 79, 80, 81, 82, 83, 84, 85, 86, 87, 88, 89, 90, 91, 92, 93, 94, 95, 96, 97, 98, 99, 100, 101, 102, 103, 104, 105, 106, 107, 108, 109, 110, 111, 112, 113, 114, 115, 116, 117, 118, 119] rfl (by decide +kernel)
set_option maxRecDepth 20000 in
theorem gX4_help_X4_isNeed : GoodIn wsX4_help (wsV RX4 206 RX4 yX4_isNeed wsX4_isNeed) := goodIn_app (goodIn_r _ [10, 11, 12, 7] rfl (by decide +kernel)) ggX4_help_X4_isNeed
set_option maxRecDepth 20000 in
theorem ggX4_help_X4_no : GoodIn wsX4_help wsX4_no := goodIn_r _ [18, 19, 75, 76, 77, 78, 79, 80, 81, 82, 83, 84, 85, 86, 87, 88, 89, 90, 91, 92, 93, 94, 95, 96, 97, 98, 99, 100, 101, 102, 103, 104, 105, 106, 107, 108, 109, 110, 111, 112, 113, 114, 115, 116, 117, 118, 119] rfl (by decide +kernel)
set_option maxRecDepth 20000 in
theorem gX4_help_X4_no : GoodIn wsX4_help (wsV RX4 106 RX4 yX4_no wsX4_no) := goodIn_app (goodIn_r _ [15, 16, 17, 7] rfl (by decide +kernel)) ggX4_help_X4_no
set_option maxRecDepth 20000 in
theorem ggX4_help_X4_mayWith : GoodIn wsX4_help wsX4_mayWith := goodIn_r _ [23, 2, 24, 25, 26, 7, 27, 28, 29, 30, 31, 32, 33, 34, 35, 36, 37, 38, 39, 40, 41, 42, 43, 44, 45, 1, 46, 47, 48, 49, 50, 51, 52, 53, 54, 55, 56, 57, 58, 59, 60, 61, 75, 76, 77, 78, 79, 80, 81, 82, 83, 84, 85, 86, 87, 88, 89, 90, 91, 92, 93, 94, 95, 96, 97, 98, 99, 100, 101, 102, 103, 104, 105, 106, 107, 108, 109, 110, 111, 112, 113, 114, 115, 116, 117, 118, 119] rfl (by decide +kernel)
set_option maxRecDepth 20000 in
theorem gX4_help_X4_mayWith : GoodIn wsX4_help (wsV RX4 212 RX4 yX4_mayWith wsX4_mayWith) := goodIn_app (goodIn_r _ [20, 21, 22, 7] rfl (by decide +kernel)) ggX4_help_X4_mayWith
set_option maxRecDepth 20000 in
theorem ggX4_help_X4_writes : GoodIn wsX4_help wsX4_writes := goodIn_r _ [65, 46, 1, 47, 53, 29, 55, 61, 30, 75, 76, 77, 78, 79, 80, 81, 82, 83, 84, 85, 86, 87, 88, 89, 90, 91, 92, 93, 94, 95, 96, 97, 98, 99, 100, 101, 102, 103, 104, 105, 106, 107, 108, 109, 110, 111, 112, 113, 114, 115, 116, 117, 118, 119] rfl (by decide +kernel)
set_option maxRecDepth 20000 in
theorem gX4_help_X4_writes : GoodIn wsX4_help (wsV RX4 215 RX4 yX4_writes wsX4_writes) := goodIn_app (goodIn_r _ [62, 63, 64, 7] rfl (by decide +kernel)) ggX4_help_X4_writes
set_option maxRecDepth 20000 in
theorem ggX4_help_X4_goodOf : GoodIn wsX4_help wsX4_goodOf := goodIn_r _ [69, 70, 71, 3, 2, 36, 37, 38, 39, 7, 40, 41, 72, 73, 74, 75, 76, 77, 78, 79, 80, 81, 82, 83, 84, 85, 86, 87, 88, 89, 90, 91, 92, 93, 94, 95, 96, 97, 98, 99, 100, 101, 102, 103, 104, 105, 106, 107, 108, 109, 110, 111, 112, 113, 114, 115, 116, 117, 118, 119] rfl (by decide +kernel)
set_option maxRecDepth 20000 in
theorem gX4_help_X4_goodOf : GoodIn wsX4_help (wsV RX4 209 RX4 yX4_goodOf wsX4_goodOf) := goodIn_app (goodIn_r _ [66, 67, 68, 7] rfl (by decide +kernel)) ggX4_help_X4_goodOf
theorem dX4_help_0 : decode cX4_help 0 = .ok (.aload_n 0, 1) := by decide +kernel
theorem dX4_help_1 : decode cX4_help 1 = .ok (.iload_n 1, 1) := by decide +kernel
theorem dX4_help_2 : decode cX4_help 2 = .ok (.invokevirtual 135, 3) := by decide +kernel
theorem dX4_help_5 : decode cX4_help 5 = .ok (.ifCond .eq 11, 3) := by decide +kernel
theorem dX4_help_8 : decode cX4_help 8 = .ok (.aload_n 0, 1) := by decide +kernel
theorem dX4_help_9 : decode cX4_help 9 = .ok (.iload_n 2, 1) := by decide +kernel
theorem dX4_help_10 : decode cX4_help 10 = .ok (.invokevirtual 206, 3) := by decide +kernel
theorem dX4_help_13 : decode cX4_help 13 = .ok (.ifCond .ne 9, 3) := by decide +kernel
theorem dX4_help_16 : decode cX4_help 16 = .ok (.aload_n 0, 1) := by decide +kernel
theorem dX4_help_17 : decode cX4_help 17 = .ok (.iconst (-1), 1) := by decide +kernel
theorem dX4_help_18 : decode cX4_help 18 = .ok (.invokevirtual 106, 3) := by decide +kernel
theorem dX4_help_21 : decode cX4_help 21 = .ok (.ireturn, 1) := by decide +kernel
theorem dX4_help_22 : decode cX4_help 22 = .ok (.aload_n 0, 1) := by decide +kernel
theorem dX4_help_23 : decode cX4_help 23 = .ok (.iload_n 1, 1) := by decide +kernel
theorem dX4_help_24 : decode cX4_help 24 = .ok (.iload_n 2, 1) := by decide +kernel
theorem dX4_help_25 : decode cX4_help 25 = .ok (.invokevirtual 212, 3) := by decide +kernel
theorem dX4_help_28 : decode cX4_help 28 = .ok (.ifCond .ne 10, 3) := by decide +kernel
theorem dX4_help_31 : decode cX4_help 31 = .ok (.aload_n 0, 1) := by decide +kernel
theorem dX4_help_32 : decode cX4_help 32 = .ok (.bipush (-3), 2) := by decide +kernel
theorem dX4_help_34 : decode cX4_help 34 = .ok (.invokevirtual 106, 3) := by decide +kernel
theorem dX4_help_37 : decode cX4_help 37 = .ok (.ireturn, 1) := by decide +kernel
theorem dX4_help_38 : decode cX4_help 38 = .ok (.aload_n 0, 1) := by decide +kernel
theorem dX4_help_39 : decode cX4_help 39 = .ok (.getfield 172, 3) := by decide +kernel
theorem dX4_help_42 : decode cX4_help 42 = .ok (.bipush 60, 2) := by decide +kernel
theorem dX4_help_44 : decode cX4_help 44 = .ok (.if_icmp .lt 10, 3) := by decide +kernel
theorem dX4_help_47 : decode cX4_help 47 = .ok (.aload_n 0, 1) := by decide +kernel
theorem dX4_help_48 : decode cX4_help 48 = .ok (.bipush (-6), 2) := by decide +kernel
theorem dX4_help_50 : decode cX4_help 50 = .ok (.invokevirtual 106, 3) := by decide +kernel
theorem dX4_help_53 : decode cX4_help 53 = .ok (.ireturn, 1) := by decide +kernel
theorem dX4_help_54 : decode cX4_help 54 = .ok (.aload_n 0, 1) := by decide +kernel
theorem dX4_help_55 : decode cX4_help 55 = .ok (.iload_n 1, 1) := by decide +kernel
theorem dX4_help_56 : decode cX4_help 56 = .ok (.aload_n 0, 1) := by decide +kernel
theorem dX4_help_57 : decode cX4_help 57 = .ok (.getfield 22, 3) := by decide +kernel
theorem dX4_help_60 : decode cX4_help 60 = .ok (.iload_n 2, 1) := by decide +kernel
theorem dX4_help_61 : decode cX4_help 61 = .ok (.iaload, 1) := by decide +kernel
theorem dX4_help_62 : decode cX4_help 62 = .ok (.aload_n 0, 1) := by decide +kernel
theorem dX4_help_63 : decode cX4_help 63 = .ok (.getfield 28, 3) := by decide +kernel
theorem dX4_help_66 : decode cX4_help 66 = .ok (.iload_n 2, 1) := by decide +kernel
theorem dX4_help_67 : decode cX4_help 67 = .ok (.iaload, 1) := by decide +kernel
theorem dX4_help_68 : decode cX4_help 68 = .ok (.iload_n 2, 1) := by decide +kernel
theorem dX4_help_69 : decode cX4_help 69 = .ok (.invokevirtual 215, 3) := by decide +kernel
theorem dX4_help_72 : decode cX4_help 72 = .ok (.aload_n 0, 1) := by decide +kernel
theorem dX4_help_73 : decode cX4_help 73 = .ok (.iload_n 1, 1) := by decide +kernel
theorem dX4_help_74 : decode cX4_help 74 = .ok (.iload_n 2, 1) := by decide +kernel
theorem dX4_help_75 : decode cX4_help 75 = .ok (.invokevirtual 209, 3) := by decide +kernel
theorem dX4_help_78 : decode cX4_help 78 = .ok (.ireturn, 1) := by decide +kernel
set_option maxRecDepth 20000 in
theorem ggX4_back_X4_no : GoodIn wsX4_back wsX4_no := goodIn_r _ [6, 7, 14, 15, 16, 17, 18, 19, 20, 21, 22, 23, 24, 25, 26, 27, 28, 29, 30, 31, 32, 33, 34, 35, 36, 37, 38, 39, 40, 41, 42, 43, 44, 45, 46, 47, 48, 49, 50, 51, 52, 53, 54, 55, 56, 57, 58] rfl (by decide +kernel)
set_option maxRecDepth 20000 in
theorem gX4_back_X4_no : GoodIn wsX4_back (wsV RX4 106 RX4 yX4_no wsX4_no) := goodIn_app (goodIn_r _ [2, 3, 4, 5] rfl (by decide +kernel)) ggX4_back_X4_no
set_option maxRecDepth 20000 in
theorem ggX4_back_X4_takesBack : GoodIn wsX4_back wsX4_takesBack := goodIn_r _ [11, 1, 12, 13, 14, 15, 16, 17, 18, 19, 20, 21, 22, 23, 24, 25, 26, 27, 28, 29, 30, 31, 32, 33, 34, 35, 36, 37, 38, 39, 40, 41, 42, 43, 44, 45, 46, 47, 48, 49, 50, 51, 52, 53, 54, 55, 56, 57, 58] rfl (by decide +kernel)
set_option maxRecDepth 20000 in
theorem gX4_back_X4_takesBack : GoodIn wsX4_back (wsV RX4 219 RX4 yX4_takesBack wsX4_takesBack) := goodIn_app (goodIn_r _ [8, 9, 10, 5] rfl (by decide +kernel)) ggX4_back_X4_takesBack
theorem dX4_back_0 : decode cX4_back 0 = .ok (.aload_n 0, 1) := by decide +kernel
theorem dX4_back_1 : decode cX4_back 1 = .ok (.getfield 172, 3) := by decide +kernel
theorem dX4_back_4 : decode cX4_back 4 = .ok (.ifCond .ne 10, 3) := by decide +kernel
theorem dX4_back_7 : decode cX4_back 7 = .ok (.aload_n 0, 1) := by decide +kernel
theorem dX4_back_8 : decode cX4_back 8 = .ok (.bipush (-3), 2) := by decide +kernel
theorem dX4_back_10 : decode cX4_back 10 = .ok (.invokevirtual 106, 3) := by decide +kernel
theorem dX4_back_13 : decode cX4_back 13 = .ok (.ireturn, 1) := by decide +kernel
theorem dX4_back_14 : decode cX4_back 14 = .ok (.aload_n 0, 1) := by decide +kernel
theorem dX4_back_15 : decode cX4_back 15 = .ok (.invokevirtual 219, 3) := by decide +kernel
theorem dX4_back_18 : decode cX4_back 18 = .ok (.aload_n 0, 1) := by decide +kernel
theorem dX4_back_19 : decode cX4_back 19 = .ok (.getfield 172, 3) := by decide +kernel
theorem dX4_back_22 : decode cX4_back 22 = .ok (.ireturn, 1) := by decide +kernel
set_option maxRecDepth 20000 in
theorem ggX4_year_X4_no : GoodIn wsX4_year wsX4_no := goodIn_r _ [6, 7, 8, 9, 10, 11, 12, 13, 14, 15, 16, 17, 18, 19, 20, 21, 22, 23, 24, 25, 26, 27, 28, 29, 30, 31, 32, 33, 34, 35, 36, 37, 38, 39, 40, 41, 42, 43, 44, 45, 46, 47, 48, 49, 50, 51, 52] rfl (by decide +kernel)
set_option maxRecDepth 20000 in
theorem gX4_year_X4_no : GoodIn wsX4_year (wsV RX4 106 RX4 yX4_no wsX4_no) := goodIn_app (goodIn_r _ [2, 3, 4, 5] rfl (by decide +kernel)) ggX4_year_X4_no
theorem dX4_year_0 : decode cX4_year 0 = .ok (.aload_n 0, 1) := by decide +kernel
theorem dX4_year_1 : decode cX4_year 1 = .ok (.getfield 178, 3) := by decide +kernel
theorem dX4_year_4 : decode cX4_year 4 = .ok (.bipush 99, 2) := by decide +kernel
theorem dX4_year_6 : decode cX4_year 6 = .ok (.if_icmp .ne 10, 3) := by decide +kernel
theorem dX4_year_9 : decode cX4_year 9 = .ok (.aload_n 0, 1) := by decide +kernel
theorem dX4_year_10 : decode cX4_year 10 = .ok (.bipush (-6), 2) := by decide +kernel
theorem dX4_year_12 : decode cX4_year 12 = .ok (.invokevirtual 106, 3) := by decide +kernel
theorem dX4_year_15 : decode cX4_year 15 = .ok (.ireturn, 1) := by decide +kernel
theorem dX4_year_16 : decode cX4_year 16 = .ok (.aload_n 0, 1) := by decide +kernel
theorem dX4_year_17 : decode cX4_year 17 = .ok (.dup, 1) := by decide +kernel
theorem dX4_year_18 : decode cX4_year 18 = .ok (.getfield 178, 3) := by decide +kernel
theorem dX4_year_21 : decode cX4_year 21 = .ok (.iconst 1, 1) := by decide +kernel
theorem dX4_year_22 : decode cX4_year 22 = .ok (.iadd, 1) := by decide +kernel
theorem dX4_year_23 : decode cX4_year 23 = .ok (.putfield 178, 3) := by decide +kernel
theorem dX4_year_26 : decode cX4_year 26 = .ok (.aload_n 0, 1) := by decide +kernel
theorem dX4_year_27 : decode cX4_year 27 = .ok (.getfield 178, 3) := by decide +kernel
theorem dX4_year_30 : decode cX4_year 30 = .ok (.ireturn, 1) := by decide +kernel
set_option maxRecDepth 20000 in
theorem ggX4_lossOf_X4_goodOf : GoodIn wsX4_lossOf wsX4_goodOf := goodIn_r _ [7, 8, 9, 10, 2, 11, 12, 13, 14, 6, 15, 16, 17, 18, 19, 20, 21, 22, 23, 24, 25, 26, 27, 28, 29, 30, 31, 32, 33, 34, 35, 36, 37, 38, 39, 40, 41, 42, 43, 44, 45, 46, 47, 48, 49, 50, 51, 52, 53, 54, 55, 56, 57, 58, 59, 60, 61, 62, 63, 64] rfl (by decide +kernel)
set_option maxRecDepth 20000 in
theorem gX4_lossOf_X4_goodOf : GoodIn wsX4_lossOf (wsV RX4 209 RX4 yX4_goodOf wsX4_goodOf) := goodIn_app (goodIn_r _ [3, 4, 5, 6] rfl (by decide +kernel)) ggX4_lossOf_X4_goodOf
