theorem dX4_lossOf_0 : decode cX4_lossOf 0 = .ok (.iconst 0, 1) := by decide +kernel
theorem dX4_lossOf_1 : decode cX4_lossOf 1 = .ok (.istore_n 3, 1) := by decide +kernel
theorem dX4_lossOf_2 : decode cX4_lossOf 2 = .ok (.iload_n 2, 1) := by decide +kernel
theorem dX4_lossOf_3 : decode cX4_lossOf 3 = .ok (.iconst 1, 1) := by decide +kernel
theorem dX4_lossOf_4 : decode cX4_lossOf 4 = .ok (.iadd, 1) := by decide +kernel
theorem dX4_lossOf_5 : decode cX4_lossOf 5 = .ok (.istore 4, 2) := by decide +kernel
theorem dX4_lossOf_7 : decode cX4_lossOf 7 = .ok (.iload 4, 2) := by decide +kernel
theorem dX4_lossOf_9 : decode cX4_lossOf 9 = .ok (.aload_n 0, 1) := by decide +kernel
theorem dX4_lossOf_10 : decode cX4_lossOf 10 = .ok (.getfield 96, 3) := by decide +kernel
theorem dX4_lossOf_13 : decode cX4_lossOf 13 = .ok (.if_icmp .ge 50, 3) := by decide +kernel
theorem dX4_lossOf_16 : decode cX4_lossOf 16 = .ok (.iload_n 2, 1) := by decide +kernel
theorem dX4_lossOf_17 : decode cX4_lossOf 17 = .ok (.bipush 12, 2) := by decide +kernel
theorem dX4_lossOf_19 : decode cX4_lossOf 19 = .ok (.if_icmp .eq 44, 3) := by decide +kernel
theorem dX4_lossOf_22 : decode cX4_lossOf 22 = .ok (.aload_n 0, 1) := by decide +kernel
theorem dX4_lossOf_23 : decode cX4_lossOf 23 = .ok (.getfield 22, 3) := by decide +kernel
theorem dX4_lossOf_26 : decode cX4_lossOf 26 = .ok (.iload 4, 2) := by decide +kernel
theorem dX4_lossOf_28 : decode cX4_lossOf 28 = .ok (.iaload, 1) := by decide +kernel
theorem dX4_lossOf_29 : decode cX4_lossOf 29 = .ok (.aload_n 0, 1) := by decide +kernel
theorem dX4_lossOf_30 : decode cX4_lossOf 30 = .ok (.getfield 22, 3) := by decide +kernel
theorem dX4_lossOf_33 : decode cX4_lossOf 33 = .ok (.iload_n 2, 1) := by decide +kernel
theorem dX4_lossOf_34 : decode cX4_lossOf 34 = .ok (.iaload, 1) := by decide +kernel
theorem dX4_lossOf_35 : decode cX4_lossOf 35 = .ok (.if_icmp .ne 22, 3) := by decide +kernel
theorem dX4_lossOf_38 : decode cX4_lossOf 38 = .ok (.aload_n 0, 1) := by decide +kernel
theorem dX4_lossOf_39 : decode cX4_lossOf 39 = .ok (.iload_n 1, 1) := by decide +kernel
theorem dX4_lossOf_40 : decode cX4_lossOf 40 = .ok (.iload 4, 2) := by decide +kernel
theorem dX4_lossOf_42 : decode cX4_lossOf 42 = .ok (.invokevirtual 209, 3) := by decide +kernel
theorem dX4_lossOf_45 : decode cX4_lossOf 45 = .ok (.iload_n 3, 1) := by decide +kernel
theorem dX4_lossOf_46 : decode cX4_lossOf 46 = .ok (.if_icmp .le 11, 3) := by decide +kernel
theorem dX4_lossOf_49 : decode cX4_lossOf 49 = .ok (.aload_n 0, 1) := by decide +kernel
theorem dX4_lossOf_50 : decode cX4_lossOf 50 = .ok (.iload_n 1, 1) := by decide +kernel
theorem dX4_lossOf_51 : decode cX4_lossOf 51 = .ok (.iload 4, 2) := by decide +kernel
theorem dX4_lossOf_53 : decode cX4_lossOf 53 = .ok (.invokevirtual 209, 3) := by decide +kernel
theorem dX4_lossOf_56 : decode cX4_lossOf 56 = .ok (.istore_n 3, 1) := by decide +kernel
theorem dX4_lossOf_57 : decode cX4_lossOf 57 = .ok (.iinc 4 1, 3) := by decide +kernel
theorem dX4_lossOf_60 : decode cX4_lossOf 60 = .ok (.goto (-53), 3) := by decide +kernel
theorem dX4_lossOf_63 : decode cX4_lossOf 63 = .ok (.iload_n 3, 1) := by decide +kernel
theorem dX4_lossOf_64 : decode cX4_lossOf 64 = .ok (.ireturn, 1) := by decide +kernel
set_option maxRecDepth 20000 in
theorem ggX4_toldOne_X4_isOne : GoodIn wsX4_toldOne wsX4_isOne := goodIn_r _ [7, 8, 53, 54, 55, 56, 57, 58, 59, 60, 61, 62, 63, 64, 65, 66, 67, 68, 69, 70, 71, 72, 73, 74, 75, 76, 77, 78, 79, 80, 81, 82, 83, 84, 85, 86, 87, 88, 89, 90, 91, 92, 93, 94, 95, 96, 97] rfl (by decide +kernel)
set_option maxRecDepth 20000 in
theorem gX4_toldOne_X4_isOne : GoodIn wsX4_toldOne (wsV RX4 135 RX4 yX4_isOne wsX4_isOne) := goodIn_app (goodIn_r _ [3, 4, 5, 6] rfl (by decide +kernel)) ggX4_toldOne_X4_isOne
set_option maxRecDepth 20000 in
theorem ggX4_toldOne_X4_mayWith : GoodIn wsX4_toldOne wsX4_mayWith := goodIn_r _ [12, 13, 14, 15, 16, 6, 17, 18, 19, 20, 21, 22, 23, 24, 25, 26, 27, 28, 29, 30, 31, 32, 33, 34, 35, 36, 37, 38, 39, 40, 41, 42, 43, 44, 45, 46, 47, 48, 49, 50, 51, 52, 53, 54, 55, 56, 57, 58, 59, 60, 61, 62, 63, 64, 65, 66, 67, 68, 69, 70, 71, 72, 73, 74, 75, 76, 77, 78, 79, 80, 81, 82, 83, 84, 85, 86, 87, 88, 89, 90, 91, 92, 93, 94, 95, 96, 97] rfl (by decide +kernel)
set_option maxRecDepth 20000 in
theorem gX4_toldOne_X4_mayWith : GoodIn wsX4_toldOne (wsV RX4 212 RX4 yX4_mayWith wsX4_mayWith) := goodIn_app (goodIn_r _ [9, 10, 11, 6] rfl (by decide +kernel)) ggX4_toldOne_X4_mayWith
theorem dX4_toldOne_0 : decode cX4_toldOne 0 = .ok (.iconst 0, 1) := by decide +kernel
theorem dX4_toldOne_1 : decode cX4_toldOne 1 = .ok (.istore_n 2, 1) := by decide +kernel
theorem dX4_toldOne_2 : decode cX4_toldOne 2 = .ok (.iload_n 2, 1) := by decide +kernel
theorem dX4_toldOne_3 : decode cX4_toldOne 3 = .ok (.aload_n 0, 1) := by decide +kernel
theorem dX4_toldOne_4 : decode cX4_toldOne 4 = .ok (.getfield 222, 3) := by decide +kernel
theorem dX4_toldOne_7 : decode cX4_toldOne 7 = .ok (.if_icmp .ge 43, 3) := by decide +kernel
theorem dX4_toldOne_10 : decode cX4_toldOne 10 = .ok (.aload_n 0, 1) := by decide +kernel
theorem dX4_toldOne_11 : decode cX4_toldOne 11 = .ok (.aload_n 0, 1) := by decide +kernel
theorem dX4_toldOne_12 : decode cX4_toldOne 12 = .ok (.getfield 77, 3) := by decide +kernel
theorem dX4_toldOne_15 : decode cX4_toldOne 15 = .ok (.iload_n 2, 1) := by decide +kernel
theorem dX4_toldOne_16 : decode cX4_toldOne 16 = .ok (.iaload, 1) := by decide +kernel
theorem dX4_toldOne_17 : decode cX4_toldOne 17 = .ok (.invokevirtual 135, 3) := by decide +kernel
theorem dX4_toldOne_20 : decode cX4_toldOne 20 = .ok (.ifCond .eq 24, 3) := by decide +kernel
theorem dX4_toldOne_23 : decode cX4_toldOne 23 = .ok (.aload_n 0, 1) := by decide +kernel
theorem dX4_toldOne_24 : decode cX4_toldOne 24 = .ok (.aload_n 0, 1) := by decide +kernel
theorem dX4_toldOne_25 : decode cX4_toldOne 25 = .ok (.getfield 77, 3) := by decide +kernel
theorem dX4_toldOne_28 : decode cX4_toldOne 28 = .ok (.iload_n 2, 1) := by decide +kernel
theorem dX4_toldOne_29 : decode cX4_toldOne 29 = .ok (.iaload, 1) := by decide +kernel
theorem dX4_toldOne_30 : decode cX4_toldOne 30 = .ok (.iload_n 1, 1) := by decide +kernel
theorem dX4_toldOne_31 : decode cX4_toldOne 31 = .ok (.invokevirtual 212, 3) := by decide +kernel
theorem dX4_toldOne_34 : decode cX4_toldOne 34 = .ok (.ifCond .eq 10, 3) := by decide +kernel
theorem dX4_toldOne_37 : decode cX4_toldOne 37 = .ok (.aload_n 0, 1) := by decide +kernel
theorem dX4_toldOne_38 : decode cX4_toldOne 38 = .ok (.getfield 77, 3) := by decide +kernel
theorem dX4_toldOne_41 : decode cX4_toldOne 41 = .ok (.iload_n 2, 1) := by decide +kernel
theorem dX4_toldOne_42 : decode cX4_toldOne 42 = .ok (.iaload, 1) := by decide +kernel
theorem dX4_toldOne_43 : decode cX4_toldOne 43 = .ok (.ireturn, 1) := by decide +kernel
theorem dX4_toldOne_44 : decode cX4_toldOne 44 = .ok (.iinc 2 1, 3) := by decide +kernel
theorem dX4_toldOne_47 : decode cX4_toldOne 47 = .ok (.goto (-45), 3) := by decide +kernel
theorem dX4_toldOne_50 : decode cX4_toldOne 50 = .ok (.bipush (-9), 2) := by decide +kernel
theorem dX4_toldOne_52 : decode cX4_toldOne 52 = .ok (.ireturn, 1) := by decide +kernel
set_option maxRecDepth 20000 in
theorem ggX4_against_X4_goodOf : GoodIn wsX4_against wsX4_goodOf := goodIn_r _ [6, 7, 8, 9, 1, 10, 11, 12, 13, 5, 14, 15, 16, 17, 18, 24, 25, 26, 27, 28, 29, 30, 31, 32, 33, 34, 35, 36, 37, 38, 39, 40, 41, 42, 43, 44, 45, 46, 47, 48, 49, 50, 51, 52, 53, 54, 55, 56, 57, 58, 59, 60, 61, 62, 63, 64, 65, 66, 67, 68] rfl (by decide +kernel)
set_option maxRecDepth 20000 in
theorem gX4_against_X4_goodOf : GoodIn wsX4_against (wsV RX4 209 RX4 yX4_goodOf wsX4_goodOf) := goodIn_app (goodIn_r _ [2, 3, 4, 5] rfl (by decide +kernel)) ggX4_against_X4_goodOf
set_option maxRecDepth 20000 in
theorem ggX4_against_X4_minutesOf : GoodIn wsX4_against wsX4_minutesOf := goodIn_r _ [14, 15, 24, 25, 26, 27, 28, 29, 30, 31, 32, 33, 34, 35, 36, 37, 38, 39, 40, 41, 42, 43, 44, 45, 46, 47, 48, 49, 50, 51, 52, 53, 54, 55, 56, 57, 58, 59, 60, 61, 62, 63, 64, 65, 66, 67, 68] rfl (by decide +kernel)
set_option maxRecDepth 20000 in
theorem gX4_against_X4_minutesOf : GoodIn wsX4_against (wsV RX4 187 RX4 yX4_minutesOf wsX4_minutesOf) := goodIn_app (goodIn_r _ [11, 12, 13, 5] rfl (by decide +kernel)) ggX4_against_X4_minutesOf
set_option maxRecDepth 20000 in
theorem ggX4_against_X4_lossOf : GoodIn wsX4_against wsX4_lossOf := goodIn_r _ [22, 23, 1, 2, 3, 4, 5, 6, 7, 8, 9, 10, 11, 12, 13, 14, 15, 16, 17, 18, 24, 25, 26, 27, 28, 29, 30, 31, 32, 33, 34, 35, 36, 37, 38, 39, 40, 41, 42, 43, 44, 45, 46, 47, 48, 49, 50, 51, 52, 53, 54, 55, 56, 57, 58, 59, 60, 61, 62, 63, 64, 65, 66, 67, 68] rfl (by decide +kernel)
set_option maxRecDepth 20000 in
theorem gX4_against_X4_lossOf : GoodIn wsX4_against (wsV RX4 225 RX4 yX4_lossOf wsX4_lossOf) := goodIn_app (goodIn_r _ [19, 20, 21, 5] rfl (by decide +kernel)) ggX4_against_X4_lossOf
theorem dX4_against_0 : decode cX4_against 0 = .ok (.iload_n 1, 1) := by decide +kernel
theorem dX4_against_1 : decode cX4_against 1 = .ok (.iconst 1, 1) := by decide +kernel
theorem dX4_against_2 : decode cX4_against 2 = .ok (.if_icmp .ne 11, 3) := by decide +kernel
theorem dX4_against_5 : decode cX4_against 5 = .ok (.aload_n 0, 1) := by decide +kernel
theorem dX4_against_6 : decode cX4_against 6 = .ok (.iload_n 2, 1) := by decide +kernel
theorem dX4_against_7 : decode cX4_against 7 = .ok (.iload_n 3, 1) := by decide +kernel
theorem dX4_against_8 : decode cX4_against 8 = .ok (.invokevirtual 209, 3) := by decide +kernel
theorem dX4_against_11 : decode cX4_against 11 = .ok (.ineg, 1) := by decide +kernel
theorem dX4_against_12 : decode cX4_against 12 = .ok (.ireturn, 1) := by decide +kernel
theorem dX4_against_13 : decode cX4_against 13 = .ok (.iload_n 1, 1) := by decide +kernel
theorem dX4_against_14 : decode cX4_against 14 = .ok (.ifCond .eq 8, 3) := by decide +kernel
theorem dX4_against_17 : decode cX4_against 17 = .ok (.iload_n 1, 1) := by decide +kernel
theorem dX4_against_18 : decode cX4_against 18 = .ok (.iconst 4, 1) := by decide +kernel
theorem dX4_against_19 : decode cX4_against 19 = .ok (.if_icmp .ne 17, 3) := by decide +kernel
theorem dX4_against_22 : decode cX4_against 22 = .ok (.aload_n 0, 1) := by decide +kernel
theorem dX4_against_23 : decode cX4_against 23 = .ok (.iload_n 2, 1) := by decide +kernel
theorem dX4_against_24 : decode cX4_against 24 = .ok (.aload_n 0, 1) := by decide +kernel
theorem dX4_against_25 : decode cX4_against 25 = .ok (.getfield 22, 3) := by decide +kernel
theorem dX4_against_28 : decode cX4_against 28 = .ok (.iload_n 3, 1) := by decide +kernel
theorem dX4_against_29 : decode cX4_against 29 = .ok (.iaload, 1) := by decide +kernel
theorem dX4_against_30 : decode cX4_against 30 = .ok (.invokevirtual 187, 3) := by decide +kernel
theorem dX4_against_33 : decode cX4_against 33 = .ok (.goto 9, 3) := by decide +kernel
theorem dX4_against_36 : decode cX4_against 36 = .ok (.aload_n 0, 1) := by decide +kernel
theorem dX4_against_37 : decode cX4_against 37 = .ok (.iload_n 2, 1) := by decide +kernel
theorem dX4_against_38 : decode cX4_against 38 = .ok (.iload_n 3, 1) := by decide +kernel
theorem dX4_against_39 : decode cX4_against 39 = .ok (.invokevirtual 225, 3) := by decide +kernel
theorem dX4_against_42 : decode cX4_against 42 = .ok (.ireturn, 1) := by decide +kernel
set_option maxRecDepth 20000 in
theorem ggX4_isLeftOut_X4_lossOf : GoodIn wsX4_isLeftOut wsX4_lossOf := goodIn_r _ [6, 7, 1, 8, 9, 10, 5, 11, 12, 13, 14, 15, 16, 17, 18, 19, 20, 21, 22, 23, 24, 25, 26, 27, 28, 29, 30, 31, 32, 33, 34, 35, 36, 37, 38, 39, 40, 41, 42, 43, 44, 45, 46, 47, 48, 49, 50, 51, 52, 53, 54, 55, 56, 57, 58, 59, 60, 61, 62, 63, 64, 65, 66, 67, 68] rfl (by decide +kernel)
set_option maxRecDepth 20000 in
theorem gX4_isLeftOut_X4_lossOf : GoodIn wsX4_isLeftOut (wsV RX4 225 RX4 yX4_lossOf wsX4_lossOf) := goodIn_app (goodIn_r _ [2, 3, 4, 5] rfl (by decide +kernel)) ggX4_isLeftOut_X4_lossOf
set_option maxRecDepth 20000 in
theorem ggX4_isLeftOut_X4_goodOf : GoodIn wsX4_isLeftOut wsX4_goodOf := goodIn_r _ [11, 12, 13, 14, 1, 15, 16, 17, 18, 5, 19, 20, 21, 22, 23, 24, 25, 26, 27, 28, 29, 30, 31, 32, 33, 34, 35, 36, 37, 38, 39, 40, 41, 42, 43, 44, 45, 46, 47, 48, 49, 50, 51, 52, 53, 54, 55, 56, 57, 58, 59, 60, 61, 62, 63, 64, 65, 66, 67, 68] rfl (by decide +kernel)
set_option maxRecDepth 20000 in
theorem gX4_isLeftOut_X4_goodOf : GoodIn wsX4_isLeftOut (wsV RX4 209 RX4 yX4_goodOf wsX4_goodOf) := goodIn_app (goodIn_r _ [8, 9, 10, 5] rfl (by decide +kernel)) ggX4_isLeftOut_X4_goodOf
theorem dX4_isLeftOut_0 : decode cX4_isLeftOut 0 = .ok (.iload_n 2, 1) := by decide +kernel
theorem dX4_isLeftOut_1 : decode cX4_isLeftOut 1 = .ok (.aload_n 0, 1) := by decide +kernel
theorem dX4_isLeftOut_2 : decode cX4_isLeftOut 2 = .ok (.getfield 22, 3) := by decide +kernel
theorem dX4_isLeftOut_5 : decode cX4_isLeftOut 5 = .ok (.iload_n 3, 1) := by decide +kernel
theorem dX4_isLeftOut_6 : decode cX4_isLeftOut 6 = .ok (.iaload, 1) := by decide +kernel
theorem dX4_isLeftOut_7 : decode cX4_isLeftOut 7 = .ok (.isub, 1) := by decide +kernel
theorem dX4_isLeftOut_8 : decode cX4_isLeftOut 8 = .ok (.istore 4, 2) := by decide +kernel
theorem dX4_isLeftOut_10 : decode cX4_isLeftOut 10 = .ok (.iload_n 1, 1) := by decide +kernel
theorem dX4_isLeftOut_11 : decode cX4_isLeftOut 11 = .ok (.iconst 3, 1) := by decide +kernel
theorem dX4_isLeftOut_12 : decode cX4_isLeftOut 12 = .ok (.if_icmp .ne 18, 3) := by decide +kernel
theorem dX4_isLeftOut_15 : decode cX4_isLeftOut 15 = .ok (.aload_n 0, 1) := by decide +kernel
theorem dX4_isLeftOut_16 : decode cX4_isLeftOut 16 = .ok (.iload_n 2, 1) := by decide +kernel
theorem dX4_isLeftOut_17 : decode cX4_isLeftOut 17 = .ok (.iload_n 3, 1) := by decide +kernel
theorem dX4_isLeftOut_18 : decode cX4_isLeftOut 18 = .ok (.invokevirtual 225, 3) := by decide +kernel
theorem dX4_isLeftOut_21 : decode cX4_isLeftOut 21 = .ok (.aload_n 0, 1) := by decide +kernel
theorem dX4_isLeftOut_22 : decode cX4_isLeftOut 22 = .ok (.iload_n 2, 1) := by decide +kernel
theorem dX4_isLeftOut_23 : decode cX4_isLeftOut 23 = .ok (.iload_n 3, 1) := by decide +kernel
theorem dX4_isLeftOut_24 : decode cX4_isLeftOut 24 = .ok (.invokevirtual 209, 3) := by decide +kernel
theorem dX4_isLeftOut_27 : decode cX4_isLeftOut 27 = .ok (.if_icmp .ge 20, 3) := by decide +kernel
theorem dX4_isLeftOut_30 : decode cX4_isLeftOut 30 = .ok (.iload_n 1, 1) := by decide +kernel
theorem dX4_isLeftOut_31 : decode cX4_isLeftOut 31 = .ok (.iconst 4, 1) := by decide +kernel
theorem dX4_isLeftOut_32 : decode cX4_isLeftOut 32 = .ok (.if_icmp .ne 19, 3) := by decide +kernel
theorem dX4_isLeftOut_35 : decode cX4_isLeftOut 35 = .ok (.iload 4, 2) := by decide +kernel
theorem dX4_isLeftOut_37 : decode cX4_isLeftOut 37 = .ok (.iconst 1, 1) := by decide +kernel
theorem dX4_isLeftOut_38 : decode cX4_isLeftOut 38 = .ok (.if_icmp .eq 9, 3) := by decide +kernel
theorem dX4_isLeftOut_41 : decode cX4_isLeftOut 41 = .ok (.iload 4, 2) := by decide +kernel
theorem dX4_isLeftOut_43 : decode cX4_isLeftOut 43 = .ok (.iconst (-1), 1) := by decide +kernel
theorem dX4_isLeftOut_44 : decode cX4_isLeftOut 44 = .ok (.if_icmp .ne 7, 3) := by decide +kernel
theorem dX4_isLeftOut_47 : decode cX4_isLeftOut 47 = .ok (.iconst 1, 1) := by decide +kernel
theorem dX4_isLeftOut_48 : decode cX4_isLeftOut 48 = .ok (.goto 4, 3) := by decide +kernel
theorem dX4_isLeftOut_51 : decode cX4_isLeftOut 51 = .ok (.iconst 0, 1) := by decide +kernel
theorem dX4_isLeftOut_52 : decode cX4_isLeftOut 52 = .ok (.ireturn, 1) := by decide +kernel
set_option maxRecDepth 20000 in
theorem ggX4_chooses_X4_toldOne : GoodIn wsX4_chooses wsX4_toldOne := goodIn_r _ [6, 7, 8, 9, 10, 11, 5, 12, 1, 13, 14, 15, 16, 17, 18, 19, 20, 21, 22, 23, 24, 25, 26, 27, 28, 29, 30, 31, 32, 33, 34, 35, 36, 37, 38, 39, 40, 41, 42, 43, 44, 45, 46, 47, 48, 49, 50, 51, 52, 53, 54, 55, 56, 80, 81, 82, 83, 84, 85, 86, 87, 88, 89, 90, 91, 92, 93, 94, 95, 96, 97, 98, 99, 100, 101, 102, 103, 104, 105, 106, 107, 108, 109, 110, 111, 112, 113, 114, 115, 116, 117, 118, 119, 120, 121, 122, 123, 124] rfl (by decide +kernel)
set_option maxRecDepth 20000 in
theorem gX4_chooses_X4_toldOne : GoodIn wsX4_chooses (wsV RX4 228 RX4 yX4_toldOne wsX4_toldOne) := goodIn_app (goodIn_r _ [2, 3, 4, 5] rfl (by decide +kernel)) ggX4_chooses_X4_toldOne
set_option maxRecDepth 20000 in
theorem ggX4_chooses_X4_mayWith : GoodIn wsX4_chooses wsX4_mayWith := goodIn_r _ [16, 17, 18, 19, 20, 5, 21, 22, 23, 24, 25, 26, 27, 28, 29, 30, 31, 32, 33, 34, 35, 36, 37, 38, 39, 40, 41, 42, 43, 44, 45, 46, 47, 48, 49, 50, 51, 52, 53, 54, 55, 56, 80, 81, 82, 83, 84, 85, 86, 87, 88, 89, 90, 91, 92, 93, 94, 95, 96, 97, 98, 99, 100, 101, 102, 103, 104, 105, 106, 107, 108, 109, 110, 111, 112, 113, 114, 115, 116, 117, 118, 119, 120, 121, 122, 123, 124] rfl (by decide +kernel)
set_option maxRecDepth 20000 in
theorem gX4_chooses_X4_mayWith : GoodIn wsX4_chooses (wsV RX4 212 RX4 yX4_mayWith wsX4_mayWith) := goodIn_app (goodIn_r _ [13, 14, 15, 5] rfl (by decide +kernel)) ggX4_chooses_X4_mayWith
set_option maxRecDepth 20000 in
theorem ggX4_chooses_X4_isLeftOut : GoodIn wsX4_chooses wsX4_isLeftOut := goodIn_r _ [60, 17, 61, 62, 63, 5, 64, 65, 66, 67, 68, 69, 70, 71, 72, 30, 31, 32, 33, 34, 35, 73, 74, 75, 80, 81, 82, 83, 84, 85, 86, 87, 88, 89, 90, 91, 92, 93, 94, 95, 96, 97, 98, 99, 100, 101, 102, 103, 104, 105, 106, 107, 108, 109, 110, 111, 112, 113, 114, 115, 116, 117, 118, 119, 120, 121, 122, 123, 124] rfl (by decide +kernel)
set_option maxRecDepth 20000 in
theorem gX4_chooses_X4_isLeftOut : GoodIn wsX4_chooses (wsV RX4 231 RX4 yX4_isLeftOut wsX4_isLeftOut) := goodIn_app (goodIn_r _ [57, 58, 59, 5] rfl (by decide +kernel)) ggX4_chooses_X4_isLeftOut
set_option maxRecDepth 20000 in
theorem ggX4_chooses_X4_against : GoodIn wsX4_chooses wsX4_against := goodIn_r _ [79, 17, 66, 67, 68, 5, 69, 70, 71, 72, 30, 31, 32, 33, 34, 35, 73, 74, 75, 61, 62, 63, 64, 65, 80, 81, 82, 83, 84, 85, 86, 87, 88, 89, 90, 91, 92, 93, 94, 95, 96, 97, 98, 99, 100, 101, 102, 103, 104, 105, 106, 107, 108, 109, 110, 111, 112, 113, 114, 115, 116, 117, 118, 119, 120, 121, 122, 123, 124] rfl (by decide +kernel)
set_option maxRecDepth 20000 in
theorem gX4_chooses_X4_against : GoodIn wsX4_chooses (wsV RX4 234 RX4 yX4_against wsX4_against) := goodIn_app (goodIn_r _ [76, 77, 78, 5] rfl (by decide +kernel)) ggX4_chooses_X4_against
theorem dX4_chooses_0 : decode cX4_chooses 0 = .ok (.iload_n 1, 1) := by decide +kernel
theorem dX4_chooses_1 : decode cX4_chooses 1 = .ok (.iconst 5, 1) := by decide +kernel
theorem dX4_chooses_2 : decode cX4_chooses 2 = .ok (.if_icmp .ne 9, 3) := by decide +kernel
theorem dX4_chooses_5 : decode cX4_chooses 5 = .ok (.aload_n 0, 1) := by decide +kernel
theorem dX4_chooses_6 : decode cX4_chooses 6 = .ok (.iload_n 2, 1) := by decide +kernel
theorem dX4_chooses_7 : decode cX4_chooses 7 = .ok (.invokevirtual 228, 3) := by decide +kernel
theorem dX4_chooses_10 : decode cX4_chooses 10 = .ok (.ireturn, 1) := by decide +kernel
theorem dX4_chooses_11 : decode cX4_chooses 11 = .ok (.bipush (-9), 2) := by decide +kernel
theorem dX4_chooses_13 : decode cX4_chooses 13 = .ok (.istore_n 3, 1) := by decide +kernel
theorem dX4_chooses_14 : decode cX4_chooses 14 = .ok (.iconst 0, 1) := by decide +kernel
theorem dX4_chooses_15 : decode cX4_chooses 15 = .ok (.istore 4, 2) := by decide +kernel
theorem dX4_chooses_17 : decode cX4_chooses 17 = .ok (.iconst 0, 1) := by decide +kernel
theorem dX4_chooses_18 : decode cX4_chooses 18 = .ok (.istore 5, 2) := by decide +kernel
theorem dX4_chooses_20 : decode cX4_chooses 20 = .ok (.iload 5, 2) := by decide +kernel
theorem dX4_chooses_22 : decode cX4_chooses 22 = .ok (.aload_n 0, 1) := by decide +kernel
theorem dX4_chooses_23 : decode cX4_chooses 23 = .ok (.getfield 93, 3) := by decide +kernel
theorem dX4_chooses_26 : decode cX4_chooses 26 = .ok (.if_icmp .ge 64, 3) := by decide +kernel
theorem dX4_chooses_29 : decode cX4_chooses 29 = .ok (.aload_n 0, 1) := by decide +kernel
theorem dX4_chooses_30 : decode cX4_chooses 30 = .ok (.iload 5, 2) := by decide +kernel
theorem dX4_chooses_32 : decode cX4_chooses 32 = .ok (.iload_n 2, 1) := by decide +kernel
theorem dX4_chooses_33 : decode cX4_chooses 33 = .ok (.invokevirtual 212, 3) := by decide +kernel
theorem dX4_chooses_36 : decode cX4_chooses 36 = .ok (.ifCond .eq 48, 3) := by decide +kernel
theorem dX4_chooses_39 : decode cX4_chooses 39 = .ok (.aload_n 0, 1) := by decide +kernel
theorem dX4_chooses_40 : decode cX4_chooses 40 = .ok (.iload_n 1, 1) := by decide +kernel
theorem dX4_chooses_41 : decode cX4_chooses 41 = .ok (.iload 5, 2) := by decide +kernel
theorem dX4_chooses_43 : decode cX4_chooses 43 = .ok (.iload_n 2, 1) := by decide +kernel
theorem dX4_chooses_44 : decode cX4_chooses 44 = .ok (.invokevirtual 231, 3) := by decide +kernel
theorem dX4_chooses_47 : decode cX4_chooses 47 = .ok (.ifCond .eq 6, 3) := by decide +kernel
theorem dX4_chooses_50 : decode cX4_chooses 50 = .ok (.goto 34, 3) := by decide +kernel
theorem dX4_chooses_53 : decode cX4_chooses 53 = .ok (.aload_n 0, 1) := by decide +kernel
theorem dX4_chooses_54 : decode cX4_chooses 54 = .ok (.iload_n 1, 1) := by decide +kernel
theorem dX4_chooses_55 : decode cX4_chooses 55 = .ok (.iload 5, 2) := by decide +kernel
theorem dX4_chooses_57 : decode cX4_chooses 57 = .ok (.iload_n 2, 1) := by decide +kernel
theorem dX4_chooses_58 : decode cX4_chooses 58 = .ok (.invokevirtual 234, 3) := by decide +kernel
theorem dX4_chooses_61 : decode cX4_chooses 61 = .ok (.istore 6, 2) := by decide +kernel
theorem dX4_chooses_63 : decode cX4_chooses 63 = .ok (.iload_n 3, 1) := by decide +kernel
theorem dX4_chooses_64 : decode cX4_chooses 64 = .ok (.ifCond .lt 13, 3) := by decide +kernel
theorem dX4_chooses_67 : decode cX4_chooses 67 = .ok (.iload 6, 2) := by decide +kernel
theorem dX4_chooses_69 : decode cX4_chooses 69 = .ok (.iload 4, 2) := by decide +kernel
theorem dX4_chooses_71 : decode cX4_chooses 71 = .ok (.if_icmp .lt 6, 3) := by decide +kernel
theorem dX4_chooses_74 : decode cX4_chooses 74 = .ok (.goto 10, 3) := by decide +kernel
theorem dX4_chooses_77 : decode cX4_chooses 77 = .ok (.iload 5, 2) := by decide +kernel
theorem dX4_chooses_79 : decode cX4_chooses 79 = .ok (.istore_n 3, 1) := by decide +kernel
theorem dX4_chooses_80 : decode cX4_chooses 80 = .ok (.iload 6, 2) := by decide +kernel
theorem dX4_chooses_82 : decode cX4_chooses 82 = .ok (.istore 4, 2) := by decide +kernel
theorem dX4_chooses_84 : decode cX4_chooses 84 = .ok (.iinc 5 1, 3) := by decide +kernel
theorem dX4_chooses_87 : decode cX4_chooses 87 = .ok (.goto (-67), 3) := by decide +kernel
theorem dX4_chooses_90 : decode cX4_chooses 90 = .ok (.iload_n 3, 1) := by decide +kernel
theorem dX4_chooses_91 : decode cX4_chooses 91 = .ok (.ireturn, 1) := by decide +kernel
theorem dX4_isRule_0 : decode cX4_isRule 0 = .ok (.iload_n 0, 1) := by decide +kernel
theorem dX4_isRule_1 : decode cX4_isRule 1 = .ok (.ifCond .lt 13, 3) := by decide +kernel
theorem dX4_isRule_4 : decode cX4_isRule 4 = .ok (.iload_n 0, 1) := by decide +kernel
theorem dX4_isRule_5 : decode cX4_isRule 5 = .ok (.bipush 6, 2) := by decide +kernel
theorem dX4_isRule_7 : decode cX4_isRule 7 = .ok (.if_icmp .ge 7, 3) := by decide +kernel
theorem dX4_isRule_10 : decode cX4_isRule 10 = .ok (.iconst 1, 1) := by decide +kernel
theorem dX4_isRule_11 : decode cX4_isRule 11 = .ok (.goto 4, 3) := by decide +kernel
theorem dX4_isRule_14 : decode cX4_isRule 14 = .ok (.iconst 0, 1) := by decide +kernel
theorem dX4_isRule_15 : decode cX4_isRule 15 = .ok (.ireturn, 1) := by decide +kernel
set_option maxRecDepth 20000 in
theorem ggX4_chosen_X4_isRule : GoodIn wsX4_chosen wsX4_isRule := goodIn_r _ [4] rfl (by decide +kernel)
set_option maxRecDepth 20000 in
theorem gX4_chosen_X4_isRule : GoodIn wsX4_chosen (va_wsS RX4 237 yX4_isRule wsX4_isRule) := goodIn_app (goodIn_r _ [1, 2, 3] rfl (by decide +kernel)) ggX4_chosen_X4_isRule
set_option maxRecDepth 20000 in
theorem ggX4_chosen_X4_no : GoodIn wsX4_chosen wsX4_no := goodIn_r _ [8, 9, 96, 97, 98, 99, 100, 101, 102, 103, 104, 105, 106, 107, 108, 109, 110, 111, 112, 113, 114, 115, 116, 117, 118, 119, 120, 121, 122, 123, 124, 125, 126, 127, 128, 129, 130, 131, 132, 133, 134, 135, 136, 137, 138, 139, 140] rfl (by decide +kernel)
set_option maxRecDepth 20000 in
theorem gX4_chosen_X4_no : GoodIn wsX4_chosen (wsV RX4 106 RX4 yX4_no wsX4_no) := goodIn_app (goodIn_r _ [5, 6, 7, 3] rfl (by decide +kernel)) ggX4_chosen_X4_no
set_option maxRecDepth 20000 in
theorem ggX4_chosen_X4_isNeed : GoodIn wsX4_chosen wsX4_isNeed := goodIn_r _ [13, 14, 96, 97, 98, 99, 100, 101, 102, 103, 104, 105, 106, 107, 108, 109, 110, 111, 112, 113, 114, 115, 116, 117, 118, 119, 120, 121, 122, 123, 124, 125, 126, 127, 128, 129, 130, 131, 132, 133, 134, 135, 136, 137, 138, 139, 140] rfl (by decide +kernel)
set_option maxRecDepth 20000 in
theorem gX4_chosen_X4_isNeed : GoodIn wsX4_chosen (wsV RX4 206 RX4 yX4_isNeed wsX4_isNeed) := goodIn_app (goodIn_r _ [10, 11, 12, 3] rfl (by decide +kernel)) ggX4_chosen_X4_isNeed
set_option maxRecDepth 20000 in
theorem ggX4_chosen_X4_chooses : GoodIn wsX4_chosen wsX4_chooses := goodIn_r _ [18, 19, 20, 21, 22, 3, 23, 24, 25, 26, 27, 28, 29, 30, 31, 32, 33, 34, 35, 36, 37, 38, 39, 40, 41, 42, 43, 44, 45, 46, 47, 48, 49, 50, 51, 52, 53, 54, 55, 56, 57, 58, 59, 60, 61, 62, 63, 64, 65, 66, 67, 68, 69, 70, 71, 72, 73, 74, 75, 76, 77, 78, 79, 80, 81, 14, 82, 83, 84, 85, 86, 87, 88, 89, 90, 91, 92, 93, 94, 95, 96, 97, 98, 99, 100, 101, 102, 103, 104, 105, 106, 107, 108, 109, 110, 111, 112, 113, 114, 115, 116, 117, 118, 119, 120, 121, 122, 123, 124, 125, 126, 127, 128, 129, 130, 131, 132, 133, 134, 135, 136, 137, 138, 139, 140] rfl (by decide +kernel)
set_option maxRecDepth 20000 in
theorem gX4_chosen_X4_chooses : GoodIn wsX4_chosen (wsV RX4 240 RX4 yX4_chooses wsX4_chooses) := goodIn_app (goodIn_r _ [15, 16, 17, 3] rfl (by decide +kernel)) ggX4_chosen_X4_chooses
theorem dX4_chosen_0 : decode cX4_chosen 0 = .ok (.iload_n 1, 1) := by decide +kernel
theorem dX4_chosen_1 : decode cX4_chosen 1 = .ok (.invokestatic 237, 3) := by decide +kernel
theorem dX4_chosen_4 : decode cX4_chosen 4 = .ok (.ifCond .ne 10, 3) := by decide +kernel
theorem dX4_chosen_7 : decode cX4_chosen 7 = .ok (.aload_n 0, 1) := by decide +kernel
theorem dX4_chosen_8 : decode cX4_chosen 8 = .ok (.bipush (-2), 2) := by decide +kernel
theorem dX4_chosen_10 : decode cX4_chosen 10 = .ok (.invokevirtual 106, 3) := by decide +kernel
theorem dX4_chosen_13 : decode cX4_chosen 13 = .ok (.ireturn, 1) := by decide +kernel
theorem dX4_chosen_14 : decode cX4_chosen 14 = .ok (.aload_n 0, 1) := by decide +kernel
theorem dX4_chosen_15 : decode cX4_chosen 15 = .ok (.iload_n 2, 1) := by decide +kernel
theorem dX4_chosen_16 : decode cX4_chosen 16 = .ok (.invokevirtual 206, 3) := by decide +kernel
theorem dX4_chosen_19 : decode cX4_chosen 19 = .ok (.ifCond .ne 9, 3) := by decide +kernel
theorem dX4_chosen_22 : decode cX4_chosen 22 = .ok (.aload_n 0, 1) := by decide +kernel
theorem dX4_chosen_23 : decode cX4_chosen 23 = .ok (.iconst (-1), 1) := by decide +kernel
theorem dX4_chosen_24 : decode cX4_chosen 24 = .ok (.invokevirtual 106, 3) := by decide +kernel
theorem dX4_chosen_27 : decode cX4_chosen 27 = .ok (.ireturn, 1) := by decide +kernel
theorem dX4_chosen_28 : decode cX4_chosen 28 = .ok (.aload_n 0, 1) := by decide +kernel
theorem dX4_chosen_29 : decode cX4_chosen 29 = .ok (.iload_n 1, 1) := by decide +kernel
theorem dX4_chosen_30 : decode cX4_chosen 30 = .ok (.iload_n 2, 1) := by decide +kernel
theorem dX4_chosen_31 : decode cX4_chosen 31 = .ok (.invokevirtual 240, 3) := by decide +kernel
theorem dX4_chosen_34 : decode cX4_chosen 34 = .ok (.ireturn, 1) := by decide +kernel
set_option maxRecDepth 20000 in
theorem ggX4_loss_X4_isOne : GoodIn wsX4_loss wsX4_isOne := goodIn_r _ [5, 6, 38, 39, 40, 41, 42, 43, 44, 45, 46, 47, 48, 49, 50, 51, 52, 53, 54, 55, 56, 57, 58, 59, 60, 61, 62, 63, 64, 65, 66, 67, 68, 69, 70, 71, 72, 73, 74, 75, 76, 77, 78, 79, 80, 81, 82] rfl (by decide +kernel)
set_option maxRecDepth 20000 in
theorem gX4_loss_X4_isOne : GoodIn wsX4_loss (wsV RX4 135 RX4 yX4_isOne wsX4_isOne) := goodIn_app (goodIn_r _ [1, 2, 3, 4] rfl (by decide +kernel)) ggX4_loss_X4_isOne
set_option maxRecDepth 20000 in
theorem ggX4_loss_X4_isNeed : GoodIn wsX4_loss wsX4_isNeed := goodIn_r _ [10, 11, 38, 39, 40, 41, 42, 43, 44, 45, 46, 47, 48, 49, 50, 51, 52, 53, 54, 55, 56, 57, 58, 59, 60, 61, 62, 63, 64, 65, 66, 67, 68, 69, 70, 71, 72, 73, 74, 75, 76, 77, 78, 79, 80, 81, 82] rfl (by decide +kernel)
set_option maxRecDepth 20000 in
theorem gX4_loss_X4_isNeed : GoodIn wsX4_loss (wsV RX4 206 RX4 yX4_isNeed wsX4_isNeed) := goodIn_app (goodIn_r _ [7, 8, 9, 4] rfl (by decide +kernel)) ggX4_loss_X4_isNeed
set_option maxRecDepth 20000 in
theorem ggX4_loss_X4_lossOf : GoodIn wsX4_loss wsX4_lossOf := goodIn_r _ [15, 11, 16, 17, 18, 19, 4, 20, 21, 22, 23, 24, 25, 26, 27, 28, 29, 30, 31, 32, 38, 39, 40, 41, 42, 43, 44, 45, 46, 47, 48, 49, 50, 51, 52, 53, 54, 55, 56, 57, 58, 59, 60, 61, 62, 63, 64, 65, 66, 67, 68, 69, 70, 71, 72, 73, 74, 75, 76, 77, 78, 79, 80, 81, 82] rfl (by decide +kernel)
set_option maxRecDepth 20000 in
theorem gX4_loss_X4_lossOf : GoodIn wsX4_loss (wsV RX4 225 RX4 yX4_lossOf wsX4_lossOf) := goodIn_app (goodIn_r _ [12, 13, 14, 4] rfl (by decide +kernel)) ggX4_loss_X4_lossOf
set_option maxRecDepth 20000 in
theorem ggX4_loss_X4_no : GoodIn wsX4_loss wsX4_no := goodIn_r _ [36, 37, 38, 39, 40, 41, 42, 43, 44, 45, 46, 47, 48, 49, 50, 51, 52, 53, 54, 55, 56, 57, 58, 59, 60, 61, 62, 63, 64, 65, 66, 67, 68, 69, 70, 71, 72, 73, 74, 75, 76, 77, 78, 79, 80, 81, 82] rfl (by decide +kernel)
set_option maxRecDepth 20000 in
theorem gX4_loss_X4_no : GoodIn wsX4_loss (wsV RX4 106 RX4 yX4_no wsX4_no) := goodIn_app (goodIn_r _ [33, 34, 35, 4] rfl (by decide +kernel)) ggX4_loss_X4_no
theorem dX4_loss_0 : decode cX4_loss 0 = .ok (.aload_n 0, 1) := by decide +kernel
theorem dX4_loss_1 : decode cX4_loss 1 = .ok (.iload_n 1, 1) := by decide +kernel
theorem dX4_loss_2 : decode cX4_loss 2 = .ok (.invokevirtual 135, 3) := by decide +kernel
theorem dX4_loss_5 : decode cX4_loss 5 = .ok (.ifCond .eq 20, 3) := by decide +kernel
theorem dX4_loss_8 : decode cX4_loss 8 = .ok (.aload_n 0, 1) := by decide +kernel
theorem dX4_loss_9 : decode cX4_loss 9 = .ok (.iload_n 2, 1) := by decide +kernel
theorem dX4_loss_10 : decode cX4_loss 10 = .ok (.invokevirtual 206, 3) := by decide +kernel
theorem dX4_loss_13 : decode cX4_loss 13 = .ok (.ifCond .eq 12, 3) := by decide +kernel
theorem dX4_loss_16 : decode cX4_loss 16 = .ok (.aload_n 0, 1) := by decide +kernel
theorem dX4_loss_17 : decode cX4_loss 17 = .ok (.iload_n 1, 1) := by decide +kernel
theorem dX4_loss_18 : decode cX4_loss 18 = .ok (.iload_n 2, 1) := by decide +kernel
theorem dX4_loss_19 : decode cX4_loss 19 = .ok (.invokevirtual 225, 3) := by decide +kernel
theorem dX4_loss_22 : decode cX4_loss 22 = .ok (.goto 8, 3) := by decide +kernel
theorem dX4_loss_25 : decode cX4_loss 25 = .ok (.aload_n 0, 1) := by decide +kernel
theorem dX4_loss_26 : decode cX4_loss 26 = .ok (.iconst (-1), 1) := by decide +kernel
theorem dX4_loss_27 : decode cX4_loss 27 = .ok (.invokevirtual 106, 3) := by decide +kernel
theorem dX4_loss_30 : decode cX4_loss 30 = .ok (.ireturn, 1) := by decide +kernel
set_option maxRecDepth 20000 in
theorem ggX4_runsNeed_X4_chooses : GoodIn wsX4_runsNeed wsX4_chooses := goodIn_r _ [11, 12, 13, 14, 15, 10, 16, 17, 18, 19, 20, 21, 22, 23, 24, 25, 26, 3, 27, 28, 29, 30, 31, 32, 2, 1, 33, 34, 35, 36, 37, 38, 39, 40, 41, 42, 43, 44, 45, 46, 47, 48, 49, 50, 51, 52, 53, 54, 55, 56, 57, 58, 59, 60, 61, 62, 63, 64, 65, 66, 67, 68, 69, 70, 71, 72, 73, 74, 75, 76, 77, 78, 4, 79, 80, 81, 82, 83, 84, 85, 90, 91, 92, 93, 94, 95, 96, 97, 98, 99, 100, 101, 102, 103, 104, 105, 106, 107, 108, 109, 110, 111, 112, 113, 114, 115, 116, 117, 118, 119, 120, 121, 122, 123, 124, 125, 126, 127, 128, 129, 130, 131, 132, 133, 134] rfl (by decide +kernel)
set_option maxRecDepth 20000 in
theorem gX4_runsNeed_X4_chooses : GoodIn wsX4_runsNeed (wsV RX4 240 RX4 yX4_chooses wsX4_chooses) := goodIn_app (goodIn_r _ [7, 8, 9, 10] rfl (by decide +kernel)) ggX4_runsNeed_X4_chooses
set_option maxRecDepth 20000 in
theorem ggX4_runsNeed_X4_goodOf : GoodIn wsX4_runsNeed wsX4_goodOf := goodIn_r _ [76, 77, 78, 4, 3, 37, 38, 39, 40, 10, 41, 42, 79, 80, 81, 90, 91, 92, 93, 94, 95, 96, 97, 98, 99, 100, 101, 102, 103, 104, 105, 106, 107, 108, 109, 110, 111, 112, 113, 114, 115, 116, 117, 118, 119, 120, 121, 122, 123, 124, 125, 126, 127, 128, 129, 130, 131, 132, 133, 134] rfl (by decide +kernel)
set_option maxRecDepth 20000 in
theorem gX4_runsNeed_X4_goodOf : GoodIn wsX4_runsNeed (wsV RX4 209 RX4 yX4_goodOf wsX4_goodOf) := goodIn_app (goodIn_r _ [73, 74, 75, 10] rfl (by decide +kernel)) ggX4_runsNeed_X4_goodOf
set_option maxRecDepth 20000 in
theorem ggX4_runsNeed_X4_writes : GoodIn wsX4_runsNeed wsX4_writes := goodIn_r _ [89, 48, 47, 49, 55, 32, 57, 63, 2, 90, 91, 92, 93, 94, 95, 96, 97, 98, 99, 100, 101, 102, 103, 104, 105, 106, 107, 108, 109, 110, 111, 112, 113, 114, 115, 116, 117, 118, 119, 120, 121, 122, 123, 124, 125, 126, 127, 128, 129, 130, 131, 132, 133, 134] rfl (by decide +kernel)
set_option maxRecDepth 20000 in
theorem gX4_runsNeed_X4_writes : GoodIn wsX4_runsNeed (wsV RX4 215 RX4 yX4_writes wsX4_writes) := goodIn_app (goodIn_r _ [86, 87, 88, 10] rfl (by decide +kernel)) ggX4_runsNeed_X4_writes
theorem dX4_runsNeed_0 : decode cX4_runsNeed 0 = .ok (.iconst 0, 1) := by decide +kernel
theorem dX4_runsNeed_1 : decode cX4_runsNeed 1 = .ok (.istore_n 3, 1) := by decide +kernel
theorem dX4_runsNeed_2 : decode cX4_runsNeed 2 = .ok (.aload_n 0, 1) := by decide +kernel
theorem dX4_runsNeed_3 : decode cX4_runsNeed 3 = .ok (.getfield 31, 3) := by decide +kernel
theorem dX4_runsNeed_6 : decode cX4_runsNeed 6 = .ok (.iload_n 2, 1) := by decide +kernel
theorem dX4_runsNeed_7 : decode cX4_runsNeed 7 = .ok (.iaload, 1) := by decide +kernel
theorem dX4_runsNeed_8 : decode cX4_runsNeed 8 = .ok (.aload_n 0, 1) := by decide +kernel
theorem dX4_runsNeed_9 : decode cX4_runsNeed 9 = .ok (.getfield 37, 3) := by decide +kernel
theorem dX4_runsNeed_12 : decode cX4_runsNeed 12 = .ok (.iload_n 2, 1) := by decide +kernel
theorem dX4_runsNeed_13 : decode cX4_runsNeed 13 = .ok (.iaload, 1) := by decide +kernel
theorem dX4_runsNeed_14 : decode cX4_runsNeed 14 = .ok (.isub, 1) := by decide +kernel
theorem dX4_runsNeed_15 : decode cX4_runsNeed 15 = .ok (.istore 4, 2) := by decide +kernel
theorem dX4_runsNeed_17 : decode cX4_runsNeed 17 = .ok (.iload 4, 2) := by decide +kernel
theorem dX4_runsNeed_19 : decode cX4_runsNeed 19 = .ok (.ifCond .le 95, 3) := by decide +kernel
theorem dX4_runsNeed_22 : decode cX4_runsNeed 22 = .ok (.aload_n 0, 1) := by decide +kernel
theorem dX4_runsNeed_23 : decode cX4_runsNeed 23 = .ok (.iload_n 1, 1) := by decide +kernel
theorem dX4_runsNeed_24 : decode cX4_runsNeed 24 = .ok (.iload_n 2, 1) := by decide +kernel
theorem dX4_runsNeed_25 : decode cX4_runsNeed 25 = .ok (.invokevirtual 240, 3) := by decide +kernel
theorem dX4_runsNeed_28 : decode cX4_runsNeed 28 = .ok (.istore 5, 2) := by decide +kernel
theorem dX4_runsNeed_30 : decode cX4_runsNeed 30 = .ok (.iload 5, 2) := by decide +kernel
theorem dX4_runsNeed_32 : decode cX4_runsNeed 32 = .ok (.ifCond .lt 35, 3) := by decide +kernel
theorem dX4_runsNeed_35 : decode cX4_runsNeed 35 = .ok (.iload_n 3, 1) := by decide +kernel
theorem dX4_runsNeed_36 : decode cX4_runsNeed 36 = .ok (.aload_n 0, 1) := by decide +kernel
theorem dX4_runsNeed_37 : decode cX4_runsNeed 37 = .ok (.iload 5, 2) := by decide +kernel
theorem dX4_runsNeed_39 : decode cX4_runsNeed 39 = .ok (.iload_n 2, 1) := by decide +kernel
theorem dX4_runsNeed_40 : decode cX4_runsNeed 40 = .ok (.invokevirtual 209, 3) := by decide +kernel
theorem dX4_runsNeed_43 : decode cX4_runsNeed 43 = .ok (.iadd, 1) := by decide +kernel
theorem dX4_runsNeed_44 : decode cX4_runsNeed 44 = .ok (.istore_n 3, 1) := by decide +kernel
theorem dX4_runsNeed_45 : decode cX4_runsNeed 45 = .ok (.aload_n 0, 1) := by decide +kernel
theorem dX4_runsNeed_46 : decode cX4_runsNeed 46 = .ok (.iload 5, 2) := by decide +kernel
theorem dX4_runsNeed_48 : decode cX4_runsNeed 48 = .ok (.aload_n 0, 1) := by decide +kernel
theorem dX4_runsNeed_49 : decode cX4_runsNeed 49 = .ok (.getfield 22, 3) := by decide +kernel
theorem dX4_runsNeed_52 : decode cX4_runsNeed 52 = .ok (.iload_n 2, 1) := by decide +kernel
theorem dX4_runsNeed_53 : decode cX4_runsNeed 53 = .ok (.iaload, 1) := by decide +kernel
theorem dX4_runsNeed_54 : decode cX4_runsNeed 54 = .ok (.aload_n 0, 1) := by decide +kernel
theorem dX4_runsNeed_55 : decode cX4_runsNeed 55 = .ok (.getfield 28, 3) := by decide +kernel
theorem dX4_runsNeed_58 : decode cX4_runsNeed 58 = .ok (.iload_n 2, 1) := by decide +kernel
theorem dX4_runsNeed_59 : decode cX4_runsNeed 59 = .ok (.iaload, 1) := by decide +kernel
theorem dX4_runsNeed_60 : decode cX4_runsNeed 60 = .ok (.iload_n 2, 1) := by decide +kernel
theorem dX4_runsNeed_61 : decode cX4_runsNeed 61 = .ok (.invokevirtual 215, 3) := by decide +kernel
theorem dX4_runsNeed_64 : decode cX4_runsNeed 64 = .ok (.goto 44, 3) := by decide +kernel
theorem dX4_runsNeed_67 : decode cX4_runsNeed 67 = .ok (.aload_n 0, 1) := by decide +kernel
theorem dX4_runsNeed_68 : decode cX4_runsNeed 68 = .ok (.getfield 243, 3) := by decide +kernel
theorem dX4_runsNeed_71 : decode cX4_runsNeed 71 = .ok (.ifCond .le 27, 3) := by decide +kernel
theorem dX4_runsNeed_74 : decode cX4_runsNeed 74 = .ok (.aload_n 0, 1) := by decide +kernel
theorem dX4_runsNeed_75 : decode cX4_runsNeed 75 = .ok (.dup, 1) := by decide +kernel
theorem dX4_runsNeed_76 : decode cX4_runsNeed 76 = .ok (.getfield 243, 3) := by decide +kernel
theorem dX4_runsNeed_79 : decode cX4_runsNeed 79 = .ok (.iconst 1, 1) := by decide +kernel
theorem dX4_runsNeed_80 : decode cX4_runsNeed 80 = .ok (.isub, 1) := by decide +kernel
theorem dX4_runsNeed_81 : decode cX4_runsNeed 81 = .ok (.putfield 243, 3) := by decide +kernel
theorem dX4_runsNeed_84 : decode cX4_runsNeed 84 = .ok (.iload_n 3, 1) := by decide +kernel
theorem dX4_runsNeed_85 : decode cX4_runsNeed 85 = .ok (.iconst 3, 1) := by decide +kernel
theorem dX4_runsNeed_86 : decode cX4_runsNeed 86 = .ok (.aload_n 0, 1) := by decide +kernel
theorem dX4_runsNeed_87 : decode cX4_runsNeed 87 = .ok (.getfield 28, 3) := by decide +kernel
theorem dX4_runsNeed_90 : decode cX4_runsNeed 90 = .ok (.iload_n 2, 1) := by decide +kernel
theorem dX4_runsNeed_91 : decode cX4_runsNeed 91 = .ok (.iaload, 1) := by decide +kernel
theorem dX4_runsNeed_92 : decode cX4_runsNeed 92 = .ok (.imul, 1) := by decide +kernel
theorem dX4_runsNeed_93 : decode cX4_runsNeed 93 = .ok (.iadd, 1) := by decide +kernel
theorem dX4_runsNeed_94 : decode cX4_runsNeed 94 = .ok (.istore_n 3, 1) := by decide +kernel
theorem dX4_runsNeed_95 : decode cX4_runsNeed 95 = .ok (.goto 13, 3) := by decide +kernel
theorem dX4_runsNeed_98 : decode cX4_runsNeed 98 = .ok (.aload_n 0, 1) := by decide +kernel
theorem dX4_runsNeed_99 : decode cX4_runsNeed 99 = .ok (.dup, 1) := by decide +kernel
theorem dX4_runsNeed_100 : decode cX4_runsNeed 100 = .ok (.getfield 246, 3) := by decide +kernel
theorem dX4_runsNeed_103 : decode cX4_runsNeed 103 = .ok (.iconst 1, 1) := by decide +kernel
theorem dX4_runsNeed_104 : decode cX4_runsNeed 104 = .ok (.iadd, 1) := by decide +kernel
theorem dX4_runsNeed_105 : decode cX4_runsNeed 105 = .ok (.putfield 246, 3) := by decide +kernel
theorem dX4_runsNeed_108 : decode cX4_runsNeed 108 = .ok (.iinc 4 (-1), 3) := by decide +kernel
theorem dX4_runsNeed_111 : decode cX4_runsNeed 111 = .ok (.goto (-94), 3) := by decide +kernel
theorem dX4_runsNeed_114 : decode cX4_runsNeed 114 = .ok (.iload_n 3, 1) := by decide +kernel
theorem dX4_runsNeed_115 : decode cX4_runsNeed 115 = .ok (.ireturn, 1) := by decide +kernel
set_option maxRecDepth 20000 in
theorem ggX4_runOf_X4_passesAll : GoodIn wsX4_runOf wsX4_passesAll := goodIn_r _ [10, 11, 12, 13, 14, 15, 16, 17, 18, 19, 5, 20, 21, 22, 23, 24, 25, 26, 4, 27, 28, 29, 30, 31, 3, 32, 33, 34, 9, 35, 36, 37, 38, 39, 40, 110, 111, 112, 113, 114, 115, 116, 117, 118, 119, 120, 121, 122, 123, 124, 125, 126, 127, 128, 129, 130, 131, 132, 133, 134, 135, 136, 137, 138, 139, 140, 141, 142, 143, 144, 145, 146, 147, 148, 149, 150, 151, 152, 153, 154] rfl (by decide +kernel)
set_option maxRecDepth 20000 in
theorem gX4_runOf_X4_passesAll : GoodIn wsX4_runOf (wsV RX4 151 RX4 yX4_passesAll wsX4_passesAll) := goodIn_app (goodIn_r _ [6, 7, 8, 9] rfl (by decide +kernel)) ggX4_runOf_X4_passesAll
set_option maxRecDepth 20000 in
theorem ggX4_runOf_X4_runsNeed : GoodIn wsX4_runOf wsX4_runsNeed := goodIn_r _ [44, 19, 20, 16, 18, 2, 1, 45, 46, 47, 9, 48, 26, 49, 50, 51, 52, 53, 54, 55, 56, 57, 58, 59, 60, 61, 62, 63, 64, 65, 66, 5, 3, 67, 68, 69, 70, 13, 71, 72, 73, 74, 14, 75, 76, 77, 78, 27, 21, 22, 28, 79, 80, 81, 82, 23, 29, 24, 30, 83, 84, 85, 86, 25, 87, 88, 89, 90, 91, 92, 93, 94, 4, 95, 96, 97, 98, 15, 17, 99, 100, 101, 102, 103, 104, 105, 106, 107, 108, 109, 110, 111, 112, 113, 114, 115, 116, 117, 118, 119, 120, 121, 122, 123, 124, 125, 126, 127, 128, 129, 130, 131, 132, 133, 134, 135, 136, 137, 138, 139, 140, 141, 142, 143, 144, 145, 146, 147, 148, 149, 150, 151, 152, 153, 154] rfl (by decide +kernel)
set_option maxRecDepth 20000 in
theorem gX4_runOf_X4_runsNeed : GoodIn wsX4_runOf (wsV RX4 249 RX4 yX4_runsNeed wsX4_runsNeed) := goodIn_app (goodIn_r _ [41, 42, 43, 9] rfl (by decide +kernel)) ggX4_runOf_X4_runsNeed
theorem dX4_runOf_0 : decode cX4_runOf 0 = .ok (.aload_n 0, 1) := by decide +kernel
theorem dX4_runOf_1 : decode cX4_runOf 1 = .ok (.iconst 1, 1) := by decide +kernel
theorem dX4_runOf_2 : decode cX4_runOf 2 = .ok (.iconst 1, 1) := by decide +kernel
theorem dX4_runOf_3 : decode cX4_runOf 3 = .ok (.invokevirtual 151, 3) := by decide +kernel
theorem dX4_runOf_6 : decode cX4_runOf 6 = .ok (.aload_n 0, 1) := by decide +kernel
theorem dX4_runOf_7 : decode cX4_runOf 7 = .ok (.iconst 0, 1) := by decide +kernel
theorem dX4_runOf_8 : decode cX4_runOf 8 = .ok (.putfield 246, 3) := by decide +kernel
theorem dX4_runOf_11 : decode cX4_runOf 11 = .ok (.aload_n 0, 1) := by decide +kernel
theorem dX4_runOf_12 : decode cX4_runOf 12 = .ok (.iload_n 2, 1) := by decide +kernel
theorem dX4_runOf_13 : decode cX4_runOf 13 = .ok (.putfield 243, 3) := by decide +kernel
theorem dX4_runOf_16 : decode cX4_runOf 16 = .ok (.iconst 0, 1) := by decide +kernel
theorem dX4_runOf_17 : decode cX4_runOf 17 = .ok (.istore_n 3, 1) := by decide +kernel
theorem dX4_runOf_18 : decode cX4_runOf 18 = .ok (.aload_n 0, 1) := by decide +kernel
theorem dX4_runOf_19 : decode cX4_runOf 19 = .ok (.getfield 178, 3) := by decide +kernel
theorem dX4_runOf_22 : decode cX4_runOf 22 = .ok (.bipush 9, 2) := by decide +kernel
theorem dX4_runOf_24 : decode cX4_runOf 24 = .ok (.if_icmp .gt 62, 3) := by decide +kernel
theorem dX4_runOf_27 : decode cX4_runOf 27 = .ok (.iconst 0, 1) := by decide +kernel
theorem dX4_runOf_28 : decode cX4_runOf 28 = .ok (.istore 4, 2) := by decide +kernel
theorem dX4_runOf_30 : decode cX4_runOf 30 = .ok (.iload 4, 2) := by decide +kernel
theorem dX4_runOf_32 : decode cX4_runOf 32 = .ok (.aload_n 0, 1) := by decide +kernel
theorem dX4_runOf_33 : decode cX4_runOf 33 = .ok (.getfield 96, 3) := by decide +kernel
theorem dX4_runOf_36 : decode cX4_runOf 36 = .ok (.if_icmp .ge 37, 3) := by decide +kernel
theorem dX4_runOf_39 : decode cX4_runOf 39 = .ok (.iload_n 3, 1) := by decide +kernel
theorem dX4_runOf_40 : decode cX4_runOf 40 = .ok (.aload_n 0, 1) := by decide +kernel
theorem dX4_runOf_41 : decode cX4_runOf 41 = .ok (.getfield 34, 3) := by decide +kernel
theorem dX4_runOf_44 : decode cX4_runOf 44 = .ok (.iload 4, 2) := by decide +kernel
theorem dX4_runOf_46 : decode cX4_runOf 46 = .ok (.iaload, 1) := by decide +kernel
theorem dX4_runOf_47 : decode cX4_runOf 47 = .ok (.aload_n 0, 1) := by decide +kernel
theorem dX4_runOf_48 : decode cX4_runOf 48 = .ok (.getfield 178, 3) := by decide +kernel
theorem dX4_runOf_51 : decode cX4_runOf 51 = .ok (.if_icmp .ne 13, 3) := by decide +kernel
theorem dX4_runOf_54 : decode cX4_runOf 54 = .ok (.aload_n 0, 1) := by decide +kernel
theorem dX4_runOf_55 : decode cX4_runOf 55 = .ok (.iload_n 1, 1) := by decide +kernel
theorem dX4_runOf_56 : decode cX4_runOf 56 = .ok (.iload 4, 2) := by decide +kernel
theorem dX4_runOf_58 : decode cX4_runOf 58 = .ok (.invokevirtual 249, 3) := by decide +kernel
theorem dX4_runOf_61 : decode cX4_runOf 61 = .ok (.goto 4, 3) := by decide +kernel
theorem dX4_runOf_64 : decode cX4_runOf 64 = .ok (.iconst 0, 1) := by decide +kernel
theorem dX4_runOf_65 : decode cX4_runOf 65 = .ok (.iadd, 1) := by decide +kernel
theorem dX4_runOf_66 : decode cX4_runOf 66 = .ok (.istore_n 3, 1) := by decide +kernel
theorem dX4_runOf_67 : decode cX4_runOf 67 = .ok (.iinc 4 1, 3) := by decide +kernel
theorem dX4_runOf_70 : decode cX4_runOf 70 = .ok (.goto (-40), 3) := by decide +kernel
theorem dX4_runOf_73 : decode cX4_runOf 73 = .ok (.aload_n 0, 1) := by decide +kernel
theorem dX4_runOf_74 : decode cX4_runOf 74 = .ok (.dup, 1) := by decide +kernel
theorem dX4_runOf_75 : decode cX4_runOf 75 = .ok (.getfield 178, 3) := by decide +kernel
theorem dX4_runOf_78 : decode cX4_runOf 78 = .ok (.iconst 1, 1) := by decide +kernel
theorem dX4_runOf_79 : decode cX4_runOf 79 = .ok (.iadd, 1) := by decide +kernel
theorem dX4_runOf_80 : decode cX4_runOf 80 = .ok (.putfield 178, 3) := by decide +kernel
theorem dX4_runOf_83 : decode cX4_runOf 83 = .ok (.goto (-65), 3) := by decide +kernel
theorem dX4_runOf_86 : decode cX4_runOf 86 = .ok (.aload_n 0, 1) := by decide +kernel
theorem dX4_runOf_87 : decode cX4_runOf 87 = .ok (.iconst 1, 1) := by decide +kernel
theorem dX4_runOf_88 : decode cX4_runOf 88 = .ok (.iconst 0, 1) := by decide +kernel
theorem dX4_runOf_89 : decode cX4_runOf 89 = .ok (.invokevirtual 151, 3) := by decide +kernel
theorem dX4_runOf_92 : decode cX4_runOf 92 = .ok (.iload_n 3, 1) := by decide +kernel
theorem dX4_runOf_93 : decode cX4_runOf 93 = .ok (.ireturn, 1) := by decide +kernel
set_option maxRecDepth 20000 in
theorem ggX4_run_X4_isRule : GoodIn wsX4_run wsX4_isRule := goodIn_r _ [4] rfl (by decide +kernel)
set_option maxRecDepth 20000 in
theorem gX4_run_X4_isRule : GoodIn wsX4_run (va_wsS RX4 237 yX4_isRule wsX4_isRule) := goodIn_app (goodIn_r _ [1, 2, 3] rfl (by decide +kernel)) ggX4_run_X4_isRule
set_option maxRecDepth 20000 in
theorem ggX4_run_X4_runOf : GoodIn wsX4_run wsX4_runOf := goodIn_r _ [8, 9, 10, 11, 12, 13, 14, 15, 16, 3, 17, 18, 19, 20, 21, 22, 23, 24, 25, 26, 27, 28, 29, 30, 31, 32, 33, 34, 35, 36, 37, 38, 39, 40, 41, 42, 43, 44, 45, 46, 47, 48, 49, 50, 51, 52, 53, 54, 55, 56, 57, 58, 59, 60, 61, 62, 63, 64, 65, 66, 67, 68, 69, 70, 71, 72, 73, 74, 75, 76, 77, 78, 79, 80, 81, 82, 83, 84, 85, 86, 87, 88, 89, 90, 91, 92, 93, 94, 95, 96, 97, 98, 99, 100, 101, 102, 103, 104, 105, 106, 107, 108, 109, 110, 111, 112, 113, 114, 115, 116, 122, 123, 124, 125, 126, 127, 128, 129, 130, 131, 132, 133, 134, 135, 136, 137, 138, 139, 140, 141, 142, 143, 144, 145, 146, 147, 148, 149, 150, 151, 152, 153, 154, 155, 156, 157, 158, 159, 160, 161, 162, 163, 164, 165, 166] rfl (by decide +kernel)
set_option maxRecDepth 20000 in
theorem gX4_run_X4_runOf : GoodIn wsX4_run (wsV RX4 252 RX4 yX4_runOf wsX4_runOf) := goodIn_app (goodIn_r _ [5, 6, 7, 3] rfl (by decide +kernel)) ggX4_run_X4_runOf
set_option maxRecDepth 20000 in
theorem ggX4_run_X4_no : GoodIn wsX4_run wsX4_no := goodIn_r _ [120, 121, 122, 123, 124, 125, 126, 127, 128, 129, 130, 131, 132, 133, 134, 135, 136, 137, 138, 139, 140, 141, 142, 143, 144, 145, 146, 147, 148, 149, 150, 151, 152, 153, 154, 155, 156, 157, 158, 159, 160, 161, 162, 163, 164, 165, 166] rfl (by decide +kernel)
set_option maxRecDepth 20000 in
theorem gX4_run_X4_no : GoodIn wsX4_run (wsV RX4 106 RX4 yX4_no wsX4_no) := goodIn_app (goodIn_r _ [117, 118, 119, 3] rfl (by decide +kernel)) ggX4_run_X4_no
theorem dX4_run_0 : decode cX4_run 0 = .ok (.iload_n 1, 1) := by decide +kernel
theorem dX4_run_1 : decode cX4_run 1 = .ok (.invokestatic 237, 3) := by decide +kernel
theorem dX4_run_4 : decode cX4_run 4 = .ok (.ifCond .eq 12, 3) := by decide +kernel
theorem dX4_run_7 : decode cX4_run 7 = .ok (.aload_n 0, 1) := by decide +kernel
theorem dX4_run_8 : decode cX4_run 8 = .ok (.iload_n 1, 1) := by decide +kernel
theorem dX4_run_9 : decode cX4_run 9 = .ok (.iconst 0, 1) := by decide +kernel
theorem dX4_run_10 : decode cX4_run 10 = .ok (.invokevirtual 252, 3) := by decide +kernel
theorem dX4_run_13 : decode cX4_run 13 = .ok (.goto 9, 3) := by decide +kernel
theorem dX4_run_16 : decode cX4_run 16 = .ok (.aload_n 0, 1) := by decide +kernel
theorem dX4_run_17 : decode cX4_run 17 = .ok (.bipush (-2), 2) := by decide +kernel
theorem dX4_run_19 : decode cX4_run 19 = .ok (.invokevirtual 106, 3) := by decide +kernel
theorem dX4_run_22 : decode cX4_run 22 = .ok (.ireturn, 1) := by decide +kernel
set_option maxRecDepth 20000 in
theorem ggX4_without_X4_isRule : GoodIn wsX4_without wsX4_isRule := goodIn_r _ [5] rfl (by decide +kernel)
set_option maxRecDepth 20000 in
theorem gX4_without_X4_isRule : GoodIn wsX4_without (va_wsS RX4 237 yX4_isRule wsX4_isRule) := goodIn_app (goodIn_r _ [2, 3, 4] rfl (by decide +kernel)) ggX4_without_X4_isRule
set_option maxRecDepth 20000 in
theorem ggX4_without_X4_no : GoodIn wsX4_without wsX4_no := goodIn_r _ [9, 10, 122, 123, 124, 125, 126, 127, 128, 129, 130, 131, 132, 133, 134, 135, 136, 137, 138, 139, 140, 141, 142, 143, 144, 145, 146, 147, 148, 149, 150, 151, 152, 153, 154, 155, 156, 157, 158, 159, 160, 161, 162, 163, 164, 165, 166] rfl (by decide +kernel)
set_option maxRecDepth 20000 in
theorem gX4_without_X4_no : GoodIn wsX4_without (wsV RX4 106 RX4 yX4_no wsX4_no) := goodIn_app (goodIn_r _ [6, 7, 8, 4] rfl (by decide +kernel)) ggX4_without_X4_no
set_option maxRecDepth 20000 in
theorem ggX4_without_X4_runOf : GoodIn wsX4_without wsX4_runOf := goodIn_r _ [14, 1, 15, 16, 17, 18, 19, 20, 21, 4, 22, 23, 24, 25, 26, 27, 28, 29, 30, 31, 32, 33, 34, 35, 36, 37, 38, 39, 40, 41, 42, 43, 44, 45, 46, 47, 48, 49, 50, 51, 52, 53, 54, 55, 56, 57, 58, 59, 60, 61, 62, 63, 64, 65, 66, 67, 68, 69, 70, 71, 72, 73, 74, 75, 76, 77, 78, 79, 80, 81, 82, 83, 84, 85, 86, 87, 88, 89, 90, 91, 92, 93, 94, 95, 96, 97, 98, 99, 100, 101, 102, 103, 104, 105, 106, 107, 108, 109, 110, 111, 112, 113, 114, 115, 116, 117, 118, 119, 120, 121, 122, 123, 124, 125, 126, 127, 128, 129, 130, 131, 132, 133, 134, 135, 136, 137, 138, 139, 140, 141, 142, 143, 144, 145, 146, 147, 148, 149, 150, 151, 152, 153, 154, 155, 156, 157, 158, 159, 160, 161, 162, 163, 164, 165, 166] rfl (by decide +kernel)
set_option maxRecDepth 20000 in
theorem gX4_without_X4_runOf : GoodIn wsX4_without (wsV RX4 252 RX4 yX4_runOf wsX4_runOf) := goodIn_app (goodIn_r _ [11, 12, 13, 4] rfl (by decide +kernel)) ggX4_without_X4_runOf
theorem dX4_without_0 : decode cX4_without 0 = .ok (.iload_n 1, 1) := by decide +kernel
theorem dX4_without_1 : decode cX4_without 1 = .ok (.invokestatic 237, 3) := by decide +kernel
theorem dX4_without_4 : decode cX4_without 4 = .ok (.ifCond .ne 10, 3) := by decide +kernel
theorem dX4_without_7 : decode cX4_without 7 = .ok (.aload_n 0, 1) := by decide +kernel
theorem dX4_without_8 : decode cX4_without 8 = .ok (.bipush (-2), 2) := by decide +kernel
theorem dX4_without_10 : decode cX4_without 10 = .ok (.invokevirtual 106, 3) := by decide +kernel
theorem dX4_without_13 : decode cX4_without 13 = .ok (.ireturn, 1) := by decide +kernel
theorem dX4_without_14 : decode cX4_without 14 = .ok (.aload_n 0, 1) := by decide +kernel
theorem dX4_without_15 : decode cX4_without 15 = .ok (.iload_n 1, 1) := by decide +kernel
theorem dX4_without_16 : decode cX4_without 16 = .ok (.iconst 0, 1) := by decide +kernel
theorem dX4_without_17 : decode cX4_without 17 = .ok (.invokevirtual 252, 3) := by decide +kernel
theorem dX4_without_20 : decode cX4_without 20 = .ok (.pop, 1) := by decide +kernel
theorem dX4_without_21 : decode cX4_without 21 = .ok (.aload_n 0, 1) := by decide +kernel
theorem dX4_without_22 : decode cX4_without 22 = .ok (.getfield 246, 3) := by decide +kernel
theorem dX4_without_25 : decode cX4_without 25 = .ok (.ireturn, 1) := by decide +kernel
set_option maxRecDepth 20000 in
theorem ggX4_findHands_X4_goodOf : GoodIn wsX4_findHands wsX4_goodOf := goodIn_r _ [14, 15, 16, 17, 18, 19, 20, 21, 22, 13, 23, 24, 25, 26, 27, 28, 29, 30, 31, 32, 33, 34, 35, 36, 37, 38, 39, 40, 41, 42, 43, 44, 45, 46, 47, 48, 49, 50, 51, 52, 53, 54, 55, 56, 57, 58, 59, 60, 61, 62, 63, 64, 65, 66, 67, 68, 69, 70, 71, 72] rfl (by decide +kernel)
set_option maxRecDepth 20000 in
theorem gX4_findHands_X4_goodOf : GoodIn wsX4_findHands (wsV RX4 209 RX4 yX4_goodOf wsX4_goodOf) := goodIn_app (goodIn_r _ [10, 11, 12, 13] rfl (by decide +kernel)) ggX4_findHands_X4_goodOf
theorem dX4_findHands_0 : decode cX4_findHands 0 = .ok (.aload_n 0, 1) := by decide +kernel
theorem dX4_findHands_1 : decode cX4_findHands 1 = .ok (.iconst 0, 1) := by decide +kernel
theorem dX4_findHands_2 : decode cX4_findHands 2 = .ok (.putfield 255, 3) := by decide +kernel
theorem dX4_findHands_5 : decode cX4_findHands 5 = .ok (.iconst 0, 1) := by decide +kernel
theorem dX4_findHands_6 : decode cX4_findHands 6 = .ok (.istore_n 1, 1) := by decide +kernel
theorem dX4_findHands_7 : decode cX4_findHands 7 = .ok (.aload_n 0, 1) := by decide +kernel
theorem dX4_findHands_8 : decode cX4_findHands 8 = .ok (.getfield 178, 3) := by decide +kernel
theorem dX4_findHands_11 : decode cX4_findHands 11 = .ok (.istore_n 2, 1) := by decide +kernel
theorem dX4_findHands_12 : decode cX4_findHands 12 = .ok (.iload_n 2, 1) := by decide +kernel
theorem dX4_findHands_13 : decode cX4_findHands 13 = .ok (.bipush 9, 2) := by decide +kernel
theorem dX4_findHands_15 : decode cX4_findHands 15 = .ok (.if_icmp .gt 98, 3) := by decide +kernel
theorem dX4_findHands_18 : decode cX4_findHands 18 = .ok (.iconst 0, 1) := by decide +kernel
theorem dX4_findHands_19 : decode cX4_findHands 19 = .ok (.istore_n 3, 1) := by decide +kernel
theorem dX4_findHands_20 : decode cX4_findHands 20 = .ok (.iload_n 3, 1) := by decide +kernel
theorem dX4_findHands_21 : decode cX4_findHands 21 = .ok (.aload_n 0, 1) := by decide +kernel
theorem dX4_findHands_22 : decode cX4_findHands 22 = .ok (.getfield 96, 3) := by decide +kernel
theorem dX4_findHands_25 : decode cX4_findHands 25 = .ok (.if_icmp .ge 82, 3) := by decide +kernel
theorem dX4_findHands_28 : decode cX4_findHands 28 = .ok (.aload_n 0, 1) := by decide +kernel
theorem dX4_findHands_29 : decode cX4_findHands 29 = .ok (.getfield 34, 3) := by decide +kernel
theorem dX4_findHands_32 : decode cX4_findHands 32 = .ok (.iload_n 3, 1) := by decide +kernel
theorem dX4_findHands_33 : decode cX4_findHands 33 = .ok (.iaload, 1) := by decide +kernel
theorem dX4_findHands_34 : decode cX4_findHands 34 = .ok (.iload_n 2, 1) := by decide +kernel
theorem dX4_findHands_35 : decode cX4_findHands 35 = .ok (.if_icmp .eq 6, 3) := by decide +kernel
theorem dX4_findHands_38 : decode cX4_findHands 38 = .ok (.goto 63, 3) := by decide +kernel
theorem dX4_findHands_41 : decode cX4_findHands 41 = .ok (.iinc 1 1, 3) := by decide +kernel
theorem dX4_findHands_44 : decode cX4_findHands 44 = .ok (.aload_n 0, 1) := by decide +kernel
theorem dX4_findHands_45 : decode cX4_findHands 45 = .ok (.getfield 31, 3) := by decide +kernel
theorem dX4_findHands_48 : decode cX4_findHands 48 = .ok (.iload_n 3, 1) := by decide +kernel
theorem dX4_findHands_49 : decode cX4_findHands 49 = .ok (.iaload, 1) := by decide +kernel
theorem dX4_findHands_50 : decode cX4_findHands 50 = .ok (.aload_n 0, 1) := by decide +kernel
theorem dX4_findHands_51 : decode cX4_findHands 51 = .ok (.getfield 37, 3) := by decide +kernel
theorem dX4_findHands_54 : decode cX4_findHands 54 = .ok (.iload_n 3, 1) := by decide +kernel
theorem dX4_findHands_55 : decode cX4_findHands 55 = .ok (.iaload, 1) := by decide +kernel
theorem dX4_findHands_56 : decode cX4_findHands 56 = .ok (.isub, 1) := by decide +kernel
theorem dX4_findHands_57 : decode cX4_findHands 57 = .ok (.istore 4, 2) := by decide +kernel
theorem dX4_findHands_59 : decode cX4_findHands 59 = .ok (.iload 4, 2) := by decide +kernel
theorem dX4_findHands_61 : decode cX4_findHands 61 = .ok (.ifCond .le 40, 3) := by decide +kernel
theorem dX4_findHands_64 : decode cX4_findHands 64 = .ok (.aload_n 0, 1) := by decide +kernel
theorem dX4_findHands_65 : decode cX4_findHands 65 = .ok (.getfield 255, 3) := by decide +kernel
theorem dX4_findHands_68 : decode cX4_findHands 68 = .ok (.bipush 8, 2) := by decide +kernel
theorem dX4_findHands_70 : decode cX4_findHands 70 = .ok (.if_icmp .ne 5, 3) := by decide +kernel
theorem dX4_findHands_73 : decode cX4_findHands 73 = .ok (.iconst 0, 1) := by decide +kernel
theorem dX4_findHands_74 : decode cX4_findHands 74 = .ok (.ireturn, 1) := by decide +kernel
theorem dX4_findHands_75 : decode cX4_findHands 75 = .ok (.aload_n 0, 1) := by decide +kernel
theorem dX4_findHands_76 : decode cX4_findHands 76 = .ok (.getfield 80, 3) := by decide +kernel
theorem dX4_findHands_79 : decode cX4_findHands 79 = .ok (.aload_n 0, 1) := by decide +kernel
theorem dX4_findHands_80 : decode cX4_findHands 80 = .ok (.getfield 255, 3) := by decide +kernel
theorem dX4_findHands_83 : decode cX4_findHands 83 = .ok (.iload_n 3, 1) := by decide +kernel
theorem dX4_findHands_84 : decode cX4_findHands 84 = .ok (.iastore, 1) := by decide +kernel
theorem dX4_findHands_85 : decode cX4_findHands 85 = .ok (.aload_n 0, 1) := by decide +kernel
theorem dX4_findHands_86 : decode cX4_findHands 86 = .ok (.dup, 1) := by decide +kernel
theorem dX4_findHands_87 : decode cX4_findHands 87 = .ok (.getfield 255, 3) := by decide +kernel
theorem dX4_findHands_90 : decode cX4_findHands 90 = .ok (.iconst 1, 1) := by decide +kernel
theorem dX4_findHands_91 : decode cX4_findHands 91 = .ok (.iadd, 1) := by decide +kernel
theorem dX4_findHands_92 : decode cX4_findHands 92 = .ok (.putfield 255, 3) := by decide +kernel
theorem dX4_findHands_95 : decode cX4_findHands 95 = .ok (.iinc 4 (-1), 3) := by decide +kernel
theorem dX4_findHands_98 : decode cX4_findHands 98 = .ok (.goto (-39), 3) := by decide +kernel
theorem dX4_findHands_101 : decode cX4_findHands 101 = .ok (.iinc 3 1, 3) := by decide +kernel
theorem dX4_findHands_104 : decode cX4_findHands 104 = .ok (.goto (-84), 3) := by decide +kernel
theorem dX4_findHands_107 : decode cX4_findHands 107 = .ok (.iinc 2 1, 3) := by decide +kernel
theorem dX4_findHands_110 : decode cX4_findHands 110 = .ok (.goto (-98), 3) := by decide +kernel
theorem dX4_findHands_113 : decode cX4_findHands 113 = .ok (.aload_n 0, 1) := by decide +kernel
theorem dX4_findHands_114 : decode cX4_findHands 114 = .ok (.getfield 89, 3) := by decide +kernel
theorem dX4_findHands_117 : decode cX4_findHands 117 = .ok (.aload_n 0, 1) := by decide +kernel
theorem dX4_findHands_118 : decode cX4_findHands 118 = .ok (.getfield 255, 3) := by decide +kernel
theorem dX4_findHands_121 : decode cX4_findHands 121 = .ok (.iconst 0, 1) := by decide +kernel
theorem dX4_findHands_122 : decode cX4_findHands 122 = .ok (.iastore, 1) := by decide +kernel
theorem dX4_findHands_123 : decode cX4_findHands 123 = .ok (.aload_n 0, 1) := by decide +kernel
theorem dX4_findHands_124 : decode cX4_findHands 124 = .ok (.getfield 255, 3) := by decide +kernel
theorem dX4_findHands_127 : decode cX4_findHands 127 = .ok (.iconst 1, 1) := by decide +kernel
theorem dX4_findHands_128 : decode cX4_findHands 128 = .ok (.isub, 1) := by decide +kernel
theorem dX4_findHands_129 : decode cX4_findHands 129 = .ok (.istore_n 2, 1) := by decide +kernel
theorem dX4_findHands_130 : decode cX4_findHands 130 = .ok (.iload_n 2, 1) := by decide +kernel
theorem dX4_findHands_131 : decode cX4_findHands 131 = .ok (.ifCond .lt 78, 3) := by decide +kernel
theorem dX4_findHands_134 : decode cX4_findHands 134 = .ok (.iconst 0, 1) := by decide +kernel
theorem dX4_findHands_135 : decode cX4_findHands 135 = .ok (.istore_n 3, 1) := by decide +kernel
theorem dX4_findHands_136 : decode cX4_findHands 136 = .ok (.iconst 0, 1) := by decide +kernel
theorem dX4_findHands_137 : decode cX4_findHands 137 = .ok (.istore 4, 2) := by decide +kernel
theorem dX4_findHands_139 : decode cX4_findHands 139 = .ok (.iload 4, 2) := by decide +kernel
theorem dX4_findHands_141 : decode cX4_findHands 141 = .ok (.aload_n 0, 1) := by decide +kernel
theorem dX4_findHands_142 : decode cX4_findHands 142 = .ok (.getfield 93, 3) := by decide +kernel
theorem dX4_findHands_145 : decode cX4_findHands 145 = .ok (.if_icmp .ge 42, 3) := by decide +kernel
theorem dX4_findHands_148 : decode cX4_findHands 148 = .ok (.aload_n 0, 1) := by decide +kernel
theorem dX4_findHands_149 : decode cX4_findHands 149 = .ok (.iload 4, 2) := by decide +kernel
theorem dX4_findHands_151 : decode cX4_findHands 151 = .ok (.aload_n 0, 1) := by decide +kernel
theorem dX4_findHands_152 : decode cX4_findHands 152 = .ok (.getfield 80, 3) := by decide +kernel
theorem dX4_findHands_155 : decode cX4_findHands 155 = .ok (.iload_n 2, 1) := by decide +kernel
theorem dX4_findHands_156 : decode cX4_findHands 156 = .ok (.iaload, 1) := by decide +kernel
theorem dX4_findHands_157 : decode cX4_findHands 157 = .ok (.invokevirtual 209, 3) := by decide +kernel
theorem dX4_findHands_160 : decode cX4_findHands 160 = .ok (.iload_n 3, 1) := by decide +kernel
theorem dX4_findHands_161 : decode cX4_findHands 161 = .ok (.if_icmp .le 18, 3) := by decide +kernel
theorem dX4_findHands_164 : decode cX4_findHands 164 = .ok (.aload_n 0, 1) := by decide +kernel
theorem dX4_findHands_165 : decode cX4_findHands 165 = .ok (.iload 4, 2) := by decide +kernel
theorem dX4_findHands_167 : decode cX4_findHands 167 = .ok (.aload_n 0, 1) := by decide +kernel
theorem dX4_findHands_168 : decode cX4_findHands 168 = .ok (.getfield 80, 3) := by decide +kernel
theorem dX4_findHands_171 : decode cX4_findHands 171 = .ok (.iload_n 2, 1) := by decide +kernel
theorem dX4_findHands_172 : decode cX4_findHands 172 = .ok (.iaload, 1) := by decide +kernel
theorem dX4_findHands_173 : decode cX4_findHands 173 = .ok (.invokevirtual 209, 3) := by decide +kernel
theorem dX4_findHands_176 : decode cX4_findHands 176 = .ok (.goto 4, 3) := by decide +kernel
theorem dX4_findHands_179 : decode cX4_findHands 179 = .ok (.iload_n 3, 1) := by decide +kernel
theorem dX4_findHands_180 : decode cX4_findHands 180 = .ok (.istore_n 3, 1) := by decide +kernel
theorem dX4_findHands_181 : decode cX4_findHands 181 = .ok (.iinc 4 1, 3) := by decide +kernel
theorem dX4_findHands_184 : decode cX4_findHands 184 = .ok (.goto (-45), 3) := by decide +kernel
theorem dX4_findHands_187 : decode cX4_findHands 187 = .ok (.aload_n 0, 1) := by decide +kernel
theorem dX4_findHands_188 : decode cX4_findHands 188 = .ok (.getfield 89, 3) := by decide +kernel
theorem dX4_findHands_191 : decode cX4_findHands 191 = .ok (.iload_n 2, 1) := by decide +kernel
theorem dX4_findHands_192 : decode cX4_findHands 192 = .ok (.aload_n 0, 1) := by decide +kernel
theorem dX4_findHands_193 : decode cX4_findHands 193 = .ok (.getfield 89, 3) := by decide +kernel
theorem dX4_findHands_196 : decode cX4_findHands 196 = .ok (.iload_n 2, 1) := by decide +kernel
theorem dX4_findHands_197 : decode cX4_findHands 197 = .ok (.iconst 1, 1) := by decide +kernel
theorem dX4_findHands_198 : decode cX4_findHands 198 = .ok (.iadd, 1) := by decide +kernel
theorem dX4_findHands_199 : decode cX4_findHands 199 = .ok (.iaload, 1) := by decide +kernel
theorem dX4_findHands_200 : decode cX4_findHands 200 = .ok (.iload_n 3, 1) := by decide +kernel
theorem dX4_findHands_201 : decode cX4_findHands 201 = .ok (.iadd, 1) := by decide +kernel
theorem dX4_findHands_202 : decode cX4_findHands 202 = .ok (.iastore, 1) := by decide +kernel
theorem dX4_findHands_203 : decode cX4_findHands 203 = .ok (.iinc 2 (-1), 3) := by decide +kernel
theorem dX4_findHands_206 : decode cX4_findHands 206 = .ok (.goto (-76), 3) := by decide +kernel
theorem dX4_findHands_209 : decode cX4_findHands 209 = .ok (.iload_n 1, 1) := by decide +kernel
theorem dX4_findHands_210 : decode cX4_findHands 210 = .ok (.bipush 8, 2) := by decide +kernel
theorem dX4_findHands_212 : decode cX4_findHands 212 = .ok (.if_icmp .gt 7, 3) := by decide +kernel
theorem dX4_findHands_215 : decode cX4_findHands 215 = .ok (.iconst 1, 1) := by decide +kernel
theorem dX4_findHands_216 : decode cX4_findHands 216 = .ok (.goto 4, 3) := by decide +kernel
theorem dX4_findHands_219 : decode cX4_findHands 219 = .ok (.iconst 0, 1) := by decide +kernel
theorem dX4_findHands_220 : decode cX4_findHands 220 = .ok (.ireturn, 1) := by decide +kernel
set_option maxRecDepth 20000 in
theorem ggX4_findMost_X4_takesBack : GoodIn wsX4_findMost wsX4_takesBack := goodIn_r _ [16, 17, 18, 19, 71, 72, 73, 74, 75, 76, 77, 78, 79, 80, 81, 82, 83, 84, 85, 86, 87, 88, 89, 90, 91, 92, 93, 94, 95, 96, 97, 98, 99, 100, 101, 102, 103, 104, 105, 106, 107, 108, 109, 110, 111, 112, 113, 114, 115] rfl (by decide +kernel)
set_option maxRecDepth 20000 in
theorem gX4_findMost_X4_takesBack : GoodIn wsX4_findMost (wsV RX4 219 RX4 yX4_takesBack wsX4_takesBack) := goodIn_app (goodIn_r _ [12, 13, 14, 15] rfl (by decide +kernel)) ggX4_findMost_X4_takesBack
set_option maxRecDepth 20000 in
theorem ggX4_findMost_X4_mayWith : GoodIn wsX4_findMost wsX4_mayWith := goodIn_r _ [23, 9, 24, 25, 26, 15, 27, 8, 1, 19, 28, 29, 30, 31, 32, 33, 34, 35, 36, 37, 38, 39, 40, 41, 42, 17, 43, 44, 45, 46, 47, 48, 49, 50, 51, 52, 53, 54, 55, 56, 57, 18, 71, 72, 73, 74, 75, 76, 77, 78, 79, 80, 81, 82, 83, 84, 85, 86, 87, 88, 89, 90, 91, 92, 93, 94, 95, 96, 97, 98, 99, 100, 101, 102, 103, 104, 105, 106, 107, 108, 109, 110, 111, 112, 113, 114, 115] rfl (by decide +kernel)
set_option maxRecDepth 20000 in
theorem gX4_findMost_X4_mayWith : GoodIn wsX4_findMost (wsV RX4 212 RX4 yX4_mayWith wsX4_mayWith) := goodIn_app (goodIn_r _ [20, 21, 22, 15] rfl (by decide +kernel)) ggX4_findMost_X4_mayWith
set_option maxRecDepth 20000 in
theorem ggX4_findMost_X4_goodOf : GoodIn wsX4_findMost wsX4_goodOf := goodIn_r _ [61, 62, 63, 10, 9, 33, 34, 35, 36, 15, 37, 38, 64, 65, 66, 71, 72, 73, 74, 75, 76, 77, 78, 79, 80, 81, 82, 83, 84, 85, 86, 87, 88, 89, 90, 91, 92, 93, 94, 95, 96, 97, 98, 99, 100, 101, 102, 103, 104, 105, 106, 107, 108, 109, 110, 111, 112, 113, 114, 115] rfl (by decide +kernel)
set_option maxRecDepth 20000 in
theorem gX4_findMost_X4_goodOf : GoodIn wsX4_findMost (wsV RX4 209 RX4 yX4_goodOf wsX4_goodOf) := goodIn_app (goodIn_r _ [58, 59, 60, 15] rfl (by decide +kernel)) ggX4_findMost_X4_goodOf
set_option maxRecDepth 20000 in
theorem ggX4_findMost_X4_writes : GoodIn wsX4_findMost wsX4_writes := goodIn_r _ [70, 43, 17, 44, 50, 1, 52, 18, 19, 71, 72, 73, 74, 75, 76, 77, 78, 79, 80, 81, 82, 83, 84, 85, 86, 87, 88, 89, 90, 91, 92, 93, 94, 95, 96, 97, 98, 99, 100, 101, 102, 103, 104, 105, 106, 107, 108, 109, 110, 111, 112, 113, 114, 115] rfl (by decide +kernel)
set_option maxRecDepth 20000 in
theorem gX4_findMost_X4_writes : GoodIn wsX4_findMost (wsV RX4 215 RX4 yX4_writes wsX4_writes) := goodIn_app (goodIn_r _ [67, 68, 69, 15] rfl (by decide +kernel)) ggX4_findMost_X4_writes
theorem dX4_findMost_0 : decode cX4_findMost 0 = .ok (.aload_n 0, 1) := by decide +kernel
theorem dX4_findMost_1 : decode cX4_findMost 1 = .ok (.getfield 178, 3) := by decide +kernel
theorem dX4_findMost_4 : decode cX4_findMost 4 = .ok (.istore_n 1, 1) := by decide +kernel
theorem dX4_findMost_5 : decode cX4_findMost 5 = .ok (.iconst (-1), 1) := by decide +kernel
theorem dX4_findMost_6 : decode cX4_findMost 6 = .ok (.istore_n 2, 1) := by decide +kernel
theorem dX4_findMost_7 : decode cX4_findMost 7 = .ok (.iconst 0, 1) := by decide +kernel
theorem dX4_findMost_8 : decode cX4_findMost 8 = .ok (.istore_n 3, 1) := by decide +kernel
theorem dX4_findMost_9 : decode cX4_findMost 9 = .ok (.iconst 0, 1) := by decide +kernel
theorem dX4_findMost_10 : decode cX4_findMost 10 = .ok (.istore 4, 2) := by decide +kernel
theorem dX4_findMost_12 : decode cX4_findMost 12 = .ok (.aload_n 0, 1) := by decide +kernel
theorem dX4_findMost_13 : decode cX4_findMost 13 = .ok (.bipush (-9), 2) := by decide +kernel
theorem dX4_findMost_15 : decode cX4_findMost 15 = .ok (.putfield 258, 3) := by decide +kernel
theorem dX4_findMost_18 : decode cX4_findMost 18 = .ok (.aload_n 0, 1) := by decide +kernel
theorem dX4_findMost_19 : decode cX4_findMost 19 = .ok (.getfield 255, 3) := by decide +kernel
theorem dX4_findMost_22 : decode cX4_findMost 22 = .ok (.ifCond .le 10, 3) := by decide +kernel
theorem dX4_findMost_25 : decode cX4_findMost 25 = .ok (.aload_n 0, 1) := by decide +kernel
theorem dX4_findMost_26 : decode cX4_findMost 26 = .ok (.getfield 83, 3) := by decide +kernel
theorem dX4_findMost_29 : decode cX4_findMost 29 = .ok (.iconst 0, 1) := by decide +kernel
theorem dX4_findMost_30 : decode cX4_findMost 30 = .ok (.iconst (-1), 1) := by decide +kernel
theorem dX4_findMost_31 : decode cX4_findMost 31 = .ok (.iastore, 1) := by decide +kernel
theorem dX4_findMost_32 : decode cX4_findMost 32 = .ok (.iload 4, 2) := by decide +kernel
theorem dX4_findMost_34 : decode cX4_findMost 34 = .ok (.ifCond .lt 276, 3) := by decide +kernel
theorem dX4_findMost_37 : decode cX4_findMost 37 = .ok (.iload 4, 2) := by decide +kernel
theorem dX4_findMost_39 : decode cX4_findMost 39 = .ok (.aload_n 0, 1) := by decide +kernel
theorem dX4_findMost_40 : decode cX4_findMost 40 = .ok (.getfield 255, 3) := by decide +kernel
theorem dX4_findMost_43 : decode cX4_findMost 43 = .ok (.if_icmp .ne 51, 3) := by decide +kernel
theorem dX4_findMost_46 : decode cX4_findMost 46 = .ok (.iload_n 3, 1) := by decide +kernel
theorem dX4_findMost_47 : decode cX4_findMost 47 = .ok (.iload_n 2, 1) := by decide +kernel
theorem dX4_findMost_48 : decode cX4_findMost 48 = .ok (.if_icmp .le 40, 3) := by decide +kernel
theorem dX4_findMost_51 : decode cX4_findMost 51 = .ok (.iload_n 3, 1) := by decide +kernel
theorem dX4_findMost_52 : decode cX4_findMost 52 = .ok (.istore_n 2, 1) := by decide +kernel
theorem dX4_findMost_53 : decode cX4_findMost 53 = .ok (.aload_n 0, 1) := by decide +kernel
theorem dX4_findMost_54 : decode cX4_findMost 54 = .ok (.aload_n 0, 1) := by decide +kernel
theorem dX4_findMost_55 : decode cX4_findMost 55 = .ok (.getfield 255, 3) := by decide +kernel
theorem dX4_findMost_58 : decode cX4_findMost 58 = .ok (.ifCond .le 25, 3) := by decide +kernel
theorem dX4_findMost_61 : decode cX4_findMost 61 = .ok (.aload_n 0, 1) := by decide +kernel
theorem dX4_findMost_62 : decode cX4_findMost 62 = .ok (.getfield 83, 3) := by decide +kernel
theorem dX4_findMost_65 : decode cX4_findMost 65 = .ok (.iconst 0, 1) := by decide +kernel
theorem dX4_findMost_66 : decode cX4_findMost 66 = .ok (.iaload, 1) := by decide +kernel
theorem dX4_findMost_67 : decode cX4_findMost 67 = .ok (.aload_n 0, 1) := by decide +kernel
theorem dX4_findMost_68 : decode cX4_findMost 68 = .ok (.getfield 93, 3) := by decide +kernel
theorem dX4_findMost_71 : decode cX4_findMost 71 = .ok (.if_icmp .ge 12, 3) := by decide +kernel
theorem dX4_findMost_74 : decode cX4_findMost 74 = .ok (.aload_n 0, 1) := by decide +kernel
theorem dX4_findMost_75 : decode cX4_findMost 75 = .ok (.getfield 83, 3) := by decide +kernel
theorem dX4_findMost_78 : decode cX4_findMost 78 = .ok (.iconst 0, 1) := by decide +kernel
theorem dX4_findMost_79 : decode cX4_findMost 79 = .ok (.iaload, 1) := by decide +kernel
theorem dX4_findMost_80 : decode cX4_findMost 80 = .ok (.goto 5, 3) := by decide +kernel
theorem dX4_findMost_83 : decode cX4_findMost 83 = .ok (.bipush (-9), 2) := by decide +kernel
theorem dX4_findMost_85 : decode cX4_findMost 85 = .ok (.putfield 258, 3) := by decide +kernel
theorem dX4_findMost_88 : decode cX4_findMost 88 = .ok (.iinc 4 (-1), 3) := by decide +kernel
theorem dX4_findMost_91 : decode cX4_findMost 91 = .ok (.goto (-59), 3) := by decide +kernel
theorem dX4_findMost_94 : decode cX4_findMost 94 = .ok (.aload_n 0, 1) := by decide +kernel
theorem dX4_findMost_95 : decode cX4_findMost 95 = .ok (.getfield 83, 3) := by decide +kernel
theorem dX4_findMost_98 : decode cX4_findMost 98 = .ok (.iload 4, 2) := by decide +kernel
theorem dX4_findMost_100 : decode cX4_findMost 100 = .ok (.iaload, 1) := by decide +kernel
theorem dX4_findMost_101 : decode cX4_findMost 101 = .ok (.ifCond .lt 31, 3) := by decide +kernel
theorem dX4_findMost_104 : decode cX4_findMost 104 = .ok (.aload_n 0, 1) := by decide +kernel
theorem dX4_findMost_105 : decode cX4_findMost 105 = .ok (.getfield 83, 3) := by decide +kernel
theorem dX4_findMost_108 : decode cX4_findMost 108 = .ok (.iload 4, 2) := by decide +kernel
theorem dX4_findMost_110 : decode cX4_findMost 110 = .ok (.iaload, 1) := by decide +kernel
theorem dX4_findMost_111 : decode cX4_findMost 111 = .ok (.aload_n 0, 1) := by decide +kernel
theorem dX4_findMost_112 : decode cX4_findMost 112 = .ok (.getfield 93, 3) := by decide +kernel
theorem dX4_findMost_115 : decode cX4_findMost 115 = .ok (.if_icmp .ge 17, 3) := by decide +kernel
theorem dX4_findMost_118 : decode cX4_findMost 118 = .ok (.aload_n 0, 1) := by decide +kernel
theorem dX4_findMost_119 : decode cX4_findMost 119 = .ok (.invokevirtual 219, 3) := by decide +kernel
theorem dX4_findMost_122 : decode cX4_findMost 122 = .ok (.iload_n 3, 1) := by decide +kernel
theorem dX4_findMost_123 : decode cX4_findMost 123 = .ok (.aload_n 0, 1) := by decide +kernel
theorem dX4_findMost_124 : decode cX4_findMost 124 = .ok (.getfield 86, 3) := by decide +kernel
theorem dX4_findMost_127 : decode cX4_findMost 127 = .ok (.iload 4, 2) := by decide +kernel
theorem dX4_findMost_129 : decode cX4_findMost 129 = .ok (.iaload, 1) := by decide +kernel
theorem dX4_findMost_130 : decode cX4_findMost 130 = .ok (.isub, 1) := by decide +kernel
theorem dX4_findMost_131 : decode cX4_findMost 131 = .ok (.istore_n 3, 1) := by decide +kernel
theorem dX4_findMost_132 : decode cX4_findMost 132 = .ok (.aload_n 0, 1) := by decide +kernel
theorem dX4_findMost_133 : decode cX4_findMost 133 = .ok (.getfield 80, 3) := by decide +kernel
theorem dX4_findMost_136 : decode cX4_findMost 136 = .ok (.iload 4, 2) := by decide +kernel
theorem dX4_findMost_138 : decode cX4_findMost 138 = .ok (.iaload, 1) := by decide +kernel
theorem dX4_findMost_139 : decode cX4_findMost 139 = .ok (.istore 5, 2) := by decide +kernel
theorem dX4_findMost_141 : decode cX4_findMost 141 = .ok (.aload_n 0, 1) := by decide +kernel
theorem dX4_findMost_142 : decode cX4_findMost 142 = .ok (.aload_n 0, 1) := by decide +kernel
theorem dX4_findMost_143 : decode cX4_findMost 143 = .ok (.getfield 34, 3) := by decide +kernel
theorem dX4_findMost_146 : decode cX4_findMost 146 = .ok (.iload 5, 2) := by decide +kernel
theorem dX4_findMost_148 : decode cX4_findMost 148 = .ok (.iaload, 1) := by decide +kernel
theorem dX4_findMost_149 : decode cX4_findMost 149 = .ok (.putfield 178, 3) := by decide +kernel
theorem dX4_findMost_152 : decode cX4_findMost 152 = .ok (.aload_n 0, 1) := by decide +kernel
theorem dX4_findMost_153 : decode cX4_findMost 153 = .ok (.getfield 83, 3) := by decide +kernel
theorem dX4_findMost_156 : decode cX4_findMost 156 = .ok (.iload 4, 2) := by decide +kernel
theorem dX4_findMost_158 : decode cX4_findMost 158 = .ok (.iaload, 1) := by decide +kernel
theorem dX4_findMost_159 : decode cX4_findMost 159 = .ok (.iconst 1, 1) := by decide +kernel
theorem dX4_findMost_160 : decode cX4_findMost 160 = .ok (.iadd, 1) := by decide +kernel
theorem dX4_findMost_161 : decode cX4_findMost 161 = .ok (.istore 6, 2) := by decide +kernel
theorem dX4_findMost_163 : decode cX4_findMost 163 = .ok (.iload 6, 2) := by decide +kernel
theorem dX4_findMost_165 : decode cX4_findMost 165 = .ok (.aload_n 0, 1) := by decide +kernel
theorem dX4_findMost_166 : decode cX4_findMost 166 = .ok (.getfield 93, 3) := by decide +kernel
theorem dX4_findMost_169 : decode cX4_findMost 169 = .ok (.if_icmp .ge 20, 3) := by decide +kernel
theorem dX4_findMost_172 : decode cX4_findMost 172 = .ok (.aload_n 0, 1) := by decide +kernel
theorem dX4_findMost_173 : decode cX4_findMost 173 = .ok (.iload 6, 2) := by decide +kernel
theorem dX4_findMost_175 : decode cX4_findMost 175 = .ok (.iload 5, 2) := by decide +kernel
theorem dX4_findMost_177 : decode cX4_findMost 177 = .ok (.invokevirtual 212, 3) := by decide +kernel
theorem dX4_findMost_180 : decode cX4_findMost 180 = .ok (.ifCond .ne 9, 3) := by decide +kernel
theorem dX4_findMost_183 : decode cX4_findMost 183 = .ok (.iinc 6 1, 3) := by decide +kernel
theorem dX4_findMost_186 : decode cX4_findMost 186 = .ok (.goto (-23), 3) := by decide +kernel
theorem dX4_findMost_189 : decode cX4_findMost 189 = .ok (.aload_n 0, 1) := by decide +kernel
theorem dX4_findMost_190 : decode cX4_findMost 190 = .ok (.getfield 83, 3) := by decide +kernel
theorem dX4_findMost_193 : decode cX4_findMost 193 = .ok (.iload 4, 2) := by decide +kernel
theorem dX4_findMost_195 : decode cX4_findMost 195 = .ok (.iload 6, 2) := by decide +kernel
theorem dX4_findMost_197 : decode cX4_findMost 197 = .ok (.iastore, 1) := by decide +kernel
theorem dX4_findMost_198 : decode cX4_findMost 198 = .ok (.iload 6, 2) := by decide +kernel
theorem dX4_findMost_200 : decode cX4_findMost 200 = .ok (.aload_n 0, 1) := by decide +kernel
theorem dX4_findMost_201 : decode cX4_findMost 201 = .ok (.getfield 93, 3) := by decide +kernel
theorem dX4_findMost_204 : decode cX4_findMost 204 = .ok (.if_icmp .le 9, 3) := by decide +kernel
theorem dX4_findMost_207 : decode cX4_findMost 207 = .ok (.iinc 4 (-1), 3) := by decide +kernel
theorem dX4_findMost_210 : decode cX4_findMost 210 = .ok (.goto (-178), 3) := by decide +kernel
theorem dX4_findMost_213 : decode cX4_findMost 213 = .ok (.iload 6, 2) := by decide +kernel
theorem dX4_findMost_215 : decode cX4_findMost 215 = .ok (.aload_n 0, 1) := by decide +kernel
theorem dX4_findMost_216 : decode cX4_findMost 216 = .ok (.getfield 93, 3) := by decide +kernel
theorem dX4_findMost_219 : decode cX4_findMost 219 = .ok (.if_icmp .ge 50, 3) := by decide +kernel
theorem dX4_findMost_222 : decode cX4_findMost 222 = .ok (.aload_n 0, 1) := by decide +kernel
theorem dX4_findMost_223 : decode cX4_findMost 223 = .ok (.getfield 86, 3) := by decide +kernel
theorem dX4_findMost_226 : decode cX4_findMost 226 = .ok (.iload 4, 2) := by decide +kernel
theorem dX4_findMost_228 : decode cX4_findMost 228 = .ok (.aload_n 0, 1) := by decide +kernel
theorem dX4_findMost_229 : decode cX4_findMost 229 = .ok (.iload 6, 2) := by decide +kernel
theorem dX4_findMost_231 : decode cX4_findMost 231 = .ok (.iload 5, 2) := by decide +kernel
theorem dX4_findMost_233 : decode cX4_findMost 233 = .ok (.invokevirtual 209, 3) := by decide +kernel
theorem dX4_findMost_236 : decode cX4_findMost 236 = .ok (.iastore, 1) := by decide +kernel
theorem dX4_findMost_237 : decode cX4_findMost 237 = .ok (.iload_n 3, 1) := by decide +kernel
theorem dX4_findMost_238 : decode cX4_findMost 238 = .ok (.aload_n 0, 1) := by decide +kernel
theorem dX4_findMost_239 : decode cX4_findMost 239 = .ok (.getfield 86, 3) := by decide +kernel
theorem dX4_findMost_242 : decode cX4_findMost 242 = .ok (.iload 4, 2) := by decide +kernel
theorem dX4_findMost_244 : decode cX4_findMost 244 = .ok (.iaload, 1) := by decide +kernel
theorem dX4_findMost_245 : decode cX4_findMost 245 = .ok (.iadd, 1) := by decide +kernel
theorem dX4_findMost_246 : decode cX4_findMost 246 = .ok (.istore_n 3, 1) := by decide +kernel
theorem dX4_findMost_247 : decode cX4_findMost 247 = .ok (.aload_n 0, 1) := by decide +kernel
theorem dX4_findMost_248 : decode cX4_findMost 248 = .ok (.iload 6, 2) := by decide +kernel
theorem dX4_findMost_250 : decode cX4_findMost 250 = .ok (.aload_n 0, 1) := by decide +kernel
theorem dX4_findMost_251 : decode cX4_findMost 251 = .ok (.getfield 22, 3) := by decide +kernel
theorem dX4_findMost_254 : decode cX4_findMost 254 = .ok (.iload 5, 2) := by decide +kernel
theorem dX4_findMost_256 : decode cX4_findMost 256 = .ok (.iaload, 1) := by decide +kernel
theorem dX4_findMost_257 : decode cX4_findMost 257 = .ok (.aload_n 0, 1) := by decide +kernel
theorem dX4_findMost_258 : decode cX4_findMost 258 = .ok (.getfield 28, 3) := by decide +kernel
theorem dX4_findMost_261 : decode cX4_findMost 261 = .ok (.iload 5, 2) := by decide +kernel
theorem dX4_findMost_263 : decode cX4_findMost 263 = .ok (.iaload, 1) := by decide +kernel
theorem dX4_findMost_264 : decode cX4_findMost 264 = .ok (.iload 5, 2) := by decide +kernel
theorem dX4_findMost_266 : decode cX4_findMost 266 = .ok (.invokevirtual 215, 3) := by decide +kernel
theorem dX4_findMost_269 : decode cX4_findMost 269 = .ok (.iload_n 3, 1) := by decide +kernel
theorem dX4_findMost_270 : decode cX4_findMost 270 = .ok (.aload_n 0, 1) := by decide +kernel
theorem dX4_findMost_271 : decode cX4_findMost 271 = .ok (.getfield 89, 3) := by decide +kernel
theorem dX4_findMost_274 : decode cX4_findMost 274 = .ok (.iload 4, 2) := by decide +kernel
theorem dX4_findMost_276 : decode cX4_findMost 276 = .ok (.iconst 1, 1) := by decide +kernel
theorem dX4_findMost_277 : decode cX4_findMost 277 = .ok (.iadd, 1) := by decide +kernel
theorem dX4_findMost_278 : decode cX4_findMost 278 = .ok (.iaload, 1) := by decide +kernel
theorem dX4_findMost_279 : decode cX4_findMost 279 = .ok (.iadd, 1) := by decide +kernel
theorem dX4_findMost_280 : decode cX4_findMost 280 = .ok (.iload_n 2, 1) := by decide +kernel
theorem dX4_findMost_281 : decode cX4_findMost 281 = .ok (.if_icmp .gt 6, 3) := by decide +kernel
theorem dX4_findMost_284 : decode cX4_findMost 284 = .ok (.goto (-252), 3) := by decide +kernel
theorem dX4_findMost_287 : decode cX4_findMost 287 = .ok (.iinc 4 1, 3) := by decide +kernel
theorem dX4_findMost_290 : decode cX4_findMost 290 = .ok (.iload 4, 2) := by decide +kernel
theorem dX4_findMost_292 : decode cX4_findMost 292 = .ok (.aload_n 0, 1) := by decide +kernel
theorem dX4_findMost_293 : decode cX4_findMost 293 = .ok (.getfield 255, 3) := by decide +kernel
theorem dX4_findMost_296 : decode cX4_findMost 296 = .ok (.if_icmp .ge 11, 3) := by decide +kernel
theorem dX4_findMost_299 : decode cX4_findMost 299 = .ok (.aload_n 0, 1) := by decide +kernel
theorem dX4_findMost_300 : decode cX4_findMost 300 = .ok (.getfield 83, 3) := by decide +kernel
theorem dX4_findMost_303 : decode cX4_findMost 303 = .ok (.iload 4, 2) := by decide +kernel
theorem dX4_findMost_305 : decode cX4_findMost 305 = .ok (.iconst (-1), 1) := by decide +kernel
theorem dX4_findMost_306 : decode cX4_findMost 306 = .ok (.iastore, 1) := by decide +kernel
theorem dX4_findMost_307 : decode cX4_findMost 307 = .ok (.goto (-275), 3) := by decide +kernel
theorem dX4_findMost_310 : decode cX4_findMost 310 = .ok (.aload_n 0, 1) := by decide +kernel
theorem dX4_findMost_311 : decode cX4_findMost 311 = .ok (.iload_n 1, 1) := by decide +kernel
theorem dX4_findMost_312 : decode cX4_findMost 312 = .ok (.putfield 178, 3) := by decide +kernel
theorem dX4_findMost_315 : decode cX4_findMost 315 = .ok (.iload_n 2, 1) := by decide +kernel
theorem dX4_findMost_316 : decode cX4_findMost 316 = .ok (.ireturn, 1) := by decide +kernel
set_option maxRecDepth 20000 in
theorem ggX4_most_X4_findHands : GoodIn wsX4_most wsX4_findHands := goodIn_r _ [5, 6, 7, 8, 9, 10, 11, 12, 13, 14, 15, 16, 17, 4, 18, 19, 20, 21, 22, 23, 24, 25, 26, 27, 28, 29, 30, 31, 85, 86, 87, 88, 89, 90, 91, 92, 93, 94, 95, 96, 97, 98, 99, 100, 101, 102, 103, 104, 105, 106, 107, 108, 109, 110, 111, 112, 113, 114, 115, 116, 117, 118, 119, 120, 121, 122, 123, 124, 125, 126, 127, 128, 129] rfl (by decide +kernel)
set_option maxRecDepth 20000 in
theorem gX4_most_X4_findHands : GoodIn wsX4_most (wsV RX4 261 RX4 yX4_findHands wsX4_findHands) := goodIn_app (goodIn_r _ [1, 2, 3, 4] rfl (by decide +kernel)) ggX4_most_X4_findHands
set_option maxRecDepth 20000 in
theorem ggX4_most_X4_findMost : GoodIn wsX4_most wsX4_findMost := goodIn_r _ [35, 7, 36, 6, 37, 14, 38, 12, 9, 22, 21, 13, 39, 40, 41, 4, 42, 43, 44, 11, 45, 46, 47, 48, 49, 50, 51, 52, 10, 53, 54, 55, 56, 23, 24, 25, 26, 27, 28, 57, 58, 59, 60, 61, 62, 63, 64, 65, 66, 67, 68, 69, 70, 71, 72, 73, 74, 75, 15, 16, 17, 18, 19, 20, 29, 30, 31, 76, 77, 78, 79, 85, 86, 87, 88, 89, 90, 91, 92, 93, 94, 95, 96, 97, 98, 99, 100, 101, 102, 103, 104, 105, 106, 107, 108, 109, 110, 111, 112, 113, 114, 115, 116, 117, 118, 119, 120, 121, 122, 123, 124, 125, 126, 127, 128, 129] rfl (by decide +kernel)
set_option maxRecDepth 20000 in
theorem gX4_most_X4_findMost : GoodIn wsX4_most (wsV RX4 264 RX4 yX4_findMost wsX4_findMost) := goodIn_app (goodIn_r _ [32, 33, 34, 4] rfl (by decide +kernel)) ggX4_most_X4_findMost
set_option maxRecDepth 20000 in
theorem ggX4_most_X4_no : GoodIn wsX4_most wsX4_no := goodIn_r _ [83, 84, 85, 86, 87, 88, 89, 90, 91, 92, 93, 94, 95, 96, 97, 98, 99, 100, 101, 102, 103, 104, 105, 106, 107, 108, 109, 110, 111, 112, 113, 114, 115, 116, 117, 118, 119, 120, 121, 122, 123, 124, 125, 126, 127, 128, 129] rfl (by decide +kernel)
set_option maxRecDepth 20000 in
theorem gX4_most_X4_no : GoodIn wsX4_most (wsV RX4 106 RX4 yX4_no wsX4_no) := goodIn_app (goodIn_r _ [80, 81, 82, 4] rfl (by decide +kernel)) ggX4_most_X4_no
theorem dX4_most_0 : decode cX4_most 0 = .ok (.aload_n 0, 1) := by decide +kernel
theorem dX4_most_1 : decode cX4_most 1 = .ok (.invokevirtual 261, 3) := by decide +kernel
theorem dX4_most_4 : decode cX4_most 4 = .ok (.ifCond .eq 10, 3) := by decide +kernel
theorem dX4_most_7 : decode cX4_most 7 = .ok (.aload_n 0, 1) := by decide +kernel
theorem dX4_most_8 : decode cX4_most 8 = .ok (.invokevirtual 264, 3) := by decide +kernel
theorem dX4_most_11 : decode cX4_most 11 = .ok (.goto 9, 3) := by decide +kernel
theorem dX4_most_14 : decode cX4_most 14 = .ok (.aload_n 0, 1) := by decide +kernel
theorem dX4_most_15 : decode cX4_most 15 = .ok (.bipush (-6), 2) := by decide +kernel
theorem dX4_most_17 : decode cX4_most 17 = .ok (.invokevirtual 106, 3) := by decide +kernel
theorem dX4_most_20 : decode cX4_most 20 = .ok (.ireturn, 1) := by decide +kernel
set_option maxRecDepth 20000 in
theorem ggX4_first_X4_findHands : GoodIn wsX4_first wsX4_findHands := goodIn_r _ [6, 7, 8, 9, 10, 11, 12, 13, 14, 15, 16, 17, 18, 5, 19, 20, 21, 22, 23, 24, 25, 26, 27, 28, 29, 30, 31, 32, 85, 86, 87, 88, 89, 90, 91, 92, 93, 94, 95, 96, 97, 98, 99, 100, 101, 102, 103, 104, 105, 106, 107, 108, 109, 110, 111, 112, 113, 114, 115, 116, 117, 118, 119, 120, 121, 122, 123, 124, 125, 126, 127, 128, 129] rfl (by decide +kernel)
set_option maxRecDepth 20000 in
theorem gX4_first_X4_findHands : GoodIn wsX4_first (wsV RX4 261 RX4 yX4_findHands wsX4_findHands) := goodIn_app (goodIn_r _ [2, 3, 4, 5] rfl (by decide +kernel)) ggX4_first_X4_findHands
set_option maxRecDepth 20000 in
theorem ggX4_first_X4_no : GoodIn wsX4_first wsX4_no := goodIn_r _ [36, 37, 85, 86, 87, 88, 89, 90, 91, 92, 93, 94, 95, 96, 97, 98, 99, 100, 101, 102, 103, 104, 105, 106, 107, 108, 109, 110, 111, 112, 113, 114, 115, 116, 117, 118, 119, 120, 121, 122, 123, 124, 125, 126, 127, 128, 129] rfl (by decide +kernel)
set_option maxRecDepth 20000 in
theorem gX4_first_X4_no : GoodIn wsX4_first (wsV RX4 106 RX4 yX4_no wsX4_no) := goodIn_app (goodIn_r _ [33, 34, 35, 5] rfl (by decide +kernel)) ggX4_first_X4_no
set_option maxRecDepth 20000 in
theorem ggX4_first_X4_findMost : GoodIn wsX4_first wsX4_findMost := goodIn_r _ [41, 8, 1, 7, 42, 15, 43, 13, 10, 23, 22, 14, 44, 45, 46, 5, 47, 48, 49, 12, 50, 51, 52, 53, 54, 55, 56, 57, 11, 58, 59, 60, 61, 24, 25, 26, 27, 28, 29, 62, 63, 64, 65, 66, 67, 68, 69, 70, 71, 72, 73, 74, 75, 76, 77, 78, 79, 80, 16, 17, 18, 19, 20, 21, 30, 31, 32, 81, 82, 83, 84, 85, 86, 87, 88, 89, 90, 91, 92, 93, 94, 95, 96, 97, 98, 99, 100, 101, 102, 103, 104, 105, 106, 107, 108, 109, 110, 111, 112, 113, 114, 115, 116, 117, 118, 119, 120, 121, 122, 123, 124, 125, 126, 127, 128, 129] rfl (by decide +kernel)
set_option maxRecDepth 20000 in
theorem gX4_first_X4_findMost : GoodIn wsX4_first (wsV RX4 264 RX4 yX4_findMost wsX4_findMost) := goodIn_app (goodIn_r _ [38, 39, 40, 5] rfl (by decide +kernel)) ggX4_first_X4_findMost
theorem dX4_first_0 : decode cX4_first 0 = .ok (.aload_n 0, 1) := by decide +kernel
theorem dX4_first_1 : decode cX4_first 1 = .ok (.invokevirtual 261, 3) := by decide +kernel
theorem dX4_first_4 : decode cX4_first 4 = .ok (.ifCond .ne 10, 3) := by decide +kernel
theorem dX4_first_7 : decode cX4_first 7 = .ok (.aload_n 0, 1) := by decide +kernel
theorem dX4_first_8 : decode cX4_first 8 = .ok (.bipush (-6), 2) := by decide +kernel
theorem dX4_first_10 : decode cX4_first 10 = .ok (.invokevirtual 106, 3) := by decide +kernel
theorem dX4_first_13 : decode cX4_first 13 = .ok (.ireturn, 1) := by decide +kernel
theorem dX4_first_14 : decode cX4_first 14 = .ok (.aload_n 0, 1) := by decide +kernel
theorem dX4_first_15 : decode cX4_first 15 = .ok (.invokevirtual 264, 3) := by decide +kernel
theorem dX4_first_18 : decode cX4_first 18 = .ok (.pop, 1) := by decide +kernel
theorem dX4_first_19 : decode cX4_first 19 = .ok (.aload_n 0, 1) := by decide +kernel
theorem dX4_first_20 : decode cX4_first 20 = .ok (.getfield 258, 3) := by decide +kernel
theorem dX4_first_23 : decode cX4_first 23 = .ok (.ireturn, 1) := by decide +kernel
set_option maxRecDepth 20000 in
theorem ggX4_gap_X4_isRule : GoodIn wsX4_gap wsX4_isRule := goodIn_r _ [4] rfl (by decide +kernel)
set_option maxRecDepth 20000 in
theorem gX4_gap_X4_isRule : GoodIn wsX4_gap (va_wsS RX4 237 yX4_isRule wsX4_isRule) := goodIn_app (goodIn_r _ [1, 2, 3] rfl (by decide +kernel)) ggX4_gap_X4_isRule
set_option maxRecDepth 20000 in
theorem ggX4_gap_X4_lower : GoodIn wsX4_gap wsX4_lower := goodIn_r _ [8, 9, 10, 141, 142, 143, 144, 145, 146, 147, 148, 149, 150, 151, 152, 153, 154, 155, 156, 157, 158, 159, 160, 161, 162, 163, 164, 165, 166, 167, 168, 169, 170, 171, 172, 173, 174, 175, 176, 177, 178, 179, 180, 181, 182, 183, 184, 185] rfl (by decide +kernel)
set_option maxRecDepth 20000 in
theorem gX4_gap_X4_lower : GoodIn wsX4_gap (wsV RX4 267 RX4 yX4_lower wsX4_lower) := goodIn_app (goodIn_r _ [5, 6, 7, 3] rfl (by decide +kernel)) ggX4_gap_X4_lower
set_option maxRecDepth 20000 in
theorem ggX4_gap_X4_findHands : GoodIn wsX4_gap wsX4_findHands := goodIn_r _ [14, 15, 16, 17, 18, 19, 20, 21, 22, 23, 24, 25, 26, 3, 27, 28, 29, 30, 31, 32, 33, 34, 35, 36, 37, 38, 39, 40, 141, 142, 143, 144, 145, 146, 147, 148, 149, 150, 151, 152, 153, 154, 155, 156, 157, 158, 159, 160, 161, 162, 163, 164, 165, 166, 167, 168, 169, 170, 171, 172, 173, 174, 175, 176, 177, 178, 179, 180, 181, 182, 183, 184, 185] rfl (by decide +kernel)
set_option maxRecDepth 20000 in
theorem gX4_gap_X4_findHands : GoodIn wsX4_gap (wsV RX4 261 RX4 yX4_findHands wsX4_findHands) := goodIn_app (goodIn_r _ [11, 12, 13, 3] rfl (by decide +kernel)) ggX4_gap_X4_findHands
set_option maxRecDepth 20000 in
theorem ggX4_gap_X4_findMost : GoodIn wsX4_gap wsX4_findMost := goodIn_r _ [44, 16, 45, 15, 46, 23, 47, 21, 18, 31, 30, 22, 48, 49, 50, 3, 51, 52, 53, 20, 54, 55, 56, 57, 58, 59, 60, 61, 19, 62, 63, 64, 65, 32, 33, 34, 35, 36, 37, 66, 67, 68, 69, 70, 71, 72, 73, 74, 75, 76, 77, 78, 79, 80, 81, 82, 83, 84, 24, 25, 26, 27, 28, 29, 38, 39, 40, 85, 86, 87, 88, 141, 142, 143, 144, 145, 146, 147, 148, 149, 150, 151, 152, 153, 154, 155, 156, 157, 158, 159, 160, 161, 162, 163, 164, 165, 166, 167, 168, 169, 170, 171, 172, 173, 174, 175, 176, 177, 178, 179, 180, 181, 182, 183, 184, 185] rfl (by decide +kernel)
set_option maxRecDepth 20000 in
theorem gX4_gap_X4_findMost : GoodIn wsX4_gap (wsV RX4 264 RX4 yX4_findMost wsX4_findMost) := goodIn_app (goodIn_r _ [41, 42, 43, 3] rfl (by decide +kernel)) ggX4_gap_X4_findMost
set_option maxRecDepth 20000 in
theorem ggX4_gap_X4_runOf : GoodIn wsX4_gap wsX4_runOf := goodIn_r _ [92, 93, 94, 16, 17, 18, 95, 96, 97, 3, 98, 99, 100, 32, 37, 28, 31, 29, 30, 19, 20, 70, 71, 77, 79, 53, 23, 52, 72, 78, 80, 101, 102, 103, 104, 105, 106, 107, 108, 109, 110, 111, 112, 113, 114, 115, 116, 117, 118, 119, 120, 121, 122, 123, 124, 125, 126, 127, 128, 54, 55, 56, 57, 58, 59, 60, 61, 62, 63, 64, 65, 33, 34, 35, 36, 66, 67, 68, 69, 73, 74, 75, 76, 81, 82, 83, 84, 129, 130, 131, 132, 133, 134, 135, 136, 24, 25, 26, 27, 38, 39, 40, 137, 138, 139, 140, 85, 86, 87, 88, 141, 142, 143, 144, 145, 146, 147, 148, 149, 150, 151, 152, 153, 154, 155, 156, 157, 158, 159, 160, 161, 162, 163, 164, 165, 166, 167, 168, 169, 170, 171, 172, 173, 174, 175, 176, 177, 178, 179, 180, 181, 182, 183, 184, 185] rfl (by decide +kernel)
set_option maxRecDepth 20000 in
theorem gX4_gap_X4_runOf : GoodIn wsX4_gap (wsV RX4 252 RX4 yX4_runOf wsX4_runOf) := goodIn_app (goodIn_r _ [89, 90, 91, 3] rfl (by decide +kernel)) ggX4_gap_X4_runOf
theorem dX4_gap_0 : decode cX4_gap 0 = .ok (.iload_n 1, 1) := by decide +kernel
theorem dX4_gap_1 : decode cX4_gap 1 = .ok (.invokestatic 237, 3) := by decide +kernel
theorem dX4_gap_4 : decode cX4_gap 4 = .ok (.ifCond .ne 10, 3) := by decide +kernel
theorem dX4_gap_7 : decode cX4_gap 7 = .ok (.aload_n 0, 1) := by decide +kernel
theorem dX4_gap_8 : decode cX4_gap 8 = .ok (.bipush (-2), 2) := by decide +kernel
theorem dX4_gap_10 : decode cX4_gap 10 = .ok (.invokevirtual 267, 3) := by decide +kernel
theorem dX4_gap_13 : decode cX4_gap 13 = .ok (.ireturn, 1) := by decide +kernel
theorem dX4_gap_14 : decode cX4_gap 14 = .ok (.aload_n 0, 1) := by decide +kernel
theorem dX4_gap_15 : decode cX4_gap 15 = .ok (.invokevirtual 261, 3) := by decide +kernel
theorem dX4_gap_18 : decode cX4_gap 18 = .ok (.ifCond .ne 10, 3) := by decide +kernel
theorem dX4_gap_21 : decode cX4_gap 21 = .ok (.aload_n 0, 1) := by decide +kernel
theorem dX4_gap_22 : decode cX4_gap 22 = .ok (.bipush (-6), 2) := by decide +kernel
theorem dX4_gap_24 : decode cX4_gap 24 = .ok (.invokevirtual 267, 3) := by decide +kernel
theorem dX4_gap_27 : decode cX4_gap 27 = .ok (.ireturn, 1) := by decide +kernel
theorem dX4_gap_28 : decode cX4_gap 28 = .ok (.aload_n 0, 1) := by decide +kernel
theorem dX4_gap_29 : decode cX4_gap 29 = .ok (.invokevirtual 264, 3) := by decide +kernel
theorem dX4_gap_32 : decode cX4_gap 32 = .ok (.aload_n 0, 1) := by decide +kernel
theorem dX4_gap_33 : decode cX4_gap 33 = .ok (.iload_n 1, 1) := by decide +kernel
theorem dX4_gap_34 : decode cX4_gap 34 = .ok (.iconst 0, 1) := by decide +kernel
theorem dX4_gap_35 : decode cX4_gap 35 = .ok (.invokevirtual 252, 3) := by decide +kernel
theorem dX4_gap_38 : decode cX4_gap 38 = .ok (.isub, 1) := by decide +kernel
theorem dX4_gap_39 : decode cX4_gap 39 = .ok (.ireturn, 1) := by decide +kernel
set_option maxRecDepth 20000 in
theorem ggX4_worthOf_X4_writes : GoodIn wsX4_worthOf wsX4_writes := goodIn_r _ [5, 6, 7, 8, 9, 10, 11, 12, 13, 75, 76, 77, 78, 79, 80, 81, 82, 83, 84, 85, 86, 87, 88, 89, 90, 91, 92, 93, 94, 95, 96, 97, 98, 99, 100, 101, 102, 103, 104, 105, 106, 107, 108, 109, 110, 111, 112, 113, 114, 115, 116, 117, 118, 119] rfl (by decide +kernel)
set_option maxRecDepth 20000 in
theorem gX4_worthOf_X4_writes : GoodIn wsX4_worthOf (wsV RX4 215 RX4 yX4_writes wsX4_writes) := goodIn_app (goodIn_r _ [1, 2, 3, 4] rfl (by decide +kernel)) ggX4_worthOf_X4_writes
set_option maxRecDepth 20000 in
theorem ggX4_worthOf_X4_findMost : GoodIn wsX4_worthOf wsX4_findMost := goodIn_r _ [17, 10, 18, 19, 20, 21, 22, 23, 24, 25, 26, 27, 28, 29, 30, 4, 31, 7, 12, 13, 32, 33, 34, 35, 36, 37, 38, 39, 40, 41, 42, 43, 44, 45, 46, 47, 48, 49, 50, 51, 52, 53, 54, 6, 8, 55, 56, 57, 58, 59, 9, 60, 11, 61, 62, 63, 64, 65, 66, 67, 68, 69, 70, 71, 72, 73, 74, 1, 2, 3, 5, 75, 76, 77, 78, 79, 80, 81, 82, 83, 84, 85, 86, 87, 88, 89, 90, 91, 92, 93, 94, 95, 96, 97, 98, 99, 100, 101, 102, 103, 104, 105, 106, 107, 108, 109, 110, 111, 112, 113, 114, 115, 116, 117, 118, 119] rfl (by decide +kernel)
set_option maxRecDepth 20000 in
theorem gX4_worthOf_X4_findMost : GoodIn wsX4_worthOf (wsV RX4 264 RX4 yX4_findMost wsX4_findMost) := goodIn_app (goodIn_r _ [14, 15, 16, 4] rfl (by decide +kernel)) ggX4_worthOf_X4_findMost
set_option maxRecDepth 20000 in
theorem ggX4_worthOf_X4_takesBack : GoodIn wsX4_worthOf wsX4_takesBack := goodIn_r _ [31, 7, 12, 13, 75, 76, 77, 78, 79, 80, 81, 82, 83, 84, 85, 86, 87, 88, 89, 90, 91, 92, 93, 94, 95, 96, 97, 98, 99, 100, 101, 102, 103, 104, 105, 106, 107, 108, 109, 110, 111, 112, 113, 114, 115, 116, 117, 118, 119] rfl (by decide +kernel)
set_option maxRecDepth 20000 in
theorem gX4_worthOf_X4_takesBack : GoodIn wsX4_worthOf (wsV RX4 219 RX4 yX4_takesBack wsX4_takesBack) := goodIn_app (goodIn_r _ [28, 29, 30, 4] rfl (by decide +kernel)) ggX4_worthOf_X4_takesBack
theorem dX4_worthOf_0 : decode cX4_worthOf 0 = .ok (.aload_n 0, 1) := by decide +kernel
theorem dX4_worthOf_1 : decode cX4_worthOf 1 = .ok (.iload_n 1, 1) := by decide +kernel
theorem dX4_worthOf_2 : decode cX4_worthOf 2 = .ok (.iload_n 2, 1) := by decide +kernel
theorem dX4_worthOf_3 : decode cX4_worthOf 3 = .ok (.bipush 9, 2) := by decide +kernel
theorem dX4_worthOf_5 : decode cX4_worthOf 5 = .ok (.iconst (-1), 1) := by decide +kernel
theorem dX4_worthOf_6 : decode cX4_worthOf 6 = .ok (.invokevirtual 215, 3) := by decide +kernel
theorem dX4_worthOf_9 : decode cX4_worthOf 9 = .ok (.iload_n 3, 1) := by decide +kernel
theorem dX4_worthOf_10 : decode cX4_worthOf 10 = .ok (.aload_n 0, 1) := by decide +kernel
theorem dX4_worthOf_11 : decode cX4_worthOf 11 = .ok (.invokevirtual 264, 3) := by decide +kernel
theorem dX4_worthOf_14 : decode cX4_worthOf 14 = .ok (.isub, 1) := by decide +kernel
theorem dX4_worthOf_15 : decode cX4_worthOf 15 = .ok (.istore 4, 2) := by decide +kernel
theorem dX4_worthOf_17 : decode cX4_worthOf 17 = .ok (.aload_n 0, 1) := by decide +kernel
theorem dX4_worthOf_18 : decode cX4_worthOf 18 = .ok (.invokevirtual 219, 3) := by decide +kernel
theorem dX4_worthOf_21 : decode cX4_worthOf 21 = .ok (.iload 4, 2) := by decide +kernel
theorem dX4_worthOf_23 : decode cX4_worthOf 23 = .ok (.ireturn, 1) := by decide +kernel
set_option maxRecDepth 20000 in
theorem ggX4_worth_X4_isOne : GoodIn wsX4_worth wsX4_isOne := goodIn_r _ [6, 7, 94, 95, 96, 97, 98, 99, 100, 101, 102, 103, 104, 105, 106, 107, 108, 109, 110, 111, 112, 113, 114, 115, 116, 117, 118, 119, 120, 121, 122, 123, 124, 125, 126, 127, 128, 129, 130, 131, 132, 133, 134, 135, 136, 137, 138] rfl (by decide +kernel)
set_option maxRecDepth 20000 in
theorem gX4_worth_X4_isOne : GoodIn wsX4_worth (wsV RX4 135 RX4 yX4_isOne wsX4_isOne) := goodIn_app (goodIn_r _ [2, 3, 4, 5] rfl (by decide +kernel)) ggX4_worth_X4_isOne
set_option maxRecDepth 20000 in
theorem ggX4_worth_X4_lower : GoodIn wsX4_worth wsX4_lower := goodIn_r _ [11, 12, 13, 94, 95, 96, 97, 98, 99, 100, 101, 102, 103, 104, 105, 106, 107, 108, 109, 110, 111, 112, 113, 114, 115, 116, 117, 118, 119, 120, 121, 122, 123, 124, 125, 126, 127, 128, 129, 130, 131, 132, 133, 134, 135, 136, 137, 138] rfl (by decide +kernel)
set_option maxRecDepth 20000 in
theorem gX4_worth_X4_lower : GoodIn wsX4_worth (wsV RX4 267 RX4 yX4_lower wsX4_lower) := goodIn_app (goodIn_r _ [8, 9, 10, 5] rfl (by decide +kernel)) ggX4_worth_X4_lower
set_option maxRecDepth 20000 in
theorem ggX4_worth_X4_findHands : GoodIn wsX4_worth wsX4_findHands := goodIn_r _ [17, 18, 19, 20, 21, 22, 23, 24, 25, 7, 26, 27, 28, 5, 29, 30, 31, 32, 33, 34, 35, 36, 37, 38, 39, 40, 41, 42, 94, 95, 96, 97, 98, 99, 100, 101, 102, 103, 104, 105, 106, 107, 108, 109, 110, 111, 112, 113, 114, 115, 116, 117, 118, 119, 120, 121, 122, 123, 124, 125, 126, 127, 128, 129, 130, 131, 132, 133, 134, 135, 136, 137, 138] rfl (by decide +kernel)
set_option maxRecDepth 20000 in
theorem gX4_worth_X4_findHands : GoodIn wsX4_worth (wsV RX4 261 RX4 yX4_findHands wsX4_findHands) := goodIn_app (goodIn_r _ [14, 15, 16, 5] rfl (by decide +kernel)) ggX4_worth_X4_findHands
set_option maxRecDepth 20000 in
theorem ggX4_worth_X4_findMost : GoodIn wsX4_worth wsX4_findMost := goodIn_r _ [46, 19, 47, 18, 48, 7, 49, 24, 21, 33, 32, 25, 50, 51, 52, 5, 53, 1, 54, 23, 55, 56, 57, 58, 59, 60, 61, 62, 22, 63, 64, 65, 66, 34, 35, 36, 37, 38, 39, 67, 68, 69, 70, 71, 72, 73, 74, 75, 76, 77, 78, 79, 80, 81, 82, 83, 84, 85, 26, 27, 28, 29, 30, 31, 40, 41, 42, 86, 87, 88, 89, 94, 95, 96, 97, 98, 99, 100, 101, 102, 103, 104, 105, 106, 107, 108, 109, 110, 111, 112, 113, 114, 115, 116, 117, 118, 119, 120, 121, 122, 123, 124, 125, 126, 127, 128, 129, 130, 131, 132, 133, 134, 135, 136, 137, 138] rfl (by decide +kernel)
set_option maxRecDepth 20000 in
theorem gX4_worth_X4_findMost : GoodIn wsX4_worth (wsV RX4 264 RX4 yX4_findMost wsX4_findMost) := goodIn_app (goodIn_r _ [43, 44, 45, 5] rfl (by decide +kernel)) ggX4_worth_X4_findMost
set_option maxRecDepth 20000 in
theorem ggX4_worth_X4_worthOf : GoodIn wsX4_worth wsX4_worthOf := goodIn_r _ [93, 86, 87, 88, 5, 89, 71, 1, 72, 78, 19, 80, 54, 23, 43, 44, 45, 46, 47, 18, 48, 7, 49, 24, 21, 33, 32, 25, 50, 51, 52, 53, 55, 56, 57, 58, 59, 60, 61, 62, 22, 63, 64, 65, 66, 34, 35, 36, 37, 38, 39, 67, 68, 69, 70, 73, 74, 75, 76, 77, 79, 81, 82, 83, 84, 85, 26, 27, 28, 29, 30, 31, 40, 41, 42, 94, 95, 96, 97, 98, 99, 100, 101, 102, 103, 104, 105, 106, 107, 108, 109, 110, 111, 112, 113, 114, 115, 116, 117, 118, 119, 120, 121, 122, 123, 124, 125, 126, 127, 128, 129, 130, 131, 132, 133, 134, 135, 136, 137, 138] rfl (by decide +kernel)
set_option maxRecDepth 20000 in
theorem gX4_worth_X4_worthOf : GoodIn wsX4_worth (wsV RX4 270 RX4 yX4_worthOf wsX4_worthOf) := goodIn_app (goodIn_r _ [90, 91, 92, 5] rfl (by decide +kernel)) ggX4_worth_X4_worthOf
theorem dX4_worth_0 : decode cX4_worth 0 = .ok (.aload_n 0, 1) := by decide +kernel
theorem dX4_worth_1 : decode cX4_worth 1 = .ok (.iload_n 1, 1) := by decide +kernel
theorem dX4_worth_2 : decode cX4_worth 2 = .ok (.invokevirtual 135, 3) := by decide +kernel
theorem dX4_worth_5 : decode cX4_worth 5 = .ok (.ifCond .eq 16, 3) := by decide +kernel
theorem dX4_worth_8 : decode cX4_worth 8 = .ok (.aload_n 0, 1) := by decide +kernel
theorem dX4_worth_9 : decode cX4_worth 9 = .ok (.iload_n 2, 1) := by decide +kernel
theorem dX4_worth_10 : decode cX4_worth 10 = .ok (.invokevirtual 135, 3) := by decide +kernel
theorem dX4_worth_13 : decode cX4_worth 13 = .ok (.ifCond .eq 8, 3) := by decide +kernel
theorem dX4_worth_16 : decode cX4_worth 16 = .ok (.iload_n 1, 1) := by decide +kernel
theorem dX4_worth_17 : decode cX4_worth 17 = .ok (.iload_n 2, 1) := by decide +kernel
theorem dX4_worth_18 : decode cX4_worth 18 = .ok (.if_icmp .ne 9, 3) := by decide +kernel
theorem dX4_worth_21 : decode cX4_worth 21 = .ok (.aload_n 0, 1) := by decide +kernel
theorem dX4_worth_22 : decode cX4_worth 22 = .ok (.iconst (-1), 1) := by decide +kernel
theorem dX4_worth_23 : decode cX4_worth 23 = .ok (.invokevirtual 267, 3) := by decide +kernel
theorem dX4_worth_26 : decode cX4_worth 26 = .ok (.ireturn, 1) := by decide +kernel
theorem dX4_worth_27 : decode cX4_worth 27 = .ok (.aload_n 0, 1) := by decide +kernel
theorem dX4_worth_28 : decode cX4_worth 28 = .ok (.invokevirtual 261, 3) := by decide +kernel
theorem dX4_worth_31 : decode cX4_worth 31 = .ok (.ifCond .eq 12, 3) := by decide +kernel
theorem dX4_worth_34 : decode cX4_worth 34 = .ok (.aload_n 0, 1) := by decide +kernel
theorem dX4_worth_35 : decode cX4_worth 35 = .ok (.getfield 172, 3) := by decide +kernel
theorem dX4_worth_38 : decode cX4_worth 38 = .ok (.bipush 60, 2) := by decide +kernel
theorem dX4_worth_40 : decode cX4_worth 40 = .ok (.if_icmp .lt 10, 3) := by decide +kernel
theorem dX4_worth_43 : decode cX4_worth 43 = .ok (.aload_n 0, 1) := by decide +kernel
theorem dX4_worth_44 : decode cX4_worth 44 = .ok (.bipush (-6), 2) := by decide +kernel
theorem dX4_worth_46 : decode cX4_worth 46 = .ok (.invokevirtual 267, 3) := by decide +kernel
theorem dX4_worth_49 : decode cX4_worth 49 = .ok (.ireturn, 1) := by decide +kernel
theorem dX4_worth_50 : decode cX4_worth 50 = .ok (.aload_n 0, 1) := by decide +kernel
theorem dX4_worth_51 : decode cX4_worth 51 = .ok (.iload_n 1, 1) := by decide +kernel
theorem dX4_worth_52 : decode cX4_worth 52 = .ok (.iload_n 2, 1) := by decide +kernel
theorem dX4_worth_53 : decode cX4_worth 53 = .ok (.aload_n 0, 1) := by decide +kernel
theorem dX4_worth_54 : decode cX4_worth 54 = .ok (.invokevirtual 264, 3) := by decide +kernel
theorem dX4_worth_57 : decode cX4_worth 57 = .ok (.invokevirtual 270, 3) := by decide +kernel
theorem dX4_worth_60 : decode cX4_worth 60 = .ok (.ireturn, 1) := by decide +kernel
set_option maxRecDepth 20000 in
theorem ggX4_keeps_X4_isOne : GoodIn wsX4_keeps wsX4_isOne := goodIn_r _ [7, 2, 93, 94, 95, 96, 97, 98, 99, 100, 101, 102, 103, 104, 105, 106, 107, 108, 109, 110, 111, 112, 113, 114, 115, 116, 117, 118, 119, 120, 121, 122, 123, 124, 125, 126, 127, 128, 129, 130, 131, 132, 133, 134, 135, 136, 137] rfl (by decide +kernel)
set_option maxRecDepth 20000 in
theorem gX4_keeps_X4_isOne : GoodIn wsX4_keeps (wsV RX4 135 RX4 yX4_isOne wsX4_isOne) := goodIn_app (goodIn_r _ [3, 4, 5, 6] rfl (by decide +kernel)) ggX4_keeps_X4_isOne
set_option maxRecDepth 20000 in
theorem ggX4_keeps_X4_no : GoodIn wsX4_keeps wsX4_no := goodIn_r _ [11, 12, 93, 94, 95, 96, 97, 98, 99, 100, 101, 102, 103, 104, 105, 106, 107, 108, 109, 110, 111, 112, 113, 114, 115, 116, 117, 118, 119, 120, 121, 122, 123, 124, 125, 126, 127, 128, 129, 130, 131, 132, 133, 134, 135, 136, 137] rfl (by decide +kernel)
set_option maxRecDepth 20000 in
theorem gX4_keeps_X4_no : GoodIn wsX4_keeps (wsV RX4 106 RX4 yX4_no wsX4_no) := goodIn_app (goodIn_r _ [8, 9, 10, 6] rfl (by decide +kernel)) ggX4_keeps_X4_no
set_option maxRecDepth 20000 in
theorem ggX4_keeps_X4_findHands : GoodIn wsX4_keeps wsX4_findHands := goodIn_r _ [16, 17, 18, 19, 20, 21, 22, 23, 24, 2, 25, 26, 27, 6, 28, 29, 30, 31, 32, 33, 34, 35, 36, 37, 38, 39, 40, 41, 93, 94, 95, 96, 97, 98, 99, 100, 101, 102, 103, 104, 105, 106, 107, 108, 109, 110, 111, 112, 113, 114, 115, 116, 117, 118, 119, 120, 121, 122, 123, 124, 125, 126, 127, 128, 129, 130, 131, 132, 133, 134, 135, 136, 137] rfl (by decide +kernel)
set_option maxRecDepth 20000 in
theorem gX4_keeps_X4_findHands : GoodIn wsX4_keeps (wsV RX4 261 RX4 yX4_findHands wsX4_findHands) := goodIn_app (goodIn_r _ [13, 14, 15, 6] rfl (by decide +kernel)) ggX4_keeps_X4_findHands
set_option maxRecDepth 20000 in
theorem ggX4_keeps_X4_findMost : GoodIn wsX4_keeps wsX4_findMost := goodIn_r _ [45, 18, 46, 17, 47, 2, 48, 23, 20, 32, 31, 24, 49, 50, 51, 6, 52, 1, 53, 22, 54, 55, 56, 57, 58, 59, 60, 61, 21, 62, 63, 64, 65, 33, 34, 35, 36, 37, 38, 66, 67, 68, 69, 70, 71, 72, 73, 74, 75, 76, 77, 78, 79, 80, 81, 82, 83, 84, 25, 26, 27, 28, 29, 30, 39, 40, 41, 85, 86, 87, 88, 93, 94, 95, 96, 97, 98, 99, 100, 101, 102, 103, 104, 105, 106, 107, 108, 109, 110, 111, 112, 113, 114, 115, 116, 117, 118, 119, 120, 121, 122, 123, 124, 125, 126, 127, 128, 129, 130, 131, 132, 133, 134, 135, 136, 137] rfl (by decide +kernel)
set_option maxRecDepth 20000 in
theorem gX4_keeps_X4_findMost : GoodIn wsX4_keeps (wsV RX4 264 RX4 yX4_findMost wsX4_findMost) := goodIn_app (goodIn_r _ [42, 43, 44, 6] rfl (by decide +kernel)) ggX4_keeps_X4_findMost
set_option maxRecDepth 20000 in
theorem ggX4_keeps_X4_worthOf : GoodIn wsX4_keeps wsX4_worthOf := goodIn_r _ [92, 85, 86, 87, 6, 88, 70, 1, 71, 77, 18, 79, 53, 22, 42, 43, 44, 45, 46, 17, 47, 2, 48, 23, 20, 32, 31, 24, 49, 50, 51, 52, 54, 55, 56, 57, 58, 59, 60, 61, 21, 62, 63, 64, 65, 33, 34, 35, 36, 37, 38, 66, 67, 68, 69, 72, 73, 74, 75, 76, 78, 80, 81, 82, 83, 84, 25, 26, 27, 28, 29, 30, 39, 40, 41, 93, 94, 95, 96, 97, 98, 99, 100, 101, 102, 103, 104, 105, 106, 107, 108, 109, 110, 111, 112, 113, 114, 115, 116, 117, 118, 119, 120, 121, 122, 123, 124, 125, 126, 127, 128, 129, 130, 131, 132, 133, 134, 135, 136, 137] rfl (by decide +kernel)
set_option maxRecDepth 20000 in
theorem gX4_keeps_X4_worthOf : GoodIn wsX4_keeps (wsV RX4 270 RX4 yX4_worthOf wsX4_worthOf) := goodIn_app (goodIn_r _ [89, 90, 91, 6] rfl (by decide +kernel)) ggX4_keeps_X4_worthOf
theorem dX4_keeps_0 : decode cX4_keeps 0 = .ok (.aload_n 0, 1) := by decide +kernel
theorem dX4_keeps_1 : decode cX4_keeps 1 = .ok (.iload_n 1, 1) := by decide +kernel
theorem dX4_keeps_2 : decode cX4_keeps 2 = .ok (.invokevirtual 135, 3) := by decide +kernel
theorem dX4_keeps_5 : decode cX4_keeps 5 = .ok (.ifCond .ne 9, 3) := by decide +kernel
theorem dX4_keeps_8 : decode cX4_keeps 8 = .ok (.aload_n 0, 1) := by decide +kernel
theorem dX4_keeps_9 : decode cX4_keeps 9 = .ok (.iconst (-1), 1) := by decide +kernel
theorem dX4_keeps_10 : decode cX4_keeps 10 = .ok (.invokevirtual 106, 3) := by decide +kernel
theorem dX4_keeps_13 : decode cX4_keeps 13 = .ok (.ireturn, 1) := by decide +kernel
theorem dX4_keeps_14 : decode cX4_keeps 14 = .ok (.aload_n 0, 1) := by decide +kernel
theorem dX4_keeps_15 : decode cX4_keeps 15 = .ok (.invokevirtual 261, 3) := by decide +kernel
theorem dX4_keeps_18 : decode cX4_keeps 18 = .ok (.ifCond .eq 12, 3) := by decide +kernel
theorem dX4_keeps_21 : decode cX4_keeps 21 = .ok (.aload_n 0, 1) := by decide +kernel
theorem dX4_keeps_22 : decode cX4_keeps 22 = .ok (.getfield 172, 3) := by decide +kernel
theorem dX4_keeps_25 : decode cX4_keeps 25 = .ok (.bipush 60, 2) := by decide +kernel
theorem dX4_keeps_27 : decode cX4_keeps 27 = .ok (.if_icmp .lt 10, 3) := by decide +kernel
theorem dX4_keeps_30 : decode cX4_keeps 30 = .ok (.aload_n 0, 1) := by decide +kernel
theorem dX4_keeps_31 : decode cX4_keeps 31 = .ok (.bipush (-6), 2) := by decide +kernel
theorem dX4_keeps_33 : decode cX4_keeps 33 = .ok (.invokevirtual 106, 3) := by decide +kernel
theorem dX4_keeps_36 : decode cX4_keeps 36 = .ok (.ireturn, 1) := by decide +kernel
theorem dX4_keeps_37 : decode cX4_keeps 37 = .ok (.aload_n 0, 1) := by decide +kernel
theorem dX4_keeps_38 : decode cX4_keeps 38 = .ok (.invokevirtual 264, 3) := by decide +kernel
theorem dX4_keeps_41 : decode cX4_keeps 41 = .ok (.istore_n 2, 1) := by decide +kernel
theorem dX4_keeps_42 : decode cX4_keeps 42 = .ok (.bipush (-9), 2) := by decide +kernel
theorem dX4_keeps_44 : decode cX4_keeps 44 = .ok (.istore_n 3, 1) := by decide +kernel
theorem dX4_keeps_45 : decode cX4_keeps 45 = .ok (.iconst 0, 1) := by decide +kernel
theorem dX4_keeps_46 : decode cX4_keeps 46 = .ok (.istore 4, 2) := by decide +kernel
theorem dX4_keeps_48 : decode cX4_keeps 48 = .ok (.iconst 0, 1) := by decide +kernel
theorem dX4_keeps_49 : decode cX4_keeps 49 = .ok (.istore 5, 2) := by decide +kernel
theorem dX4_keeps_51 : decode cX4_keeps 51 = .ok (.iload 5, 2) := by decide +kernel
theorem dX4_keeps_53 : decode cX4_keeps 53 = .ok (.aload_n 0, 1) := by decide +kernel
theorem dX4_keeps_54 : decode cX4_keeps 54 = .ok (.getfield 93, 3) := by decide +kernel
theorem dX4_keeps_57 : decode cX4_keeps 57 = .ok (.if_icmp .ge 45, 3) := by decide +kernel
theorem dX4_keeps_60 : decode cX4_keeps 60 = .ok (.iload 5, 2) := by decide +kernel
theorem dX4_keeps_62 : decode cX4_keeps 62 = .ok (.iload_n 1, 1) := by decide +kernel
theorem dX4_keeps_63 : decode cX4_keeps 63 = .ok (.if_icmp .ne 6, 3) := by decide +kernel
theorem dX4_keeps_66 : decode cX4_keeps 66 = .ok (.goto 30, 3) := by decide +kernel
theorem dX4_keeps_69 : decode cX4_keeps 69 = .ok (.aload_n 0, 1) := by decide +kernel
theorem dX4_keeps_70 : decode cX4_keeps 70 = .ok (.iload 5, 2) := by decide +kernel
theorem dX4_keeps_72 : decode cX4_keeps 72 = .ok (.iload_n 1, 1) := by decide +kernel
theorem dX4_keeps_73 : decode cX4_keeps 73 = .ok (.iload_n 2, 1) := by decide +kernel
theorem dX4_keeps_74 : decode cX4_keeps 74 = .ok (.invokevirtual 270, 3) := by decide +kernel
theorem dX4_keeps_77 : decode cX4_keeps 77 = .ok (.istore 6, 2) := by decide +kernel
theorem dX4_keeps_79 : decode cX4_keeps 79 = .ok (.iload 6, 2) := by decide +kernel
theorem dX4_keeps_81 : decode cX4_keeps 81 = .ok (.iload 4, 2) := by decide +kernel
theorem dX4_keeps_83 : decode cX4_keeps 83 = .ok (.if_icmp .gt 6, 3) := by decide +kernel
theorem dX4_keeps_86 : decode cX4_keeps 86 = .ok (.goto 10, 3) := by decide +kernel
theorem dX4_keeps_89 : decode cX4_keeps 89 = .ok (.iload 5, 2) := by decide +kernel
theorem dX4_keeps_91 : decode cX4_keeps 91 = .ok (.istore_n 3, 1) := by decide +kernel
theorem dX4_keeps_92 : decode cX4_keeps 92 = .ok (.iload 6, 2) := by decide +kernel
theorem dX4_keeps_94 : decode cX4_keeps 94 = .ok (.istore 4, 2) := by decide +kernel
theorem dX4_keeps_96 : decode cX4_keeps 96 = .ok (.iinc 5 1, 3) := by decide +kernel
theorem dX4_keeps_99 : decode cX4_keeps 99 = .ok (.goto (-48), 3) := by decide +kernel
theorem dX4_keeps_102 : decode cX4_keeps 102 = .ok (.iload_n 3, 1) := by decide +kernel
theorem dX4_keeps_103 : decode cX4_keeps 103 = .ok (.ireturn, 1) := by decide +kernel
theorem dX4_asks_0 : decode cX4_asks 0 = .ok (.aload_n 0, 1) := by decide +kernel
theorem dX4_asks_1 : decode cX4_asks 1 = .ok (.getfield 22, 3) := by decide +kernel
theorem dX4_asks_4 : decode cX4_asks 4 = .ok (.bipush 12, 2) := by decide +kernel
theorem dX4_asks_6 : decode cX4_asks 6 = .ok (.iload_n 1, 1) := by decide +kernel
theorem dX4_asks_7 : decode cX4_asks 7 = .ok (.iastore, 1) := by decide +kernel
theorem dX4_asks_8 : decode cX4_asks 8 = .ok (.aload_n 0, 1) := by decide +kernel
theorem dX4_asks_9 : decode cX4_asks 9 = .ok (.getfield 25, 3) := by decide +kernel
theorem dX4_asks_12 : decode cX4_asks 12 = .ok (.bipush 12, 2) := by decide +kernel
theorem dX4_asks_14 : decode cX4_asks 14 = .ok (.iload_n 2, 1) := by decide +kernel
theorem dX4_asks_15 : decode cX4_asks 15 = .ok (.iastore, 1) := by decide +kernel
theorem dX4_asks_16 : decode cX4_asks 16 = .ok (.aload_n 0, 1) := by decide +kernel
theorem dX4_asks_17 : decode cX4_asks 17 = .ok (.getfield 28, 3) := by decide +kernel
theorem dX4_asks_20 : decode cX4_asks 20 = .ok (.bipush 12, 2) := by decide +kernel
theorem dX4_asks_22 : decode cX4_asks 22 = .ok (.iload_n 3, 1) := by decide +kernel
theorem dX4_asks_23 : decode cX4_asks 23 = .ok (.iastore, 1) := by decide +kernel
theorem dX4_asks_24 : decode cX4_asks 24 = .ok (.aload_n 0, 1) := by decide +kernel
theorem dX4_asks_25 : decode cX4_asks 25 = .ok (.getfield 31, 3) := by decide +kernel
theorem dX4_asks_28 : decode cX4_asks 28 = .ok (.bipush 12, 2) := by decide +kernel
theorem dX4_asks_30 : decode cX4_asks 30 = .ok (.iconst 1, 1) := by decide +kernel
theorem dX4_asks_31 : decode cX4_asks 31 = .ok (.iastore, 1) := by decide +kernel
theorem dX4_asks_32 : decode cX4_asks 32 = .ok (.aload_n 0, 1) := by decide +kernel
theorem dX4_asks_33 : decode cX4_asks 33 = .ok (.getfield 34, 3) := by decide +kernel
theorem dX4_asks_36 : decode cX4_asks 36 = .ok (.bipush 12, 2) := by decide +kernel
theorem dX4_asks_38 : decode cX4_asks 38 = .ok (.aload_n 0, 1) := by decide +kernel
theorem dX4_asks_39 : decode cX4_asks 39 = .ok (.getfield 178, 3) := by decide +kernel
theorem dX4_asks_42 : decode cX4_asks 42 = .ok (.iastore, 1) := by decide +kernel
theorem dX4_asks_43 : decode cX4_asks 43 = .ok (.aload_n 0, 1) := by decide +kernel
theorem dX4_asks_44 : decode cX4_asks 44 = .ok (.getfield 37, 3) := by decide +kernel
theorem dX4_asks_47 : decode cX4_asks 47 = .ok (.bipush 12, 2) := by decide +kernel
theorem dX4_asks_49 : decode cX4_asks 49 = .ok (.iconst 0, 1) := by decide +kernel
theorem dX4_asks_50 : decode cX4_asks 50 = .ok (.iastore, 1) := by decide +kernel
theorem dX4_asks_51 : decode cX4_asks 51 = .ok (.return_, 1) := by decide +kernel
set_option maxRecDepth 20000 in
theorem ggX4_answers_X4_chooses : GoodIn wsX4_answers wsX4_chooses := goodIn_r _ [7, 8, 9, 10, 11, 6, 12, 13, 14, 15, 16, 17, 18, 19, 20, 21, 22, 1, 23, 24, 25, 26, 27, 28, 29, 30, 31, 32, 33, 34, 35, 36, 37, 38, 39, 40, 41, 42, 43, 44, 45, 46, 47, 48, 49, 50, 51, 52, 53, 54, 55, 56, 57, 58, 59, 60, 61, 62, 63, 64, 65, 66, 67, 68, 69, 70, 71, 72, 73, 74, 75, 76, 2, 77, 78, 79, 80, 81, 82, 83, 88, 89, 90, 91, 92, 93, 94, 95, 96, 97, 98, 99, 100, 101, 102, 103, 104, 105, 106, 107, 108, 109, 110, 111, 112, 113, 114, 115, 116, 117, 118, 119, 120, 121, 122, 123, 124, 125, 126, 127, 128, 129, 130, 131, 132] rfl (by decide +kernel)
set_option maxRecDepth 20000 in
theorem gX4_answers_X4_chooses : GoodIn wsX4_answers (wsV RX4 240 RX4 yX4_chooses wsX4_chooses) := goodIn_app (goodIn_r _ [3, 4, 5, 6] rfl (by decide +kernel)) ggX4_answers_X4_chooses
set_option maxRecDepth 20000 in
theorem ggX4_answers_X4_goodOf : GoodIn wsX4_answers wsX4_goodOf := goodIn_r _ [74, 75, 76, 2, 1, 35, 36, 37, 38, 6, 39, 40, 77, 78, 79, 88, 89, 90, 91, 92, 93, 94, 95, 96, 97, 98, 99, 100, 101, 102, 103, 104, 105, 106, 107, 108, 109, 110, 111, 112, 113, 114, 115, 116, 117, 118, 119, 120, 121, 122, 123, 124, 125, 126, 127, 128, 129, 130, 131, 132] rfl (by decide +kernel)
set_option maxRecDepth 20000 in
theorem gX4_answers_X4_goodOf : GoodIn wsX4_answers (wsV RX4 209 RX4 yX4_goodOf wsX4_goodOf) := goodIn_app (goodIn_r _ [71, 72, 73, 6] rfl (by decide +kernel)) ggX4_answers_X4_goodOf
set_option maxRecDepth 20000 in
theorem ggX4_answers_X4_writes : GoodIn wsX4_answers wsX4_writes := goodIn_r _ [87, 46, 45, 47, 53, 28, 55, 61, 29, 88, 89, 90, 91, 92, 93, 94, 95, 96, 97, 98, 99, 100, 101, 102, 103, 104, 105, 106, 107, 108, 109, 110, 111, 112, 113, 114, 115, 116, 117, 118, 119, 120, 121, 122, 123, 124, 125, 126, 127, 128, 129, 130, 131, 132] rfl (by decide +kernel)
set_option maxRecDepth 20000 in
theorem gX4_answers_X4_writes : GoodIn wsX4_answers (wsV RX4 215 RX4 yX4_writes wsX4_writes) := goodIn_app (goodIn_r _ [84, 85, 86, 6] rfl (by decide +kernel)) ggX4_answers_X4_writes
theorem dX4_answers_0 : decode cX4_answers 0 = .ok (.aload_n 0, 1) := by decide +kernel
theorem dX4_answers_1 : decode cX4_answers 1 = .ok (.iload_n 1, 1) := by decide +kernel
theorem dX4_answers_2 : decode cX4_answers 2 = .ok (.bipush 12, 2) := by decide +kernel
theorem dX4_answers_4 : decode cX4_answers 4 = .ok (.invokevirtual 240, 3) := by decide +kernel
theorem dX4_answers_7 : decode cX4_answers 7 = .ok (.istore_n 2, 1) := by decide +kernel
theorem dX4_answers_8 : decode cX4_answers 8 = .ok (.iload_n 2, 1) := by decide +kernel
theorem dX4_answers_9 : decode cX4_answers 9 = .ok (.ifCond .ge 5, 3) := by decide +kernel
theorem dX4_answers_12 : decode cX4_answers 12 = .ok (.iconst (-1), 1) := by decide +kernel
theorem dX4_answers_13 : decode cX4_answers 13 = .ok (.ireturn, 1) := by decide +kernel
theorem dX4_answers_14 : decode cX4_answers 14 = .ok (.aload_n 0, 1) := by decide +kernel
theorem dX4_answers_15 : decode cX4_answers 15 = .ok (.iload_n 2, 1) := by decide +kernel
theorem dX4_answers_16 : decode cX4_answers 16 = .ok (.bipush 12, 2) := by decide +kernel
theorem dX4_answers_18 : decode cX4_answers 18 = .ok (.invokevirtual 209, 3) := by decide +kernel
theorem dX4_answers_21 : decode cX4_answers 21 = .ok (.istore_n 3, 1) := by decide +kernel
theorem dX4_answers_22 : decode cX4_answers 22 = .ok (.aload_n 0, 1) := by decide +kernel
theorem dX4_answers_23 : decode cX4_answers 23 = .ok (.iload_n 2, 1) := by decide +kernel
theorem dX4_answers_24 : decode cX4_answers 24 = .ok (.aload_n 0, 1) := by decide +kernel
theorem dX4_answers_25 : decode cX4_answers 25 = .ok (.getfield 22, 3) := by decide +kernel
theorem dX4_answers_28 : decode cX4_answers 28 = .ok (.bipush 12, 2) := by decide +kernel
theorem dX4_answers_30 : decode cX4_answers 30 = .ok (.iaload, 1) := by decide +kernel
theorem dX4_answers_31 : decode cX4_answers 31 = .ok (.aload_n 0, 1) := by decide +kernel
theorem dX4_answers_32 : decode cX4_answers 32 = .ok (.getfield 28, 3) := by decide +kernel
theorem dX4_answers_35 : decode cX4_answers 35 = .ok (.bipush 12, 2) := by decide +kernel
theorem dX4_answers_37 : decode cX4_answers 37 = .ok (.iaload, 1) := by decide +kernel
theorem dX4_answers_38 : decode cX4_answers 38 = .ok (.bipush 12, 2) := by decide +kernel
theorem dX4_answers_40 : decode cX4_answers 40 = .ok (.invokevirtual 215, 3) := by decide +kernel
theorem dX4_answers_43 : decode cX4_answers 43 = .ok (.iload_n 3, 1) := by decide +kernel
theorem dX4_answers_44 : decode cX4_answers 44 = .ok (.ireturn, 1) := by decide +kernel
set_option maxRecDepth 20000 in
theorem ggX4_lastsYear_X4_asks : GoodIn wsX4_lastsYear wsX4_asks := goodIn_r _ [7, 8, 9, 10, 11, 12, 2, 13, 96, 97, 98, 99, 100, 101, 102, 103, 104, 105, 106, 107, 108, 109, 110, 111, 112, 113, 114, 115, 116, 117, 118, 119, 120, 121, 122, 123, 124, 125, 126, 127, 128, 129, 130, 131, 132, 133, 134, 135, 136, 137, 138, 139, 140] rfl (by decide +kernel)
set_option maxRecDepth 20000 in
theorem gX4_lastsYear_X4_asks : GoodIn wsX4_lastsYear (wsV RX4 273 RX4 yX4_asks wsX4_asks) := goodIn_app (goodIn_r _ [3, 4, 5, 6] rfl (by decide +kernel)) ggX4_lastsYear_X4_asks
set_option maxRecDepth 20000 in
theorem ggX4_lastsYear_X4_answers : GoodIn wsX4_lastsYear wsX4_answers := goodIn_r _ [17, 8, 10, 18, 19, 20, 6, 21, 1, 22, 23, 24, 25, 26, 27, 28, 29, 30, 31, 32, 33, 34, 35, 36, 37, 38, 39, 12, 2, 13, 11, 40, 41, 42, 43, 44, 45, 46, 47, 48, 49, 50, 51, 52, 53, 54, 55, 56, 57, 58, 59, 60, 61, 62, 63, 64, 65, 66, 67, 68, 69, 70, 71, 72, 73, 74, 75, 76, 77, 78, 79, 80, 81, 82, 83, 84, 9, 85, 86, 87, 88, 89, 90, 91, 92, 93, 94, 95, 96, 97, 98, 99, 100, 101, 102, 103, 104, 105, 106, 107, 108, 109, 110, 111, 112, 113, 114, 115, 116, 117, 118, 119, 120, 121, 122, 123, 124, 125, 126, 127, 128, 129, 130, 131, 132, 133, 134, 135, 136, 137, 138, 139, 140] rfl (by decide +kernel)
set_option maxRecDepth 20000 in
theorem gX4_lastsYear_X4_answers : GoodIn wsX4_lastsYear (wsV RX4 277 RX4 yX4_answers wsX4_answers) := goodIn_app (goodIn_r _ [14, 15, 16, 6] rfl (by decide +kernel)) ggX4_lastsYear_X4_answers
theorem dX4_lastsYear_0 : decode cX4_lastsYear 0 = .ok (.iconst 0, 1) := by decide +kernel
theorem dX4_lastsYear_1 : decode cX4_lastsYear 1 = .ok (.istore_n 3, 1) := by decide +kernel
theorem dX4_lastsYear_2 : decode cX4_lastsYear 2 = .ok (.iload_n 3, 1) := by decide +kernel
theorem dX4_lastsYear_3 : decode cX4_lastsYear 3 = .ok (.aload_n 0, 1) := by decide +kernel
theorem dX4_lastsYear_4 : decode cX4_lastsYear 4 = .ok (.getfield 93, 3) := by decide +kernel
theorem dX4_lastsYear_7 : decode cX4_lastsYear 7 = .ok (.if_icmp .ge 26, 3) := by decide +kernel
theorem dX4_lastsYear_10 : decode cX4_lastsYear 10 = .ok (.aload_n 0, 1) := by decide +kernel
theorem dX4_lastsYear_11 : decode cX4_lastsYear 11 = .ok (.iload_n 3, 1) := by decide +kernel
theorem dX4_lastsYear_12 : decode cX4_lastsYear 12 = .ok (.iload_n 2, 1) := by decide +kernel
theorem dX4_lastsYear_13 : decode cX4_lastsYear 13 = .ok (.iconst 5, 1) := by decide +kernel
theorem dX4_lastsYear_14 : decode cX4_lastsYear 14 = .ok (.invokevirtual 273, 3) := by decide +kernel
theorem dX4_lastsYear_17 : decode cX4_lastsYear 17 = .ok (.aload_n 0, 1) := by decide +kernel
theorem dX4_lastsYear_18 : decode cX4_lastsYear 18 = .ok (.iload_n 1, 1) := by decide +kernel
theorem dX4_lastsYear_19 : decode cX4_lastsYear 19 = .ok (.invokevirtual 277, 3) := by decide +kernel
theorem dX4_lastsYear_22 : decode cX4_lastsYear 22 = .ok (.ifCond .ge 5, 3) := by decide +kernel
theorem dX4_lastsYear_25 : decode cX4_lastsYear 25 = .ok (.iconst 0, 1) := by decide +kernel
theorem dX4_lastsYear_26 : decode cX4_lastsYear 26 = .ok (.ireturn, 1) := by decide +kernel
theorem dX4_lastsYear_27 : decode cX4_lastsYear 27 = .ok (.iinc 3 1, 3) := by decide +kernel
theorem dX4_lastsYear_30 : decode cX4_lastsYear 30 = .ok (.goto (-28), 3) := by decide +kernel
theorem dX4_lastsYear_33 : decode cX4_lastsYear 33 = .ok (.aload_n 0, 1) := by decide +kernel
theorem dX4_lastsYear_34 : decode cX4_lastsYear 34 = .ok (.dup, 1) := by decide +kernel
theorem dX4_lastsYear_35 : decode cX4_lastsYear 35 = .ok (.getfield 178, 3) := by decide +kernel
theorem dX4_lastsYear_38 : decode cX4_lastsYear 38 = .ok (.iconst 1, 1) := by decide +kernel
theorem dX4_lastsYear_39 : decode cX4_lastsYear 39 = .ok (.iadd, 1) := by decide +kernel
theorem dX4_lastsYear_40 : decode cX4_lastsYear 40 = .ok (.putfield 178, 3) := by decide +kernel
theorem dX4_lastsYear_43 : decode cX4_lastsYear 43 = .ok (.iconst 1, 1) := by decide +kernel
theorem dX4_lastsYear_44 : decode cX4_lastsYear 44 = .ok (.ireturn, 1) := by decide +kernel
set_option maxRecDepth 20000 in
theorem ggX4_lasts_X4_isRule : GoodIn wsX4_lasts wsX4_isRule := goodIn_r _ [5] rfl (by decide +kernel)
set_option maxRecDepth 20000 in
theorem gX4_lasts_X4_isRule : GoodIn wsX4_lasts (va_wsS RX4 237 yX4_isRule wsX4_isRule) := goodIn_app (goodIn_r _ [2, 3, 4] rfl (by decide +kernel)) ggX4_lasts_X4_isRule
set_option maxRecDepth 20000 in
theorem ggX4_lasts_X4_no : GoodIn wsX4_lasts wsX4_no := goodIn_r _ [9, 10, 127, 128, 129, 130, 131, 132, 133, 134, 135, 136, 137, 138, 139, 140, 141, 142, 143, 144, 145, 146, 147, 148, 149, 150, 151, 152, 153, 154, 155, 156, 157, 158, 159, 160, 161, 162, 163, 164, 165, 166, 167, 168, 169, 170, 171] rfl (by decide +kernel)
set_option maxRecDepth 20000 in
theorem gX4_lasts_X4_no : GoodIn wsX4_lasts (wsV RX4 106 RX4 yX4_no wsX4_no) := goodIn_app (goodIn_r _ [6, 7, 8, 4] rfl (by decide +kernel)) ggX4_lasts_X4_no
set_option maxRecDepth 20000 in
theorem ggX4_lasts_X4_isIn : GoodIn wsX4_lasts wsX4_isIn := goodIn_r _ [13] rfl (by decide +kernel)
set_option maxRecDepth 20000 in
theorem gX4_lasts_X4_isIn : GoodIn wsX4_lasts (va_wsS RX4 117 yX4_isIn wsX4_isIn) := goodIn_app (goodIn_r _ [11, 12, 4] rfl (by decide +kernel)) ggX4_lasts_X4_isIn
set_option maxRecDepth 20000 in
theorem ggX4_lasts_X4_passesAll : GoodIn wsX4_lasts wsX4_passesAll := goodIn_r _ [17, 18, 19, 20, 21, 22, 23, 24, 25, 26, 27, 28, 29, 30, 31, 32, 33, 1, 34, 35, 36, 37, 38, 39, 40, 41, 42, 43, 4, 44, 45, 46, 47, 48, 49, 127, 128, 129, 130, 131, 132, 133, 134, 135, 136, 137, 138, 139, 140, 141, 142, 143, 144, 145, 146, 147, 148, 149, 150, 151, 152, 153, 154, 155, 156, 157, 158, 159, 160, 161, 162, 163, 164, 165, 166, 167, 168, 169, 170, 171] rfl (by decide +kernel)
set_option maxRecDepth 20000 in
theorem gX4_lasts_X4_passesAll : GoodIn wsX4_lasts (wsV RX4 151 RX4 yX4_passesAll wsX4_passesAll) := goodIn_app (goodIn_r _ [14, 15, 16, 4] rfl (by decide +kernel)) ggX4_lasts_X4_passesAll
set_option maxRecDepth 20000 in
theorem ggX4_lasts_X4_lastsYear : GoodIn wsX4_lasts wsX4_lastsYear := goodIn_r _ [53, 1, 40, 54, 55, 56, 4, 57, 23, 24, 25, 26, 27, 28, 58, 59, 60, 61, 62, 63, 64, 65, 66, 67, 68, 69, 70, 71, 72, 73, 74, 75, 76, 77, 78, 79, 80, 81, 82, 83, 84, 85, 86, 87, 20, 88, 89, 90, 91, 21, 92, 93, 94, 95, 35, 29, 30, 36, 96, 97, 98, 99, 31, 37, 32, 38, 100, 101, 102, 103, 33, 104, 105, 106, 107, 108, 109, 110, 111, 34, 112, 113, 114, 115, 22, 116, 117, 118, 119, 120, 121, 122, 123, 124, 125, 126, 127, 128, 129, 130, 131, 132, 133, 134, 135, 136, 137, 138, 139, 140, 141, 142, 143, 144, 145, 146, 147, 148, 149, 150, 151, 152, 153, 154, 155, 156, 157, 158, 159, 160, 161, 162, 163, 164, 165, 166, 167, 168, 169, 170, 171] rfl (by decide +kernel)
set_option maxRecDepth 20000 in
theorem gX4_lasts_X4_lastsYear : GoodIn wsX4_lasts (wsV RX4 280 RX4 yX4_lastsYear wsX4_lastsYear) := goodIn_app (goodIn_r _ [50, 51, 52, 4] rfl (by decide +kernel)) ggX4_lasts_X4_lastsYear
theorem dX4_lasts_0 : decode cX4_lasts 0 = .ok (.iload_n 1, 1) := by decide +kernel
theorem dX4_lasts_1 : decode cX4_lasts 1 = .ok (.invokestatic 237, 3) := by decide +kernel
theorem dX4_lasts_4 : decode cX4_lasts 4 = .ok (.ifCond .ne 10, 3) := by decide +kernel
theorem dX4_lasts_7 : decode cX4_lasts 7 = .ok (.aload_n 0, 1) := by decide +kernel
theorem dX4_lasts_8 : decode cX4_lasts 8 = .ok (.bipush (-2), 2) := by decide +kernel
theorem dX4_lasts_10 : decode cX4_lasts 10 = .ok (.invokevirtual 106, 3) := by decide +kernel
theorem dX4_lasts_13 : decode cX4_lasts 13 = .ok (.ireturn, 1) := by decide +kernel
theorem dX4_lasts_14 : decode cX4_lasts 14 = .ok (.iload_n 2, 1) := by decide +kernel
theorem dX4_lasts_15 : decode cX4_lasts 15 = .ok (.iconst 0, 1) := by decide +kernel
theorem dX4_lasts_16 : decode cX4_lasts 16 = .ok (.iconst 3, 1) := by decide +kernel
theorem dX4_lasts_17 : decode cX4_lasts 17 = .ok (.invokestatic 117, 3) := by decide +kernel
theorem dX4_lasts_20 : decode cX4_lasts 20 = .ok (.ifCond .ne 9, 3) := by decide +kernel
theorem dX4_lasts_23 : decode cX4_lasts 23 = .ok (.aload_n 0, 1) := by decide +kernel
theorem dX4_lasts_24 : decode cX4_lasts 24 = .ok (.iconst (-1), 1) := by decide +kernel
theorem dX4_lasts_25 : decode cX4_lasts 25 = .ok (.invokevirtual 106, 3) := by decide +kernel
theorem dX4_lasts_28 : decode cX4_lasts 28 = .ok (.ireturn, 1) := by decide +kernel
theorem dX4_lasts_29 : decode cX4_lasts 29 = .ok (.aload_n 0, 1) := by decide +kernel
theorem dX4_lasts_30 : decode cX4_lasts 30 = .ok (.getfield 93, 3) := by decide +kernel
theorem dX4_lasts_33 : decode cX4_lasts 33 = .ok (.ifCond .ne 10, 3) := by decide +kernel
theorem dX4_lasts_36 : decode cX4_lasts 36 = .ok (.aload_n 0, 1) := by decide +kernel
theorem dX4_lasts_37 : decode cX4_lasts 37 = .ok (.bipush (-3), 2) := by decide +kernel
theorem dX4_lasts_39 : decode cX4_lasts 39 = .ok (.invokevirtual 106, 3) := by decide +kernel
theorem dX4_lasts_42 : decode cX4_lasts 42 = .ok (.ireturn, 1) := by decide +kernel
theorem dX4_lasts_43 : decode cX4_lasts 43 = .ok (.aload_n 0, 1) := by decide +kernel
theorem dX4_lasts_44 : decode cX4_lasts 44 = .ok (.iconst 1, 1) := by decide +kernel
theorem dX4_lasts_45 : decode cX4_lasts 45 = .ok (.iconst 1, 1) := by decide +kernel
theorem dX4_lasts_46 : decode cX4_lasts 46 = .ok (.invokevirtual 151, 3) := by decide +kernel
theorem dX4_lasts_49 : decode cX4_lasts 49 = .ok (.iconst 0, 1) := by decide +kernel
theorem dX4_lasts_50 : decode cX4_lasts 50 = .ok (.istore_n 3, 1) := by decide +kernel
theorem dX4_lasts_51 : decode cX4_lasts 51 = .ok (.iload_n 3, 1) := by decide +kernel
theorem dX4_lasts_52 : decode cX4_lasts 52 = .ok (.bipush 30, 2) := by decide +kernel
theorem dX4_lasts_54 : decode cX4_lasts 54 = .ok (.if_icmp .ge 18, 3) := by decide +kernel
theorem dX4_lasts_57 : decode cX4_lasts 57 = .ok (.aload_n 0, 1) := by decide +kernel
theorem dX4_lasts_58 : decode cX4_lasts 58 = .ok (.iload_n 1, 1) := by decide +kernel
theorem dX4_lasts_59 : decode cX4_lasts 59 = .ok (.iload_n 2, 1) := by decide +kernel
theorem dX4_lasts_60 : decode cX4_lasts 60 = .ok (.invokevirtual 280, 3) := by decide +kernel
theorem dX4_lasts_63 : decode cX4_lasts 63 = .ok (.ifCond .eq 9, 3) := by decide +kernel
theorem dX4_lasts_66 : decode cX4_lasts 66 = .ok (.iinc 3 1, 3) := by decide +kernel
theorem dX4_lasts_69 : decode cX4_lasts 69 = .ok (.goto (-18), 3) := by decide +kernel
theorem dX4_lasts_72 : decode cX4_lasts 72 = .ok (.aload_n 0, 1) := by decide +kernel
theorem dX4_lasts_73 : decode cX4_lasts 73 = .ok (.iconst 1, 1) := by decide +kernel
theorem dX4_lasts_74 : decode cX4_lasts 74 = .ok (.iconst 0, 1) := by decide +kernel
theorem dX4_lasts_75 : decode cX4_lasts 75 = .ok (.invokevirtual 151, 3) := by decide +kernel
theorem dX4_lasts_78 : decode cX4_lasts 78 = .ok (.iload_n 3, 1) := by decide +kernel
theorem dX4_lasts_79 : decode cX4_lasts 79 = .ok (.ireturn, 1) := by decide +kernel
set_option maxRecDepth 20000 in
theorem ggX4_many_X4_isIn : GoodIn wsX4_many wsX4_isIn := goodIn_r _ [4] rfl (by decide +kernel)
set_option maxRecDepth 20000 in
theorem gX4_many_X4_isIn : GoodIn wsX4_many (va_wsS RX4 117 yX4_isIn wsX4_isIn) := goodIn_app (goodIn_r _ [1, 2, 3] rfl (by decide +kernel)) ggX4_many_X4_isIn
set_option maxRecDepth 20000 in
theorem ggX4_many_X4_no : GoodIn wsX4_many wsX4_no := goodIn_r _ [8, 9, 13, 14, 15, 16, 17, 18, 19, 20, 21, 22, 23, 24, 25, 26, 27, 28, 29, 30, 31, 32, 33, 34, 35, 36, 37, 38, 39, 40, 41, 42, 43, 44, 45, 46, 47, 48, 49, 50, 51, 52, 53, 54, 55, 56, 57] rfl (by decide +kernel)
set_option maxRecDepth 20000 in
theorem gX4_many_X4_no : GoodIn wsX4_many (wsV RX4 106 RX4 yX4_no wsX4_no) := goodIn_app (goodIn_r _ [5, 6, 7, 3] rfl (by decide +kernel)) ggX4_many_X4_no
set_option maxRecDepth 20000 in
theorem ggX4_many_X4_bound : GoodIn wsX4_many wsX4_bound := goodIn_r _ [12] rfl (by decide +kernel)
set_option maxRecDepth 20000 in
theorem gX4_many_X4_bound : GoodIn wsX4_many (va_wsS RX4 99 yX4_bound wsX4_bound) := goodIn_app (goodIn_r _ [10, 11, 3] rfl (by decide +kernel)) ggX4_many_X4_bound
theorem dX4_many_0 : decode cX4_many 0 = .ok (.iload_n 1, 1) := by decide +kernel
theorem dX4_many_1 : decode cX4_many 1 = .ok (.iconst 0, 1) := by decide +kernel
theorem dX4_many_2 : decode cX4_many 2 = .ok (.iconst 3, 1) := by decide +kernel
theorem dX4_many_3 : decode cX4_many 3 = .ok (.invokestatic 117, 3) := by decide +kernel
theorem dX4_many_6 : decode cX4_many 6 = .ok (.ifCond .ne 10, 3) := by decide +kernel
theorem dX4_many_9 : decode cX4_many 9 = .ok (.aload_n 0, 1) := by decide +kernel
theorem dX4_many_10 : decode cX4_many 10 = .ok (.bipush (-2), 2) := by decide +kernel
theorem dX4_many_12 : decode cX4_many 12 = .ok (.invokevirtual 106, 3) := by decide +kernel
theorem dX4_many_15 : decode cX4_many 15 = .ok (.ireturn, 1) := by decide +kernel
theorem dX4_many_16 : decode cX4_many 16 = .ok (.iload_n 2, 1) := by decide +kernel
theorem dX4_many_17 : decode cX4_many 17 = .ok (.iconst 1, 1) := by decide +kernel
theorem dX4_many_18 : decode cX4_many 18 = .ok (.sipush 999, 3) := by decide +kernel
theorem dX4_many_21 : decode cX4_many 21 = .ok (.invokestatic 99, 3) := by decide +kernel
theorem dX4_many_24 : decode cX4_many 24 = .ok (.istore_n 3, 1) := by decide +kernel
theorem dX4_many_25 : decode cX4_many 25 = .ok (.iload_n 3, 1) := by decide +kernel
theorem dX4_many_26 : decode cX4_many 26 = .ok (.ifCond .eq 9, 3) := by decide +kernel
theorem dX4_many_29 : decode cX4_many 29 = .ok (.aload_n 0, 1) := by decide +kernel
theorem dX4_many_30 : decode cX4_many 30 = .ok (.iload_n 3, 1) := by decide +kernel
theorem dX4_many_31 : decode cX4_many 31 = .ok (.invokevirtual 106, 3) := by decide +kernel
theorem dX4_many_34 : decode cX4_many 34 = .ok (.ireturn, 1) := by decide +kernel
theorem dX4_many_35 : decode cX4_many 35 = .ok (.iload_n 1, 1) := by decide +kernel
theorem dX4_many_36 : decode cX4_many 36 = .ok (.iconst 1, 1) := by decide +kernel
theorem dX4_many_37 : decode cX4_many 37 = .ok (.if_icmp .ne 9, 3) := by decide +kernel
theorem dX4_many_40 : decode cX4_many 40 = .ok (.iload_n 2, 1) := by decide +kernel
theorem dX4_many_41 : decode cX4_many 41 = .ok (.iconst 1, 1) := by decide +kernel
theorem dX4_many_42 : decode cX4_many 42 = .ok (.iadd, 1) := by decide +kernel
theorem dX4_many_43 : decode cX4_many 43 = .ok (.goto 8, 3) := by decide +kernel
theorem dX4_many_46 : decode cX4_many 46 = .ok (.iconst 2, 1) := by decide +kernel
theorem dX4_many_47 : decode cX4_many 47 = .ok (.iload_n 2, 1) := by decide +kernel
theorem dX4_many_48 : decode cX4_many 48 = .ok (.imul, 1) := by decide +kernel
theorem dX4_many_49 : decode cX4_many 49 = .ok (.iconst 1, 1) := by decide +kernel
theorem dX4_many_50 : decode cX4_many 50 = .ok (.iadd, 1) := by decide +kernel
theorem dX4_many_51 : decode cX4_many 51 = .ok (.ireturn, 1) := by decide +kernel
set_option maxRecDepth 20000 in
theorem ggX4_move_X4_isOne : GoodIn wsX4_move wsX4_isOne := goodIn_r _ [6, 7, 16, 17, 18, 19, 20, 21, 22, 23, 24, 25, 26, 27, 28, 29, 30, 31, 32, 33, 34, 35, 36, 37, 38, 39, 40, 41, 42, 43, 44, 45, 46, 47, 48, 49, 50, 51, 52, 53, 54, 55, 56, 57, 58, 59, 60] rfl (by decide +kernel)
set_option maxRecDepth 20000 in
theorem gX4_move_X4_isOne : GoodIn wsX4_move (wsV RX4 135 RX4 yX4_isOne wsX4_isOne) := goodIn_app (goodIn_r _ [2, 3, 4, 5] rfl (by decide +kernel)) ggX4_move_X4_isOne
set_option maxRecDepth 20000 in
theorem ggX4_move_X4_no : GoodIn wsX4_move wsX4_no := goodIn_r _ [11, 12, 16, 17, 18, 19, 20, 21, 22, 23, 24, 25, 26, 27, 28, 29, 30, 31, 32, 33, 34, 35, 36, 37, 38, 39, 40, 41, 42, 43, 44, 45, 46, 47, 48, 49, 50, 51, 52, 53, 54, 55, 56, 57, 58, 59, 60] rfl (by decide +kernel)
set_option maxRecDepth 20000 in
theorem gX4_move_X4_no : GoodIn wsX4_move (wsV RX4 106 RX4 yX4_no wsX4_no) := goodIn_app (goodIn_r _ [8, 9, 10, 5] rfl (by decide +kernel)) ggX4_move_X4_no
set_option maxRecDepth 20000 in
theorem ggX4_move_X4_bound : GoodIn wsX4_move wsX4_bound := goodIn_r _ [15] rfl (by decide +kernel)
set_option maxRecDepth 20000 in
theorem gX4_move_X4_bound : GoodIn wsX4_move (va_wsS RX4 99 yX4_bound wsX4_bound) := goodIn_app (goodIn_r _ [13, 14, 5] rfl (by decide +kernel)) ggX4_move_X4_bound
theorem dX4_move_0 : decode cX4_move 0 = .ok (.aload_n 0, 1) := by decide +kernel
theorem dX4_move_1 : decode cX4_move 1 = .ok (.iload_n 1, 1) := by decide +kernel
theorem dX4_move_2 : decode cX4_move 2 = .ok (.invokevirtual 135, 3) := by decide +kernel
theorem dX4_move_5 : decode cX4_move 5 = .ok (.ifCond .ne 9, 3) := by decide +kernel
theorem dX4_move_8 : decode cX4_move 8 = .ok (.aload_n 0, 1) := by decide +kernel
theorem dX4_move_9 : decode cX4_move 9 = .ok (.iconst (-1), 1) := by decide +kernel
theorem dX4_move_10 : decode cX4_move 10 = .ok (.invokevirtual 106, 3) := by decide +kernel
theorem dX4_move_13 : decode cX4_move 13 = .ok (.ireturn, 1) := by decide +kernel
theorem dX4_move_14 : decode cX4_move 14 = .ok (.iload_n 2, 1) := by decide +kernel
theorem dX4_move_15 : decode cX4_move 15 = .ok (.iconst 0, 1) := by decide +kernel
theorem dX4_move_16 : decode cX4_move 16 = .ok (.bipush 99, 2) := by decide +kernel
theorem dX4_move_18 : decode cX4_move 18 = .ok (.invokestatic 99, 3) := by decide +kernel
theorem dX4_move_21 : decode cX4_move 21 = .ok (.istore_n 3, 1) := by decide +kernel
theorem dX4_move_22 : decode cX4_move 22 = .ok (.iload_n 3, 1) := by decide +kernel
theorem dX4_move_23 : decode cX4_move 23 = .ok (.ifCond .eq 9, 3) := by decide +kernel
theorem dX4_move_26 : decode cX4_move 26 = .ok (.aload_n 0, 1) := by decide +kernel
theorem dX4_move_27 : decode cX4_move 27 = .ok (.iload_n 3, 1) := by decide +kernel
theorem dX4_move_28 : decode cX4_move 28 = .ok (.invokevirtual 106, 3) := by decide +kernel
theorem dX4_move_31 : decode cX4_move 31 = .ok (.ireturn, 1) := by decide +kernel
theorem dX4_move_32 : decode cX4_move 32 = .ok (.aload_n 0, 1) := by decide +kernel
theorem dX4_move_33 : decode cX4_move 33 = .ok (.getfield 16, 3) := by decide +kernel
theorem dX4_move_36 : decode cX4_move 36 = .ok (.iload_n 1, 1) := by decide +kernel
theorem dX4_move_37 : decode cX4_move 37 = .ok (.iaload, 1) := by decide +kernel
theorem dX4_move_38 : decode cX4_move 38 = .ok (.istore 4, 2) := by decide +kernel
theorem dX4_move_40 : decode cX4_move 40 = .ok (.aload_n 0, 1) := by decide +kernel
theorem dX4_move_41 : decode cX4_move 41 = .ok (.getfield 16, 3) := by decide +kernel
theorem dX4_move_44 : decode cX4_move 44 = .ok (.iload_n 1, 1) := by decide +kernel
theorem dX4_move_45 : decode cX4_move 45 = .ok (.iload_n 2, 1) := by decide +kernel
theorem dX4_move_46 : decode cX4_move 46 = .ok (.iastore, 1) := by decide +kernel
theorem dX4_move_47 : decode cX4_move 47 = .ok (.iload 4, 2) := by decide +kernel
theorem dX4_move_49 : decode cX4_move 49 = .ok (.ireturn, 1) := by decide +kernel
set_option maxRecDepth 20000 in
theorem ggX4_bestPlace_X4_isOne : GoodIn wsX4_bestPlace wsX4_isOne := goodIn_r _ [6, 7, 119, 120, 121, 122, 123, 124, 125, 126, 127, 128, 129, 130, 131, 132, 133, 134, 135, 136, 137, 138, 139, 140, 141, 142, 143, 144, 145, 146, 147, 148, 149, 150, 151, 152, 153, 154, 155, 156, 157, 158, 159, 160, 161, 162, 163] rfl (by decide +kernel)
set_option maxRecDepth 20000 in
theorem gX4_bestPlace_X4_isOne : GoodIn wsX4_bestPlace (wsV RX4 135 RX4 yX4_isOne wsX4_isOne) := goodIn_app (goodIn_r _ [2, 3, 4, 5] rfl (by decide +kernel)) ggX4_bestPlace_X4_isOne
set_option maxRecDepth 20000 in
theorem ggX4_bestPlace_X4_no : GoodIn wsX4_bestPlace wsX4_no := goodIn_r _ [11, 12, 119, 120, 121, 122, 123, 124, 125, 126, 127, 128, 129, 130, 131, 132, 133, 134, 135, 136, 137, 138, 139, 140, 141, 142, 143, 144, 145, 146, 147, 148, 149, 150, 151, 152, 153, 154, 155, 156, 157, 158, 159, 160, 161, 162, 163] rfl (by decide +kernel)
set_option maxRecDepth 20000 in
theorem gX4_bestPlace_X4_no : GoodIn wsX4_bestPlace (wsV RX4 106 RX4 yX4_no wsX4_no) := goodIn_app (goodIn_r _ [8, 9, 10, 5] rfl (by decide +kernel)) ggX4_bestPlace_X4_no
set_option maxRecDepth 20000 in
theorem ggX4_bestPlace_X4_runOf : GoodIn wsX4_bestPlace wsX4_runOf := goodIn_r _ [16, 17, 18, 19, 20, 21, 22, 23, 24, 5, 25, 26, 27, 28, 1, 29, 30, 31, 32, 33, 34, 35, 36, 37, 38, 39, 7, 40, 41, 42, 43, 44, 45, 46, 47, 48, 49, 50, 51, 52, 53, 54, 55, 56, 57, 58, 59, 60, 61, 62, 63, 64, 65, 66, 67, 2, 3, 4, 6, 68, 69, 70, 71, 72, 73, 74, 75, 76, 77, 78, 79, 80, 81, 82, 83, 84, 85, 86, 87, 88, 89, 90, 91, 92, 93, 94, 95, 96, 97, 98, 99, 100, 101, 102, 103, 104, 105, 106, 107, 108, 109, 110, 111, 112, 113, 114, 115, 116, 117, 118, 119, 120, 121, 122, 123, 124, 125, 126, 127, 128, 129, 130, 131, 132, 133, 134, 135, 136, 137, 138, 139, 140, 141, 142, 143, 144, 145, 146, 147, 148, 149, 150, 151, 152, 153, 154, 155, 156, 157, 158, 159, 160, 161, 162, 163] rfl (by decide +kernel)
set_option maxRecDepth 20000 in
theorem gX4_bestPlace_X4_runOf : GoodIn wsX4_bestPlace (wsV RX4 252 RX4 yX4_runOf wsX4_runOf) := goodIn_app (goodIn_r _ [13, 14, 15, 5] rfl (by decide +kernel)) ggX4_bestPlace_X4_runOf
theorem dX4_bestPlace_0 : decode cX4_bestPlace 0 = .ok (.aload_n 0, 1) := by decide +kernel
theorem dX4_bestPlace_1 : decode cX4_bestPlace 1 = .ok (.iload_n 1, 1) := by decide +kernel
theorem dX4_bestPlace_2 : decode cX4_bestPlace 2 = .ok (.invokevirtual 135, 3) := by decide +kernel
theorem dX4_bestPlace_5 : decode cX4_bestPlace 5 = .ok (.ifCond .ne 9, 3) := by decide +kernel
theorem dX4_bestPlace_8 : decode cX4_bestPlace 8 = .ok (.aload_n 0, 1) := by decide +kernel
theorem dX4_bestPlace_9 : decode cX4_bestPlace 9 = .ok (.iconst (-1), 1) := by decide +kernel
theorem dX4_bestPlace_10 : decode cX4_bestPlace 10 = .ok (.invokevirtual 106, 3) := by decide +kernel
theorem dX4_bestPlace_13 : decode cX4_bestPlace 13 = .ok (.ireturn, 1) := by decide +kernel
theorem dX4_bestPlace_14 : decode cX4_bestPlace 14 = .ok (.aload_n 0, 1) := by decide +kernel
theorem dX4_bestPlace_15 : decode cX4_bestPlace 15 = .ok (.getfield 16, 3) := by decide +kernel
theorem dX4_bestPlace_18 : decode cX4_bestPlace 18 = .ok (.iload_n 1, 1) := by decide +kernel
theorem dX4_bestPlace_19 : decode cX4_bestPlace 19 = .ok (.iaload, 1) := by decide +kernel
theorem dX4_bestPlace_20 : decode cX4_bestPlace 20 = .ok (.istore_n 2, 1) := by decide +kernel
theorem dX4_bestPlace_21 : decode cX4_bestPlace 21 = .ok (.iconst 0, 1) := by decide +kernel
theorem dX4_bestPlace_22 : decode cX4_bestPlace 22 = .ok (.istore_n 3, 1) := by decide +kernel
theorem dX4_bestPlace_23 : decode cX4_bestPlace 23 = .ok (.iconst (-1), 1) := by decide +kernel
theorem dX4_bestPlace_24 : decode cX4_bestPlace 24 = .ok (.istore 4, 2) := by decide +kernel
theorem dX4_bestPlace_26 : decode cX4_bestPlace 26 = .ok (.iconst 0, 1) := by decide +kernel
theorem dX4_bestPlace_27 : decode cX4_bestPlace 27 = .ok (.istore 5, 2) := by decide +kernel
theorem dX4_bestPlace_29 : decode cX4_bestPlace 29 = .ok (.iload 5, 2) := by decide +kernel
theorem dX4_bestPlace_31 : decode cX4_bestPlace 31 = .ok (.bipush 100, 2) := by decide +kernel
theorem dX4_bestPlace_33 : decode cX4_bestPlace 33 = .ok (.if_icmp .ge 42, 3) := by decide +kernel
theorem dX4_bestPlace_36 : decode cX4_bestPlace 36 = .ok (.aload_n 0, 1) := by decide +kernel
theorem dX4_bestPlace_37 : decode cX4_bestPlace 37 = .ok (.getfield 16, 3) := by decide +kernel
theorem dX4_bestPlace_40 : decode cX4_bestPlace 40 = .ok (.iload_n 1, 1) := by decide +kernel
theorem dX4_bestPlace_41 : decode cX4_bestPlace 41 = .ok (.iload 5, 2) := by decide +kernel
theorem dX4_bestPlace_43 : decode cX4_bestPlace 43 = .ok (.iastore, 1) := by decide +kernel
theorem dX4_bestPlace_44 : decode cX4_bestPlace 44 = .ok (.aload_n 0, 1) := by decide +kernel
theorem dX4_bestPlace_45 : decode cX4_bestPlace 45 = .ok (.iconst 1, 1) := by decide +kernel
theorem dX4_bestPlace_46 : decode cX4_bestPlace 46 = .ok (.iconst 0, 1) := by decide +kernel
theorem dX4_bestPlace_47 : decode cX4_bestPlace 47 = .ok (.invokevirtual 252, 3) := by decide +kernel
theorem dX4_bestPlace_50 : decode cX4_bestPlace 50 = .ok (.istore 6, 2) := by decide +kernel
theorem dX4_bestPlace_52 : decode cX4_bestPlace 52 = .ok (.iload 6, 2) := by decide +kernel
theorem dX4_bestPlace_54 : decode cX4_bestPlace 54 = .ok (.iload 4, 2) := by decide +kernel
theorem dX4_bestPlace_56 : decode cX4_bestPlace 56 = .ok (.if_icmp .gt 6, 3) := by decide +kernel
theorem dX4_bestPlace_59 : decode cX4_bestPlace 59 = .ok (.goto 10, 3) := by decide +kernel
theorem dX4_bestPlace_62 : decode cX4_bestPlace 62 = .ok (.iload 5, 2) := by decide +kernel
theorem dX4_bestPlace_64 : decode cX4_bestPlace 64 = .ok (.istore_n 3, 1) := by decide +kernel
theorem dX4_bestPlace_65 : decode cX4_bestPlace 65 = .ok (.iload 6, 2) := by decide +kernel
theorem dX4_bestPlace_67 : decode cX4_bestPlace 67 = .ok (.istore 4, 2) := by decide +kernel
theorem dX4_bestPlace_69 : decode cX4_bestPlace 69 = .ok (.iinc 5 10, 3) := by decide +kernel
theorem dX4_bestPlace_72 : decode cX4_bestPlace 72 = .ok (.goto (-43), 3) := by decide +kernel
theorem dX4_bestPlace_75 : decode cX4_bestPlace 75 = .ok (.aload_n 0, 1) := by decide +kernel
theorem dX4_bestPlace_76 : decode cX4_bestPlace 76 = .ok (.getfield 16, 3) := by decide +kernel
theorem dX4_bestPlace_79 : decode cX4_bestPlace 79 = .ok (.iload_n 1, 1) := by decide +kernel
theorem dX4_bestPlace_80 : decode cX4_bestPlace 80 = .ok (.iload_n 2, 1) := by decide +kernel
theorem dX4_bestPlace_81 : decode cX4_bestPlace 81 = .ok (.iastore, 1) := by decide +kernel
theorem dX4_bestPlace_82 : decode cX4_bestPlace 82 = .ok (.iload_n 3, 1) := by decide +kernel
theorem dX4_bestPlace_83 : decode cX4_bestPlace 83 = .ok (.ireturn, 1) := by decide +kernel
set_option maxRecDepth 20000 in
theorem ggX4_strangers_X4_isRule : GoodIn wsX4_strangers wsX4_isRule := goodIn_r _ [5] rfl (by decide +kernel)
set_option maxRecDepth 20000 in
theorem gX4_strangers_X4_isRule : GoodIn wsX4_strangers (va_wsS RX4 237 yX4_isRule wsX4_isRule) := goodIn_app (goodIn_r _ [2, 3, 4] rfl (by decide +kernel)) ggX4_strangers_X4_isRule
set_option maxRecDepth 20000 in
theorem ggX4_strangers_X4_runOf : GoodIn wsX4_strangers wsX4_runOf := goodIn_r _ [9, 10, 11, 12, 13, 14, 15, 16, 17, 4, 18, 19, 20, 21, 22, 23, 24, 25, 26, 27, 28, 29, 30, 31, 32, 33, 34, 35, 36, 37, 38, 1, 39, 40, 41, 42, 43, 44, 45, 46, 47, 48, 49, 50, 51, 52, 53, 54, 55, 56, 57, 58, 59, 60, 61, 62, 63, 64, 65, 66, 67, 68, 69, 70, 71, 72, 73, 74, 75, 76, 77, 78, 79, 80, 81, 82, 83, 84, 85, 86, 87, 88, 89, 90, 91, 92, 93, 94, 95, 96, 97, 98, 99, 100, 101, 102, 103, 104, 105, 106, 107, 108, 109, 110, 111, 112, 113, 114, 115, 116, 122, 123, 124, 125, 126, 127, 128, 129, 130, 131, 132, 133, 134, 135, 136, 137, 138, 139, 140, 141, 142, 143, 144, 145, 146, 147, 148, 149, 150, 151, 152, 153, 154, 155, 156, 157, 158, 159, 160, 161, 162, 163, 164, 165, 166] rfl (by decide +kernel)
set_option maxRecDepth 20000 in
theorem gX4_strangers_X4_runOf : GoodIn wsX4_strangers (wsV RX4 252 RX4 yX4_runOf wsX4_runOf) := goodIn_app (goodIn_r _ [6, 7, 8, 4] rfl (by decide +kernel)) ggX4_strangers_X4_runOf
set_option maxRecDepth 20000 in
theorem ggX4_strangers_X4_no : GoodIn wsX4_strangers wsX4_no := goodIn_r _ [120, 121, 122, 123, 124, 125, 126, 127, 128, 129, 130, 131, 132, 133, 134, 135, 136, 137, 138, 139, 140, 141, 142, 143, 144, 145, 146, 147, 148, 149, 150, 151, 152, 153, 154, 155, 156, 157, 158, 159, 160, 161, 162, 163, 164, 165, 166] rfl (by decide +kernel)
set_option maxRecDepth 20000 in
theorem gX4_strangers_X4_no : GoodIn wsX4_strangers (wsV RX4 106 RX4 yX4_no wsX4_no) := goodIn_app (goodIn_r _ [117, 118, 119, 4] rfl (by decide +kernel)) ggX4_strangers_X4_no
theorem dX4_strangers_0 : decode cX4_strangers 0 = .ok (.iload_n 1, 1) := by decide +kernel
theorem dX4_strangers_1 : decode cX4_strangers 1 = .ok (.invokestatic 237, 3) := by decide +kernel
theorem dX4_strangers_4 : decode cX4_strangers 4 = .ok (.ifCond .eq 15, 3) := by decide +kernel
theorem dX4_strangers_7 : decode cX4_strangers 7 = .ok (.aload_n 0, 1) := by decide +kernel
theorem dX4_strangers_8 : decode cX4_strangers 8 = .ok (.iload_n 1, 1) := by decide +kernel
theorem dX4_strangers_9 : decode cX4_strangers 9 = .ok (.aload_n 0, 1) := by decide +kernel
theorem dX4_strangers_10 : decode cX4_strangers 10 = .ok (.getfield 175, 3) := by decide +kernel
theorem dX4_strangers_13 : decode cX4_strangers 13 = .ok (.invokevirtual 252, 3) := by decide +kernel
theorem dX4_strangers_16 : decode cX4_strangers 16 = .ok (.goto 9, 3) := by decide +kernel
theorem dX4_strangers_19 : decode cX4_strangers 19 = .ok (.aload_n 0, 1) := by decide +kernel
theorem dX4_strangers_20 : decode cX4_strangers 20 = .ok (.bipush (-2), 2) := by decide +kernel
theorem dX4_strangers_22 : decode cX4_strangers 22 = .ok (.invokevirtual 106, 3) := by decide +kernel
theorem dX4_strangers_25 : decode cX4_strangers 25 = .ok (.ireturn, 1) := by decide +kernel
set_option maxRecDepth 20000 in
theorem ggX4_smallest_X4_runOf : GoodIn wsX4_smallest wsX4_runOf := goodIn_r _ [7, 8, 9, 10, 11, 12, 13, 14, 15, 6, 16, 17, 18, 19, 20, 21, 22, 23, 24, 25, 26, 27, 28, 29, 30, 31, 32, 33, 1, 34, 2, 35, 36, 37, 38, 39, 40, 41, 42, 43, 44, 45, 46, 47, 48, 49, 50, 51, 52, 53, 54, 55, 56, 57, 58, 59, 60, 61, 62, 63, 64, 65, 66, 67, 68, 69, 70, 71, 72, 73, 74, 75, 76, 77, 78, 79, 80, 81, 82, 83, 84, 85, 86, 87, 88, 89, 90, 91, 92, 93, 94, 95, 96, 97, 98, 99, 100, 101, 102, 103, 104, 105, 106, 107, 108, 109, 110, 111, 112, 113, 114, 115, 116, 117, 118, 119, 120, 121, 122, 123, 124, 125, 126, 127, 128, 129, 130, 131, 132, 133, 134, 135, 136, 137, 138, 139, 140, 141, 142, 143, 144, 145, 146, 147, 148, 149, 150, 151, 152, 153, 154, 155, 156, 157, 158] rfl (by decide +kernel)
set_option maxRecDepth 20000 in
theorem gX4_smallest_X4_runOf : GoodIn wsX4_smallest (wsV RX4 252 RX4 yX4_runOf wsX4_runOf) := goodIn_app (goodIn_r _ [3, 4, 5, 6] rfl (by decide +kernel)) ggX4_smallest_X4_runOf
theorem dX4_smallest_0 : decode cX4_smallest 0 = .ok (.aload_n 0, 1) := by decide +kernel
theorem dX4_smallest_1 : decode cX4_smallest 1 = .ok (.getfield 144, 3) := by decide +kernel
theorem dX4_smallest_4 : decode cX4_smallest 4 = .ok (.istore_n 1, 1) := by decide +kernel
theorem dX4_smallest_5 : decode cX4_smallest 5 = .ok (.aload_n 0, 1) := by decide +kernel
theorem dX4_smallest_6 : decode cX4_smallest 6 = .ok (.getfield 59, 3) := by decide +kernel
theorem dX4_smallest_9 : decode cX4_smallest 9 = .ok (.istore_n 2, 1) := by decide +kernel
theorem dX4_smallest_10 : decode cX4_smallest 10 = .ok (.aload_n 0, 1) := by decide +kernel
theorem dX4_smallest_11 : decode cX4_smallest 11 = .ok (.iconst 3, 1) := by decide +kernel
theorem dX4_smallest_12 : decode cX4_smallest 12 = .ok (.putfield 144, 3) := by decide +kernel
theorem dX4_smallest_15 : decode cX4_smallest 15 = .ok (.iconst 0, 1) := by decide +kernel
theorem dX4_smallest_16 : decode cX4_smallest 16 = .ok (.istore_n 3, 1) := by decide +kernel
theorem dX4_smallest_17 : decode cX4_smallest 17 = .ok (.iconst (-1), 1) := by decide +kernel
theorem dX4_smallest_18 : decode cX4_smallest 18 = .ok (.istore 4, 2) := by decide +kernel
theorem dX4_smallest_20 : decode cX4_smallest 20 = .ok (.iconst 0, 1) := by decide +kernel
theorem dX4_smallest_21 : decode cX4_smallest 21 = .ok (.istore 5, 2) := by decide +kernel
theorem dX4_smallest_23 : decode cX4_smallest 23 = .ok (.iload 5, 2) := by decide +kernel
theorem dX4_smallest_25 : decode cX4_smallest 25 = .ok (.bipush 10, 2) := by decide +kernel
theorem dX4_smallest_27 : decode cX4_smallest 27 = .ok (.if_icmp .ge 40, 3) := by decide +kernel
theorem dX4_smallest_30 : decode cX4_smallest 30 = .ok (.aload_n 0, 1) := by decide +kernel
theorem dX4_smallest_31 : decode cX4_smallest 31 = .ok (.iload 5, 2) := by decide +kernel
theorem dX4_smallest_33 : decode cX4_smallest 33 = .ok (.putfield 59, 3) := by decide +kernel
theorem dX4_smallest_36 : decode cX4_smallest 36 = .ok (.aload_n 0, 1) := by decide +kernel
theorem dX4_smallest_37 : decode cX4_smallest 37 = .ok (.iconst 1, 1) := by decide +kernel
theorem dX4_smallest_38 : decode cX4_smallest 38 = .ok (.iconst 0, 1) := by decide +kernel
theorem dX4_smallest_39 : decode cX4_smallest 39 = .ok (.invokevirtual 252, 3) := by decide +kernel
theorem dX4_smallest_42 : decode cX4_smallest 42 = .ok (.istore 6, 2) := by decide +kernel
theorem dX4_smallest_44 : decode cX4_smallest 44 = .ok (.iload 6, 2) := by decide +kernel
theorem dX4_smallest_46 : decode cX4_smallest 46 = .ok (.iload 4, 2) := by decide +kernel
theorem dX4_smallest_48 : decode cX4_smallest 48 = .ok (.if_icmp .gt 6, 3) := by decide +kernel
theorem dX4_smallest_51 : decode cX4_smallest 51 = .ok (.goto 10, 3) := by decide +kernel
theorem dX4_smallest_54 : decode cX4_smallest 54 = .ok (.iload 5, 2) := by decide +kernel
theorem dX4_smallest_56 : decode cX4_smallest 56 = .ok (.istore_n 3, 1) := by decide +kernel
theorem dX4_smallest_57 : decode cX4_smallest 57 = .ok (.iload 6, 2) := by decide +kernel
theorem dX4_smallest_59 : decode cX4_smallest 59 = .ok (.istore 4, 2) := by decide +kernel
theorem dX4_smallest_61 : decode cX4_smallest 61 = .ok (.iinc 5 1, 3) := by decide +kernel
theorem dX4_smallest_64 : decode cX4_smallest 64 = .ok (.goto (-41), 3) := by decide +kernel
theorem dX4_smallest_67 : decode cX4_smallest 67 = .ok (.aload_n 0, 1) := by decide +kernel
theorem dX4_smallest_68 : decode cX4_smallest 68 = .ok (.iload_n 1, 1) := by decide +kernel
theorem dX4_smallest_69 : decode cX4_smallest 69 = .ok (.putfield 144, 3) := by decide +kernel
theorem dX4_smallest_72 : decode cX4_smallest 72 = .ok (.aload_n 0, 1) := by decide +kernel
theorem dX4_smallest_73 : decode cX4_smallest 73 = .ok (.iload_n 2, 1) := by decide +kernel
theorem dX4_smallest_74 : decode cX4_smallest 74 = .ok (.putfield 59, 3) := by decide +kernel
theorem dX4_smallest_77 : decode cX4_smallest 77 = .ok (.iload_n 3, 1) := by decide +kernel
theorem dX4_smallest_78 : decode cX4_smallest 78 = .ok (.ireturn, 1) := by decide +kernel
set_option maxRecDepth 20000 in
theorem ggX4_byLaw_X4_isIn : GoodIn wsX4_byLaw wsX4_isIn := goodIn_r _ [5] rfl (by decide +kernel)
set_option maxRecDepth 20000 in
theorem gX4_byLaw_X4_isIn : GoodIn wsX4_byLaw (va_wsS RX4 117 yX4_isIn wsX4_isIn) := goodIn_app (goodIn_r _ [2, 3, 4] rfl (by decide +kernel)) ggX4_byLaw_X4_isIn
set_option maxRecDepth 20000 in
theorem ggX4_byLaw_X4_isRule : GoodIn wsX4_byLaw wsX4_isRule := goodIn_r _ [8] rfl (by decide +kernel)
set_option maxRecDepth 20000 in
theorem gX4_byLaw_X4_isRule : GoodIn wsX4_byLaw (va_wsS RX4 237 yX4_isRule wsX4_isRule) := goodIn_app (goodIn_r _ [6, 7, 4] rfl (by decide +kernel)) ggX4_byLaw_X4_isRule
set_option maxRecDepth 20000 in
theorem ggX4_byLaw_X4_no : GoodIn wsX4_byLaw wsX4_no := goodIn_r _ [12, 13, 125, 126, 127, 128, 129, 130, 131, 132, 133, 134, 135, 136, 137, 138, 139, 140, 141, 142, 143, 144, 145, 146, 147, 148, 149, 150, 151, 152, 153, 154, 155, 156, 157, 158, 159, 160, 161, 162, 163, 164, 165, 166, 167, 168, 169] rfl (by decide +kernel)
set_option maxRecDepth 20000 in
theorem gX4_byLaw_X4_no : GoodIn wsX4_byLaw (wsV RX4 106 RX4 yX4_no wsX4_no) := goodIn_app (goodIn_r _ [9, 10, 11, 4] rfl (by decide +kernel)) ggX4_byLaw_X4_no
set_option maxRecDepth 20000 in
theorem ggX4_byLaw_X4_runOf : GoodIn wsX4_byLaw wsX4_runOf := goodIn_r _ [17, 18, 19, 20, 21, 22, 23, 24, 25, 4, 26, 27, 28, 29, 30, 31, 32, 33, 34, 35, 36, 37, 38, 39, 40, 41, 42, 43, 1, 44, 45, 46, 47, 48, 49, 50, 51, 52, 53, 54, 55, 56, 57, 58, 59, 60, 61, 62, 63, 64, 65, 66, 67, 68, 69, 70, 71, 72, 73, 74, 75, 76, 77, 78, 79, 80, 81, 82, 83, 84, 85, 86, 87, 88, 89, 90, 91, 92, 93, 94, 95, 96, 97, 98, 99, 100, 101, 102, 103, 104, 105, 106, 107, 108, 109, 110, 111, 112, 113, 114, 115, 116, 117, 118, 119, 120, 121, 122, 123, 124, 125, 126, 127, 128, 129, 130, 131, 132, 133, 134, 135, 136, 137, 138, 139, 140, 141, 142, 143, 144, 145, 146, 147, 148, 149, 150, 151, 152, 153, 154, 155, 156, 157, 158, 159, 160, 161, 162, 163, 164, 165, 166, 167, 168, 169] rfl (by decide +kernel)
set_option maxRecDepth 20000 in
theorem gX4_byLaw_X4_runOf : GoodIn wsX4_byLaw (wsV RX4 252 RX4 yX4_runOf wsX4_runOf) := goodIn_app (goodIn_r _ [14, 15, 16, 4] rfl (by decide +kernel)) ggX4_byLaw_X4_runOf
theorem dX4_byLaw_0 : decode cX4_byLaw 0 = .ok (.iload_n 1, 1) := by decide +kernel
theorem dX4_byLaw_1 : decode cX4_byLaw 1 = .ok (.iconst 0, 1) := by decide +kernel
theorem dX4_byLaw_2 : decode cX4_byLaw 2 = .ok (.iconst 3, 1) := by decide +kernel
theorem dX4_byLaw_3 : decode cX4_byLaw 3 = .ok (.invokestatic 117, 3) := by decide +kernel
theorem dX4_byLaw_6 : decode cX4_byLaw 6 = .ok (.ifCond .eq 10, 3) := by decide +kernel
theorem dX4_byLaw_9 : decode cX4_byLaw 9 = .ok (.iload_n 2, 1) := by decide +kernel
theorem dX4_byLaw_10 : decode cX4_byLaw 10 = .ok (.invokestatic 237, 3) := by decide +kernel
theorem dX4_byLaw_13 : decode cX4_byLaw 13 = .ok (.ifCond .ne 10, 3) := by decide +kernel
theorem dX4_byLaw_16 : decode cX4_byLaw 16 = .ok (.aload_n 0, 1) := by decide +kernel
theorem dX4_byLaw_17 : decode cX4_byLaw 17 = .ok (.bipush (-2), 2) := by decide +kernel
theorem dX4_byLaw_19 : decode cX4_byLaw 19 = .ok (.invokevirtual 106, 3) := by decide +kernel
theorem dX4_byLaw_22 : decode cX4_byLaw 22 = .ok (.ireturn, 1) := by decide +kernel
theorem dX4_byLaw_23 : decode cX4_byLaw 23 = .ok (.aload_n 0, 1) := by decide +kernel
theorem dX4_byLaw_24 : decode cX4_byLaw 24 = .ok (.getfield 144, 3) := by decide +kernel
theorem dX4_byLaw_27 : decode cX4_byLaw 27 = .ok (.istore_n 3, 1) := by decide +kernel
theorem dX4_byLaw_28 : decode cX4_byLaw 28 = .ok (.aload_n 0, 1) := by decide +kernel
theorem dX4_byLaw_29 : decode cX4_byLaw 29 = .ok (.iload_n 1, 1) := by decide +kernel
theorem dX4_byLaw_30 : decode cX4_byLaw 30 = .ok (.putfield 144, 3) := by decide +kernel
theorem dX4_byLaw_33 : decode cX4_byLaw 33 = .ok (.aload_n 0, 1) := by decide +kernel
theorem dX4_byLaw_34 : decode cX4_byLaw 34 = .ok (.iload_n 2, 1) := by decide +kernel
theorem dX4_byLaw_35 : decode cX4_byLaw 35 = .ok (.iconst 0, 1) := by decide +kernel
theorem dX4_byLaw_36 : decode cX4_byLaw 36 = .ok (.invokevirtual 252, 3) := by decide +kernel
theorem dX4_byLaw_39 : decode cX4_byLaw 39 = .ok (.istore 4, 2) := by decide +kernel
theorem dX4_byLaw_41 : decode cX4_byLaw 41 = .ok (.aload_n 0, 1) := by decide +kernel
theorem dX4_byLaw_42 : decode cX4_byLaw 42 = .ok (.iload_n 3, 1) := by decide +kernel
theorem dX4_byLaw_43 : decode cX4_byLaw 43 = .ok (.putfield 144, 3) := by decide +kernel
theorem dX4_byLaw_46 : decode cX4_byLaw 46 = .ok (.iload 4, 2) := by decide +kernel
theorem dX4_byLaw_48 : decode cX4_byLaw 48 = .ok (.ireturn, 1) := by decide +kernel
theorem dX4_draw_0 : decode cX4_draw 0 = .ok (.aload_n 0, 1) := by decide +kernel
theorem dX4_draw_1 : decode cX4_draw 1 = .ok (.aload_n 0, 1) := by decide +kernel
theorem dX4_draw_2 : decode cX4_draw 2 = .ok (.getfield 283, 3) := by decide +kernel
theorem dX4_draw_5 : decode cX4_draw 5 = .ok (.ldc_w 286, 3) := by decide +kernel
theorem dX4_draw_8 : decode cX4_draw 8 = .ok (.imul, 1) := by decide +kernel
theorem dX4_draw_9 : decode cX4_draw 9 = .ok (.sipush 12345, 3) := by decide +kernel
theorem dX4_draw_12 : decode cX4_draw 12 = .ok (.iadd, 1) := by decide +kernel
theorem dX4_draw_13 : decode cX4_draw 13 = .ok (.putfield 283, 3) := by decide +kernel
theorem dX4_draw_16 : decode cX4_draw 16 = .ok (.aload_n 0, 1) := by decide +kernel
theorem dX4_draw_17 : decode cX4_draw 17 = .ok (.getfield 283, 3) := by decide +kernel
theorem dX4_draw_20 : decode cX4_draw 20 = .ok (.ldc_w 287, 3) := by decide +kernel
theorem dX4_draw_23 : decode cX4_draw 23 = .ok (.iand, 1) := by decide +kernel
theorem dX4_draw_24 : decode cX4_draw 24 = .ok (.ldc_w 288, 3) := by decide +kernel
theorem dX4_draw_27 : decode cX4_draw 27 = .ok (.idiv, 1) := by decide +kernel
theorem dX4_draw_28 : decode cX4_draw 28 = .ok (.iload_n 1, 1) := by decide +kernel
theorem dX4_draw_29 : decode cX4_draw 29 = .ok (.irem, 1) := by decide +kernel
theorem dX4_draw_30 : decode cX4_draw 30 = .ok (.ireturn, 1) := by decide +kernel
set_option maxRecDepth 20000 in
theorem ggX4_seeds_X4_isRule : GoodIn wsX4_seeds wsX4_isRule := goodIn_r _ [7] rfl (by decide +kernel)
set_option maxRecDepth 20000 in
theorem gX4_seeds_X4_isRule : GoodIn wsX4_seeds (va_wsS RX4 237 yX4_isRule wsX4_isRule) := goodIn_app (goodIn_r _ [4, 5, 6] rfl (by decide +kernel)) ggX4_seeds_X4_isRule
set_option maxRecDepth 20000 in
theorem ggX4_seeds_X4_no : GoodIn wsX4_seeds wsX4_no := goodIn_r _ [11, 12, 131, 132, 133, 134, 135, 136, 137, 138, 139, 140, 141, 142, 143, 144, 145, 146, 147, 148, 149, 150, 151, 152, 153, 154, 155, 156, 157, 158, 159, 160, 161, 162, 163, 164, 165, 166, 167, 168, 169, 170, 171, 172, 173, 174, 175] rfl (by decide +kernel)
set_option maxRecDepth 20000 in
theorem gX4_seeds_X4_no : GoodIn wsX4_seeds (wsV RX4 106 RX4 yX4_no wsX4_no) := goodIn_app (goodIn_r _ [8, 9, 10, 6] rfl (by decide +kernel)) ggX4_seeds_X4_no
set_option maxRecDepth 20000 in
theorem ggX4_seeds_X4_bound : GoodIn wsX4_seeds wsX4_bound := goodIn_r _ [15] rfl (by decide +kernel)
set_option maxRecDepth 20000 in
theorem gX4_seeds_X4_bound : GoodIn wsX4_seeds (va_wsS RX4 99 yX4_bound wsX4_bound) := goodIn_app (goodIn_r _ [13, 14, 6] rfl (by decide +kernel)) ggX4_seeds_X4_bound
set_option maxRecDepth 20000 in
theorem ggX4_seeds_X4_passesAll : GoodIn wsX4_seeds wsX4_passesAll := goodIn_r _ [19, 20, 21, 22, 23, 24, 25, 26, 27, 28, 29, 30, 31, 32, 33, 34, 35, 1, 36, 37, 38, 39, 40, 41, 3, 42, 43, 44, 6, 45, 46, 47, 48, 49, 50, 131, 132, 133, 134, 135, 136, 137, 138, 139, 140, 141, 142, 143, 144, 145, 146, 147, 148, 149, 150, 151, 152, 153, 154, 155, 156, 157, 158, 159, 160, 161, 162, 163, 164, 165, 166, 167, 168, 169, 170, 171, 172, 173, 174, 175] rfl (by decide +kernel)
set_option maxRecDepth 20000 in
theorem gX4_seeds_X4_passesAll : GoodIn wsX4_seeds (wsV RX4 151 RX4 yX4_passesAll wsX4_passesAll) := goodIn_app (goodIn_r _ [16, 17, 18, 6] rfl (by decide +kernel)) ggX4_seeds_X4_passesAll
set_option maxRecDepth 20000 in
theorem ggX4_seeds_X4_draw : GoodIn wsX4_seeds wsX4_draw := goodIn_r _ [54, 2, 55, 56, 57, 131, 132, 133, 134, 135, 136, 137, 138, 139, 140, 141, 142, 143, 144, 145, 146, 147, 148, 149, 150, 151, 152, 153, 154, 155, 156, 157, 158, 159, 160, 161, 162, 163, 164, 165, 166, 167, 168, 169, 170, 171, 172, 173, 174, 175] rfl (by decide +kernel)
set_option maxRecDepth 20000 in
theorem gX4_seeds_X4_draw : GoodIn wsX4_seeds (wsV RX4 289 RX4 yX4_draw wsX4_draw) := goodIn_app (goodIn_r _ [51, 52, 53, 6] rfl (by decide +kernel)) ggX4_seeds_X4_draw
set_option maxRecDepth 20000 in
theorem ggX4_seeds_X4_asks : GoodIn wsX4_seeds wsX4_asks := goodIn_r _ [61, 25, 26, 27, 28, 29, 3, 30, 131, 132, 133, 134, 135, 136, 137, 138, 139, 140, 141, 142, 143, 144, 145, 146, 147, 148, 149, 150, 151, 152, 153, 154, 155, 156, 157, 158, 159, 160, 161, 162, 163, 164, 165, 166, 167, 168, 169, 170, 171, 172, 173, 174, 175] rfl (by decide +kernel)
set_option maxRecDepth 20000 in
theorem gX4_seeds_X4_asks : GoodIn wsX4_seeds (wsV RX4 273 RX4 yX4_asks wsX4_asks) := goodIn_app (goodIn_r _ [58, 59, 60, 6] rfl (by decide +kernel)) ggX4_seeds_X4_asks
set_option maxRecDepth 20000 in
theorem ggX4_seeds_X4_answers : GoodIn wsX4_seeds wsX4_answers := goodIn_r _ [65, 25, 27, 66, 67, 68, 6, 69, 1, 70, 71, 72, 73, 74, 75, 76, 77, 78, 79, 80, 81, 82, 83, 84, 85, 86, 87, 29, 3, 30, 28, 88, 89, 90, 91, 22, 92, 93, 94, 95, 23, 96, 97, 98, 99, 37, 31, 32, 38, 100, 101, 102, 103, 33, 39, 34, 40, 104, 105, 106, 107, 35, 108, 109, 110, 111, 112, 113, 114, 115, 36, 116, 117, 118, 119, 24, 26, 120, 121, 122, 123, 124, 125, 126, 127, 128, 129, 130, 131, 132, 133, 134, 135, 136, 137, 138, 139, 140, 141, 142, 143, 144, 145, 146, 147, 148, 149, 150, 151, 152, 153, 154, 155, 156, 157, 158, 159, 160, 161, 162, 163, 164, 165, 166, 167, 168, 169, 170, 171, 172, 173, 174, 175] rfl (by decide +kernel)
set_option maxRecDepth 20000 in
theorem gX4_seeds_X4_answers : GoodIn wsX4_seeds (wsV RX4 277 RX4 yX4_answers wsX4_answers) := goodIn_app (goodIn_r _ [62, 63, 64, 6] rfl (by decide +kernel)) ggX4_seeds_X4_answers
set_option maxRecDepth 20000 in
theorem ggX4_seeds_X4_above : GoodIn wsX4_seeds wsX4_above := goodIn_r _ [122] rfl (by decide +kernel)
set_option maxRecDepth 20000 in
theorem gX4_seeds_X4_above : GoodIn wsX4_seeds (va_wsS RX4 194 yX4_above wsX4_above) := goodIn_app (goodIn_r _ [120, 121, 6] rfl (by decide +kernel)) ggX4_seeds_X4_above
theorem dX4_seeds_0 : decode cX4_seeds 0 = .ok (.iload_n 1, 1) := by decide +kernel
theorem dX4_seeds_1 : decode cX4_seeds 1 = .ok (.invokestatic 237, 3) := by decide +kernel
theorem dX4_seeds_4 : decode cX4_seeds 4 = .ok (.ifCond .ne 10, 3) := by decide +kernel
theorem dX4_seeds_7 : decode cX4_seeds 7 = .ok (.aload_n 0, 1) := by decide +kernel
theorem dX4_seeds_8 : decode cX4_seeds 8 = .ok (.bipush (-2), 2) := by decide +kernel
theorem dX4_seeds_10 : decode cX4_seeds 10 = .ok (.invokevirtual 106, 3) := by decide +kernel
theorem dX4_seeds_13 : decode cX4_seeds 13 = .ok (.ireturn, 1) := by decide +kernel
theorem dX4_seeds_14 : decode cX4_seeds 14 = .ok (.iload_n 2, 1) := by decide +kernel
theorem dX4_seeds_15 : decode cX4_seeds 15 = .ok (.iconst 1, 1) := by decide +kernel
theorem dX4_seeds_16 : decode cX4_seeds 16 = .ok (.bipush 10, 2) := by decide +kernel
theorem dX4_seeds_18 : decode cX4_seeds 18 = .ok (.invokestatic 99, 3) := by decide +kernel
theorem dX4_seeds_21 : decode cX4_seeds 21 = .ok (.istore 4, 2) := by decide +kernel
theorem dX4_seeds_23 : decode cX4_seeds 23 = .ok (.iload 4, 2) := by decide +kernel
theorem dX4_seeds_25 : decode cX4_seeds 25 = .ok (.ifCond .eq 10, 3) := by decide +kernel
theorem dX4_seeds_28 : decode cX4_seeds 28 = .ok (.aload_n 0, 1) := by decide +kernel
theorem dX4_seeds_29 : decode cX4_seeds 29 = .ok (.iload 4, 2) := by decide +kernel
theorem dX4_seeds_31 : decode cX4_seeds 31 = .ok (.invokevirtual 106, 3) := by decide +kernel
theorem dX4_seeds_34 : decode cX4_seeds 34 = .ok (.ireturn, 1) := by decide +kernel
theorem dX4_seeds_35 : decode cX4_seeds 35 = .ok (.aload_n 0, 1) := by decide +kernel
theorem dX4_seeds_36 : decode cX4_seeds 36 = .ok (.getfield 93, 3) := by decide +kernel
theorem dX4_seeds_39 : decode cX4_seeds 39 = .ok (.ifCond .ne 10, 3) := by decide +kernel
theorem dX4_seeds_42 : decode cX4_seeds 42 = .ok (.aload_n 0, 1) := by decide +kernel
theorem dX4_seeds_43 : decode cX4_seeds 43 = .ok (.bipush (-3), 2) := by decide +kernel
theorem dX4_seeds_45 : decode cX4_seeds 45 = .ok (.invokevirtual 106, 3) := by decide +kernel
theorem dX4_seeds_48 : decode cX4_seeds 48 = .ok (.ireturn, 1) := by decide +kernel
theorem dX4_seeds_49 : decode cX4_seeds 49 = .ok (.aload_n 0, 1) := by decide +kernel
theorem dX4_seeds_50 : decode cX4_seeds 50 = .ok (.iconst 1, 1) := by decide +kernel
theorem dX4_seeds_51 : decode cX4_seeds 51 = .ok (.iconst 1, 1) := by decide +kernel
theorem dX4_seeds_52 : decode cX4_seeds 52 = .ok (.invokevirtual 151, 3) := by decide +kernel
theorem dX4_seeds_55 : decode cX4_seeds 55 = .ok (.aload_n 0, 1) := by decide +kernel
theorem dX4_seeds_56 : decode cX4_seeds 56 = .ok (.iload_n 3, 1) := by decide +kernel
theorem dX4_seeds_57 : decode cX4_seeds 57 = .ok (.putfield 283, 3) := by decide +kernel
theorem dX4_seeds_60 : decode cX4_seeds 60 = .ok (.iconst 0, 1) := by decide +kernel
theorem dX4_seeds_61 : decode cX4_seeds 61 = .ok (.istore 5, 2) := by decide +kernel
theorem dX4_seeds_63 : decode cX4_seeds 63 = .ok (.iconst 0, 1) := by decide +kernel
theorem dX4_seeds_64 : decode cX4_seeds 64 = .ok (.istore 6, 2) := by decide +kernel
theorem dX4_seeds_66 : decode cX4_seeds 66 = .ok (.iload 6, 2) := by decide +kernel
theorem dX4_seeds_68 : decode cX4_seeds 68 = .ok (.iconst 3, 1) := by decide +kernel
theorem dX4_seeds_69 : decode cX4_seeds 69 = .ok (.iload_n 2, 1) := by decide +kernel
theorem dX4_seeds_70 : decode cX4_seeds 70 = .ok (.imul, 1) := by decide +kernel
theorem dX4_seeds_71 : decode cX4_seeds 71 = .ok (.if_icmp .ge 73, 3) := by decide +kernel
theorem dX4_seeds_74 : decode cX4_seeds 74 = .ok (.aload_n 0, 1) := by decide +kernel
theorem dX4_seeds_75 : decode cX4_seeds 75 = .ok (.aload_n 0, 1) := by decide +kernel
theorem dX4_seeds_76 : decode cX4_seeds 76 = .ok (.getfield 93, 3) := by decide +kernel
theorem dX4_seeds_79 : decode cX4_seeds 79 = .ok (.invokevirtual 289, 3) := by decide +kernel
theorem dX4_seeds_82 : decode cX4_seeds 82 = .ok (.istore 7, 2) := by decide +kernel
theorem dX4_seeds_84 : decode cX4_seeds 84 = .ok (.aload_n 0, 1) := by decide +kernel
theorem dX4_seeds_85 : decode cX4_seeds 85 = .ok (.iconst 4, 1) := by decide +kernel
theorem dX4_seeds_86 : decode cX4_seeds 86 = .ok (.invokevirtual 289, 3) := by decide +kernel
theorem dX4_seeds_89 : decode cX4_seeds 89 = .ok (.istore 8, 2) := by decide +kernel
theorem dX4_seeds_91 : decode cX4_seeds 91 = .ok (.aload_n 0, 1) := by decide +kernel
theorem dX4_seeds_92 : decode cX4_seeds 92 = .ok (.iload 7, 2) := by decide +kernel
theorem dX4_seeds_94 : decode cX4_seeds 94 = .ok (.iload 8, 2) := by decide +kernel
theorem dX4_seeds_96 : decode cX4_seeds 96 = .ok (.iconst 1, 1) := by decide +kernel
theorem dX4_seeds_97 : decode cX4_seeds 97 = .ok (.aload_n 0, 1) := by decide +kernel
theorem dX4_seeds_98 : decode cX4_seeds 98 = .ok (.bipush 9, 2) := by decide +kernel
theorem dX4_seeds_100 : decode cX4_seeds 100 = .ok (.invokevirtual 289, 3) := by decide +kernel
theorem dX4_seeds_103 : decode cX4_seeds 103 = .ok (.iadd, 1) := by decide +kernel
theorem dX4_seeds_104 : decode cX4_seeds 104 = .ok (.invokevirtual 273, 3) := by decide +kernel
theorem dX4_seeds_107 : decode cX4_seeds 107 = .ok (.iload 5, 2) := by decide +kernel
theorem dX4_seeds_109 : decode cX4_seeds 109 = .ok (.aload_n 0, 1) := by decide +kernel
theorem dX4_seeds_110 : decode cX4_seeds 110 = .ok (.iload_n 1, 1) := by decide +kernel
theorem dX4_seeds_111 : decode cX4_seeds 111 = .ok (.invokevirtual 277, 3) := by decide +kernel
theorem dX4_seeds_114 : decode cX4_seeds 114 = .ok (.invokestatic 194, 3) := by decide +kernel
theorem dX4_seeds_117 : decode cX4_seeds 117 = .ok (.iadd, 1) := by decide +kernel
theorem dX4_seeds_118 : decode cX4_seeds 118 = .ok (.istore 5, 2) := by decide +kernel
theorem dX4_seeds_120 : decode cX4_seeds 120 = .ok (.iload 6, 2) := by decide +kernel
theorem dX4_seeds_122 : decode cX4_seeds 122 = .ok (.iconst 3, 1) := by decide +kernel
theorem dX4_seeds_123 : decode cX4_seeds 123 = .ok (.irem, 1) := by decide +kernel
theorem dX4_seeds_124 : decode cX4_seeds 124 = .ok (.iconst 2, 1) := by decide +kernel
theorem dX4_seeds_125 : decode cX4_seeds 125 = .ok (.if_icmp .ne 13, 3) := by decide +kernel
theorem dX4_seeds_128 : decode cX4_seeds 128 = .ok (.aload_n 0, 1) := by decide +kernel
theorem dX4_seeds_129 : decode cX4_seeds 129 = .ok (.dup, 1) := by decide +kernel
theorem dX4_seeds_130 : decode cX4_seeds 130 = .ok (.getfield 178, 3) := by decide +kernel
theorem dX4_seeds_133 : decode cX4_seeds 133 = .ok (.iconst 1, 1) := by decide +kernel
theorem dX4_seeds_134 : decode cX4_seeds 134 = .ok (.iadd, 1) := by decide +kernel
theorem dX4_seeds_135 : decode cX4_seeds 135 = .ok (.putfield 178, 3) := by decide +kernel
theorem dX4_seeds_138 : decode cX4_seeds 138 = .ok (.iinc 6 1, 3) := by decide +kernel
theorem dX4_seeds_141 : decode cX4_seeds 141 = .ok (.goto (-75), 3) := by decide +kernel
theorem dX4_seeds_144 : decode cX4_seeds 144 = .ok (.aload_n 0, 1) := by decide +kernel
theorem dX4_seeds_145 : decode cX4_seeds 145 = .ok (.iconst 1, 1) := by decide +kernel
theorem dX4_seeds_146 : decode cX4_seeds 146 = .ok (.iconst 0, 1) := by decide +kernel
theorem dX4_seeds_147 : decode cX4_seeds 147 = .ok (.invokevirtual 151, 3) := by decide +kernel
theorem dX4_seeds_150 : decode cX4_seeds 150 = .ok (.iload 5, 2) := by decide +kernel
theorem dX4_seeds_152 : decode cX4_seeds 152 = .ok (.ireturn, 1) := by decide +kernel
set_option maxRecDepth 20000 in
theorem ggX4_row_X4_isOne : GoodIn wsX4_row wsX4_isOne := goodIn_r _ [7, 8, 14, 15, 16, 17, 18, 19, 20, 21, 22, 23, 24, 25, 26, 27, 28, 29, 30, 31, 32, 33, 34, 35, 36, 37, 38, 39, 40, 41, 42, 43, 44, 45, 46, 47, 48, 49, 50, 51, 52, 53, 54, 55, 56, 57, 58] rfl (by decide +kernel)
set_option maxRecDepth 20000 in
theorem gX4_row_X4_isOne : GoodIn wsX4_row (wsV RX4 135 RX4 yX4_isOne wsX4_isOne) := goodIn_app (goodIn_r _ [3, 4, 5, 6] rfl (by decide +kernel)) ggX4_row_X4_isOne
set_option maxRecDepth 20000 in
theorem ggX4_row_X4_no : GoodIn wsX4_row wsX4_no := goodIn_r _ [12, 13, 14, 15, 16, 17, 18, 19, 20, 21, 22, 23, 24, 25, 26, 27, 28, 29, 30, 31, 32, 33, 34, 35, 36, 37, 38, 39, 40, 41, 42, 43, 44, 45, 46, 47, 48, 49, 50, 51, 52, 53, 54, 55, 56, 57, 58] rfl (by decide +kernel)
set_option maxRecDepth 20000 in
theorem gX4_row_X4_no : GoodIn wsX4_row (wsV RX4 106 RX4 yX4_no wsX4_no) := goodIn_app (goodIn_r _ [9, 10, 11, 6] rfl (by decide +kernel)) ggX4_row_X4_no
theorem dX4_row_0 : decode cX4_row 0 = .ok (.aload_n 0, 1) := by decide +kernel
theorem dX4_row_1 : decode cX4_row 1 = .ok (.iload_n 1, 1) := by decide +kernel
theorem dX4_row_2 : decode cX4_row 2 = .ok (.invokevirtual 135, 3) := by decide +kernel
theorem dX4_row_5 : decode cX4_row 5 = .ok (.ifCond .ne 9, 3) := by decide +kernel
theorem dX4_row_8 : decode cX4_row 8 = .ok (.aload_n 0, 1) := by decide +kernel
theorem dX4_row_9 : decode cX4_row 9 = .ok (.iconst (-1), 1) := by decide +kernel
theorem dX4_row_10 : decode cX4_row 10 = .ok (.invokevirtual 106, 3) := by decide +kernel
theorem dX4_row_13 : decode cX4_row 13 = .ok (.ireturn, 1) := by decide +kernel
theorem dX4_row_14 : decode cX4_row 14 = .ok (.aload_n 0, 1) := by decide +kernel
theorem dX4_row_15 : decode cX4_row 15 = .ok (.getfield 222, 3) := by decide +kernel
theorem dX4_row_18 : decode cX4_row 18 = .ok (.bipush 10, 2) := by decide +kernel
theorem dX4_row_20 : decode cX4_row 20 = .ok (.if_icmp .ne 10, 3) := by decide +kernel
theorem dX4_row_23 : decode cX4_row 23 = .ok (.aload_n 0, 1) := by decide +kernel
theorem dX4_row_24 : decode cX4_row 24 = .ok (.bipush (-6), 2) := by decide +kernel
theorem dX4_row_26 : decode cX4_row 26 = .ok (.invokevirtual 106, 3) := by decide +kernel
theorem dX4_row_29 : decode cX4_row 29 = .ok (.ireturn, 1) := by decide +kernel
theorem dX4_row_30 : decode cX4_row 30 = .ok (.aload_n 0, 1) := by decide +kernel
theorem dX4_row_31 : decode cX4_row 31 = .ok (.getfield 77, 3) := by decide +kernel
theorem dX4_row_34 : decode cX4_row 34 = .ok (.aload_n 0, 1) := by decide +kernel
theorem dX4_row_35 : decode cX4_row 35 = .ok (.getfield 222, 3) := by decide +kernel
theorem dX4_row_38 : decode cX4_row 38 = .ok (.iload_n 1, 1) := by decide +kernel
theorem dX4_row_39 : decode cX4_row 39 = .ok (.iastore, 1) := by decide +kernel
theorem dX4_row_40 : decode cX4_row 40 = .ok (.aload_n 0, 1) := by decide +kernel
theorem dX4_row_41 : decode cX4_row 41 = .ok (.dup, 1) := by decide +kernel
theorem dX4_row_42 : decode cX4_row 42 = .ok (.getfield 222, 3) := by decide +kernel
theorem dX4_row_45 : decode cX4_row 45 = .ok (.iconst 1, 1) := by decide +kernel
theorem dX4_row_46 : decode cX4_row 46 = .ok (.iadd, 1) := by decide +kernel
theorem dX4_row_47 : decode cX4_row 47 = .ok (.putfield 222, 3) := by decide +kernel
theorem dX4_row_50 : decode cX4_row 50 = .ok (.aload_n 0, 1) := by decide +kernel
theorem dX4_row_51 : decode cX4_row 51 = .ok (.getfield 222, 3) := by decide +kernel
theorem dX4_row_54 : decode cX4_row 54 = .ok (.ireturn, 1) := by decide +kernel
set_option maxRecDepth 20000 in
theorem ggX4_judged_X4_isOpen : GoodIn wsX4_judged wsX4_isOpen := goodIn_r _ [10, 11, 12, 13, 14, 59, 60, 61, 62, 63, 64, 65, 66, 67, 68, 69, 70, 71, 72, 73, 74, 75, 76, 77, 78, 79, 80, 81, 82, 83, 84, 85, 86, 87, 88, 89, 90, 91, 92, 93, 94, 95, 96, 97, 98, 99, 100, 101, 102, 103] rfl (by decide +kernel)
set_option maxRecDepth 20000 in
theorem gX4_judged_X4_isOpen : GoodIn wsX4_judged (wsV RX4 197 RX4 yX4_isOpen wsX4_isOpen) := goodIn_app (goodIn_r _ [6, 7, 8, 9] rfl (by decide +kernel)) ggX4_judged_X4_isOpen
set_option maxRecDepth 20000 in
theorem ggX4_judged_X4_isOne : GoodIn wsX4_judged wsX4_isOne := goodIn_r _ [18, 19, 59, 60, 61, 62, 63, 64, 65, 66, 67, 68, 69, 70, 71, 72, 73, 74, 75, 76, 77, 78, 79, 80, 81, 82, 83, 84, 85, 86, 87, 88, 89, 90, 91, 92, 93, 94, 95, 96, 97, 98, 99, 100, 101, 102, 103] rfl (by decide +kernel)
set_option maxRecDepth 20000 in
theorem gX4_judged_X4_isOne : GoodIn wsX4_judged (wsV RX4 135 RX4 yX4_isOne wsX4_isOne) := goodIn_app (goodIn_r _ [15, 16, 17, 9] rfl (by decide +kernel)) ggX4_judged_X4_isOne
set_option maxRecDepth 20000 in
theorem ggX4_judged_X4_mayWith : GoodIn wsX4_judged wsX4_mayWith := goodIn_r _ [23, 4, 6, 7, 8, 9, 10, 11, 12, 13, 14, 24, 25, 26, 27, 28, 29, 30, 31, 32, 33, 34, 35, 36, 37, 38, 39, 40, 41, 42, 43, 44, 45, 46, 47, 48, 49, 50, 51, 52, 53, 54, 59, 60, 61, 62, 63, 64, 65, 66, 67, 68, 69, 70, 71, 72, 73, 74, 75, 76, 77, 78, 79, 80, 81, 82, 83, 84, 85, 86, 87, 88, 89, 90, 91, 92, 93, 94, 95, 96, 97, 98, 99, 100, 101, 102, 103] rfl (by decide +kernel)
set_option maxRecDepth 20000 in
theorem gX4_judged_X4_mayWith : GoodIn wsX4_judged (wsV RX4 212 RX4 yX4_mayWith wsX4_mayWith) := goodIn_app (goodIn_r _ [20, 21, 22, 9] rfl (by decide +kernel)) ggX4_judged_X4_mayWith
set_option maxRecDepth 20000 in
theorem ggX4_judged_X4_writes : GoodIn wsX4_judged wsX4_writes := goodIn_r _ [58, 39, 38, 40, 46, 12, 48, 54, 13, 59, 60, 61, 62, 63, 64, 65, 66, 67, 68, 69, 70, 71, 72, 73, 74, 75, 76, 77, 78, 79, 80, 81, 82, 83, 84, 85, 86, 87, 88, 89, 90, 91, 92, 93, 94, 95, 96, 97, 98, 99, 100, 101, 102, 103] rfl (by decide +kernel)
set_option maxRecDepth 20000 in
theorem gX4_judged_X4_writes : GoodIn wsX4_judged (wsV RX4 215 RX4 yX4_writes wsX4_writes) := goodIn_app (goodIn_r _ [55, 56, 57, 9] rfl (by decide +kernel)) ggX4_judged_X4_writes
theorem dX4_judged_0 : decode cX4_judged 0 = .ok (.iconst 0, 1) := by decide +kernel
theorem dX4_judged_1 : decode cX4_judged 1 = .ok (.istore_n 1, 1) := by decide +kernel
theorem dX4_judged_2 : decode cX4_judged 2 = .ok (.iconst 0, 1) := by decide +kernel
theorem dX4_judged_3 : decode cX4_judged 3 = .ok (.istore_n 2, 1) := by decide +kernel
theorem dX4_judged_4 : decode cX4_judged 4 = .ok (.iload_n 2, 1) := by decide +kernel
theorem dX4_judged_5 : decode cX4_judged 5 = .ok (.aload_n 0, 1) := by decide +kernel
theorem dX4_judged_6 : decode cX4_judged 6 = .ok (.getfield 96, 3) := by decide +kernel
theorem dX4_judged_9 : decode cX4_judged 9 = .ok (.if_icmp .ge 83, 3) := by decide +kernel
theorem dX4_judged_12 : decode cX4_judged 12 = .ok (.aload_n 0, 1) := by decide +kernel
theorem dX4_judged_13 : decode cX4_judged 13 = .ok (.iload_n 2, 1) := by decide +kernel
theorem dX4_judged_14 : decode cX4_judged 14 = .ok (.invokevirtual 197, 3) := by decide +kernel
theorem dX4_judged_17 : decode cX4_judged 17 = .ok (.ifCond .eq 69, 3) := by decide +kernel
theorem dX4_judged_20 : decode cX4_judged 20 = .ok (.iload_n 1, 1) := by decide +kernel
theorem dX4_judged_21 : decode cX4_judged 21 = .ok (.aload_n 0, 1) := by decide +kernel
theorem dX4_judged_22 : decode cX4_judged 22 = .ok (.getfield 222, 3) := by decide +kernel
theorem dX4_judged_25 : decode cX4_judged 25 = .ok (.if_icmp .eq 30, 3) := by decide +kernel
theorem dX4_judged_28 : decode cX4_judged 28 = .ok (.aload_n 0, 1) := by decide +kernel
theorem dX4_judged_29 : decode cX4_judged 29 = .ok (.aload_n 0, 1) := by decide +kernel
theorem dX4_judged_30 : decode cX4_judged 30 = .ok (.getfield 77, 3) := by decide +kernel
theorem dX4_judged_33 : decode cX4_judged 33 = .ok (.iload_n 1, 1) := by decide +kernel
theorem dX4_judged_34 : decode cX4_judged 34 = .ok (.iaload, 1) := by decide +kernel
theorem dX4_judged_35 : decode cX4_judged 35 = .ok (.invokevirtual 135, 3) := by decide +kernel
theorem dX4_judged_38 : decode cX4_judged 38 = .ok (.ifCond .eq 17, 3) := by decide +kernel
theorem dX4_judged_41 : decode cX4_judged 41 = .ok (.aload_n 0, 1) := by decide +kernel
theorem dX4_judged_42 : decode cX4_judged 42 = .ok (.aload_n 0, 1) := by decide +kernel
theorem dX4_judged_43 : decode cX4_judged 43 = .ok (.getfield 77, 3) := by decide +kernel
theorem dX4_judged_46 : decode cX4_judged 46 = .ok (.iload_n 1, 1) := by decide +kernel
theorem dX4_judged_47 : decode cX4_judged 47 = .ok (.iaload, 1) := by decide +kernel
theorem dX4_judged_48 : decode cX4_judged 48 = .ok (.iload_n 2, 1) := by decide +kernel
theorem dX4_judged_49 : decode cX4_judged 49 = .ok (.invokevirtual 212, 3) := by decide +kernel
theorem dX4_judged_52 : decode cX4_judged 52 = .ok (.ifCond .ne 5, 3) := by decide +kernel
theorem dX4_judged_55 : decode cX4_judged 55 = .ok (.iload_n 1, 1) := by decide +kernel
theorem dX4_judged_56 : decode cX4_judged 56 = .ok (.ireturn, 1) := by decide +kernel
theorem dX4_judged_57 : decode cX4_judged 57 = .ok (.aload_n 0, 1) := by decide +kernel
theorem dX4_judged_58 : decode cX4_judged 58 = .ok (.aload_n 0, 1) := by decide +kernel
theorem dX4_judged_59 : decode cX4_judged 59 = .ok (.getfield 77, 3) := by decide +kernel
theorem dX4_judged_62 : decode cX4_judged 62 = .ok (.iload_n 1, 1) := by decide +kernel
theorem dX4_judged_63 : decode cX4_judged 63 = .ok (.iaload, 1) := by decide +kernel
theorem dX4_judged_64 : decode cX4_judged 64 = .ok (.aload_n 0, 1) := by decide +kernel
theorem dX4_judged_65 : decode cX4_judged 65 = .ok (.getfield 22, 3) := by decide +kernel
theorem dX4_judged_68 : decode cX4_judged 68 = .ok (.iload_n 2, 1) := by decide +kernel
theorem dX4_judged_69 : decode cX4_judged 69 = .ok (.iaload, 1) := by decide +kernel
theorem dX4_judged_70 : decode cX4_judged 70 = .ok (.aload_n 0, 1) := by decide +kernel
theorem dX4_judged_71 : decode cX4_judged 71 = .ok (.getfield 28, 3) := by decide +kernel
theorem dX4_judged_74 : decode cX4_judged 74 = .ok (.iload_n 2, 1) := by decide +kernel
theorem dX4_judged_75 : decode cX4_judged 75 = .ok (.iaload, 1) := by decide +kernel
theorem dX4_judged_76 : decode cX4_judged 76 = .ok (.iload_n 2, 1) := by decide +kernel
theorem dX4_judged_77 : decode cX4_judged 77 = .ok (.invokevirtual 215, 3) := by decide +kernel
theorem dX4_judged_80 : decode cX4_judged 80 = .ok (.iinc 1 1, 3) := by decide +kernel
theorem dX4_judged_83 : decode cX4_judged 83 = .ok (.goto (-71), 3) := by decide +kernel
theorem dX4_judged_86 : decode cX4_judged 86 = .ok (.iinc 2 1, 3) := by decide +kernel
theorem dX4_judged_89 : decode cX4_judged 89 = .ok (.goto (-85), 3) := by decide +kernel
theorem dX4_judged_92 : decode cX4_judged 92 = .ok (.iload_n 1, 1) := by decide +kernel
theorem dX4_judged_93 : decode cX4_judged 93 = .ok (.aload_n 0, 1) := by decide +kernel
theorem dX4_judged_94 : decode cX4_judged 94 = .ok (.getfield 222, 3) := by decide +kernel
theorem dX4_judged_97 : decode cX4_judged 97 = .ok (.if_icmp .ge 7, 3) := by decide +kernel
theorem dX4_judged_100 : decode cX4_judged 100 = .ok (.iload_n 1, 1) := by decide +kernel
theorem dX4_judged_101 : decode cX4_judged 101 = .ok (.goto 5, 3) := by decide +kernel
theorem dX4_judged_104 : decode cX4_judged 104 = .ok (.bipush (-9), 2) := by decide +kernel
theorem dX4_judged_106 : decode cX4_judged 106 = .ok (.ireturn, 1) := by decide +kernel
set_option maxRecDepth 20000 in
theorem ggX4_judge_X4_passesAll : GoodIn wsX4_judge wsX4_passesAll := goodIn_r _ [6, 7, 8, 9, 10, 11, 12, 13, 14, 15, 16, 17, 18, 19, 20, 21, 22, 23, 24, 25, 26, 27, 28, 29, 30, 31, 32, 33, 5, 34, 35, 36, 37, 38, 39, 81, 82, 83, 84, 85, 86, 87, 88, 89, 90, 91, 92, 93, 94, 95, 96, 97, 98, 99, 100, 101, 102, 103, 104, 105, 106, 107, 108, 109, 110, 111, 112, 113, 114, 115, 116, 117, 118, 119, 120, 121, 122, 123, 124, 125] rfl (by decide +kernel)
set_option maxRecDepth 20000 in
theorem gX4_judge_X4_passesAll : GoodIn wsX4_judge (wsV RX4 151 RX4 yX4_passesAll wsX4_passesAll) := goodIn_app (goodIn_r _ [2, 3, 4, 5] rfl (by decide +kernel)) ggX4_judge_X4_passesAll
set_option maxRecDepth 20000 in
theorem ggX4_judge_X4_judged : GoodIn wsX4_judge wsX4_judged := goodIn_r _ [43, 24, 1, 44, 12, 14, 45, 46, 47, 5, 48, 16, 30, 17, 15, 49, 50, 51, 52, 23, 53, 54, 55, 56, 57, 58, 59, 60, 9, 61, 62, 63, 64, 10, 65, 66, 67, 68, 25, 18, 19, 26, 69, 70, 71, 72, 20, 27, 21, 28, 73, 74, 75, 76, 22, 77, 78, 79, 80, 81, 82, 83, 84, 85, 86, 87, 88, 89, 90, 91, 92, 93, 94, 95, 96, 97, 98, 99, 100, 101, 102, 103, 104, 105, 106, 107, 108, 109, 110, 111, 112, 113, 114, 115, 116, 117, 118, 119, 120, 121, 122, 123, 124, 125] rfl (by decide +kernel)
set_option maxRecDepth 20000 in
theorem gX4_judge_X4_judged : GoodIn wsX4_judge (wsV RX4 292 RX4 yX4_judged wsX4_judged) := goodIn_app (goodIn_r _ [40, 41, 42, 5] rfl (by decide +kernel)) ggX4_judge_X4_judged
theorem dX4_judge_0 : decode cX4_judge 0 = .ok (.aload_n 0, 1) := by decide +kernel
theorem dX4_judge_1 : decode cX4_judge 1 = .ok (.iconst 1, 1) := by decide +kernel
theorem dX4_judge_2 : decode cX4_judge 2 = .ok (.iconst 1, 1) := by decide +kernel
theorem dX4_judge_3 : decode cX4_judge 3 = .ok (.invokevirtual 151, 3) := by decide +kernel
theorem dX4_judge_6 : decode cX4_judge 6 = .ok (.aload_n 0, 1) := by decide +kernel
theorem dX4_judge_7 : decode cX4_judge 7 = .ok (.invokevirtual 292, 3) := by decide +kernel
theorem dX4_judge_10 : decode cX4_judge 10 = .ok (.istore_n 1, 1) := by decide +kernel
theorem dX4_judge_11 : decode cX4_judge 11 = .ok (.aload_n 0, 1) := by decide +kernel
theorem dX4_judge_12 : decode cX4_judge 12 = .ok (.iconst 1, 1) := by decide +kernel
theorem dX4_judge_13 : decode cX4_judge 13 = .ok (.iconst 0, 1) := by decide +kernel
theorem dX4_judge_14 : decode cX4_judge 14 = .ok (.invokevirtual 151, 3) := by decide +kernel
theorem dX4_judge_17 : decode cX4_judge 17 = .ok (.aload_n 0, 1) := by decide +kernel
theorem dX4_judge_18 : decode cX4_judge 18 = .ok (.iconst 0, 1) := by decide +kernel
theorem dX4_judge_19 : decode cX4_judge 19 = .ok (.putfield 222, 3) := by decide +kernel
theorem dX4_judge_22 : decode cX4_judge 22 = .ok (.iload_n 1, 1) := by decide +kernel
theorem dX4_judge_23 : decode cX4_judge 23 = .ok (.ireturn, 1) := by decide +kernel
theorem dX4_clear_0 : decode cX4_clear 0 = .ok (.aload_n 0, 1) := by decide +kernel
theorem dX4_clear_1 : decode cX4_clear 1 = .ok (.getfield 222, 3) := by decide +kernel
theorem dX4_clear_4 : decode cX4_clear 4 = .ok (.istore_n 1, 1) := by decide +kernel
theorem dX4_clear_5 : decode cX4_clear 5 = .ok (.aload_n 0, 1) := by decide +kernel
theorem dX4_clear_6 : decode cX4_clear 6 = .ok (.iconst 0, 1) := by decide +kernel
theorem dX4_clear_7 : decode cX4_clear 7 = .ok (.putfield 222, 3) := by decide +kernel
theorem dX4_clear_10 : decode cX4_clear 10 = .ok (.iload_n 1, 1) := by decide +kernel
theorem dX4_clear_11 : decode cX4_clear 11 = .ok (.ireturn, 1) := by decide +kernel
set_option maxRecDepth 20000 in
theorem ggX4_count_X4_isIn : GoodIn wsX4_count wsX4_isIn := goodIn_r _ [12] rfl (by decide +kernel)
set_option maxRecDepth 20000 in
theorem gX4_count_X4_isIn : GoodIn wsX4_count (va_wsS RX4 117 yX4_isIn wsX4_isIn) := goodIn_app (goodIn_r _ [9, 10, 11] rfl (by decide +kernel)) ggX4_count_X4_isIn
set_option maxRecDepth 20000 in
theorem ggX4_count_X4_isOpen : GoodIn wsX4_count wsX4_isOpen := goodIn_r _ [16, 17, 5, 18, 19, 20, 21, 22, 23, 24, 25, 26, 27, 28, 29, 30, 31, 32, 33, 34, 35, 36, 37, 38, 39, 40, 41, 42, 43, 44, 45, 46, 47, 48, 49, 50, 51, 52, 53, 54, 55, 56, 57, 58, 59, 60, 61, 62, 63, 64] rfl (by decide +kernel)
set_option maxRecDepth 20000 in
theorem gX4_count_X4_isOpen : GoodIn wsX4_count (wsV RX4 197 RX4 yX4_isOpen wsX4_isOpen) := goodIn_app (goodIn_r _ [13, 14, 15, 11] rfl (by decide +kernel)) ggX4_count_X4_isOpen
theorem dX4_count_0 : decode cX4_count 0 = .ok (.iload_n 1, 1) := by decide +kernel
theorem dX4_count_1 : decode cX4_count 1 = .ok (.bipush 11, 2) := by decide +kernel
theorem dX4_count_3 : decode cX4_count 3 = .ok (.bipush 16, 2) := by decide +kernel
theorem dX4_count_5 : decode cX4_count 5 = .ok (.invokestatic 117, 3) := by decide +kernel
theorem dX4_count_8 : decode cX4_count 8 = .ok (.ifCond .eq 13, 3) := by decide +kernel
theorem dX4_count_11 : decode cX4_count 11 = .ok (.aload_n 0, 1) := by decide +kernel
theorem dX4_count_12 : decode cX4_count 12 = .ok (.getfield 7, 3) := by decide +kernel
theorem dX4_count_15 : decode cX4_count 15 = .ok (.iload_n 1, 1) := by decide +kernel
theorem dX4_count_16 : decode cX4_count 16 = .ok (.bipush 10, 2) := by decide +kernel
theorem dX4_count_18 : decode cX4_count 18 = .ok (.isub, 1) := by decide +kernel
theorem dX4_count_19 : decode cX4_count 19 = .ok (.iaload, 1) := by decide +kernel
theorem dX4_count_20 : decode cX4_count 20 = .ok (.ireturn, 1) := by decide +kernel
theorem dX4_count_21 : decode cX4_count 21 = .ok (.iconst 0, 1) := by decide +kernel
theorem dX4_count_22 : decode cX4_count 22 = .ok (.istore_n 2, 1) := by decide +kernel
theorem dX4_count_23 : decode cX4_count 23 = .ok (.iload_n 1, 1) := by decide +kernel
theorem dX4_count_24 : decode cX4_count 24 = .ok (.tableswitch 117 0 7 #[48, 53, 58, 63, 97, 102, 107, 112], 48) := by decide +kernel
theorem dX4_count_72 : decode cX4_count 72 = .ok (.aload_n 0, 1) := by decide +kernel
theorem dX4_count_73 : decode cX4_count 73 = .ok (.getfield 93, 3) := by decide +kernel
theorem dX4_count_76 : decode cX4_count 76 = .ok (.ireturn, 1) := by decide +kernel
theorem dX4_count_77 : decode cX4_count 77 = .ok (.aload_n 0, 1) := by decide +kernel
theorem dX4_count_78 : decode cX4_count 78 = .ok (.getfield 96, 3) := by decide +kernel
theorem dX4_count_81 : decode cX4_count 81 = .ok (.ireturn, 1) := by decide +kernel
theorem dX4_count_82 : decode cX4_count 82 = .ok (.aload_n 0, 1) := by decide +kernel
theorem dX4_count_83 : decode cX4_count 83 = .ok (.getfield 172, 3) := by decide +kernel
theorem dX4_count_86 : decode cX4_count 86 = .ok (.ireturn, 1) := by decide +kernel
theorem dX4_count_87 : decode cX4_count 87 = .ok (.iconst 0, 1) := by decide +kernel
theorem dX4_count_88 : decode cX4_count 88 = .ok (.istore_n 3, 1) := by decide +kernel
theorem dX4_count_89 : decode cX4_count 89 = .ok (.iload_n 3, 1) := by decide +kernel
theorem dX4_count_90 : decode cX4_count 90 = .ok (.aload_n 0, 1) := by decide +kernel
theorem dX4_count_91 : decode cX4_count 91 = .ok (.getfield 96, 3) := by decide +kernel
theorem dX4_count_94 : decode cX4_count 94 = .ok (.if_icmp .ge 25, 3) := by decide +kernel
theorem dX4_count_97 : decode cX4_count 97 = .ok (.iload_n 2, 1) := by decide +kernel
theorem dX4_count_98 : decode cX4_count 98 = .ok (.aload_n 0, 1) := by decide +kernel
theorem dX4_count_99 : decode cX4_count 99 = .ok (.iload_n 3, 1) := by decide +kernel
theorem dX4_count_100 : decode cX4_count 100 = .ok (.invokevirtual 197, 3) := by decide +kernel
theorem dX4_count_103 : decode cX4_count 103 = .ok (.ifCond .eq 7, 3) := by decide +kernel
theorem dX4_count_106 : decode cX4_count 106 = .ok (.iconst 1, 1) := by decide +kernel
theorem dX4_count_107 : decode cX4_count 107 = .ok (.goto 4, 3) := by decide +kernel
theorem dX4_count_110 : decode cX4_count 110 = .ok (.iconst 0, 1) := by decide +kernel
theorem dX4_count_111 : decode cX4_count 111 = .ok (.iadd, 1) := by decide +kernel
theorem dX4_count_112 : decode cX4_count 112 = .ok (.istore_n 2, 1) := by decide +kernel
theorem dX4_count_113 : decode cX4_count 113 = .ok (.iinc 3 1, 3) := by decide +kernel
theorem dX4_count_116 : decode cX4_count 116 = .ok (.goto (-27), 3) := by decide +kernel
theorem dX4_count_119 : decode cX4_count 119 = .ok (.iload_n 2, 1) := by decide +kernel
theorem dX4_count_120 : decode cX4_count 120 = .ok (.ireturn, 1) := by decide +kernel
theorem dX4_count_121 : decode cX4_count 121 = .ok (.aload_n 0, 1) := by decide +kernel
theorem dX4_count_122 : decode cX4_count 122 = .ok (.getfield 178, 3) := by decide +kernel
theorem dX4_count_125 : decode cX4_count 125 = .ok (.ireturn, 1) := by decide +kernel
theorem dX4_count_126 : decode cX4_count 126 = .ok (.aload_n 0, 1) := by decide +kernel
theorem dX4_count_127 : decode cX4_count 127 = .ok (.getfield 103, 3) := by decide +kernel
theorem dX4_count_130 : decode cX4_count 130 = .ok (.ireturn, 1) := by decide +kernel
theorem dX4_count_131 : decode cX4_count 131 = .ok (.aload_n 0, 1) := by decide +kernel
theorem dX4_count_132 : decode cX4_count 132 = .ok (.getfield 222, 3) := by decide +kernel
theorem dX4_count_135 : decode cX4_count 135 = .ok (.ireturn, 1) := by decide +kernel
theorem dX4_count_136 : decode cX4_count 136 = .ok (.aload_n 0, 1) := by decide +kernel
theorem dX4_count_137 : decode cX4_count 137 = .ok (.getfield 144, 3) := by decide +kernel
theorem dX4_count_140 : decode cX4_count 140 = .ok (.ireturn, 1) := by decide +kernel
theorem dX4_count_141 : decode cX4_count 141 = .ok (.bipush (-9), 2) := by decide +kernel
theorem dX4_count_143 : decode cX4_count 143 = .ok (.ireturn, 1) := by decide +kernel

