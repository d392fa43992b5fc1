theorem dX1_init_0 : decode cX1_init 0 = .ok (.aload_n 0, 1) := by decide +kernel
theorem dX1_init_1 : decode cX1_init 1 = .ok (.invokespecial 3, 3) := by decide +kernel
theorem dX1_init_4 : decode cX1_init 4 = .ok (.aload_n 0, 1) := by decide +kernel
theorem dX1_init_5 : decode cX1_init 5 = .ok (.bipush 8, 2) := by decide +kernel
theorem dX1_init_7 : decode cX1_init 7 = .ok (.newarray .int, 2) := by decide +kernel
theorem dX1_init_9 : decode cX1_init 9 = .ok (.putfield 9, 3) := by decide +kernel
theorem dX1_init_12 : decode cX1_init 12 = .ok (.aload_n 0, 1) := by decide +kernel
theorem dX1_init_13 : decode cX1_init 13 = .ok (.bipush 56, 2) := by decide +kernel
theorem dX1_init_15 : decode cX1_init 15 = .ok (.newarray .int, 2) := by decide +kernel
theorem dX1_init_17 : decode cX1_init 17 = .ok (.putfield 15, 3) := by decide +kernel
theorem dX1_init_20 : decode cX1_init 20 = .ok (.aload_n 0, 1) := by decide +kernel
theorem dX1_init_21 : decode cX1_init 21 = .ok (.bipush 56, 2) := by decide +kernel
theorem dX1_init_23 : decode cX1_init 23 = .ok (.newarray .long, 2) := by decide +kernel
theorem dX1_init_25 : decode cX1_init 25 = .ok (.putfield 18, 3) := by decide +kernel
theorem dX1_init_28 : decode cX1_init 28 = .ok (.aload_n 0, 1) := by decide +kernel
theorem dX1_init_29 : decode cX1_init 29 = .ok (.sipush 1024, 3) := by decide +kernel
theorem dX1_init_32 : decode cX1_init 32 = .ok (.newarray .long, 2) := by decide +kernel
theorem dX1_init_34 : decode cX1_init 34 = .ok (.putfield 22, 3) := by decide +kernel
theorem dX1_init_37 : decode cX1_init 37 = .ok (.aload_n 0, 1) := by decide +kernel
theorem dX1_init_38 : decode cX1_init 38 = .ok (.sipush 1024, 3) := by decide +kernel
theorem dX1_init_41 : decode cX1_init 41 = .ok (.newarray .int, 2) := by decide +kernel
theorem dX1_init_43 : decode cX1_init 43 = .ok (.putfield 25, 3) := by decide +kernel
theorem dX1_init_46 : decode cX1_init 46 = .ok (.return_, 1) := by decide +kernel
set_option maxRecDepth 20000 in
theorem ggX1_fits_X2_ofNeed : GoodIn wsX1_fits wsX2_ofNeed := goodIn_r _ [7, 8, 26, 27, 28, 29, 30, 31, 32, 33] rfl (by decide +kernel)
set_option maxRecDepth 20000 in
theorem gX1_fits_X2_ofNeed : GoodIn wsX1_fits (wsV RX1 34 RX2 yX2_ofNeed wsX2_ofNeed) := goodIn_app (goodIn_r _ [3, 4, 5, 6] rfl (by decide +kernel)) ggX1_fits_X2_ofNeed
set_option maxRecDepth 20000 in
theorem ggX1_fits_X2_handsLeftFrom : GoodIn wsX1_fits wsX2_handsLeftFrom := goodIn_r _ [12, 13, 14, 4, 5, 6, 7, 8, 15, 16, 17, 18, 19, 20, 21, 22, 23, 24, 25, 26, 27, 28, 29, 30, 31, 32, 33] rfl (by decide +kernel)
set_option maxRecDepth 20000 in
theorem gX1_fits_X2_handsLeftFrom : GoodIn wsX1_fits (wsV RX1 41 RX2 yX2_handsLeftFrom wsX2_handsLeftFrom) := goodIn_app (goodIn_r _ [9, 10, 11, 6] rfl (by decide +kernel)) ggX1_fits_X2_handsLeftFrom
theorem dX1_fits_0 : decode cX1_fits 0 = .ok (.iconst 0, 1) := by decide +kernel
theorem dX1_fits_1 : decode cX1_fits 1 = .ok (.istore_n 2, 1) := by decide +kernel
theorem dX1_fits_2 : decode cX1_fits 2 = .ok (.iconst 0, 1) := by decide +kernel
theorem dX1_fits_3 : decode cX1_fits 3 = .ok (.istore_n 3, 1) := by decide +kernel
theorem dX1_fits_4 : decode cX1_fits 4 = .ok (.iload_n 3, 1) := by decide +kernel
theorem dX1_fits_5 : decode cX1_fits 5 = .ok (.aload_n 1, 1) := by decide +kernel
theorem dX1_fits_6 : decode cX1_fits 6 = .ok (.getfield 28, 3) := by decide +kernel
theorem dX1_fits_9 : decode cX1_fits 9 = .ok (.if_icmp .ge 30, 3) := by decide +kernel
theorem dX1_fits_12 : decode cX1_fits 12 = .ok (.iload_n 2, 1) := by decide +kernel
theorem dX1_fits_13 : decode cX1_fits 13 = .ok (.aload_n 1, 1) := by decide +kernel
theorem dX1_fits_14 : decode cX1_fits 14 = .ok (.iload_n 3, 1) := by decide +kernel
theorem dX1_fits_15 : decode cX1_fits 15 = .ok (.iconst 4, 1) := by decide +kernel
theorem dX1_fits_16 : decode cX1_fits 16 = .ok (.invokevirtual 34, 3) := by decide +kernel
theorem dX1_fits_19 : decode cX1_fits 19 = .ok (.aload_n 1, 1) := by decide +kernel
theorem dX1_fits_20 : decode cX1_fits 20 = .ok (.getfield 38, 3) := by decide +kernel
theorem dX1_fits_23 : decode cX1_fits 23 = .ok (.if_icmp .lt 7, 3) := by decide +kernel
theorem dX1_fits_26 : decode cX1_fits 26 = .ok (.iconst 1, 1) := by decide +kernel
theorem dX1_fits_27 : decode cX1_fits 27 = .ok (.goto 4, 3) := by decide +kernel
theorem dX1_fits_30 : decode cX1_fits 30 = .ok (.iconst 0, 1) := by decide +kernel
theorem dX1_fits_31 : decode cX1_fits 31 = .ok (.iadd, 1) := by decide +kernel
theorem dX1_fits_32 : decode cX1_fits 32 = .ok (.istore_n 2, 1) := by decide +kernel
theorem dX1_fits_33 : decode cX1_fits 33 = .ok (.iinc 3 1, 3) := by decide +kernel
theorem dX1_fits_36 : decode cX1_fits 36 = .ok (.goto (-32), 3) := by decide +kernel
theorem dX1_fits_39 : decode cX1_fits 39 = .ok (.iload_n 2, 1) := by decide +kernel
theorem dX1_fits_40 : decode cX1_fits 40 = .ok (.bipush 8, 2) := by decide +kernel
theorem dX1_fits_42 : decode cX1_fits 42 = .ok (.if_icmp .gt 20, 3) := by decide +kernel
theorem dX1_fits_45 : decode cX1_fits 45 = .ok (.aload_n 1, 1) := by decide +kernel
theorem dX1_fits_46 : decode cX1_fits 46 = .ok (.aload_n 1, 1) := by decide +kernel
theorem dX1_fits_47 : decode cX1_fits 47 = .ok (.getfield 38, 3) := by decide +kernel
theorem dX1_fits_50 : decode cX1_fits 50 = .ok (.invokevirtual 41, 3) := by decide +kernel
theorem dX1_fits_53 : decode cX1_fits 53 = .ok (.bipush 8, 2) := by decide +kernel
theorem dX1_fits_55 : decode cX1_fits 55 = .ok (.if_icmp .gt 7, 3) := by decide +kernel
theorem dX1_fits_58 : decode cX1_fits 58 = .ok (.iconst 1, 1) := by decide +kernel
theorem dX1_fits_59 : decode cX1_fits 59 = .ok (.goto 4, 3) := by decide +kernel
theorem dX1_fits_62 : decode cX1_fits 62 = .ok (.iconst 0, 1) := by decide +kernel
theorem dX1_fits_63 : decode cX1_fits 63 = .ok (.ireturn, 1) := by decide +kernel
set_option maxRecDepth 20000 in
theorem ggX1_mostOf_X1_listHands : GoodIn wsX1_mostOf wsX1_listHands := goodIn_r _ [8, 2, 9, 10, 11, 12, 13, 14, 15, 16, 17, 18, 19, 20, 21, 22, 23, 24, 25, 26, 27, 28, 29, 143, 144, 145, 146, 147, 148, 149, 150, 151, 152, 153, 154, 155, 156, 157] rfl (by decide +kernel)
set_option maxRecDepth 20000 in
theorem gX1_mostOf_X1_listHands : GoodIn wsX1_mostOf (wsV RX1 45 RX1 yX1_listHands wsX1_listHands) := goodIn_app (goodIn_r _ [4, 5, 6, 7] rfl (by decide +kernel)) ggX1_mostOf_X1_listHands
set_option maxRecDepth 20000 in
theorem ggX1_mostOf_J7_fill_d0a16 : GoodIn wsX1_mostOf wsJ7_fill_d0a16 := goodIn_r _ [33] rfl (by decide +kernel)
set_option maxRecDepth 20000 in
theorem gX1_mostOf_J7_fill_d0a16 : GoodIn wsX1_mostOf (va_wsS RX1 49 yJ7_fill_d0a16 wsJ7_fill_d0a16) := goodIn_app (goodIn_r _ [30, 31, 32] rfl (by decide +kernel)) ggX1_mostOf_J7_fill_d0a16
set_option maxRecDepth 20000 in
theorem ggX1_mostOf_X1_mayFrom : GoodIn wsX1_mostOf wsX1_mayFrom := goodIn_r _ [37, 2, 9, 38, 39, 40, 41, 7, 42, 11, 12, 13, 14, 15, 16, 17, 43, 44, 45, 46, 22, 47, 48, 49, 50, 51, 52, 53, 54, 55, 56, 57, 58, 59, 60, 19, 20, 21, 23, 24, 25, 26, 27, 28, 29, 61, 62, 63, 64, 65, 66, 67, 68, 69, 70, 71, 72, 73, 74, 75, 76, 77, 78, 79, 80, 81, 82, 83, 84, 85, 86, 87, 88, 89, 90, 91, 92, 93, 94, 95, 96, 143, 144, 145, 146, 147, 148, 149, 150, 151, 152, 153, 154, 155, 156, 157] rfl (by decide +kernel)
set_option maxRecDepth 20000 in
theorem gX1_mostOf_X1_mayFrom : GoodIn wsX1_mostOf (wsV RX1 55 RX1 yX1_mayFrom wsX1_mayFrom) := goodIn_app (goodIn_r _ [34, 35, 36, 7] rfl (by decide +kernel)) ggX1_mostOf_X1_mayFrom
set_option maxRecDepth 20000 in
theorem ggX1_mostOf_X1_foresee : GoodIn wsX1_mostOf wsX1_foresee := goodIn_r _ [100, 101, 102, 9, 39, 40, 41, 7, 42, 2, 11, 94, 95, 96, 12, 13, 14, 15, 16, 17, 103, 104, 105, 106, 107, 108, 92, 109, 22, 77, 78, 79, 80, 81, 86, 87, 88, 89, 90, 91, 93, 110, 111, 112, 113, 114, 115, 116, 117, 75, 76, 54, 47, 48, 49, 118, 119, 120, 121, 34, 35, 36, 37, 38, 43, 44, 45, 46, 50, 51, 52, 53, 55, 56, 57, 58, 59, 60, 19, 20, 21, 23, 24, 25, 26, 27, 28, 29, 61, 62, 63, 64, 65, 66, 67, 68, 69, 70, 71, 72, 73, 74, 82, 83, 84, 85, 122, 123, 124, 125, 143, 144, 145, 146, 147, 148, 149, 150, 151, 152, 153, 154, 155, 156, 157] rfl (by decide +kernel)
set_option maxRecDepth 20000 in
theorem gX1_mostOf_X1_foresee : GoodIn wsX1_mostOf (wsV RX1 62 RX1 yX1_foresee wsX1_foresee) := goodIn_app (goodIn_r _ [97, 98, 99, 7] rfl (by decide +kernel)) ggX1_mostOf_X1_foresee
set_option maxRecDepth 20000 in
theorem ggX1_mostOf_X1_sumWith : GoodIn wsX1_mostOf wsX1_sumWith := goodIn_r _ [129, 101, 102, 94, 95, 7, 96, 130, 131, 132, 133, 2, 1, 134, 135, 108, 92, 109, 136, 137, 138, 139, 140, 141, 142, 126, 127, 128, 143, 144, 145, 146, 147, 148, 149] rfl (by decide +kernel)
set_option maxRecDepth 20000 in
theorem gX1_mostOf_X1_sumWith : GoodIn wsX1_mostOf (wsV RX1 69 RX1 yX1_sumWith wsX1_sumWith) := goodIn_app (goodIn_r _ [126, 127, 128, 7] rfl (by decide +kernel)) ggX1_mostOf_X1_sumWith
set_option maxRecDepth 20000 in
theorem ggX1_mostOf_X1_sumFrom : GoodIn wsX1_mostOf wsX1_sumFrom := goodIn_r _ [133, 2, 1, 134, 135, 108, 92, 109, 136, 137, 7, 138, 94, 95, 96, 139, 140, 141, 142, 130, 131, 132, 126, 127, 128, 129, 101, 102, 143, 144, 145, 146, 147, 148, 149] rfl (by decide +kernel)
set_option maxRecDepth 20000 in
theorem gX1_mostOf_X1_sumFrom : GoodIn wsX1_mostOf (wsV RX1 73 RX1 yX1_sumFrom wsX1_sumFrom) := goodIn_app (goodIn_r _ [130, 131, 132, 7] rfl (by decide +kernel)) ggX1_mostOf_X1_sumFrom
theorem dX1_mostOf_0 : decode cX1_mostOf 0 = .ok (.aload_n 0, 1) := by decide +kernel
theorem dX1_mostOf_1 : decode cX1_mostOf 1 = .ok (.aload_n 1, 1) := by decide +kernel
theorem dX1_mostOf_2 : decode cX1_mostOf 2 = .ok (.invokevirtual 45, 3) := by decide +kernel
theorem dX1_mostOf_5 : decode cX1_mostOf 5 = .ok (.aload_n 0, 1) := by decide +kernel
theorem dX1_mostOf_6 : decode cX1_mostOf 6 = .ok (.getfield 22, 3) := by decide +kernel
theorem dX1_mostOf_9 : decode cX1_mostOf 9 = .ok (.lconst 0, 1) := by decide +kernel
theorem dX1_mostOf_10 : decode cX1_mostOf 10 = .ok (.invokestatic 49, 3) := by decide +kernel
theorem dX1_mostOf_13 : decode cX1_mostOf 13 = .ok (.aload_n 0, 1) := by decide +kernel
theorem dX1_mostOf_14 : decode cX1_mostOf 14 = .ok (.aload_n 1, 1) := by decide +kernel
theorem dX1_mostOf_15 : decode cX1_mostOf 15 = .ok (.iconst 0, 1) := by decide +kernel
theorem dX1_mostOf_16 : decode cX1_mostOf 16 = .ok (.invokevirtual 55, 3) := by decide +kernel
theorem dX1_mostOf_19 : decode cX1_mostOf 19 = .ok (.lstore_n 2, 1) := by decide +kernel
theorem dX1_mostOf_20 : decode cX1_mostOf 20 = .ok (.iconst 0, 1) := by decide +kernel
theorem dX1_mostOf_21 : decode cX1_mostOf 21 = .ok (.istore 4, 2) := by decide +kernel
theorem dX1_mostOf_23 : decode cX1_mostOf 23 = .ok (.iload 4, 2) := by decide +kernel
theorem dX1_mostOf_25 : decode cX1_mostOf 25 = .ok (.aload_n 0, 1) := by decide +kernel
theorem dX1_mostOf_26 : decode cX1_mostOf 26 = .ok (.getfield 59, 3) := by decide +kernel
theorem dX1_mostOf_29 : decode cX1_mostOf 29 = .ok (.if_icmp .ge 17, 3) := by decide +kernel
theorem dX1_mostOf_32 : decode cX1_mostOf 32 = .ok (.aload_n 0, 1) := by decide +kernel
theorem dX1_mostOf_33 : decode cX1_mostOf 33 = .ok (.aload_n 1, 1) := by decide +kernel
theorem dX1_mostOf_34 : decode cX1_mostOf 34 = .ok (.iload 4, 2) := by decide +kernel
theorem dX1_mostOf_36 : decode cX1_mostOf 36 = .ok (.lload_n 2, 1) := by decide +kernel
theorem dX1_mostOf_37 : decode cX1_mostOf 37 = .ok (.invokevirtual 62, 3) := by decide +kernel
theorem dX1_mostOf_40 : decode cX1_mostOf 40 = .ok (.iinc 4 1, 3) := by decide +kernel
theorem dX1_mostOf_43 : decode cX1_mostOf 43 = .ok (.goto (-20), 3) := by decide +kernel
theorem dX1_mostOf_46 : decode cX1_mostOf 46 = .ok (.aload_n 0, 1) := by decide +kernel
theorem dX1_mostOf_47 : decode cX1_mostOf 47 = .ok (.bipush (-9), 2) := by decide +kernel
theorem dX1_mostOf_49 : decode cX1_mostOf 49 = .ok (.putfield 66, 3) := by decide +kernel
theorem dX1_mostOf_52 : decode cX1_mostOf 52 = .ok (.iconst (-1), 1) := by decide +kernel
theorem dX1_mostOf_53 : decode cX1_mostOf 53 = .ok (.istore 4, 2) := by decide +kernel
theorem dX1_mostOf_55 : decode cX1_mostOf 55 = .ok (.iconst 0, 1) := by decide +kernel
theorem dX1_mostOf_56 : decode cX1_mostOf 56 = .ok (.istore 5, 2) := by decide +kernel
theorem dX1_mostOf_58 : decode cX1_mostOf 58 = .ok (.iload 5, 2) := by decide +kernel
theorem dX1_mostOf_60 : decode cX1_mostOf 60 = .ok (.bipush 7, 2) := by decide +kernel
theorem dX1_mostOf_62 : decode cX1_mostOf 62 = .ok (.if_icmp .ge 36, 3) := by decide +kernel
theorem dX1_mostOf_65 : decode cX1_mostOf 65 = .ok (.aload_n 0, 1) := by decide +kernel
theorem dX1_mostOf_66 : decode cX1_mostOf 66 = .ok (.iconst 0, 1) := by decide +kernel
theorem dX1_mostOf_67 : decode cX1_mostOf 67 = .ok (.iload 5, 2) := by decide +kernel
theorem dX1_mostOf_69 : decode cX1_mostOf 69 = .ok (.lload_n 2, 1) := by decide +kernel
theorem dX1_mostOf_70 : decode cX1_mostOf 70 = .ok (.invokevirtual 69, 3) := by decide +kernel
theorem dX1_mostOf_73 : decode cX1_mostOf 73 = .ok (.istore 6, 2) := by decide +kernel
theorem dX1_mostOf_75 : decode cX1_mostOf 75 = .ok (.iload 6, 2) := by decide +kernel
theorem dX1_mostOf_77 : decode cX1_mostOf 77 = .ok (.iload 4, 2) := by decide +kernel
theorem dX1_mostOf_79 : decode cX1_mostOf 79 = .ok (.if_icmp .le 13, 3) := by decide +kernel
theorem dX1_mostOf_82 : decode cX1_mostOf 82 = .ok (.iload 6, 2) := by decide +kernel
theorem dX1_mostOf_84 : decode cX1_mostOf 84 = .ok (.istore 4, 2) := by decide +kernel
theorem dX1_mostOf_86 : decode cX1_mostOf 86 = .ok (.aload_n 0, 1) := by decide +kernel
theorem dX1_mostOf_87 : decode cX1_mostOf 87 = .ok (.iload 5, 2) := by decide +kernel
theorem dX1_mostOf_89 : decode cX1_mostOf 89 = .ok (.putfield 66, 3) := by decide +kernel
theorem dX1_mostOf_92 : decode cX1_mostOf 92 = .ok (.iinc 5 1, 3) := by decide +kernel
theorem dX1_mostOf_95 : decode cX1_mostOf 95 = .ok (.goto (-37), 3) := by decide +kernel
theorem dX1_mostOf_98 : decode cX1_mostOf 98 = .ok (.aload_n 0, 1) := by decide +kernel
theorem dX1_mostOf_99 : decode cX1_mostOf 99 = .ok (.iconst 1, 1) := by decide +kernel
theorem dX1_mostOf_100 : decode cX1_mostOf 100 = .ok (.lload_n 2, 1) := by decide +kernel
theorem dX1_mostOf_101 : decode cX1_mostOf 101 = .ok (.invokevirtual 73, 3) := by decide +kernel
theorem dX1_mostOf_104 : decode cX1_mostOf 104 = .ok (.istore 5, 2) := by decide +kernel
theorem dX1_mostOf_106 : decode cX1_mostOf 106 = .ok (.iload 5, 2) := by decide +kernel
theorem dX1_mostOf_108 : decode cX1_mostOf 108 = .ok (.iload 4, 2) := by decide +kernel
theorem dX1_mostOf_110 : decode cX1_mostOf 110 = .ok (.if_icmp .le 13, 3) := by decide +kernel
theorem dX1_mostOf_113 : decode cX1_mostOf 113 = .ok (.iload 5, 2) := by decide +kernel
theorem dX1_mostOf_115 : decode cX1_mostOf 115 = .ok (.istore 4, 2) := by decide +kernel
theorem dX1_mostOf_117 : decode cX1_mostOf 117 = .ok (.aload_n 0, 1) := by decide +kernel
theorem dX1_mostOf_118 : decode cX1_mostOf 118 = .ok (.bipush (-9), 2) := by decide +kernel
theorem dX1_mostOf_120 : decode cX1_mostOf 120 = .ok (.putfield 66, 3) := by decide +kernel
theorem dX1_mostOf_123 : decode cX1_mostOf 123 = .ok (.iload 4, 2) := by decide +kernel
theorem dX1_mostOf_125 : decode cX1_mostOf 125 = .ok (.ireturn, 1) := by decide +kernel
set_option maxRecDepth 20000 in
theorem ggX1_listHands_X2_ofNeed : GoodIn wsX1_listHands wsX2_ofNeed := goodIn_r _ [9, 10, 30, 31, 32, 33, 34, 35, 36, 37] rfl (by decide +kernel)
set_option maxRecDepth 20000 in
theorem gX1_listHands_X2_ofNeed : GoodIn wsX1_listHands (wsV RX1 34 RX2 yX2_ofNeed wsX2_ofNeed) := goodIn_app (goodIn_r _ [5, 6, 7, 8] rfl (by decide +kernel)) ggX1_listHands_X2_ofNeed
set_option maxRecDepth 20000 in
theorem ggX1_listHands_X2_handsLeft : GoodIn wsX1_listHands wsX2_handsLeft := goodIn_r _ [14, 15, 6, 7, 8, 9, 10, 16, 17, 18, 19, 20, 21, 22, 30, 31, 32, 33, 34, 35, 36, 37] rfl (by decide +kernel)
set_option maxRecDepth 20000 in
theorem gX1_listHands_X2_handsLeft : GoodIn wsX1_listHands (wsV RX1 77 RX2 yX2_handsLeft wsX2_handsLeft) := goodIn_app (goodIn_r _ [11, 12, 13, 8] rfl (by decide +kernel)) ggX1_listHands_X2_handsLeft
theorem dX1_listHands_0 : decode cX1_listHands 0 = .ok (.aload_n 0, 1) := by decide +kernel
theorem dX1_listHands_1 : decode cX1_listHands 1 = .ok (.iconst 0, 1) := by decide +kernel
theorem dX1_listHands_2 : decode cX1_listHands 2 = .ok (.putfield 59, 3) := by decide +kernel
theorem dX1_listHands_5 : decode cX1_listHands 5 = .ok (.aload_n 1, 1) := by decide +kernel
theorem dX1_listHands_6 : decode cX1_listHands 6 = .ok (.getfield 38, 3) := by decide +kernel
theorem dX1_listHands_9 : decode cX1_listHands 9 = .ok (.istore_n 2, 1) := by decide +kernel
theorem dX1_listHands_10 : decode cX1_listHands 10 = .ok (.iload_n 2, 1) := by decide +kernel
theorem dX1_listHands_11 : decode cX1_listHands 11 = .ok (.bipush 9, 2) := by decide +kernel
theorem dX1_listHands_13 : decode cX1_listHands 13 = .ok (.if_icmp .gt 94, 3) := by decide +kernel
theorem dX1_listHands_16 : decode cX1_listHands 16 = .ok (.iconst 0, 1) := by decide +kernel
theorem dX1_listHands_17 : decode cX1_listHands 17 = .ok (.istore_n 3, 1) := by decide +kernel
theorem dX1_listHands_18 : decode cX1_listHands 18 = .ok (.iload_n 3, 1) := by decide +kernel
theorem dX1_listHands_19 : decode cX1_listHands 19 = .ok (.aload_n 1, 1) := by decide +kernel
theorem dX1_listHands_20 : decode cX1_listHands 20 = .ok (.getfield 28, 3) := by decide +kernel
theorem dX1_listHands_23 : decode cX1_listHands 23 = .ok (.if_icmp .ge 78, 3) := by decide +kernel
theorem dX1_listHands_26 : decode cX1_listHands 26 = .ok (.aload_n 1, 1) := by decide +kernel
theorem dX1_listHands_27 : decode cX1_listHands 27 = .ok (.iload_n 3, 1) := by decide +kernel
theorem dX1_listHands_28 : decode cX1_listHands 28 = .ok (.iconst 4, 1) := by decide +kernel
theorem dX1_listHands_29 : decode cX1_listHands 29 = .ok (.invokevirtual 34, 3) := by decide +kernel
theorem dX1_listHands_32 : decode cX1_listHands 32 = .ok (.iload_n 2, 1) := by decide +kernel
theorem dX1_listHands_33 : decode cX1_listHands 33 = .ok (.if_icmp .ne 11, 3) := by decide +kernel
theorem dX1_listHands_36 : decode cX1_listHands 36 = .ok (.aload_n 1, 1) := by decide +kernel
theorem dX1_listHands_37 : decode cX1_listHands 37 = .ok (.iload_n 3, 1) := by decide +kernel
theorem dX1_listHands_38 : decode cX1_listHands 38 = .ok (.invokevirtual 77, 3) := by decide +kernel
theorem dX1_listHands_41 : decode cX1_listHands 41 = .ok (.goto 4, 3) := by decide +kernel
theorem dX1_listHands_44 : decode cX1_listHands 44 = .ok (.iconst 0, 1) := by decide +kernel
theorem dX1_listHands_45 : decode cX1_listHands 45 = .ok (.istore 4, 2) := by decide +kernel
theorem dX1_listHands_47 : decode cX1_listHands 47 = .ok (.iconst 0, 1) := by decide +kernel
theorem dX1_listHands_48 : decode cX1_listHands 48 = .ok (.istore 5, 2) := by decide +kernel
theorem dX1_listHands_50 : decode cX1_listHands 50 = .ok (.iload 5, 2) := by decide +kernel
theorem dX1_listHands_52 : decode cX1_listHands 52 = .ok (.iload 4, 2) := by decide +kernel
theorem dX1_listHands_54 : decode cX1_listHands 54 = .ok (.if_icmp .ge 41, 3) := by decide +kernel
theorem dX1_listHands_57 : decode cX1_listHands 57 = .ok (.aload_n 0, 1) := by decide +kernel
theorem dX1_listHands_58 : decode cX1_listHands 58 = .ok (.getfield 59, 3) := by decide +kernel
theorem dX1_listHands_61 : decode cX1_listHands 61 = .ok (.aload_n 0, 1) := by decide +kernel
theorem dX1_listHands_62 : decode cX1_listHands 62 = .ok (.getfield 9, 3) := by decide +kernel
theorem dX1_listHands_65 : decode cX1_listHands 65 = .ok (.arraylength, 1) := by decide +kernel
theorem dX1_listHands_66 : decode cX1_listHands 66 = .ok (.if_icmp .ge 29, 3) := by decide +kernel
theorem dX1_listHands_69 : decode cX1_listHands 69 = .ok (.aload_n 0, 1) := by decide +kernel
theorem dX1_listHands_70 : decode cX1_listHands 70 = .ok (.getfield 9, 3) := by decide +kernel
theorem dX1_listHands_73 : decode cX1_listHands 73 = .ok (.aload_n 0, 1) := by decide +kernel
theorem dX1_listHands_74 : decode cX1_listHands 74 = .ok (.getfield 59, 3) := by decide +kernel
theorem dX1_listHands_77 : decode cX1_listHands 77 = .ok (.iload_n 3, 1) := by decide +kernel
theorem dX1_listHands_78 : decode cX1_listHands 78 = .ok (.iastore, 1) := by decide +kernel
theorem dX1_listHands_79 : decode cX1_listHands 79 = .ok (.aload_n 0, 1) := by decide +kernel
theorem dX1_listHands_80 : decode cX1_listHands 80 = .ok (.dup, 1) := by decide +kernel
theorem dX1_listHands_81 : decode cX1_listHands 81 = .ok (.getfield 59, 3) := by decide +kernel
theorem dX1_listHands_84 : decode cX1_listHands 84 = .ok (.iconst 1, 1) := by decide +kernel
theorem dX1_listHands_85 : decode cX1_listHands 85 = .ok (.iadd, 1) := by decide +kernel
theorem dX1_listHands_86 : decode cX1_listHands 86 = .ok (.putfield 59, 3) := by decide +kernel
theorem dX1_listHands_89 : decode cX1_listHands 89 = .ok (.iinc 5 1, 3) := by decide +kernel
theorem dX1_listHands_92 : decode cX1_listHands 92 = .ok (.goto (-42), 3) := by decide +kernel
theorem dX1_listHands_95 : decode cX1_listHands 95 = .ok (.iinc 3 1, 3) := by decide +kernel
theorem dX1_listHands_98 : decode cX1_listHands 98 = .ok (.goto (-80), 3) := by decide +kernel
theorem dX1_listHands_101 : decode cX1_listHands 101 = .ok (.iinc 2 1, 3) := by decide +kernel
theorem dX1_listHands_104 : decode cX1_listHands 104 = .ok (.goto (-94), 3) := by decide +kernel
theorem dX1_listHands_107 : decode cX1_listHands 107 = .ok (.return_, 1) := by decide +kernel
theorem dX1_needOf_0 : decode cX1_needOf 0 = .ok (.iload_n 1, 1) := by decide +kernel
theorem dX1_needOf_1 : decode cX1_needOf 1 = .ok (.ifCond .lt 29, 3) := by decide +kernel
theorem dX1_needOf_4 : decode cX1_needOf 4 = .ok (.iload_n 1, 1) := by decide +kernel
theorem dX1_needOf_5 : decode cX1_needOf 5 = .ok (.aload_n 0, 1) := by decide +kernel
theorem dX1_needOf_6 : decode cX1_needOf 6 = .ok (.getfield 59, 3) := by decide +kernel
theorem dX1_needOf_9 : decode cX1_needOf 9 = .ok (.if_icmp .ge 21, 3) := by decide +kernel
theorem dX1_needOf_12 : decode cX1_needOf 12 = .ok (.iload_n 1, 1) := by decide +kernel
theorem dX1_needOf_13 : decode cX1_needOf 13 = .ok (.aload_n 0, 1) := by decide +kernel
theorem dX1_needOf_14 : decode cX1_needOf 14 = .ok (.getfield 9, 3) := by decide +kernel
theorem dX1_needOf_17 : decode cX1_needOf 17 = .ok (.arraylength, 1) := by decide +kernel
theorem dX1_needOf_18 : decode cX1_needOf 18 = .ok (.if_icmp .ge 12, 3) := by decide +kernel
theorem dX1_needOf_21 : decode cX1_needOf 21 = .ok (.aload_n 0, 1) := by decide +kernel
theorem dX1_needOf_22 : decode cX1_needOf 22 = .ok (.getfield 9, 3) := by decide +kernel
theorem dX1_needOf_25 : decode cX1_needOf 25 = .ok (.iload_n 1, 1) := by decide +kernel
theorem dX1_needOf_26 : decode cX1_needOf 26 = .ok (.iaload, 1) := by decide +kernel
theorem dX1_needOf_27 : decode cX1_needOf 27 = .ok (.goto 4, 3) := by decide +kernel
theorem dX1_needOf_30 : decode cX1_needOf 30 = .ok (.iconst (-1), 1) := by decide +kernel
theorem dX1_needOf_31 : decode cX1_needOf 31 = .ok (.ireturn, 1) := by decide +kernel
set_option maxRecDepth 20000 in
theorem ggX1_mayFrom_X1_needOf : GoodIn wsX1_mayFrom wsX1_needOf := goodIn_r _ [8, 1, 9, 81, 82, 83, 84, 85, 86, 87] rfl (by decide +kernel)
set_option maxRecDepth 20000 in
theorem gX1_mayFrom_X1_needOf : GoodIn wsX1_mayFrom (wsV RX1 80 RX1 yX1_needOf wsX1_needOf) := goodIn_app (goodIn_r _ [4, 5, 6, 7] rfl (by decide +kernel)) ggX1_mayFrom_X1_needOf
set_option maxRecDepth 20000 in
theorem ggX1_mayFrom_X2_ofNeed : GoodIn wsX1_mayFrom wsX2_ofNeed := goodIn_r _ [14, 15, 88, 89, 90, 91, 92, 93, 94, 95] rfl (by decide +kernel)
set_option maxRecDepth 20000 in
theorem gX1_mayFrom_X2_ofNeed : GoodIn wsX1_mayFrom (wsV RX1 34 RX2 yX2_ofNeed wsX2_ofNeed) := goodIn_app (goodIn_r _ [10, 11, 12, 13] rfl (by decide +kernel)) ggX1_mayFrom_X2_ofNeed
set_option maxRecDepth 20000 in
theorem ggX1_mayFrom_X2_mayHelpWith : GoodIn wsX1_mayFrom wsX2_mayHelpWith := goodIn_r _ [19, 20, 11, 12, 13, 14, 15, 21, 22, 23, 24, 25, 26, 27, 28, 29, 30, 31, 32, 33, 34, 35, 36, 37, 38, 39, 40, 41, 42, 43, 44, 45, 46, 47, 48, 49, 50, 51, 52, 53, 54, 55, 56, 57, 58, 59, 60, 61, 62, 63, 64, 65, 66, 67, 68, 69, 70, 71, 72, 73, 74, 75, 76, 77, 88, 89, 90, 91, 92, 93, 94, 95] rfl (by decide +kernel)
set_option maxRecDepth 20000 in
theorem gX1_mayFrom_X2_mayHelpWith : GoodIn wsX1_mayFrom (wsV RX1 86 RX2 yX2_mayHelpWith wsX2_mayHelpWith) := goodIn_app (goodIn_r _ [16, 17, 18, 13] rfl (by decide +kernel)) ggX1_mayFrom_X2_mayHelpWith
set_option maxRecDepth 20000 in
theorem ggX1_mayFrom_X1_bitOf : GoodIn wsX1_mayFrom wsX1_bitOf := goodIn_r _ [80] rfl (by decide +kernel)
set_option maxRecDepth 20000 in
theorem gX1_mayFrom_X1_bitOf : GoodIn wsX1_mayFrom (va_wsS RX1 90 yX1_bitOf wsX1_bitOf) := goodIn_app (goodIn_r _ [78, 79, 7] rfl (by decide +kernel)) ggX1_mayFrom_X1_bitOf
theorem dX1_mayFrom_0 : decode cX1_mayFrom 0 = .ok (.lconst 0, 1) := by decide +kernel
theorem dX1_mayFrom_1 : decode cX1_mayFrom 1 = .ok (.lstore_n 3, 1) := by decide +kernel
theorem dX1_mayFrom_2 : decode cX1_mayFrom 2 = .ok (.iload_n 2, 1) := by decide +kernel
theorem dX1_mayFrom_3 : decode cX1_mayFrom 3 = .ok (.istore 5, 2) := by decide +kernel
theorem dX1_mayFrom_5 : decode cX1_mayFrom 5 = .ok (.iload 5, 2) := by decide +kernel
theorem dX1_mayFrom_7 : decode cX1_mayFrom 7 = .ok (.aload_n 0, 1) := by decide +kernel
theorem dX1_mayFrom_8 : decode cX1_mayFrom 8 = .ok (.getfield 59, 3) := by decide +kernel
theorem dX1_mayFrom_11 : decode cX1_mayFrom 11 = .ok (.if_icmp .ge 71, 3) := by decide +kernel
theorem dX1_mayFrom_14 : decode cX1_mayFrom 14 = .ok (.aload_n 0, 1) := by decide +kernel
theorem dX1_mayFrom_15 : decode cX1_mayFrom 15 = .ok (.iload 5, 2) := by decide +kernel
theorem dX1_mayFrom_17 : decode cX1_mayFrom 17 = .ok (.invokevirtual 80, 3) := by decide +kernel
theorem dX1_mayFrom_20 : decode cX1_mayFrom 20 = .ok (.istore 6, 2) := by decide +kernel
theorem dX1_mayFrom_22 : decode cX1_mayFrom 22 = .ok (.aload_n 1, 1) := by decide +kernel
theorem dX1_mayFrom_23 : decode cX1_mayFrom 23 = .ok (.aload_n 1, 1) := by decide +kernel
theorem dX1_mayFrom_24 : decode cX1_mayFrom 24 = .ok (.iload 6, 2) := by decide +kernel
theorem dX1_mayFrom_26 : decode cX1_mayFrom 26 = .ok (.iconst 4, 1) := by decide +kernel
theorem dX1_mayFrom_27 : decode cX1_mayFrom 27 = .ok (.invokevirtual 34, 3) := by decide +kernel
theorem dX1_mayFrom_30 : decode cX1_mayFrom 30 = .ok (.putfield 38, 3) := by decide +kernel
theorem dX1_mayFrom_33 : decode cX1_mayFrom 33 = .ok (.iconst 0, 1) := by decide +kernel
theorem dX1_mayFrom_34 : decode cX1_mayFrom 34 = .ok (.istore 7, 2) := by decide +kernel
theorem dX1_mayFrom_36 : decode cX1_mayFrom 36 = .ok (.iload 7, 2) := by decide +kernel
theorem dX1_mayFrom_38 : decode cX1_mayFrom 38 = .ok (.aload_n 1, 1) := by decide +kernel
theorem dX1_mayFrom_39 : decode cX1_mayFrom 39 = .ok (.getfield 83, 3) := by decide +kernel
theorem dX1_mayFrom_42 : decode cX1_mayFrom 42 = .ok (.if_icmp .ge 34, 3) := by decide +kernel
theorem dX1_mayFrom_45 : decode cX1_mayFrom 45 = .ok (.lload_n 3, 1) := by decide +kernel
theorem dX1_mayFrom_46 : decode cX1_mayFrom 46 = .ok (.aload_n 1, 1) := by decide +kernel
theorem dX1_mayFrom_47 : decode cX1_mayFrom 47 = .ok (.iload 7, 2) := by decide +kernel
theorem dX1_mayFrom_49 : decode cX1_mayFrom 49 = .ok (.iload 6, 2) := by decide +kernel
theorem dX1_mayFrom_51 : decode cX1_mayFrom 51 = .ok (.invokevirtual 86, 3) := by decide +kernel
theorem dX1_mayFrom_54 : decode cX1_mayFrom 54 = .ok (.ifCond .eq 13, 3) := by decide +kernel
theorem dX1_mayFrom_57 : decode cX1_mayFrom 57 = .ok (.iload 5, 2) := by decide +kernel
theorem dX1_mayFrom_59 : decode cX1_mayFrom 59 = .ok (.iload 7, 2) := by decide +kernel
theorem dX1_mayFrom_61 : decode cX1_mayFrom 61 = .ok (.invokestatic 90, 3) := by decide +kernel
theorem dX1_mayFrom_64 : decode cX1_mayFrom 64 = .ok (.goto 4, 3) := by decide +kernel
theorem dX1_mayFrom_67 : decode cX1_mayFrom 67 = .ok (.lconst 0, 1) := by decide +kernel
theorem dX1_mayFrom_68 : decode cX1_mayFrom 68 = .ok (.lor, 1) := by decide +kernel
theorem dX1_mayFrom_69 : decode cX1_mayFrom 69 = .ok (.lstore_n 3, 1) := by decide +kernel
theorem dX1_mayFrom_70 : decode cX1_mayFrom 70 = .ok (.iinc 7 1, 3) := by decide +kernel
theorem dX1_mayFrom_73 : decode cX1_mayFrom 73 = .ok (.goto (-37), 3) := by decide +kernel
theorem dX1_mayFrom_76 : decode cX1_mayFrom 76 = .ok (.iinc 5 1, 3) := by decide +kernel
theorem dX1_mayFrom_79 : decode cX1_mayFrom 79 = .ok (.goto (-74), 3) := by decide +kernel
theorem dX1_mayFrom_82 : decode cX1_mayFrom 82 = .ok (.lload_n 3, 1) := by decide +kernel
theorem dX1_mayFrom_83 : decode cX1_mayFrom 83 = .ok (.lreturn, 1) := by decide +kernel
set_option maxRecDepth 20000 in
theorem ggX1_foresee_X1_needOf : GoodIn wsX1_foresee wsX1_needOf := goodIn_r _ [8, 9, 10, 110, 111, 112, 113, 114, 115, 116] rfl (by decide +kernel)
set_option maxRecDepth 20000 in
theorem gX1_foresee_X1_needOf : GoodIn wsX1_foresee (wsV RX1 80 RX1 yX1_needOf wsX1_needOf) := goodIn_app (goodIn_r _ [4, 5, 6, 7] rfl (by decide +kernel)) ggX1_foresee_X1_needOf
set_option maxRecDepth 20000 in
theorem ggX1_foresee_X1_bitOf : GoodIn wsX1_foresee wsX1_bitOf := goodIn_r _ [13] rfl (by decide +kernel)
set_option maxRecDepth 20000 in
theorem gX1_foresee_X1_bitOf : GoodIn wsX1_foresee (va_wsS RX1 90 yX1_bitOf wsX1_bitOf) := goodIn_app (goodIn_r _ [11, 12, 7] rfl (by decide +kernel)) ggX1_foresee_X1_bitOf
set_option maxRecDepth 20000 in
theorem ggX1_foresee_X2_ofNeed : GoodIn wsX1_foresee wsX2_ofNeed := goodIn_r _ [18, 19, 117, 118, 119, 120, 121, 122, 123, 124] rfl (by decide +kernel)
set_option maxRecDepth 20000 in
theorem gX1_foresee_X2_ofNeed : GoodIn wsX1_foresee (wsV RX1 34 RX2 yX2_ofNeed wsX2_ofNeed) := goodIn_app (goodIn_r _ [14, 15, 16, 17] rfl (by decide +kernel)) ggX1_foresee_X2_ofNeed
set_option maxRecDepth 20000 in
theorem ggX1_foresee_X2_goodOf : GoodIn wsX1_foresee wsX2_goodOf := goodIn_r _ [23, 24, 25, 26, 27, 28, 15, 16, 17, 18, 19, 29, 30, 31, 32, 33, 34, 35, 36, 37, 38, 39, 40, 117, 118, 119, 120, 121, 122, 123, 124] rfl (by decide +kernel)
set_option maxRecDepth 20000 in
theorem gX1_foresee_X2_goodOf : GoodIn wsX1_foresee (wsV RX1 94 RX2 yX2_goodOf wsX2_goodOf) := goodIn_app (goodIn_r _ [20, 21, 22, 17] rfl (by decide +kernel)) ggX1_foresee_X2_goodOf
set_option maxRecDepth 20000 in
theorem ggX1_foresee_X2_doHelp : GoodIn wsX1_foresee wsX2_doHelp := goodIn_r _ [44, 28, 15, 16, 17, 18, 19, 45, 46, 47, 48, 49, 50, 51, 52, 53, 54, 55, 56, 57, 58, 117, 118, 119, 120, 121, 122, 123, 124] rfl (by decide +kernel)
set_option maxRecDepth 20000 in
theorem gX1_foresee_X2_doHelp : GoodIn wsX1_foresee (wsV RX1 97 RX2 yX2_doHelp wsX2_doHelp) := goodIn_app (goodIn_r _ [41, 42, 43, 17] rfl (by decide +kernel)) ggX1_foresee_X2_doHelp
set_option maxRecDepth 20000 in
theorem ggX1_foresee_X1_mayFrom : GoodIn wsX1_foresee wsX1_mayFrom := goodIn_r _ [62, 9, 3, 63, 4, 5, 6, 7, 8, 10, 14, 15, 16, 17, 18, 19, 64, 65, 66, 67, 28, 52, 53, 54, 68, 69, 70, 71, 51, 72, 73, 74, 75, 76, 77, 78, 79, 80, 81, 82, 83, 84, 85, 86, 87, 88, 89, 90, 91, 92, 93, 94, 95, 96, 97, 98, 99, 100, 101, 49, 50, 29, 30, 31, 32, 33, 102, 103, 104, 105, 34, 35, 36, 37, 38, 39, 26, 40, 11, 12, 13, 110, 111, 112, 113, 114, 115, 116, 117, 118, 119, 120, 121, 122, 123, 124] rfl (by decide +kernel)
set_option maxRecDepth 20000 in
theorem gX1_foresee_X1_mayFrom : GoodIn wsX1_foresee (wsV RX1 55 RX1 yX1_mayFrom wsX1_mayFrom) := goodIn_app (goodIn_r _ [59, 60, 61, 7] rfl (by decide +kernel)) ggX1_foresee_X1_mayFrom
set_option maxRecDepth 20000 in
theorem ggX1_foresee_X2_takeBack : GoodIn wsX1_foresee wsX2_takeBack := goodIn_r _ [109, 49, 50, 28, 15, 16, 17, 18, 19, 52, 53, 54, 55, 56, 57, 58, 117, 118, 119, 120, 121, 122, 123, 124] rfl (by decide +kernel)
set_option maxRecDepth 20000 in
theorem gX1_foresee_X2_takeBack : GoodIn wsX1_foresee (wsV RX1 101 RX2 yX2_takeBack wsX2_takeBack) := goodIn_app (goodIn_r _ [106, 107, 108, 17] rfl (by decide +kernel)) ggX1_foresee_X2_takeBack
theorem dX1_foresee_0 : decode cX1_foresee 0 = .ok (.aload_n 0, 1) := by decide +kernel
theorem dX1_foresee_1 : decode cX1_foresee 1 = .ok (.iload_n 2, 1) := by decide +kernel
theorem dX1_foresee_2 : decode cX1_foresee 2 = .ok (.invokevirtual 80, 3) := by decide +kernel
theorem dX1_foresee_5 : decode cX1_foresee 5 = .ok (.istore 5, 2) := by decide +kernel
theorem dX1_foresee_7 : decode cX1_foresee 7 = .ok (.iconst 0, 1) := by decide +kernel
theorem dX1_foresee_8 : decode cX1_foresee 8 = .ok (.istore 6, 2) := by decide +kernel
theorem dX1_foresee_10 : decode cX1_foresee 10 = .ok (.iload 6, 2) := by decide +kernel
theorem dX1_foresee_12 : decode cX1_foresee 12 = .ok (.bipush 7, 2) := by decide +kernel
theorem dX1_foresee_14 : decode cX1_foresee 14 = .ok (.if_icmp .ge 121, 3) := by decide +kernel
theorem dX1_foresee_17 : decode cX1_foresee 17 = .ok (.iload_n 2, 1) := by decide +kernel
theorem dX1_foresee_18 : decode cX1_foresee 18 = .ok (.bipush 7, 2) := by decide +kernel
theorem dX1_foresee_20 : decode cX1_foresee 20 = .ok (.imul, 1) := by decide +kernel
theorem dX1_foresee_21 : decode cX1_foresee 21 = .ok (.iload 6, 2) := by decide +kernel
theorem dX1_foresee_23 : decode cX1_foresee 23 = .ok (.iadd, 1) := by decide +kernel
theorem dX1_foresee_24 : decode cX1_foresee 24 = .ok (.istore 7, 2) := by decide +kernel
theorem dX1_foresee_26 : decode cX1_foresee 26 = .ok (.iload 7, 2) := by decide +kernel
theorem dX1_foresee_28 : decode cX1_foresee 28 = .ok (.ifCond .lt 27, 3) := by decide +kernel
theorem dX1_foresee_31 : decode cX1_foresee 31 = .ok (.iload 7, 2) := by decide +kernel
theorem dX1_foresee_33 : decode cX1_foresee 33 = .ok (.aload_n 0, 1) := by decide +kernel
theorem dX1_foresee_34 : decode cX1_foresee 34 = .ok (.getfield 15, 3) := by decide +kernel
theorem dX1_foresee_37 : decode cX1_foresee 37 = .ok (.arraylength, 1) := by decide +kernel
theorem dX1_foresee_38 : decode cX1_foresee 38 = .ok (.if_icmp .ge 17, 3) := by decide +kernel
theorem dX1_foresee_41 : decode cX1_foresee 41 = .ok (.iload 7, 2) := by decide +kernel
theorem dX1_foresee_43 : decode cX1_foresee 43 = .ok (.aload_n 0, 1) := by decide +kernel
theorem dX1_foresee_44 : decode cX1_foresee 44 = .ok (.getfield 18, 3) := by decide +kernel
theorem dX1_foresee_47 : decode cX1_foresee 47 = .ok (.arraylength, 1) := by decide +kernel
theorem dX1_foresee_48 : decode cX1_foresee 48 = .ok (.if_icmp .ge 7, 3) := by decide +kernel
theorem dX1_foresee_51 : decode cX1_foresee 51 = .ok (.iconst 1, 1) := by decide +kernel
theorem dX1_foresee_52 : decode cX1_foresee 52 = .ok (.goto 4, 3) := by decide +kernel
theorem dX1_foresee_55 : decode cX1_foresee 55 = .ok (.iconst 0, 1) := by decide +kernel
theorem dX1_foresee_56 : decode cX1_foresee 56 = .ok (.istore 8, 2) := by decide +kernel
theorem dX1_foresee_58 : decode cX1_foresee 58 = .ok (.iload 8, 2) := by decide +kernel
theorem dX1_foresee_60 : decode cX1_foresee 60 = .ok (.ifCond .eq 69, 3) := by decide +kernel
theorem dX1_foresee_63 : decode cX1_foresee 63 = .ok (.lload_n 3, 1) := by decide +kernel
theorem dX1_foresee_64 : decode cX1_foresee 64 = .ok (.iload_n 2, 1) := by decide +kernel
theorem dX1_foresee_65 : decode cX1_foresee 65 = .ok (.iload 6, 2) := by decide +kernel
theorem dX1_foresee_67 : decode cX1_foresee 67 = .ok (.invokestatic 90, 3) := by decide +kernel
theorem dX1_foresee_70 : decode cX1_foresee 70 = .ok (.land, 1) := by decide +kernel
theorem dX1_foresee_71 : decode cX1_foresee 71 = .ok (.lconst 0, 1) := by decide +kernel
theorem dX1_foresee_72 : decode cX1_foresee 72 = .ok (.lcmp, 1) := by decide +kernel
theorem dX1_foresee_73 : decode cX1_foresee 73 = .ok (.ifCond .eq 56, 3) := by decide +kernel
theorem dX1_foresee_76 : decode cX1_foresee 76 = .ok (.aload_n 1, 1) := by decide +kernel
theorem dX1_foresee_77 : decode cX1_foresee 77 = .ok (.aload_n 1, 1) := by decide +kernel
theorem dX1_foresee_78 : decode cX1_foresee 78 = .ok (.iload 5, 2) := by decide +kernel
theorem dX1_foresee_80 : decode cX1_foresee 80 = .ok (.iconst 4, 1) := by decide +kernel
theorem dX1_foresee_81 : decode cX1_foresee 81 = .ok (.invokevirtual 34, 3) := by decide +kernel
theorem dX1_foresee_84 : decode cX1_foresee 84 = .ok (.putfield 38, 3) := by decide +kernel
theorem dX1_foresee_87 : decode cX1_foresee 87 = .ok (.aload_n 0, 1) := by decide +kernel
theorem dX1_foresee_88 : decode cX1_foresee 88 = .ok (.getfield 15, 3) := by decide +kernel
theorem dX1_foresee_91 : decode cX1_foresee 91 = .ok (.iload 7, 2) := by decide +kernel
theorem dX1_foresee_93 : decode cX1_foresee 93 = .ok (.aload_n 1, 1) := by decide +kernel
theorem dX1_foresee_94 : decode cX1_foresee 94 = .ok (.iload 6, 2) := by decide +kernel
theorem dX1_foresee_96 : decode cX1_foresee 96 = .ok (.iload 5, 2) := by decide +kernel
theorem dX1_foresee_98 : decode cX1_foresee 98 = .ok (.invokevirtual 94, 3) := by decide +kernel
theorem dX1_foresee_101 : decode cX1_foresee 101 = .ok (.iastore, 1) := by decide +kernel
theorem dX1_foresee_102 : decode cX1_foresee 102 = .ok (.aload_n 1, 1) := by decide +kernel
theorem dX1_foresee_103 : decode cX1_foresee 103 = .ok (.iload 6, 2) := by decide +kernel
theorem dX1_foresee_105 : decode cX1_foresee 105 = .ok (.iload 5, 2) := by decide +kernel
theorem dX1_foresee_107 : decode cX1_foresee 107 = .ok (.invokevirtual 97, 3) := by decide +kernel
theorem dX1_foresee_110 : decode cX1_foresee 110 = .ok (.aload_n 0, 1) := by decide +kernel
theorem dX1_foresee_111 : decode cX1_foresee 111 = .ok (.getfield 18, 3) := by decide +kernel
theorem dX1_foresee_114 : decode cX1_foresee 114 = .ok (.iload 7, 2) := by decide +kernel
theorem dX1_foresee_116 : decode cX1_foresee 116 = .ok (.aload_n 0, 1) := by decide +kernel
theorem dX1_foresee_117 : decode cX1_foresee 117 = .ok (.aload_n 1, 1) := by decide +kernel
theorem dX1_foresee_118 : decode cX1_foresee 118 = .ok (.iload_n 2, 1) := by decide +kernel
theorem dX1_foresee_119 : decode cX1_foresee 119 = .ok (.iconst 1, 1) := by decide +kernel
theorem dX1_foresee_120 : decode cX1_foresee 120 = .ok (.iadd, 1) := by decide +kernel
theorem dX1_foresee_121 : decode cX1_foresee 121 = .ok (.invokevirtual 55, 3) := by decide +kernel
theorem dX1_foresee_124 : decode cX1_foresee 124 = .ok (.lastore, 1) := by decide +kernel
theorem dX1_foresee_125 : decode cX1_foresee 125 = .ok (.aload_n 1, 1) := by decide +kernel
theorem dX1_foresee_126 : decode cX1_foresee 126 = .ok (.invokevirtual 101, 3) := by decide +kernel
theorem dX1_foresee_129 : decode cX1_foresee 129 = .ok (.iinc 6 1, 3) := by decide +kernel
theorem dX1_foresee_132 : decode cX1_foresee 132 = .ok (.goto (-122), 3) := by decide +kernel
theorem dX1_foresee_135 : decode cX1_foresee 135 = .ok (.return_, 1) := by decide +kernel
set_option maxRecDepth 20000 in
theorem ggX1_sumWith_X1_bitOf : GoodIn wsX1_sumWith wsX1_bitOf := goodIn_r _ [6] rfl (by decide +kernel)
set_option maxRecDepth 20000 in
theorem gX1_sumWith_X1_bitOf : GoodIn wsX1_sumWith (va_wsS RX1 90 yX1_bitOf wsX1_bitOf) := goodIn_app (goodIn_r _ [3, 4, 5] rfl (by decide +kernel)) ggX1_sumWith_X1_bitOf
set_option maxRecDepth 20000 in
theorem ggX1_sumWith_X1_sumFrom : GoodIn wsX1_sumWith wsX1_sumFrom := goodIn_r _ [10, 11, 12, 13, 14, 15, 16, 17, 18, 19, 5, 20, 3, 4, 6, 21, 22, 23, 24, 7, 8, 9, 25, 26, 27, 0, 1, 2, 28, 29, 30, 31, 32, 33, 34] rfl (by decide +kernel)
set_option maxRecDepth 20000 in
theorem gX1_sumWith_X1_sumFrom : GoodIn wsX1_sumWith (wsV RX1 73 RX1 yX1_sumFrom wsX1_sumFrom) := goodIn_app (goodIn_r _ [7, 8, 9, 5] rfl (by decide +kernel)) ggX1_sumWith_X1_sumFrom
theorem dX1_sumWith_0 : decode cX1_sumWith 0 = .ok (.iload_n 1, 1) := by decide +kernel
theorem dX1_sumWith_1 : decode cX1_sumWith 1 = .ok (.bipush 7, 2) := by decide +kernel
theorem dX1_sumWith_3 : decode cX1_sumWith 3 = .ok (.imul, 1) := by decide +kernel
theorem dX1_sumWith_4 : decode cX1_sumWith 4 = .ok (.iload_n 2, 1) := by decide +kernel
theorem dX1_sumWith_5 : decode cX1_sumWith 5 = .ok (.iadd, 1) := by decide +kernel
theorem dX1_sumWith_6 : decode cX1_sumWith 6 = .ok (.istore 5, 2) := by decide +kernel
theorem dX1_sumWith_8 : decode cX1_sumWith 8 = .ok (.iload 5, 2) := by decide +kernel
theorem dX1_sumWith_10 : decode cX1_sumWith 10 = .ok (.ifCond .lt 27, 3) := by decide +kernel
theorem dX1_sumWith_13 : decode cX1_sumWith 13 = .ok (.iload 5, 2) := by decide +kernel
theorem dX1_sumWith_15 : decode cX1_sumWith 15 = .ok (.aload_n 0, 1) := by decide +kernel
theorem dX1_sumWith_16 : decode cX1_sumWith 16 = .ok (.getfield 15, 3) := by decide +kernel
theorem dX1_sumWith_19 : decode cX1_sumWith 19 = .ok (.arraylength, 1) := by decide +kernel
theorem dX1_sumWith_20 : decode cX1_sumWith 20 = .ok (.if_icmp .ge 17, 3) := by decide +kernel
theorem dX1_sumWith_23 : decode cX1_sumWith 23 = .ok (.iload 5, 2) := by decide +kernel
theorem dX1_sumWith_25 : decode cX1_sumWith 25 = .ok (.aload_n 0, 1) := by decide +kernel
theorem dX1_sumWith_26 : decode cX1_sumWith 26 = .ok (.getfield 18, 3) := by decide +kernel
theorem dX1_sumWith_29 : decode cX1_sumWith 29 = .ok (.arraylength, 1) := by decide +kernel
theorem dX1_sumWith_30 : decode cX1_sumWith 30 = .ok (.if_icmp .ge 7, 3) := by decide +kernel
theorem dX1_sumWith_33 : decode cX1_sumWith 33 = .ok (.iconst 1, 1) := by decide +kernel
theorem dX1_sumWith_34 : decode cX1_sumWith 34 = .ok (.goto 4, 3) := by decide +kernel
theorem dX1_sumWith_37 : decode cX1_sumWith 37 = .ok (.iconst 0, 1) := by decide +kernel
theorem dX1_sumWith_38 : decode cX1_sumWith 38 = .ok (.istore 6, 2) := by decide +kernel
theorem dX1_sumWith_40 : decode cX1_sumWith 40 = .ok (.iload 6, 2) := by decide +kernel
theorem dX1_sumWith_42 : decode cX1_sumWith 42 = .ok (.ifCond .eq 15, 3) := by decide +kernel
theorem dX1_sumWith_45 : decode cX1_sumWith 45 = .ok (.lload_n 3, 1) := by decide +kernel
theorem dX1_sumWith_46 : decode cX1_sumWith 46 = .ok (.iload_n 1, 1) := by decide +kernel
theorem dX1_sumWith_47 : decode cX1_sumWith 47 = .ok (.iload_n 2, 1) := by decide +kernel
theorem dX1_sumWith_48 : decode cX1_sumWith 48 = .ok (.invokestatic 90, 3) := by decide +kernel
theorem dX1_sumWith_51 : decode cX1_sumWith 51 = .ok (.land, 1) := by decide +kernel
theorem dX1_sumWith_52 : decode cX1_sumWith 52 = .ok (.lconst 0, 1) := by decide +kernel
theorem dX1_sumWith_53 : decode cX1_sumWith 53 = .ok (.lcmp, 1) := by decide +kernel
theorem dX1_sumWith_54 : decode cX1_sumWith 54 = .ok (.ifCond .ne 5, 3) := by decide +kernel
theorem dX1_sumWith_57 : decode cX1_sumWith 57 = .ok (.iconst (-1), 1) := by decide +kernel
theorem dX1_sumWith_58 : decode cX1_sumWith 58 = .ok (.ireturn, 1) := by decide +kernel
theorem dX1_sumWith_59 : decode cX1_sumWith 59 = .ok (.aload_n 0, 1) := by decide +kernel
theorem dX1_sumWith_60 : decode cX1_sumWith 60 = .ok (.getfield 15, 3) := by decide +kernel
theorem dX1_sumWith_63 : decode cX1_sumWith 63 = .ok (.iload 5, 2) := by decide +kernel
theorem dX1_sumWith_65 : decode cX1_sumWith 65 = .ok (.iaload, 1) := by decide +kernel
theorem dX1_sumWith_66 : decode cX1_sumWith 66 = .ok (.aload_n 0, 1) := by decide +kernel
theorem dX1_sumWith_67 : decode cX1_sumWith 67 = .ok (.iload_n 1, 1) := by decide +kernel
theorem dX1_sumWith_68 : decode cX1_sumWith 68 = .ok (.iconst 1, 1) := by decide +kernel
theorem dX1_sumWith_69 : decode cX1_sumWith 69 = .ok (.iadd, 1) := by decide +kernel
theorem dX1_sumWith_70 : decode cX1_sumWith 70 = .ok (.lload_n 3, 1) := by decide +kernel
theorem dX1_sumWith_71 : decode cX1_sumWith 71 = .ok (.aload_n 0, 1) := by decide +kernel
theorem dX1_sumWith_72 : decode cX1_sumWith 72 = .ok (.getfield 18, 3) := by decide +kernel
theorem dX1_sumWith_75 : decode cX1_sumWith 75 = .ok (.iload 5, 2) := by decide +kernel
theorem dX1_sumWith_77 : decode cX1_sumWith 77 = .ok (.laload, 1) := by decide +kernel
theorem dX1_sumWith_78 : decode cX1_sumWith 78 = .ok (.land, 1) := by decide +kernel
theorem dX1_sumWith_79 : decode cX1_sumWith 79 = .ok (.invokevirtual 73, 3) := by decide +kernel
theorem dX1_sumWith_82 : decode cX1_sumWith 82 = .ok (.iadd, 1) := by decide +kernel
theorem dX1_sumWith_83 : decode cX1_sumWith 83 = .ok (.ireturn, 1) := by decide +kernel
set_option maxRecDepth 20000 in
theorem ggX1_sumFrom_X1_bitsFrom : GoodIn wsX1_sumFrom wsX1_bitsFrom := goodIn_r _ [11, 12, 13, 10, 14] rfl (by decide +kernel)
set_option maxRecDepth 20000 in
theorem gX1_sumFrom_X1_bitsFrom : GoodIn wsX1_sumFrom (va_wsS RX1 104 yX1_bitsFrom wsX1_bitsFrom) := goodIn_app (goodIn_r _ [8, 9, 10] rfl (by decide +kernel)) ggX1_sumFrom_X1_bitsFrom
set_option maxRecDepth 20000 in
theorem ggX1_sumFrom_X1_slotOf : GoodIn wsX1_sumFrom wsX1_slotOf := goodIn_r _ [17, 18] rfl (by decide +kernel)
set_option maxRecDepth 20000 in
theorem gX1_sumFrom_X1_slotOf : GoodIn wsX1_sumFrom (va_wsS RX1 108 yX1_slotOf wsX1_slotOf) := goodIn_app (goodIn_r _ [15, 16, 10] rfl (by decide +kernel)) ggX1_sumFrom_X1_slotOf
set_option maxRecDepth 20000 in
theorem ggX1_sumFrom_X1_sumFrom : GoodIn wsX1_sumFrom wsX1_sumFrom := goodIn_r _ [0, 1, 2, 3, 4, 5, 6, 7, 8, 9, 10, 11, 12, 13, 14, 15, 16, 17, 18, 19, 20, 21, 22, 23, 24, 25, 26, 27, 28, 29, 30, 31, 32, 33, 34] rfl (by decide +kernel)
set_option maxRecDepth 20000 in
theorem gX1_sumFrom_X1_sumFrom : GoodIn wsX1_sumFrom (wsV RX1 73 RX1 yX1_sumFrom wsX1_sumFrom) := goodIn_app (goodIn_r _ [19, 20, 21, 10] rfl (by decide +kernel)) ggX1_sumFrom_X1_sumFrom
set_option maxRecDepth 20000 in
theorem ggX1_sumFrom_X1_sumWith : GoodIn wsX1_sumFrom wsX1_sumWith := goodIn_r _ [25, 26, 27, 12, 13, 10, 14, 19, 20, 21, 0, 1, 2, 3, 4, 5, 6, 7, 8, 9, 11, 15, 16, 17, 18, 22, 23, 24, 28, 29, 30, 31, 32, 33, 34] rfl (by decide +kernel)
set_option maxRecDepth 20000 in
theorem gX1_sumFrom_X1_sumWith : GoodIn wsX1_sumFrom (wsV RX1 69 RX1 yX1_sumWith wsX1_sumWith) := goodIn_app (goodIn_r _ [22, 23, 24, 10] rfl (by decide +kernel)) ggX1_sumFrom_X1_sumWith
theorem dX1_sumFrom_0 : decode cX1_sumFrom 0 = .ok (.iload_n 1, 1) := by decide +kernel
theorem dX1_sumFrom_1 : decode cX1_sumFrom 1 = .ok (.aload_n 0, 1) := by decide +kernel
theorem dX1_sumFrom_2 : decode cX1_sumFrom 2 = .ok (.getfield 59, 3) := by decide +kernel
theorem dX1_sumFrom_5 : decode cX1_sumFrom 5 = .ok (.if_icmp .ge 9, 3) := by decide +kernel
theorem dX1_sumFrom_8 : decode cX1_sumFrom 8 = .ok (.iload_n 1, 1) := by decide +kernel
theorem dX1_sumFrom_9 : decode cX1_sumFrom 9 = .ok (.bipush 8, 2) := by decide +kernel
theorem dX1_sumFrom_11 : decode cX1_sumFrom 11 = .ok (.if_icmp .lt 5, 3) := by decide +kernel
theorem dX1_sumFrom_14 : decode cX1_sumFrom 14 = .ok (.iconst 0, 1) := by decide +kernel
theorem dX1_sumFrom_15 : decode cX1_sumFrom 15 = .ok (.ireturn, 1) := by decide +kernel
theorem dX1_sumFrom_16 : decode cX1_sumFrom 16 = .ok (.lload_n 2, 1) := by decide +kernel
theorem dX1_sumFrom_17 : decode cX1_sumFrom 17 = .ok (.iload_n 1, 1) := by decide +kernel
theorem dX1_sumFrom_18 : decode cX1_sumFrom 18 = .ok (.invokestatic 104, 3) := by decide +kernel
theorem dX1_sumFrom_21 : decode cX1_sumFrom 21 = .ok (.land, 1) := by decide +kernel
theorem dX1_sumFrom_22 : decode cX1_sumFrom 22 = .ok (.lstore 4, 2) := by decide +kernel
theorem dX1_sumFrom_24 : decode cX1_sumFrom 24 = .ok (.lload 4, 2) := by decide +kernel
theorem dX1_sumFrom_26 : decode cX1_sumFrom 26 = .ok (.lconst 0, 1) := by decide +kernel
theorem dX1_sumFrom_27 : decode cX1_sumFrom 27 = .ok (.lcmp, 1) := by decide +kernel
theorem dX1_sumFrom_28 : decode cX1_sumFrom 28 = .ok (.ifCond .ne 5, 3) := by decide +kernel
theorem dX1_sumFrom_31 : decode cX1_sumFrom 31 = .ok (.iconst 0, 1) := by decide +kernel
theorem dX1_sumFrom_32 : decode cX1_sumFrom 32 = .ok (.ireturn, 1) := by decide +kernel
theorem dX1_sumFrom_33 : decode cX1_sumFrom 33 = .ok (.lload 4, 2) := by decide +kernel
theorem dX1_sumFrom_35 : decode cX1_sumFrom 35 = .ok (.invokestatic 108, 3) := by decide +kernel
theorem dX1_sumFrom_38 : decode cX1_sumFrom 38 = .ok (.istore 6, 2) := by decide +kernel
theorem dX1_sumFrom_40 : decode cX1_sumFrom 40 = .ok (.iload 6, 2) := by decide +kernel
theorem dX1_sumFrom_42 : decode cX1_sumFrom 42 = .ok (.ifCond .lt 27, 3) := by decide +kernel
theorem dX1_sumFrom_45 : decode cX1_sumFrom 45 = .ok (.iload 6, 2) := by decide +kernel
theorem dX1_sumFrom_47 : decode cX1_sumFrom 47 = .ok (.aload_n 0, 1) := by decide +kernel
theorem dX1_sumFrom_48 : decode cX1_sumFrom 48 = .ok (.getfield 22, 3) := by decide +kernel
theorem dX1_sumFrom_51 : decode cX1_sumFrom 51 = .ok (.arraylength, 1) := by decide +kernel
theorem dX1_sumFrom_52 : decode cX1_sumFrom 52 = .ok (.if_icmp .ge 17, 3) := by decide +kernel
theorem dX1_sumFrom_55 : decode cX1_sumFrom 55 = .ok (.iload 6, 2) := by decide +kernel
theorem dX1_sumFrom_57 : decode cX1_sumFrom 57 = .ok (.aload_n 0, 1) := by decide +kernel
theorem dX1_sumFrom_58 : decode cX1_sumFrom 58 = .ok (.getfield 25, 3) := by decide +kernel
theorem dX1_sumFrom_61 : decode cX1_sumFrom 61 = .ok (.arraylength, 1) := by decide +kernel
theorem dX1_sumFrom_62 : decode cX1_sumFrom 62 = .ok (.if_icmp .ge 7, 3) := by decide +kernel
theorem dX1_sumFrom_65 : decode cX1_sumFrom 65 = .ok (.iconst 1, 1) := by decide +kernel
theorem dX1_sumFrom_66 : decode cX1_sumFrom 66 = .ok (.goto 4, 3) := by decide +kernel
theorem dX1_sumFrom_69 : decode cX1_sumFrom 69 = .ok (.iconst 0, 1) := by decide +kernel
theorem dX1_sumFrom_70 : decode cX1_sumFrom 70 = .ok (.istore 7, 2) := by decide +kernel
theorem dX1_sumFrom_72 : decode cX1_sumFrom 72 = .ok (.iload 7, 2) := by decide +kernel
theorem dX1_sumFrom_74 : decode cX1_sumFrom 74 = .ok (.ifCond .eq 24, 3) := by decide +kernel
theorem dX1_sumFrom_77 : decode cX1_sumFrom 77 = .ok (.aload_n 0, 1) := by decide +kernel
theorem dX1_sumFrom_78 : decode cX1_sumFrom 78 = .ok (.getfield 22, 3) := by decide +kernel
theorem dX1_sumFrom_81 : decode cX1_sumFrom 81 = .ok (.iload 6, 2) := by decide +kernel
theorem dX1_sumFrom_83 : decode cX1_sumFrom 83 = .ok (.laload, 1) := by decide +kernel
theorem dX1_sumFrom_84 : decode cX1_sumFrom 84 = .ok (.lload 4, 2) := by decide +kernel
theorem dX1_sumFrom_86 : decode cX1_sumFrom 86 = .ok (.lcmp, 1) := by decide +kernel
theorem dX1_sumFrom_87 : decode cX1_sumFrom 87 = .ok (.ifCond .ne 11, 3) := by decide +kernel
theorem dX1_sumFrom_90 : decode cX1_sumFrom 90 = .ok (.aload_n 0, 1) := by decide +kernel
theorem dX1_sumFrom_91 : decode cX1_sumFrom 91 = .ok (.getfield 25, 3) := by decide +kernel
theorem dX1_sumFrom_94 : decode cX1_sumFrom 94 = .ok (.iload 6, 2) := by decide +kernel
theorem dX1_sumFrom_96 : decode cX1_sumFrom 96 = .ok (.iaload, 1) := by decide +kernel
theorem dX1_sumFrom_97 : decode cX1_sumFrom 97 = .ok (.ireturn, 1) := by decide +kernel
theorem dX1_sumFrom_98 : decode cX1_sumFrom 98 = .ok (.aload_n 0, 1) := by decide +kernel
theorem dX1_sumFrom_99 : decode cX1_sumFrom 99 = .ok (.iload_n 1, 1) := by decide +kernel
theorem dX1_sumFrom_100 : decode cX1_sumFrom 100 = .ok (.iconst 1, 1) := by decide +kernel
theorem dX1_sumFrom_101 : decode cX1_sumFrom 101 = .ok (.iadd, 1) := by decide +kernel
theorem dX1_sumFrom_102 : decode cX1_sumFrom 102 = .ok (.lload 4, 2) := by decide +kernel
theorem dX1_sumFrom_104 : decode cX1_sumFrom 104 = .ok (.invokevirtual 73, 3) := by decide +kernel
theorem dX1_sumFrom_107 : decode cX1_sumFrom 107 = .ok (.istore 8, 2) := by decide +kernel
theorem dX1_sumFrom_109 : decode cX1_sumFrom 109 = .ok (.iconst 0, 1) := by decide +kernel
theorem dX1_sumFrom_110 : decode cX1_sumFrom 110 = .ok (.istore 9, 2) := by decide +kernel
theorem dX1_sumFrom_112 : decode cX1_sumFrom 112 = .ok (.iload 9, 2) := by decide +kernel
theorem dX1_sumFrom_114 : decode cX1_sumFrom 114 = .ok (.bipush 7, 2) := by decide +kernel
theorem dX1_sumFrom_116 : decode cX1_sumFrom 116 = .ok (.if_icmp .ge 25, 3) := by decide +kernel
theorem dX1_sumFrom_119 : decode cX1_sumFrom 119 = .ok (.iload 8, 2) := by decide +kernel
theorem dX1_sumFrom_121 : decode cX1_sumFrom 121 = .ok (.aload_n 0, 1) := by decide +kernel
theorem dX1_sumFrom_122 : decode cX1_sumFrom 122 = .ok (.iload_n 1, 1) := by decide +kernel
theorem dX1_sumFrom_123 : decode cX1_sumFrom 123 = .ok (.iload 9, 2) := by decide +kernel
theorem dX1_sumFrom_125 : decode cX1_sumFrom 125 = .ok (.lload 4, 2) := by decide +kernel
theorem dX1_sumFrom_127 : decode cX1_sumFrom 127 = .ok (.invokevirtual 69, 3) := by decide +kernel
theorem dX1_sumFrom_130 : decode cX1_sumFrom 130 = .ok (.invokestatic 112, 3) := by decide +kernel
theorem dX1_sumFrom_133 : decode cX1_sumFrom 133 = .ok (.istore 8, 2) := by decide +kernel
theorem dX1_sumFrom_135 : decode cX1_sumFrom 135 = .ok (.iinc 9 1, 3) := by decide +kernel
theorem dX1_sumFrom_138 : decode cX1_sumFrom 138 = .ok (.goto (-26), 3) := by decide +kernel
theorem dX1_sumFrom_141 : decode cX1_sumFrom 141 = .ok (.iload 7, 2) := by decide +kernel
theorem dX1_sumFrom_143 : decode cX1_sumFrom 143 = .ok (.ifCond .eq 21, 3) := by decide +kernel
theorem dX1_sumFrom_146 : decode cX1_sumFrom 146 = .ok (.aload_n 0, 1) := by decide +kernel
theorem dX1_sumFrom_147 : decode cX1_sumFrom 147 = .ok (.getfield 22, 3) := by decide +kernel
theorem dX1_sumFrom_150 : decode cX1_sumFrom 150 = .ok (.iload 6, 2) := by decide +kernel
theorem dX1_sumFrom_152 : decode cX1_sumFrom 152 = .ok (.lload 4, 2) := by decide +kernel
theorem dX1_sumFrom_154 : decode cX1_sumFrom 154 = .ok (.lastore, 1) := by decide +kernel
theorem dX1_sumFrom_155 : decode cX1_sumFrom 155 = .ok (.aload_n 0, 1) := by decide +kernel
theorem dX1_sumFrom_156 : decode cX1_sumFrom 156 = .ok (.getfield 25, 3) := by decide +kernel
theorem dX1_sumFrom_159 : decode cX1_sumFrom 159 = .ok (.iload 6, 2) := by decide +kernel
theorem dX1_sumFrom_161 : decode cX1_sumFrom 161 = .ok (.iload 8, 2) := by decide +kernel
theorem dX1_sumFrom_163 : decode cX1_sumFrom 163 = .ok (.iastore, 1) := by decide +kernel
theorem dX1_sumFrom_164 : decode cX1_sumFrom 164 = .ok (.iload 8, 2) := by decide +kernel
theorem dX1_sumFrom_166 : decode cX1_sumFrom 166 = .ok (.ireturn, 1) := by decide +kernel
theorem dX1_bitOf_0 : decode cX1_bitOf 0 = .ok (.lconst 1, 1) := by decide +kernel
theorem dX1_bitOf_1 : decode cX1_bitOf 1 = .ok (.iload_n 0, 1) := by decide +kernel
theorem dX1_bitOf_2 : decode cX1_bitOf 2 = .ok (.bipush 7, 2) := by decide +kernel
theorem dX1_bitOf_4 : decode cX1_bitOf 4 = .ok (.imul, 1) := by decide +kernel
theorem dX1_bitOf_5 : decode cX1_bitOf 5 = .ok (.iload_n 1, 1) := by decide +kernel
theorem dX1_bitOf_6 : decode cX1_bitOf 6 = .ok (.iadd, 1) := by decide +kernel
theorem dX1_bitOf_7 : decode cX1_bitOf 7 = .ok (.lshl, 1) := by decide +kernel
theorem dX1_bitOf_8 : decode cX1_bitOf 8 = .ok (.lreturn, 1) := by decide +kernel
set_option maxRecDepth 20000 in
theorem ggX1_bitsFrom_X1_bitOf : GoodIn wsX1_bitsFrom wsX1_bitOf := goodIn_r _ [4] rfl (by decide +kernel)
set_option maxRecDepth 20000 in
theorem gX1_bitsFrom_X1_bitOf : GoodIn wsX1_bitsFrom (va_wsS RX1 90 yX1_bitOf wsX1_bitOf) := goodIn_app (goodIn_r _ [1, 2, 3] rfl (by decide +kernel)) ggX1_bitsFrom_X1_bitOf
theorem dX1_bitsFrom_0 : decode cX1_bitsFrom 0 = .ok (.iload_n 0, 1) := by decide +kernel
theorem dX1_bitsFrom_1 : decode cX1_bitsFrom 1 = .ok (.iconst 0, 1) := by decide +kernel
theorem dX1_bitsFrom_2 : decode cX1_bitsFrom 2 = .ok (.invokestatic 90, 3) := by decide +kernel
theorem dX1_bitsFrom_5 : decode cX1_bitsFrom 5 = .ok (.lneg, 1) := by decide +kernel
theorem dX1_bitsFrom_6 : decode cX1_bitsFrom 6 = .ok (.lreturn, 1) := by decide +kernel
theorem dX1_slotOf_0 : decode cX1_slotOf 0 = .ok (.lload_n 0, 1) := by decide +kernel
theorem dX1_slotOf_1 : decode cX1_slotOf 1 = .ok (.ldc2_w 117, 3) := by decide +kernel
theorem dX1_slotOf_4 : decode cX1_slotOf 4 = .ok (.lmul, 1) := by decide +kernel
theorem dX1_slotOf_5 : decode cX1_slotOf 5 = .ok (.bipush 54, 2) := by decide +kernel
theorem dX1_slotOf_7 : decode cX1_slotOf 7 = .ok (.lushr, 1) := by decide +kernel
theorem dX1_slotOf_8 : decode cX1_slotOf 8 = .ok (.l2i, 1) := by decide +kernel
theorem dX1_slotOf_9 : decode cX1_slotOf 9 = .ok (.ireturn, 1) := by decide +kernel
