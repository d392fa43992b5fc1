theorem dX0_init_0 : decode cX0_init 0 = .ok (.aload_n 0, 1) := by decide +kernel
theorem dX0_init_1 : decode cX0_init 1 = .ok (.invokespecial 3, 3) := by decide +kernel
theorem dX0_init_4 : decode cX0_init 4 = .ok (.aload_n 0, 1) := by decide +kernel
theorem dX0_init_5 : decode cX0_init 5 = .ok (.bipush 64, 2) := by decide +kernel
theorem dX0_init_7 : decode cX0_init 7 = .ok (.newarray .int, 2) := by decide +kernel
theorem dX0_init_9 : decode cX0_init 9 = .ok (.putfield 9, 3) := by decide +kernel
theorem dX0_init_12 : decode cX0_init 12 = .ok (.return_, 1) := by decide +kernel
theorem dX0_isFull_0 : decode cX0_isFull 0 = .ok (.aload_n 0, 1) := by decide +kernel
theorem dX0_isFull_1 : decode cX0_isFull 1 = .ok (.getfield 15, 3) := by decide +kernel
theorem dX0_isFull_4 : decode cX0_isFull 4 = .ok (.aload_n 0, 1) := by decide +kernel
theorem dX0_isFull_5 : decode cX0_isFull 5 = .ok (.getfield 9, 3) := by decide +kernel
theorem dX0_isFull_8 : decode cX0_isFull 8 = .ok (.arraylength, 1) := by decide +kernel
theorem dX0_isFull_9 : decode cX0_isFull 9 = .ok (.if_icmp .lt 7, 3) := by decide +kernel
theorem dX0_isFull_12 : decode cX0_isFull 12 = .ok (.iconst 1, 1) := by decide +kernel
theorem dX0_isFull_13 : decode cX0_isFull 13 = .ok (.goto 4, 3) := by decide +kernel
theorem dX0_isFull_16 : decode cX0_isFull 16 = .ok (.iconst 0, 1) := by decide +kernel
theorem dX0_isFull_17 : decode cX0_isFull 17 = .ok (.ireturn, 1) := by decide +kernel
theorem dX0_take_0 : decode cX0_take 0 = .ok (.aload_n 0, 1) := by decide +kernel
theorem dX0_take_1 : decode cX0_take 1 = .ok (.getfield 15, 3) := by decide +kernel
theorem dX0_take_4 : decode cX0_take 4 = .ok (.ifCond .lt 35, 3) := by decide +kernel
theorem dX0_take_7 : decode cX0_take 7 = .ok (.aload_n 0, 1) := by decide +kernel
theorem dX0_take_8 : decode cX0_take 8 = .ok (.getfield 15, 3) := by decide +kernel
theorem dX0_take_11 : decode cX0_take 11 = .ok (.aload_n 0, 1) := by decide +kernel
theorem dX0_take_12 : decode cX0_take 12 = .ok (.getfield 9, 3) := by decide +kernel
theorem dX0_take_15 : decode cX0_take 15 = .ok (.arraylength, 1) := by decide +kernel
theorem dX0_take_16 : decode cX0_take 16 = .ok (.if_icmp .ge 23, 3) := by decide +kernel
theorem dX0_take_19 : decode cX0_take 19 = .ok (.aload_n 0, 1) := by decide +kernel
theorem dX0_take_20 : decode cX0_take 20 = .ok (.getfield 9, 3) := by decide +kernel
theorem dX0_take_23 : decode cX0_take 23 = .ok (.aload_n 0, 1) := by decide +kernel
theorem dX0_take_24 : decode cX0_take 24 = .ok (.getfield 15, 3) := by decide +kernel
theorem dX0_take_27 : decode cX0_take 27 = .ok (.iload_n 1, 1) := by decide +kernel
theorem dX0_take_28 : decode cX0_take 28 = .ok (.iastore, 1) := by decide +kernel
theorem dX0_take_29 : decode cX0_take 29 = .ok (.aload_n 0, 1) := by decide +kernel
theorem dX0_take_30 : decode cX0_take 30 = .ok (.dup, 1) := by decide +kernel
theorem dX0_take_31 : decode cX0_take 31 = .ok (.getfield 15, 3) := by decide +kernel
theorem dX0_take_34 : decode cX0_take 34 = .ok (.iconst 1, 1) := by decide +kernel
theorem dX0_take_35 : decode cX0_take 35 = .ok (.iadd, 1) := by decide +kernel
theorem dX0_take_36 : decode cX0_take 36 = .ok (.putfield 15, 3) := by decide +kernel
theorem dX0_take_39 : decode cX0_take 39 = .ok (.aload_n 0, 1) := by decide +kernel
theorem dX0_take_40 : decode cX0_take 40 = .ok (.getfield 15, 3) := by decide +kernel
theorem dX0_take_43 : decode cX0_take 43 = .ok (.ireturn, 1) := by decide +kernel
theorem dX0_forget_0 : decode cX0_forget 0 = .ok (.aload_n 0, 1) := by decide +kernel
theorem dX0_forget_1 : decode cX0_forget 1 = .ok (.iconst 0, 1) := by decide +kernel
theorem dX0_forget_2 : decode cX0_forget 2 = .ok (.putfield 15, 3) := by decide +kernel
theorem dX0_forget_5 : decode cX0_forget 5 = .ok (.return_, 1) := by decide +kernel
theorem dX0_letterAt_0 : decode cX0_letterAt 0 = .ok (.iload_n 1, 1) := by decide +kernel
theorem dX0_letterAt_1 : decode cX0_letterAt 1 = .ok (.ifCond .lt 29, 3) := by decide +kernel
theorem dX0_letterAt_4 : decode cX0_letterAt 4 = .ok (.iload_n 1, 1) := by decide +kernel
theorem dX0_letterAt_5 : decode cX0_letterAt 5 = .ok (.aload_n 0, 1) := by decide +kernel
theorem dX0_letterAt_6 : decode cX0_letterAt 6 = .ok (.getfield 15, 3) := by decide +kernel
theorem dX0_letterAt_9 : decode cX0_letterAt 9 = .ok (.if_icmp .ge 21, 3) := by decide +kernel
theorem dX0_letterAt_12 : decode cX0_letterAt 12 = .ok (.iload_n 1, 1) := by decide +kernel
theorem dX0_letterAt_13 : decode cX0_letterAt 13 = .ok (.aload_n 0, 1) := by decide +kernel
theorem dX0_letterAt_14 : decode cX0_letterAt 14 = .ok (.getfield 9, 3) := by decide +kernel
theorem dX0_letterAt_17 : decode cX0_letterAt 17 = .ok (.arraylength, 1) := by decide +kernel
theorem dX0_letterAt_18 : decode cX0_letterAt 18 = .ok (.if_icmp .ge 12, 3) := by decide +kernel
theorem dX0_letterAt_21 : decode cX0_letterAt 21 = .ok (.aload_n 0, 1) := by decide +kernel
theorem dX0_letterAt_22 : decode cX0_letterAt 22 = .ok (.getfield 9, 3) := by decide +kernel
theorem dX0_letterAt_25 : decode cX0_letterAt 25 = .ok (.iload_n 1, 1) := by decide +kernel
theorem dX0_letterAt_26 : decode cX0_letterAt 26 = .ok (.iaload, 1) := by decide +kernel
theorem dX0_letterAt_27 : decode cX0_letterAt 27 = .ok (.goto 4, 3) := by decide +kernel
theorem dX0_letterAt_30 : decode cX0_letterAt 30 = .ok (.iconst (-1), 1) := by decide +kernel
theorem dX0_letterAt_31 : decode cX0_letterAt 31 = .ok (.ireturn, 1) := by decide +kernel
set_option maxRecDepth 20000 in
theorem ggX0_isDigit_X0_letterAt : GoodIn wsX0_isDigit wsX0_letterAt := goodIn_r _ [5, 6, 7, 8, 9] rfl (by decide +kernel)
set_option maxRecDepth 20000 in
theorem gX0_isDigit_X0_letterAt : GoodIn wsX0_isDigit (wsV RX0 19 RX0 yX0_letterAt wsX0_letterAt) := goodIn_app (goodIn_r _ [1, 2, 3, 4] rfl (by decide +kernel)) ggX0_isDigit_X0_letterAt
theorem dX0_isDigit_0 : decode cX0_isDigit 0 = .ok (.aload_n 0, 1) := by decide +kernel
theorem dX0_isDigit_1 : decode cX0_isDigit 1 = .ok (.iload_n 1, 1) := by decide +kernel
theorem dX0_isDigit_2 : decode cX0_isDigit 2 = .ok (.invokevirtual 19, 3) := by decide +kernel
theorem dX0_isDigit_5 : decode cX0_isDigit 5 = .ok (.bipush 48, 2) := by decide +kernel
theorem dX0_isDigit_7 : decode cX0_isDigit 7 = .ok (.if_icmp .lt 17, 3) := by decide +kernel
theorem dX0_isDigit_10 : decode cX0_isDigit 10 = .ok (.aload_n 0, 1) := by decide +kernel
theorem dX0_isDigit_11 : decode cX0_isDigit 11 = .ok (.iload_n 1, 1) := by decide +kernel
theorem dX0_isDigit_12 : decode cX0_isDigit 12 = .ok (.invokevirtual 19, 3) := by decide +kernel
theorem dX0_isDigit_15 : decode cX0_isDigit 15 = .ok (.bipush 57, 2) := by decide +kernel
theorem dX0_isDigit_17 : decode cX0_isDigit 17 = .ok (.if_icmp .gt 7, 3) := by decide +kernel
theorem dX0_isDigit_20 : decode cX0_isDigit 20 = .ok (.iconst 1, 1) := by decide +kernel
theorem dX0_isDigit_21 : decode cX0_isDigit 21 = .ok (.goto 4, 3) := by decide +kernel
theorem dX0_isDigit_24 : decode cX0_isDigit 24 = .ok (.iconst 0, 1) := by decide +kernel
theorem dX0_isDigit_25 : decode cX0_isDigit 25 = .ok (.ireturn, 1) := by decide +kernel
set_option maxRecDepth 20000 in
theorem ggX0_digit_X0_isDigit : GoodIn wsX0_digit wsX0_isDigit := goodIn_r _ [5, 6, 7, 8, 4, 9, 10, 11, 12, 13] rfl (by decide +kernel)
set_option maxRecDepth 20000 in
theorem gX0_digit_X0_isDigit : GoodIn wsX0_digit (wsV RX0 23 RX0 yX0_isDigit wsX0_isDigit) := goodIn_app (goodIn_r _ [1, 2, 3, 4] rfl (by decide +kernel)) ggX0_digit_X0_isDigit
set_option maxRecDepth 20000 in
theorem ggX0_digit_X0_letterAt : GoodIn wsX0_digit wsX0_letterAt := goodIn_r _ [9, 10, 11, 12, 13] rfl (by decide +kernel)
set_option maxRecDepth 20000 in
theorem gX0_digit_X0_letterAt : GoodIn wsX0_digit (wsV RX0 19 RX0 yX0_letterAt wsX0_letterAt) := goodIn_app (goodIn_r _ [6, 7, 8, 4] rfl (by decide +kernel)) ggX0_digit_X0_letterAt
theorem dX0_digit_0 : decode cX0_digit 0 = .ok (.aload_n 0, 1) := by decide +kernel
theorem dX0_digit_1 : decode cX0_digit 1 = .ok (.iload_n 1, 1) := by decide +kernel
theorem dX0_digit_2 : decode cX0_digit 2 = .ok (.invokevirtual 23, 3) := by decide +kernel
theorem dX0_digit_5 : decode cX0_digit 5 = .ok (.ifCond .eq 14, 3) := by decide +kernel
theorem dX0_digit_8 : decode cX0_digit 8 = .ok (.aload_n 0, 1) := by decide +kernel
theorem dX0_digit_9 : decode cX0_digit 9 = .ok (.iload_n 1, 1) := by decide +kernel
theorem dX0_digit_10 : decode cX0_digit 10 = .ok (.invokevirtual 19, 3) := by decide +kernel
theorem dX0_digit_13 : decode cX0_digit 13 = .ok (.bipush 48, 2) := by decide +kernel
theorem dX0_digit_15 : decode cX0_digit 15 = .ok (.isub, 1) := by decide +kernel
theorem dX0_digit_16 : decode cX0_digit 16 = .ok (.goto 4, 3) := by decide +kernel
theorem dX0_digit_19 : decode cX0_digit 19 = .ok (.iconst 0, 1) := by decide +kernel
theorem dX0_digit_20 : decode cX0_digit 20 = .ok (.ireturn, 1) := by decide +kernel
set_option maxRecDepth 20000 in
theorem ggX0_restOf_X0_letterAt : GoodIn wsX0_restOf wsX0_letterAt := goodIn_r _ [5, 6, 7, 12, 13] rfl (by decide +kernel)
set_option maxRecDepth 20000 in
theorem gX0_restOf_X0_letterAt : GoodIn wsX0_restOf (wsV RX0 19 RX0 yX0_letterAt wsX0_letterAt) := goodIn_app (goodIn_r _ [1, 2, 3, 4] rfl (by decide +kernel)) ggX0_restOf_X0_letterAt
set_option maxRecDepth 20000 in
theorem ggX0_restOf_X0_isDigit : GoodIn wsX0_restOf wsX0_isDigit := goodIn_r _ [11, 1, 2, 3, 4, 5, 6, 7, 12, 13] rfl (by decide +kernel)
set_option maxRecDepth 20000 in
theorem gX0_restOf_X0_isDigit : GoodIn wsX0_restOf (wsV RX0 23 RX0 yX0_isDigit wsX0_isDigit) := goodIn_app (goodIn_r _ [8, 9, 10, 4] rfl (by decide +kernel)) ggX0_restOf_X0_isDigit
theorem dX0_restOf_0 : decode cX0_restOf 0 = .ok (.aload_n 0, 1) := by decide +kernel
theorem dX0_restOf_1 : decode cX0_restOf 1 = .ok (.iload_n 1, 1) := by decide +kernel
theorem dX0_restOf_2 : decode cX0_restOf 2 = .ok (.invokevirtual 19, 3) := by decide +kernel
theorem dX0_restOf_5 : decode cX0_restOf 5 = .ok (.tableswitch 59 108 112 #[56, 59, 53, 59, 35], 35) := by decide +kernel
theorem dX0_restOf_40 : decode cX0_restOf 40 = .ok (.aload_n 0, 1) := by decide +kernel
theorem dX0_restOf_41 : decode cX0_restOf 41 = .ok (.iload_n 1, 1) := by decide +kernel
theorem dX0_restOf_42 : decode cX0_restOf 42 = .ok (.iconst 3, 1) := by decide +kernel
theorem dX0_restOf_43 : decode cX0_restOf 43 = .ok (.iadd, 1) := by decide +kernel
theorem dX0_restOf_44 : decode cX0_restOf 44 = .ok (.invokevirtual 23, 3) := by decide +kernel
theorem dX0_restOf_47 : decode cX0_restOf 47 = .ok (.ifCond .eq 8, 3) := by decide +kernel
theorem dX0_restOf_50 : decode cX0_restOf 50 = .ok (.ldc 27, 2) := by decide +kernel
theorem dX0_restOf_52 : decode cX0_restOf 52 = .ok (.goto 5, 3) := by decide +kernel
theorem dX0_restOf_55 : decode cX0_restOf 55 = .ok (.ldc 29, 2) := by decide +kernel
theorem dX0_restOf_57 : decode cX0_restOf 57 = .ok (.areturn, 1) := by decide +kernel
theorem dX0_restOf_58 : decode cX0_restOf 58 = .ok (.ldc 31, 2) := by decide +kernel
theorem dX0_restOf_60 : decode cX0_restOf 60 = .ok (.areturn, 1) := by decide +kernel
theorem dX0_restOf_61 : decode cX0_restOf 61 = .ok (.ldc 33, 2) := by decide +kernel
theorem dX0_restOf_63 : decode cX0_restOf 63 = .ok (.areturn, 1) := by decide +kernel
theorem dX0_restOf_64 : decode cX0_restOf 64 = .ok (.ldc 35, 2) := by decide +kernel
theorem dX0_restOf_66 : decode cX0_restOf 66 = .ok (.areturn, 1) := by decide +kernel
set_option maxRecDepth 20000 in
theorem ggX0_fault_X0_restOf : GoodIn wsX0_fault wsX0_restOf := goodIn_r _ [6, 7, 8, 9, 5, 10, 1, 11, 12, 13, 14, 15, 69, 70] rfl (by decide +kernel)
set_option maxRecDepth 20000 in
theorem gX0_fault_X0_restOf : GoodIn wsX0_fault (wsV RX0 37 RX0 yX0_restOf wsX0_restOf) := goodIn_app (goodIn_r _ [2, 3, 4, 5] rfl (by decide +kernel)) ggX0_fault_X0_restOf
set_option maxRecDepth 20000 in
theorem ggX0_fault_J0_isEmpty_aae02 : GoodIn wsX0_fault wsJ0_isEmpty_aae02 := goodIn_r _ [20, 21] rfl (by decide +kernel)
set_option maxRecDepth 20000 in
theorem gX0_fault_J0_isEmpty_aae02 : GoodIn wsX0_fault (wsV RX0 41 RJ0 yJ0_isEmpty_aae02 wsJ0_isEmpty_aae02) := goodIn_app (goodIn_r _ [16, 17, 18, 19] rfl (by decide +kernel)) ggX0_fault_J0_isEmpty_aae02
set_option maxRecDepth 20000 in
theorem ggX0_fault_J0_length_8abf5 : GoodIn wsX0_fault wsJ0_length_8abf5 := goodIn_r _ [25, 21, 26, 27, 28, 19, 29, 30, 31] rfl (by decide +kernel)
set_option maxRecDepth 20000 in
theorem gX0_fault_J0_length_8abf5 : GoodIn wsX0_fault (wsV RX0 47 RJ0 yJ0_length_8abf5 wsJ0_length_8abf5) := goodIn_app (goodIn_r _ [22, 23, 24, 19] rfl (by decide +kernel)) ggX0_fault_J0_length_8abf5
set_option maxRecDepth 20000 in
theorem ggX0_fault_J0_charAt_5068e : GoodIn wsX0_fault wsJ0_charAt_5068e := goodIn_r _ [35, 21, 36, 37, 38, 19, 39, 30, 31, 40, 41, 42, 43, 44, 45, 46, 47, 48, 49, 50, 51, 52, 53, 54, 55, 56, 57, 58, 59, 60, 61, 62, 63, 64, 65, 66, 67, 68] rfl (by decide +kernel)
set_option maxRecDepth 20000 in
theorem gX0_fault_J0_charAt_5068e : GoodIn wsX0_fault (wsV RX0 50 RJ0 yJ0_charAt_5068e wsJ0_charAt_5068e) := goodIn_app (goodIn_r _ [32, 33, 34, 19] rfl (by decide +kernel)) ggX0_fault_J0_charAt_5068e
set_option maxRecDepth 20000 in
theorem ggX0_fault_X0_isDigit : GoodIn wsX0_fault wsX0_isDigit := goodIn_r _ [15, 7, 8, 9, 5, 10, 1, 11, 69, 70] rfl (by decide +kernel)
set_option maxRecDepth 20000 in
theorem gX0_fault_X0_isDigit : GoodIn wsX0_fault (wsV RX0 23 RX0 yX0_isDigit wsX0_isDigit) := goodIn_app (goodIn_r _ [12, 13, 14, 5] rfl (by decide +kernel)) ggX0_fault_X0_isDigit
set_option maxRecDepth 20000 in
theorem ggX0_fault_X0_letterAt : GoodIn wsX0_fault wsX0_letterAt := goodIn_r _ [10, 1, 11, 69, 70] rfl (by decide +kernel)
set_option maxRecDepth 20000 in
theorem gX0_fault_X0_letterAt : GoodIn wsX0_fault (wsV RX0 19 RX0 yX0_letterAt wsX0_letterAt) := goodIn_app (goodIn_r _ [7, 8, 9, 5] rfl (by decide +kernel)) ggX0_fault_X0_letterAt
theorem dX0_fault_0 : decode cX0_fault 0 = .ok (.iconst 0, 1) := by decide +kernel
theorem dX0_fault_1 : decode cX0_fault 1 = .ok (.istore_n 1, 1) := by decide +kernel
theorem dX0_fault_2 : decode cX0_fault 2 = .ok (.iconst 0, 1) := by decide +kernel
theorem dX0_fault_3 : decode cX0_fault 3 = .ok (.istore_n 2, 1) := by decide +kernel
theorem dX0_fault_4 : decode cX0_fault 4 = .ok (.iload_n 2, 1) := by decide +kernel
theorem dX0_fault_5 : decode cX0_fault 5 = .ok (.bipush 64, 2) := by decide +kernel
theorem dX0_fault_7 : decode cX0_fault 7 = .ok (.if_icmp .ge 113, 3) := by decide +kernel
theorem dX0_fault_10 : decode cX0_fault 10 = .ok (.aload_n 0, 1) := by decide +kernel
theorem dX0_fault_11 : decode cX0_fault 11 = .ok (.iload_n 1, 1) := by decide +kernel
theorem dX0_fault_12 : decode cX0_fault 12 = .ok (.invokevirtual 37, 3) := by decide +kernel
theorem dX0_fault_15 : decode cX0_fault 15 = .ok (.astore_n 3, 1) := by decide +kernel
theorem dX0_fault_16 : decode cX0_fault 16 = .ok (.aload_n 3, 1) := by decide +kernel
theorem dX0_fault_17 : decode cX0_fault 17 = .ok (.invokevirtual 41, 3) := by decide +kernel
theorem dX0_fault_20 : decode cX0_fault 20 = .ok (.ifCond .eq 9, 3) := by decide +kernel
theorem dX0_fault_23 : decode cX0_fault 23 = .ok (.sipush (-1000), 3) := by decide +kernel
theorem dX0_fault_26 : decode cX0_fault 26 = .ok (.iload_n 1, 1) := by decide +kernel
theorem dX0_fault_27 : decode cX0_fault 27 = .ok (.isub, 1) := by decide +kernel
theorem dX0_fault_28 : decode cX0_fault 28 = .ok (.ireturn, 1) := by decide +kernel
theorem dX0_fault_29 : decode cX0_fault 29 = .ok (.iconst 0, 1) := by decide +kernel
theorem dX0_fault_30 : decode cX0_fault 30 = .ok (.istore 4, 2) := by decide +kernel
theorem dX0_fault_32 : decode cX0_fault 32 = .ok (.iload 4, 2) := by decide +kernel
theorem dX0_fault_34 : decode cX0_fault 34 = .ok (.aload_n 3, 1) := by decide +kernel
theorem dX0_fault_35 : decode cX0_fault 35 = .ok (.invokevirtual 47, 3) := by decide +kernel
theorem dX0_fault_38 : decode cX0_fault 38 = .ok (.if_icmp .ge 63, 3) := by decide +kernel
theorem dX0_fault_41 : decode cX0_fault 41 = .ok (.iinc 1 1, 3) := by decide +kernel
theorem dX0_fault_44 : decode cX0_fault 44 = .ok (.aload_n 3, 1) := by decide +kernel
theorem dX0_fault_45 : decode cX0_fault 45 = .ok (.iload 4, 2) := by decide +kernel
theorem dX0_fault_47 : decode cX0_fault 47 = .ok (.invokevirtual 50, 3) := by decide +kernel
theorem dX0_fault_50 : decode cX0_fault 50 = .ok (.bipush 100, 2) := by decide +kernel
theorem dX0_fault_52 : decode cX0_fault 52 = .ok (.if_icmp .ne 11, 3) := by decide +kernel
theorem dX0_fault_55 : decode cX0_fault 55 = .ok (.aload_n 0, 1) := by decide +kernel
theorem dX0_fault_56 : decode cX0_fault 56 = .ok (.iload_n 1, 1) := by decide +kernel
theorem dX0_fault_57 : decode cX0_fault 57 = .ok (.invokevirtual 23, 3) := by decide +kernel
theorem dX0_fault_60 : decode cX0_fault 60 = .ok (.goto 22, 3) := by decide +kernel
theorem dX0_fault_63 : decode cX0_fault 63 = .ok (.aload_n 0, 1) := by decide +kernel
theorem dX0_fault_64 : decode cX0_fault 64 = .ok (.iload_n 1, 1) := by decide +kernel
theorem dX0_fault_65 : decode cX0_fault 65 = .ok (.invokevirtual 19, 3) := by decide +kernel
theorem dX0_fault_68 : decode cX0_fault 68 = .ok (.aload_n 3, 1) := by decide +kernel
theorem dX0_fault_69 : decode cX0_fault 69 = .ok (.iload 4, 2) := by decide +kernel
theorem dX0_fault_71 : decode cX0_fault 71 = .ok (.invokevirtual 50, 3) := by decide +kernel
theorem dX0_fault_74 : decode cX0_fault 74 = .ok (.if_icmp .ne 7, 3) := by decide +kernel
theorem dX0_fault_77 : decode cX0_fault 77 = .ok (.iconst 1, 1) := by decide +kernel
theorem dX0_fault_78 : decode cX0_fault 78 = .ok (.goto 4, 3) := by decide +kernel
theorem dX0_fault_81 : decode cX0_fault 81 = .ok (.iconst 0, 1) := by decide +kernel
theorem dX0_fault_82 : decode cX0_fault 82 = .ok (.istore 5, 2) := by decide +kernel
theorem dX0_fault_84 : decode cX0_fault 84 = .ok (.iload 5, 2) := by decide +kernel
theorem dX0_fault_86 : decode cX0_fault 86 = .ok (.ifCond .ne 9, 3) := by decide +kernel
theorem dX0_fault_89 : decode cX0_fault 89 = .ok (.sipush (-1000), 3) := by decide +kernel
theorem dX0_fault_92 : decode cX0_fault 92 = .ok (.iload_n 1, 1) := by decide +kernel
theorem dX0_fault_93 : decode cX0_fault 93 = .ok (.isub, 1) := by decide +kernel
theorem dX0_fault_94 : decode cX0_fault 94 = .ok (.ireturn, 1) := by decide +kernel
theorem dX0_fault_95 : decode cX0_fault 95 = .ok (.iinc 4 1, 3) := by decide +kernel
theorem dX0_fault_98 : decode cX0_fault 98 = .ok (.goto (-66), 3) := by decide +kernel
theorem dX0_fault_101 : decode cX0_fault 101 = .ok (.iinc 1 1, 3) := by decide +kernel
theorem dX0_fault_104 : decode cX0_fault 104 = .ok (.iload_n 1, 1) := by decide +kernel
theorem dX0_fault_105 : decode cX0_fault 105 = .ok (.aload_n 0, 1) := by decide +kernel
theorem dX0_fault_106 : decode cX0_fault 106 = .ok (.getfield 15, 3) := by decide +kernel
theorem dX0_fault_109 : decode cX0_fault 109 = .ok (.if_icmp .lt 5, 3) := by decide +kernel
theorem dX0_fault_112 : decode cX0_fault 112 = .ok (.iconst 0, 1) := by decide +kernel
theorem dX0_fault_113 : decode cX0_fault 113 = .ok (.ireturn, 1) := by decide +kernel
theorem dX0_fault_114 : decode cX0_fault 114 = .ok (.iinc 2 1, 3) := by decide +kernel
theorem dX0_fault_117 : decode cX0_fault 117 = .ok (.goto (-113), 3) := by decide +kernel
theorem dX0_fault_120 : decode cX0_fault 120 = .ok (.iconst 0, 1) := by decide +kernel
theorem dX0_fault_121 : decode cX0_fault 121 = .ok (.ireturn, 1) := by decide +kernel
set_option maxRecDepth 20000 in
theorem ggX0_tell_X0_tellStatement : GoodIn wsX0_tell wsX0_tellStatement := goodIn_r _ [6, 7, 8, 9, 5, 10, 1, 11, 12, 13, 14, 15, 16, 17, 18, 19, 20, 21, 22, 23, 24, 25, 26, 27, 28, 29, 30, 31, 32, 33, 34, 35, 36, 37, 38, 39, 40, 41, 42, 43, 44, 45, 46, 47, 48, 49, 50, 51, 52, 53, 54, 55, 56, 57, 58, 59, 76, 77, 78, 79, 80, 81, 82, 83, 84, 85] rfl (by decide +kernel)
set_option maxRecDepth 20000 in
theorem gX0_tell_X0_tellStatement : GoodIn wsX0_tell (wsV RX0 54 RX0 yX0_tellStatement wsX0_tellStatement) := goodIn_app (goodIn_r _ [2, 3, 4, 5] rfl (by decide +kernel)) ggX0_tell_X0_tellStatement
set_option maxRecDepth 20000 in
theorem ggX0_tell_X0_restOf : GoodIn wsX0_tell wsX0_restOf := goodIn_r _ [63, 7, 8, 9, 5, 10, 1, 11, 21, 22, 23, 24, 76, 77] rfl (by decide +kernel)
set_option maxRecDepth 20000 in
theorem gX0_tell_X0_restOf : GoodIn wsX0_tell (wsV RX0 37 RX0 yX0_restOf wsX0_restOf) := goodIn_app (goodIn_r _ [60, 61, 62, 5] rfl (by decide +kernel)) ggX0_tell_X0_restOf
set_option maxRecDepth 20000 in
theorem ggX0_tell_J0_length_8abf5 : GoodIn wsX0_tell wsJ0_length_8abf5 := goodIn_r _ [68, 69, 70, 71, 72, 67, 73, 74, 75] rfl (by decide +kernel)
set_option maxRecDepth 20000 in
theorem gX0_tell_J0_length_8abf5 : GoodIn wsX0_tell (wsV RX0 47 RJ0 yJ0_length_8abf5 wsJ0_length_8abf5) := goodIn_app (goodIn_r _ [64, 65, 66, 67] rfl (by decide +kernel)) ggX0_tell_J0_length_8abf5
theorem dX0_tell_0 : decode cX0_tell 0 = .ok (.iconst 0, 1) := by decide +kernel
theorem dX0_tell_1 : decode cX0_tell 1 = .ok (.istore_n 2, 1) := by decide +kernel
theorem dX0_tell_2 : decode cX0_tell 2 = .ok (.iconst 0, 1) := by decide +kernel
theorem dX0_tell_3 : decode cX0_tell 3 = .ok (.istore_n 3, 1) := by decide +kernel
theorem dX0_tell_4 : decode cX0_tell 4 = .ok (.iload_n 3, 1) := by decide +kernel
theorem dX0_tell_5 : decode cX0_tell 5 = .ok (.aload_n 0, 1) := by decide +kernel
theorem dX0_tell_6 : decode cX0_tell 6 = .ok (.getfield 15, 3) := by decide +kernel
theorem dX0_tell_9 : decode cX0_tell 9 = .ok (.if_icmp .ge 37, 3) := by decide +kernel
theorem dX0_tell_12 : decode cX0_tell 12 = .ok (.aload_n 0, 1) := by decide +kernel
theorem dX0_tell_13 : decode cX0_tell 13 = .ok (.aload_n 1, 1) := by decide +kernel
theorem dX0_tell_14 : decode cX0_tell 14 = .ok (.iload_n 3, 1) := by decide +kernel
theorem dX0_tell_15 : decode cX0_tell 15 = .ok (.invokevirtual 54, 3) := by decide +kernel
theorem dX0_tell_18 : decode cX0_tell 18 = .ok (.ifCond .ne 9, 3) := by decide +kernel
theorem dX0_tell_21 : decode cX0_tell 21 = .ok (.sipush (-2000), 3) := by decide +kernel
theorem dX0_tell_24 : decode cX0_tell 24 = .ok (.iload_n 3, 1) := by decide +kernel
theorem dX0_tell_25 : decode cX0_tell 25 = .ok (.isub, 1) := by decide +kernel
theorem dX0_tell_26 : decode cX0_tell 26 = .ok (.ireturn, 1) := by decide +kernel
theorem dX0_tell_27 : decode cX0_tell 27 = .ok (.iinc 2 1, 3) := by decide +kernel
theorem dX0_tell_30 : decode cX0_tell 30 = .ok (.iload_n 3, 1) := by decide +kernel
theorem dX0_tell_31 : decode cX0_tell 31 = .ok (.iconst 1, 1) := by decide +kernel
theorem dX0_tell_32 : decode cX0_tell 32 = .ok (.aload_n 0, 1) := by decide +kernel
theorem dX0_tell_33 : decode cX0_tell 33 = .ok (.iload_n 3, 1) := by decide +kernel
theorem dX0_tell_34 : decode cX0_tell 34 = .ok (.invokevirtual 37, 3) := by decide +kernel
theorem dX0_tell_37 : decode cX0_tell 37 = .ok (.invokevirtual 47, 3) := by decide +kernel
theorem dX0_tell_40 : decode cX0_tell 40 = .ok (.iadd, 1) := by decide +kernel
theorem dX0_tell_41 : decode cX0_tell 41 = .ok (.iadd, 1) := by decide +kernel
theorem dX0_tell_42 : decode cX0_tell 42 = .ok (.istore_n 3, 1) := by decide +kernel
theorem dX0_tell_43 : decode cX0_tell 43 = .ok (.goto (-39), 3) := by decide +kernel
theorem dX0_tell_46 : decode cX0_tell 46 = .ok (.iload_n 2, 1) := by decide +kernel
theorem dX0_tell_47 : decode cX0_tell 47 = .ok (.ireturn, 1) := by decide +kernel
set_option maxRecDepth 20000 in
theorem ggX0_tellStatement_X0_letterAt : GoodIn wsX0_tellStatement wsX0_letterAt := goodIn_r _ [5, 6, 7, 56, 57] rfl (by decide +kernel)
set_option maxRecDepth 20000 in
theorem gX0_tellStatement_X0_letterAt : GoodIn wsX0_tellStatement (wsV RX0 19 RX0 yX0_letterAt wsX0_letterAt) := goodIn_app (goodIn_r _ [1, 2, 3, 4] rfl (by decide +kernel)) ggX0_tellStatement_X0_letterAt
set_option maxRecDepth 20000 in
theorem ggX0_tellStatement_X0_tellPerson : GoodIn wsX0_tellStatement wsX0_tellPerson := goodIn_r _ [11, 12, 13, 14, 15, 4, 16, 17, 18, 19, 20, 1, 2, 3, 5, 6, 7, 21, 22, 23, 24, 25, 26, 58, 59, 60, 61, 62, 63, 64, 65, 56, 57] rfl (by decide +kernel)
set_option maxRecDepth 20000 in
theorem gX0_tellStatement_X0_tellPerson : GoodIn wsX0_tellStatement (wsV RX0 58 RX0 yX0_tellPerson wsX0_tellPerson) := goodIn_app (goodIn_r _ [8, 9, 10, 4] rfl (by decide +kernel)) ggX0_tellStatement_X0_tellPerson
set_option maxRecDepth 20000 in
theorem ggX0_tellStatement_X0_tellNeed : GoodIn wsX0_tellStatement wsX0_tellNeed := goodIn_r _ [30, 31, 13, 14, 15, 4, 16, 17, 18, 19, 20, 1, 2, 3, 5, 6, 7, 32, 33, 34, 24, 35, 36, 37, 38, 39, 40, 41, 58, 59, 60, 61, 62, 63, 64, 65, 56, 57] rfl (by decide +kernel)
set_option maxRecDepth 20000 in
theorem gX0_tellStatement_X0_tellNeed : GoodIn wsX0_tellStatement (wsV RX0 61 RX0 yX0_tellNeed wsX0_tellNeed) := goodIn_app (goodIn_r _ [27, 28, 29, 4] rfl (by decide +kernel)) ggX0_tellStatement_X0_tellNeed
set_option maxRecDepth 20000 in
theorem ggX0_tellStatement_X0_tellLaw : GoodIn wsX0_tellStatement wsX0_tellLaw := goodIn_r _ [45, 13, 14, 15, 4, 16, 17, 18, 19, 20, 1, 2, 3, 5, 6, 7, 46, 47, 48, 49, 50, 51, 52, 53, 24, 54, 55, 56, 57, 58, 59, 60, 61, 62, 63, 64, 65] rfl (by decide +kernel)
set_option maxRecDepth 20000 in
theorem gX0_tellStatement_X0_tellLaw : GoodIn wsX0_tellStatement (wsV RX0 64 RX0 yX0_tellLaw wsX0_tellLaw) := goodIn_app (goodIn_r _ [42, 43, 44, 4] rfl (by decide +kernel)) ggX0_tellStatement_X0_tellLaw
theorem dX0_tellStatement_0 : decode cX0_tellStatement 0 = .ok (.aload_n 0, 1) := by decide +kernel
theorem dX0_tellStatement_1 : decode cX0_tellStatement 1 = .ok (.iload_n 2, 1) := by decide +kernel
theorem dX0_tellStatement_2 : decode cX0_tellStatement 2 = .ok (.invokevirtual 19, 3) := by decide +kernel
theorem dX0_tellStatement_5 : decode cX0_tellStatement 5 = .ok (.lookupswitch 41 #[(110, 34), (112, 27)], 27) := by decide +kernel
theorem dX0_tellStatement_32 : decode cX0_tellStatement 32 = .ok (.aload_n 0, 1) := by decide +kernel
theorem dX0_tellStatement_33 : decode cX0_tellStatement 33 = .ok (.aload_n 1, 1) := by decide +kernel
theorem dX0_tellStatement_34 : decode cX0_tellStatement 34 = .ok (.iload_n 2, 1) := by decide +kernel
theorem dX0_tellStatement_35 : decode cX0_tellStatement 35 = .ok (.invokevirtual 58, 3) := by decide +kernel
theorem dX0_tellStatement_38 : decode cX0_tellStatement 38 = .ok (.ireturn, 1) := by decide +kernel
theorem dX0_tellStatement_39 : decode cX0_tellStatement 39 = .ok (.aload_n 0, 1) := by decide +kernel
theorem dX0_tellStatement_40 : decode cX0_tellStatement 40 = .ok (.aload_n 1, 1) := by decide +kernel
theorem dX0_tellStatement_41 : decode cX0_tellStatement 41 = .ok (.iload_n 2, 1) := by decide +kernel
theorem dX0_tellStatement_42 : decode cX0_tellStatement 42 = .ok (.invokevirtual 61, 3) := by decide +kernel
theorem dX0_tellStatement_45 : decode cX0_tellStatement 45 = .ok (.ireturn, 1) := by decide +kernel
theorem dX0_tellStatement_46 : decode cX0_tellStatement 46 = .ok (.aload_n 0, 1) := by decide +kernel
theorem dX0_tellStatement_47 : decode cX0_tellStatement 47 = .ok (.aload_n 1, 1) := by decide +kernel
theorem dX0_tellStatement_48 : decode cX0_tellStatement 48 = .ok (.iload_n 2, 1) := by decide +kernel
theorem dX0_tellStatement_49 : decode cX0_tellStatement 49 = .ok (.invokevirtual 64, 3) := by decide +kernel
theorem dX0_tellStatement_52 : decode cX0_tellStatement 52 = .ok (.ireturn, 1) := by decide +kernel
set_option maxRecDepth 20000 in
theorem ggX0_tellPerson_X0_digit : GoodIn wsX0_tellPerson wsX0_digit := goodIn_r _ [6, 7, 8, 9, 5, 10, 11, 12, 13, 14, 15, 16, 31, 32] rfl (by decide +kernel)
set_option maxRecDepth 20000 in
theorem gX0_tellPerson_X0_digit : GoodIn wsX0_tellPerson (wsV RX0 72 RX0 yX0_digit wsX0_digit) := goodIn_app (goodIn_r _ [2, 3, 4, 5] rfl (by decide +kernel)) ggX0_tellPerson_X0_digit
set_option maxRecDepth 20000 in
theorem ggX0_tellPerson_X0_isDigit : GoodIn wsX0_tellPerson wsX0_isDigit := goodIn_r _ [10, 11, 12, 13, 5, 14, 15, 16, 31, 32] rfl (by decide +kernel)
set_option maxRecDepth 20000 in
theorem gX0_tellPerson_X0_isDigit : GoodIn wsX0_tellPerson (wsV RX0 23 RX0 yX0_isDigit wsX0_isDigit) := goodIn_app (goodIn_r _ [7, 8, 9, 5] rfl (by decide +kernel)) ggX0_tellPerson_X0_isDigit
set_option maxRecDepth 20000 in
theorem ggX0_tellPerson_X2_putPerson : GoodIn wsX0_tellPerson wsX2_putPerson := goodIn_r _ [21, 22, 23, 24, 25, 26, 27, 28, 29, 30] rfl (by decide +kernel)
set_option maxRecDepth 20000 in
theorem gX0_tellPerson_X2_putPerson : GoodIn wsX0_tellPerson (wsV RX0 75 RX2 yX2_putPerson wsX2_putPerson) := goodIn_app (goodIn_r _ [17, 18, 19, 20] rfl (by decide +kernel)) ggX0_tellPerson_X2_putPerson
theorem dX0_tellPerson_0 : decode cX0_tellPerson 0 = .ok (.aload_n 1, 1) := by decide +kernel
theorem dX0_tellPerson_1 : decode cX0_tellPerson 1 = .ok (.getfield 67, 3) := by decide +kernel
theorem dX0_tellPerson_4 : decode cX0_tellPerson 4 = .ok (.bipush 7, 2) := by decide +kernel
theorem dX0_tellPerson_6 : decode cX0_tellPerson 6 = .ok (.if_icmp .ge 15, 3) := by decide +kernel
theorem dX0_tellPerson_9 : decode cX0_tellPerson 9 = .ok (.aload_n 0, 1) := by decide +kernel
theorem dX0_tellPerson_10 : decode cX0_tellPerson 10 = .ok (.iload_n 2, 1) := by decide +kernel
theorem dX0_tellPerson_11 : decode cX0_tellPerson 11 = .ok (.iconst 1, 1) := by decide +kernel
theorem dX0_tellPerson_12 : decode cX0_tellPerson 12 = .ok (.iadd, 1) := by decide +kernel
theorem dX0_tellPerson_13 : decode cX0_tellPerson 13 = .ok (.invokevirtual 72, 3) := by decide +kernel
theorem dX0_tellPerson_16 : decode cX0_tellPerson 16 = .ok (.bipush 6, 2) := by decide +kernel
theorem dX0_tellPerson_18 : decode cX0_tellPerson 18 = .ok (.if_icmp .le 5, 3) := by decide +kernel
theorem dX0_tellPerson_21 : decode cX0_tellPerson 21 = .ok (.iconst 0, 1) := by decide +kernel
theorem dX0_tellPerson_22 : decode cX0_tellPerson 22 = .ok (.ireturn, 1) := by decide +kernel
theorem dX0_tellPerson_23 : decode cX0_tellPerson 23 = .ok (.aload_n 0, 1) := by decide +kernel
theorem dX0_tellPerson_24 : decode cX0_tellPerson 24 = .ok (.iload_n 2, 1) := by decide +kernel
theorem dX0_tellPerson_25 : decode cX0_tellPerson 25 = .ok (.iconst 3, 1) := by decide +kernel
theorem dX0_tellPerson_26 : decode cX0_tellPerson 26 = .ok (.iadd, 1) := by decide +kernel
theorem dX0_tellPerson_27 : decode cX0_tellPerson 27 = .ok (.invokevirtual 23, 3) := by decide +kernel
theorem dX0_tellPerson_30 : decode cX0_tellPerson 30 = .ok (.istore_n 3, 1) := by decide +kernel
theorem dX0_tellPerson_31 : decode cX0_tellPerson 31 = .ok (.iload_n 3, 1) := by decide +kernel
theorem dX0_tellPerson_32 : decode cX0_tellPerson 32 = .ok (.ifCond .eq 24, 3) := by decide +kernel
theorem dX0_tellPerson_35 : decode cX0_tellPerson 35 = .ok (.aload_n 0, 1) := by decide +kernel
theorem dX0_tellPerson_36 : decode cX0_tellPerson 36 = .ok (.iload_n 2, 1) := by decide +kernel
theorem dX0_tellPerson_37 : decode cX0_tellPerson 37 = .ok (.iconst 2, 1) := by decide +kernel
theorem dX0_tellPerson_38 : decode cX0_tellPerson 38 = .ok (.iadd, 1) := by decide +kernel
theorem dX0_tellPerson_39 : decode cX0_tellPerson 39 = .ok (.invokevirtual 72, 3) := by decide +kernel
theorem dX0_tellPerson_42 : decode cX0_tellPerson 42 = .ok (.bipush 10, 2) := by decide +kernel
theorem dX0_tellPerson_44 : decode cX0_tellPerson 44 = .ok (.imul, 1) := by decide +kernel
theorem dX0_tellPerson_45 : decode cX0_tellPerson 45 = .ok (.aload_n 0, 1) := by decide +kernel
theorem dX0_tellPerson_46 : decode cX0_tellPerson 46 = .ok (.iload_n 2, 1) := by decide +kernel
theorem dX0_tellPerson_47 : decode cX0_tellPerson 47 = .ok (.iconst 3, 1) := by decide +kernel
theorem dX0_tellPerson_48 : decode cX0_tellPerson 48 = .ok (.iadd, 1) := by decide +kernel
theorem dX0_tellPerson_49 : decode cX0_tellPerson 49 = .ok (.invokevirtual 72, 3) := by decide +kernel
theorem dX0_tellPerson_52 : decode cX0_tellPerson 52 = .ok (.iadd, 1) := by decide +kernel
theorem dX0_tellPerson_53 : decode cX0_tellPerson 53 = .ok (.goto 10, 3) := by decide +kernel
theorem dX0_tellPerson_56 : decode cX0_tellPerson 56 = .ok (.aload_n 0, 1) := by decide +kernel
theorem dX0_tellPerson_57 : decode cX0_tellPerson 57 = .ok (.iload_n 2, 1) := by decide +kernel
theorem dX0_tellPerson_58 : decode cX0_tellPerson 58 = .ok (.iconst 2, 1) := by decide +kernel
theorem dX0_tellPerson_59 : decode cX0_tellPerson 59 = .ok (.iadd, 1) := by decide +kernel
theorem dX0_tellPerson_60 : decode cX0_tellPerson 60 = .ok (.invokevirtual 72, 3) := by decide +kernel
theorem dX0_tellPerson_63 : decode cX0_tellPerson 63 = .ok (.istore 4, 2) := by decide +kernel
theorem dX0_tellPerson_65 : decode cX0_tellPerson 65 = .ok (.iload_n 3, 1) := by decide +kernel
theorem dX0_tellPerson_66 : decode cX0_tellPerson 66 = .ok (.ifCond .eq 9, 3) := by decide +kernel
theorem dX0_tellPerson_69 : decode cX0_tellPerson 69 = .ok (.iload_n 2, 1) := by decide +kernel
theorem dX0_tellPerson_70 : decode cX0_tellPerson 70 = .ok (.iconst 5, 1) := by decide +kernel
theorem dX0_tellPerson_71 : decode cX0_tellPerson 71 = .ok (.iadd, 1) := by decide +kernel
theorem dX0_tellPerson_72 : decode cX0_tellPerson 72 = .ok (.goto 6, 3) := by decide +kernel
theorem dX0_tellPerson_75 : decode cX0_tellPerson 75 = .ok (.iload_n 2, 1) := by decide +kernel
theorem dX0_tellPerson_76 : decode cX0_tellPerson 76 = .ok (.iconst 4, 1) := by decide +kernel
theorem dX0_tellPerson_77 : decode cX0_tellPerson 77 = .ok (.iadd, 1) := by decide +kernel
theorem dX0_tellPerson_78 : decode cX0_tellPerson 78 = .ok (.istore 5, 2) := by decide +kernel
theorem dX0_tellPerson_80 : decode cX0_tellPerson 80 = .ok (.aload_n 1, 1) := by decide +kernel
theorem dX0_tellPerson_81 : decode cX0_tellPerson 81 = .ok (.aload_n 1, 1) := by decide +kernel
theorem dX0_tellPerson_82 : decode cX0_tellPerson 82 = .ok (.getfield 67, 3) := by decide +kernel
theorem dX0_tellPerson_85 : decode cX0_tellPerson 85 = .ok (.iconst 0, 1) := by decide +kernel
theorem dX0_tellPerson_86 : decode cX0_tellPerson 86 = .ok (.aload_n 0, 1) := by decide +kernel
theorem dX0_tellPerson_87 : decode cX0_tellPerson 87 = .ok (.iload_n 2, 1) := by decide +kernel
theorem dX0_tellPerson_88 : decode cX0_tellPerson 88 = .ok (.iconst 1, 1) := by decide +kernel
theorem dX0_tellPerson_89 : decode cX0_tellPerson 89 = .ok (.iadd, 1) := by decide +kernel
theorem dX0_tellPerson_90 : decode cX0_tellPerson 90 = .ok (.invokevirtual 72, 3) := by decide +kernel
theorem dX0_tellPerson_93 : decode cX0_tellPerson 93 = .ok (.invokevirtual 75, 3) := by decide +kernel
theorem dX0_tellPerson_96 : decode cX0_tellPerson 96 = .ok (.aload_n 1, 1) := by decide +kernel
theorem dX0_tellPerson_97 : decode cX0_tellPerson 97 = .ok (.aload_n 1, 1) := by decide +kernel
theorem dX0_tellPerson_98 : decode cX0_tellPerson 98 = .ok (.getfield 67, 3) := by decide +kernel
theorem dX0_tellPerson_101 : decode cX0_tellPerson 101 = .ok (.iconst 1, 1) := by decide +kernel
theorem dX0_tellPerson_102 : decode cX0_tellPerson 102 = .ok (.iload 4, 2) := by decide +kernel
theorem dX0_tellPerson_104 : decode cX0_tellPerson 104 = .ok (.invokevirtual 75, 3) := by decide +kernel
theorem dX0_tellPerson_107 : decode cX0_tellPerson 107 = .ok (.iconst 0, 1) := by decide +kernel
theorem dX0_tellPerson_108 : decode cX0_tellPerson 108 = .ok (.istore 6, 2) := by decide +kernel
theorem dX0_tellPerson_110 : decode cX0_tellPerson 110 = .ok (.iload 6, 2) := by decide +kernel
theorem dX0_tellPerson_112 : decode cX0_tellPerson 112 = .ok (.iconst 4, 1) := by decide +kernel
theorem dX0_tellPerson_113 : decode cX0_tellPerson 113 = .ok (.if_icmp .ge 30, 3) := by decide +kernel
theorem dX0_tellPerson_116 : decode cX0_tellPerson 116 = .ok (.aload_n 1, 1) := by decide +kernel
theorem dX0_tellPerson_117 : decode cX0_tellPerson 117 = .ok (.aload_n 1, 1) := by decide +kernel
theorem dX0_tellPerson_118 : decode cX0_tellPerson 118 = .ok (.getfield 67, 3) := by decide +kernel
theorem dX0_tellPerson_121 : decode cX0_tellPerson 121 = .ok (.iconst 2, 1) := by decide +kernel
theorem dX0_tellPerson_122 : decode cX0_tellPerson 122 = .ok (.iload 6, 2) := by decide +kernel
theorem dX0_tellPerson_124 : decode cX0_tellPerson 124 = .ok (.iadd, 1) := by decide +kernel
theorem dX0_tellPerson_125 : decode cX0_tellPerson 125 = .ok (.aload_n 0, 1) := by decide +kernel
theorem dX0_tellPerson_126 : decode cX0_tellPerson 126 = .ok (.iload 5, 2) := by decide +kernel
theorem dX0_tellPerson_128 : decode cX0_tellPerson 128 = .ok (.iload 6, 2) := by decide +kernel
theorem dX0_tellPerson_130 : decode cX0_tellPerson 130 = .ok (.iadd, 1) := by decide +kernel
theorem dX0_tellPerson_131 : decode cX0_tellPerson 131 = .ok (.invokevirtual 72, 3) := by decide +kernel
theorem dX0_tellPerson_134 : decode cX0_tellPerson 134 = .ok (.invokevirtual 75, 3) := by decide +kernel
theorem dX0_tellPerson_137 : decode cX0_tellPerson 137 = .ok (.iinc 6 1, 3) := by decide +kernel
theorem dX0_tellPerson_140 : decode cX0_tellPerson 140 = .ok (.goto (-30), 3) := by decide +kernel
theorem dX0_tellPerson_143 : decode cX0_tellPerson 143 = .ok (.aload_n 1, 1) := by decide +kernel
theorem dX0_tellPerson_144 : decode cX0_tellPerson 144 = .ok (.dup, 1) := by decide +kernel
theorem dX0_tellPerson_145 : decode cX0_tellPerson 145 = .ok (.getfield 67, 3) := by decide +kernel
theorem dX0_tellPerson_148 : decode cX0_tellPerson 148 = .ok (.iconst 1, 1) := by decide +kernel
theorem dX0_tellPerson_149 : decode cX0_tellPerson 149 = .ok (.iadd, 1) := by decide +kernel
theorem dX0_tellPerson_150 : decode cX0_tellPerson 150 = .ok (.putfield 67, 3) := by decide +kernel
theorem dX0_tellPerson_153 : decode cX0_tellPerson 153 = .ok (.iconst 1, 1) := by decide +kernel
theorem dX0_tellPerson_154 : decode cX0_tellPerson 154 = .ok (.ireturn, 1) := by decide +kernel
set_option maxRecDepth 20000 in
theorem ggX0_tellNeed_X0_digit : GoodIn wsX0_tellNeed wsX0_digit := goodIn_r _ [6, 7, 8, 9, 5, 10, 11, 12, 13, 14, 15, 16, 36, 37] rfl (by decide +kernel)
set_option maxRecDepth 20000 in
theorem gX0_tellNeed_X0_digit : GoodIn wsX0_tellNeed (wsV RX0 72 RX0 yX0_digit wsX0_digit) := goodIn_app (goodIn_r _ [2, 3, 4, 5] rfl (by decide +kernel)) ggX0_tellNeed_X0_digit
set_option maxRecDepth 20000 in
theorem ggX0_tellNeed_X2_hasPerson : GoodIn wsX0_tellNeed wsX2_hasPerson := goodIn_r _ [21, 22, 28, 29, 30, 31, 32, 33, 34, 35] rfl (by decide +kernel)
set_option maxRecDepth 20000 in
theorem gX0_tellNeed_X2_hasPerson : GoodIn wsX0_tellNeed (wsV RX0 79 RX2 yX2_hasPerson wsX2_hasPerson) := goodIn_app (goodIn_r _ [17, 18, 19, 20] rfl (by decide +kernel)) ggX0_tellNeed_X2_hasPerson
set_option maxRecDepth 20000 in
theorem ggX0_tellNeed_X2_putNeed : GoodIn wsX0_tellNeed wsX2_putNeed := goodIn_r _ [26, 27, 28, 29, 30, 31, 32, 33, 34, 35] rfl (by decide +kernel)
set_option maxRecDepth 20000 in
theorem gX0_tellNeed_X2_putNeed : GoodIn wsX0_tellNeed (wsV RX0 85 RX2 yX2_putNeed wsX2_putNeed) := goodIn_app (goodIn_r _ [23, 24, 25, 20] rfl (by decide +kernel)) ggX0_tellNeed_X2_putNeed
theorem dX0_tellNeed_0 : decode cX0_tellNeed 0 = .ok (.aload_n 0, 1) := by decide +kernel
theorem dX0_tellNeed_1 : decode cX0_tellNeed 1 = .ok (.iload_n 2, 1) := by decide +kernel
theorem dX0_tellNeed_2 : decode cX0_tellNeed 2 = .ok (.iconst 4, 1) := by decide +kernel
theorem dX0_tellNeed_3 : decode cX0_tellNeed 3 = .ok (.iadd, 1) := by decide +kernel
theorem dX0_tellNeed_4 : decode cX0_tellNeed 4 = .ok (.invokevirtual 72, 3) := by decide +kernel
theorem dX0_tellNeed_7 : decode cX0_tellNeed 7 = .ok (.istore_n 3, 1) := by decide +kernel
theorem dX0_tellNeed_8 : decode cX0_tellNeed 8 = .ok (.aload_n 1, 1) := by decide +kernel
theorem dX0_tellNeed_9 : decode cX0_tellNeed 9 = .ok (.aload_n 0, 1) := by decide +kernel
theorem dX0_tellNeed_10 : decode cX0_tellNeed 10 = .ok (.iload_n 2, 1) := by decide +kernel
theorem dX0_tellNeed_11 : decode cX0_tellNeed 11 = .ok (.iconst 1, 1) := by decide +kernel
theorem dX0_tellNeed_12 : decode cX0_tellNeed 12 = .ok (.iadd, 1) := by decide +kernel
theorem dX0_tellNeed_13 : decode cX0_tellNeed 13 = .ok (.invokevirtual 72, 3) := by decide +kernel
theorem dX0_tellNeed_16 : decode cX0_tellNeed 16 = .ok (.invokevirtual 79, 3) := by decide +kernel
theorem dX0_tellNeed_19 : decode cX0_tellNeed 19 = .ok (.ifCond .eq 18, 3) := by decide +kernel
theorem dX0_tellNeed_22 : decode cX0_tellNeed 22 = .ok (.aload_n 0, 1) := by decide +kernel
theorem dX0_tellNeed_23 : decode cX0_tellNeed 23 = .ok (.iload_n 2, 1) := by decide +kernel
theorem dX0_tellNeed_24 : decode cX0_tellNeed 24 = .ok (.iconst 2, 1) := by decide +kernel
theorem dX0_tellNeed_25 : decode cX0_tellNeed 25 = .ok (.iadd, 1) := by decide +kernel
theorem dX0_tellNeed_26 : decode cX0_tellNeed 26 = .ok (.invokevirtual 72, 3) := by decide +kernel
theorem dX0_tellNeed_29 : decode cX0_tellNeed 29 = .ok (.iconst 4, 1) := by decide +kernel
theorem dX0_tellNeed_30 : decode cX0_tellNeed 30 = .ok (.if_icmp .ge 7, 3) := by decide +kernel
theorem dX0_tellNeed_33 : decode cX0_tellNeed 33 = .ok (.iconst 1, 1) := by decide +kernel
theorem dX0_tellNeed_34 : decode cX0_tellNeed 34 = .ok (.goto 4, 3) := by decide +kernel
theorem dX0_tellNeed_37 : decode cX0_tellNeed 37 = .ok (.iconst 0, 1) := by decide +kernel
theorem dX0_tellNeed_38 : decode cX0_tellNeed 38 = .ok (.istore 4, 2) := by decide +kernel
theorem dX0_tellNeed_40 : decode cX0_tellNeed 40 = .ok (.aload_n 1, 1) := by decide +kernel
theorem dX0_tellNeed_41 : decode cX0_tellNeed 41 = .ok (.getfield 82, 3) := by decide +kernel
theorem dX0_tellNeed_44 : decode cX0_tellNeed 44 = .ok (.bipush 12, 2) := by decide +kernel
theorem dX0_tellNeed_46 : decode cX0_tellNeed 46 = .ok (.if_icmp .ge 29, 3) := by decide +kernel
theorem dX0_tellNeed_49 : decode cX0_tellNeed 49 = .ok (.iload 4, 2) := by decide +kernel
theorem dX0_tellNeed_51 : decode cX0_tellNeed 51 = .ok (.ifCond .eq 24, 3) := by decide +kernel
theorem dX0_tellNeed_54 : decode cX0_tellNeed 54 = .ok (.aload_n 0, 1) := by decide +kernel
theorem dX0_tellNeed_55 : decode cX0_tellNeed 55 = .ok (.iload_n 2, 1) := by decide +kernel
theorem dX0_tellNeed_56 : decode cX0_tellNeed 56 = .ok (.iconst 3, 1) := by decide +kernel
theorem dX0_tellNeed_57 : decode cX0_tellNeed 57 = .ok (.iadd, 1) := by decide +kernel
theorem dX0_tellNeed_58 : decode cX0_tellNeed 58 = .ok (.invokevirtual 72, 3) := by decide +kernel
theorem dX0_tellNeed_61 : decode cX0_tellNeed 61 = .ok (.iconst 1, 1) := by decide +kernel
theorem dX0_tellNeed_62 : decode cX0_tellNeed 62 = .ok (.if_icmp .lt 13, 3) := by decide +kernel
theorem dX0_tellNeed_65 : decode cX0_tellNeed 65 = .ok (.iload_n 3, 1) := by decide +kernel
theorem dX0_tellNeed_66 : decode cX0_tellNeed 66 = .ok (.iconst 1, 1) := by decide +kernel
theorem dX0_tellNeed_67 : decode cX0_tellNeed 67 = .ok (.if_icmp .lt 8, 3) := by decide +kernel
theorem dX0_tellNeed_70 : decode cX0_tellNeed 70 = .ok (.iload_n 3, 1) := by decide +kernel
theorem dX0_tellNeed_71 : decode cX0_tellNeed 71 = .ok (.iconst 3, 1) := by decide +kernel
theorem dX0_tellNeed_72 : decode cX0_tellNeed 72 = .ok (.if_icmp .le 5, 3) := by decide +kernel
theorem dX0_tellNeed_75 : decode cX0_tellNeed 75 = .ok (.iconst 0, 1) := by decide +kernel
theorem dX0_tellNeed_76 : decode cX0_tellNeed 76 = .ok (.ireturn, 1) := by decide +kernel
theorem dX0_tellNeed_77 : decode cX0_tellNeed 77 = .ok (.iconst 0, 1) := by decide +kernel
theorem dX0_tellNeed_78 : decode cX0_tellNeed 78 = .ok (.istore 5, 2) := by decide +kernel
theorem dX0_tellNeed_80 : decode cX0_tellNeed 80 = .ok (.iload 5, 2) := by decide +kernel
theorem dX0_tellNeed_82 : decode cX0_tellNeed 82 = .ok (.iconst 4, 1) := by decide +kernel
theorem dX0_tellNeed_83 : decode cX0_tellNeed 83 = .ok (.if_icmp .gt 29, 3) := by decide +kernel
theorem dX0_tellNeed_86 : decode cX0_tellNeed 86 = .ok (.aload_n 1, 1) := by decide +kernel
theorem dX0_tellNeed_87 : decode cX0_tellNeed 87 = .ok (.aload_n 1, 1) := by decide +kernel
theorem dX0_tellNeed_88 : decode cX0_tellNeed 88 = .ok (.getfield 82, 3) := by decide +kernel
theorem dX0_tellNeed_91 : decode cX0_tellNeed 91 = .ok (.iload 5, 2) := by decide +kernel
theorem dX0_tellNeed_93 : decode cX0_tellNeed 93 = .ok (.aload_n 0, 1) := by decide +kernel
theorem dX0_tellNeed_94 : decode cX0_tellNeed 94 = .ok (.iload_n 2, 1) := by decide +kernel
theorem dX0_tellNeed_95 : decode cX0_tellNeed 95 = .ok (.iconst 1, 1) := by decide +kernel
theorem dX0_tellNeed_96 : decode cX0_tellNeed 96 = .ok (.iadd, 1) := by decide +kernel
theorem dX0_tellNeed_97 : decode cX0_tellNeed 97 = .ok (.iload 5, 2) := by decide +kernel
theorem dX0_tellNeed_99 : decode cX0_tellNeed 99 = .ok (.iadd, 1) := by decide +kernel
theorem dX0_tellNeed_100 : decode cX0_tellNeed 100 = .ok (.invokevirtual 72, 3) := by decide +kernel
theorem dX0_tellNeed_103 : decode cX0_tellNeed 103 = .ok (.invokevirtual 85, 3) := by decide +kernel
theorem dX0_tellNeed_106 : decode cX0_tellNeed 106 = .ok (.iinc 5 1, 3) := by decide +kernel
theorem dX0_tellNeed_109 : decode cX0_tellNeed 109 = .ok (.goto (-29), 3) := by decide +kernel
theorem dX0_tellNeed_112 : decode cX0_tellNeed 112 = .ok (.aload_n 1, 1) := by decide +kernel
theorem dX0_tellNeed_113 : decode cX0_tellNeed 113 = .ok (.aload_n 1, 1) := by decide +kernel
theorem dX0_tellNeed_114 : decode cX0_tellNeed 114 = .ok (.getfield 82, 3) := by decide +kernel
theorem dX0_tellNeed_117 : decode cX0_tellNeed 117 = .ok (.iconst 5, 1) := by decide +kernel
theorem dX0_tellNeed_118 : decode cX0_tellNeed 118 = .ok (.iconst 0, 1) := by decide +kernel
theorem dX0_tellNeed_119 : decode cX0_tellNeed 119 = .ok (.invokevirtual 85, 3) := by decide +kernel
theorem dX0_tellNeed_122 : decode cX0_tellNeed 122 = .ok (.aload_n 1, 1) := by decide +kernel
theorem dX0_tellNeed_123 : decode cX0_tellNeed 123 = .ok (.dup, 1) := by decide +kernel
theorem dX0_tellNeed_124 : decode cX0_tellNeed 124 = .ok (.getfield 82, 3) := by decide +kernel
theorem dX0_tellNeed_127 : decode cX0_tellNeed 127 = .ok (.iconst 1, 1) := by decide +kernel
theorem dX0_tellNeed_128 : decode cX0_tellNeed 128 = .ok (.iadd, 1) := by decide +kernel
theorem dX0_tellNeed_129 : decode cX0_tellNeed 129 = .ok (.putfield 82, 3) := by decide +kernel
theorem dX0_tellNeed_132 : decode cX0_tellNeed 132 = .ok (.iconst 1, 1) := by decide +kernel
theorem dX0_tellNeed_133 : decode cX0_tellNeed 133 = .ok (.ireturn, 1) := by decide +kernel
set_option maxRecDepth 20000 in
theorem ggX0_tellLaw_X0_digit : GoodIn wsX0_tellLaw wsX0_digit := goodIn_r _ [5, 6, 7, 8, 4, 9, 10, 11, 12, 13, 14, 15, 27, 28] rfl (by decide +kernel)
set_option maxRecDepth 20000 in
theorem gX0_tellLaw_X0_digit : GoodIn wsX0_tellLaw (wsV RX0 72 RX0 yX0_digit wsX0_digit) := goodIn_app (goodIn_r _ [1, 2, 3, 4] rfl (by decide +kernel)) ggX0_tellLaw_X0_digit
set_option maxRecDepth 20000 in
theorem ggX0_tellLaw_X3_leastSetting : GoodIn wsX0_tellLaw wsX3_leastSetting := goodIn_r _ [18] rfl (by decide +kernel)
set_option maxRecDepth 20000 in
theorem gX0_tellLaw_X3_leastSetting_n88 : GoodIn wsX0_tellLaw (wsX3_leastSetting) := ggX0_tellLaw_X3_leastSetting
set_option maxRecDepth 20000 in
theorem ggX0_tellLaw_X3_greatestSetting : GoodIn wsX0_tellLaw wsX3_greatestSetting := goodIn_r _ [20] rfl (by decide +kernel)
set_option maxRecDepth 20000 in
theorem gX0_tellLaw_X3_greatestSetting_n91 : GoodIn wsX0_tellLaw (wsX3_greatestSetting) := ggX0_tellLaw_X3_greatestSetting
set_option maxRecDepth 20000 in
theorem ggX0_tellLaw_X2_settle : GoodIn wsX0_tellLaw wsX2_settle := goodIn_r _ [25, 26, 29, 30, 31, 32, 33, 34, 35, 36] rfl (by decide +kernel)
set_option maxRecDepth 20000 in
theorem gX0_tellLaw_X2_settle : GoodIn wsX0_tellLaw (wsV RX0 94 RX2 yX2_settle wsX2_settle) := goodIn_app (goodIn_r _ [21, 22, 23, 24] rfl (by decide +kernel)) ggX0_tellLaw_X2_settle
theorem dX0_tellLaw_0 : decode cX0_tellLaw 0 = .ok (.iconst 0, 1) := by decide +kernel
theorem dX0_tellLaw_1 : decode cX0_tellLaw 1 = .ok (.istore_n 3, 1) := by decide +kernel
theorem dX0_tellLaw_2 : decode cX0_tellLaw 2 = .ok (.iload_n 3, 1) := by decide +kernel
theorem dX0_tellLaw_3 : decode cX0_tellLaw 3 = .ok (.iconst 2, 1) := by decide +kernel
theorem dX0_tellLaw_4 : decode cX0_tellLaw 4 = .ok (.if_icmp .gt 40, 3) := by decide +kernel
theorem dX0_tellLaw_7 : decode cX0_tellLaw 7 = .ok (.aload_n 0, 1) := by decide +kernel
theorem dX0_tellLaw_8 : decode cX0_tellLaw 8 = .ok (.iload_n 2, 1) := by decide +kernel
theorem dX0_tellLaw_9 : decode cX0_tellLaw 9 = .ok (.iconst 1, 1) := by decide +kernel
theorem dX0_tellLaw_10 : decode cX0_tellLaw 10 = .ok (.iadd, 1) := by decide +kernel
theorem dX0_tellLaw_11 : decode cX0_tellLaw 11 = .ok (.iload_n 3, 1) := by decide +kernel
theorem dX0_tellLaw_12 : decode cX0_tellLaw 12 = .ok (.iadd, 1) := by decide +kernel
theorem dX0_tellLaw_13 : decode cX0_tellLaw 13 = .ok (.invokevirtual 72, 3) := by decide +kernel
theorem dX0_tellLaw_16 : decode cX0_tellLaw 16 = .ok (.istore 4, 2) := by decide +kernel
theorem dX0_tellLaw_18 : decode cX0_tellLaw 18 = .ok (.iload 4, 2) := by decide +kernel
theorem dX0_tellLaw_20 : decode cX0_tellLaw 20 = .ok (.iload_n 3, 1) := by decide +kernel
theorem dX0_tellLaw_21 : decode cX0_tellLaw 21 = .ok (.invokestatic 88, 3) := by decide +kernel
theorem dX0_tellLaw_24 : decode cX0_tellLaw 24 = .ok (.if_icmp .lt 12, 3) := by decide +kernel
theorem dX0_tellLaw_27 : decode cX0_tellLaw 27 = .ok (.iload 4, 2) := by decide +kernel
theorem dX0_tellLaw_29 : decode cX0_tellLaw 29 = .ok (.iload_n 3, 1) := by decide +kernel
theorem dX0_tellLaw_30 : decode cX0_tellLaw 30 = .ok (.invokestatic 91, 3) := by decide +kernel
theorem dX0_tellLaw_33 : decode cX0_tellLaw 33 = .ok (.if_icmp .le 5, 3) := by decide +kernel
theorem dX0_tellLaw_36 : decode cX0_tellLaw 36 = .ok (.iconst 0, 1) := by decide +kernel
theorem dX0_tellLaw_37 : decode cX0_tellLaw 37 = .ok (.ireturn, 1) := by decide +kernel
theorem dX0_tellLaw_38 : decode cX0_tellLaw 38 = .ok (.iinc 3 1, 3) := by decide +kernel
theorem dX0_tellLaw_41 : decode cX0_tellLaw 41 = .ok (.goto (-39), 3) := by decide +kernel
theorem dX0_tellLaw_44 : decode cX0_tellLaw 44 = .ok (.iconst 0, 1) := by decide +kernel
theorem dX0_tellLaw_45 : decode cX0_tellLaw 45 = .ok (.istore_n 3, 1) := by decide +kernel
theorem dX0_tellLaw_46 : decode cX0_tellLaw 46 = .ok (.iload_n 3, 1) := by decide +kernel
theorem dX0_tellLaw_47 : decode cX0_tellLaw 47 = .ok (.iconst 2, 1) := by decide +kernel
theorem dX0_tellLaw_48 : decode cX0_tellLaw 48 = .ok (.if_icmp .gt 23, 3) := by decide +kernel
theorem dX0_tellLaw_51 : decode cX0_tellLaw 51 = .ok (.aload_n 1, 1) := by decide +kernel
theorem dX0_tellLaw_52 : decode cX0_tellLaw 52 = .ok (.iload_n 3, 1) := by decide +kernel
theorem dX0_tellLaw_53 : decode cX0_tellLaw 53 = .ok (.aload_n 0, 1) := by decide +kernel
theorem dX0_tellLaw_54 : decode cX0_tellLaw 54 = .ok (.iload_n 2, 1) := by decide +kernel
theorem dX0_tellLaw_55 : decode cX0_tellLaw 55 = .ok (.iconst 1, 1) := by decide +kernel
theorem dX0_tellLaw_56 : decode cX0_tellLaw 56 = .ok (.iadd, 1) := by decide +kernel
theorem dX0_tellLaw_57 : decode cX0_tellLaw 57 = .ok (.iload_n 3, 1) := by decide +kernel
theorem dX0_tellLaw_58 : decode cX0_tellLaw 58 = .ok (.iadd, 1) := by decide +kernel
theorem dX0_tellLaw_59 : decode cX0_tellLaw 59 = .ok (.invokevirtual 72, 3) := by decide +kernel
theorem dX0_tellLaw_62 : decode cX0_tellLaw 62 = .ok (.invokevirtual 94, 3) := by decide +kernel
theorem dX0_tellLaw_65 : decode cX0_tellLaw 65 = .ok (.iinc 3 1, 3) := by decide +kernel
theorem dX0_tellLaw_68 : decode cX0_tellLaw 68 = .ok (.goto (-22), 3) := by decide +kernel
theorem dX0_tellLaw_71 : decode cX0_tellLaw 71 = .ok (.iconst 1, 1) := by decide +kernel
theorem dX0_tellLaw_72 : decode cX0_tellLaw 72 = .ok (.ireturn, 1) := by decide +kernel
