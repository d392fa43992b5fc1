set_option maxRecDepth 20000 in
theorem ggX3_init_X2_init : GoodIn wsX3_init wsX2_init := goodIn_r _ [22, 23, 2, 3, 18, 24, 25, 26, 27, 41, 42, 43, 44, 45, 46, 47, 48] rfl (by decide +kernel)
set_option maxRecDepth 20000 in
theorem gX3_init_X2_init_n11 : GoodIn wsX3_init (wsX2_init) := ggX3_init_X2_init
set_option maxRecDepth 20000 in
theorem ggX3_init_X1_init : GoodIn wsX3_init wsX1_init := goodIn_r _ [29, 30, 2, 3, 18, 31, 32, 33, 34, 35, 36, 58, 59, 60, 61, 62, 63, 64] rfl (by decide +kernel)
set_option maxRecDepth 20000 in
theorem gX3_init_X1_init_n24 : GoodIn wsX3_init (wsX1_init) := ggX3_init_X1_init
set_option maxRecDepth 20000 in
theorem ggX3_init_X0_init : GoodIn wsX3_init wsX0_init := goodIn_r _ [38, 39, 2, 3, 18, 40, 65, 66] rfl (by decide +kernel)
set_option maxRecDepth 20000 in
theorem gX3_init_X0_init_n31 : GoodIn wsX3_init (wsX0_init) := ggX3_init_X0_init
theorem dX3_init_0 : decode cX3_init 0 = .ok (.aload_n 0, 1) := by decide +kernel
theorem dX3_init_1 : decode cX3_init 1 = .ok (.invokespecial 3, 3) := by decide +kernel
theorem dX3_init_4 : decode cX3_init 4 = .ok (.aload_n 0, 1) := by decide +kernel
theorem dX3_init_5 : decode cX3_init 5 = .ok (.new 9, 3) := by decide +kernel
theorem dX3_init_8 : decode cX3_init 8 = .ok (.dup, 1) := by decide +kernel
theorem dX3_init_9 : decode cX3_init 9 = .ok (.invokespecial 11, 3) := by decide +kernel
theorem dX3_init_12 : decode cX3_init 12 = .ok (.putfield 12, 3) := by decide +kernel
theorem dX3_init_15 : decode cX3_init 15 = .ok (.aload_n 0, 1) := by decide +kernel
theorem dX3_init_16 : decode cX3_init 16 = .ok (.new 9, 3) := by decide +kernel
theorem dX3_init_19 : decode cX3_init 19 = .ok (.dup, 1) := by decide +kernel
theorem dX3_init_20 : decode cX3_init 20 = .ok (.invokespecial 11, 3) := by decide +kernel
theorem dX3_init_23 : decode cX3_init 23 = .ok (.putfield 16, 3) := by decide +kernel
theorem dX3_init_26 : decode cX3_init 26 = .ok (.aload_n 0, 1) := by decide +kernel
theorem dX3_init_27 : decode cX3_init 27 = .ok (.new 9, 3) := by decide +kernel
theorem dX3_init_30 : decode cX3_init 30 = .ok (.dup, 1) := by decide +kernel
theorem dX3_init_31 : decode cX3_init 31 = .ok (.invokespecial 11, 3) := by decide +kernel
theorem dX3_init_34 : decode cX3_init 34 = .ok (.putfield 19, 3) := by decide +kernel
theorem dX3_init_37 : decode cX3_init 37 = .ok (.aload_n 0, 1) := by decide +kernel
theorem dX3_init_38 : decode cX3_init 38 = .ok (.new 22, 3) := by decide +kernel
theorem dX3_init_41 : decode cX3_init 41 = .ok (.dup, 1) := by decide +kernel
theorem dX3_init_42 : decode cX3_init 42 = .ok (.invokespecial 24, 3) := by decide +kernel
theorem dX3_init_45 : decode cX3_init 45 = .ok (.putfield 25, 3) := by decide +kernel
theorem dX3_init_48 : decode cX3_init 48 = .ok (.aload_n 0, 1) := by decide +kernel
theorem dX3_init_49 : decode cX3_init 49 = .ok (.new 29, 3) := by decide +kernel
theorem dX3_init_52 : decode cX3_init 52 = .ok (.dup, 1) := by decide +kernel
theorem dX3_init_53 : decode cX3_init 53 = .ok (.invokespecial 31, 3) := by decide +kernel
theorem dX3_init_56 : decode cX3_init 56 = .ok (.putfield 32, 3) := by decide +kernel
theorem dX3_init_59 : decode cX3_init 59 = .ok (.aload_n 0, 1) := by decide +kernel
theorem dX3_init_60 : decode cX3_init 60 = .ok (.bipush 10, 2) := by decide +kernel
theorem dX3_init_62 : decode cX3_init 62 = .ok (.newarray .int, 2) := by decide +kernel
theorem dX3_init_64 : decode cX3_init 64 = .ok (.putfield 36, 3) := by decide +kernel
theorem dX3_init_67 : decode cX3_init 67 = .ok (.aload_n 0, 1) := by decide +kernel
theorem dX3_init_68 : decode cX3_init 68 = .ok (.bipush 7, 2) := by decide +kernel
theorem dX3_init_70 : decode cX3_init 70 = .ok (.newarray .int, 2) := by decide +kernel
theorem dX3_init_72 : decode cX3_init 72 = .ok (.putfield 40, 3) := by decide +kernel
theorem dX3_init_75 : decode cX3_init 75 = .ok (.return_, 1) := by decide +kernel
set_option maxRecDepth 20000 in
theorem ggX3_feed_X3_refuse : GoodIn wsX3_feed wsX3_refuse := goodIn_r _ [6, 7, 19, 20, 21, 22, 23, 24, 25, 26, 27] rfl (by decide +kernel)
set_option maxRecDepth 20000 in
theorem gX3_feed_X3_refuse : GoodIn wsX3_feed (wsV RX3 43 RX3 yX3_refuse wsX3_refuse) := goodIn_app (goodIn_r _ [2, 3, 4, 5] rfl (by decide +kernel)) ggX3_feed_X3_refuse
set_option maxRecDepth 20000 in
theorem ggX3_feed_X0_isFull : GoodIn wsX3_feed wsX0_isFull := goodIn_r _ [12, 13, 14, 28, 29] rfl (by decide +kernel)
set_option maxRecDepth 20000 in
theorem gX3_feed_X0_isFull : GoodIn wsX3_feed (wsV RX3 47 RX0 yX0_isFull wsX0_isFull) := goodIn_app (goodIn_r _ [8, 9, 10, 11] rfl (by decide +kernel)) ggX3_feed_X0_isFull
set_option maxRecDepth 20000 in
theorem ggX3_feed_X0_take : GoodIn wsX3_feed wsX0_take := goodIn_r _ [18, 13, 14, 28, 29] rfl (by decide +kernel)
set_option maxRecDepth 20000 in
theorem gX3_feed_X0_take : GoodIn wsX3_feed (wsV RX3 51 RX0 yX0_take wsX0_take) := goodIn_app (goodIn_r _ [15, 16, 17, 11] rfl (by decide +kernel)) ggX3_feed_X0_take
theorem dX3_feed_0 : decode cX3_feed 0 = .ok (.iload_n 1, 1) := by decide +kernel
theorem dX3_feed_1 : decode cX3_feed 1 = .ok (.ifCond .ge 10, 3) := by decide +kernel
theorem dX3_feed_4 : decode cX3_feed 4 = .ok (.aload_n 0, 1) := by decide +kernel
theorem dX3_feed_5 : decode cX3_feed 5 = .ok (.bipush (-4), 2) := by decide +kernel
theorem dX3_feed_7 : decode cX3_feed 7 = .ok (.invokevirtual 43, 3) := by decide +kernel
theorem dX3_feed_10 : decode cX3_feed 10 = .ok (.ireturn, 1) := by decide +kernel
theorem dX3_feed_11 : decode cX3_feed 11 = .ok (.iload_n 1, 1) := by decide +kernel
theorem dX3_feed_12 : decode cX3_feed 12 = .ok (.sipush 255, 3) := by decide +kernel
theorem dX3_feed_15 : decode cX3_feed 15 = .ok (.if_icmp .gt 13, 3) := by decide +kernel
theorem dX3_feed_18 : decode cX3_feed 18 = .ok (.aload_n 0, 1) := by decide +kernel
theorem dX3_feed_19 : decode cX3_feed 19 = .ok (.getfield 32, 3) := by decide +kernel
theorem dX3_feed_22 : decode cX3_feed 22 = .ok (.invokevirtual 47, 3) := by decide +kernel
theorem dX3_feed_25 : decode cX3_feed 25 = .ok (.ifCond .eq 10, 3) := by decide +kernel
theorem dX3_feed_28 : decode cX3_feed 28 = .ok (.aload_n 0, 1) := by decide +kernel
theorem dX3_feed_29 : decode cX3_feed 29 = .ok (.bipush (-6), 2) := by decide +kernel
theorem dX3_feed_31 : decode cX3_feed 31 = .ok (.invokevirtual 43, 3) := by decide +kernel
theorem dX3_feed_34 : decode cX3_feed 34 = .ok (.ireturn, 1) := by decide +kernel
theorem dX3_feed_35 : decode cX3_feed 35 = .ok (.aload_n 0, 1) := by decide +kernel
theorem dX3_feed_36 : decode cX3_feed 36 = .ok (.getfield 32, 3) := by decide +kernel
theorem dX3_feed_39 : decode cX3_feed 39 = .ok (.iload_n 1, 1) := by decide +kernel
theorem dX3_feed_40 : decode cX3_feed 40 = .ok (.invokevirtual 51, 3) := by decide +kernel
theorem dX3_feed_43 : decode cX3_feed 43 = .ok (.ireturn, 1) := by decide +kernel
set_option maxRecDepth 20000 in
theorem ggX3_town_X0_fault : GoodIn wsX3_town wsX0_fault := goodIn_r _ [8, 9, 10, 11, 12, 7, 13, 14, 15, 16, 17, 18, 19, 20, 21, 22, 23, 24, 25, 26, 27, 28, 29, 30, 31, 32, 33, 34, 35, 36, 37, 38, 39, 40, 41, 42, 43, 44, 45, 46, 47, 48, 49, 50, 51, 52, 53, 54, 55, 56, 57, 58, 59, 60, 61, 62, 63, 64, 65, 66, 67, 68, 69, 70, 71, 72, 73, 74, 75, 160, 161] rfl (by decide +kernel)
set_option maxRecDepth 20000 in
theorem gX3_town_X0_fault : GoodIn wsX3_town (wsV RX3 54 RX0 yX0_fault wsX0_fault) := goodIn_app (goodIn_r _ [4, 5, 6, 7] rfl (by decide +kernel)) ggX3_town_X0_fault
set_option maxRecDepth 20000 in
theorem ggX3_town_X2_copyFrom : GoodIn wsX3_town wsX2_copyFrom := goodIn_r _ [80, 81, 82, 83, 84, 85, 86, 87, 88, 89, 90, 91, 92, 93, 94, 95, 96, 97, 98, 99, 162, 163, 164, 165, 166, 167, 168, 169] rfl (by decide +kernel)
set_option maxRecDepth 20000 in
theorem gX3_town_X2_copyFrom : GoodIn wsX3_town (wsV RX3 58 RX2 yX2_copyFrom wsX2_copyFrom) := goodIn_app (goodIn_r _ [76, 77, 78, 79] rfl (by decide +kernel)) ggX3_town_X2_copyFrom
set_option maxRecDepth 20000 in
theorem ggX3_town_X0_tell : GoodIn wsX3_town wsX0_tell := goodIn_r _ [103, 9, 104, 105, 106, 7, 107, 14, 15, 16, 17, 18, 108, 109, 110, 111, 112, 113, 114, 115, 116, 19, 20, 21, 22, 117, 118, 119, 79, 120, 81, 121, 122, 123, 124, 125, 126, 127, 128, 129, 86, 130, 131, 132, 133, 87, 134, 135, 136, 137, 138, 139, 140, 141, 142, 143, 144, 145, 146, 98, 10, 11, 12, 13, 29, 30, 31, 26, 32, 28, 33, 34, 35, 36, 37, 38, 160, 161, 162, 163, 164, 165, 166, 167, 168, 169] rfl (by decide +kernel)
set_option maxRecDepth 20000 in
theorem gX3_town_X0_tell : GoodIn wsX3_town (wsV RX3 62 RX0 yX0_tell wsX0_tell) := goodIn_app (goodIn_r _ [100, 101, 102, 7] rfl (by decide +kernel)) ggX3_town_X0_tell
set_option maxRecDepth 20000 in
theorem ggX3_town_X0_forget : GoodIn wsX3_town wsX0_forget := goodIn_r _ [150, 9, 160, 161] rfl (by decide +kernel)
set_option maxRecDepth 20000 in
theorem gX3_town_X0_forget : GoodIn wsX3_town (wsV RX3 66 RX0 yX0_forget wsX0_forget) := goodIn_app (goodIn_r _ [147, 148, 149, 7] rfl (by decide +kernel)) ggX3_town_X0_forget
theorem dX3_town_0 : decode cX3_town 0 = .ok (.aload_n 0, 1) := by decide +kernel
theorem dX3_town_1 : decode cX3_town 1 = .ok (.getfield 32, 3) := by decide +kernel
theorem dX3_town_4 : decode cX3_town 4 = .ok (.invokevirtual 54, 3) := by decide +kernel
theorem dX3_town_7 : decode cX3_town 7 = .ok (.istore_n 1, 1) := by decide +kernel
theorem dX3_town_8 : decode cX3_town 8 = .ok (.iload_n 1, 1) := by decide +kernel
theorem dX3_town_9 : decode cX3_town 9 = .ok (.ifCond .ne 26, 3) := by decide +kernel
theorem dX3_town_12 : decode cX3_town 12 = .ok (.aload_n 0, 1) := by decide +kernel
theorem dX3_town_13 : decode cX3_town 13 = .ok (.getfield 16, 3) := by decide +kernel
theorem dX3_town_16 : decode cX3_town 16 = .ok (.aload_n 0, 1) := by decide +kernel
theorem dX3_town_17 : decode cX3_town 17 = .ok (.getfield 12, 3) := by decide +kernel
theorem dX3_town_20 : decode cX3_town 20 = .ok (.invokevirtual 58, 3) := by decide +kernel
theorem dX3_town_23 : decode cX3_town 23 = .ok (.aload_n 0, 1) := by decide +kernel
theorem dX3_town_24 : decode cX3_town 24 = .ok (.getfield 32, 3) := by decide +kernel
theorem dX3_town_27 : decode cX3_town 27 = .ok (.aload_n 0, 1) := by decide +kernel
theorem dX3_town_28 : decode cX3_town 28 = .ok (.getfield 16, 3) := by decide +kernel
theorem dX3_town_31 : decode cX3_town 31 = .ok (.invokevirtual 62, 3) := by decide +kernel
theorem dX3_town_34 : decode cX3_town 34 = .ok (.istore_n 1, 1) := by decide +kernel
theorem dX3_town_35 : decode cX3_town 35 = .ok (.aload_n 0, 1) := by decide +kernel
theorem dX3_town_36 : decode cX3_town 36 = .ok (.getfield 32, 3) := by decide +kernel
theorem dX3_town_39 : decode cX3_town 39 = .ok (.invokevirtual 66, 3) := by decide +kernel
theorem dX3_town_42 : decode cX3_town 42 = .ok (.iload_n 1, 1) := by decide +kernel
theorem dX3_town_43 : decode cX3_town 43 = .ok (.ifCond .ge 5, 3) := by decide +kernel
theorem dX3_town_46 : decode cX3_town 46 = .ok (.iload_n 1, 1) := by decide +kernel
theorem dX3_town_47 : decode cX3_town 47 = .ok (.ireturn, 1) := by decide +kernel
theorem dX3_town_48 : decode cX3_town 48 = .ok (.aload_n 0, 1) := by decide +kernel
theorem dX3_town_49 : decode cX3_town 49 = .ok (.getfield 12, 3) := by decide +kernel
theorem dX3_town_52 : decode cX3_town 52 = .ok (.aload_n 0, 1) := by decide +kernel
theorem dX3_town_53 : decode cX3_town 53 = .ok (.getfield 16, 3) := by decide +kernel
theorem dX3_town_56 : decode cX3_town 56 = .ok (.invokevirtual 58, 3) := by decide +kernel
theorem dX3_town_59 : decode cX3_town 59 = .ok (.iload_n 1, 1) := by decide +kernel
theorem dX3_town_60 : decode cX3_town 60 = .ok (.ireturn, 1) := by decide +kernel
set_option maxRecDepth 20000 in
theorem ggX3_person_X2_hasPerson : GoodIn wsX3_person wsX2_hasPerson := goodIn_r _ [6, 7, 28, 29, 30, 31, 32, 33, 34, 35] rfl (by decide +kernel)
set_option maxRecDepth 20000 in
theorem gX3_person_X2_hasPerson : GoodIn wsX3_person (wsV RX3 69 RX2 yX2_hasPerson wsX2_hasPerson) := goodIn_app (goodIn_r _ [2, 3, 4, 5] rfl (by decide +kernel)) ggX3_person_X2_hasPerson
set_option maxRecDepth 20000 in
theorem ggX3_person_X3_refuse : GoodIn wsX3_person wsX3_refuse := goodIn_r _ [12, 13, 19, 20, 21, 22, 23, 24, 25, 26, 27] rfl (by decide +kernel)
set_option maxRecDepth 20000 in
theorem gX3_person_X3_refuse : GoodIn wsX3_person (wsV RX3 43 RX3 yX3_refuse wsX3_refuse) := goodIn_app (goodIn_r _ [8, 9, 10, 11] rfl (by decide +kernel)) ggX3_person_X3_refuse
set_option maxRecDepth 20000 in
theorem ggX3_person_X2_ofPerson : GoodIn wsX3_person wsX2_ofPerson := goodIn_r _ [17, 18, 28, 29, 30, 31, 32, 33, 34, 35] rfl (by decide +kernel)
set_option maxRecDepth 20000 in
theorem gX3_person_X2_ofPerson : GoodIn wsX3_person (wsV RX3 73 RX2 yX2_ofPerson wsX2_ofPerson) := goodIn_app (goodIn_r _ [14, 15, 16, 5] rfl (by decide +kernel)) ggX3_person_X2_ofPerson
theorem dX3_person_0 : decode cX3_person 0 = .ok (.aload_n 0, 1) := by decide +kernel
theorem dX3_person_1 : decode cX3_person 1 = .ok (.getfield 12, 3) := by decide +kernel
theorem dX3_person_4 : decode cX3_person 4 = .ok (.iload_n 1, 1) := by decide +kernel
theorem dX3_person_5 : decode cX3_person 5 = .ok (.invokevirtual 69, 3) := by decide +kernel
theorem dX3_person_8 : decode cX3_person 8 = .ok (.ifCond .ne 9, 3) := by decide +kernel
theorem dX3_person_11 : decode cX3_person 11 = .ok (.aload_n 0, 1) := by decide +kernel
theorem dX3_person_12 : decode cX3_person 12 = .ok (.iconst (-1), 1) := by decide +kernel
theorem dX3_person_13 : decode cX3_person 13 = .ok (.invokevirtual 43, 3) := by decide +kernel
theorem dX3_person_16 : decode cX3_person 16 = .ok (.ireturn, 1) := by decide +kernel
theorem dX3_person_17 : decode cX3_person 17 = .ok (.iload_n 2, 1) := by decide +kernel
theorem dX3_person_18 : decode cX3_person 18 = .ok (.ifCond .lt 9, 3) := by decide +kernel
theorem dX3_person_21 : decode cX3_person 21 = .ok (.iload_n 2, 1) := by decide +kernel
theorem dX3_person_22 : decode cX3_person 22 = .ok (.bipush 6, 2) := by decide +kernel
theorem dX3_person_24 : decode cX3_person 24 = .ok (.if_icmp .lt 10, 3) := by decide +kernel
theorem dX3_person_27 : decode cX3_person 27 = .ok (.aload_n 0, 1) := by decide +kernel
theorem dX3_person_28 : decode cX3_person 28 = .ok (.bipush (-2), 2) := by decide +kernel
theorem dX3_person_30 : decode cX3_person 30 = .ok (.invokevirtual 43, 3) := by decide +kernel
theorem dX3_person_33 : decode cX3_person 33 = .ok (.ireturn, 1) := by decide +kernel
theorem dX3_person_34 : decode cX3_person 34 = .ok (.aload_n 0, 1) := by decide +kernel
theorem dX3_person_35 : decode cX3_person 35 = .ok (.getfield 12, 3) := by decide +kernel
theorem dX3_person_38 : decode cX3_person 38 = .ok (.iload_n 1, 1) := by decide +kernel
theorem dX3_person_39 : decode cX3_person 39 = .ok (.iload_n 2, 1) := by decide +kernel
theorem dX3_person_40 : decode cX3_person 40 = .ok (.invokevirtual 73, 3) := by decide +kernel
theorem dX3_person_43 : decode cX3_person 43 = .ok (.ireturn, 1) := by decide +kernel
set_option maxRecDepth 20000 in
theorem ggX3_need_X2_hasNeed : GoodIn wsX3_need wsX2_hasNeed := goodIn_r _ [6, 7, 40, 41, 42, 43, 44, 45, 46, 47] rfl (by decide +kernel)
set_option maxRecDepth 20000 in
theorem gX3_need_X2_hasNeed : GoodIn wsX3_need (wsV RX3 77 RX2 yX2_hasNeed wsX2_hasNeed) := goodIn_app (goodIn_r _ [2, 3, 4, 5] rfl (by decide +kernel)) ggX3_need_X2_hasNeed
set_option maxRecDepth 20000 in
theorem ggX3_need_X3_refuse : GoodIn wsX3_need wsX3_refuse := goodIn_r _ [12, 13, 31, 32, 33, 34, 35, 36, 37, 38, 39] rfl (by decide +kernel)
set_option maxRecDepth 20000 in
theorem gX3_need_X3_refuse : GoodIn wsX3_need (wsV RX3 43 RX3 yX3_refuse wsX3_refuse) := goodIn_app (goodIn_r _ [8, 9, 10, 11] rfl (by decide +kernel)) ggX3_need_X3_refuse
set_option maxRecDepth 20000 in
theorem ggX3_need_X2_ofNeed : GoodIn wsX3_need wsX2_ofNeed := goodIn_r _ [17, 18, 40, 41, 42, 43, 44, 45, 46, 47] rfl (by decide +kernel)
set_option maxRecDepth 20000 in
theorem gX3_need_X2_ofNeed : GoodIn wsX3_need (wsV RX3 80 RX2 yX2_ofNeed wsX2_ofNeed) := goodIn_app (goodIn_r _ [14, 15, 16, 5] rfl (by decide +kernel)) ggX3_need_X2_ofNeed
set_option maxRecDepth 20000 in
theorem ggX3_need_X2_handsLeft : GoodIn wsX3_need wsX2_handsLeft := goodIn_r _ [22, 23, 15, 16, 5, 17, 18, 24, 25, 26, 27, 28, 29, 30, 40, 41, 42, 43, 44, 45, 46, 47] rfl (by decide +kernel)
set_option maxRecDepth 20000 in
theorem gX3_need_X2_handsLeft : GoodIn wsX3_need (wsV RX3 83 RX2 yX2_handsLeft wsX2_handsLeft) := goodIn_app (goodIn_r _ [19, 20, 21, 5] rfl (by decide +kernel)) ggX3_need_X2_handsLeft
theorem dX3_need_0 : decode cX3_need 0 = .ok (.aload_n 0, 1) := by decide +kernel
theorem dX3_need_1 : decode cX3_need 1 = .ok (.getfield 12, 3) := by decide +kernel
theorem dX3_need_4 : decode cX3_need 4 = .ok (.iload_n 1, 1) := by decide +kernel
theorem dX3_need_5 : decode cX3_need 5 = .ok (.invokevirtual 77, 3) := by decide +kernel
theorem dX3_need_8 : decode cX3_need 8 = .ok (.ifCond .ne 9, 3) := by decide +kernel
theorem dX3_need_11 : decode cX3_need 11 = .ok (.aload_n 0, 1) := by decide +kernel
theorem dX3_need_12 : decode cX3_need 12 = .ok (.iconst (-1), 1) := by decide +kernel
theorem dX3_need_13 : decode cX3_need 13 = .ok (.invokevirtual 43, 3) := by decide +kernel
theorem dX3_need_16 : decode cX3_need 16 = .ok (.ireturn, 1) := by decide +kernel
theorem dX3_need_17 : decode cX3_need 17 = .ok (.iload_n 2, 1) := by decide +kernel
theorem dX3_need_18 : decode cX3_need 18 = .ok (.ifCond .lt 9, 3) := by decide +kernel
theorem dX3_need_21 : decode cX3_need 21 = .ok (.iload_n 2, 1) := by decide +kernel
theorem dX3_need_22 : decode cX3_need 22 = .ok (.bipush 6, 2) := by decide +kernel
theorem dX3_need_24 : decode cX3_need 24 = .ok (.if_icmp .lt 10, 3) := by decide +kernel
theorem dX3_need_27 : decode cX3_need 27 = .ok (.aload_n 0, 1) := by decide +kernel
theorem dX3_need_28 : decode cX3_need 28 = .ok (.bipush (-2), 2) := by decide +kernel
theorem dX3_need_30 : decode cX3_need 30 = .ok (.invokevirtual 43, 3) := by decide +kernel
theorem dX3_need_33 : decode cX3_need 33 = .ok (.ireturn, 1) := by decide +kernel
theorem dX3_need_34 : decode cX3_need 34 = .ok (.iload_n 2, 1) := by decide +kernel
theorem dX3_need_35 : decode cX3_need 35 = .ok (.iconst 5, 1) := by decide +kernel
theorem dX3_need_36 : decode cX3_need 36 = .ok (.if_icmp .ne 22, 3) := by decide +kernel
theorem dX3_need_39 : decode cX3_need 39 = .ok (.aload_n 0, 1) := by decide +kernel
theorem dX3_need_40 : decode cX3_need 40 = .ok (.getfield 12, 3) := by decide +kernel
theorem dX3_need_43 : decode cX3_need 43 = .ok (.iload_n 1, 1) := by decide +kernel
theorem dX3_need_44 : decode cX3_need 44 = .ok (.iconst 3, 1) := by decide +kernel
theorem dX3_need_45 : decode cX3_need 45 = .ok (.invokevirtual 80, 3) := by decide +kernel
theorem dX3_need_48 : decode cX3_need 48 = .ok (.aload_n 0, 1) := by decide +kernel
theorem dX3_need_49 : decode cX3_need 49 = .ok (.getfield 12, 3) := by decide +kernel
theorem dX3_need_52 : decode cX3_need 52 = .ok (.iload_n 1, 1) := by decide +kernel
theorem dX3_need_53 : decode cX3_need 53 = .ok (.invokevirtual 83, 3) := by decide +kernel
theorem dX3_need_56 : decode cX3_need 56 = .ok (.isub, 1) := by decide +kernel
theorem dX3_need_57 : decode cX3_need 57 = .ok (.ireturn, 1) := by decide +kernel
theorem dX3_need_58 : decode cX3_need 58 = .ok (.aload_n 0, 1) := by decide +kernel
theorem dX3_need_59 : decode cX3_need 59 = .ok (.getfield 12, 3) := by decide +kernel
theorem dX3_need_62 : decode cX3_need 62 = .ok (.iload_n 1, 1) := by decide +kernel
theorem dX3_need_63 : decode cX3_need 63 = .ok (.iload_n 2, 1) := by decide +kernel
theorem dX3_need_64 : decode cX3_need 64 = .ok (.invokevirtual 80, 3) := by decide +kernel
theorem dX3_need_67 : decode cX3_need 67 = .ok (.ireturn, 1) := by decide +kernel
set_option maxRecDepth 20000 in
theorem ggX3_set_X3_refuse : GoodIn wsX3_set wsX3_refuse := goodIn_r _ [6, 7, 24, 25, 26, 27, 28, 29, 30, 31, 32] rfl (by decide +kernel)
set_option maxRecDepth 20000 in
theorem gX3_set_X3_refuse : GoodIn wsX3_set (wsV RX3 43 RX3 yX3_refuse wsX3_refuse) := goodIn_app (goodIn_r _ [2, 3, 4, 5] rfl (by decide +kernel)) ggX3_set_X3_refuse
set_option maxRecDepth 20000 in
theorem ggX3_set_X3_leastSetting : GoodIn wsX3_set wsX3_leastSetting := goodIn_r _ [10] rfl (by decide +kernel)
set_option maxRecDepth 20000 in
theorem gX3_set_X3_leastSetting : GoodIn wsX3_set (va_wsS RX3 86 yX3_leastSetting wsX3_leastSetting) := goodIn_app (goodIn_r _ [8, 9, 5] rfl (by decide +kernel)) ggX3_set_X3_leastSetting
set_option maxRecDepth 20000 in
theorem ggX3_set_X3_greatestSetting : GoodIn wsX3_set wsX3_greatestSetting := goodIn_r _ [13] rfl (by decide +kernel)
set_option maxRecDepth 20000 in
theorem gX3_set_X3_greatestSetting : GoodIn wsX3_set (va_wsS RX3 89 yX3_greatestSetting wsX3_greatestSetting) := goodIn_app (goodIn_r _ [11, 12, 5] rfl (by decide +kernel)) ggX3_set_X3_greatestSetting
set_option maxRecDepth 20000 in
theorem ggX3_set_X2_setting : GoodIn wsX3_set wsX2_setting := goodIn_r _ [18, 19, 33, 34, 35, 36, 37, 38, 39, 40] rfl (by decide +kernel)
set_option maxRecDepth 20000 in
theorem gX3_set_X2_setting : GoodIn wsX3_set (wsV RX3 92 RX2 yX2_setting wsX2_setting) := goodIn_app (goodIn_r _ [14, 15, 16, 17] rfl (by decide +kernel)) ggX3_set_X2_setting
set_option maxRecDepth 20000 in
theorem ggX3_set_X2_settle : GoodIn wsX3_set wsX2_settle := goodIn_r _ [23, 19, 33, 34, 35, 36, 37, 38, 39, 40] rfl (by decide +kernel)
set_option maxRecDepth 20000 in
theorem gX3_set_X2_settle : GoodIn wsX3_set (wsV RX3 95 RX2 yX2_settle wsX2_settle) := goodIn_app (goodIn_r _ [20, 21, 22, 17] rfl (by decide +kernel)) ggX3_set_X2_settle
theorem dX3_set_0 : decode cX3_set 0 = .ok (.iload_n 1, 1) := by decide +kernel
theorem dX3_set_1 : decode cX3_set 1 = .ok (.ifCond .lt 8, 3) := by decide +kernel
theorem dX3_set_4 : decode cX3_set 4 = .ok (.iload_n 1, 1) := by decide +kernel
theorem dX3_set_5 : decode cX3_set 5 = .ok (.iconst 4, 1) := by decide +kernel
theorem dX3_set_6 : decode cX3_set 6 = .ok (.if_icmp .lt 10, 3) := by decide +kernel
theorem dX3_set_9 : decode cX3_set 9 = .ok (.aload_n 0, 1) := by decide +kernel
theorem dX3_set_10 : decode cX3_set 10 = .ok (.bipush (-2), 2) := by decide +kernel
theorem dX3_set_12 : decode cX3_set 12 = .ok (.invokevirtual 43, 3) := by decide +kernel
theorem dX3_set_15 : decode cX3_set 15 = .ok (.ireturn, 1) := by decide +kernel
theorem dX3_set_16 : decode cX3_set 16 = .ok (.iload_n 2, 1) := by decide +kernel
theorem dX3_set_17 : decode cX3_set 17 = .ok (.iload_n 1, 1) := by decide +kernel
theorem dX3_set_18 : decode cX3_set 18 = .ok (.invokestatic 86, 3) := by decide +kernel
theorem dX3_set_21 : decode cX3_set 21 = .ok (.if_icmp .ge 10, 3) := by decide +kernel
theorem dX3_set_24 : decode cX3_set 24 = .ok (.aload_n 0, 1) := by decide +kernel
theorem dX3_set_25 : decode cX3_set 25 = .ok (.bipush (-4), 2) := by decide +kernel
theorem dX3_set_27 : decode cX3_set 27 = .ok (.invokevirtual 43, 3) := by decide +kernel
theorem dX3_set_30 : decode cX3_set 30 = .ok (.ireturn, 1) := by decide +kernel
theorem dX3_set_31 : decode cX3_set 31 = .ok (.iload_n 2, 1) := by decide +kernel
theorem dX3_set_32 : decode cX3_set 32 = .ok (.iload_n 1, 1) := by decide +kernel
theorem dX3_set_33 : decode cX3_set 33 = .ok (.invokestatic 89, 3) := by decide +kernel
theorem dX3_set_36 : decode cX3_set 36 = .ok (.if_icmp .le 10, 3) := by decide +kernel
theorem dX3_set_39 : decode cX3_set 39 = .ok (.aload_n 0, 1) := by decide +kernel
theorem dX3_set_40 : decode cX3_set 40 = .ok (.bipush (-6), 2) := by decide +kernel
theorem dX3_set_42 : decode cX3_set 42 = .ok (.invokevirtual 43, 3) := by decide +kernel
theorem dX3_set_45 : decode cX3_set 45 = .ok (.ireturn, 1) := by decide +kernel
theorem dX3_set_46 : decode cX3_set 46 = .ok (.aload_n 0, 1) := by decide +kernel
theorem dX3_set_47 : decode cX3_set 47 = .ok (.getfield 12, 3) := by decide +kernel
theorem dX3_set_50 : decode cX3_set 50 = .ok (.iload_n 1, 1) := by decide +kernel
theorem dX3_set_51 : decode cX3_set 51 = .ok (.invokevirtual 92, 3) := by decide +kernel
theorem dX3_set_54 : decode cX3_set 54 = .ok (.istore_n 3, 1) := by decide +kernel
theorem dX3_set_55 : decode cX3_set 55 = .ok (.aload_n 0, 1) := by decide +kernel
theorem dX3_set_56 : decode cX3_set 56 = .ok (.getfield 12, 3) := by decide +kernel
theorem dX3_set_59 : decode cX3_set 59 = .ok (.iload_n 1, 1) := by decide +kernel
theorem dX3_set_60 : decode cX3_set 60 = .ok (.iload_n 2, 1) := by decide +kernel
theorem dX3_set_61 : decode cX3_set 61 = .ok (.invokevirtual 95, 3) := by decide +kernel
theorem dX3_set_64 : decode cX3_set 64 = .ok (.iload_n 3, 1) := by decide +kernel
theorem dX3_set_65 : decode cX3_set 65 = .ok (.ireturn, 1) := by decide +kernel
set_option maxRecDepth 20000 in
theorem ggX3_minutes_X2_hasPerson : GoodIn wsX3_minutes wsX2_hasPerson := goodIn_r _ [6, 7, 36, 37, 38, 39, 40, 41, 42, 43] rfl (by decide +kernel)
set_option maxRecDepth 20000 in
theorem gX3_minutes_X2_hasPerson : GoodIn wsX3_minutes (wsV RX3 69 RX2 yX2_hasPerson wsX2_hasPerson) := goodIn_app (goodIn_r _ [2, 3, 4, 5] rfl (by decide +kernel)) ggX3_minutes_X2_hasPerson
set_option maxRecDepth 20000 in
theorem ggX3_minutes_X3_refuse : GoodIn wsX3_minutes wsX3_refuse := goodIn_r _ [12, 13, 27, 28, 29, 30, 31, 32, 33, 34, 35] rfl (by decide +kernel)
set_option maxRecDepth 20000 in
theorem gX3_minutes_X3_refuse : GoodIn wsX3_minutes (wsV RX3 43 RX3 yX3_refuse wsX3_refuse) := goodIn_app (goodIn_r _ [8, 9, 10, 11] rfl (by decide +kernel)) ggX3_minutes_X3_refuse
set_option maxRecDepth 20000 in
theorem ggX3_minutes_X2_minutesBetween : GoodIn wsX3_minutes wsX2_minutesBetween := goodIn_r _ [17, 18, 19, 20, 21, 22, 23, 24, 5, 25, 26, 36, 37, 38, 39, 40, 41, 42, 43] rfl (by decide +kernel)
set_option maxRecDepth 20000 in
theorem gX3_minutes_X2_minutesBetween : GoodIn wsX3_minutes (wsV RX3 99 RX2 yX2_minutesBetween wsX2_minutesBetween) := goodIn_app (goodIn_r _ [14, 15, 16, 5] rfl (by decide +kernel)) ggX3_minutes_X2_minutesBetween
theorem dX3_minutes_0 : decode cX3_minutes 0 = .ok (.aload_n 0, 1) := by decide +kernel
theorem dX3_minutes_1 : decode cX3_minutes 1 = .ok (.getfield 12, 3) := by decide +kernel
theorem dX3_minutes_4 : decode cX3_minutes 4 = .ok (.iload_n 1, 1) := by decide +kernel
theorem dX3_minutes_5 : decode cX3_minutes 5 = .ok (.invokevirtual 69, 3) := by decide +kernel
theorem dX3_minutes_8 : decode cX3_minutes 8 = .ok (.ifCond .eq 14, 3) := by decide +kernel
theorem dX3_minutes_11 : decode cX3_minutes 11 = .ok (.aload_n 0, 1) := by decide +kernel
theorem dX3_minutes_12 : decode cX3_minutes 12 = .ok (.getfield 12, 3) := by decide +kernel
theorem dX3_minutes_15 : decode cX3_minutes 15 = .ok (.iload_n 2, 1) := by decide +kernel
theorem dX3_minutes_16 : decode cX3_minutes 16 = .ok (.invokevirtual 69, 3) := by decide +kernel
theorem dX3_minutes_19 : decode cX3_minutes 19 = .ok (.ifCond .ne 9, 3) := by decide +kernel
theorem dX3_minutes_22 : decode cX3_minutes 22 = .ok (.aload_n 0, 1) := by decide +kernel
theorem dX3_minutes_23 : decode cX3_minutes 23 = .ok (.iconst (-1), 1) := by decide +kernel
theorem dX3_minutes_24 : decode cX3_minutes 24 = .ok (.invokevirtual 43, 3) := by decide +kernel
theorem dX3_minutes_27 : decode cX3_minutes 27 = .ok (.ireturn, 1) := by decide +kernel
theorem dX3_minutes_28 : decode cX3_minutes 28 = .ok (.aload_n 0, 1) := by decide +kernel
theorem dX3_minutes_29 : decode cX3_minutes 29 = .ok (.getfield 12, 3) := by decide +kernel
theorem dX3_minutes_32 : decode cX3_minutes 32 = .ok (.iload_n 1, 1) := by decide +kernel
theorem dX3_minutes_33 : decode cX3_minutes 33 = .ok (.iload_n 2, 1) := by decide +kernel
theorem dX3_minutes_34 : decode cX3_minutes 34 = .ok (.invokevirtual 99, 3) := by decide +kernel
theorem dX3_minutes_37 : decode cX3_minutes 37 = .ok (.ireturn, 1) := by decide +kernel
set_option maxRecDepth 20000 in
theorem ggX3_spent_X3_isPair : GoodIn wsX3_spent wsX3_isPair := goodIn_r _ [6, 1, 7, 8, 9, 10, 11, 12, 35, 36, 37, 38, 39, 40, 41, 42, 43, 44, 45, 46, 47, 48, 49, 50, 51] rfl (by decide +kernel)
set_option maxRecDepth 20000 in
theorem gX3_spent_X3_isPair : GoodIn wsX3_spent (wsV RX3 102 RX3 yX3_isPair wsX3_isPair) := goodIn_app (goodIn_r _ [2, 3, 4, 5] rfl (by decide +kernel)) ggX3_spent_X3_isPair
set_option maxRecDepth 20000 in
theorem ggX3_spent_X3_refuse : GoodIn wsX3_spent wsX3_refuse := goodIn_r _ [16, 17, 35, 36, 37, 38, 39, 40, 41, 42, 43] rfl (by decide +kernel)
set_option maxRecDepth 20000 in
theorem gX3_spent_X3_refuse : GoodIn wsX3_spent (wsV RX3 43 RX3 yX3_refuse wsX3_refuse) := goodIn_app (goodIn_r _ [13, 14, 15, 5] rfl (by decide +kernel)) ggX3_spent_X3_refuse
set_option maxRecDepth 20000 in
theorem ggX3_spent_X2_isSpent : GoodIn wsX3_spent wsX2_isSpent := goodIn_r _ [21, 22, 23, 24, 25, 26, 27, 10, 28, 29, 30, 31, 32, 33, 34, 44, 45, 46, 47, 48, 49, 50, 51] rfl (by decide +kernel)
set_option maxRecDepth 20000 in
theorem gX3_spent_X2_isSpent : GoodIn wsX3_spent (wsV RX3 106 RX2 yX2_isSpent wsX2_isSpent) := goodIn_app (goodIn_r _ [18, 19, 20, 10] rfl (by decide +kernel)) ggX3_spent_X2_isSpent
theorem dX3_spent_0 : decode cX3_spent 0 = .ok (.aload_n 0, 1) := by decide +kernel
theorem dX3_spent_1 : decode cX3_spent 1 = .ok (.iload_n 1, 1) := by decide +kernel
theorem dX3_spent_2 : decode cX3_spent 2 = .ok (.iload_n 2, 1) := by decide +kernel
theorem dX3_spent_3 : decode cX3_spent 3 = .ok (.invokevirtual 102, 3) := by decide +kernel
theorem dX3_spent_6 : decode cX3_spent 6 = .ok (.ifCond .ne 9, 3) := by decide +kernel
theorem dX3_spent_9 : decode cX3_spent 9 = .ok (.aload_n 0, 1) := by decide +kernel
theorem dX3_spent_10 : decode cX3_spent 10 = .ok (.iconst (-1), 1) := by decide +kernel
theorem dX3_spent_11 : decode cX3_spent 11 = .ok (.invokevirtual 43, 3) := by decide +kernel
theorem dX3_spent_14 : decode cX3_spent 14 = .ok (.ireturn, 1) := by decide +kernel
theorem dX3_spent_15 : decode cX3_spent 15 = .ok (.aload_n 0, 1) := by decide +kernel
theorem dX3_spent_16 : decode cX3_spent 16 = .ok (.getfield 12, 3) := by decide +kernel
theorem dX3_spent_19 : decode cX3_spent 19 = .ok (.iload_n 1, 1) := by decide +kernel
theorem dX3_spent_20 : decode cX3_spent 20 = .ok (.iload_n 2, 1) := by decide +kernel
theorem dX3_spent_21 : decode cX3_spent 21 = .ok (.invokevirtual 106, 3) := by decide +kernel
theorem dX3_spent_24 : decode cX3_spent 24 = .ok (.ifCond .eq 7, 3) := by decide +kernel
theorem dX3_spent_27 : decode cX3_spent 27 = .ok (.iconst 1, 1) := by decide +kernel
theorem dX3_spent_28 : decode cX3_spent 28 = .ok (.goto 4, 3) := by decide +kernel
theorem dX3_spent_31 : decode cX3_spent 31 = .ok (.iconst 0, 1) := by decide +kernel
theorem dX3_spent_32 : decode cX3_spent 32 = .ok (.ireturn, 1) := by decide +kernel
set_option maxRecDepth 20000 in
theorem ggX3_may_X2_hasPerson : GoodIn wsX3_may wsX2_hasPerson := goodIn_r _ [6, 7, 53, 54, 55, 56, 57, 58, 59, 60] rfl (by decide +kernel)
set_option maxRecDepth 20000 in
theorem gX3_may_X2_hasPerson : GoodIn wsX3_may (wsV RX3 69 RX2 yX2_hasPerson wsX2_hasPerson) := goodIn_app (goodIn_r _ [2, 3, 4, 5] rfl (by decide +kernel)) ggX3_may_X2_hasPerson
set_option maxRecDepth 20000 in
theorem ggX3_may_X3_refuse : GoodIn wsX3_may wsX3_refuse := goodIn_r _ [12, 13, 44, 45, 46, 47, 48, 49, 50, 51, 52] rfl (by decide +kernel)
set_option maxRecDepth 20000 in
theorem gX3_may_X3_refuse : GoodIn wsX3_may (wsV RX3 43 RX3 yX3_refuse wsX3_refuse) := goodIn_app (goodIn_r _ [8, 9, 10, 11] rfl (by decide +kernel)) ggX3_may_X3_refuse
set_option maxRecDepth 20000 in
theorem ggX3_may_X2_mayHelp : GoodIn wsX3_may wsX2_mayHelp := goodIn_r _ [17, 18, 3, 4, 5, 6, 7, 19, 20, 21, 22, 23, 24, 25, 26, 27, 28, 29, 30, 31, 32, 33, 34, 35, 36, 37, 38, 39, 40, 41, 42, 43, 53, 54, 55, 56, 57, 58, 59, 60] rfl (by decide +kernel)
set_option maxRecDepth 20000 in
theorem gX3_may_X2_mayHelp : GoodIn wsX3_may (wsV RX3 109 RX2 yX2_mayHelp wsX2_mayHelp) := goodIn_app (goodIn_r _ [14, 15, 16, 5] rfl (by decide +kernel)) ggX3_may_X2_mayHelp
theorem dX3_may_0 : decode cX3_may 0 = .ok (.aload_n 0, 1) := by decide +kernel
theorem dX3_may_1 : decode cX3_may 1 = .ok (.getfield 12, 3) := by decide +kernel
theorem dX3_may_4 : decode cX3_may 4 = .ok (.iload_n 1, 1) := by decide +kernel
theorem dX3_may_5 : decode cX3_may 5 = .ok (.invokevirtual 69, 3) := by decide +kernel
theorem dX3_may_8 : decode cX3_may 8 = .ok (.ifCond .eq 14, 3) := by decide +kernel
theorem dX3_may_11 : decode cX3_may 11 = .ok (.aload_n 0, 1) := by decide +kernel
theorem dX3_may_12 : decode cX3_may 12 = .ok (.getfield 12, 3) := by decide +kernel
theorem dX3_may_15 : decode cX3_may 15 = .ok (.iload_n 2, 1) := by decide +kernel
theorem dX3_may_16 : decode cX3_may 16 = .ok (.invokevirtual 69, 3) := by decide +kernel
theorem dX3_may_19 : decode cX3_may 19 = .ok (.ifCond .ne 9, 3) := by decide +kernel
theorem dX3_may_22 : decode cX3_may 22 = .ok (.aload_n 0, 1) := by decide +kernel
theorem dX3_may_23 : decode cX3_may 23 = .ok (.iconst (-1), 1) := by decide +kernel
theorem dX3_may_24 : decode cX3_may 24 = .ok (.invokevirtual 43, 3) := by decide +kernel
theorem dX3_may_27 : decode cX3_may 27 = .ok (.ireturn, 1) := by decide +kernel
theorem dX3_may_28 : decode cX3_may 28 = .ok (.aload_n 0, 1) := by decide +kernel
theorem dX3_may_29 : decode cX3_may 29 = .ok (.getfield 12, 3) := by decide +kernel
theorem dX3_may_32 : decode cX3_may 32 = .ok (.iload_n 1, 1) := by decide +kernel
theorem dX3_may_33 : decode cX3_may 33 = .ok (.iload_n 2, 1) := by decide +kernel
theorem dX3_may_34 : decode cX3_may 34 = .ok (.invokevirtual 109, 3) := by decide +kernel
theorem dX3_may_37 : decode cX3_may 37 = .ok (.ifCond .eq 7, 3) := by decide +kernel
theorem dX3_may_40 : decode cX3_may 40 = .ok (.iconst 1, 1) := by decide +kernel
theorem dX3_may_41 : decode cX3_may 41 = .ok (.goto 4, 3) := by decide +kernel
theorem dX3_may_44 : decode cX3_may 44 = .ok (.iconst 0, 1) := by decide +kernel
theorem dX3_may_45 : decode cX3_may 45 = .ok (.ireturn, 1) := by decide +kernel
set_option maxRecDepth 20000 in
theorem ggX3_good_X2_hasPerson : GoodIn wsX3_good wsX2_hasPerson := goodIn_r _ [6, 7, 53, 54, 55, 56, 57, 58, 59, 60] rfl (by decide +kernel)
set_option maxRecDepth 20000 in
theorem gX3_good_X2_hasPerson : GoodIn wsX3_good (wsV RX3 69 RX2 yX2_hasPerson wsX2_hasPerson) := goodIn_app (goodIn_r _ [2, 3, 4, 5] rfl (by decide +kernel)) ggX3_good_X2_hasPerson
set_option maxRecDepth 20000 in
theorem ggX3_good_X2_hasNeed : GoodIn wsX3_good wsX2_hasNeed := goodIn_r _ [11, 12, 53, 54, 55, 56, 57, 58, 59, 60] rfl (by decide +kernel)
set_option maxRecDepth 20000 in
theorem gX3_good_X2_hasNeed : GoodIn wsX3_good (wsV RX3 77 RX2 yX2_hasNeed wsX2_hasNeed) := goodIn_app (goodIn_r _ [8, 9, 10, 5] rfl (by decide +kernel)) ggX3_good_X2_hasNeed
set_option maxRecDepth 20000 in
theorem ggX3_good_X3_refuse : GoodIn wsX3_good wsX3_refuse := goodIn_r _ [17, 18, 44, 45, 46, 47, 48, 49, 50, 51, 52] rfl (by decide +kernel)
set_option maxRecDepth 20000 in
theorem gX3_good_X3_refuse : GoodIn wsX3_good (wsV RX3 43 RX3 yX3_refuse wsX3_refuse) := goodIn_app (goodIn_r _ [13, 14, 15, 16] rfl (by decide +kernel)) ggX3_good_X3_refuse
set_option maxRecDepth 20000 in
theorem ggX3_good_X2_goodOf : GoodIn wsX3_good wsX2_goodOf := goodIn_r _ [22, 23, 24, 25, 26, 27, 28, 29, 5, 30, 31, 32, 33, 34, 35, 36, 37, 38, 39, 40, 41, 42, 43, 53, 54, 55, 56, 57, 58, 59, 60] rfl (by decide +kernel)
set_option maxRecDepth 20000 in
theorem gX3_good_X2_goodOf : GoodIn wsX3_good (wsV RX3 112 RX2 yX2_goodOf wsX2_goodOf) := goodIn_app (goodIn_r _ [19, 20, 21, 5] rfl (by decide +kernel)) ggX3_good_X2_goodOf
theorem dX3_good_0 : decode cX3_good 0 = .ok (.aload_n 0, 1) := by decide +kernel
theorem dX3_good_1 : decode cX3_good 1 = .ok (.getfield 12, 3) := by decide +kernel
theorem dX3_good_4 : decode cX3_good 4 = .ok (.iload_n 1, 1) := by decide +kernel
theorem dX3_good_5 : decode cX3_good 5 = .ok (.invokevirtual 69, 3) := by decide +kernel
theorem dX3_good_8 : decode cX3_good 8 = .ok (.ifCond .eq 14, 3) := by decide +kernel
theorem dX3_good_11 : decode cX3_good 11 = .ok (.aload_n 0, 1) := by decide +kernel
theorem dX3_good_12 : decode cX3_good 12 = .ok (.getfield 12, 3) := by decide +kernel
theorem dX3_good_15 : decode cX3_good 15 = .ok (.iload_n 2, 1) := by decide +kernel
theorem dX3_good_16 : decode cX3_good 16 = .ok (.invokevirtual 77, 3) := by decide +kernel
theorem dX3_good_19 : decode cX3_good 19 = .ok (.ifCond .ne 9, 3) := by decide +kernel
theorem dX3_good_22 : decode cX3_good 22 = .ok (.aload_n 0, 1) := by decide +kernel
theorem dX3_good_23 : decode cX3_good 23 = .ok (.iconst (-1), 1) := by decide +kernel
theorem dX3_good_24 : decode cX3_good 24 = .ok (.invokevirtual 43, 3) := by decide +kernel
theorem dX3_good_27 : decode cX3_good 27 = .ok (.ireturn, 1) := by decide +kernel
theorem dX3_good_28 : decode cX3_good 28 = .ok (.aload_n 0, 1) := by decide +kernel
theorem dX3_good_29 : decode cX3_good 29 = .ok (.getfield 12, 3) := by decide +kernel
theorem dX3_good_32 : decode cX3_good 32 = .ok (.iload_n 1, 1) := by decide +kernel
theorem dX3_good_33 : decode cX3_good 33 = .ok (.iload_n 2, 1) := by decide +kernel
theorem dX3_good_34 : decode cX3_good 34 = .ok (.invokevirtual 112, 3) := by decide +kernel
theorem dX3_good_37 : decode cX3_good 37 = .ok (.ireturn, 1) := by decide +kernel
set_option maxRecDepth 20000 in
theorem ggX3_help_X2_hasPerson : GoodIn wsX3_help wsX2_hasPerson := goodIn_r _ [6, 7, 109, 110, 111, 112, 113, 114, 115, 116] rfl (by decide +kernel)
set_option maxRecDepth 20000 in
theorem gX3_help_X2_hasPerson : GoodIn wsX3_help (wsV RX3 69 RX2 yX2_hasPerson wsX2_hasPerson) := goodIn_app (goodIn_r _ [2, 3, 4, 5] rfl (by decide +kernel)) ggX3_help_X2_hasPerson
set_option maxRecDepth 20000 in
theorem ggX3_help_X2_hasNeed : GoodIn wsX3_help wsX2_hasNeed := goodIn_r _ [11, 12, 109, 110, 111, 112, 113, 114, 115, 116] rfl (by decide +kernel)
set_option maxRecDepth 20000 in
theorem gX3_help_X2_hasNeed : GoodIn wsX3_help (wsV RX3 77 RX2 yX2_hasNeed wsX2_hasNeed) := goodIn_app (goodIn_r _ [8, 9, 10, 5] rfl (by decide +kernel)) ggX3_help_X2_hasNeed
set_option maxRecDepth 20000 in
theorem ggX3_help_X3_refuse : GoodIn wsX3_help wsX3_refuse := goodIn_r _ [17, 18, 100, 101, 102, 103, 104, 105, 106, 107, 108] rfl (by decide +kernel)
set_option maxRecDepth 20000 in
theorem gX3_help_X3_refuse : GoodIn wsX3_help (wsV RX3 43 RX3 yX3_refuse wsX3_refuse) := goodIn_app (goodIn_r _ [13, 14, 15, 16] rfl (by decide +kernel)) ggX3_help_X3_refuse
set_option maxRecDepth 20000 in
theorem ggX3_help_X2_mayHelpWith : GoodIn wsX3_help wsX2_mayHelpWith := goodIn_r _ [22, 23, 24, 25, 5, 26, 27, 28, 29, 30, 31, 32, 33, 34, 35, 36, 9, 10, 11, 12, 37, 38, 39, 40, 41, 42, 43, 44, 45, 46, 47, 48, 49, 50, 51, 52, 3, 4, 6, 7, 53, 54, 55, 56, 57, 58, 59, 60, 61, 62, 63, 64, 65, 66, 67, 68, 69, 70, 71, 72, 73, 74, 75, 76, 109, 110, 111, 112, 113, 114, 115, 116] rfl (by decide +kernel)
set_option maxRecDepth 20000 in
theorem gX3_help_X2_mayHelpWith : GoodIn wsX3_help (wsV RX3 115 RX2 yX2_mayHelpWith wsX2_mayHelpWith) := goodIn_app (goodIn_r _ [19, 20, 21, 5] rfl (by decide +kernel)) ggX3_help_X2_mayHelpWith
set_option maxRecDepth 20000 in
theorem ggX3_help_X2_bookIsFull : GoodIn wsX3_help wsX2_bookIsFull := goodIn_r _ [80, 58, 109, 110, 111, 112, 113, 114, 115, 116] rfl (by decide +kernel)
set_option maxRecDepth 20000 in
theorem gX3_help_X2_bookIsFull : GoodIn wsX3_help (wsV RX3 118 RX2 yX2_bookIsFull wsX2_bookIsFull) := goodIn_app (goodIn_r _ [77, 78, 79, 5] rfl (by decide +kernel)) ggX3_help_X2_bookIsFull
set_option maxRecDepth 20000 in
theorem ggX3_help_X2_doHelp : GoodIn wsX3_help wsX2_doHelp := goodIn_r _ [84, 23, 24, 25, 5, 26, 27, 85, 86, 87, 88, 58, 59, 35, 28, 29, 30, 89, 90, 91, 92, 109, 110, 111, 112, 113, 114, 115, 116] rfl (by decide +kernel)
set_option maxRecDepth 20000 in
theorem gX3_help_X2_doHelp : GoodIn wsX3_help (wsV RX3 121 RX2 yX2_doHelp wsX2_doHelp) := goodIn_app (goodIn_r _ [81, 82, 83, 5] rfl (by decide +kernel)) ggX3_help_X2_doHelp
set_option maxRecDepth 20000 in
theorem ggX3_help_X2_goodOf : GoodIn wsX3_help wsX2_goodOf := goodIn_r _ [96, 97, 98, 75, 99, 23, 24, 25, 5, 26, 27, 60, 61, 62, 63, 64, 69, 70, 71, 72, 73, 74, 76, 109, 110, 111, 112, 113, 114, 115, 116] rfl (by decide +kernel)
set_option maxRecDepth 20000 in
theorem gX3_help_X2_goodOf : GoodIn wsX3_help (wsV RX3 112 RX2 yX2_goodOf wsX2_goodOf) := goodIn_app (goodIn_r _ [93, 94, 95, 5] rfl (by decide +kernel)) ggX3_help_X2_goodOf
theorem dX3_help_0 : decode cX3_help 0 = .ok (.aload_n 0, 1) := by decide +kernel
theorem dX3_help_1 : decode cX3_help 1 = .ok (.getfield 12, 3) := by decide +kernel
theorem dX3_help_4 : decode cX3_help 4 = .ok (.iload_n 1, 1) := by decide +kernel
theorem dX3_help_5 : decode cX3_help 5 = .ok (.invokevirtual 69, 3) := by decide +kernel
theorem dX3_help_8 : decode cX3_help 8 = .ok (.ifCond .eq 14, 3) := by decide +kernel
theorem dX3_help_11 : decode cX3_help 11 = .ok (.aload_n 0, 1) := by decide +kernel
theorem dX3_help_12 : decode cX3_help 12 = .ok (.getfield 12, 3) := by decide +kernel
theorem dX3_help_15 : decode cX3_help 15 = .ok (.iload_n 2, 1) := by decide +kernel
theorem dX3_help_16 : decode cX3_help 16 = .ok (.invokevirtual 77, 3) := by decide +kernel
theorem dX3_help_19 : decode cX3_help 19 = .ok (.ifCond .ne 9, 3) := by decide +kernel
theorem dX3_help_22 : decode cX3_help 22 = .ok (.aload_n 0, 1) := by decide +kernel
theorem dX3_help_23 : decode cX3_help 23 = .ok (.iconst (-1), 1) := by decide +kernel
theorem dX3_help_24 : decode cX3_help 24 = .ok (.invokevirtual 43, 3) := by decide +kernel
theorem dX3_help_27 : decode cX3_help 27 = .ok (.ireturn, 1) := by decide +kernel
theorem dX3_help_28 : decode cX3_help 28 = .ok (.aload_n 0, 1) := by decide +kernel
theorem dX3_help_29 : decode cX3_help 29 = .ok (.getfield 12, 3) := by decide +kernel
theorem dX3_help_32 : decode cX3_help 32 = .ok (.iload_n 1, 1) := by decide +kernel
theorem dX3_help_33 : decode cX3_help 33 = .ok (.iload_n 2, 1) := by decide +kernel
theorem dX3_help_34 : decode cX3_help 34 = .ok (.invokevirtual 115, 3) := by decide +kernel
theorem dX3_help_37 : decode cX3_help 37 = .ok (.ifCond .ne 10, 3) := by decide +kernel
theorem dX3_help_40 : decode cX3_help 40 = .ok (.aload_n 0, 1) := by decide +kernel
theorem dX3_help_41 : decode cX3_help 41 = .ok (.bipush (-3), 2) := by decide +kernel
theorem dX3_help_43 : decode cX3_help 43 = .ok (.invokevirtual 43, 3) := by decide +kernel
theorem dX3_help_46 : decode cX3_help 46 = .ok (.ireturn, 1) := by decide +kernel
theorem dX3_help_47 : decode cX3_help 47 = .ok (.aload_n 0, 1) := by decide +kernel
theorem dX3_help_48 : decode cX3_help 48 = .ok (.getfield 12, 3) := by decide +kernel
theorem dX3_help_51 : decode cX3_help 51 = .ok (.invokevirtual 118, 3) := by decide +kernel
theorem dX3_help_54 : decode cX3_help 54 = .ok (.ifCond .eq 10, 3) := by decide +kernel
theorem dX3_help_57 : decode cX3_help 57 = .ok (.aload_n 0, 1) := by decide +kernel
theorem dX3_help_58 : decode cX3_help 58 = .ok (.bipush (-6), 2) := by decide +kernel
theorem dX3_help_60 : decode cX3_help 60 = .ok (.invokevirtual 43, 3) := by decide +kernel
theorem dX3_help_63 : decode cX3_help 63 = .ok (.ireturn, 1) := by decide +kernel
theorem dX3_help_64 : decode cX3_help 64 = .ok (.aload_n 0, 1) := by decide +kernel
theorem dX3_help_65 : decode cX3_help 65 = .ok (.getfield 12, 3) := by decide +kernel
theorem dX3_help_68 : decode cX3_help 68 = .ok (.iload_n 1, 1) := by decide +kernel
theorem dX3_help_69 : decode cX3_help 69 = .ok (.iload_n 2, 1) := by decide +kernel
theorem dX3_help_70 : decode cX3_help 70 = .ok (.invokevirtual 121, 3) := by decide +kernel
theorem dX3_help_73 : decode cX3_help 73 = .ok (.aload_n 0, 1) := by decide +kernel
theorem dX3_help_74 : decode cX3_help 74 = .ok (.getfield 12, 3) := by decide +kernel
theorem dX3_help_77 : decode cX3_help 77 = .ok (.iload_n 1, 1) := by decide +kernel
theorem dX3_help_78 : decode cX3_help 78 = .ok (.iload_n 2, 1) := by decide +kernel
theorem dX3_help_79 : decode cX3_help 79 = .ok (.invokevirtual 112, 3) := by decide +kernel
theorem dX3_help_82 : decode cX3_help 82 = .ok (.ireturn, 1) := by decide +kernel
set_option maxRecDepth 20000 in
theorem ggX3_back_X3_refuse : GoodIn wsX3_back wsX3_refuse := goodIn_r _ [7, 8, 28, 29, 30, 31, 32, 33, 34, 35, 36] rfl (by decide +kernel)
set_option maxRecDepth 20000 in
theorem gX3_back_X3_refuse : GoodIn wsX3_back (wsV RX3 43 RX3 yX3_refuse wsX3_refuse) := goodIn_app (goodIn_r _ [3, 4, 5, 6] rfl (by decide +kernel)) ggX3_back_X3_refuse
set_option maxRecDepth 20000 in
theorem ggX3_back_X2_takeBack : GoodIn wsX3_back wsX2_takeBack := goodIn_r _ [13, 14, 15, 16, 17, 18, 12, 19, 20, 21, 22, 23, 24, 25, 26, 27, 37, 38, 39, 40, 41, 42, 43, 44] rfl (by decide +kernel)
set_option maxRecDepth 20000 in
theorem gX3_back_X2_takeBack : GoodIn wsX3_back (wsV RX3 128 RX2 yX2_takeBack wsX2_takeBack) := goodIn_app (goodIn_r _ [9, 10, 11, 12] rfl (by decide +kernel)) ggX3_back_X2_takeBack
theorem dX3_back_0 : decode cX3_back 0 = .ok (.aload_n 0, 1) := by decide +kernel
theorem dX3_back_1 : decode cX3_back 1 = .ok (.getfield 12, 3) := by decide +kernel
theorem dX3_back_4 : decode cX3_back 4 = .ok (.getfield 124, 3) := by decide +kernel
theorem dX3_back_7 : decode cX3_back 7 = .ok (.ifCond .ne 10, 3) := by decide +kernel
theorem dX3_back_10 : decode cX3_back 10 = .ok (.aload_n 0, 1) := by decide +kernel
theorem dX3_back_11 : decode cX3_back 11 = .ok (.bipush (-3), 2) := by decide +kernel
theorem dX3_back_13 : decode cX3_back 13 = .ok (.invokevirtual 43, 3) := by decide +kernel
theorem dX3_back_16 : decode cX3_back 16 = .ok (.ireturn, 1) := by decide +kernel
theorem dX3_back_17 : decode cX3_back 17 = .ok (.aload_n 0, 1) := by decide +kernel
theorem dX3_back_18 : decode cX3_back 18 = .ok (.getfield 12, 3) := by decide +kernel
theorem dX3_back_21 : decode cX3_back 21 = .ok (.invokevirtual 128, 3) := by decide +kernel
theorem dX3_back_24 : decode cX3_back 24 = .ok (.aload_n 0, 1) := by decide +kernel
theorem dX3_back_25 : decode cX3_back 25 = .ok (.getfield 12, 3) := by decide +kernel
theorem dX3_back_28 : decode cX3_back 28 = .ok (.getfield 124, 3) := by decide +kernel
theorem dX3_back_31 : decode cX3_back 31 = .ok (.ireturn, 1) := by decide +kernel
set_option maxRecDepth 20000 in
theorem ggX3_year_X3_refuse : GoodIn wsX3_year wsX3_refuse := goodIn_r _ [7, 8, 9, 10, 11, 12, 13, 14, 15, 16, 17] rfl (by decide +kernel)
set_option maxRecDepth 20000 in
theorem gX3_year_X3_refuse : GoodIn wsX3_year (wsV RX3 43 RX3 yX3_refuse wsX3_refuse) := goodIn_app (goodIn_r _ [3, 4, 5, 6] rfl (by decide +kernel)) ggX3_year_X3_refuse
theorem dX3_year_0 : decode cX3_year 0 = .ok (.aload_n 0, 1) := by decide +kernel
theorem dX3_year_1 : decode cX3_year 1 = .ok (.getfield 12, 3) := by decide +kernel
theorem dX3_year_4 : decode cX3_year 4 = .ok (.getfield 131, 3) := by decide +kernel
theorem dX3_year_7 : decode cX3_year 7 = .ok (.bipush 99, 2) := by decide +kernel
theorem dX3_year_9 : decode cX3_year 9 = .ok (.if_icmp .lt 10, 3) := by decide +kernel
theorem dX3_year_12 : decode cX3_year 12 = .ok (.aload_n 0, 1) := by decide +kernel
theorem dX3_year_13 : decode cX3_year 13 = .ok (.bipush (-6), 2) := by decide +kernel
theorem dX3_year_15 : decode cX3_year 15 = .ok (.invokevirtual 43, 3) := by decide +kernel
theorem dX3_year_18 : decode cX3_year 18 = .ok (.ireturn, 1) := by decide +kernel
theorem dX3_year_19 : decode cX3_year 19 = .ok (.aload_n 0, 1) := by decide +kernel
theorem dX3_year_20 : decode cX3_year 20 = .ok (.getfield 12, 3) := by decide +kernel
theorem dX3_year_23 : decode cX3_year 23 = .ok (.dup, 1) := by decide +kernel
theorem dX3_year_24 : decode cX3_year 24 = .ok (.getfield 131, 3) := by decide +kernel
theorem dX3_year_27 : decode cX3_year 27 = .ok (.iconst 1, 1) := by decide +kernel
theorem dX3_year_28 : decode cX3_year 28 = .ok (.iadd, 1) := by decide +kernel
theorem dX3_year_29 : decode cX3_year 29 = .ok (.putfield 131, 3) := by decide +kernel
theorem dX3_year_32 : decode cX3_year 32 = .ok (.aload_n 0, 1) := by decide +kernel
theorem dX3_year_33 : decode cX3_year 33 = .ok (.getfield 12, 3) := by decide +kernel
theorem dX3_year_36 : decode cX3_year 36 = .ok (.getfield 131, 3) := by decide +kernel
theorem dX3_year_39 : decode cX3_year 39 = .ok (.ireturn, 1) := by decide +kernel
set_option maxRecDepth 20000 in
theorem ggX3_chosen_X3_isRule : GoodIn wsX3_chosen wsX3_isRule := goodIn_r _ [5] rfl (by decide +kernel)
set_option maxRecDepth 20000 in
theorem gX3_chosen_X3_isRule : GoodIn wsX3_chosen (va_wsS RX3 134 yX3_isRule wsX3_isRule) := goodIn_app (goodIn_r _ [2, 3, 4] rfl (by decide +kernel)) ggX3_chosen_X3_isRule
set_option maxRecDepth 20000 in
theorem ggX3_chosen_X3_refuse : GoodIn wsX3_chosen wsX3_refuse := goodIn_r _ [9, 10, 110, 111, 112, 113, 114, 115, 116, 117, 118] rfl (by decide +kernel)
set_option maxRecDepth 20000 in
theorem gX3_chosen_X3_refuse : GoodIn wsX3_chosen (wsV RX3 43 RX3 yX3_refuse wsX3_refuse) := goodIn_app (goodIn_r _ [6, 7, 8, 4] rfl (by decide +kernel)) ggX3_chosen_X3_refuse
set_option maxRecDepth 20000 in
theorem ggX3_chosen_X2_hasNeed : GoodIn wsX3_chosen wsX2_hasNeed := goodIn_r _ [15, 16, 119, 120, 121, 122, 123, 124, 125, 126] rfl (by decide +kernel)
set_option maxRecDepth 20000 in
theorem gX3_chosen_X2_hasNeed : GoodIn wsX3_chosen (wsV RX3 77 RX2 yX2_hasNeed wsX2_hasNeed) := goodIn_app (goodIn_r _ [11, 12, 13, 14] rfl (by decide +kernel)) ggX3_chosen_X2_hasNeed
set_option maxRecDepth 20000 in
theorem ggX3_chosen_X3_chosenBy : GoodIn wsX3_chosen wsX3_chosenBy := goodIn_r _ [20, 21, 22, 23, 24, 4, 25, 26, 27, 28, 29, 30, 14, 31, 32, 33, 34, 35, 36, 37, 38, 39, 40, 41, 42, 43, 44, 45, 12, 13, 15, 16, 46, 47, 48, 49, 50, 51, 52, 53, 54, 55, 56, 57, 58, 59, 60, 61, 62, 63, 64, 65, 66, 67, 68, 69, 70, 71, 72, 73, 74, 75, 76, 77, 78, 79, 80, 81, 82, 83, 84, 85, 86, 87, 88, 89, 90, 91, 92, 93, 94, 95, 96, 97, 98, 99, 100, 101, 102, 103, 104, 105, 106, 107, 108, 109, 119, 120, 121, 122, 123, 124, 125, 126, 110, 111, 112, 113, 114, 115, 116, 117, 118] rfl (by decide +kernel)
set_option maxRecDepth 20000 in
theorem gX3_chosen_X3_chosenBy : GoodIn wsX3_chosen (wsV RX3 137 RX3 yX3_chosenBy wsX3_chosenBy) := goodIn_app (goodIn_r _ [17, 18, 19, 4] rfl (by decide +kernel)) ggX3_chosen_X3_chosenBy
theorem dX3_chosen_0 : decode cX3_chosen 0 = .ok (.iload_n 1, 1) := by decide +kernel
theorem dX3_chosen_1 : decode cX3_chosen 1 = .ok (.invokestatic 134, 3) := by decide +kernel
theorem dX3_chosen_4 : decode cX3_chosen 4 = .ok (.ifCond .ne 10, 3) := by decide +kernel
theorem dX3_chosen_7 : decode cX3_chosen 7 = .ok (.aload_n 0, 1) := by decide +kernel
theorem dX3_chosen_8 : decode cX3_chosen 8 = .ok (.bipush (-2), 2) := by decide +kernel
theorem dX3_chosen_10 : decode cX3_chosen 10 = .ok (.invokevirtual 43, 3) := by decide +kernel
theorem dX3_chosen_13 : decode cX3_chosen 13 = .ok (.ireturn, 1) := by decide +kernel
theorem dX3_chosen_14 : decode cX3_chosen 14 = .ok (.aload_n 0, 1) := by decide +kernel
theorem dX3_chosen_15 : decode cX3_chosen 15 = .ok (.getfield 12, 3) := by decide +kernel
theorem dX3_chosen_18 : decode cX3_chosen 18 = .ok (.iload_n 2, 1) := by decide +kernel
theorem dX3_chosen_19 : decode cX3_chosen 19 = .ok (.invokevirtual 77, 3) := by decide +kernel
theorem dX3_chosen_22 : decode cX3_chosen 22 = .ok (.ifCond .ne 9, 3) := by decide +kernel
theorem dX3_chosen_25 : decode cX3_chosen 25 = .ok (.aload_n 0, 1) := by decide +kernel
theorem dX3_chosen_26 : decode cX3_chosen 26 = .ok (.iconst (-1), 1) := by decide +kernel
theorem dX3_chosen_27 : decode cX3_chosen 27 = .ok (.invokevirtual 43, 3) := by decide +kernel
theorem dX3_chosen_30 : decode cX3_chosen 30 = .ok (.ireturn, 1) := by decide +kernel
theorem dX3_chosen_31 : decode cX3_chosen 31 = .ok (.aload_n 0, 1) := by decide +kernel
theorem dX3_chosen_32 : decode cX3_chosen 32 = .ok (.aload_n 0, 1) := by decide +kernel
theorem dX3_chosen_33 : decode cX3_chosen 33 = .ok (.getfield 12, 3) := by decide +kernel
theorem dX3_chosen_36 : decode cX3_chosen 36 = .ok (.iload_n 1, 1) := by decide +kernel
theorem dX3_chosen_37 : decode cX3_chosen 37 = .ok (.iload_n 2, 1) := by decide +kernel
theorem dX3_chosen_38 : decode cX3_chosen 38 = .ok (.invokevirtual 137, 3) := by decide +kernel
theorem dX3_chosen_41 : decode cX3_chosen 41 = .ok (.ireturn, 1) := by decide +kernel
set_option maxRecDepth 20000 in
theorem ggX3_loss_X2_hasPerson : GoodIn wsX3_loss wsX2_hasPerson := goodIn_r _ [6, 7, 57, 58, 59, 60, 61, 62, 63, 64] rfl (by decide +kernel)
set_option maxRecDepth 20000 in
theorem gX3_loss_X2_hasPerson : GoodIn wsX3_loss (wsV RX3 69 RX2 yX2_hasPerson wsX2_hasPerson) := goodIn_app (goodIn_r _ [2, 3, 4, 5] rfl (by decide +kernel)) ggX3_loss_X2_hasPerson
set_option maxRecDepth 20000 in
theorem ggX3_loss_X2_hasNeed : GoodIn wsX3_loss wsX2_hasNeed := goodIn_r _ [11, 12, 57, 58, 59, 60, 61, 62, 63, 64] rfl (by decide +kernel)
set_option maxRecDepth 20000 in
theorem gX3_loss_X2_hasNeed : GoodIn wsX3_loss (wsV RX3 77 RX2 yX2_hasNeed wsX2_hasNeed) := goodIn_app (goodIn_r _ [8, 9, 10, 5] rfl (by decide +kernel)) ggX3_loss_X2_hasNeed
set_option maxRecDepth 20000 in
theorem ggX3_loss_X3_refuse : GoodIn wsX3_loss wsX3_refuse := goodIn_r _ [17, 18, 48, 49, 50, 51, 52, 53, 54, 55, 56] rfl (by decide +kernel)
set_option maxRecDepth 20000 in
theorem gX3_loss_X3_refuse : GoodIn wsX3_loss (wsV RX3 43 RX3 yX3_refuse wsX3_refuse) := goodIn_app (goodIn_r _ [13, 14, 15, 16] rfl (by decide +kernel)) ggX3_loss_X3_refuse
set_option maxRecDepth 20000 in
theorem ggX3_loss_X2_lossOf : GoodIn wsX3_loss wsX2_lossOf := goodIn_r _ [22, 12, 23, 24, 25, 26, 27, 28, 29, 5, 30, 31, 32, 33, 34, 35, 36, 37, 38, 39, 40, 41, 42, 43, 44, 45, 46, 47, 57, 58, 59, 60, 61, 62, 63, 64] rfl (by decide +kernel)
set_option maxRecDepth 20000 in
theorem gX3_loss_X2_lossOf : GoodIn wsX3_loss (wsV RX3 141 RX2 yX2_lossOf wsX2_lossOf) := goodIn_app (goodIn_r _ [19, 20, 21, 5] rfl (by decide +kernel)) ggX3_loss_X2_lossOf
theorem dX3_loss_0 : decode cX3_loss 0 = .ok (.aload_n 0, 1) := by decide +kernel
theorem dX3_loss_1 : decode cX3_loss 1 = .ok (.getfield 12, 3) := by decide +kernel
theorem dX3_loss_4 : decode cX3_loss 4 = .ok (.iload_n 1, 1) := by decide +kernel
theorem dX3_loss_5 : decode cX3_loss 5 = .ok (.invokevirtual 69, 3) := by decide +kernel
theorem dX3_loss_8 : decode cX3_loss 8 = .ok (.ifCond .eq 14, 3) := by decide +kernel
theorem dX3_loss_11 : decode cX3_loss 11 = .ok (.aload_n 0, 1) := by decide +kernel
theorem dX3_loss_12 : decode cX3_loss 12 = .ok (.getfield 12, 3) := by decide +kernel
theorem dX3_loss_15 : decode cX3_loss 15 = .ok (.iload_n 2, 1) := by decide +kernel
theorem dX3_loss_16 : decode cX3_loss 16 = .ok (.invokevirtual 77, 3) := by decide +kernel
theorem dX3_loss_19 : decode cX3_loss 19 = .ok (.ifCond .ne 9, 3) := by decide +kernel
theorem dX3_loss_22 : decode cX3_loss 22 = .ok (.aload_n 0, 1) := by decide +kernel
theorem dX3_loss_23 : decode cX3_loss 23 = .ok (.iconst (-1), 1) := by decide +kernel
theorem dX3_loss_24 : decode cX3_loss 24 = .ok (.invokevirtual 43, 3) := by decide +kernel
theorem dX3_loss_27 : decode cX3_loss 27 = .ok (.ireturn, 1) := by decide +kernel
theorem dX3_loss_28 : decode cX3_loss 28 = .ok (.aload_n 0, 1) := by decide +kernel
theorem dX3_loss_29 : decode cX3_loss 29 = .ok (.getfield 12, 3) := by decide +kernel
theorem dX3_loss_32 : decode cX3_loss 32 = .ok (.iload_n 1, 1) := by decide +kernel
theorem dX3_loss_33 : decode cX3_loss 33 = .ok (.iload_n 2, 1) := by decide +kernel
theorem dX3_loss_34 : decode cX3_loss 34 = .ok (.invokevirtual 141, 3) := by decide +kernel
theorem dX3_loss_37 : decode cX3_loss 37 = .ok (.ireturn, 1) := by decide +kernel
set_option maxRecDepth 20000 in
theorem ggX3_run_X3_isRule : GoodIn wsX3_run wsX3_isRule := goodIn_r _ [4] rfl (by decide +kernel)
set_option maxRecDepth 20000 in
theorem gX3_run_X3_isRule : GoodIn wsX3_run (va_wsS RX3 134 yX3_isRule wsX3_isRule) := goodIn_app (goodIn_r _ [1, 2, 3] rfl (by decide +kernel)) ggX3_run_X3_isRule
set_option maxRecDepth 20000 in
theorem ggX3_run_X3_refuse : GoodIn wsX3_run wsX3_refuse := goodIn_r _ [8, 9, 145, 146, 147, 148, 149, 150, 151, 152, 153] rfl (by decide +kernel)
set_option maxRecDepth 20000 in
theorem gX3_run_X3_refuse : GoodIn wsX3_run (wsV RX3 43 RX3 yX3_refuse wsX3_refuse) := goodIn_app (goodIn_r _ [5, 6, 7, 3] rfl (by decide +kernel)) ggX3_run_X3_refuse
set_option maxRecDepth 20000 in
theorem ggX3_run_X3_mindOfNow : GoodIn wsX3_run wsX3_mindOfNow := goodIn_r _ [13, 14, 15, 16, 17, 18, 19, 20, 21, 22, 23, 24, 25, 26, 27, 28, 29, 30, 31, 32, 33, 34, 35, 36, 37, 38, 39, 145, 146, 147, 148, 149, 150, 151, 152, 153, 154, 155, 156, 157, 158, 159, 160, 161] rfl (by decide +kernel)
set_option maxRecDepth 20000 in
theorem gX3_run_X3_mindOfNow : GoodIn wsX3_run (wsV RX3 144 RX3 yX3_mindOfNow wsX3_mindOfNow) := goodIn_app (goodIn_r _ [10, 11, 12, 3] rfl (by decide +kernel)) ggX3_run_X3_mindOfNow
set_option maxRecDepth 20000 in
theorem ggX3_run_X3_runSum : GoodIn wsX3_run wsX3_runSum := goodIn_r _ [43, 44, 45, 46, 47, 48, 19, 49, 39, 50, 51, 52, 53, 28, 54, 55, 56, 57, 27, 58, 59, 60, 61, 62, 63, 64, 65, 66, 67, 68, 69, 70, 71, 72, 3, 73, 74, 75, 76, 77, 78, 79, 80, 81, 82, 83, 84, 85, 86, 87, 88, 89, 90, 91, 92, 93, 94, 95, 96, 26, 97, 98, 99, 100, 38, 29, 37, 101, 102, 103, 104, 21, 105, 106, 107, 108, 109, 110, 111, 112, 113, 114, 32, 115, 116, 117, 118, 119, 120, 121, 122, 34, 35, 36, 123, 124, 125, 126, 127, 128, 129, 130, 131, 132, 133, 134, 135, 136, 137, 138, 139, 140, 141, 142, 143, 144, 154, 155, 156, 157, 158, 159, 160, 161, 145, 146, 147, 148, 149, 150, 151, 152, 153] rfl (by decide +kernel)
set_option maxRecDepth 20000 in
theorem gX3_run_X3_runSum : GoodIn wsX3_run (wsV RX3 148 RX3 yX3_runSum wsX3_runSum) := goodIn_app (goodIn_r _ [40, 41, 42, 3] rfl (by decide +kernel)) ggX3_run_X3_runSum
theorem dX3_run_0 : decode cX3_run 0 = .ok (.iload_n 1, 1) := by decide +kernel
theorem dX3_run_1 : decode cX3_run 1 = .ok (.invokestatic 134, 3) := by decide +kernel
theorem dX3_run_4 : decode cX3_run 4 = .ok (.ifCond .ne 10, 3) := by decide +kernel
theorem dX3_run_7 : decode cX3_run 7 = .ok (.aload_n 0, 1) := by decide +kernel
theorem dX3_run_8 : decode cX3_run 8 = .ok (.bipush (-2), 2) := by decide +kernel
theorem dX3_run_10 : decode cX3_run 10 = .ok (.invokevirtual 43, 3) := by decide +kernel
theorem dX3_run_13 : decode cX3_run 13 = .ok (.ireturn, 1) := by decide +kernel
theorem dX3_run_14 : decode cX3_run 14 = .ok (.aload_n 0, 1) := by decide +kernel
theorem dX3_run_15 : decode cX3_run 15 = .ok (.aload_n 0, 1) := by decide +kernel
theorem dX3_run_16 : decode cX3_run 16 = .ok (.invokevirtual 144, 3) := by decide +kernel
theorem dX3_run_19 : decode cX3_run 19 = .ok (.iload_n 1, 1) := by decide +kernel
theorem dX3_run_20 : decode cX3_run 20 = .ok (.iconst 0, 1) := by decide +kernel
theorem dX3_run_21 : decode cX3_run 21 = .ok (.invokevirtual 148, 3) := by decide +kernel
theorem dX3_run_24 : decode cX3_run 24 = .ok (.ireturn, 1) := by decide +kernel
set_option maxRecDepth 20000 in
theorem ggX3_without_X3_isRule : GoodIn wsX3_without wsX3_isRule := goodIn_r _ [7] rfl (by decide +kernel)
set_option maxRecDepth 20000 in
theorem gX3_without_X3_isRule : GoodIn wsX3_without (va_wsS RX3 134 yX3_isRule wsX3_isRule) := goodIn_app (goodIn_r _ [4, 5, 6] rfl (by decide +kernel)) ggX3_without_X3_isRule
set_option maxRecDepth 20000 in
theorem ggX3_without_X3_refuse : GoodIn wsX3_without wsX3_refuse := goodIn_r _ [11, 12, 149, 150, 151, 152, 153, 154, 155, 156, 157] rfl (by decide +kernel)
set_option maxRecDepth 20000 in
theorem gX3_without_X3_refuse : GoodIn wsX3_without (wsV RX3 43 RX3 yX3_refuse wsX3_refuse) := goodIn_app (goodIn_r _ [8, 9, 10, 6] rfl (by decide +kernel)) ggX3_without_X3_refuse
set_option maxRecDepth 20000 in
theorem ggX3_without_X3_mindOfNow : GoodIn wsX3_without wsX3_mindOfNow := goodIn_r _ [16, 1, 2, 17, 18, 19, 20, 21, 22, 23, 24, 25, 26, 27, 28, 29, 30, 31, 32, 33, 34, 35, 36, 37, 38, 39, 40, 149, 150, 151, 152, 153, 154, 155, 156, 157, 158, 159, 160, 161, 162, 163, 164, 165] rfl (by decide +kernel)
set_option maxRecDepth 20000 in
theorem gX3_without_X3_mindOfNow : GoodIn wsX3_without (wsV RX3 144 RX3 yX3_mindOfNow wsX3_mindOfNow) := goodIn_app (goodIn_r _ [13, 14, 15, 6] rfl (by decide +kernel)) ggX3_without_X3_mindOfNow
set_option maxRecDepth 20000 in
theorem ggX3_without_X3_runSum : GoodIn wsX3_without wsX3_runSum := goodIn_r _ [44, 3, 45, 46, 47, 48, 20, 49, 40, 50, 51, 52, 53, 29, 54, 55, 56, 57, 28, 58, 59, 60, 61, 62, 63, 64, 65, 66, 67, 68, 69, 70, 71, 72, 6, 73, 74, 75, 76, 77, 78, 79, 80, 81, 82, 83, 84, 85, 86, 87, 88, 89, 90, 91, 92, 93, 94, 95, 96, 27, 97, 98, 99, 100, 39, 30, 38, 101, 102, 103, 104, 22, 105, 106, 107, 108, 109, 110, 111, 112, 113, 114, 33, 115, 116, 117, 118, 119, 120, 121, 122, 35, 36, 37, 123, 124, 125, 126, 127, 128, 129, 130, 131, 132, 133, 134, 135, 136, 137, 138, 139, 140, 141, 142, 143, 144, 158, 159, 160, 161, 162, 163, 164, 165, 149, 150, 151, 152, 153, 154, 155, 156, 157] rfl (by decide +kernel)
set_option maxRecDepth 20000 in
theorem gX3_without_X3_runSum : GoodIn wsX3_without (wsV RX3 148 RX3 yX3_runSum wsX3_runSum) := goodIn_app (goodIn_r _ [41, 42, 43, 6] rfl (by decide +kernel)) ggX3_without_X3_runSum
set_option maxRecDepth 20000 in
theorem ggX3_without_X2_handsLeftFrom : GoodIn wsX3_without wsX2_handsLeftFrom := goodIn_r _ [148, 29, 54, 55, 56, 20, 57, 28, 58, 59, 60, 61, 62, 63, 64, 65, 66, 67, 68, 158, 159, 160, 161, 162, 163, 164, 165] rfl (by decide +kernel)
set_option maxRecDepth 20000 in
theorem gX3_without_X2_handsLeftFrom : GoodIn wsX3_without (wsV RX3 151 RX2 yX2_handsLeftFrom wsX2_handsLeftFrom) := goodIn_app (goodIn_r _ [145, 146, 147, 20] rfl (by decide +kernel)) ggX3_without_X2_handsLeftFrom
theorem dX3_without_0 : decode cX3_without 0 = .ok (.iload_n 1, 1) := by decide +kernel
theorem dX3_without_1 : decode cX3_without 1 = .ok (.invokestatic 134, 3) := by decide +kernel
theorem dX3_without_4 : decode cX3_without 4 = .ok (.ifCond .ne 10, 3) := by decide +kernel
theorem dX3_without_7 : decode cX3_without 7 = .ok (.aload_n 0, 1) := by decide +kernel
theorem dX3_without_8 : decode cX3_without 8 = .ok (.bipush (-2), 2) := by decide +kernel
theorem dX3_without_10 : decode cX3_without 10 = .ok (.invokevirtual 43, 3) := by decide +kernel
theorem dX3_without_13 : decode cX3_without 13 = .ok (.ireturn, 1) := by decide +kernel
theorem dX3_without_14 : decode cX3_without 14 = .ok (.aload_n 0, 1) := by decide +kernel
theorem dX3_without_15 : decode cX3_without 15 = .ok (.aload_n 0, 1) := by decide +kernel
theorem dX3_without_16 : decode cX3_without 16 = .ok (.invokevirtual 144, 3) := by decide +kernel
theorem dX3_without_19 : decode cX3_without 19 = .ok (.iload_n 1, 1) := by decide +kernel
theorem dX3_without_20 : decode cX3_without 20 = .ok (.iconst 0, 1) := by decide +kernel
theorem dX3_without_21 : decode cX3_without 21 = .ok (.invokevirtual 148, 3) := by decide +kernel
theorem dX3_without_24 : decode cX3_without 24 = .ok (.pop, 1) := by decide +kernel
theorem dX3_without_25 : decode cX3_without 25 = .ok (.aload_n 0, 1) := by decide +kernel
theorem dX3_without_26 : decode cX3_without 26 = .ok (.getfield 16, 3) := by decide +kernel
theorem dX3_without_29 : decode cX3_without 29 = .ok (.aload_n 0, 1) := by decide +kernel
theorem dX3_without_30 : decode cX3_without 30 = .ok (.getfield 12, 3) := by decide +kernel
theorem dX3_without_33 : decode cX3_without 33 = .ok (.getfield 131, 3) := by decide +kernel
theorem dX3_without_36 : decode cX3_without 36 = .ok (.invokevirtual 151, 3) := by decide +kernel
theorem dX3_without_39 : decode cX3_without 39 = .ok (.ireturn, 1) := by decide +kernel
set_option maxRecDepth 20000 in
theorem ggX3_most_X1_fits : GoodIn wsX3_most wsX1_fits := goodIn_r _ [7, 8, 9, 10, 11, 12, 13, 14, 15, 16, 17, 18, 19, 20, 21, 22, 23, 24, 25, 26, 27, 28, 29, 30, 31, 32, 188, 189, 190, 191, 192, 193, 194, 195] rfl (by decide +kernel)
set_option maxRecDepth 20000 in
theorem gX3_most_X1_fits : GoodIn wsX3_most (wsV RX3 154 RX1 yX1_fits wsX1_fits) := goodIn_app (goodIn_r _ [3, 4, 5, 6] rfl (by decide +kernel)) ggX3_most_X1_fits
set_option maxRecDepth 20000 in
theorem ggX3_most_X3_refuse : GoodIn wsX3_most wsX3_refuse := goodIn_r _ [37, 38, 179, 180, 181, 182, 183, 184, 185, 186, 187] rfl (by decide +kernel)
set_option maxRecDepth 20000 in
theorem gX3_most_X3_refuse : GoodIn wsX3_most (wsV RX3 43 RX3 yX3_refuse wsX3_refuse) := goodIn_app (goodIn_r _ [33, 34, 35, 36] rfl (by decide +kernel)) ggX3_most_X3_refuse
set_option maxRecDepth 20000 in
theorem ggX3_most_X3_mindOfNow : GoodIn wsX3_most wsX3_mindOfNow := goodIn_r _ [42, 43, 2, 44, 45, 46, 13, 47, 48, 49, 50, 51, 52, 53, 15, 20, 54, 55, 56, 57, 58, 59, 60, 61, 62, 63, 64, 179, 180, 181, 182, 183, 184, 185, 186, 187, 188, 189, 190, 191, 192, 193, 194, 195] rfl (by decide +kernel)
set_option maxRecDepth 20000 in
theorem gX3_most_X3_mindOfNow : GoodIn wsX3_most (wsV RX3 144 RX3 yX3_mindOfNow wsX3_mindOfNow) := goodIn_app (goodIn_r _ [39, 40, 41, 36] rfl (by decide +kernel)) ggX3_most_X3_mindOfNow
set_option maxRecDepth 20000 in
theorem ggX3_most_X1_mostOf : GoodIn wsX3_most wsX1_mostOf := goodIn_r _ [68, 69, 70, 71, 72, 73, 74, 6, 75, 9, 8, 76, 10, 11, 12, 13, 14, 15, 77, 23, 24, 25, 21, 26, 27, 28, 29, 30, 31, 32, 78, 79, 80, 81, 82, 83, 84, 85, 86, 87, 88, 89, 90, 91, 92, 93, 94, 95, 96, 97, 98, 99, 100, 101, 64, 102, 103, 104, 105, 20, 22, 106, 107, 108, 109, 110, 111, 112, 113, 53, 114, 115, 116, 117, 63, 54, 62, 118, 119, 120, 121, 48, 122, 123, 124, 125, 126, 127, 128, 129, 130, 131, 57, 132, 133, 134, 135, 136, 137, 138, 139, 140, 141, 142, 143, 144, 145, 59, 60, 61, 146, 147, 148, 149, 150, 151, 152, 153, 154, 155, 156, 157, 158, 159, 160, 161, 162, 163, 164, 165, 166, 167, 168, 169, 170, 171, 172, 173, 174, 175, 176, 177, 178, 196, 197, 198, 199, 200, 201, 202, 188, 189, 190, 191, 192, 193, 194, 195] rfl (by decide +kernel)
set_option maxRecDepth 20000 in
theorem gX3_most_X1_mostOf : GoodIn wsX3_most (wsV RX3 158 RX1 yX1_mostOf wsX1_mostOf) := goodIn_app (goodIn_r _ [65, 66, 67, 6] rfl (by decide +kernel)) ggX3_most_X1_mostOf
theorem dX3_most_0 : decode cX3_most 0 = .ok (.aload_n 0, 1) := by decide +kernel
theorem dX3_most_1 : decode cX3_most 1 = .ok (.getfield 25, 3) := by decide +kernel
theorem dX3_most_4 : decode cX3_most 4 = .ok (.aload_n 0, 1) := by decide +kernel
theorem dX3_most_5 : decode cX3_most 5 = .ok (.getfield 12, 3) := by decide +kernel
theorem dX3_most_8 : decode cX3_most 8 = .ok (.invokevirtual 154, 3) := by decide +kernel
theorem dX3_most_11 : decode cX3_most 11 = .ok (.ifCond .ne 10, 3) := by decide +kernel
theorem dX3_most_14 : decode cX3_most 14 = .ok (.aload_n 0, 1) := by decide +kernel
theorem dX3_most_15 : decode cX3_most 15 = .ok (.bipush (-6), 2) := by decide +kernel
theorem dX3_most_17 : decode cX3_most 17 = .ok (.invokevirtual 43, 3) := by decide +kernel
theorem dX3_most_20 : decode cX3_most 20 = .ok (.ireturn, 1) := by decide +kernel
theorem dX3_most_21 : decode cX3_most 21 = .ok (.aload_n 0, 1) := by decide +kernel
theorem dX3_most_22 : decode cX3_most 22 = .ok (.getfield 25, 3) := by decide +kernel
theorem dX3_most_25 : decode cX3_most 25 = .ok (.aload_n 0, 1) := by decide +kernel
theorem dX3_most_26 : decode cX3_most 26 = .ok (.invokevirtual 144, 3) := by decide +kernel
theorem dX3_most_29 : decode cX3_most 29 = .ok (.invokevirtual 158, 3) := by decide +kernel
theorem dX3_most_32 : decode cX3_most 32 = .ok (.ireturn, 1) := by decide +kernel
set_option maxRecDepth 20000 in
theorem ggX3_first_X1_fits : GoodIn wsX3_first wsX1_fits := goodIn_r _ [8, 9, 10, 11, 12, 13, 14, 15, 16, 17, 18, 19, 20, 21, 22, 23, 24, 25, 26, 27, 28, 29, 30, 31, 32, 33, 196, 197, 198, 199, 200, 201, 202, 203] rfl (by decide +kernel)
set_option maxRecDepth 20000 in
theorem gX3_first_X1_fits : GoodIn wsX3_first (wsV RX3 154 RX1 yX1_fits wsX1_fits) := goodIn_app (goodIn_r _ [4, 5, 6, 7] rfl (by decide +kernel)) ggX3_first_X1_fits
set_option maxRecDepth 20000 in
theorem ggX3_first_X3_refuse : GoodIn wsX3_first wsX3_refuse := goodIn_r _ [38, 39, 180, 181, 182, 183, 184, 185, 186, 187, 188] rfl (by decide +kernel)
set_option maxRecDepth 20000 in
theorem gX3_first_X3_refuse : GoodIn wsX3_first (wsV RX3 43 RX3 yX3_refuse wsX3_refuse) := goodIn_app (goodIn_r _ [34, 35, 36, 37] rfl (by decide +kernel)) ggX3_first_X3_refuse
set_option maxRecDepth 20000 in
theorem ggX3_first_X3_mindOfNow : GoodIn wsX3_first wsX3_mindOfNow := goodIn_r _ [43, 44, 2, 45, 46, 47, 14, 48, 49, 50, 51, 52, 53, 54, 16, 21, 55, 56, 57, 58, 59, 60, 61, 62, 63, 64, 65, 180, 181, 182, 183, 184, 185, 186, 187, 188, 196, 197, 198, 199, 200, 201, 202, 203] rfl (by decide +kernel)
set_option maxRecDepth 20000 in
theorem gX3_first_X3_mindOfNow : GoodIn wsX3_first (wsV RX3 144 RX3 yX3_mindOfNow wsX3_mindOfNow) := goodIn_app (goodIn_r _ [40, 41, 42, 37] rfl (by decide +kernel)) ggX3_first_X3_mindOfNow
set_option maxRecDepth 20000 in
theorem ggX3_first_X1_mostOf : GoodIn wsX3_first wsX1_mostOf := goodIn_r _ [69, 70, 71, 72, 73, 74, 75, 7, 76, 10, 9, 77, 11, 12, 13, 14, 15, 16, 78, 24, 25, 26, 22, 27, 28, 29, 30, 31, 32, 33, 79, 80, 81, 82, 83, 84, 85, 86, 87, 88, 89, 90, 91, 92, 93, 94, 95, 96, 97, 98, 99, 100, 101, 102, 65, 103, 104, 105, 106, 21, 23, 107, 108, 109, 110, 111, 112, 113, 114, 54, 115, 116, 117, 118, 64, 55, 63, 119, 120, 121, 122, 49, 123, 124, 125, 126, 127, 128, 129, 130, 131, 132, 58, 133, 134, 135, 136, 137, 138, 139, 140, 141, 142, 143, 144, 145, 146, 60, 61, 62, 147, 148, 149, 150, 151, 152, 153, 154, 155, 156, 157, 158, 159, 160, 161, 162, 163, 164, 165, 166, 167, 168, 169, 170, 171, 172, 173, 174, 175, 176, 177, 178, 179, 189, 190, 191, 192, 193, 194, 195, 196, 197, 198, 199, 200, 201, 202, 203] rfl (by decide +kernel)
set_option maxRecDepth 20000 in
theorem gX3_first_X1_mostOf : GoodIn wsX3_first (wsV RX3 158 RX1 yX1_mostOf wsX1_mostOf) := goodIn_app (goodIn_r _ [66, 67, 68, 7] rfl (by decide +kernel)) ggX3_first_X1_mostOf
theorem dX3_first_0 : decode cX3_first 0 = .ok (.aload_n 0, 1) := by decide +kernel
theorem dX3_first_1 : decode cX3_first 1 = .ok (.getfield 25, 3) := by decide +kernel
theorem dX3_first_4 : decode cX3_first 4 = .ok (.aload_n 0, 1) := by decide +kernel
theorem dX3_first_5 : decode cX3_first 5 = .ok (.getfield 12, 3) := by decide +kernel
theorem dX3_first_8 : decode cX3_first 8 = .ok (.invokevirtual 154, 3) := by decide +kernel
theorem dX3_first_11 : decode cX3_first 11 = .ok (.ifCond .ne 10, 3) := by decide +kernel
theorem dX3_first_14 : decode cX3_first 14 = .ok (.aload_n 0, 1) := by decide +kernel
theorem dX3_first_15 : decode cX3_first 15 = .ok (.bipush (-6), 2) := by decide +kernel
theorem dX3_first_17 : decode cX3_first 17 = .ok (.invokevirtual 43, 3) := by decide +kernel
theorem dX3_first_20 : decode cX3_first 20 = .ok (.ireturn, 1) := by decide +kernel
theorem dX3_first_21 : decode cX3_first 21 = .ok (.aload_n 0, 1) := by decide +kernel
theorem dX3_first_22 : decode cX3_first 22 = .ok (.getfield 25, 3) := by decide +kernel
theorem dX3_first_25 : decode cX3_first 25 = .ok (.aload_n 0, 1) := by decide +kernel
theorem dX3_first_26 : decode cX3_first 26 = .ok (.invokevirtual 144, 3) := by decide +kernel
theorem dX3_first_29 : decode cX3_first 29 = .ok (.invokevirtual 158, 3) := by decide +kernel
theorem dX3_first_32 : decode cX3_first 32 = .ok (.pop, 1) := by decide +kernel
theorem dX3_first_33 : decode cX3_first 33 = .ok (.aload_n 0, 1) := by decide +kernel
theorem dX3_first_34 : decode cX3_first 34 = .ok (.getfield 25, 3) := by decide +kernel
theorem dX3_first_37 : decode cX3_first 37 = .ok (.getfield 161, 3) := by decide +kernel
theorem dX3_first_40 : decode cX3_first 40 = .ok (.ireturn, 1) := by decide +kernel
set_option maxRecDepth 20000 in
theorem ggX3_gap_X3_isRule : GoodIn wsX3_gap wsX3_isRule := goodIn_r _ [6] rfl (by decide +kernel)
set_option maxRecDepth 20000 in
theorem gX3_gap_X3_isRule : GoodIn wsX3_gap (va_wsS RX3 134 yX3_isRule wsX3_isRule) := goodIn_app (goodIn_r _ [3, 4, 5] rfl (by decide +kernel)) ggX3_gap_X3_isRule
set_option maxRecDepth 20000 in
theorem ggX3_gap_X3_refuseFarOff : GoodIn wsX3_gap wsX3_refuseFarOff := goodIn_r _ [10, 11, 12, 13, 14, 5, 15, 16, 222, 223, 224, 225, 226, 227, 228, 229, 230] rfl (by decide +kernel)
set_option maxRecDepth 20000 in
theorem gX3_gap_X3_refuseFarOff : GoodIn wsX3_gap (wsV RX3 164 RX3 yX3_refuseFarOff wsX3_refuseFarOff) := goodIn_app (goodIn_r _ [7, 8, 9, 5] rfl (by decide +kernel)) ggX3_gap_X3_refuseFarOff
set_option maxRecDepth 20000 in
theorem ggX3_gap_X1_fits : GoodIn wsX3_gap wsX1_fits := goodIn_r _ [21, 22, 23, 24, 25, 26, 27, 28, 29, 30, 31, 32, 33, 34, 35, 36, 37, 38, 39, 40, 41, 42, 43, 44, 45, 46, 231, 232, 233, 234, 235, 236, 237, 238] rfl (by decide +kernel)
set_option maxRecDepth 20000 in
theorem gX3_gap_X1_fits : GoodIn wsX3_gap (wsV RX3 154 RX1 yX1_fits wsX1_fits) := goodIn_app (goodIn_r _ [17, 18, 19, 20] rfl (by decide +kernel)) ggX3_gap_X1_fits
set_option maxRecDepth 20000 in
theorem ggX3_gap_X3_mindOfNow : GoodIn wsX3_gap wsX3_mindOfNow := goodIn_r _ [50, 51, 2, 52, 53, 54, 27, 55, 56, 57, 58, 59, 60, 61, 29, 34, 62, 63, 64, 65, 66, 67, 68, 69, 70, 71, 72, 222, 223, 224, 225, 226, 227, 228, 229, 230, 231, 232, 233, 234, 235, 236, 237, 238] rfl (by decide +kernel)
set_option maxRecDepth 20000 in
theorem gX3_gap_X3_mindOfNow : GoodIn wsX3_gap (wsV RX3 144 RX3 yX3_mindOfNow wsX3_mindOfNow) := goodIn_app (goodIn_r _ [47, 48, 49, 5] rfl (by decide +kernel)) ggX3_gap_X3_mindOfNow
set_option maxRecDepth 20000 in
theorem ggX3_gap_X1_mostOf : GoodIn wsX3_gap wsX1_mostOf := goodIn_r _ [76, 77, 78, 79, 80, 81, 82, 20, 83, 23, 22, 84, 24, 25, 26, 27, 28, 29, 85, 37, 38, 39, 35, 40, 41, 42, 43, 44, 45, 46, 86, 87, 88, 89, 90, 91, 92, 93, 94, 95, 96, 97, 98, 99, 100, 101, 102, 103, 104, 105, 106, 107, 108, 109, 72, 110, 111, 112, 113, 34, 36, 114, 115, 116, 117, 118, 119, 120, 121, 61, 122, 123, 124, 125, 71, 62, 70, 126, 127, 128, 129, 56, 130, 131, 132, 133, 134, 135, 136, 137, 138, 139, 65, 140, 141, 142, 143, 144, 145, 146, 147, 148, 149, 150, 151, 152, 153, 67, 68, 69, 154, 155, 156, 157, 158, 159, 160, 161, 162, 163, 164, 165, 166, 167, 168, 169, 170, 171, 172, 173, 174, 175, 176, 177, 178, 179, 180, 181, 182, 183, 184, 185, 186, 239, 240, 241, 242, 243, 244, 245, 231, 232, 233, 234, 235, 236, 237, 238] rfl (by decide +kernel)
set_option maxRecDepth 20000 in
theorem gX3_gap_X1_mostOf : GoodIn wsX3_gap (wsV RX3 158 RX1 yX1_mostOf wsX1_mostOf) := goodIn_app (goodIn_r _ [73, 74, 75, 20] rfl (by decide +kernel)) ggX3_gap_X1_mostOf
set_option maxRecDepth 20000 in
theorem ggX3_gap_X3_runSum : GoodIn wsX3_gap wsX3_runSum := goodIn_r _ [190, 191, 192, 193, 107, 108, 27, 109, 72, 110, 111, 112, 113, 34, 35, 25, 26, 28, 29, 36, 37, 38, 39, 40, 41, 42, 43, 44, 45, 46, 194, 195, 196, 197, 5, 198, 199, 200, 201, 202, 203, 204, 205, 206, 100, 101, 102, 103, 104, 105, 106, 114, 115, 116, 117, 118, 119, 120, 121, 61, 122, 123, 124, 125, 71, 62, 70, 126, 127, 128, 129, 56, 130, 131, 132, 133, 134, 135, 136, 137, 138, 139, 65, 140, 207, 208, 209, 210, 211, 212, 213, 67, 68, 69, 214, 151, 152, 153, 215, 216, 217, 218, 219, 220, 221, 155, 156, 157, 158, 159, 160, 161, 162, 163, 164, 165, 231, 232, 233, 234, 235, 236, 237, 238, 222, 223, 224, 225, 226, 227, 228, 229, 230] rfl (by decide +kernel)
set_option maxRecDepth 20000 in
theorem gX3_gap_X3_runSum : GoodIn wsX3_gap (wsV RX3 148 RX3 yX3_runSum wsX3_runSum) := goodIn_app (goodIn_r _ [187, 188, 189, 5] rfl (by decide +kernel)) ggX3_gap_X3_runSum
theorem dX3_gap_0 : decode cX3_gap 0 = .ok (.iload_n 1, 1) := by decide +kernel
theorem dX3_gap_1 : decode cX3_gap 1 = .ok (.invokestatic 134, 3) := by decide +kernel
theorem dX3_gap_4 : decode cX3_gap 4 = .ok (.ifCond .ne 10, 3) := by decide +kernel
theorem dX3_gap_7 : decode cX3_gap 7 = .ok (.aload_n 0, 1) := by decide +kernel
theorem dX3_gap_8 : decode cX3_gap 8 = .ok (.bipush (-2), 2) := by decide +kernel
theorem dX3_gap_10 : decode cX3_gap 10 = .ok (.invokevirtual 164, 3) := by decide +kernel
theorem dX3_gap_13 : decode cX3_gap 13 = .ok (.ireturn, 1) := by decide +kernel
theorem dX3_gap_14 : decode cX3_gap 14 = .ok (.aload_n 0, 1) := by decide +kernel
theorem dX3_gap_15 : decode cX3_gap 15 = .ok (.getfield 25, 3) := by decide +kernel
theorem dX3_gap_18 : decode cX3_gap 18 = .ok (.aload_n 0, 1) := by decide +kernel
theorem dX3_gap_19 : decode cX3_gap 19 = .ok (.getfield 12, 3) := by decide +kernel
theorem dX3_gap_22 : decode cX3_gap 22 = .ok (.invokevirtual 154, 3) := by decide +kernel
theorem dX3_gap_25 : decode cX3_gap 25 = .ok (.ifCond .ne 10, 3) := by decide +kernel
theorem dX3_gap_28 : decode cX3_gap 28 = .ok (.aload_n 0, 1) := by decide +kernel
theorem dX3_gap_29 : decode cX3_gap 29 = .ok (.bipush (-6), 2) := by decide +kernel
theorem dX3_gap_31 : decode cX3_gap 31 = .ok (.invokevirtual 164, 3) := by decide +kernel
theorem dX3_gap_34 : decode cX3_gap 34 = .ok (.ireturn, 1) := by decide +kernel
theorem dX3_gap_35 : decode cX3_gap 35 = .ok (.aload_n 0, 1) := by decide +kernel
theorem dX3_gap_36 : decode cX3_gap 36 = .ok (.getfield 25, 3) := by decide +kernel
theorem dX3_gap_39 : decode cX3_gap 39 = .ok (.aload_n 0, 1) := by decide +kernel
theorem dX3_gap_40 : decode cX3_gap 40 = .ok (.invokevirtual 144, 3) := by decide +kernel
theorem dX3_gap_43 : decode cX3_gap 43 = .ok (.invokevirtual 158, 3) := by decide +kernel
theorem dX3_gap_46 : decode cX3_gap 46 = .ok (.istore_n 2, 1) := by decide +kernel
theorem dX3_gap_47 : decode cX3_gap 47 = .ok (.iload_n 2, 1) := by decide +kernel
theorem dX3_gap_48 : decode cX3_gap 48 = .ok (.aload_n 0, 1) := by decide +kernel
theorem dX3_gap_49 : decode cX3_gap 49 = .ok (.aload_n 0, 1) := by decide +kernel
theorem dX3_gap_50 : decode cX3_gap 50 = .ok (.invokevirtual 144, 3) := by decide +kernel
theorem dX3_gap_53 : decode cX3_gap 53 = .ok (.iload_n 1, 1) := by decide +kernel
theorem dX3_gap_54 : decode cX3_gap 54 = .ok (.iconst 0, 1) := by decide +kernel
theorem dX3_gap_55 : decode cX3_gap 55 = .ok (.invokevirtual 148, 3) := by decide +kernel
theorem dX3_gap_58 : decode cX3_gap 58 = .ok (.isub, 1) := by decide +kernel
theorem dX3_gap_59 : decode cX3_gap 59 = .ok (.ireturn, 1) := by decide +kernel
set_option maxRecDepth 20000 in
theorem ggX3_worth_X3_isPair : GoodIn wsX3_worth wsX3_isPair := goodIn_r _ [7, 2, 8, 9, 10, 11, 12, 13, 198, 199, 200, 201, 202, 203, 204, 205, 206, 207, 208, 209, 210, 211, 212, 213, 214] rfl (by decide +kernel)
set_option maxRecDepth 20000 in
theorem gX3_worth_X3_isPair : GoodIn wsX3_worth (wsV RX3 102 RX3 yX3_isPair wsX3_isPair) := goodIn_app (goodIn_r _ [3, 4, 5, 6] rfl (by decide +kernel)) ggX3_worth_X3_isPair
set_option maxRecDepth 20000 in
theorem ggX3_worth_X3_refuseFarOff : GoodIn wsX3_worth wsX3_refuseFarOff := goodIn_r _ [17, 18, 19, 20, 21, 6, 22, 23, 198, 199, 200, 201, 202, 203, 204, 205, 206] rfl (by decide +kernel)
set_option maxRecDepth 20000 in
theorem gX3_worth_X3_refuseFarOff : GoodIn wsX3_worth (wsV RX3 164 RX3 yX3_refuseFarOff wsX3_refuseFarOff) := goodIn_app (goodIn_r _ [14, 15, 16, 6] rfl (by decide +kernel)) ggX3_worth_X3_refuseFarOff
set_option maxRecDepth 20000 in
theorem ggX3_worth_X1_fits : GoodIn wsX3_worth wsX1_fits := goodIn_r _ [28, 29, 30, 31, 32, 33, 11, 34, 35, 36, 37, 38, 39, 40, 41, 42, 43, 44, 45, 46, 47, 48, 49, 50, 51, 52, 207, 208, 209, 210, 211, 212, 213, 214] rfl (by decide +kernel)
set_option maxRecDepth 20000 in
theorem gX3_worth_X1_fits : GoodIn wsX3_worth (wsV RX3 154 RX1 yX1_fits wsX1_fits) := goodIn_app (goodIn_r _ [24, 25, 26, 27] rfl (by decide +kernel)) ggX3_worth_X1_fits
set_option maxRecDepth 20000 in
theorem ggX3_worth_X2_bookIsFull : GoodIn wsX3_worth wsX2_bookIsFull := goodIn_r _ [56, 57, 207, 208, 209, 210, 211, 212, 213, 214] rfl (by decide +kernel)
set_option maxRecDepth 20000 in
theorem gX3_worth_X2_bookIsFull : GoodIn wsX3_worth (wsV RX3 118 RX2 yX2_bookIsFull wsX2_bookIsFull) := goodIn_app (goodIn_r _ [53, 54, 55, 11] rfl (by decide +kernel)) ggX3_worth_X2_bookIsFull
set_option maxRecDepth 20000 in
theorem ggX3_worth_X3_mindOfNow : GoodIn wsX3_worth wsX3_mindOfNow := goodIn_r _ [61, 62, 2, 63, 64, 65, 11, 66, 67, 68, 69, 70, 71, 13, 35, 40, 57, 72, 73, 74, 75, 76, 77, 78, 79, 80, 81, 198, 199, 200, 201, 202, 203, 204, 205, 206, 207, 208, 209, 210, 211, 212, 213, 214] rfl (by decide +kernel)
set_option maxRecDepth 20000 in
theorem gX3_worth_X3_mindOfNow : GoodIn wsX3_worth (wsV RX3 144 RX3 yX3_mindOfNow wsX3_mindOfNow) := goodIn_app (goodIn_r _ [58, 59, 60, 6] rfl (by decide +kernel)) ggX3_worth_X3_mindOfNow
set_option maxRecDepth 20000 in
theorem ggX3_worth_X1_mostOf : GoodIn wsX3_worth wsX1_mostOf := goodIn_r _ [85, 86, 87, 88, 89, 90, 91, 27, 92, 30, 29, 93, 31, 32, 33, 11, 34, 35, 94, 43, 44, 45, 41, 46, 47, 48, 49, 50, 51, 52, 95, 96, 97, 98, 99, 100, 101, 102, 103, 104, 105, 106, 107, 108, 109, 110, 111, 112, 113, 114, 115, 116, 117, 118, 81, 119, 120, 121, 122, 40, 42, 123, 124, 125, 126, 127, 9, 10, 12, 13, 128, 129, 130, 131, 80, 57, 79, 132, 133, 134, 135, 67, 136, 137, 138, 139, 140, 141, 142, 143, 144, 145, 74, 146, 147, 148, 149, 150, 151, 152, 153, 154, 155, 156, 157, 158, 159, 76, 77, 78, 160, 161, 162, 163, 164, 165, 166, 167, 168, 169, 170, 171, 172, 173, 174, 175, 176, 177, 178, 179, 180, 181, 182, 183, 184, 185, 186, 187, 188, 189, 190, 191, 192, 215, 216, 217, 218, 219, 220, 221, 207, 208, 209, 210, 211, 212, 213, 214] rfl (by decide +kernel)
set_option maxRecDepth 20000 in
theorem gX3_worth_X1_mostOf : GoodIn wsX3_worth (wsV RX3 158 RX1 yX1_mostOf wsX1_mostOf) := goodIn_app (goodIn_r _ [82, 83, 84, 27] rfl (by decide +kernel)) ggX3_worth_X1_mostOf
set_option maxRecDepth 20000 in
theorem ggX3_worth_X3_mindWithHelp : GoodIn wsX3_worth wsX3_mindWithHelp := goodIn_r _ [196, 62, 2, 63, 64, 65, 11, 66, 67, 68, 69, 70, 71, 13, 35, 40, 57, 72, 73, 74, 75, 76, 77, 78, 79, 80, 81, 197, 165, 166, 167, 198, 199, 200, 201, 202, 203, 204, 205, 206, 207, 208, 209, 210, 211, 212, 213, 214] rfl (by decide +kernel)
set_option maxRecDepth 20000 in
theorem gX3_worth_X3_mindWithHelp : GoodIn wsX3_worth (wsV RX3 167 RX3 yX3_mindWithHelp wsX3_mindWithHelp) := goodIn_app (goodIn_r _ [193, 194, 195, 6] rfl (by decide +kernel)) ggX3_worth_X3_mindWithHelp
theorem dX3_worth_0 : decode cX3_worth 0 = .ok (.aload_n 0, 1) := by decide +kernel
theorem dX3_worth_1 : decode cX3_worth 1 = .ok (.iload_n 1, 1) := by decide +kernel
theorem dX3_worth_2 : decode cX3_worth 2 = .ok (.iload_n 2, 1) := by decide +kernel
theorem dX3_worth_3 : decode cX3_worth 3 = .ok (.invokevirtual 102, 3) := by decide +kernel
theorem dX3_worth_6 : decode cX3_worth 6 = .ok (.ifCond .ne 9, 3) := by decide +kernel
theorem dX3_worth_9 : decode cX3_worth 9 = .ok (.aload_n 0, 1) := by decide +kernel
theorem dX3_worth_10 : decode cX3_worth 10 = .ok (.iconst (-1), 1) := by decide +kernel
theorem dX3_worth_11 : decode cX3_worth 11 = .ok (.invokevirtual 164, 3) := by decide +kernel
theorem dX3_worth_14 : decode cX3_worth 14 = .ok (.ireturn, 1) := by decide +kernel
theorem dX3_worth_15 : decode cX3_worth 15 = .ok (.aload_n 0, 1) := by decide +kernel
theorem dX3_worth_16 : decode cX3_worth 16 = .ok (.getfield 25, 3) := by decide +kernel
theorem dX3_worth_19 : decode cX3_worth 19 = .ok (.aload_n 0, 1) := by decide +kernel
theorem dX3_worth_20 : decode cX3_worth 20 = .ok (.getfield 12, 3) := by decide +kernel
theorem dX3_worth_23 : decode cX3_worth 23 = .ok (.invokevirtual 154, 3) := by decide +kernel
theorem dX3_worth_26 : decode cX3_worth 26 = .ok (.ifCond .eq 13, 3) := by decide +kernel
theorem dX3_worth_29 : decode cX3_worth 29 = .ok (.aload_n 0, 1) := by decide +kernel
theorem dX3_worth_30 : decode cX3_worth 30 = .ok (.getfield 12, 3) := by decide +kernel
theorem dX3_worth_33 : decode cX3_worth 33 = .ok (.invokevirtual 118, 3) := by decide +kernel
theorem dX3_worth_36 : decode cX3_worth 36 = .ok (.ifCond .eq 10, 3) := by decide +kernel
theorem dX3_worth_39 : decode cX3_worth 39 = .ok (.aload_n 0, 1) := by decide +kernel
theorem dX3_worth_40 : decode cX3_worth 40 = .ok (.bipush (-6), 2) := by decide +kernel
theorem dX3_worth_42 : decode cX3_worth 42 = .ok (.invokevirtual 164, 3) := by decide +kernel
theorem dX3_worth_45 : decode cX3_worth 45 = .ok (.ireturn, 1) := by decide +kernel
theorem dX3_worth_46 : decode cX3_worth 46 = .ok (.aload_n 0, 1) := by decide +kernel
theorem dX3_worth_47 : decode cX3_worth 47 = .ok (.getfield 25, 3) := by decide +kernel
theorem dX3_worth_50 : decode cX3_worth 50 = .ok (.aload_n 0, 1) := by decide +kernel
theorem dX3_worth_51 : decode cX3_worth 51 = .ok (.invokevirtual 144, 3) := by decide +kernel
theorem dX3_worth_54 : decode cX3_worth 54 = .ok (.invokevirtual 158, 3) := by decide +kernel
theorem dX3_worth_57 : decode cX3_worth 57 = .ok (.istore_n 3, 1) := by decide +kernel
theorem dX3_worth_58 : decode cX3_worth 58 = .ok (.iload_n 3, 1) := by decide +kernel
theorem dX3_worth_59 : decode cX3_worth 59 = .ok (.aload_n 0, 1) := by decide +kernel
theorem dX3_worth_60 : decode cX3_worth 60 = .ok (.getfield 25, 3) := by decide +kernel
theorem dX3_worth_63 : decode cX3_worth 63 = .ok (.aload_n 0, 1) := by decide +kernel
theorem dX3_worth_64 : decode cX3_worth 64 = .ok (.iload_n 1, 1) := by decide +kernel
theorem dX3_worth_65 : decode cX3_worth 65 = .ok (.iload_n 2, 1) := by decide +kernel
theorem dX3_worth_66 : decode cX3_worth 66 = .ok (.invokevirtual 167, 3) := by decide +kernel
theorem dX3_worth_69 : decode cX3_worth 69 = .ok (.invokevirtual 158, 3) := by decide +kernel
theorem dX3_worth_72 : decode cX3_worth 72 = .ok (.isub, 1) := by decide +kernel
theorem dX3_worth_73 : decode cX3_worth 73 = .ok (.ireturn, 1) := by decide +kernel
set_option maxRecDepth 20000 in
theorem ggX3_keeps_X2_hasPerson : GoodIn wsX3_keeps wsX2_hasPerson := goodIn_r _ [8, 9, 199, 200, 201, 202, 203, 204, 205, 206] rfl (by decide +kernel)
set_option maxRecDepth 20000 in
theorem gX3_keeps_X2_hasPerson : GoodIn wsX3_keeps (wsV RX3 69 RX2 yX2_hasPerson wsX2_hasPerson) := goodIn_app (goodIn_r _ [4, 5, 6, 7] rfl (by decide +kernel)) ggX3_keeps_X2_hasPerson
set_option maxRecDepth 20000 in
theorem ggX3_keeps_X3_refuse : GoodIn wsX3_keeps wsX3_refuse := goodIn_r _ [14, 15, 190, 191, 192, 193, 194, 195, 196, 197, 198] rfl (by decide +kernel)
set_option maxRecDepth 20000 in
theorem gX3_keeps_X3_refuse : GoodIn wsX3_keeps (wsV RX3 43 RX3 yX3_refuse wsX3_refuse) := goodIn_app (goodIn_r _ [10, 11, 12, 13] rfl (by decide +kernel)) ggX3_keeps_X3_refuse
set_option maxRecDepth 20000 in
theorem ggX3_keeps_X1_fits : GoodIn wsX3_keeps wsX1_fits := goodIn_r _ [20, 21, 22, 23, 24, 25, 7, 26, 27, 28, 29, 30, 31, 32, 33, 34, 35, 36, 37, 38, 39, 40, 41, 42, 43, 44, 199, 200, 201, 202, 203, 204, 205, 206] rfl (by decide +kernel)
set_option maxRecDepth 20000 in
theorem gX3_keeps_X1_fits : GoodIn wsX3_keeps (wsV RX3 154 RX1 yX1_fits wsX1_fits) := goodIn_app (goodIn_r _ [16, 17, 18, 19] rfl (by decide +kernel)) ggX3_keeps_X1_fits
set_option maxRecDepth 20000 in
theorem ggX3_keeps_X2_bookIsFull : GoodIn wsX3_keeps wsX2_bookIsFull := goodIn_r _ [48, 49, 199, 200, 201, 202, 203, 204, 205, 206] rfl (by decide +kernel)
set_option maxRecDepth 20000 in
theorem gX3_keeps_X2_bookIsFull : GoodIn wsX3_keeps (wsV RX3 118 RX2 yX2_bookIsFull wsX2_bookIsFull) := goodIn_app (goodIn_r _ [45, 46, 47, 7] rfl (by decide +kernel)) ggX3_keeps_X2_bookIsFull
set_option maxRecDepth 20000 in
theorem ggX3_keeps_X3_mindOfNow : GoodIn wsX3_keeps wsX3_mindOfNow := goodIn_r _ [53, 54, 1, 55, 56, 57, 7, 58, 59, 60, 61, 62, 63, 9, 27, 32, 49, 64, 65, 66, 67, 68, 69, 70, 71, 72, 73, 190, 191, 192, 193, 194, 195, 196, 197, 198, 199, 200, 201, 202, 203, 204, 205, 206] rfl (by decide +kernel)
set_option maxRecDepth 20000 in
theorem gX3_keeps_X3_mindOfNow : GoodIn wsX3_keeps (wsV RX3 144 RX3 yX3_mindOfNow wsX3_mindOfNow) := goodIn_app (goodIn_r _ [50, 51, 52, 13] rfl (by decide +kernel)) ggX3_keeps_X3_mindOfNow
set_option maxRecDepth 20000 in
theorem ggX3_keeps_X1_mostOf : GoodIn wsX3_keeps wsX1_mostOf := goodIn_r _ [77, 78, 79, 80, 81, 82, 83, 19, 84, 22, 21, 85, 23, 24, 25, 7, 26, 27, 86, 35, 36, 37, 33, 38, 39, 40, 41, 42, 43, 44, 87, 88, 89, 90, 91, 92, 93, 94, 95, 96, 97, 98, 99, 100, 101, 102, 103, 104, 105, 106, 107, 108, 109, 110, 73, 111, 112, 113, 114, 32, 34, 115, 116, 117, 118, 119, 5, 6, 8, 9, 120, 121, 122, 123, 72, 49, 71, 124, 125, 126, 127, 59, 128, 129, 130, 131, 132, 133, 134, 135, 136, 137, 66, 138, 139, 140, 141, 142, 143, 144, 145, 146, 147, 148, 149, 150, 151, 68, 69, 70, 152, 153, 154, 155, 156, 157, 158, 159, 160, 161, 162, 163, 164, 165, 166, 167, 168, 169, 170, 171, 172, 173, 174, 175, 176, 177, 178, 179, 180, 181, 182, 183, 184, 207, 208, 209, 210, 211, 212, 213, 199, 200, 201, 202, 203, 204, 205, 206] rfl (by decide +kernel)
set_option maxRecDepth 20000 in
theorem gX3_keeps_X1_mostOf : GoodIn wsX3_keeps (wsV RX3 158 RX1 yX1_mostOf wsX1_mostOf) := goodIn_app (goodIn_r _ [74, 75, 76, 19] rfl (by decide +kernel)) ggX3_keeps_X1_mostOf
set_option maxRecDepth 20000 in
theorem ggX3_keeps_X3_mindWithHelp : GoodIn wsX3_keeps wsX3_mindWithHelp := goodIn_r _ [188, 54, 1, 55, 56, 57, 7, 58, 59, 60, 61, 62, 63, 9, 27, 32, 49, 64, 65, 66, 67, 68, 69, 70, 71, 72, 73, 189, 157, 158, 159, 190, 191, 192, 193, 194, 195, 196, 197, 198, 199, 200, 201, 202, 203, 204, 205, 206] rfl (by decide +kernel)
set_option maxRecDepth 20000 in
theorem gX3_keeps_X3_mindWithHelp : GoodIn wsX3_keeps (wsV RX3 167 RX3 yX3_mindWithHelp wsX3_mindWithHelp) := goodIn_app (goodIn_r _ [185, 186, 187, 13] rfl (by decide +kernel)) ggX3_keeps_X3_mindWithHelp
theorem dX3_keeps_0 : decode cX3_keeps 0 = .ok (.aload_n 0, 1) := by decide +kernel
theorem dX3_keeps_1 : decode cX3_keeps 1 = .ok (.getfield 12, 3) := by decide +kernel
theorem dX3_keeps_4 : decode cX3_keeps 4 = .ok (.iload_n 1, 1) := by decide +kernel
theorem dX3_keeps_5 : decode cX3_keeps 5 = .ok (.invokevirtual 69, 3) := by decide +kernel
theorem dX3_keeps_8 : decode cX3_keeps 8 = .ok (.ifCond .ne 9, 3) := by decide +kernel
theorem dX3_keeps_11 : decode cX3_keeps 11 = .ok (.aload_n 0, 1) := by decide +kernel
theorem dX3_keeps_12 : decode cX3_keeps 12 = .ok (.iconst (-1), 1) := by decide +kernel
theorem dX3_keeps_13 : decode cX3_keeps 13 = .ok (.invokevirtual 43, 3) := by decide +kernel
theorem dX3_keeps_16 : decode cX3_keeps 16 = .ok (.ireturn, 1) := by decide +kernel
theorem dX3_keeps_17 : decode cX3_keeps 17 = .ok (.aload_n 0, 1) := by decide +kernel
theorem dX3_keeps_18 : decode cX3_keeps 18 = .ok (.getfield 25, 3) := by decide +kernel
theorem dX3_keeps_21 : decode cX3_keeps 21 = .ok (.aload_n 0, 1) := by decide +kernel
theorem dX3_keeps_22 : decode cX3_keeps 22 = .ok (.getfield 12, 3) := by decide +kernel
theorem dX3_keeps_25 : decode cX3_keeps 25 = .ok (.invokevirtual 154, 3) := by decide +kernel
theorem dX3_keeps_28 : decode cX3_keeps 28 = .ok (.ifCond .eq 13, 3) := by decide +kernel
theorem dX3_keeps_31 : decode cX3_keeps 31 = .ok (.aload_n 0, 1) := by decide +kernel
theorem dX3_keeps_32 : decode cX3_keeps 32 = .ok (.getfield 12, 3) := by decide +kernel
theorem dX3_keeps_35 : decode cX3_keeps 35 = .ok (.invokevirtual 118, 3) := by decide +kernel
theorem dX3_keeps_38 : decode cX3_keeps 38 = .ok (.ifCond .eq 10, 3) := by decide +kernel
theorem dX3_keeps_41 : decode cX3_keeps 41 = .ok (.aload_n 0, 1) := by decide +kernel
theorem dX3_keeps_42 : decode cX3_keeps 42 = .ok (.bipush (-6), 2) := by decide +kernel
theorem dX3_keeps_44 : decode cX3_keeps 44 = .ok (.invokevirtual 43, 3) := by decide +kernel
theorem dX3_keeps_47 : decode cX3_keeps 47 = .ok (.ireturn, 1) := by decide +kernel
theorem dX3_keeps_48 : decode cX3_keeps 48 = .ok (.bipush (-9), 2) := by decide +kernel
theorem dX3_keeps_50 : decode cX3_keeps 50 = .ok (.istore_n 2, 1) := by decide +kernel
theorem dX3_keeps_51 : decode cX3_keeps 51 = .ok (.aload_n 0, 1) := by decide +kernel
theorem dX3_keeps_52 : decode cX3_keeps 52 = .ok (.getfield 25, 3) := by decide +kernel
theorem dX3_keeps_55 : decode cX3_keeps 55 = .ok (.aload_n 0, 1) := by decide +kernel
theorem dX3_keeps_56 : decode cX3_keeps 56 = .ok (.invokevirtual 144, 3) := by decide +kernel
theorem dX3_keeps_59 : decode cX3_keeps 59 = .ok (.invokevirtual 158, 3) := by decide +kernel
theorem dX3_keeps_62 : decode cX3_keeps 62 = .ok (.istore_n 3, 1) := by decide +kernel
theorem dX3_keeps_63 : decode cX3_keeps 63 = .ok (.iconst 0, 1) := by decide +kernel
theorem dX3_keeps_64 : decode cX3_keeps 64 = .ok (.istore 4, 2) := by decide +kernel
theorem dX3_keeps_66 : decode cX3_keeps 66 = .ok (.iload 4, 2) := by decide +kernel
theorem dX3_keeps_68 : decode cX3_keeps 68 = .ok (.aload_n 0, 1) := by decide +kernel
theorem dX3_keeps_69 : decode cX3_keeps 69 = .ok (.getfield 12, 3) := by decide +kernel
theorem dX3_keeps_72 : decode cX3_keeps 72 = .ok (.getfield 171, 3) := by decide +kernel
theorem dX3_keeps_75 : decode cX3_keeps 75 = .ok (.if_icmp .ge 47, 3) := by decide +kernel
theorem dX3_keeps_78 : decode cX3_keeps 78 = .ok (.iload 4, 2) := by decide +kernel
theorem dX3_keeps_80 : decode cX3_keeps 80 = .ok (.iload_n 1, 1) := by decide +kernel
theorem dX3_keeps_81 : decode cX3_keeps 81 = .ok (.if_icmp .ne 7, 3) := by decide +kernel
theorem dX3_keeps_84 : decode cX3_keeps 84 = .ok (.iload_n 3, 1) := by decide +kernel
theorem dX3_keeps_85 : decode cX3_keeps 85 = .ok (.goto 17, 3) := by decide +kernel
theorem dX3_keeps_88 : decode cX3_keeps 88 = .ok (.aload_n 0, 1) := by decide +kernel
theorem dX3_keeps_89 : decode cX3_keeps 89 = .ok (.getfield 25, 3) := by decide +kernel
theorem dX3_keeps_92 : decode cX3_keeps 92 = .ok (.aload_n 0, 1) := by decide +kernel
theorem dX3_keeps_93 : decode cX3_keeps 93 = .ok (.iload 4, 2) := by decide +kernel
theorem dX3_keeps_95 : decode cX3_keeps 95 = .ok (.iload_n 1, 1) := by decide +kernel
theorem dX3_keeps_96 : decode cX3_keeps 96 = .ok (.invokevirtual 167, 3) := by decide +kernel
theorem dX3_keeps_99 : decode cX3_keeps 99 = .ok (.invokevirtual 158, 3) := by decide +kernel
theorem dX3_keeps_102 : decode cX3_keeps 102 = .ok (.istore 5, 2) := by decide +kernel
theorem dX3_keeps_104 : decode cX3_keeps 104 = .ok (.iload 5, 2) := by decide +kernel
theorem dX3_keeps_106 : decode cX3_keeps 106 = .ok (.iload_n 3, 1) := by decide +kernel
theorem dX3_keeps_107 : decode cX3_keeps 107 = .ok (.if_icmp .ge 9, 3) := by decide +kernel
theorem dX3_keeps_110 : decode cX3_keeps 110 = .ok (.iload 5, 2) := by decide +kernel
theorem dX3_keeps_112 : decode cX3_keeps 112 = .ok (.istore_n 3, 1) := by decide +kernel
theorem dX3_keeps_113 : decode cX3_keeps 113 = .ok (.iload 4, 2) := by decide +kernel
theorem dX3_keeps_115 : decode cX3_keeps 115 = .ok (.istore_n 2, 1) := by decide +kernel
theorem dX3_keeps_116 : decode cX3_keeps 116 = .ok (.iinc 4 1, 3) := by decide +kernel
theorem dX3_keeps_119 : decode cX3_keeps 119 = .ok (.goto (-53), 3) := by decide +kernel
theorem dX3_keeps_122 : decode cX3_keeps 122 = .ok (.iload_n 2, 1) := by decide +kernel
theorem dX3_keeps_123 : decode cX3_keeps 123 = .ok (.ireturn, 1) := by decide +kernel
set_option maxRecDepth 20000 in
theorem ggX3_lasts_X3_isRule : GoodIn wsX3_lasts wsX3_isRule := goodIn_r _ [8] rfl (by decide +kernel)
set_option maxRecDepth 20000 in
theorem gX3_lasts_X3_isRule : GoodIn wsX3_lasts (va_wsS RX3 134 yX3_isRule wsX3_isRule) := goodIn_app (goodIn_r _ [5, 6, 7] rfl (by decide +kernel)) ggX3_lasts_X3_isRule
set_option maxRecDepth 20000 in
theorem ggX3_lasts_X3_refuse : GoodIn wsX3_lasts wsX3_refuse := goodIn_r _ [12, 13, 142, 143, 144, 145, 146, 147, 148, 149, 150] rfl (by decide +kernel)
set_option maxRecDepth 20000 in
theorem gX3_lasts_X3_refuse : GoodIn wsX3_lasts (wsV RX3 43 RX3 yX3_refuse wsX3_refuse) := goodIn_app (goodIn_r _ [9, 10, 11, 7] rfl (by decide +kernel)) ggX3_lasts_X3_refuse
set_option maxRecDepth 20000 in
theorem ggX3_lasts_X2_copyFrom : GoodIn wsX3_lasts wsX2_copyFrom := goodIn_r _ [18, 19, 20, 21, 22, 23, 24, 25, 26, 27, 28, 29, 30, 31, 32, 33, 34, 35, 36, 37, 151, 152, 153, 154, 155, 156, 157, 158] rfl (by decide +kernel)
set_option maxRecDepth 20000 in
theorem gX3_lasts_X2_copyFrom : GoodIn wsX3_lasts (wsV RX3 58 RX2 yX2_copyFrom wsX2_copyFrom) := goodIn_app (goodIn_r _ [14, 15, 16, 17] rfl (by decide +kernel)) ggX3_lasts_X2_copyFrom
set_option maxRecDepth 20000 in
theorem ggX3_lasts_X3_allAreHelped : GoodIn wsX3_lasts wsX3_allAreHelped := goodIn_r _ [41, 2, 42, 43, 44, 17, 45, 26, 37, 46, 47, 48, 49, 25, 50, 51, 52, 7, 53, 54, 55, 56, 57, 58, 59, 60, 61, 62, 63, 64, 65, 66, 67, 68, 69, 70, 71, 72, 73, 74, 75, 76, 77, 78, 79, 80, 81, 82, 83, 84, 85, 86, 87, 88, 89, 90, 91, 92, 93, 94, 95, 96, 97, 24, 98, 99, 100, 101, 36, 27, 35, 102, 103, 104, 105, 19, 106, 107, 108, 109, 110, 111, 112, 113, 114, 115, 30, 116, 117, 118, 119, 120, 121, 122, 123, 32, 33, 34, 124, 125, 126, 127, 128, 129, 130, 131, 132, 133, 134, 135, 136, 137, 138, 139, 140, 141, 151, 152, 153, 154, 155, 156, 157, 158, 142, 143, 144, 145, 146, 147, 148, 149, 150] rfl (by decide +kernel)
set_option maxRecDepth 20000 in
theorem gX3_lasts_X3_allAreHelped : GoodIn wsX3_lasts (wsV RX3 174 RX3 yX3_allAreHelped wsX3_allAreHelped) := goodIn_app (goodIn_r _ [38, 39, 40, 7] rfl (by decide +kernel)) ggX3_lasts_X3_allAreHelped
theorem dX3_lasts_0 : decode cX3_lasts 0 = .ok (.iload_n 1, 1) := by decide +kernel
theorem dX3_lasts_1 : decode cX3_lasts 1 = .ok (.invokestatic 134, 3) := by decide +kernel
theorem dX3_lasts_4 : decode cX3_lasts 4 = .ok (.ifCond .ne 10, 3) := by decide +kernel
theorem dX3_lasts_7 : decode cX3_lasts 7 = .ok (.aload_n 0, 1) := by decide +kernel
theorem dX3_lasts_8 : decode cX3_lasts 8 = .ok (.bipush (-2), 2) := by decide +kernel
theorem dX3_lasts_10 : decode cX3_lasts 10 = .ok (.invokevirtual 43, 3) := by decide +kernel
theorem dX3_lasts_13 : decode cX3_lasts 13 = .ok (.ireturn, 1) := by decide +kernel
theorem dX3_lasts_14 : decode cX3_lasts 14 = .ok (.iload_n 2, 1) := by decide +kernel
theorem dX3_lasts_15 : decode cX3_lasts 15 = .ok (.ifCond .lt 8, 3) := by decide +kernel
theorem dX3_lasts_18 : decode cX3_lasts 18 = .ok (.iload_n 2, 1) := by decide +kernel
theorem dX3_lasts_19 : decode cX3_lasts 19 = .ok (.iconst 4, 1) := by decide +kernel
theorem dX3_lasts_20 : decode cX3_lasts 20 = .ok (.if_icmp .lt 9, 3) := by decide +kernel
theorem dX3_lasts_23 : decode cX3_lasts 23 = .ok (.aload_n 0, 1) := by decide +kernel
theorem dX3_lasts_24 : decode cX3_lasts 24 = .ok (.iconst (-1), 1) := by decide +kernel
theorem dX3_lasts_25 : decode cX3_lasts 25 = .ok (.invokevirtual 43, 3) := by decide +kernel
theorem dX3_lasts_28 : decode cX3_lasts 28 = .ok (.ireturn, 1) := by decide +kernel
theorem dX3_lasts_29 : decode cX3_lasts 29 = .ok (.aload_n 0, 1) := by decide +kernel
theorem dX3_lasts_30 : decode cX3_lasts 30 = .ok (.getfield 12, 3) := by decide +kernel
theorem dX3_lasts_33 : decode cX3_lasts 33 = .ok (.getfield 171, 3) := by decide +kernel
theorem dX3_lasts_36 : decode cX3_lasts 36 = .ok (.ifCond .ne 10, 3) := by decide +kernel
theorem dX3_lasts_39 : decode cX3_lasts 39 = .ok (.aload_n 0, 1) := by decide +kernel
theorem dX3_lasts_40 : decode cX3_lasts 40 = .ok (.bipush (-3), 2) := by decide +kernel
theorem dX3_lasts_42 : decode cX3_lasts 42 = .ok (.invokevirtual 43, 3) := by decide +kernel
theorem dX3_lasts_45 : decode cX3_lasts 45 = .ok (.ireturn, 1) := by decide +kernel
theorem dX3_lasts_46 : decode cX3_lasts 46 = .ok (.aload_n 0, 1) := by decide +kernel
theorem dX3_lasts_47 : decode cX3_lasts 47 = .ok (.getfield 16, 3) := by decide +kernel
theorem dX3_lasts_50 : decode cX3_lasts 50 = .ok (.aload_n 0, 1) := by decide +kernel
theorem dX3_lasts_51 : decode cX3_lasts 51 = .ok (.getfield 12, 3) := by decide +kernel
theorem dX3_lasts_54 : decode cX3_lasts 54 = .ok (.invokevirtual 58, 3) := by decide +kernel
theorem dX3_lasts_57 : decode cX3_lasts 57 = .ok (.iconst 0, 1) := by decide +kernel
theorem dX3_lasts_58 : decode cX3_lasts 58 = .ok (.istore_n 3, 1) := by decide +kernel
theorem dX3_lasts_59 : decode cX3_lasts 59 = .ok (.iload_n 3, 1) := by decide +kernel
theorem dX3_lasts_60 : decode cX3_lasts 60 = .ok (.bipush 30, 2) := by decide +kernel
theorem dX3_lasts_62 : decode cX3_lasts 62 = .ok (.if_icmp .ge 37, 3) := by decide +kernel
theorem dX3_lasts_65 : decode cX3_lasts 65 = .ok (.aload_n 0, 1) := by decide +kernel
theorem dX3_lasts_66 : decode cX3_lasts 66 = .ok (.aload_n 0, 1) := by decide +kernel
theorem dX3_lasts_67 : decode cX3_lasts 67 = .ok (.getfield 16, 3) := by decide +kernel
theorem dX3_lasts_70 : decode cX3_lasts 70 = .ok (.iload_n 1, 1) := by decide +kernel
theorem dX3_lasts_71 : decode cX3_lasts 71 = .ok (.iload_n 2, 1) := by decide +kernel
theorem dX3_lasts_72 : decode cX3_lasts 72 = .ok (.invokevirtual 174, 3) := by decide +kernel
theorem dX3_lasts_75 : decode cX3_lasts 75 = .ok (.ifCond .ne 5, 3) := by decide +kernel
theorem dX3_lasts_78 : decode cX3_lasts 78 = .ok (.iload_n 3, 1) := by decide +kernel
theorem dX3_lasts_79 : decode cX3_lasts 79 = .ok (.ireturn, 1) := by decide +kernel
theorem dX3_lasts_80 : decode cX3_lasts 80 = .ok (.aload_n 0, 1) := by decide +kernel
theorem dX3_lasts_81 : decode cX3_lasts 81 = .ok (.getfield 16, 3) := by decide +kernel
theorem dX3_lasts_84 : decode cX3_lasts 84 = .ok (.dup, 1) := by decide +kernel
theorem dX3_lasts_85 : decode cX3_lasts 85 = .ok (.getfield 131, 3) := by decide +kernel
theorem dX3_lasts_88 : decode cX3_lasts 88 = .ok (.iconst 1, 1) := by decide +kernel
theorem dX3_lasts_89 : decode cX3_lasts 89 = .ok (.iadd, 1) := by decide +kernel
theorem dX3_lasts_90 : decode cX3_lasts 90 = .ok (.putfield 131, 3) := by decide +kernel
theorem dX3_lasts_93 : decode cX3_lasts 93 = .ok (.iinc 3 1, 3) := by decide +kernel
theorem dX3_lasts_96 : decode cX3_lasts 96 = .ok (.goto (-37), 3) := by decide +kernel
theorem dX3_lasts_99 : decode cX3_lasts 99 = .ok (.bipush 30, 2) := by decide +kernel
theorem dX3_lasts_101 : decode cX3_lasts 101 = .ok (.ireturn, 1) := by decide +kernel
set_option maxRecDepth 20000 in
theorem ggX3_many_X3_isLaw : GoodIn wsX3_many wsX3_isLaw := goodIn_r _ [4] rfl (by decide +kernel)
set_option maxRecDepth 20000 in
theorem gX3_many_X3_isLaw : GoodIn wsX3_many (va_wsS RX3 178 yX3_isLaw wsX3_isLaw) := goodIn_app (goodIn_r _ [1, 2, 3] rfl (by decide +kernel)) ggX3_many_X3_isLaw
set_option maxRecDepth 20000 in
theorem ggX3_many_X3_refuse : GoodIn wsX3_many wsX3_refuse := goodIn_r _ [8, 9, 10, 11, 12, 13, 14, 15, 16, 17, 18] rfl (by decide +kernel)
set_option maxRecDepth 20000 in
theorem gX3_many_X3_refuse : GoodIn wsX3_many (wsV RX3 43 RX3 yX3_refuse wsX3_refuse) := goodIn_app (goodIn_r _ [5, 6, 7, 3] rfl (by decide +kernel)) ggX3_many_X3_refuse
theorem dX3_many_0 : decode cX3_many 0 = .ok (.iload_n 1, 1) := by decide +kernel
theorem dX3_many_1 : decode cX3_many 1 = .ok (.invokestatic 178, 3) := by decide +kernel
theorem dX3_many_4 : decode cX3_many 4 = .ok (.ifCond .ne 10, 3) := by decide +kernel
theorem dX3_many_7 : decode cX3_many 7 = .ok (.aload_n 0, 1) := by decide +kernel
theorem dX3_many_8 : decode cX3_many 8 = .ok (.bipush (-2), 2) := by decide +kernel
theorem dX3_many_10 : decode cX3_many 10 = .ok (.invokevirtual 43, 3) := by decide +kernel
theorem dX3_many_13 : decode cX3_many 13 = .ok (.ireturn, 1) := by decide +kernel
theorem dX3_many_14 : decode cX3_many 14 = .ok (.iload_n 2, 1) := by decide +kernel
theorem dX3_many_15 : decode cX3_many 15 = .ok (.iconst 1, 1) := by decide +kernel
theorem dX3_many_16 : decode cX3_many 16 = .ok (.if_icmp .ge 10, 3) := by decide +kernel
theorem dX3_many_19 : decode cX3_many 19 = .ok (.aload_n 0, 1) := by decide +kernel
theorem dX3_many_20 : decode cX3_many 20 = .ok (.bipush (-4), 2) := by decide +kernel
theorem dX3_many_22 : decode cX3_many 22 = .ok (.invokevirtual 43, 3) := by decide +kernel
theorem dX3_many_25 : decode cX3_many 25 = .ok (.ireturn, 1) := by decide +kernel
theorem dX3_many_26 : decode cX3_many 26 = .ok (.iload_n 2, 1) := by decide +kernel
theorem dX3_many_27 : decode cX3_many 27 = .ok (.sipush 999, 3) := by decide +kernel
theorem dX3_many_30 : decode cX3_many 30 = .ok (.if_icmp .le 10, 3) := by decide +kernel
theorem dX3_many_33 : decode cX3_many 33 = .ok (.aload_n 0, 1) := by decide +kernel
theorem dX3_many_34 : decode cX3_many 34 = .ok (.bipush (-6), 2) := by decide +kernel
theorem dX3_many_36 : decode cX3_many 36 = .ok (.invokevirtual 43, 3) := by decide +kernel
theorem dX3_many_39 : decode cX3_many 39 = .ok (.ireturn, 1) := by decide +kernel
theorem dX3_many_40 : decode cX3_many 40 = .ok (.iload_n 1, 1) := by decide +kernel
theorem dX3_many_41 : decode cX3_many 41 = .ok (.iconst 1, 1) := by decide +kernel
theorem dX3_many_42 : decode cX3_many 42 = .ok (.if_icmp .ne 9, 3) := by decide +kernel
theorem dX3_many_45 : decode cX3_many 45 = .ok (.iload_n 2, 1) := by decide +kernel
theorem dX3_many_46 : decode cX3_many 46 = .ok (.iconst 1, 1) := by decide +kernel
theorem dX3_many_47 : decode cX3_many 47 = .ok (.iadd, 1) := by decide +kernel
theorem dX3_many_48 : decode cX3_many 48 = .ok (.goto 8, 3) := by decide +kernel
theorem dX3_many_51 : decode cX3_many 51 = .ok (.iconst 2, 1) := by decide +kernel
theorem dX3_many_52 : decode cX3_many 52 = .ok (.iload_n 2, 1) := by decide +kernel
theorem dX3_many_53 : decode cX3_many 53 = .ok (.imul, 1) := by decide +kernel
theorem dX3_many_54 : decode cX3_many 54 = .ok (.iconst 1, 1) := by decide +kernel
theorem dX3_many_55 : decode cX3_many 55 = .ok (.iadd, 1) := by decide +kernel
theorem dX3_many_56 : decode cX3_many 56 = .ok (.ireturn, 1) := by decide +kernel
set_option maxRecDepth 20000 in
theorem ggX3_move_X2_hasPerson : GoodIn wsX3_move wsX2_hasPerson := goodIn_r _ [6, 7, 32, 33, 34, 35, 36, 37, 38, 39] rfl (by decide +kernel)
set_option maxRecDepth 20000 in
theorem gX3_move_X2_hasPerson : GoodIn wsX3_move (wsV RX3 69 RX2 yX2_hasPerson wsX2_hasPerson) := goodIn_app (goodIn_r _ [2, 3, 4, 5] rfl (by decide +kernel)) ggX3_move_X2_hasPerson
set_option maxRecDepth 20000 in
theorem ggX3_move_X3_refuse : GoodIn wsX3_move wsX3_refuse := goodIn_r _ [12, 13, 23, 24, 25, 26, 27, 28, 29, 30, 31] rfl (by decide +kernel)
set_option maxRecDepth 20000 in
theorem gX3_move_X3_refuse : GoodIn wsX3_move (wsV RX3 43 RX3 yX3_refuse wsX3_refuse) := goodIn_app (goodIn_r _ [8, 9, 10, 11] rfl (by decide +kernel)) ggX3_move_X3_refuse
set_option maxRecDepth 20000 in
theorem ggX3_move_X2_ofPerson : GoodIn wsX3_move wsX2_ofPerson := goodIn_r _ [17, 18, 32, 33, 34, 35, 36, 37, 38, 39] rfl (by decide +kernel)
set_option maxRecDepth 20000 in
theorem gX3_move_X2_ofPerson : GoodIn wsX3_move (wsV RX3 73 RX2 yX2_ofPerson wsX2_ofPerson) := goodIn_app (goodIn_r _ [14, 15, 16, 5] rfl (by decide +kernel)) ggX3_move_X2_ofPerson
set_option maxRecDepth 20000 in
theorem ggX3_move_X2_putPerson : GoodIn wsX3_move wsX2_putPerson := goodIn_r _ [22, 18, 32, 33, 34, 35, 36, 37, 38, 39] rfl (by decide +kernel)
set_option maxRecDepth 20000 in
theorem gX3_move_X2_putPerson : GoodIn wsX3_move (wsV RX3 181 RX2 yX2_putPerson wsX2_putPerson) := goodIn_app (goodIn_r _ [19, 20, 21, 5] rfl (by decide +kernel)) ggX3_move_X2_putPerson
theorem dX3_move_0 : decode cX3_move 0 = .ok (.aload_n 0, 1) := by decide +kernel
theorem dX3_move_1 : decode cX3_move 1 = .ok (.getfield 12, 3) := by decide +kernel
theorem dX3_move_4 : decode cX3_move 4 = .ok (.iload_n 1, 1) := by decide +kernel
theorem dX3_move_5 : decode cX3_move 5 = .ok (.invokevirtual 69, 3) := by decide +kernel
theorem dX3_move_8 : decode cX3_move 8 = .ok (.ifCond .ne 9, 3) := by decide +kernel
theorem dX3_move_11 : decode cX3_move 11 = .ok (.aload_n 0, 1) := by decide +kernel
theorem dX3_move_12 : decode cX3_move 12 = .ok (.iconst (-1), 1) := by decide +kernel
theorem dX3_move_13 : decode cX3_move 13 = .ok (.invokevirtual 43, 3) := by decide +kernel
theorem dX3_move_16 : decode cX3_move 16 = .ok (.ireturn, 1) := by decide +kernel
theorem dX3_move_17 : decode cX3_move 17 = .ok (.iload_n 2, 1) := by decide +kernel
theorem dX3_move_18 : decode cX3_move 18 = .ok (.ifCond .ge 10, 3) := by decide +kernel
theorem dX3_move_21 : decode cX3_move 21 = .ok (.aload_n 0, 1) := by decide +kernel
theorem dX3_move_22 : decode cX3_move 22 = .ok (.bipush (-4), 2) := by decide +kernel
theorem dX3_move_24 : decode cX3_move 24 = .ok (.invokevirtual 43, 3) := by decide +kernel
theorem dX3_move_27 : decode cX3_move 27 = .ok (.ireturn, 1) := by decide +kernel
theorem dX3_move_28 : decode cX3_move 28 = .ok (.iload_n 2, 1) := by decide +kernel
theorem dX3_move_29 : decode cX3_move 29 = .ok (.bipush 99, 2) := by decide +kernel
theorem dX3_move_31 : decode cX3_move 31 = .ok (.if_icmp .le 10, 3) := by decide +kernel
theorem dX3_move_34 : decode cX3_move 34 = .ok (.aload_n 0, 1) := by decide +kernel
theorem dX3_move_35 : decode cX3_move 35 = .ok (.bipush (-6), 2) := by decide +kernel
theorem dX3_move_37 : decode cX3_move 37 = .ok (.invokevirtual 43, 3) := by decide +kernel
theorem dX3_move_40 : decode cX3_move 40 = .ok (.ireturn, 1) := by decide +kernel
theorem dX3_move_41 : decode cX3_move 41 = .ok (.aload_n 0, 1) := by decide +kernel
theorem dX3_move_42 : decode cX3_move 42 = .ok (.getfield 12, 3) := by decide +kernel
theorem dX3_move_45 : decode cX3_move 45 = .ok (.iload_n 1, 1) := by decide +kernel
theorem dX3_move_46 : decode cX3_move 46 = .ok (.iconst 1, 1) := by decide +kernel
theorem dX3_move_47 : decode cX3_move 47 = .ok (.invokevirtual 73, 3) := by decide +kernel
theorem dX3_move_50 : decode cX3_move 50 = .ok (.istore_n 3, 1) := by decide +kernel
theorem dX3_move_51 : decode cX3_move 51 = .ok (.aload_n 0, 1) := by decide +kernel
theorem dX3_move_52 : decode cX3_move 52 = .ok (.getfield 12, 3) := by decide +kernel
theorem dX3_move_55 : decode cX3_move 55 = .ok (.iload_n 1, 1) := by decide +kernel
theorem dX3_move_56 : decode cX3_move 56 = .ok (.iconst 1, 1) := by decide +kernel
theorem dX3_move_57 : decode cX3_move 57 = .ok (.iload_n 2, 1) := by decide +kernel
theorem dX3_move_58 : decode cX3_move 58 = .ok (.invokevirtual 181, 3) := by decide +kernel
theorem dX3_move_61 : decode cX3_move 61 = .ok (.iload_n 3, 1) := by decide +kernel
theorem dX3_move_62 : decode cX3_move 62 = .ok (.ireturn, 1) := by decide +kernel
set_option maxRecDepth 20000 in
theorem ggX3_bestPlace_X2_hasPerson : GoodIn wsX3_bestPlace wsX2_hasPerson := goodIn_r _ [7, 8, 152, 153, 154, 155, 156, 157, 158, 159] rfl (by decide +kernel)
set_option maxRecDepth 20000 in
theorem gX3_bestPlace_X2_hasPerson : GoodIn wsX3_bestPlace (wsV RX3 69 RX2 yX2_hasPerson wsX2_hasPerson) := goodIn_app (goodIn_r _ [3, 4, 5, 6] rfl (by decide +kernel)) ggX3_bestPlace_X2_hasPerson
set_option maxRecDepth 20000 in
theorem ggX3_bestPlace_X3_refuse : GoodIn wsX3_bestPlace wsX3_refuse := goodIn_r _ [13, 14, 143, 144, 145, 146, 147, 148, 149, 150, 151] rfl (by decide +kernel)
set_option maxRecDepth 20000 in
theorem gX3_bestPlace_X3_refuse : GoodIn wsX3_bestPlace (wsV RX3 43 RX3 yX3_refuse wsX3_refuse) := goodIn_app (goodIn_r _ [9, 10, 11, 12] rfl (by decide +kernel)) ggX3_bestPlace_X3_refuse
set_option maxRecDepth 20000 in
theorem ggX3_bestPlace_X2_copyFrom : GoodIn wsX3_bestPlace wsX2_copyFrom := goodIn_r _ [18, 19, 20, 21, 22, 23, 8, 24, 25, 26, 27, 28, 29, 30, 31, 32, 33, 34, 35, 36, 152, 153, 154, 155, 156, 157, 158, 159] rfl (by decide +kernel)
set_option maxRecDepth 20000 in
theorem gX3_bestPlace_X2_copyFrom : GoodIn wsX3_bestPlace (wsV RX3 58 RX2 yX2_copyFrom wsX2_copyFrom) := goodIn_app (goodIn_r _ [15, 16, 17, 6] rfl (by decide +kernel)) ggX3_bestPlace_X2_copyFrom
set_option maxRecDepth 20000 in
theorem ggX3_bestPlace_X2_putPerson : GoodIn wsX3_bestPlace wsX2_putPerson := goodIn_r _ [40, 19, 152, 153, 154, 155, 156, 157, 158, 159] rfl (by decide +kernel)
set_option maxRecDepth 20000 in
theorem gX3_bestPlace_X2_putPerson : GoodIn wsX3_bestPlace (wsV RX3 181 RX2 yX2_putPerson wsX2_putPerson) := goodIn_app (goodIn_r _ [37, 38, 39, 6] rfl (by decide +kernel)) ggX3_bestPlace_X2_putPerson
set_option maxRecDepth 20000 in
theorem ggX3_bestPlace_X3_runSum : GoodIn wsX3_bestPlace wsX3_runSum := goodIn_r _ [44, 45, 46, 47, 48, 49, 6, 50, 36, 51, 52, 53, 54, 25, 55, 56, 57, 58, 24, 59, 60, 61, 62, 63, 64, 65, 66, 67, 68, 69, 70, 71, 72, 73, 12, 74, 75, 76, 77, 78, 79, 80, 81, 82, 83, 84, 85, 86, 87, 88, 89, 90, 91, 92, 93, 94, 4, 5, 7, 8, 95, 96, 97, 98, 35, 26, 34, 99, 100, 101, 102, 19, 103, 104, 105, 106, 107, 108, 109, 110, 111, 112, 29, 113, 114, 115, 116, 117, 118, 119, 120, 31, 32, 33, 121, 122, 123, 124, 125, 126, 127, 128, 129, 130, 131, 132, 133, 134, 135, 136, 137, 138, 139, 140, 141, 142, 152, 153, 154, 155, 156, 157, 158, 159, 143, 144, 145, 146, 147, 148, 149, 150, 151] rfl (by decide +kernel)
set_option maxRecDepth 20000 in
theorem gX3_bestPlace_X3_runSum : GoodIn wsX3_bestPlace (wsV RX3 148 RX3 yX3_runSum wsX3_runSum) := goodIn_app (goodIn_r _ [41, 42, 43, 12] rfl (by decide +kernel)) ggX3_bestPlace_X3_runSum
theorem dX3_bestPlace_0 : decode cX3_bestPlace 0 = .ok (.aload_n 0, 1) := by decide +kernel
theorem dX3_bestPlace_1 : decode cX3_bestPlace 1 = .ok (.getfield 12, 3) := by decide +kernel
theorem dX3_bestPlace_4 : decode cX3_bestPlace 4 = .ok (.iload_n 1, 1) := by decide +kernel
theorem dX3_bestPlace_5 : decode cX3_bestPlace 5 = .ok (.invokevirtual 69, 3) := by decide +kernel
theorem dX3_bestPlace_8 : decode cX3_bestPlace 8 = .ok (.ifCond .ne 9, 3) := by decide +kernel
theorem dX3_bestPlace_11 : decode cX3_bestPlace 11 = .ok (.aload_n 0, 1) := by decide +kernel
theorem dX3_bestPlace_12 : decode cX3_bestPlace 12 = .ok (.iconst (-1), 1) := by decide +kernel
theorem dX3_bestPlace_13 : decode cX3_bestPlace 13 = .ok (.invokevirtual 43, 3) := by decide +kernel
theorem dX3_bestPlace_16 : decode cX3_bestPlace 16 = .ok (.ireturn, 1) := by decide +kernel
theorem dX3_bestPlace_17 : decode cX3_bestPlace 17 = .ok (.iconst 0, 1) := by decide +kernel
theorem dX3_bestPlace_18 : decode cX3_bestPlace 18 = .ok (.istore_n 2, 1) := by decide +kernel
theorem dX3_bestPlace_19 : decode cX3_bestPlace 19 = .ok (.iconst (-1), 1) := by decide +kernel
theorem dX3_bestPlace_20 : decode cX3_bestPlace 20 = .ok (.istore_n 3, 1) := by decide +kernel
theorem dX3_bestPlace_21 : decode cX3_bestPlace 21 = .ok (.iconst 0, 1) := by decide +kernel
theorem dX3_bestPlace_22 : decode cX3_bestPlace 22 = .ok (.istore 4, 2) := by decide +kernel
theorem dX3_bestPlace_24 : decode cX3_bestPlace 24 = .ok (.iload 4, 2) := by decide +kernel
theorem dX3_bestPlace_26 : decode cX3_bestPlace 26 = .ok (.bipush 99, 2) := by decide +kernel
theorem dX3_bestPlace_28 : decode cX3_bestPlace 28 = .ok (.if_icmp .gt 55, 3) := by decide +kernel
theorem dX3_bestPlace_31 : decode cX3_bestPlace 31 = .ok (.aload_n 0, 1) := by decide +kernel
theorem dX3_bestPlace_32 : decode cX3_bestPlace 32 = .ok (.getfield 16, 3) := by decide +kernel
theorem dX3_bestPlace_35 : decode cX3_bestPlace 35 = .ok (.aload_n 0, 1) := by decide +kernel
theorem dX3_bestPlace_36 : decode cX3_bestPlace 36 = .ok (.getfield 12, 3) := by decide +kernel
theorem dX3_bestPlace_39 : decode cX3_bestPlace 39 = .ok (.invokevirtual 58, 3) := by decide +kernel
theorem dX3_bestPlace_42 : decode cX3_bestPlace 42 = .ok (.aload_n 0, 1) := by decide +kernel
theorem dX3_bestPlace_43 : decode cX3_bestPlace 43 = .ok (.getfield 16, 3) := by decide +kernel
theorem dX3_bestPlace_46 : decode cX3_bestPlace 46 = .ok (.iload_n 1, 1) := by decide +kernel
theorem dX3_bestPlace_47 : decode cX3_bestPlace 47 = .ok (.iconst 1, 1) := by decide +kernel
theorem dX3_bestPlace_48 : decode cX3_bestPlace 48 = .ok (.iload 4, 2) := by decide +kernel
theorem dX3_bestPlace_50 : decode cX3_bestPlace 50 = .ok (.invokevirtual 181, 3) := by decide +kernel
theorem dX3_bestPlace_53 : decode cX3_bestPlace 53 = .ok (.aload_n 0, 1) := by decide +kernel
theorem dX3_bestPlace_54 : decode cX3_bestPlace 54 = .ok (.aload_n 0, 1) := by decide +kernel
theorem dX3_bestPlace_55 : decode cX3_bestPlace 55 = .ok (.getfield 16, 3) := by decide +kernel
theorem dX3_bestPlace_58 : decode cX3_bestPlace 58 = .ok (.iconst 1, 1) := by decide +kernel
theorem dX3_bestPlace_59 : decode cX3_bestPlace 59 = .ok (.iconst 0, 1) := by decide +kernel
theorem dX3_bestPlace_60 : decode cX3_bestPlace 60 = .ok (.invokevirtual 148, 3) := by decide +kernel
theorem dX3_bestPlace_63 : decode cX3_bestPlace 63 = .ok (.istore 5, 2) := by decide +kernel
theorem dX3_bestPlace_65 : decode cX3_bestPlace 65 = .ok (.iload 5, 2) := by decide +kernel
theorem dX3_bestPlace_67 : decode cX3_bestPlace 67 = .ok (.iload_n 3, 1) := by decide +kernel
theorem dX3_bestPlace_68 : decode cX3_bestPlace 68 = .ok (.if_icmp .le 9, 3) := by decide +kernel
theorem dX3_bestPlace_71 : decode cX3_bestPlace 71 = .ok (.iload 5, 2) := by decide +kernel
theorem dX3_bestPlace_73 : decode cX3_bestPlace 73 = .ok (.istore_n 3, 1) := by decide +kernel
theorem dX3_bestPlace_74 : decode cX3_bestPlace 74 = .ok (.iload 4, 2) := by decide +kernel
theorem dX3_bestPlace_76 : decode cX3_bestPlace 76 = .ok (.istore_n 2, 1) := by decide +kernel
theorem dX3_bestPlace_77 : decode cX3_bestPlace 77 = .ok (.iinc 4 10, 3) := by decide +kernel
theorem dX3_bestPlace_80 : decode cX3_bestPlace 80 = .ok (.goto (-56), 3) := by decide +kernel
theorem dX3_bestPlace_83 : decode cX3_bestPlace 83 = .ok (.iload_n 2, 1) := by decide +kernel
theorem dX3_bestPlace_84 : decode cX3_bestPlace 84 = .ok (.ireturn, 1) := by decide +kernel
set_option maxRecDepth 20000 in
theorem ggX3_strangers_X3_isRule : GoodIn wsX3_strangers wsX3_isRule := goodIn_r _ [5] rfl (by decide +kernel)
set_option maxRecDepth 20000 in
theorem gX3_strangers_X3_isRule : GoodIn wsX3_strangers (va_wsS RX3 134 yX3_isRule wsX3_isRule) := goodIn_app (goodIn_r _ [2, 3, 4] rfl (by decide +kernel)) ggX3_strangers_X3_isRule
set_option maxRecDepth 20000 in
theorem ggX3_strangers_X3_refuse : GoodIn wsX3_strangers wsX3_refuse := goodIn_r _ [9, 10, 149, 150, 151, 152, 153, 154, 155, 156, 157] rfl (by decide +kernel)
set_option maxRecDepth 20000 in
theorem gX3_strangers_X3_refuse : GoodIn wsX3_strangers (wsV RX3 43 RX3 yX3_refuse wsX3_refuse) := goodIn_app (goodIn_r _ [6, 7, 8, 4] rfl (by decide +kernel)) ggX3_strangers_X3_refuse
set_option maxRecDepth 20000 in
theorem ggX3_strangers_X3_mindOfNow : GoodIn wsX3_strangers wsX3_mindOfNow := goodIn_r _ [14, 15, 1, 16, 17, 18, 19, 20, 21, 22, 23, 24, 25, 26, 27, 28, 29, 30, 31, 32, 33, 34, 35, 36, 37, 38, 39, 149, 150, 151, 152, 153, 154, 155, 156, 157, 158, 159, 160, 161, 162, 163, 164, 165] rfl (by decide +kernel)
set_option maxRecDepth 20000 in
theorem gX3_strangers_X3_mindOfNow : GoodIn wsX3_strangers (wsV RX3 144 RX3 yX3_mindOfNow wsX3_mindOfNow) := goodIn_app (goodIn_r _ [11, 12, 13, 4] rfl (by decide +kernel)) ggX3_strangers_X3_mindOfNow
set_option maxRecDepth 20000 in
theorem ggX3_strangers_X2_setting : GoodIn wsX3_strangers wsX2_setting := goodIn_r _ [43, 38, 158, 159, 160, 161, 162, 163, 164, 165] rfl (by decide +kernel)
set_option maxRecDepth 20000 in
theorem gX3_strangers_X2_setting : GoodIn wsX3_strangers (wsV RX3 92 RX2 yX2_setting wsX2_setting) := goodIn_app (goodIn_r _ [40, 41, 42, 19] rfl (by decide +kernel)) ggX3_strangers_X2_setting
set_option maxRecDepth 20000 in
theorem ggX3_strangers_X3_runSum : GoodIn wsX3_strangers wsX3_runSum := goodIn_r _ [47, 48, 49, 50, 51, 52, 19, 53, 39, 54, 55, 56, 57, 28, 58, 59, 60, 61, 27, 62, 63, 64, 65, 66, 67, 68, 69, 70, 71, 72, 73, 74, 75, 76, 4, 77, 78, 79, 80, 81, 82, 83, 84, 85, 86, 87, 88, 89, 90, 91, 92, 93, 94, 95, 96, 97, 98, 99, 100, 26, 101, 102, 103, 104, 38, 29, 37, 105, 106, 107, 108, 21, 109, 110, 111, 112, 113, 114, 115, 116, 117, 118, 32, 119, 120, 121, 122, 123, 124, 125, 126, 34, 35, 36, 127, 128, 129, 130, 131, 132, 133, 134, 135, 136, 137, 138, 139, 140, 141, 142, 143, 144, 145, 146, 147, 148, 158, 159, 160, 161, 162, 163, 164, 165, 149, 150, 151, 152, 153, 154, 155, 156, 157] rfl (by decide +kernel)
set_option maxRecDepth 20000 in
theorem gX3_strangers_X3_runSum : GoodIn wsX3_strangers (wsV RX3 148 RX3 yX3_runSum wsX3_runSum) := goodIn_app (goodIn_r _ [44, 45, 46, 4] rfl (by decide +kernel)) ggX3_strangers_X3_runSum
theorem dX3_strangers_0 : decode cX3_strangers 0 = .ok (.iload_n 1, 1) := by decide +kernel
theorem dX3_strangers_1 : decode cX3_strangers 1 = .ok (.invokestatic 134, 3) := by decide +kernel
theorem dX3_strangers_4 : decode cX3_strangers 4 = .ok (.ifCond .ne 10, 3) := by decide +kernel
theorem dX3_strangers_7 : decode cX3_strangers 7 = .ok (.aload_n 0, 1) := by decide +kernel
theorem dX3_strangers_8 : decode cX3_strangers 8 = .ok (.bipush (-2), 2) := by decide +kernel
theorem dX3_strangers_10 : decode cX3_strangers 10 = .ok (.invokevirtual 43, 3) := by decide +kernel
theorem dX3_strangers_13 : decode cX3_strangers 13 = .ok (.ireturn, 1) := by decide +kernel
theorem dX3_strangers_14 : decode cX3_strangers 14 = .ok (.aload_n 0, 1) := by decide +kernel
theorem dX3_strangers_15 : decode cX3_strangers 15 = .ok (.aload_n 0, 1) := by decide +kernel
theorem dX3_strangers_16 : decode cX3_strangers 16 = .ok (.invokevirtual 144, 3) := by decide +kernel
theorem dX3_strangers_19 : decode cX3_strangers 19 = .ok (.iload_n 1, 1) := by decide +kernel
theorem dX3_strangers_20 : decode cX3_strangers 20 = .ok (.aload_n 0, 1) := by decide +kernel
theorem dX3_strangers_21 : decode cX3_strangers 21 = .ok (.getfield 12, 3) := by decide +kernel
theorem dX3_strangers_24 : decode cX3_strangers 24 = .ok (.iconst 3, 1) := by decide +kernel
theorem dX3_strangers_25 : decode cX3_strangers 25 = .ok (.invokevirtual 92, 3) := by decide +kernel
theorem dX3_strangers_28 : decode cX3_strangers 28 = .ok (.invokevirtual 148, 3) := by decide +kernel
theorem dX3_strangers_31 : decode cX3_strangers 31 = .ok (.ireturn, 1) := by decide +kernel
set_option maxRecDepth 20000 in
theorem ggX3_smallest_X3_greatestSetting : GoodIn wsX3_smallest wsX3_greatestSetting := goodIn_r _ [6] rfl (by decide +kernel)
set_option maxRecDepth 20000 in
theorem gX3_smallest_X3_greatestSetting : GoodIn wsX3_smallest (va_wsS RX3 89 yX3_greatestSetting wsX3_greatestSetting) := goodIn_app (goodIn_r _ [3, 4, 5] rfl (by decide +kernel)) ggX3_smallest_X3_greatestSetting
set_option maxRecDepth 20000 in
theorem ggX3_smallest_X2_copyFrom : GoodIn wsX3_smallest wsX2_copyFrom := goodIn_r _ [11, 12, 13, 14, 15, 16, 17, 18, 19, 20, 21, 22, 23, 24, 25, 26, 27, 28, 29, 30, 149, 150, 151, 152, 153, 154, 155, 156] rfl (by decide +kernel)
set_option maxRecDepth 20000 in
theorem gX3_smallest_X2_copyFrom : GoodIn wsX3_smallest (wsV RX3 58 RX2 yX2_copyFrom wsX2_copyFrom) := goodIn_app (goodIn_r _ [7, 8, 9, 10] rfl (by decide +kernel)) ggX3_smallest_X2_copyFrom
set_option maxRecDepth 20000 in
theorem ggX3_smallest_X2_settle : GoodIn wsX3_smallest wsX2_settle := goodIn_r _ [34, 29, 149, 150, 151, 152, 153, 154, 155, 156] rfl (by decide +kernel)
set_option maxRecDepth 20000 in
theorem gX3_smallest_X2_settle : GoodIn wsX3_smallest (wsV RX3 95 RX2 yX2_settle wsX2_settle) := goodIn_app (goodIn_r _ [31, 32, 33, 10] rfl (by decide +kernel)) ggX3_smallest_X2_settle
set_option maxRecDepth 20000 in
theorem ggX3_smallest_X3_runSum : GoodIn wsX3_smallest wsX3_runSum := goodIn_r _ [38, 39, 40, 41, 42, 43, 10, 44, 30, 45, 46, 47, 48, 19, 49, 50, 51, 52, 18, 53, 54, 55, 56, 57, 58, 59, 60, 61, 62, 63, 64, 65, 66, 67, 5, 68, 69, 70, 71, 72, 73, 74, 75, 76, 77, 78, 79, 80, 81, 82, 83, 84, 85, 86, 87, 88, 89, 90, 91, 17, 92, 93, 94, 95, 29, 20, 28, 96, 97, 98, 99, 12, 100, 101, 102, 103, 104, 105, 106, 107, 108, 109, 23, 110, 111, 112, 113, 114, 115, 116, 117, 25, 26, 27, 118, 119, 120, 121, 122, 123, 124, 125, 126, 127, 128, 129, 130, 131, 132, 133, 134, 135, 136, 137, 138, 139, 149, 150, 151, 152, 153, 154, 155, 156, 140, 141, 142, 143, 144, 145, 146, 147, 148] rfl (by decide +kernel)
set_option maxRecDepth 20000 in
theorem gX3_smallest_X3_runSum : GoodIn wsX3_smallest (wsV RX3 148 RX3 yX3_runSum wsX3_runSum) := goodIn_app (goodIn_r _ [35, 36, 37, 5] rfl (by decide +kernel)) ggX3_smallest_X3_runSum
theorem dX3_smallest_0 : decode cX3_smallest 0 = .ok (.iconst 0, 1) := by decide +kernel
theorem dX3_smallest_1 : decode cX3_smallest 1 = .ok (.istore_n 1, 1) := by decide +kernel
theorem dX3_smallest_2 : decode cX3_smallest 2 = .ok (.iconst (-1), 1) := by decide +kernel
theorem dX3_smallest_3 : decode cX3_smallest 3 = .ok (.istore_n 2, 1) := by decide +kernel
theorem dX3_smallest_4 : decode cX3_smallest 4 = .ok (.iconst 0, 1) := by decide +kernel
theorem dX3_smallest_5 : decode cX3_smallest 5 = .ok (.istore_n 3, 1) := by decide +kernel
theorem dX3_smallest_6 : decode cX3_smallest 6 = .ok (.iload_n 3, 1) := by decide +kernel
theorem dX3_smallest_7 : decode cX3_smallest 7 = .ok (.iconst 2, 1) := by decide +kernel
theorem dX3_smallest_8 : decode cX3_smallest 8 = .ok (.invokestatic 89, 3) := by decide +kernel
theorem dX3_smallest_11 : decode cX3_smallest 11 = .ok (.if_icmp .gt 61, 3) := by decide +kernel
theorem dX3_smallest_14 : decode cX3_smallest 14 = .ok (.aload_n 0, 1) := by decide +kernel
theorem dX3_smallest_15 : decode cX3_smallest 15 = .ok (.getfield 16, 3) := by decide +kernel
theorem dX3_smallest_18 : decode cX3_smallest 18 = .ok (.aload_n 0, 1) := by decide +kernel
theorem dX3_smallest_19 : decode cX3_smallest 19 = .ok (.getfield 12, 3) := by decide +kernel
theorem dX3_smallest_22 : decode cX3_smallest 22 = .ok (.invokevirtual 58, 3) := by decide +kernel
theorem dX3_smallest_25 : decode cX3_smallest 25 = .ok (.aload_n 0, 1) := by decide +kernel
theorem dX3_smallest_26 : decode cX3_smallest 26 = .ok (.getfield 16, 3) := by decide +kernel
theorem dX3_smallest_29 : decode cX3_smallest 29 = .ok (.iconst 0, 1) := by decide +kernel
theorem dX3_smallest_30 : decode cX3_smallest 30 = .ok (.iconst 3, 1) := by decide +kernel
theorem dX3_smallest_31 : decode cX3_smallest 31 = .ok (.invokevirtual 95, 3) := by decide +kernel
theorem dX3_smallest_34 : decode cX3_smallest 34 = .ok (.aload_n 0, 1) := by decide +kernel
theorem dX3_smallest_35 : decode cX3_smallest 35 = .ok (.getfield 16, 3) := by decide +kernel
theorem dX3_smallest_38 : decode cX3_smallest 38 = .ok (.iconst 2, 1) := by decide +kernel
theorem dX3_smallest_39 : decode cX3_smallest 39 = .ok (.iload_n 3, 1) := by decide +kernel
theorem dX3_smallest_40 : decode cX3_smallest 40 = .ok (.invokevirtual 95, 3) := by decide +kernel
theorem dX3_smallest_43 : decode cX3_smallest 43 = .ok (.aload_n 0, 1) := by decide +kernel
theorem dX3_smallest_44 : decode cX3_smallest 44 = .ok (.aload_n 0, 1) := by decide +kernel
theorem dX3_smallest_45 : decode cX3_smallest 45 = .ok (.getfield 16, 3) := by decide +kernel
theorem dX3_smallest_48 : decode cX3_smallest 48 = .ok (.iconst 1, 1) := by decide +kernel
theorem dX3_smallest_49 : decode cX3_smallest 49 = .ok (.iconst 0, 1) := by decide +kernel
theorem dX3_smallest_50 : decode cX3_smallest 50 = .ok (.invokevirtual 148, 3) := by decide +kernel
theorem dX3_smallest_53 : decode cX3_smallest 53 = .ok (.istore 4, 2) := by decide +kernel
theorem dX3_smallest_55 : decode cX3_smallest 55 = .ok (.iload 4, 2) := by decide +kernel
theorem dX3_smallest_57 : decode cX3_smallest 57 = .ok (.iload_n 2, 1) := by decide +kernel
theorem dX3_smallest_58 : decode cX3_smallest 58 = .ok (.if_icmp .le 8, 3) := by decide +kernel
theorem dX3_smallest_61 : decode cX3_smallest 61 = .ok (.iload 4, 2) := by decide +kernel
theorem dX3_smallest_63 : decode cX3_smallest 63 = .ok (.istore_n 2, 1) := by decide +kernel
theorem dX3_smallest_64 : decode cX3_smallest 64 = .ok (.iload_n 3, 1) := by decide +kernel
theorem dX3_smallest_65 : decode cX3_smallest 65 = .ok (.istore_n 1, 1) := by decide +kernel
theorem dX3_smallest_66 : decode cX3_smallest 66 = .ok (.iinc 3 1, 3) := by decide +kernel
theorem dX3_smallest_69 : decode cX3_smallest 69 = .ok (.goto (-63), 3) := by decide +kernel
theorem dX3_smallest_72 : decode cX3_smallest 72 = .ok (.iload_n 1, 1) := by decide +kernel
theorem dX3_smallest_73 : decode cX3_smallest 73 = .ok (.ireturn, 1) := by decide +kernel
set_option maxRecDepth 20000 in
theorem ggX3_byLaw_X3_isLaw : GoodIn wsX3_byLaw wsX3_isLaw := goodIn_r _ [6] rfl (by decide +kernel)
set_option maxRecDepth 20000 in
theorem gX3_byLaw_X3_isLaw : GoodIn wsX3_byLaw (va_wsS RX3 178 yX3_isLaw wsX3_isLaw) := goodIn_app (goodIn_r _ [3, 4, 5] rfl (by decide +kernel)) ggX3_byLaw_X3_isLaw
set_option maxRecDepth 20000 in
theorem ggX3_byLaw_X3_isRule : GoodIn wsX3_byLaw wsX3_isRule := goodIn_r _ [9] rfl (by decide +kernel)
set_option maxRecDepth 20000 in
theorem gX3_byLaw_X3_isRule : GoodIn wsX3_byLaw (va_wsS RX3 134 yX3_isRule wsX3_isRule) := goodIn_app (goodIn_r _ [7, 8, 5] rfl (by decide +kernel)) ggX3_byLaw_X3_isRule
set_option maxRecDepth 20000 in
theorem ggX3_byLaw_X3_refuse : GoodIn wsX3_byLaw wsX3_refuse := goodIn_r _ [13, 14, 148, 149, 150, 151, 152, 153, 154, 155, 156] rfl (by decide +kernel)
set_option maxRecDepth 20000 in
theorem gX3_byLaw_X3_refuse : GoodIn wsX3_byLaw (wsV RX3 43 RX3 yX3_refuse wsX3_refuse) := goodIn_app (goodIn_r _ [10, 11, 12, 5] rfl (by decide +kernel)) ggX3_byLaw_X3_refuse
set_option maxRecDepth 20000 in
theorem ggX3_byLaw_X2_copyFrom : GoodIn wsX3_byLaw wsX2_copyFrom := goodIn_r _ [19, 20, 21, 22, 23, 24, 25, 26, 27, 28, 29, 30, 31, 32, 33, 34, 35, 36, 37, 38, 157, 158, 159, 160, 161, 162, 163, 164] rfl (by decide +kernel)
set_option maxRecDepth 20000 in
theorem gX3_byLaw_X2_copyFrom : GoodIn wsX3_byLaw (wsV RX3 58 RX2 yX2_copyFrom wsX2_copyFrom) := goodIn_app (goodIn_r _ [15, 16, 17, 18] rfl (by decide +kernel)) ggX3_byLaw_X2_copyFrom
set_option maxRecDepth 20000 in
theorem ggX3_byLaw_X2_settle : GoodIn wsX3_byLaw wsX2_settle := goodIn_r _ [42, 37, 157, 158, 159, 160, 161, 162, 163, 164] rfl (by decide +kernel)
set_option maxRecDepth 20000 in
theorem gX3_byLaw_X2_settle : GoodIn wsX3_byLaw (wsV RX3 95 RX2 yX2_settle wsX2_settle) := goodIn_app (goodIn_r _ [39, 40, 41, 18] rfl (by decide +kernel)) ggX3_byLaw_X2_settle
set_option maxRecDepth 20000 in
theorem ggX3_byLaw_X3_runSum : GoodIn wsX3_byLaw wsX3_runSum := goodIn_r _ [46, 47, 48, 49, 50, 51, 18, 52, 38, 53, 54, 55, 56, 27, 57, 58, 59, 60, 26, 61, 62, 63, 64, 65, 66, 67, 68, 69, 70, 71, 72, 73, 74, 75, 5, 76, 77, 78, 79, 80, 81, 82, 83, 84, 85, 86, 87, 88, 89, 90, 91, 92, 93, 94, 95, 96, 97, 98, 99, 25, 100, 101, 102, 103, 37, 28, 36, 104, 105, 106, 107, 20, 108, 109, 110, 111, 112, 113, 114, 115, 116, 117, 31, 118, 119, 120, 121, 122, 123, 124, 125, 33, 34, 35, 126, 127, 128, 129, 130, 131, 132, 133, 134, 135, 136, 137, 138, 139, 140, 141, 142, 143, 144, 145, 146, 147, 157, 158, 159, 160, 161, 162, 163, 164, 148, 149, 150, 151, 152, 153, 154, 155, 156] rfl (by decide +kernel)
set_option maxRecDepth 20000 in
theorem gX3_byLaw_X3_runSum : GoodIn wsX3_byLaw (wsV RX3 148 RX3 yX3_runSum wsX3_runSum) := goodIn_app (goodIn_r _ [43, 44, 45, 5] rfl (by decide +kernel)) ggX3_byLaw_X3_runSum
theorem dX3_byLaw_0 : decode cX3_byLaw 0 = .ok (.iload_n 1, 1) := by decide +kernel
theorem dX3_byLaw_1 : decode cX3_byLaw 1 = .ok (.invokestatic 178, 3) := by decide +kernel
theorem dX3_byLaw_4 : decode cX3_byLaw 4 = .ok (.ifCond .eq 10, 3) := by decide +kernel
theorem dX3_byLaw_7 : decode cX3_byLaw 7 = .ok (.iload_n 2, 1) := by decide +kernel
theorem dX3_byLaw_8 : decode cX3_byLaw 8 = .ok (.invokestatic 134, 3) := by decide +kernel
theorem dX3_byLaw_11 : decode cX3_byLaw 11 = .ok (.ifCond .ne 10, 3) := by decide +kernel
theorem dX3_byLaw_14 : decode cX3_byLaw 14 = .ok (.aload_n 0, 1) := by decide +kernel
theorem dX3_byLaw_15 : decode cX3_byLaw 15 = .ok (.bipush (-2), 2) := by decide +kernel
theorem dX3_byLaw_17 : decode cX3_byLaw 17 = .ok (.invokevirtual 43, 3) := by decide +kernel
theorem dX3_byLaw_20 : decode cX3_byLaw 20 = .ok (.ireturn, 1) := by decide +kernel
theorem dX3_byLaw_21 : decode cX3_byLaw 21 = .ok (.aload_n 0, 1) := by decide +kernel
theorem dX3_byLaw_22 : decode cX3_byLaw 22 = .ok (.getfield 16, 3) := by decide +kernel
theorem dX3_byLaw_25 : decode cX3_byLaw 25 = .ok (.aload_n 0, 1) := by decide +kernel
theorem dX3_byLaw_26 : decode cX3_byLaw 26 = .ok (.getfield 12, 3) := by decide +kernel
theorem dX3_byLaw_29 : decode cX3_byLaw 29 = .ok (.invokevirtual 58, 3) := by decide +kernel
theorem dX3_byLaw_32 : decode cX3_byLaw 32 = .ok (.aload_n 0, 1) := by decide +kernel
theorem dX3_byLaw_33 : decode cX3_byLaw 33 = .ok (.getfield 16, 3) := by decide +kernel
theorem dX3_byLaw_36 : decode cX3_byLaw 36 = .ok (.iconst 0, 1) := by decide +kernel
theorem dX3_byLaw_37 : decode cX3_byLaw 37 = .ok (.iload_n 1, 1) := by decide +kernel
theorem dX3_byLaw_38 : decode cX3_byLaw 38 = .ok (.invokevirtual 95, 3) := by decide +kernel
theorem dX3_byLaw_41 : decode cX3_byLaw 41 = .ok (.aload_n 0, 1) := by decide +kernel
theorem dX3_byLaw_42 : decode cX3_byLaw 42 = .ok (.aload_n 0, 1) := by decide +kernel
theorem dX3_byLaw_43 : decode cX3_byLaw 43 = .ok (.getfield 16, 3) := by decide +kernel
theorem dX3_byLaw_46 : decode cX3_byLaw 46 = .ok (.iload_n 2, 1) := by decide +kernel
theorem dX3_byLaw_47 : decode cX3_byLaw 47 = .ok (.iconst 0, 1) := by decide +kernel
theorem dX3_byLaw_48 : decode cX3_byLaw 48 = .ok (.invokevirtual 148, 3) := by decide +kernel
theorem dX3_byLaw_51 : decode cX3_byLaw 51 = .ok (.ireturn, 1) := by decide +kernel
set_option maxRecDepth 20000 in
theorem ggX3_seeds_X3_isRule : GoodIn wsX3_seeds wsX3_isRule := goodIn_r _ [6] rfl (by decide +kernel)
set_option maxRecDepth 20000 in
theorem gX3_seeds_X3_isRule : GoodIn wsX3_seeds (va_wsS RX3 134 yX3_isRule wsX3_isRule) := goodIn_app (goodIn_r _ [3, 4, 5] rfl (by decide +kernel)) ggX3_seeds_X3_isRule
set_option maxRecDepth 20000 in
theorem ggX3_seeds_X3_refuse : GoodIn wsX3_seeds wsX3_refuse := goodIn_r _ [10, 11, 155, 156, 157, 158, 159, 160, 161, 162, 163] rfl (by decide +kernel)
set_option maxRecDepth 20000 in
theorem gX3_seeds_X3_refuse : GoodIn wsX3_seeds (wsV RX3 43 RX3 yX3_refuse wsX3_refuse) := goodIn_app (goodIn_r _ [7, 8, 9, 5] rfl (by decide +kernel)) ggX3_seeds_X3_refuse
set_option maxRecDepth 20000 in
theorem ggX3_seeds_X3_mindOfNow : GoodIn wsX3_seeds wsX3_mindOfNow := goodIn_r _ [15, 16, 1, 17, 18, 19, 20, 21, 22, 23, 24, 25, 26, 27, 28, 29, 30, 31, 32, 33, 34, 35, 36, 37, 38, 39, 40, 155, 156, 157, 158, 159, 160, 161, 162, 163, 164, 165, 166, 167, 168, 169, 170, 171] rfl (by decide +kernel)
set_option maxRecDepth 20000 in
theorem gX3_seeds_X3_mindOfNow : GoodIn wsX3_seeds (wsV RX3 144 RX3 yX3_mindOfNow wsX3_mindOfNow) := goodIn_app (goodIn_r _ [12, 13, 14, 5] rfl (by decide +kernel)) ggX3_seeds_X3_mindOfNow
set_option maxRecDepth 20000 in
theorem ggX3_seeds_X3_seededSum : GoodIn wsX3_seeds wsX3_seededSum := goodIn_r _ [44, 2, 45, 46, 47, 5, 48, 49, 50, 51, 52, 53, 54, 55, 56, 57, 20, 58, 29, 40, 59, 60, 61, 62, 28, 63, 64, 65, 66, 67, 68, 69, 70, 71, 72, 73, 74, 75, 76, 77, 78, 79, 80, 81, 82, 83, 84, 85, 86, 87, 88, 89, 90, 91, 92, 93, 94, 95, 96, 97, 98, 99, 100, 101, 102, 103, 104, 105, 106, 107, 108, 109, 110, 27, 111, 112, 113, 114, 39, 30, 38, 115, 116, 117, 118, 22, 119, 120, 121, 122, 123, 124, 125, 126, 127, 128, 33, 129, 130, 131, 132, 133, 134, 135, 136, 35, 36, 37, 137, 138, 139, 140, 141, 142, 143, 144, 145, 146, 147, 148, 149, 150, 151, 152, 153, 154, 164, 165, 166, 167, 168, 169, 170, 171, 155, 156, 157, 158, 159, 160, 161, 162, 163] rfl (by decide +kernel)
set_option maxRecDepth 20000 in
theorem gX3_seeds_X3_seededSum : GoodIn wsX3_seeds (wsV RX3 185 RX3 yX3_seededSum wsX3_seededSum) := goodIn_app (goodIn_r _ [41, 42, 43, 5] rfl (by decide +kernel)) ggX3_seeds_X3_seededSum
theorem dX3_seeds_0 : decode cX3_seeds 0 = .ok (.iload_n 1, 1) := by decide +kernel
theorem dX3_seeds_1 : decode cX3_seeds 1 = .ok (.invokestatic 134, 3) := by decide +kernel
theorem dX3_seeds_4 : decode cX3_seeds 4 = .ok (.ifCond .ne 10, 3) := by decide +kernel
theorem dX3_seeds_7 : decode cX3_seeds 7 = .ok (.aload_n 0, 1) := by decide +kernel
theorem dX3_seeds_8 : decode cX3_seeds 8 = .ok (.bipush (-2), 2) := by decide +kernel
theorem dX3_seeds_10 : decode cX3_seeds 10 = .ok (.invokevirtual 43, 3) := by decide +kernel
theorem dX3_seeds_13 : decode cX3_seeds 13 = .ok (.ireturn, 1) := by decide +kernel
theorem dX3_seeds_14 : decode cX3_seeds 14 = .ok (.iload_n 2, 1) := by decide +kernel
theorem dX3_seeds_15 : decode cX3_seeds 15 = .ok (.iconst 1, 1) := by decide +kernel
theorem dX3_seeds_16 : decode cX3_seeds 16 = .ok (.if_icmp .ge 10, 3) := by decide +kernel
theorem dX3_seeds_19 : decode cX3_seeds 19 = .ok (.aload_n 0, 1) := by decide +kernel
theorem dX3_seeds_20 : decode cX3_seeds 20 = .ok (.bipush (-4), 2) := by decide +kernel
theorem dX3_seeds_22 : decode cX3_seeds 22 = .ok (.invokevirtual 43, 3) := by decide +kernel
theorem dX3_seeds_25 : decode cX3_seeds 25 = .ok (.ireturn, 1) := by decide +kernel
theorem dX3_seeds_26 : decode cX3_seeds 26 = .ok (.iload_n 2, 1) := by decide +kernel
theorem dX3_seeds_27 : decode cX3_seeds 27 = .ok (.bipush 10, 2) := by decide +kernel
theorem dX3_seeds_29 : decode cX3_seeds 29 = .ok (.if_icmp .le 10, 3) := by decide +kernel
theorem dX3_seeds_32 : decode cX3_seeds 32 = .ok (.aload_n 0, 1) := by decide +kernel
theorem dX3_seeds_33 : decode cX3_seeds 33 = .ok (.bipush (-6), 2) := by decide +kernel
theorem dX3_seeds_35 : decode cX3_seeds 35 = .ok (.invokevirtual 43, 3) := by decide +kernel
theorem dX3_seeds_38 : decode cX3_seeds 38 = .ok (.ireturn, 1) := by decide +kernel
theorem dX3_seeds_39 : decode cX3_seeds 39 = .ok (.aload_n 0, 1) := by decide +kernel
theorem dX3_seeds_40 : decode cX3_seeds 40 = .ok (.getfield 12, 3) := by decide +kernel
theorem dX3_seeds_43 : decode cX3_seeds 43 = .ok (.getfield 171, 3) := by decide +kernel
theorem dX3_seeds_46 : decode cX3_seeds 46 = .ok (.ifCond .ne 10, 3) := by decide +kernel
theorem dX3_seeds_49 : decode cX3_seeds 49 = .ok (.aload_n 0, 1) := by decide +kernel
theorem dX3_seeds_50 : decode cX3_seeds 50 = .ok (.bipush (-3), 2) := by decide +kernel
theorem dX3_seeds_52 : decode cX3_seeds 52 = .ok (.invokevirtual 43, 3) := by decide +kernel
theorem dX3_seeds_55 : decode cX3_seeds 55 = .ok (.ireturn, 1) := by decide +kernel
theorem dX3_seeds_56 : decode cX3_seeds 56 = .ok (.aload_n 0, 1) := by decide +kernel
theorem dX3_seeds_57 : decode cX3_seeds 57 = .ok (.aload_n 0, 1) := by decide +kernel
theorem dX3_seeds_58 : decode cX3_seeds 58 = .ok (.invokevirtual 144, 3) := by decide +kernel
theorem dX3_seeds_61 : decode cX3_seeds 61 = .ok (.iload_n 1, 1) := by decide +kernel
theorem dX3_seeds_62 : decode cX3_seeds 62 = .ok (.iload_n 2, 1) := by decide +kernel
theorem dX3_seeds_63 : decode cX3_seeds 63 = .ok (.iload_n 3, 1) := by decide +kernel
theorem dX3_seeds_64 : decode cX3_seeds 64 = .ok (.invokevirtual 185, 3) := by decide +kernel
theorem dX3_seeds_67 : decode cX3_seeds 67 = .ok (.ireturn, 1) := by decide +kernel
set_option maxRecDepth 20000 in
theorem ggX3_row_X2_hasPerson : GoodIn wsX3_row wsX2_hasPerson := goodIn_r _ [8, 9, 25, 26, 27, 28, 29, 30, 31, 32] rfl (by decide +kernel)
set_option maxRecDepth 20000 in
theorem gX3_row_X2_hasPerson : GoodIn wsX3_row (wsV RX3 69 RX2 yX2_hasPerson wsX2_hasPerson) := goodIn_app (goodIn_r _ [4, 5, 6, 7] rfl (by decide +kernel)) ggX3_row_X2_hasPerson
set_option maxRecDepth 20000 in
theorem ggX3_row_X3_refuse : GoodIn wsX3_row wsX3_refuse := goodIn_r _ [14, 15, 16, 17, 18, 19, 20, 21, 22, 23, 24] rfl (by decide +kernel)
set_option maxRecDepth 20000 in
theorem gX3_row_X3_refuse : GoodIn wsX3_row (wsV RX3 43 RX3 yX3_refuse wsX3_refuse) := goodIn_app (goodIn_r _ [10, 11, 12, 13] rfl (by decide +kernel)) ggX3_row_X3_refuse
theorem dX3_row_0 : decode cX3_row 0 = .ok (.aload_n 0, 1) := by decide +kernel
theorem dX3_row_1 : decode cX3_row 1 = .ok (.getfield 12, 3) := by decide +kernel
theorem dX3_row_4 : decode cX3_row 4 = .ok (.iload_n 1, 1) := by decide +kernel
theorem dX3_row_5 : decode cX3_row 5 = .ok (.invokevirtual 69, 3) := by decide +kernel
theorem dX3_row_8 : decode cX3_row 8 = .ok (.ifCond .ne 9, 3) := by decide +kernel
theorem dX3_row_11 : decode cX3_row 11 = .ok (.aload_n 0, 1) := by decide +kernel
theorem dX3_row_12 : decode cX3_row 12 = .ok (.iconst (-1), 1) := by decide +kernel
theorem dX3_row_13 : decode cX3_row 13 = .ok (.invokevirtual 43, 3) := by decide +kernel
theorem dX3_row_16 : decode cX3_row 16 = .ok (.ireturn, 1) := by decide +kernel
theorem dX3_row_17 : decode cX3_row 17 = .ok (.aload_n 0, 1) := by decide +kernel
theorem dX3_row_18 : decode cX3_row 18 = .ok (.getfield 189, 3) := by decide +kernel
theorem dX3_row_21 : decode cX3_row 21 = .ok (.ifCond .lt 15, 3) := by decide +kernel
theorem dX3_row_24 : decode cX3_row 24 = .ok (.aload_n 0, 1) := by decide +kernel
theorem dX3_row_25 : decode cX3_row 25 = .ok (.getfield 189, 3) := by decide +kernel
theorem dX3_row_28 : decode cX3_row 28 = .ok (.aload_n 0, 1) := by decide +kernel
theorem dX3_row_29 : decode cX3_row 29 = .ok (.getfield 36, 3) := by decide +kernel
theorem dX3_row_32 : decode cX3_row 32 = .ok (.arraylength, 1) := by decide +kernel
theorem dX3_row_33 : decode cX3_row 33 = .ok (.if_icmp .lt 10, 3) := by decide +kernel
theorem dX3_row_36 : decode cX3_row 36 = .ok (.aload_n 0, 1) := by decide +kernel
theorem dX3_row_37 : decode cX3_row 37 = .ok (.bipush (-6), 2) := by decide +kernel
theorem dX3_row_39 : decode cX3_row 39 = .ok (.invokevirtual 43, 3) := by decide +kernel
theorem dX3_row_42 : decode cX3_row 42 = .ok (.ireturn, 1) := by decide +kernel
theorem dX3_row_43 : decode cX3_row 43 = .ok (.aload_n 0, 1) := by decide +kernel
theorem dX3_row_44 : decode cX3_row 44 = .ok (.getfield 36, 3) := by decide +kernel
theorem dX3_row_47 : decode cX3_row 47 = .ok (.aload_n 0, 1) := by decide +kernel
theorem dX3_row_48 : decode cX3_row 48 = .ok (.getfield 189, 3) := by decide +kernel
theorem dX3_row_51 : decode cX3_row 51 = .ok (.iload_n 1, 1) := by decide +kernel
theorem dX3_row_52 : decode cX3_row 52 = .ok (.iastore, 1) := by decide +kernel
theorem dX3_row_53 : decode cX3_row 53 = .ok (.aload_n 0, 1) := by decide +kernel
theorem dX3_row_54 : decode cX3_row 54 = .ok (.dup, 1) := by decide +kernel
theorem dX3_row_55 : decode cX3_row 55 = .ok (.getfield 189, 3) := by decide +kernel
theorem dX3_row_58 : decode cX3_row 58 = .ok (.iconst 1, 1) := by decide +kernel
theorem dX3_row_59 : decode cX3_row 59 = .ok (.iadd, 1) := by decide +kernel
theorem dX3_row_60 : decode cX3_row 60 = .ok (.putfield 189, 3) := by decide +kernel
theorem dX3_row_63 : decode cX3_row 63 = .ok (.aload_n 0, 1) := by decide +kernel
theorem dX3_row_64 : decode cX3_row 64 = .ok (.getfield 189, 3) := by decide +kernel
theorem dX3_row_67 : decode cX3_row 67 = .ok (.ireturn, 1) := by decide +kernel
set_option maxRecDepth 20000 in
theorem ggX3_judge_X3_mindOfNow : GoodIn wsX3_judge wsX3_mindOfNow := goodIn_r _ [6, 7, 8, 9, 10, 11, 12, 13, 14, 15, 16, 17, 18, 19, 20, 21, 22, 23, 24, 25, 26, 27, 28, 29, 30, 31, 32, 110, 111, 112, 113, 114, 115, 116, 117, 118, 119, 120, 121, 122, 123, 124, 125, 126] rfl (by decide +kernel)
set_option maxRecDepth 20000 in
theorem gX3_judge_X3_mindOfNow : GoodIn wsX3_judge (wsV RX3 144 RX3 yX3_mindOfNow wsX3_mindOfNow) := goodIn_app (goodIn_r _ [2, 3, 4, 5] rfl (by decide +kernel)) ggX3_judge_X3_mindOfNow
set_option maxRecDepth 20000 in
theorem ggX3_judge_X3_judgedRow : GoodIn wsX3_judge wsX3_judgedRow := goodIn_r _ [36, 37, 1, 38, 39, 40, 41, 12, 42, 32, 43, 44, 45, 46, 21, 47, 48, 49, 50, 20, 51, 52, 53, 54, 55, 56, 57, 58, 59, 60, 61, 62, 63, 64, 65, 66, 67, 68, 69, 70, 71, 72, 73, 74, 75, 76, 77, 78, 19, 79, 80, 81, 82, 31, 22, 30, 83, 84, 85, 86, 14, 87, 88, 89, 90, 91, 92, 93, 94, 95, 96, 25, 97, 98, 99, 100, 101, 102, 103, 104, 105, 106, 107, 108, 109, 119, 120, 121, 122, 123, 124, 125, 126, 110, 111, 112, 113, 114, 115, 116, 117, 118] rfl (by decide +kernel)
set_option maxRecDepth 20000 in
theorem gX3_judge_X3_judgedRow : GoodIn wsX3_judge (wsV RX3 192 RX3 yX3_judgedRow wsX3_judgedRow) := goodIn_app (goodIn_r _ [33, 34, 35, 5] rfl (by decide +kernel)) ggX3_judge_X3_judgedRow
theorem dX3_judge_0 : decode cX3_judge 0 = .ok (.aload_n 0, 1) := by decide +kernel
theorem dX3_judge_1 : decode cX3_judge 1 = .ok (.aload_n 0, 1) := by decide +kernel
theorem dX3_judge_2 : decode cX3_judge 2 = .ok (.invokevirtual 144, 3) := by decide +kernel
theorem dX3_judge_5 : decode cX3_judge 5 = .ok (.invokevirtual 192, 3) := by decide +kernel
theorem dX3_judge_8 : decode cX3_judge 8 = .ok (.istore_n 1, 1) := by decide +kernel
theorem dX3_judge_9 : decode cX3_judge 9 = .ok (.aload_n 0, 1) := by decide +kernel
theorem dX3_judge_10 : decode cX3_judge 10 = .ok (.iconst 0, 1) := by decide +kernel
theorem dX3_judge_11 : decode cX3_judge 11 = .ok (.putfield 189, 3) := by decide +kernel
theorem dX3_judge_14 : decode cX3_judge 14 = .ok (.iload_n 1, 1) := by decide +kernel
theorem dX3_judge_15 : decode cX3_judge 15 = .ok (.ireturn, 1) := by decide +kernel
theorem dX3_clear_0 : decode cX3_clear 0 = .ok (.aload_n 0, 1) := by decide +kernel
theorem dX3_clear_1 : decode cX3_clear 1 = .ok (.getfield 189, 3) := by decide +kernel
theorem dX3_clear_4 : decode cX3_clear 4 = .ok (.istore_n 1, 1) := by decide +kernel
theorem dX3_clear_5 : decode cX3_clear 5 = .ok (.aload_n 0, 1) := by decide +kernel
theorem dX3_clear_6 : decode cX3_clear 6 = .ok (.iconst 0, 1) := by decide +kernel
theorem dX3_clear_7 : decode cX3_clear 7 = .ok (.putfield 189, 3) := by decide +kernel
theorem dX3_clear_10 : decode cX3_clear 10 = .ok (.iload_n 1, 1) := by decide +kernel
theorem dX3_clear_11 : decode cX3_clear 11 = .ok (.ireturn, 1) := by decide +kernel
set_option maxRecDepth 20000 in
theorem ggX3_image_X2_copyFrom : GoodIn wsX3_image wsX2_copyFrom := goodIn_r _ [9, 10, 11, 12, 13, 14, 15, 16, 17, 18, 19, 20, 21, 22, 23, 24, 25, 26, 27, 28, 38, 39, 40, 41, 42, 43, 44, 45] rfl (by decide +kernel)
set_option maxRecDepth 20000 in
theorem gX3_image_X2_copyFrom : GoodIn wsX3_image (wsV RX3 58 RX2 yX2_copyFrom wsX2_copyFrom) := goodIn_app (goodIn_r _ [5, 6, 7, 8] rfl (by decide +kernel)) ggX3_image_X2_copyFrom
theorem dX3_image_0 : decode cX3_image 0 = .ok (.aload_n 0, 1) := by decide +kernel
theorem dX3_image_1 : decode cX3_image 1 = .ok (.getfield 19, 3) := by decide +kernel
theorem dX3_image_4 : decode cX3_image 4 = .ok (.aload_n 0, 1) := by decide +kernel
theorem dX3_image_5 : decode cX3_image 5 = .ok (.getfield 12, 3) := by decide +kernel
theorem dX3_image_8 : decode cX3_image 8 = .ok (.invokevirtual 58, 3) := by decide +kernel
theorem dX3_image_11 : decode cX3_image 11 = .ok (.aload_n 0, 1) := by decide +kernel
theorem dX3_image_12 : decode cX3_image 12 = .ok (.iconst 1, 1) := by decide +kernel
theorem dX3_image_13 : decode cX3_image 13 = .ok (.putfield 195, 3) := by decide +kernel
theorem dX3_image_16 : decode cX3_image 16 = .ok (.aload_n 0, 1) := by decide +kernel
theorem dX3_image_17 : decode cX3_image 17 = .ok (.getfield 12, 3) := by decide +kernel
theorem dX3_image_20 : decode cX3_image 20 = .ok (.getfield 131, 3) := by decide +kernel
theorem dX3_image_23 : decode cX3_image 23 = .ok (.ireturn, 1) := by decide +kernel
set_option maxRecDepth 20000 in
theorem ggX3_restore_X3_refuse : GoodIn wsX3_restore wsX3_refuse := goodIn_r _ [9, 10, 35, 36, 37, 38, 39, 40, 41, 42, 43] rfl (by decide +kernel)
set_option maxRecDepth 20000 in
theorem gX3_restore_X3_refuse : GoodIn wsX3_restore (wsV RX3 43 RX3 yX3_refuse wsX3_refuse) := goodIn_app (goodIn_r _ [5, 6, 7, 8] rfl (by decide +kernel)) ggX3_restore_X3_refuse
set_option maxRecDepth 20000 in
theorem ggX3_restore_X2_copyFrom : GoodIn wsX3_restore wsX2_copyFrom := goodIn_r _ [15, 16, 17, 18, 19, 20, 21, 22, 23, 24, 25, 26, 27, 28, 29, 30, 31, 32, 33, 34, 44, 45, 46, 47, 48, 49, 50, 51] rfl (by decide +kernel)
set_option maxRecDepth 20000 in
theorem gX3_restore_X2_copyFrom : GoodIn wsX3_restore (wsV RX3 58 RX2 yX2_copyFrom wsX2_copyFrom) := goodIn_app (goodIn_r _ [11, 12, 13, 14] rfl (by decide +kernel)) ggX3_restore_X2_copyFrom
theorem dX3_restore_0 : decode cX3_restore 0 = .ok (.aload_n 0, 1) := by decide +kernel
theorem dX3_restore_1 : decode cX3_restore 1 = .ok (.getfield 195, 3) := by decide +kernel
theorem dX3_restore_4 : decode cX3_restore 4 = .ok (.ifCond .ne 10, 3) := by decide +kernel
theorem dX3_restore_7 : decode cX3_restore 7 = .ok (.aload_n 0, 1) := by decide +kernel
theorem dX3_restore_8 : decode cX3_restore 8 = .ok (.bipush (-3), 2) := by decide +kernel
theorem dX3_restore_10 : decode cX3_restore 10 = .ok (.invokevirtual 43, 3) := by decide +kernel
theorem dX3_restore_13 : decode cX3_restore 13 = .ok (.ireturn, 1) := by decide +kernel
theorem dX3_restore_14 : decode cX3_restore 14 = .ok (.aload_n 0, 1) := by decide +kernel
theorem dX3_restore_15 : decode cX3_restore 15 = .ok (.getfield 12, 3) := by decide +kernel
theorem dX3_restore_18 : decode cX3_restore 18 = .ok (.aload_n 0, 1) := by decide +kernel
theorem dX3_restore_19 : decode cX3_restore 19 = .ok (.getfield 19, 3) := by decide +kernel
theorem dX3_restore_22 : decode cX3_restore 22 = .ok (.invokevirtual 58, 3) := by decide +kernel
theorem dX3_restore_25 : decode cX3_restore 25 = .ok (.aload_n 0, 1) := by decide +kernel
theorem dX3_restore_26 : decode cX3_restore 26 = .ok (.getfield 12, 3) := by decide +kernel
theorem dX3_restore_29 : decode cX3_restore 29 = .ok (.getfield 131, 3) := by decide +kernel
theorem dX3_restore_32 : decode cX3_restore 32 = .ok (.ireturn, 1) := by decide +kernel
set_option maxRecDepth 20000 in
theorem ggX3_count_X2_openNeeds : GoodIn wsX3_count wsX2_openNeeds := goodIn_r _ [14, 15, 16, 17, 18, 13, 19, 20, 21, 22, 23, 24, 25, 26, 27, 28, 29, 30, 31, 32, 33, 34, 35, 36, 37, 38, 39, 40, 55, 56, 57, 58, 59, 60, 61, 62] rfl (by decide +kernel)
set_option maxRecDepth 20000 in
theorem gX3_count_X2_openNeeds : GoodIn wsX3_count (wsV RX3 202 RX2 yX2_openNeeds wsX2_openNeeds) := goodIn_app (goodIn_r _ [10, 11, 12, 13] rfl (by decide +kernel)) ggX3_count_X2_openNeeds
set_option maxRecDepth 20000 in
theorem ggX3_count_X2_setting : GoodIn wsX3_count wsX2_setting := goodIn_r _ [44, 45, 55, 56, 57, 58, 59, 60, 61, 62] rfl (by decide +kernel)
set_option maxRecDepth 20000 in
theorem gX3_count_X2_setting : GoodIn wsX3_count (wsV RX3 92 RX2 yX2_setting wsX2_setting) := goodIn_app (goodIn_r _ [41, 42, 43, 13] rfl (by decide +kernel)) ggX3_count_X2_setting
theorem dX3_count_0 : decode cX3_count 0 = .ok (.iload_n 1, 1) := by decide +kernel
theorem dX3_count_1 : decode cX3_count 1 = .ok (.bipush 10, 2) := by decide +kernel
theorem dX3_count_3 : decode cX3_count 3 = .ok (.if_icmp .le 19, 3) := by decide +kernel
theorem dX3_count_6 : decode cX3_count 6 = .ok (.iload_n 1, 1) := by decide +kernel
theorem dX3_count_7 : decode cX3_count 7 = .ok (.bipush 16, 2) := by decide +kernel
theorem dX3_count_9 : decode cX3_count 9 = .ok (.if_icmp .gt 13, 3) := by decide +kernel
theorem dX3_count_12 : decode cX3_count 12 = .ok (.aload_n 0, 1) := by decide +kernel
theorem dX3_count_13 : decode cX3_count 13 = .ok (.getfield 40, 3) := by decide +kernel
theorem dX3_count_16 : decode cX3_count 16 = .ok (.iload_n 1, 1) := by decide +kernel
theorem dX3_count_17 : decode cX3_count 17 = .ok (.bipush 10, 2) := by decide +kernel
theorem dX3_count_19 : decode cX3_count 19 = .ok (.isub, 1) := by decide +kernel
theorem dX3_count_20 : decode cX3_count 20 = .ok (.iaload, 1) := by decide +kernel
theorem dX3_count_21 : decode cX3_count 21 = .ok (.ireturn, 1) := by decide +kernel
theorem dX3_count_22 : decode cX3_count 22 = .ok (.iload_n 1, 1) := by decide +kernel
theorem dX3_count_23 : decode cX3_count 23 = .ok (.tableswitch 107 0 7 #[45, 53, 61, 69, 77, 85, 93, 98], 45) := by decide +kernel
theorem dX3_count_68 : decode cX3_count 68 = .ok (.aload_n 0, 1) := by decide +kernel
theorem dX3_count_69 : decode cX3_count 69 = .ok (.getfield 12, 3) := by decide +kernel
theorem dX3_count_72 : decode cX3_count 72 = .ok (.getfield 171, 3) := by decide +kernel
theorem dX3_count_75 : decode cX3_count 75 = .ok (.ireturn, 1) := by decide +kernel
theorem dX3_count_76 : decode cX3_count 76 = .ok (.aload_n 0, 1) := by decide +kernel
theorem dX3_count_77 : decode cX3_count 77 = .ok (.getfield 12, 3) := by decide +kernel
theorem dX3_count_80 : decode cX3_count 80 = .ok (.getfield 199, 3) := by decide +kernel
theorem dX3_count_83 : decode cX3_count 83 = .ok (.ireturn, 1) := by decide +kernel
theorem dX3_count_84 : decode cX3_count 84 = .ok (.aload_n 0, 1) := by decide +kernel
theorem dX3_count_85 : decode cX3_count 85 = .ok (.getfield 12, 3) := by decide +kernel
theorem dX3_count_88 : decode cX3_count 88 = .ok (.getfield 124, 3) := by decide +kernel
theorem dX3_count_91 : decode cX3_count 91 = .ok (.ireturn, 1) := by decide +kernel
theorem dX3_count_92 : decode cX3_count 92 = .ok (.aload_n 0, 1) := by decide +kernel
theorem dX3_count_93 : decode cX3_count 93 = .ok (.getfield 12, 3) := by decide +kernel
theorem dX3_count_96 : decode cX3_count 96 = .ok (.invokevirtual 202, 3) := by decide +kernel
theorem dX3_count_99 : decode cX3_count 99 = .ok (.ireturn, 1) := by decide +kernel
theorem dX3_count_100 : decode cX3_count 100 = .ok (.aload_n 0, 1) := by decide +kernel
theorem dX3_count_101 : decode cX3_count 101 = .ok (.getfield 12, 3) := by decide +kernel
theorem dX3_count_104 : decode cX3_count 104 = .ok (.getfield 131, 3) := by decide +kernel
theorem dX3_count_107 : decode cX3_count 107 = .ok (.ireturn, 1) := by decide +kernel
theorem dX3_count_108 : decode cX3_count 108 = .ok (.aload_n 0, 1) := by decide +kernel
theorem dX3_count_109 : decode cX3_count 109 = .ok (.getfield 32, 3) := by decide +kernel
theorem dX3_count_112 : decode cX3_count 112 = .ok (.getfield 205, 3) := by decide +kernel
theorem dX3_count_115 : decode cX3_count 115 = .ok (.ireturn, 1) := by decide +kernel
theorem dX3_count_116 : decode cX3_count 116 = .ok (.aload_n 0, 1) := by decide +kernel
theorem dX3_count_117 : decode cX3_count 117 = .ok (.getfield 189, 3) := by decide +kernel
theorem dX3_count_120 : decode cX3_count 120 = .ok (.ireturn, 1) := by decide +kernel
theorem dX3_count_121 : decode cX3_count 121 = .ok (.aload_n 0, 1) := by decide +kernel
theorem dX3_count_122 : decode cX3_count 122 = .ok (.getfield 12, 3) := by decide +kernel
theorem dX3_count_125 : decode cX3_count 125 = .ok (.iconst 0, 1) := by decide +kernel
theorem dX3_count_126 : decode cX3_count 126 = .ok (.invokevirtual 92, 3) := by decide +kernel
theorem dX3_count_129 : decode cX3_count 129 = .ok (.ireturn, 1) := by decide +kernel
theorem dX3_count_130 : decode cX3_count 130 = .ok (.bipush (-9), 2) := by decide +kernel
theorem dX3_count_132 : decode cX3_count 132 = .ok (.ireturn, 1) := by decide +kernel
theorem dX3_refuse_0 : decode cX3_refuse 0 = .ok (.iload_n 1, 1) := by decide +kernel
theorem dX3_refuse_1 : decode cX3_refuse 1 = .ok (.ifCond .ge 20, 3) := by decide +kernel
theorem dX3_refuse_4 : decode cX3_refuse 4 = .ok (.iload_n 1, 1) := by decide +kernel
theorem dX3_refuse_5 : decode cX3_refuse 5 = .ok (.bipush (-6), 2) := by decide +kernel
theorem dX3_refuse_7 : decode cX3_refuse 7 = .ok (.if_icmp .lt 14, 3) := by decide +kernel
theorem dX3_refuse_10 : decode cX3_refuse 10 = .ok (.aload_n 0, 1) := by decide +kernel
theorem dX3_refuse_11 : decode cX3_refuse 11 = .ok (.getfield 40, 3) := by decide +kernel
theorem dX3_refuse_14 : decode cX3_refuse 14 = .ok (.iload_n 1, 1) := by decide +kernel
theorem dX3_refuse_15 : decode cX3_refuse 15 = .ok (.ineg, 1) := by decide +kernel
theorem dX3_refuse_16 : decode cX3_refuse 16 = .ok (.dup2, 1) := by decide +kernel
theorem dX3_refuse_17 : decode cX3_refuse 17 = .ok (.iaload, 1) := by decide +kernel
theorem dX3_refuse_18 : decode cX3_refuse 18 = .ok (.iconst 1, 1) := by decide +kernel
theorem dX3_refuse_19 : decode cX3_refuse 19 = .ok (.iadd, 1) := by decide +kernel
theorem dX3_refuse_20 : decode cX3_refuse 20 = .ok (.iastore, 1) := by decide +kernel
theorem dX3_refuse_21 : decode cX3_refuse 21 = .ok (.iload_n 1, 1) := by decide +kernel
theorem dX3_refuse_22 : decode cX3_refuse 22 = .ok (.ireturn, 1) := by decide +kernel
set_option maxRecDepth 20000 in
theorem ggX3_refuseFarOff_X3_refuse : GoodIn wsX3_refuseFarOff wsX3_refuse := goodIn_r _ [6, 7, 8, 9, 10, 11, 12, 13, 14, 15, 16] rfl (by decide +kernel)
set_option maxRecDepth 20000 in
theorem gX3_refuseFarOff_X3_refuse : GoodIn wsX3_refuseFarOff (wsV RX3 43 RX3 yX3_refuse wsX3_refuse) := goodIn_app (goodIn_r _ [2, 3, 4, 5] rfl (by decide +kernel)) ggX3_refuseFarOff_X3_refuse
theorem dX3_refuseFarOff_0 : decode cX3_refuseFarOff 0 = .ok (.ldc 208, 2) := by decide +kernel
theorem dX3_refuseFarOff_2 : decode cX3_refuseFarOff 2 = .ok (.aload_n 0, 1) := by decide +kernel
theorem dX3_refuseFarOff_3 : decode cX3_refuseFarOff 3 = .ok (.iload_n 1, 1) := by decide +kernel
theorem dX3_refuseFarOff_4 : decode cX3_refuseFarOff 4 = .ok (.invokevirtual 43, 3) := by decide +kernel
theorem dX3_refuseFarOff_7 : decode cX3_refuseFarOff 7 = .ok (.isub, 1) := by decide +kernel
theorem dX3_refuseFarOff_8 : decode cX3_refuseFarOff 8 = .ok (.ireturn, 1) := by decide +kernel
set_option maxRecDepth 20000 in
theorem ggX3_isPair_X2_hasPerson : GoodIn wsX3_isPair wsX2_hasPerson := goodIn_r _ [6, 7, 17, 18, 19, 20, 21, 22, 23, 24] rfl (by decide +kernel)
set_option maxRecDepth 20000 in
theorem gX3_isPair_X2_hasPerson : GoodIn wsX3_isPair (wsV RX3 69 RX2 yX2_hasPerson wsX2_hasPerson) := goodIn_app (goodIn_r _ [2, 3, 4, 5] rfl (by decide +kernel)) ggX3_isPair_X2_hasPerson
theorem dX3_isPair_0 : decode cX3_isPair 0 = .ok (.aload_n 0, 1) := by decide +kernel
theorem dX3_isPair_1 : decode cX3_isPair 1 = .ok (.getfield 12, 3) := by decide +kernel
theorem dX3_isPair_4 : decode cX3_isPair 4 = .ok (.iload_n 1, 1) := by decide +kernel
theorem dX3_isPair_5 : decode cX3_isPair 5 = .ok (.invokevirtual 69, 3) := by decide +kernel
theorem dX3_isPair_8 : decode cX3_isPair 8 = .ok (.ifCond .eq 23, 3) := by decide +kernel
theorem dX3_isPair_11 : decode cX3_isPair 11 = .ok (.aload_n 0, 1) := by decide +kernel
theorem dX3_isPair_12 : decode cX3_isPair 12 = .ok (.getfield 12, 3) := by decide +kernel
theorem dX3_isPair_15 : decode cX3_isPair 15 = .ok (.iload_n 2, 1) := by decide +kernel
theorem dX3_isPair_16 : decode cX3_isPair 16 = .ok (.invokevirtual 69, 3) := by decide +kernel
theorem dX3_isPair_19 : decode cX3_isPair 19 = .ok (.ifCond .eq 12, 3) := by decide +kernel
theorem dX3_isPair_22 : decode cX3_isPair 22 = .ok (.iload_n 1, 1) := by decide +kernel
theorem dX3_isPair_23 : decode cX3_isPair 23 = .ok (.iload_n 2, 1) := by decide +kernel
theorem dX3_isPair_24 : decode cX3_isPair 24 = .ok (.if_icmp .eq 7, 3) := by decide +kernel
theorem dX3_isPair_27 : decode cX3_isPair 27 = .ok (.iconst 1, 1) := by decide +kernel
theorem dX3_isPair_28 : decode cX3_isPair 28 = .ok (.goto 4, 3) := by decide +kernel
theorem dX3_isPair_31 : decode cX3_isPair 31 = .ok (.iconst 0, 1) := by decide +kernel
theorem dX3_isPair_32 : decode cX3_isPair 32 = .ok (.ireturn, 1) := by decide +kernel
theorem dX3_isRule_0 : decode cX3_isRule 0 = .ok (.iload_n 0, 1) := by decide +kernel
theorem dX3_isRule_1 : decode cX3_isRule 1 = .ok (.ifCond .lt 12, 3) := by decide +kernel
theorem dX3_isRule_4 : decode cX3_isRule 4 = .ok (.iload_n 0, 1) := by decide +kernel
theorem dX3_isRule_5 : decode cX3_isRule 5 = .ok (.iconst 5, 1) := by decide +kernel
theorem dX3_isRule_6 : decode cX3_isRule 6 = .ok (.if_icmp .gt 7, 3) := by decide +kernel
theorem dX3_isRule_9 : decode cX3_isRule 9 = .ok (.iconst 1, 1) := by decide +kernel
theorem dX3_isRule_10 : decode cX3_isRule 10 = .ok (.goto 4, 3) := by decide +kernel
theorem dX3_isRule_13 : decode cX3_isRule 13 = .ok (.iconst 0, 1) := by decide +kernel
theorem dX3_isRule_14 : decode cX3_isRule 14 = .ok (.ireturn, 1) := by decide +kernel
theorem dX3_isLaw_0 : decode cX3_isLaw 0 = .ok (.iload_n 0, 1) := by decide +kernel
theorem dX3_isLaw_1 : decode cX3_isLaw 1 = .ok (.ifCond .lt 12, 3) := by decide +kernel
theorem dX3_isLaw_4 : decode cX3_isLaw 4 = .ok (.iload_n 0, 1) := by decide +kernel
theorem dX3_isLaw_5 : decode cX3_isLaw 5 = .ok (.iconst 3, 1) := by decide +kernel
theorem dX3_isLaw_6 : decode cX3_isLaw 6 = .ok (.if_icmp .gt 7, 3) := by decide +kernel
theorem dX3_isLaw_9 : decode cX3_isLaw 9 = .ok (.iconst 1, 1) := by decide +kernel
theorem dX3_isLaw_10 : decode cX3_isLaw 10 = .ok (.goto 4, 3) := by decide +kernel
theorem dX3_isLaw_13 : decode cX3_isLaw 13 = .ok (.iconst 0, 1) := by decide +kernel
theorem dX3_isLaw_14 : decode cX3_isLaw 14 = .ok (.ireturn, 1) := by decide +kernel
theorem dX3_leastSetting_0 : decode cX3_leastSetting 0 = .ok (.iload_n 0, 1) := by decide +kernel
theorem dX3_leastSetting_1 : decode cX3_leastSetting 1 = .ok (.iconst 1, 1) := by decide +kernel
theorem dX3_leastSetting_2 : decode cX3_leastSetting 2 = .ok (.if_icmp .ne 7, 3) := by decide +kernel
theorem dX3_leastSetting_5 : decode cX3_leastSetting 5 = .ok (.iconst 1, 1) := by decide +kernel
theorem dX3_leastSetting_6 : decode cX3_leastSetting 6 = .ok (.goto 4, 3) := by decide +kernel
theorem dX3_leastSetting_9 : decode cX3_leastSetting 9 = .ok (.iconst 0, 1) := by decide +kernel
theorem dX3_leastSetting_10 : decode cX3_leastSetting 10 = .ok (.ireturn, 1) := by decide +kernel
theorem dX3_greatestSetting_0 : decode cX3_greatestSetting 0 = .ok (.iload_n 0, 1) := by decide +kernel
theorem dX3_greatestSetting_1 : decode cX3_greatestSetting 1 = .ok (.ifCond .ne 7, 3) := by decide +kernel
theorem dX3_greatestSetting_4 : decode cX3_greatestSetting 4 = .ok (.iconst 3, 1) := by decide +kernel
theorem dX3_greatestSetting_5 : decode cX3_greatestSetting 5 = .ok (.goto 5, 3) := by decide +kernel
theorem dX3_greatestSetting_8 : decode cX3_greatestSetting 8 = .ok (.bipush 9, 2) := by decide +kernel
theorem dX3_greatestSetting_10 : decode cX3_greatestSetting 10 = .ok (.ireturn, 1) := by decide +kernel
set_option maxRecDepth 20000 in
theorem ggX3_chosenBy_X3_firstToldOf : GoodIn wsX3_chosenBy wsX3_firstToldOf := goodIn_r _ [6, 7, 8, 9, 10, 11, 12, 13, 14, 15, 16, 17, 18, 19, 20, 21, 22, 23, 24, 25, 26, 27, 28, 29, 30, 31, 32, 33, 34, 35, 36, 37, 38, 39, 40, 41, 42, 43, 44, 45, 46, 47, 48, 49, 50, 51, 52, 53, 54, 55, 56, 57, 58, 59, 60, 61, 62, 63, 64, 65, 66, 67, 68, 69, 70, 71, 72, 73, 74, 75, 104, 105, 106, 107, 108, 109, 110, 111, 112, 96, 97, 98, 99, 100, 101, 102, 103] rfl (by decide +kernel)
set_option maxRecDepth 20000 in
theorem gX3_chosenBy_X3_firstToldOf : GoodIn wsX3_chosenBy (wsV RX3 209 RX3 yX3_firstToldOf wsX3_firstToldOf) := goodIn_app (goodIn_r _ [2, 3, 4, 5] rfl (by decide +kernel)) ggX3_chosenBy_X3_firstToldOf
set_option maxRecDepth 20000 in
theorem ggX3_chosenBy_X2_mayHelpWith : GoodIn wsX3_chosenBy wsX2_mayHelpWith := goodIn_r _ [13, 14, 15, 16, 12, 17, 18, 19, 20, 21, 22, 23, 24, 25, 26, 27, 28, 29, 30, 31, 32, 33, 34, 35, 36, 37, 38, 39, 40, 41, 42, 43, 44, 45, 46, 47, 48, 49, 50, 51, 52, 53, 54, 55, 56, 57, 58, 59, 60, 61, 62, 63, 64, 65, 66, 67, 68, 69, 70, 71, 72, 73, 74, 75, 96, 97, 98, 99, 100, 101, 102, 103] rfl (by decide +kernel)
set_option maxRecDepth 20000 in
theorem gX3_chosenBy_X2_mayHelpWith : GoodIn wsX3_chosenBy (wsV RX3 115 RX2 yX2_mayHelpWith wsX2_mayHelpWith) := goodIn_app (goodIn_r _ [9, 10, 11, 12] rfl (by decide +kernel)) ggX3_chosenBy_X2_mayHelpWith
set_option maxRecDepth 20000 in
theorem ggX3_chosenBy_X3_isRuledOut : GoodIn wsX3_chosenBy wsX3_isRuledOut := goodIn_r _ [78, 79, 80, 81, 12, 82, 31, 83, 84, 74, 85, 14, 15, 16, 17, 18, 86, 87, 88, 89, 59, 60, 61, 62, 63, 68, 69, 70, 71, 72, 73, 75, 90, 91, 96, 97, 98, 99, 100, 101, 102, 103] rfl (by decide +kernel)
set_option maxRecDepth 20000 in
theorem gX3_chosenBy_X3_isRuledOut : GoodIn wsX3_chosenBy (va_wsS RX3 213 yX3_isRuledOut wsX3_isRuledOut) := goodIn_app (goodIn_r _ [76, 77, 5] rfl (by decide +kernel)) ggX3_chosenBy_X3_isRuledOut
set_option maxRecDepth 20000 in
theorem ggX3_chosenBy_X3_priceBy : GoodIn wsX3_chosenBy wsX3_priceBy := goodIn_r _ [94, 90, 87, 88, 12, 89, 83, 84, 74, 85, 14, 15, 16, 17, 18, 59, 60, 61, 62, 63, 68, 69, 70, 71, 72, 73, 75, 79, 80, 81, 82, 31, 86, 91, 95, 96, 97, 98, 99, 100, 101, 102, 103] rfl (by decide +kernel)
set_option maxRecDepth 20000 in
theorem gX3_chosenBy_X3_priceBy : GoodIn wsX3_chosenBy (va_wsS RX3 217 yX3_priceBy wsX3_priceBy) := goodIn_app (goodIn_r _ [92, 93, 5] rfl (by decide +kernel)) ggX3_chosenBy_X3_priceBy
theorem dX3_chosenBy_0 : decode cX3_chosenBy 0 = .ok (.iload_n 2, 1) := by decide +kernel
theorem dX3_chosenBy_1 : decode cX3_chosenBy 1 = .ok (.iconst 5, 1) := by decide +kernel
theorem dX3_chosenBy_2 : decode cX3_chosenBy 2 = .ok (.if_icmp .ne 10, 3) := by decide +kernel
theorem dX3_chosenBy_5 : decode cX3_chosenBy 5 = .ok (.aload_n 0, 1) := by decide +kernel
theorem dX3_chosenBy_6 : decode cX3_chosenBy 6 = .ok (.aload_n 1, 1) := by decide +kernel
theorem dX3_chosenBy_7 : decode cX3_chosenBy 7 = .ok (.iload_n 3, 1) := by decide +kernel
theorem dX3_chosenBy_8 : decode cX3_chosenBy 8 = .ok (.invokevirtual 209, 3) := by decide +kernel
theorem dX3_chosenBy_11 : decode cX3_chosenBy 11 = .ok (.ireturn, 1) := by decide +kernel
theorem dX3_chosenBy_12 : decode cX3_chosenBy 12 = .ok (.bipush (-9), 2) := by decide +kernel
theorem dX3_chosenBy_14 : decode cX3_chosenBy 14 = .ok (.istore 4, 2) := by decide +kernel
theorem dX3_chosenBy_16 : decode cX3_chosenBy 16 = .ok (.iconst 0, 1) := by decide +kernel
theorem dX3_chosenBy_17 : decode cX3_chosenBy 17 = .ok (.istore 5, 2) := by decide +kernel
theorem dX3_chosenBy_19 : decode cX3_chosenBy 19 = .ok (.iconst 0, 1) := by decide +kernel
theorem dX3_chosenBy_20 : decode cX3_chosenBy 20 = .ok (.istore 6, 2) := by decide +kernel
theorem dX3_chosenBy_22 : decode cX3_chosenBy 22 = .ok (.iload 6, 2) := by decide +kernel
theorem dX3_chosenBy_24 : decode cX3_chosenBy 24 = .ok (.aload_n 1, 1) := by decide +kernel
theorem dX3_chosenBy_25 : decode cX3_chosenBy 25 = .ok (.getfield 171, 3) := by decide +kernel
theorem dX3_chosenBy_28 : decode cX3_chosenBy 28 = .ok (.if_icmp .ge 65, 3) := by decide +kernel
theorem dX3_chosenBy_31 : decode cX3_chosenBy 31 = .ok (.aload_n 1, 1) := by decide +kernel
theorem dX3_chosenBy_32 : decode cX3_chosenBy 32 = .ok (.iload 6, 2) := by decide +kernel
theorem dX3_chosenBy_34 : decode cX3_chosenBy 34 = .ok (.iload_n 3, 1) := by decide +kernel
theorem dX3_chosenBy_35 : decode cX3_chosenBy 35 = .ok (.invokevirtual 115, 3) := by decide +kernel
theorem dX3_chosenBy_38 : decode cX3_chosenBy 38 = .ok (.ifCond .eq 49, 3) := by decide +kernel
theorem dX3_chosenBy_41 : decode cX3_chosenBy 41 = .ok (.aload_n 1, 1) := by decide +kernel
theorem dX3_chosenBy_42 : decode cX3_chosenBy 42 = .ok (.iload_n 2, 1) := by decide +kernel
theorem dX3_chosenBy_43 : decode cX3_chosenBy 43 = .ok (.iload 6, 2) := by decide +kernel
theorem dX3_chosenBy_45 : decode cX3_chosenBy 45 = .ok (.iload_n 3, 1) := by decide +kernel
theorem dX3_chosenBy_46 : decode cX3_chosenBy 46 = .ok (.invokestatic 213, 3) := by decide +kernel
theorem dX3_chosenBy_49 : decode cX3_chosenBy 49 = .ok (.ifCond .eq 6, 3) := by decide +kernel
theorem dX3_chosenBy_52 : decode cX3_chosenBy 52 = .ok (.goto 35, 3) := by decide +kernel
theorem dX3_chosenBy_55 : decode cX3_chosenBy 55 = .ok (.aload_n 1, 1) := by decide +kernel
theorem dX3_chosenBy_56 : decode cX3_chosenBy 56 = .ok (.iload_n 2, 1) := by decide +kernel
theorem dX3_chosenBy_57 : decode cX3_chosenBy 57 = .ok (.iload 6, 2) := by decide +kernel
theorem dX3_chosenBy_59 : decode cX3_chosenBy 59 = .ok (.iload_n 3, 1) := by decide +kernel
theorem dX3_chosenBy_60 : decode cX3_chosenBy 60 = .ok (.invokestatic 217, 3) := by decide +kernel
theorem dX3_chosenBy_63 : decode cX3_chosenBy 63 = .ok (.istore 7, 2) := by decide +kernel
theorem dX3_chosenBy_65 : decode cX3_chosenBy 65 = .ok (.iload 4, 2) := by decide +kernel
theorem dX3_chosenBy_67 : decode cX3_chosenBy 67 = .ok (.bipush (-9), 2) := by decide +kernel
theorem dX3_chosenBy_69 : decode cX3_chosenBy 69 = .ok (.if_icmp .eq 10, 3) := by decide +kernel
theorem dX3_chosenBy_72 : decode cX3_chosenBy 72 = .ok (.iload 7, 2) := by decide +kernel
theorem dX3_chosenBy_74 : decode cX3_chosenBy 74 = .ok (.iload 5, 2) := by decide +kernel
theorem dX3_chosenBy_76 : decode cX3_chosenBy 76 = .ok (.if_icmp .ge 11, 3) := by decide +kernel
theorem dX3_chosenBy_79 : decode cX3_chosenBy 79 = .ok (.iload 7, 2) := by decide +kernel
theorem dX3_chosenBy_81 : decode cX3_chosenBy 81 = .ok (.istore 5, 2) := by decide +kernel
theorem dX3_chosenBy_83 : decode cX3_chosenBy 83 = .ok (.iload 6, 2) := by decide +kernel
theorem dX3_chosenBy_85 : decode cX3_chosenBy 85 = .ok (.istore 4, 2) := by decide +kernel
theorem dX3_chosenBy_87 : decode cX3_chosenBy 87 = .ok (.iinc 6 1, 3) := by decide +kernel
theorem dX3_chosenBy_90 : decode cX3_chosenBy 90 = .ok (.goto (-68), 3) := by decide +kernel
theorem dX3_chosenBy_93 : decode cX3_chosenBy 93 = .ok (.iload 4, 2) := by decide +kernel
theorem dX3_chosenBy_95 : decode cX3_chosenBy 95 = .ok (.ireturn, 1) := by decide +kernel
set_option maxRecDepth 20000 in
theorem ggX3_firstToldOf_X2_mayHelpWith : GoodIn wsX3_firstToldOf wsX2_mayHelpWith := goodIn_r _ [7, 8, 9, 10, 6, 11, 12, 13, 14, 15, 16, 17, 18, 19, 20, 21, 22, 23, 24, 25, 26, 27, 28, 29, 30, 31, 32, 33, 34, 35, 36, 37, 38, 39, 40, 41, 42, 43, 44, 45, 46, 47, 48, 49, 50, 51, 52, 53, 54, 55, 56, 57, 58, 59, 60, 61, 62, 63, 64, 65, 66, 67, 68, 69, 79, 80, 81, 82, 83, 84, 85, 86] rfl (by decide +kernel)
set_option maxRecDepth 20000 in
theorem gX3_firstToldOf_X2_mayHelpWith : GoodIn wsX3_firstToldOf (wsV RX3 115 RX2 yX2_mayHelpWith wsX2_mayHelpWith) := goodIn_app (goodIn_r _ [3, 4, 5, 6] rfl (by decide +kernel)) ggX3_firstToldOf_X2_mayHelpWith
theorem dX3_firstToldOf_0 : decode cX3_firstToldOf 0 = .ok (.iconst 0, 1) := by decide +kernel
theorem dX3_firstToldOf_1 : decode cX3_firstToldOf 1 = .ok (.istore_n 3, 1) := by decide +kernel
theorem dX3_firstToldOf_2 : decode cX3_firstToldOf 2 = .ok (.iload_n 3, 1) := by decide +kernel
theorem dX3_firstToldOf_3 : decode cX3_firstToldOf 3 = .ok (.aload_n 0, 1) := by decide +kernel
theorem dX3_firstToldOf_4 : decode cX3_firstToldOf 4 = .ok (.getfield 189, 3) := by decide +kernel
theorem dX3_firstToldOf_7 : decode cX3_firstToldOf 7 = .ok (.if_icmp .ge 39, 3) := by decide +kernel
theorem dX3_firstToldOf_10 : decode cX3_firstToldOf 10 = .ok (.iload_n 3, 1) := by decide +kernel
theorem dX3_firstToldOf_11 : decode cX3_firstToldOf 11 = .ok (.aload_n 0, 1) := by decide +kernel
theorem dX3_firstToldOf_12 : decode cX3_firstToldOf 12 = .ok (.getfield 36, 3) := by decide +kernel
theorem dX3_firstToldOf_15 : decode cX3_firstToldOf 15 = .ok (.arraylength, 1) := by decide +kernel
theorem dX3_firstToldOf_16 : decode cX3_firstToldOf 16 = .ok (.if_icmp .ge 30, 3) := by decide +kernel
theorem dX3_firstToldOf_19 : decode cX3_firstToldOf 19 = .ok (.aload_n 1, 1) := by decide +kernel
theorem dX3_firstToldOf_20 : decode cX3_firstToldOf 20 = .ok (.aload_n 0, 1) := by decide +kernel
theorem dX3_firstToldOf_21 : decode cX3_firstToldOf 21 = .ok (.getfield 36, 3) := by decide +kernel
theorem dX3_firstToldOf_24 : decode cX3_firstToldOf 24 = .ok (.iload_n 3, 1) := by decide +kernel
theorem dX3_firstToldOf_25 : decode cX3_firstToldOf 25 = .ok (.iaload, 1) := by decide +kernel
theorem dX3_firstToldOf_26 : decode cX3_firstToldOf 26 = .ok (.iload_n 2, 1) := by decide +kernel
theorem dX3_firstToldOf_27 : decode cX3_firstToldOf 27 = .ok (.invokevirtual 115, 3) := by decide +kernel
theorem dX3_firstToldOf_30 : decode cX3_firstToldOf 30 = .ok (.ifCond .eq 10, 3) := by decide +kernel
theorem dX3_firstToldOf_33 : decode cX3_firstToldOf 33 = .ok (.aload_n 0, 1) := by decide +kernel
theorem dX3_firstToldOf_34 : decode cX3_firstToldOf 34 = .ok (.getfield 36, 3) := by decide +kernel
theorem dX3_firstToldOf_37 : decode cX3_firstToldOf 37 = .ok (.iload_n 3, 1) := by decide +kernel
theorem dX3_firstToldOf_38 : decode cX3_firstToldOf 38 = .ok (.iaload, 1) := by decide +kernel
theorem dX3_firstToldOf_39 : decode cX3_firstToldOf 39 = .ok (.ireturn, 1) := by decide +kernel
theorem dX3_firstToldOf_40 : decode cX3_firstToldOf 40 = .ok (.iinc 3 1, 3) := by decide +kernel
theorem dX3_firstToldOf_43 : decode cX3_firstToldOf 43 = .ok (.goto (-41), 3) := by decide +kernel
theorem dX3_firstToldOf_46 : decode cX3_firstToldOf 46 = .ok (.bipush (-9), 2) := by decide +kernel
theorem dX3_firstToldOf_48 : decode cX3_firstToldOf 48 = .ok (.ireturn, 1) := by decide +kernel
set_option maxRecDepth 20000 in
theorem ggX3_isRuledOut_X2_lossOf : GoodIn wsX3_isRuledOut wsX2_lossOf := goodIn_r _ [5, 6, 7, 8, 9, 10, 11, 12, 13, 4, 14, 15, 16, 17, 18, 19, 20, 21, 22, 23, 24, 25, 26, 27, 28, 29, 30, 31, 34, 35, 36, 37, 38, 39, 40, 41] rfl (by decide +kernel)
set_option maxRecDepth 20000 in
theorem gX3_isRuledOut_X2_lossOf : GoodIn wsX3_isRuledOut (wsV RX3 141 RX2 yX2_lossOf wsX2_lossOf) := goodIn_app (goodIn_r _ [1, 2, 3, 4] rfl (by decide +kernel)) ggX3_isRuledOut_X2_lossOf
set_option maxRecDepth 20000 in
theorem ggX3_isRuledOut_X2_goodOf : GoodIn wsX3_isRuledOut wsX2_goodOf := goodIn_r _ [19, 7, 8, 9, 10, 11, 12, 13, 4, 14, 15, 20, 21, 22, 23, 24, 25, 26, 27, 28, 29, 30, 31, 34, 35, 36, 37, 38, 39, 40, 41] rfl (by decide +kernel)
set_option maxRecDepth 20000 in
theorem gX3_isRuledOut_X2_goodOf : GoodIn wsX3_isRuledOut (wsV RX3 112 RX2 yX2_goodOf wsX2_goodOf) := goodIn_app (goodIn_r _ [32, 17, 18, 4] rfl (by decide +kernel)) ggX3_isRuledOut_X2_goodOf
set_option maxRecDepth 20000 in
theorem ggX3_isRuledOut_X2_ofNeed : GoodIn wsX3_isRuledOut wsX2_ofNeed := goodIn_r _ [14, 15, 34, 35, 36, 37, 38, 39, 40, 41] rfl (by decide +kernel)
set_option maxRecDepth 20000 in
theorem gX3_isRuledOut_X2_ofNeed : GoodIn wsX3_isRuledOut (wsV RX3 80 RX2 yX2_ofNeed wsX2_ofNeed) := goodIn_app (goodIn_r _ [33, 12, 13, 4] rfl (by decide +kernel)) ggX3_isRuledOut_X2_ofNeed
theorem dX3_isRuledOut_0 : decode cX3_isRuledOut 0 = .ok (.iload_n 1, 1) := by decide +kernel
theorem dX3_isRuledOut_1 : decode cX3_isRuledOut 1 = .ok (.iconst 3, 1) := by decide +kernel
theorem dX3_isRuledOut_2 : decode cX3_isRuledOut 2 = .ok (.if_icmp .ne 24, 3) := by decide +kernel
theorem dX3_isRuledOut_5 : decode cX3_isRuledOut 5 = .ok (.aload_n 0, 1) := by decide +kernel
theorem dX3_isRuledOut_6 : decode cX3_isRuledOut 6 = .ok (.iload_n 2, 1) := by decide +kernel
theorem dX3_isRuledOut_7 : decode cX3_isRuledOut 7 = .ok (.iload_n 3, 1) := by decide +kernel
theorem dX3_isRuledOut_8 : decode cX3_isRuledOut 8 = .ok (.invokevirtual 141, 3) := by decide +kernel
theorem dX3_isRuledOut_11 : decode cX3_isRuledOut 11 = .ok (.aload_n 0, 1) := by decide +kernel
theorem dX3_isRuledOut_12 : decode cX3_isRuledOut 12 = .ok (.iload_n 2, 1) := by decide +kernel
theorem dX3_isRuledOut_13 : decode cX3_isRuledOut 13 = .ok (.iload_n 3, 1) := by decide +kernel
theorem dX3_isRuledOut_14 : decode cX3_isRuledOut 14 = .ok (.invokevirtual 112, 3) := by decide +kernel
theorem dX3_isRuledOut_17 : decode cX3_isRuledOut 17 = .ok (.if_icmp .lt 7, 3) := by decide +kernel
theorem dX3_isRuledOut_20 : decode cX3_isRuledOut 20 = .ok (.iconst 1, 1) := by decide +kernel
theorem dX3_isRuledOut_21 : decode cX3_isRuledOut 21 = .ok (.goto 4, 3) := by decide +kernel
theorem dX3_isRuledOut_24 : decode cX3_isRuledOut 24 = .ok (.iconst 0, 1) := by decide +kernel
theorem dX3_isRuledOut_25 : decode cX3_isRuledOut 25 = .ok (.ireturn, 1) := by decide +kernel
theorem dX3_isRuledOut_26 : decode cX3_isRuledOut 26 = .ok (.iload_n 1, 1) := by decide +kernel
theorem dX3_isRuledOut_27 : decode cX3_isRuledOut 27 = .ok (.iconst 4, 1) := by decide +kernel
theorem dX3_isRuledOut_28 : decode cX3_isRuledOut 28 = .ok (.if_icmp .ne 33, 3) := by decide +kernel
theorem dX3_isRuledOut_31 : decode cX3_isRuledOut 31 = .ok (.aload_n 0, 1) := by decide +kernel
theorem dX3_isRuledOut_32 : decode cX3_isRuledOut 32 = .ok (.iload_n 3, 1) := by decide +kernel
theorem dX3_isRuledOut_33 : decode cX3_isRuledOut 33 = .ok (.iconst 0, 1) := by decide +kernel
theorem dX3_isRuledOut_34 : decode cX3_isRuledOut 34 = .ok (.invokevirtual 80, 3) := by decide +kernel
theorem dX3_isRuledOut_37 : decode cX3_isRuledOut 37 = .ok (.istore 4, 2) := by decide +kernel
theorem dX3_isRuledOut_39 : decode cX3_isRuledOut 39 = .ok (.iload_n 2, 1) := by decide +kernel
theorem dX3_isRuledOut_40 : decode cX3_isRuledOut 40 = .ok (.iload 4, 2) := by decide +kernel
theorem dX3_isRuledOut_42 : decode cX3_isRuledOut 42 = .ok (.iconst 1, 1) := by decide +kernel
theorem dX3_isRuledOut_43 : decode cX3_isRuledOut 43 = .ok (.iadd, 1) := by decide +kernel
theorem dX3_isRuledOut_44 : decode cX3_isRuledOut 44 = .ok (.if_icmp .eq 11, 3) := by decide +kernel
theorem dX3_isRuledOut_47 : decode cX3_isRuledOut 47 = .ok (.iload_n 2, 1) := by decide +kernel
theorem dX3_isRuledOut_48 : decode cX3_isRuledOut 48 = .ok (.iload 4, 2) := by decide +kernel
theorem dX3_isRuledOut_50 : decode cX3_isRuledOut 50 = .ok (.iconst 1, 1) := by decide +kernel
theorem dX3_isRuledOut_51 : decode cX3_isRuledOut 51 = .ok (.isub, 1) := by decide +kernel
theorem dX3_isRuledOut_52 : decode cX3_isRuledOut 52 = .ok (.if_icmp .ne 7, 3) := by decide +kernel
theorem dX3_isRuledOut_55 : decode cX3_isRuledOut 55 = .ok (.iconst 1, 1) := by decide +kernel
theorem dX3_isRuledOut_56 : decode cX3_isRuledOut 56 = .ok (.goto 4, 3) := by decide +kernel
theorem dX3_isRuledOut_59 : decode cX3_isRuledOut 59 = .ok (.iconst 0, 1) := by decide +kernel
theorem dX3_isRuledOut_60 : decode cX3_isRuledOut 60 = .ok (.ireturn, 1) := by decide +kernel
theorem dX3_isRuledOut_61 : decode cX3_isRuledOut 61 = .ok (.iconst 0, 1) := by decide +kernel
theorem dX3_isRuledOut_62 : decode cX3_isRuledOut 62 = .ok (.ireturn, 1) := by decide +kernel
set_option maxRecDepth 20000 in
theorem ggX3_priceBy_X2_goodOf : GoodIn wsX3_priceBy wsX2_goodOf := goodIn_r _ [5, 6, 7, 8, 9, 10, 11, 12, 4, 13, 14, 15, 16, 17, 18, 19, 20, 21, 22, 23, 24, 25, 26, 35, 36, 37, 38, 39, 40, 41, 42] rfl (by decide +kernel)
set_option maxRecDepth 20000 in
theorem gX3_priceBy_X2_goodOf : GoodIn wsX3_priceBy (wsV RX3 112 RX2 yX2_goodOf wsX2_goodOf) := goodIn_app (goodIn_r _ [1, 2, 3, 4] rfl (by decide +kernel)) ggX3_priceBy_X2_goodOf
set_option maxRecDepth 20000 in
theorem ggX3_priceBy_X2_lossOf : GoodIn wsX3_priceBy wsX2_lossOf := goodIn_r _ [30, 31, 6, 7, 8, 9, 10, 11, 12, 4, 13, 14, 32, 2, 3, 5, 15, 16, 17, 18, 19, 20, 21, 22, 23, 24, 25, 26, 35, 36, 37, 38, 39, 40, 41, 42] rfl (by decide +kernel)
set_option maxRecDepth 20000 in
theorem gX3_priceBy_X2_lossOf : GoodIn wsX3_priceBy (wsV RX3 141 RX2 yX2_lossOf wsX2_lossOf) := goodIn_app (goodIn_r _ [27, 28, 29, 4] rfl (by decide +kernel)) ggX3_priceBy_X2_lossOf
set_option maxRecDepth 20000 in
theorem ggX3_priceBy_X2_ofNeed : GoodIn wsX3_priceBy wsX2_ofNeed := goodIn_r _ [13, 14, 35, 36, 37, 38, 39, 40, 41, 42] rfl (by decide +kernel)
set_option maxRecDepth 20000 in
theorem gX3_priceBy_X2_ofNeed : GoodIn wsX3_priceBy (wsV RX3 80 RX2 yX2_ofNeed wsX2_ofNeed) := goodIn_app (goodIn_r _ [33, 11, 12, 4] rfl (by decide +kernel)) ggX3_priceBy_X2_ofNeed
set_option maxRecDepth 20000 in
theorem ggX3_priceBy_X2_minutesBetween : GoodIn wsX3_priceBy wsX2_minutesBetween := goodIn_r _ [23, 24, 25, 8, 26, 15, 16, 17, 4, 18, 19, 35, 36, 37, 38, 39, 40, 41, 42] rfl (by decide +kernel)
set_option maxRecDepth 20000 in
theorem gX3_priceBy_X2_minutesBetween : GoodIn wsX3_priceBy (wsV RX3 99 RX2 yX2_minutesBetween wsX2_minutesBetween) := goodIn_app (goodIn_r _ [34, 21, 22, 4] rfl (by decide +kernel)) ggX3_priceBy_X2_minutesBetween
theorem dX3_priceBy_0 : decode cX3_priceBy 0 = .ok (.iload_n 1, 1) := by decide +kernel
theorem dX3_priceBy_1 : decode cX3_priceBy 1 = .ok (.tableswitch 42 1 3 #[27, 35, 35], 27) := by decide +kernel
theorem dX3_priceBy_28 : decode cX3_priceBy 28 = .ok (.aload_n 0, 1) := by decide +kernel
theorem dX3_priceBy_29 : decode cX3_priceBy 29 = .ok (.iload_n 2, 1) := by decide +kernel
theorem dX3_priceBy_30 : decode cX3_priceBy 30 = .ok (.iload_n 3, 1) := by decide +kernel
theorem dX3_priceBy_31 : decode cX3_priceBy 31 = .ok (.invokevirtual 112, 3) := by decide +kernel
theorem dX3_priceBy_34 : decode cX3_priceBy 34 = .ok (.ineg, 1) := by decide +kernel
theorem dX3_priceBy_35 : decode cX3_priceBy 35 = .ok (.ireturn, 1) := by decide +kernel
theorem dX3_priceBy_36 : decode cX3_priceBy 36 = .ok (.aload_n 0, 1) := by decide +kernel
theorem dX3_priceBy_37 : decode cX3_priceBy 37 = .ok (.iload_n 2, 1) := by decide +kernel
theorem dX3_priceBy_38 : decode cX3_priceBy 38 = .ok (.iload_n 3, 1) := by decide +kernel
theorem dX3_priceBy_39 : decode cX3_priceBy 39 = .ok (.invokevirtual 141, 3) := by decide +kernel
theorem dX3_priceBy_42 : decode cX3_priceBy 42 = .ok (.ireturn, 1) := by decide +kernel
theorem dX3_priceBy_43 : decode cX3_priceBy 43 = .ok (.aload_n 0, 1) := by decide +kernel
theorem dX3_priceBy_44 : decode cX3_priceBy 44 = .ok (.iload_n 2, 1) := by decide +kernel
theorem dX3_priceBy_45 : decode cX3_priceBy 45 = .ok (.aload_n 0, 1) := by decide +kernel
theorem dX3_priceBy_46 : decode cX3_priceBy 46 = .ok (.iload_n 3, 1) := by decide +kernel
theorem dX3_priceBy_47 : decode cX3_priceBy 47 = .ok (.iconst 0, 1) := by decide +kernel
theorem dX3_priceBy_48 : decode cX3_priceBy 48 = .ok (.invokevirtual 80, 3) := by decide +kernel
theorem dX3_priceBy_51 : decode cX3_priceBy 51 = .ok (.invokevirtual 99, 3) := by decide +kernel
theorem dX3_priceBy_54 : decode cX3_priceBy 54 = .ok (.ireturn, 1) := by decide +kernel
set_option maxRecDepth 20000 in
theorem ggX3_runSum_X2_isOpen : GoodIn wsX3_runSum wsX2_isOpen := goodIn_r _ [7, 8, 9, 10, 11, 6, 12, 13, 14, 15, 16, 17, 18, 19, 20, 21, 22, 23, 24, 25, 26, 27, 28, 29, 116, 117, 118, 119, 120, 121, 122, 123] rfl (by decide +kernel)
set_option maxRecDepth 20000 in
theorem gX3_runSum_X2_isOpen : GoodIn wsX3_runSum (wsV RX3 220 RX2 yX2_isOpen wsX2_isOpen) := goodIn_app (goodIn_r _ [3, 4, 5, 6] rfl (by decide +kernel)) ggX3_runSum_X2_isOpen
set_option maxRecDepth 20000 in
theorem ggX3_runSum_X2_handsLeft : GoodIn wsX3_runSum wsX2_handsLeft := goodIn_r _ [22, 14, 15, 16, 6, 17, 18, 23, 24, 25, 26, 27, 28, 29, 116, 117, 118, 119, 120, 121, 122, 123] rfl (by decide +kernel)
set_option maxRecDepth 20000 in
theorem gX3_runSum_X2_handsLeft : GoodIn wsX3_runSum (wsV RX3 83 RX2 yX2_handsLeft wsX2_handsLeft) := goodIn_app (goodIn_r _ [30, 20, 21, 6] rfl (by decide +kernel)) ggX3_runSum_X2_handsLeft
set_option maxRecDepth 20000 in
theorem ggX3_runSum_X3_chosenBy : GoodIn wsX3_runSum wsX3_chosenBy := goodIn_r _ [35, 36, 37, 38, 39, 34, 40, 41, 42, 43, 44, 45, 6, 46, 14, 15, 16, 17, 18, 47, 48, 49, 50, 4, 5, 7, 8, 9, 10, 11, 12, 13, 19, 20, 21, 22, 23, 24, 25, 26, 27, 28, 29, 51, 52, 53, 54, 55, 56, 57, 58, 59, 60, 61, 62, 63, 64, 65, 66, 67, 68, 69, 70, 71, 72, 73, 74, 75, 76, 77, 78, 79, 80, 81, 82, 83, 84, 85, 86, 87, 88, 89, 90, 91, 92, 93, 94, 95, 96, 97, 98, 99, 100, 101, 102, 103, 116, 117, 118, 119, 120, 121, 122, 123, 124, 125, 126, 127, 128, 129, 130, 131, 132] rfl (by decide +kernel)
set_option maxRecDepth 20000 in
theorem gX3_runSum_X3_chosenBy : GoodIn wsX3_runSum (wsV RX3 137 RX3 yX3_chosenBy wsX3_chosenBy) := goodIn_app (goodIn_r _ [31, 32, 33, 34] rfl (by decide +kernel)) ggX3_runSum_X3_chosenBy
set_option maxRecDepth 20000 in
theorem ggX3_runSum_X2_goodOf : GoodIn wsX3_runSum wsX2_goodOf := goodIn_r _ [97, 91, 92, 82, 93, 14, 15, 16, 6, 17, 18, 67, 68, 69, 70, 71, 76, 77, 78, 79, 80, 81, 83, 116, 117, 118, 119, 120, 121, 122, 123] rfl (by decide +kernel)
set_option maxRecDepth 20000 in
theorem gX3_runSum_X2_goodOf : GoodIn wsX3_runSum (wsV RX3 112 RX2 yX2_goodOf wsX2_goodOf) := goodIn_app (goodIn_r _ [98, 95, 96, 6] rfl (by decide +kernel)) ggX3_runSum_X2_goodOf
set_option maxRecDepth 20000 in
theorem ggX3_runSum_X2_doHelp : GoodIn wsX3_runSum wsX2_doHelp := goodIn_r _ [107, 14, 15, 16, 6, 17, 18, 108, 109, 110, 111, 65, 66, 8, 47, 48, 49, 112, 113, 114, 115, 116, 117, 118, 119, 120, 121, 122, 123] rfl (by decide +kernel)
set_option maxRecDepth 20000 in
theorem gX3_runSum_X2_doHelp : GoodIn wsX3_runSum (wsV RX3 121 RX2 yX2_doHelp wsX2_doHelp) := goodIn_app (goodIn_r _ [104, 105, 106, 6] rfl (by decide +kernel)) ggX3_runSum_X2_doHelp
set_option maxRecDepth 20000 in
theorem ggX3_runSum_X2_ofNeed : GoodIn wsX3_runSum wsX2_ofNeed := goodIn_r _ [17, 18, 116, 117, 118, 119, 120, 121, 122, 123] rfl (by decide +kernel)
set_option maxRecDepth 20000 in
theorem gX3_runSum_X2_ofNeed : GoodIn wsX3_runSum (wsV RX3 80 RX2 yX2_ofNeed wsX2_ofNeed) := goodIn_app (goodIn_r _ [99, 15, 16, 6] rfl (by decide +kernel)) ggX3_runSum_X2_ofNeed
theorem dX3_runSum_0 : decode cX3_runSum 0 = .ok (.iconst 0, 1) := by decide +kernel
theorem dX3_runSum_1 : decode cX3_runSum 1 = .ok (.istore 4, 2) := by decide +kernel
theorem dX3_runSum_3 : decode cX3_runSum 3 = .ok (.iload_n 3, 1) := by decide +kernel
theorem dX3_runSum_4 : decode cX3_runSum 4 = .ok (.istore 5, 2) := by decide +kernel
theorem dX3_runSum_6 : decode cX3_runSum 6 = .ok (.aload_n 1, 1) := by decide +kernel
theorem dX3_runSum_7 : decode cX3_runSum 7 = .ok (.getfield 131, 3) := by decide +kernel
theorem dX3_runSum_10 : decode cX3_runSum 10 = .ok (.istore 6, 2) := by decide +kernel
theorem dX3_runSum_12 : decode cX3_runSum 12 = .ok (.iload 6, 2) := by decide +kernel
theorem dX3_runSum_14 : decode cX3_runSum 14 = .ok (.bipush 9, 2) := by decide +kernel
theorem dX3_runSum_16 : decode cX3_runSum 16 = .ok (.if_icmp .gt 131, 3) := by decide +kernel
theorem dX3_runSum_19 : decode cX3_runSum 19 = .ok (.aload_n 1, 1) := by decide +kernel
theorem dX3_runSum_20 : decode cX3_runSum 20 = .ok (.iload 6, 2) := by decide +kernel
theorem dX3_runSum_22 : decode cX3_runSum 22 = .ok (.putfield 131, 3) := by decide +kernel
theorem dX3_runSum_25 : decode cX3_runSum 25 = .ok (.iconst 0, 1) := by decide +kernel
theorem dX3_runSum_26 : decode cX3_runSum 26 = .ok (.istore 7, 2) := by decide +kernel
theorem dX3_runSum_28 : decode cX3_runSum 28 = .ok (.iload 7, 2) := by decide +kernel
theorem dX3_runSum_30 : decode cX3_runSum 30 = .ok (.aload_n 1, 1) := by decide +kernel
theorem dX3_runSum_31 : decode cX3_runSum 31 = .ok (.getfield 199, 3) := by decide +kernel
theorem dX3_runSum_34 : decode cX3_runSum 34 = .ok (.if_icmp .ge 107, 3) := by decide +kernel
theorem dX3_runSum_37 : decode cX3_runSum 37 = .ok (.aload_n 1, 1) := by decide +kernel
theorem dX3_runSum_38 : decode cX3_runSum 38 = .ok (.iload 7, 2) := by decide +kernel
theorem dX3_runSum_40 : decode cX3_runSum 40 = .ok (.invokevirtual 220, 3) := by decide +kernel
theorem dX3_runSum_43 : decode cX3_runSum 43 = .ok (.ifCond .eq 12, 3) := by decide +kernel
theorem dX3_runSum_46 : decode cX3_runSum 46 = .ok (.aload_n 1, 1) := by decide +kernel
theorem dX3_runSum_47 : decode cX3_runSum 47 = .ok (.iload 7, 2) := by decide +kernel
theorem dX3_runSum_49 : decode cX3_runSum 49 = .ok (.invokevirtual 83, 3) := by decide +kernel
theorem dX3_runSum_52 : decode cX3_runSum 52 = .ok (.goto 4, 3) := by decide +kernel
theorem dX3_runSum_55 : decode cX3_runSum 55 = .ok (.iconst 0, 1) := by decide +kernel
theorem dX3_runSum_56 : decode cX3_runSum 56 = .ok (.istore 8, 2) := by decide +kernel
theorem dX3_runSum_58 : decode cX3_runSum 58 = .ok (.iconst 0, 1) := by decide +kernel
theorem dX3_runSum_59 : decode cX3_runSum 59 = .ok (.istore 9, 2) := by decide +kernel
theorem dX3_runSum_61 : decode cX3_runSum 61 = .ok (.iload 9, 2) := by decide +kernel
theorem dX3_runSum_63 : decode cX3_runSum 63 = .ok (.iload 8, 2) := by decide +kernel
theorem dX3_runSum_65 : decode cX3_runSum 65 = .ok (.if_icmp .ge 70, 3) := by decide +kernel
theorem dX3_runSum_68 : decode cX3_runSum 68 = .ok (.aload_n 0, 1) := by decide +kernel
theorem dX3_runSum_69 : decode cX3_runSum 69 = .ok (.aload_n 1, 1) := by decide +kernel
theorem dX3_runSum_70 : decode cX3_runSum 70 = .ok (.iload_n 2, 1) := by decide +kernel
theorem dX3_runSum_71 : decode cX3_runSum 71 = .ok (.iload 7, 2) := by decide +kernel
theorem dX3_runSum_73 : decode cX3_runSum 73 = .ok (.invokevirtual 137, 3) := by decide +kernel
theorem dX3_runSum_76 : decode cX3_runSum 76 = .ok (.istore 10, 2) := by decide +kernel
theorem dX3_runSum_78 : decode cX3_runSum 78 = .ok (.iload 10, 2) := by decide +kernel
theorem dX3_runSum_80 : decode cX3_runSum 80 = .ok (.ifCond .lt 27, 3) := by decide +kernel
theorem dX3_runSum_83 : decode cX3_runSum 83 = .ok (.iload 4, 2) := by decide +kernel
theorem dX3_runSum_85 : decode cX3_runSum 85 = .ok (.aload_n 1, 1) := by decide +kernel
theorem dX3_runSum_86 : decode cX3_runSum 86 = .ok (.iload 10, 2) := by decide +kernel
theorem dX3_runSum_88 : decode cX3_runSum 88 = .ok (.iload 7, 2) := by decide +kernel
theorem dX3_runSum_90 : decode cX3_runSum 90 = .ok (.invokevirtual 112, 3) := by decide +kernel
theorem dX3_runSum_93 : decode cX3_runSum 93 = .ok (.iadd, 1) := by decide +kernel
theorem dX3_runSum_94 : decode cX3_runSum 94 = .ok (.istore 4, 2) := by decide +kernel
theorem dX3_runSum_96 : decode cX3_runSum 96 = .ok (.aload_n 1, 1) := by decide +kernel
theorem dX3_runSum_97 : decode cX3_runSum 97 = .ok (.iload 10, 2) := by decide +kernel
theorem dX3_runSum_99 : decode cX3_runSum 99 = .ok (.iload 7, 2) := by decide +kernel
theorem dX3_runSum_101 : decode cX3_runSum 101 = .ok (.invokevirtual 121, 3) := by decide +kernel
theorem dX3_runSum_104 : decode cX3_runSum 104 = .ok (.goto 25, 3) := by decide +kernel
theorem dX3_runSum_107 : decode cX3_runSum 107 = .ok (.iload 5, 2) := by decide +kernel
theorem dX3_runSum_109 : decode cX3_runSum 109 = .ok (.ifCond .le 20, 3) := by decide +kernel
theorem dX3_runSum_112 : decode cX3_runSum 112 = .ok (.iload 4, 2) := by decide +kernel
theorem dX3_runSum_114 : decode cX3_runSum 114 = .ok (.iconst 3, 1) := by decide +kernel
theorem dX3_runSum_115 : decode cX3_runSum 115 = .ok (.aload_n 1, 1) := by decide +kernel
theorem dX3_runSum_116 : decode cX3_runSum 116 = .ok (.iload 7, 2) := by decide +kernel
theorem dX3_runSum_118 : decode cX3_runSum 118 = .ok (.iconst 2, 1) := by decide +kernel
theorem dX3_runSum_119 : decode cX3_runSum 119 = .ok (.invokevirtual 80, 3) := by decide +kernel
theorem dX3_runSum_122 : decode cX3_runSum 122 = .ok (.imul, 1) := by decide +kernel
theorem dX3_runSum_123 : decode cX3_runSum 123 = .ok (.iadd, 1) := by decide +kernel
theorem dX3_runSum_124 : decode cX3_runSum 124 = .ok (.istore 4, 2) := by decide +kernel
theorem dX3_runSum_126 : decode cX3_runSum 126 = .ok (.iinc 5 (-1), 3) := by decide +kernel
theorem dX3_runSum_129 : decode cX3_runSum 129 = .ok (.iinc 9 1, 3) := by decide +kernel
theorem dX3_runSum_132 : decode cX3_runSum 132 = .ok (.goto (-71), 3) := by decide +kernel
theorem dX3_runSum_135 : decode cX3_runSum 135 = .ok (.iinc 7 1, 3) := by decide +kernel
theorem dX3_runSum_138 : decode cX3_runSum 138 = .ok (.goto (-110), 3) := by decide +kernel
theorem dX3_runSum_141 : decode cX3_runSum 141 = .ok (.iinc 6 1, 3) := by decide +kernel
theorem dX3_runSum_144 : decode cX3_runSum 144 = .ok (.goto (-132), 3) := by decide +kernel
theorem dX3_runSum_147 : decode cX3_runSum 147 = .ok (.iload 4, 2) := by decide +kernel
theorem dX3_runSum_149 : decode cX3_runSum 149 = .ok (.ireturn, 1) := by decide +kernel
set_option maxRecDepth 20000 in
theorem ggX3_mindOfNow_X2_copyFrom : GoodIn wsX3_mindOfNow wsX2_copyFrom := goodIn_r _ [7, 8, 9, 10, 11, 12, 13, 14, 15, 16, 17, 18, 19, 20, 21, 22, 23, 24, 25, 26, 36, 37, 38, 39, 40, 41, 42, 43] rfl (by decide +kernel)
set_option maxRecDepth 20000 in
theorem gX3_mindOfNow_X2_copyFrom : GoodIn wsX3_mindOfNow (wsV RX3 58 RX2 yX2_copyFrom wsX2_copyFrom) := goodIn_app (goodIn_r _ [3, 4, 5, 6] rfl (by decide +kernel)) ggX3_mindOfNow_X2_copyFrom
theorem dX3_mindOfNow_0 : decode cX3_mindOfNow 0 = .ok (.aload_n 0, 1) := by decide +kernel
theorem dX3_mindOfNow_1 : decode cX3_mindOfNow 1 = .ok (.getfield 16, 3) := by decide +kernel
theorem dX3_mindOfNow_4 : decode cX3_mindOfNow 4 = .ok (.aload_n 0, 1) := by decide +kernel
theorem dX3_mindOfNow_5 : decode cX3_mindOfNow 5 = .ok (.getfield 12, 3) := by decide +kernel
theorem dX3_mindOfNow_8 : decode cX3_mindOfNow 8 = .ok (.invokevirtual 58, 3) := by decide +kernel
theorem dX3_mindOfNow_11 : decode cX3_mindOfNow 11 = .ok (.aload_n 0, 1) := by decide +kernel
theorem dX3_mindOfNow_12 : decode cX3_mindOfNow 12 = .ok (.getfield 16, 3) := by decide +kernel
theorem dX3_mindOfNow_15 : decode cX3_mindOfNow 15 = .ok (.areturn, 1) := by decide +kernel
set_option maxRecDepth 20000 in
theorem ggX3_mindWithHelp_X2_copyFrom : GoodIn wsX3_mindWithHelp wsX2_copyFrom := goodIn_r _ [7, 8, 9, 10, 11, 12, 13, 14, 15, 16, 17, 18, 19, 20, 21, 22, 23, 24, 25, 26, 40, 41, 42, 43, 44, 45, 46, 47] rfl (by decide +kernel)
set_option maxRecDepth 20000 in
theorem gX3_mindWithHelp_X2_copyFrom : GoodIn wsX3_mindWithHelp (wsV RX3 58 RX2 yX2_copyFrom wsX2_copyFrom) := goodIn_app (goodIn_r _ [3, 4, 5, 6] rfl (by decide +kernel)) ggX3_mindWithHelp_X2_copyFrom
set_option maxRecDepth 20000 in
theorem ggX3_mindWithHelp_X2_write : GoodIn wsX3_mindWithHelp wsX2_write := goodIn_r _ [30, 16, 24, 26, 40, 41, 42, 43, 44, 45, 46, 47] rfl (by decide +kernel)
set_option maxRecDepth 20000 in
theorem gX3_mindWithHelp_X2_write : GoodIn wsX3_mindWithHelp (wsV RX3 223 RX2 yX2_write wsX2_write) := goodIn_app (goodIn_r _ [27, 28, 29, 6] rfl (by decide +kernel)) ggX3_mindWithHelp_X2_write
theorem dX3_mindWithHelp_0 : decode cX3_mindWithHelp 0 = .ok (.aload_n 0, 1) := by decide +kernel
theorem dX3_mindWithHelp_1 : decode cX3_mindWithHelp 1 = .ok (.getfield 16, 3) := by decide +kernel
theorem dX3_mindWithHelp_4 : decode cX3_mindWithHelp 4 = .ok (.aload_n 0, 1) := by decide +kernel
theorem dX3_mindWithHelp_5 : decode cX3_mindWithHelp 5 = .ok (.getfield 12, 3) := by decide +kernel
theorem dX3_mindWithHelp_8 : decode cX3_mindWithHelp 8 = .ok (.invokevirtual 58, 3) := by decide +kernel
theorem dX3_mindWithHelp_11 : decode cX3_mindWithHelp 11 = .ok (.aload_n 0, 1) := by decide +kernel
theorem dX3_mindWithHelp_12 : decode cX3_mindWithHelp 12 = .ok (.getfield 16, 3) := by decide +kernel
theorem dX3_mindWithHelp_15 : decode cX3_mindWithHelp 15 = .ok (.iload_n 1, 1) := by decide +kernel
theorem dX3_mindWithHelp_16 : decode cX3_mindWithHelp 16 = .ok (.iload_n 2, 1) := by decide +kernel
theorem dX3_mindWithHelp_17 : decode cX3_mindWithHelp 17 = .ok (.bipush 9, 2) := by decide +kernel
theorem dX3_mindWithHelp_19 : decode cX3_mindWithHelp 19 = .ok (.iconst (-1), 1) := by decide +kernel
theorem dX3_mindWithHelp_20 : decode cX3_mindWithHelp 20 = .ok (.invokevirtual 223, 3) := by decide +kernel
theorem dX3_mindWithHelp_23 : decode cX3_mindWithHelp 23 = .ok (.aload_n 0, 1) := by decide +kernel
theorem dX3_mindWithHelp_24 : decode cX3_mindWithHelp 24 = .ok (.getfield 16, 3) := by decide +kernel
theorem dX3_mindWithHelp_27 : decode cX3_mindWithHelp 27 = .ok (.areturn, 1) := by decide +kernel
set_option maxRecDepth 20000 in
theorem ggX3_allAreHelped_X2_putOnlyNeed : GoodIn wsX3_allAreHelped wsX2_putOnlyNeed := goodIn_r _ [6, 7, 8, 9, 10, 11, 5, 12, 13, 116, 117, 118, 119, 120, 121, 122, 123] rfl (by decide +kernel)
set_option maxRecDepth 20000 in
theorem gX3_allAreHelped_X2_putOnlyNeed : GoodIn wsX3_allAreHelped (wsV RX3 227 RX2 yX2_putOnlyNeed wsX2_putOnlyNeed) := goodIn_app (goodIn_r _ [2, 3, 4, 5] rfl (by decide +kernel)) ggX3_allAreHelped_X2_putOnlyNeed
set_option maxRecDepth 20000 in
theorem ggX3_allAreHelped_X3_chosenBy : GoodIn wsX3_allAreHelped wsX3_chosenBy := goodIn_r _ [18, 1, 19, 20, 21, 17, 22, 23, 24, 25, 26, 27, 5, 28, 29, 30, 31, 32, 13, 33, 34, 35, 36, 37, 38, 39, 8, 40, 41, 42, 43, 7, 44, 45, 46, 47, 48, 49, 50, 51, 52, 53, 54, 55, 56, 57, 58, 59, 60, 61, 62, 63, 64, 65, 66, 67, 68, 69, 70, 71, 72, 73, 74, 75, 76, 77, 78, 79, 80, 81, 82, 83, 84, 85, 86, 87, 88, 89, 90, 91, 92, 93, 94, 95, 96, 97, 98, 99, 100, 101, 102, 103, 104, 105, 106, 107, 116, 117, 118, 119, 120, 121, 122, 123, 124, 125, 126, 127, 128, 129, 130, 131, 132] rfl (by decide +kernel)
set_option maxRecDepth 20000 in
theorem gX3_allAreHelped_X3_chosenBy : GoodIn wsX3_allAreHelped (wsV RX3 137 RX3 yX3_chosenBy wsX3_chosenBy) := goodIn_app (goodIn_r _ [14, 15, 16, 17] rfl (by decide +kernel)) ggX3_allAreHelped_X3_chosenBy
set_option maxRecDepth 20000 in
theorem ggX3_allAreHelped_X2_doHelp : GoodIn wsX3_allAreHelped wsX2_doHelp := goodIn_r _ [111, 29, 30, 31, 5, 32, 13, 112, 113, 114, 115, 69, 70, 8, 33, 34, 35, 9, 10, 11, 12, 116, 117, 118, 119, 120, 121, 122, 123] rfl (by decide +kernel)
set_option maxRecDepth 20000 in
theorem gX3_allAreHelped_X2_doHelp : GoodIn wsX3_allAreHelped (wsV RX3 121 RX2 yX2_doHelp wsX2_doHelp) := goodIn_app (goodIn_r _ [108, 109, 110, 5] rfl (by decide +kernel)) ggX3_allAreHelped_X2_doHelp
theorem dX3_allAreHelped_0 : decode cX3_allAreHelped 0 = .ok (.iconst 0, 1) := by decide +kernel
theorem dX3_allAreHelped_1 : decode cX3_allAreHelped 1 = .ok (.istore 4, 2) := by decide +kernel
theorem dX3_allAreHelped_3 : decode cX3_allAreHelped 3 = .ok (.iload 4, 2) := by decide +kernel
theorem dX3_allAreHelped_5 : decode cX3_allAreHelped 5 = .ok (.aload_n 1, 1) := by decide +kernel
theorem dX3_allAreHelped_6 : decode cX3_allAreHelped 6 = .ok (.getfield 171, 3) := by decide +kernel
theorem dX3_allAreHelped_9 : decode cX3_allAreHelped 9 = .ok (.if_icmp .ge 40, 3) := by decide +kernel
theorem dX3_allAreHelped_12 : decode cX3_allAreHelped 12 = .ok (.aload_n 1, 1) := by decide +kernel
theorem dX3_allAreHelped_13 : decode cX3_allAreHelped 13 = .ok (.iload 4, 2) := by decide +kernel
theorem dX3_allAreHelped_15 : decode cX3_allAreHelped 15 = .ok (.iload_n 3, 1) := by decide +kernel
theorem dX3_allAreHelped_16 : decode cX3_allAreHelped 16 = .ok (.iconst 5, 1) := by decide +kernel
theorem dX3_allAreHelped_17 : decode cX3_allAreHelped 17 = .ok (.invokevirtual 227, 3) := by decide +kernel
theorem dX3_allAreHelped_20 : decode cX3_allAreHelped 20 = .ok (.aload_n 0, 1) := by decide +kernel
theorem dX3_allAreHelped_21 : decode cX3_allAreHelped 21 = .ok (.aload_n 1, 1) := by decide +kernel
theorem dX3_allAreHelped_22 : decode cX3_allAreHelped 22 = .ok (.iload_n 2, 1) := by decide +kernel
theorem dX3_allAreHelped_23 : decode cX3_allAreHelped 23 = .ok (.iconst 0, 1) := by decide +kernel
theorem dX3_allAreHelped_24 : decode cX3_allAreHelped 24 = .ok (.invokevirtual 137, 3) := by decide +kernel
theorem dX3_allAreHelped_27 : decode cX3_allAreHelped 27 = .ok (.istore 5, 2) := by decide +kernel
theorem dX3_allAreHelped_29 : decode cX3_allAreHelped 29 = .ok (.iload 5, 2) := by decide +kernel
theorem dX3_allAreHelped_31 : decode cX3_allAreHelped 31 = .ok (.ifCond .ge 5, 3) := by decide +kernel
theorem dX3_allAreHelped_34 : decode cX3_allAreHelped 34 = .ok (.iconst 0, 1) := by decide +kernel
theorem dX3_allAreHelped_35 : decode cX3_allAreHelped 35 = .ok (.ireturn, 1) := by decide +kernel
theorem dX3_allAreHelped_36 : decode cX3_allAreHelped 36 = .ok (.aload_n 1, 1) := by decide +kernel
theorem dX3_allAreHelped_37 : decode cX3_allAreHelped 37 = .ok (.iload 5, 2) := by decide +kernel
theorem dX3_allAreHelped_39 : decode cX3_allAreHelped 39 = .ok (.iconst 0, 1) := by decide +kernel
theorem dX3_allAreHelped_40 : decode cX3_allAreHelped 40 = .ok (.invokevirtual 121, 3) := by decide +kernel
theorem dX3_allAreHelped_43 : decode cX3_allAreHelped 43 = .ok (.iinc 4 1, 3) := by decide +kernel
theorem dX3_allAreHelped_46 : decode cX3_allAreHelped 46 = .ok (.goto (-43), 3) := by decide +kernel
theorem dX3_allAreHelped_49 : decode cX3_allAreHelped 49 = .ok (.iconst 1, 1) := by decide +kernel
theorem dX3_allAreHelped_50 : decode cX3_allAreHelped 50 = .ok (.ireturn, 1) := by decide +kernel
set_option maxRecDepth 20000 in
theorem ggX3_seededSum_X3_nextSeed : GoodIn wsX3_seededSum wsX3_nextSeed := goodIn_r _ [6, 7] rfl (by decide +kernel)
set_option maxRecDepth 20000 in
theorem gX3_seededSum_X3_nextSeed : GoodIn wsX3_seededSum (va_wsS RX3 230 yX3_nextSeed wsX3_nextSeed) := goodIn_app (goodIn_r _ [3, 4, 5] rfl (by decide +kernel)) ggX3_seededSum_X3_nextSeed
set_option maxRecDepth 20000 in
theorem ggX3_seededSum_X3_draw : GoodIn wsX3_seededSum wsX3_draw := goodIn_r _ [10, 11, 12] rfl (by decide +kernel)
set_option maxRecDepth 20000 in
theorem gX3_seededSum_X3_draw : GoodIn wsX3_seededSum (va_wsS RX3 233 yX3_draw wsX3_draw) := goodIn_app (goodIn_r _ [8, 9, 5] rfl (by decide +kernel)) ggX3_seededSum_X3_draw
set_option maxRecDepth 20000 in
theorem ggX3_seededSum_X2_putOnlyNeed : GoodIn wsX3_seededSum wsX2_putOnlyNeed := goodIn_r _ [17, 18, 19, 20, 21, 22, 16, 23, 24, 126, 127, 128, 129, 130, 131, 132, 133] rfl (by decide +kernel)
set_option maxRecDepth 20000 in
theorem gX3_seededSum_X2_putOnlyNeed : GoodIn wsX3_seededSum (wsV RX3 227 RX2 yX2_putOnlyNeed wsX2_putOnlyNeed) := goodIn_app (goodIn_r _ [13, 14, 15, 16] rfl (by decide +kernel)) ggX3_seededSum_X2_putOnlyNeed
set_option maxRecDepth 20000 in
theorem ggX3_seededSum_X3_chosenBy : GoodIn wsX3_seededSum wsX3_chosenBy := goodIn_r _ [28, 1, 29, 30, 31, 5, 32, 33, 34, 35, 36, 37, 16, 38, 39, 40, 41, 42, 24, 43, 44, 45, 46, 47, 48, 49, 19, 50, 51, 52, 53, 18, 54, 55, 56, 57, 58, 59, 60, 61, 62, 63, 64, 65, 66, 67, 68, 69, 70, 71, 72, 73, 74, 75, 76, 77, 78, 79, 80, 81, 82, 83, 84, 85, 86, 87, 88, 89, 90, 91, 92, 93, 94, 95, 96, 97, 98, 99, 100, 101, 102, 103, 104, 105, 106, 107, 108, 109, 110, 111, 112, 113, 114, 115, 116, 117, 126, 127, 128, 129, 130, 131, 132, 133, 134, 135, 136, 137, 138, 139, 140, 141, 142] rfl (by decide +kernel)
set_option maxRecDepth 20000 in
theorem gX3_seededSum_X3_chosenBy : GoodIn wsX3_seededSum (wsV RX3 137 RX3 yX3_chosenBy wsX3_chosenBy) := goodIn_app (goodIn_r _ [25, 26, 27, 5] rfl (by decide +kernel)) ggX3_seededSum_X3_chosenBy
set_option maxRecDepth 20000 in
theorem ggX3_seededSum_X2_goodOf : GoodIn wsX3_seededSum wsX2_goodOf := goodIn_r _ [111, 105, 106, 96, 107, 39, 40, 41, 16, 42, 24, 81, 82, 83, 84, 85, 90, 91, 92, 93, 94, 95, 97, 126, 127, 128, 129, 130, 131, 132, 133] rfl (by decide +kernel)
set_option maxRecDepth 20000 in
theorem gX3_seededSum_X2_goodOf : GoodIn wsX3_seededSum (wsV RX3 112 RX2 yX2_goodOf wsX2_goodOf) := goodIn_app (goodIn_r _ [112, 109, 110, 16] rfl (by decide +kernel)) ggX3_seededSum_X2_goodOf
set_option maxRecDepth 20000 in
theorem ggX3_seededSum_X2_doHelp : GoodIn wsX3_seededSum wsX2_doHelp := goodIn_r _ [121, 39, 40, 41, 16, 42, 24, 122, 123, 124, 125, 79, 80, 19, 43, 44, 45, 20, 21, 22, 23, 126, 127, 128, 129, 130, 131, 132, 133] rfl (by decide +kernel)
set_option maxRecDepth 20000 in
theorem gX3_seededSum_X2_doHelp : GoodIn wsX3_seededSum (wsV RX3 121 RX2 yX2_doHelp wsX2_doHelp) := goodIn_app (goodIn_r _ [118, 119, 120, 16] rfl (by decide +kernel)) ggX3_seededSum_X2_doHelp
theorem dX3_seededSum_0 : decode cX3_seededSum 0 = .ok (.iload 4, 2) := by decide +kernel
theorem dX3_seededSum_2 : decode cX3_seededSum 2 = .ok (.istore 5, 2) := by decide +kernel
theorem dX3_seededSum_4 : decode cX3_seededSum 4 = .ok (.iconst 0, 1) := by decide +kernel
theorem dX3_seededSum_5 : decode cX3_seededSum 5 = .ok (.istore 6, 2) := by decide +kernel
theorem dX3_seededSum_7 : decode cX3_seededSum 7 = .ok (.iconst 0, 1) := by decide +kernel
theorem dX3_seededSum_8 : decode cX3_seededSum 8 = .ok (.istore 7, 2) := by decide +kernel
theorem dX3_seededSum_10 : decode cX3_seededSum 10 = .ok (.iload 7, 2) := by decide +kernel
theorem dX3_seededSum_12 : decode cX3_seededSum 12 = .ok (.iload_n 3, 1) := by decide +kernel
theorem dX3_seededSum_13 : decode cX3_seededSum 13 = .ok (.iconst 3, 1) := by decide +kernel
theorem dX3_seededSum_14 : decode cX3_seededSum 14 = .ok (.imul, 1) := by decide +kernel
theorem dX3_seededSum_15 : decode cX3_seededSum 15 = .ok (.if_icmp .ge 117, 3) := by decide +kernel
theorem dX3_seededSum_18 : decode cX3_seededSum 18 = .ok (.iload 5, 2) := by decide +kernel
theorem dX3_seededSum_20 : decode cX3_seededSum 20 = .ok (.invokestatic 230, 3) := by decide +kernel
theorem dX3_seededSum_23 : decode cX3_seededSum 23 = .ok (.istore 5, 2) := by decide +kernel
theorem dX3_seededSum_25 : decode cX3_seededSum 25 = .ok (.iload 5, 2) := by decide +kernel
theorem dX3_seededSum_27 : decode cX3_seededSum 27 = .ok (.aload_n 1, 1) := by decide +kernel
theorem dX3_seededSum_28 : decode cX3_seededSum 28 = .ok (.getfield 171, 3) := by decide +kernel
theorem dX3_seededSum_31 : decode cX3_seededSum 31 = .ok (.invokestatic 233, 3) := by decide +kernel
theorem dX3_seededSum_34 : decode cX3_seededSum 34 = .ok (.istore 8, 2) := by decide +kernel
theorem dX3_seededSum_36 : decode cX3_seededSum 36 = .ok (.iload 5, 2) := by decide +kernel
theorem dX3_seededSum_38 : decode cX3_seededSum 38 = .ok (.invokestatic 230, 3) := by decide +kernel
theorem dX3_seededSum_41 : decode cX3_seededSum 41 = .ok (.istore 5, 2) := by decide +kernel
theorem dX3_seededSum_43 : decode cX3_seededSum 43 = .ok (.iload 5, 2) := by decide +kernel
theorem dX3_seededSum_45 : decode cX3_seededSum 45 = .ok (.iconst 4, 1) := by decide +kernel
theorem dX3_seededSum_46 : decode cX3_seededSum 46 = .ok (.invokestatic 233, 3) := by decide +kernel
theorem dX3_seededSum_49 : decode cX3_seededSum 49 = .ok (.istore 9, 2) := by decide +kernel
theorem dX3_seededSum_51 : decode cX3_seededSum 51 = .ok (.iload 5, 2) := by decide +kernel
theorem dX3_seededSum_53 : decode cX3_seededSum 53 = .ok (.invokestatic 230, 3) := by decide +kernel
theorem dX3_seededSum_56 : decode cX3_seededSum 56 = .ok (.istore 5, 2) := by decide +kernel
theorem dX3_seededSum_58 : decode cX3_seededSum 58 = .ok (.aload_n 1, 1) := by decide +kernel
theorem dX3_seededSum_59 : decode cX3_seededSum 59 = .ok (.iload 8, 2) := by decide +kernel
theorem dX3_seededSum_61 : decode cX3_seededSum 61 = .ok (.iload 9, 2) := by decide +kernel
theorem dX3_seededSum_63 : decode cX3_seededSum 63 = .ok (.iconst 1, 1) := by decide +kernel
theorem dX3_seededSum_64 : decode cX3_seededSum 64 = .ok (.iload 5, 2) := by decide +kernel
theorem dX3_seededSum_66 : decode cX3_seededSum 66 = .ok (.bipush 9, 2) := by decide +kernel
theorem dX3_seededSum_68 : decode cX3_seededSum 68 = .ok (.invokestatic 233, 3) := by decide +kernel
theorem dX3_seededSum_71 : decode cX3_seededSum 71 = .ok (.iadd, 1) := by decide +kernel
theorem dX3_seededSum_72 : decode cX3_seededSum 72 = .ok (.invokevirtual 227, 3) := by decide +kernel
theorem dX3_seededSum_75 : decode cX3_seededSum 75 = .ok (.aload_n 0, 1) := by decide +kernel
theorem dX3_seededSum_76 : decode cX3_seededSum 76 = .ok (.aload_n 1, 1) := by decide +kernel
theorem dX3_seededSum_77 : decode cX3_seededSum 77 = .ok (.iload_n 2, 1) := by decide +kernel
theorem dX3_seededSum_78 : decode cX3_seededSum 78 = .ok (.iconst 0, 1) := by decide +kernel
theorem dX3_seededSum_79 : decode cX3_seededSum 79 = .ok (.invokevirtual 137, 3) := by decide +kernel
theorem dX3_seededSum_82 : decode cX3_seededSum 82 = .ok (.istore 10, 2) := by decide +kernel
theorem dX3_seededSum_84 : decode cX3_seededSum 84 = .ok (.iload 10, 2) := by decide +kernel
theorem dX3_seededSum_86 : decode cX3_seededSum 86 = .ok (.ifCond .lt 22, 3) := by decide +kernel
theorem dX3_seededSum_89 : decode cX3_seededSum 89 = .ok (.iload 6, 2) := by decide +kernel
theorem dX3_seededSum_91 : decode cX3_seededSum 91 = .ok (.aload_n 1, 1) := by decide +kernel
theorem dX3_seededSum_92 : decode cX3_seededSum 92 = .ok (.iload 10, 2) := by decide +kernel
theorem dX3_seededSum_94 : decode cX3_seededSum 94 = .ok (.iconst 0, 1) := by decide +kernel
theorem dX3_seededSum_95 : decode cX3_seededSum 95 = .ok (.invokevirtual 112, 3) := by decide +kernel
theorem dX3_seededSum_98 : decode cX3_seededSum 98 = .ok (.iadd, 1) := by decide +kernel
theorem dX3_seededSum_99 : decode cX3_seededSum 99 = .ok (.istore 6, 2) := by decide +kernel
theorem dX3_seededSum_101 : decode cX3_seededSum 101 = .ok (.aload_n 1, 1) := by decide +kernel
theorem dX3_seededSum_102 : decode cX3_seededSum 102 = .ok (.iload 10, 2) := by decide +kernel
theorem dX3_seededSum_104 : decode cX3_seededSum 104 = .ok (.iconst 0, 1) := by decide +kernel
theorem dX3_seededSum_105 : decode cX3_seededSum 105 = .ok (.invokevirtual 121, 3) := by decide +kernel
theorem dX3_seededSum_108 : decode cX3_seededSum 108 = .ok (.iload 7, 2) := by decide +kernel
theorem dX3_seededSum_110 : decode cX3_seededSum 110 = .ok (.iconst 3, 1) := by decide +kernel
theorem dX3_seededSum_111 : decode cX3_seededSum 111 = .ok (.irem, 1) := by decide +kernel
theorem dX3_seededSum_112 : decode cX3_seededSum 112 = .ok (.iconst 2, 1) := by decide +kernel
theorem dX3_seededSum_113 : decode cX3_seededSum 113 = .ok (.if_icmp .ne 13, 3) := by decide +kernel
theorem dX3_seededSum_116 : decode cX3_seededSum 116 = .ok (.aload_n 1, 1) := by decide +kernel
theorem dX3_seededSum_117 : decode cX3_seededSum 117 = .ok (.dup, 1) := by decide +kernel
theorem dX3_seededSum_118 : decode cX3_seededSum 118 = .ok (.getfield 131, 3) := by decide +kernel
theorem dX3_seededSum_121 : decode cX3_seededSum 121 = .ok (.iconst 1, 1) := by decide +kernel
theorem dX3_seededSum_122 : decode cX3_seededSum 122 = .ok (.iadd, 1) := by decide +kernel
theorem dX3_seededSum_123 : decode cX3_seededSum 123 = .ok (.putfield 131, 3) := by decide +kernel
theorem dX3_seededSum_126 : decode cX3_seededSum 126 = .ok (.iinc 7 1, 3) := by decide +kernel
theorem dX3_seededSum_129 : decode cX3_seededSum 129 = .ok (.goto (-119), 3) := by decide +kernel
theorem dX3_seededSum_132 : decode cX3_seededSum 132 = .ok (.iload 6, 2) := by decide +kernel
theorem dX3_seededSum_134 : decode cX3_seededSum 134 = .ok (.ireturn, 1) := by decide +kernel
theorem dX3_nextSeed_0 : decode cX3_nextSeed 0 = .ok (.iload_n 0, 1) := by decide +kernel
theorem dX3_nextSeed_1 : decode cX3_nextSeed 1 = .ok (.ldc 236, 2) := by decide +kernel
theorem dX3_nextSeed_3 : decode cX3_nextSeed 3 = .ok (.imul, 1) := by decide +kernel
theorem dX3_nextSeed_4 : decode cX3_nextSeed 4 = .ok (.sipush 12345, 3) := by decide +kernel
theorem dX3_nextSeed_7 : decode cX3_nextSeed 7 = .ok (.iadd, 1) := by decide +kernel
theorem dX3_nextSeed_8 : decode cX3_nextSeed 8 = .ok (.ireturn, 1) := by decide +kernel
theorem dX3_draw_0 : decode cX3_draw 0 = .ok (.iload_n 1, 1) := by decide +kernel
theorem dX3_draw_1 : decode cX3_draw 1 = .ok (.ifCond .le 15, 3) := by decide +kernel
theorem dX3_draw_4 : decode cX3_draw 4 = .ok (.iload_n 0, 1) := by decide +kernel
theorem dX3_draw_5 : decode cX3_draw 5 = .ok (.ldc 237, 2) := by decide +kernel
theorem dX3_draw_7 : decode cX3_draw 7 = .ok (.iand, 1) := by decide +kernel
theorem dX3_draw_8 : decode cX3_draw 8 = .ok (.ldc 238, 2) := by decide +kernel
theorem dX3_draw_10 : decode cX3_draw 10 = .ok (.idiv, 1) := by decide +kernel
theorem dX3_draw_11 : decode cX3_draw 11 = .ok (.iload_n 1, 1) := by decide +kernel
theorem dX3_draw_12 : decode cX3_draw 12 = .ok (.irem, 1) := by decide +kernel
theorem dX3_draw_13 : decode cX3_draw 13 = .ok (.goto 4, 3) := by decide +kernel
theorem dX3_draw_16 : decode cX3_draw 16 = .ok (.iconst 0, 1) := by decide +kernel
theorem dX3_draw_17 : decode cX3_draw 17 = .ok (.ireturn, 1) := by decide +kernel
set_option maxRecDepth 20000 in
theorem ggX3_judgedRow_X2_isOpen : GoodIn wsX3_judgedRow wsX2_isOpen := goodIn_r _ [8, 9, 10, 11, 12, 7, 13, 14, 15, 16, 17, 18, 19, 20, 21, 22, 23, 24, 25, 26, 27, 28, 29, 30, 85, 86, 87, 88, 89, 90, 91, 92] rfl (by decide +kernel)
set_option maxRecDepth 20000 in
theorem gX3_judgedRow_X2_isOpen : GoodIn wsX3_judgedRow (wsV RX3 220 RX2 yX2_isOpen wsX2_isOpen) := goodIn_app (goodIn_r _ [4, 5, 6, 7] rfl (by decide +kernel)) ggX3_judgedRow_X2_isOpen
set_option maxRecDepth 20000 in
theorem ggX3_judgedRow_X2_handsLeft : GoodIn wsX3_judgedRow wsX2_handsLeft := goodIn_r _ [23, 15, 16, 17, 7, 18, 19, 24, 25, 26, 27, 28, 29, 30, 85, 86, 87, 88, 89, 90, 91, 92] rfl (by decide +kernel)
set_option maxRecDepth 20000 in
theorem gX3_judgedRow_X2_handsLeft : GoodIn wsX3_judgedRow (wsV RX3 83 RX2 yX2_handsLeft wsX2_handsLeft) := goodIn_app (goodIn_r _ [31, 21, 22, 7] rfl (by decide +kernel)) ggX3_judgedRow_X2_handsLeft
set_option maxRecDepth 20000 in
theorem ggX3_judgedRow_X2_mayHelpWith : GoodIn wsX3_judgedRow wsX2_mayHelpWith := goodIn_r _ [35, 15, 16, 17, 7, 18, 19, 36, 37, 38, 39, 5, 6, 8, 9, 10, 11, 12, 13, 14, 20, 21, 22, 23, 24, 25, 26, 27, 28, 29, 30, 40, 41, 42, 43, 44, 45, 46, 47, 48, 49, 50, 51, 52, 53, 54, 55, 56, 57, 58, 59, 60, 61, 62, 63, 64, 65, 66, 67, 68, 69, 70, 71, 72, 85, 86, 87, 88, 89, 90, 91, 92] rfl (by decide +kernel)
set_option maxRecDepth 20000 in
theorem gX3_judgedRow_X2_mayHelpWith : GoodIn wsX3_judgedRow (wsV RX3 115 RX2 yX2_mayHelpWith wsX2_mayHelpWith) := goodIn_app (goodIn_r _ [32, 33, 34, 7] rfl (by decide +kernel)) ggX3_judgedRow_X2_mayHelpWith
set_option maxRecDepth 20000 in
theorem ggX3_judgedRow_X2_doHelp : GoodIn wsX3_judgedRow wsX2_doHelp := goodIn_r _ [76, 15, 16, 17, 7, 18, 19, 77, 78, 79, 80, 54, 55, 9, 36, 37, 38, 81, 82, 83, 84, 85, 86, 87, 88, 89, 90, 91, 92] rfl (by decide +kernel)
set_option maxRecDepth 20000 in
theorem gX3_judgedRow_X2_doHelp : GoodIn wsX3_judgedRow (wsV RX3 121 RX2 yX2_doHelp wsX2_doHelp) := goodIn_app (goodIn_r _ [73, 74, 75, 7] rfl (by decide +kernel)) ggX3_judgedRow_X2_doHelp
theorem dX3_judgedRow_0 : decode cX3_judgedRow 0 = .ok (.iconst 0, 1) := by decide +kernel
theorem dX3_judgedRow_1 : decode cX3_judgedRow 1 = .ok (.istore_n 2, 1) := by decide +kernel
theorem dX3_judgedRow_2 : decode cX3_judgedRow 2 = .ok (.iconst 0, 1) := by decide +kernel
theorem dX3_judgedRow_3 : decode cX3_judgedRow 3 = .ok (.istore_n 3, 1) := by decide +kernel
theorem dX3_judgedRow_4 : decode cX3_judgedRow 4 = .ok (.iload_n 3, 1) := by decide +kernel
theorem dX3_judgedRow_5 : decode cX3_judgedRow 5 = .ok (.aload_n 1, 1) := by decide +kernel
theorem dX3_judgedRow_6 : decode cX3_judgedRow 6 = .ok (.getfield 199, 3) := by decide +kernel
theorem dX3_judgedRow_9 : decode cX3_judgedRow 9 = .ok (.if_icmp .ge 91, 3) := by decide +kernel
theorem dX3_judgedRow_12 : decode cX3_judgedRow 12 = .ok (.aload_n 1, 1) := by decide +kernel
theorem dX3_judgedRow_13 : decode cX3_judgedRow 13 = .ok (.iload_n 3, 1) := by decide +kernel
theorem dX3_judgedRow_14 : decode cX3_judgedRow 14 = .ok (.invokevirtual 220, 3) := by decide +kernel
theorem dX3_judgedRow_17 : decode cX3_judgedRow 17 = .ok (.ifCond .eq 11, 3) := by decide +kernel
theorem dX3_judgedRow_20 : decode cX3_judgedRow 20 = .ok (.aload_n 1, 1) := by decide +kernel
theorem dX3_judgedRow_21 : decode cX3_judgedRow 21 = .ok (.iload_n 3, 1) := by decide +kernel
theorem dX3_judgedRow_22 : decode cX3_judgedRow 22 = .ok (.invokevirtual 83, 3) := by decide +kernel
theorem dX3_judgedRow_25 : decode cX3_judgedRow 25 = .ok (.goto 4, 3) := by decide +kernel
theorem dX3_judgedRow_28 : decode cX3_judgedRow 28 = .ok (.iconst 0, 1) := by decide +kernel
theorem dX3_judgedRow_29 : decode cX3_judgedRow 29 = .ok (.istore 4, 2) := by decide +kernel
theorem dX3_judgedRow_31 : decode cX3_judgedRow 31 = .ok (.iconst 0, 1) := by decide +kernel
theorem dX3_judgedRow_32 : decode cX3_judgedRow 32 = .ok (.istore 5, 2) := by decide +kernel
theorem dX3_judgedRow_34 : decode cX3_judgedRow 34 = .ok (.iload 5, 2) := by decide +kernel
theorem dX3_judgedRow_36 : decode cX3_judgedRow 36 = .ok (.iload 4, 2) := by decide +kernel
theorem dX3_judgedRow_38 : decode cX3_judgedRow 38 = .ok (.if_icmp .ge 56, 3) := by decide +kernel
theorem dX3_judgedRow_41 : decode cX3_judgedRow 41 = .ok (.iload_n 2, 1) := by decide +kernel
theorem dX3_judgedRow_42 : decode cX3_judgedRow 42 = .ok (.aload_n 0, 1) := by decide +kernel
theorem dX3_judgedRow_43 : decode cX3_judgedRow 43 = .ok (.getfield 189, 3) := by decide +kernel
theorem dX3_judgedRow_46 : decode cX3_judgedRow 46 = .ok (.if_icmp .ge 26, 3) := by decide +kernel
theorem dX3_judgedRow_49 : decode cX3_judgedRow 49 = .ok (.iload_n 2, 1) := by decide +kernel
theorem dX3_judgedRow_50 : decode cX3_judgedRow 50 = .ok (.aload_n 0, 1) := by decide +kernel
theorem dX3_judgedRow_51 : decode cX3_judgedRow 51 = .ok (.getfield 36, 3) := by decide +kernel
theorem dX3_judgedRow_54 : decode cX3_judgedRow 54 = .ok (.arraylength, 1) := by decide +kernel
theorem dX3_judgedRow_55 : decode cX3_judgedRow 55 = .ok (.if_icmp .ge 17, 3) := by decide +kernel
theorem dX3_judgedRow_58 : decode cX3_judgedRow 58 = .ok (.aload_n 1, 1) := by decide +kernel
theorem dX3_judgedRow_59 : decode cX3_judgedRow 59 = .ok (.aload_n 0, 1) := by decide +kernel
theorem dX3_judgedRow_60 : decode cX3_judgedRow 60 = .ok (.getfield 36, 3) := by decide +kernel
theorem dX3_judgedRow_63 : decode cX3_judgedRow 63 = .ok (.iload_n 2, 1) := by decide +kernel
theorem dX3_judgedRow_64 : decode cX3_judgedRow 64 = .ok (.iaload, 1) := by decide +kernel
theorem dX3_judgedRow_65 : decode cX3_judgedRow 65 = .ok (.iload_n 3, 1) := by decide +kernel
theorem dX3_judgedRow_66 : decode cX3_judgedRow 66 = .ok (.invokevirtual 115, 3) := by decide +kernel
theorem dX3_judgedRow_69 : decode cX3_judgedRow 69 = .ok (.ifCond .ne 5, 3) := by decide +kernel
theorem dX3_judgedRow_72 : decode cX3_judgedRow 72 = .ok (.iload_n 2, 1) := by decide +kernel
theorem dX3_judgedRow_73 : decode cX3_judgedRow 73 = .ok (.ireturn, 1) := by decide +kernel
theorem dX3_judgedRow_74 : decode cX3_judgedRow 74 = .ok (.aload_n 1, 1) := by decide +kernel
theorem dX3_judgedRow_75 : decode cX3_judgedRow 75 = .ok (.aload_n 0, 1) := by decide +kernel
theorem dX3_judgedRow_76 : decode cX3_judgedRow 76 = .ok (.getfield 36, 3) := by decide +kernel
theorem dX3_judgedRow_79 : decode cX3_judgedRow 79 = .ok (.iload_n 2, 1) := by decide +kernel
theorem dX3_judgedRow_80 : decode cX3_judgedRow 80 = .ok (.iaload, 1) := by decide +kernel
theorem dX3_judgedRow_81 : decode cX3_judgedRow 81 = .ok (.iload_n 3, 1) := by decide +kernel
theorem dX3_judgedRow_82 : decode cX3_judgedRow 82 = .ok (.invokevirtual 121, 3) := by decide +kernel
theorem dX3_judgedRow_85 : decode cX3_judgedRow 85 = .ok (.iinc 2 1, 3) := by decide +kernel
theorem dX3_judgedRow_88 : decode cX3_judgedRow 88 = .ok (.iinc 5 1, 3) := by decide +kernel
theorem dX3_judgedRow_91 : decode cX3_judgedRow 91 = .ok (.goto (-57), 3) := by decide +kernel
theorem dX3_judgedRow_94 : decode cX3_judgedRow 94 = .ok (.iinc 3 1, 3) := by decide +kernel
theorem dX3_judgedRow_97 : decode cX3_judgedRow 97 = .ok (.goto (-93), 3) := by decide +kernel
theorem dX3_judgedRow_100 : decode cX3_judgedRow 100 = .ok (.iload_n 2, 1) := by decide +kernel
theorem dX3_judgedRow_101 : decode cX3_judgedRow 101 = .ok (.aload_n 0, 1) := by decide +kernel
theorem dX3_judgedRow_102 : decode cX3_judgedRow 102 = .ok (.getfield 189, 3) := by decide +kernel
theorem dX3_judgedRow_105 : decode cX3_judgedRow 105 = .ok (.if_icmp .ge 7, 3) := by decide +kernel
theorem dX3_judgedRow_108 : decode cX3_judgedRow 108 = .ok (.iload_n 2, 1) := by decide +kernel
theorem dX3_judgedRow_109 : decode cX3_judgedRow 109 = .ok (.goto 5, 3) := by decide +kernel
theorem dX3_judgedRow_112 : decode cX3_judgedRow 112 = .ok (.bipush (-9), 2) := by decide +kernel
theorem dX3_judgedRow_114 : decode cX3_judgedRow 114 = .ok (.ireturn, 1) := by decide +kernel
