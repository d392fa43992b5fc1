theorem dX2_init_0 : decode cX2_init 0 = .ok (.aload_n 0, 1) := by decide +kernel
theorem dX2_init_1 : decode cX2_init 1 = .ok (.invokespecial 3, 3) := by decide +kernel
theorem dX2_init_4 : decode cX2_init 4 = .ok (.aload_n 0, 1) := by decide +kernel
theorem dX2_init_5 : decode cX2_init 5 = .ok (.bipush 42, 2) := by decide +kernel
theorem dX2_init_7 : decode cX2_init 7 = .ok (.newarray .int, 2) := by decide +kernel
theorem dX2_init_9 : decode cX2_init 9 = .ok (.putfield 9, 3) := by decide +kernel
theorem dX2_init_12 : decode cX2_init 12 = .ok (.aload_n 0, 1) := by decide +kernel
theorem dX2_init_13 : decode cX2_init 13 = .ok (.bipush 72, 2) := by decide +kernel
theorem dX2_init_15 : decode cX2_init 15 = .ok (.newarray .int, 2) := by decide +kernel
theorem dX2_init_17 : decode cX2_init 17 = .ok (.putfield 15, 3) := by decide +kernel
theorem dX2_init_20 : decode cX2_init 20 = .ok (.aload_n 0, 1) := by decide +kernel
theorem dX2_init_21 : decode cX2_init 21 = .ok (.sipush 1350, 3) := by decide +kernel
theorem dX2_init_24 : decode cX2_init 24 = .ok (.newarray .int, 2) := by decide +kernel
theorem dX2_init_26 : decode cX2_init 26 = .ok (.putfield 18, 3) := by decide +kernel
theorem dX2_init_29 : decode cX2_init 29 = .ok (.aload_n 0, 1) := by decide +kernel
theorem dX2_init_30 : decode cX2_init 30 = .ok (.iconst 4, 1) := by decide +kernel
theorem dX2_init_31 : decode cX2_init 31 = .ok (.newarray .int, 2) := by decide +kernel
theorem dX2_init_33 : decode cX2_init 33 = .ok (.dup, 1) := by decide +kernel
theorem dX2_init_34 : decode cX2_init 34 = .ok (.iconst 0, 1) := by decide +kernel
theorem dX2_init_35 : decode cX2_init 35 = .ok (.iconst 0, 1) := by decide +kernel
theorem dX2_init_36 : decode cX2_init 36 = .ok (.iastore, 1) := by decide +kernel
theorem dX2_init_37 : decode cX2_init 37 = .ok (.dup, 1) := by decide +kernel
theorem dX2_init_38 : decode cX2_init 38 = .ok (.iconst 1, 1) := by decide +kernel
theorem dX2_init_39 : decode cX2_init 39 = .ok (.iconst 3, 1) := by decide +kernel
theorem dX2_init_40 : decode cX2_init 40 = .ok (.iastore, 1) := by decide +kernel
theorem dX2_init_41 : decode cX2_init 41 = .ok (.dup, 1) := by decide +kernel
theorem dX2_init_42 : decode cX2_init 42 = .ok (.iconst 2, 1) := by decide +kernel
theorem dX2_init_43 : decode cX2_init 43 = .ok (.iconst 3, 1) := by decide +kernel
theorem dX2_init_44 : decode cX2_init 44 = .ok (.iastore, 1) := by decide +kernel
theorem dX2_init_45 : decode cX2_init 45 = .ok (.dup, 1) := by decide +kernel
theorem dX2_init_46 : decode cX2_init 46 = .ok (.iconst 3, 1) := by decide +kernel
theorem dX2_init_47 : decode cX2_init 47 = .ok (.iconst 0, 1) := by decide +kernel
theorem dX2_init_48 : decode cX2_init 48 = .ok (.iastore, 1) := by decide +kernel
theorem dX2_init_49 : decode cX2_init 49 = .ok (.putfield 21, 3) := by decide +kernel
theorem dX2_init_52 : decode cX2_init 52 = .ok (.return_, 1) := by decide +kernel
theorem dX2_copyFrom_0 : decode cX2_copyFrom 0 = .ok (.aload_n 1, 1) := by decide +kernel
theorem dX2_copyFrom_1 : decode cX2_copyFrom 1 = .ok (.getfield 9, 3) := by decide +kernel
theorem dX2_copyFrom_4 : decode cX2_copyFrom 4 = .ok (.iconst 0, 1) := by decide +kernel
theorem dX2_copyFrom_5 : decode cX2_copyFrom 5 = .ok (.aload_n 0, 1) := by decide +kernel
theorem dX2_copyFrom_6 : decode cX2_copyFrom 6 = .ok (.getfield 9, 3) := by decide +kernel
theorem dX2_copyFrom_9 : decode cX2_copyFrom 9 = .ok (.iconst 0, 1) := by decide +kernel
theorem dX2_copyFrom_10 : decode cX2_copyFrom 10 = .ok (.aload_n 0, 1) := by decide +kernel
theorem dX2_copyFrom_11 : decode cX2_copyFrom 11 = .ok (.getfield 9, 3) := by decide +kernel
theorem dX2_copyFrom_14 : decode cX2_copyFrom 14 = .ok (.arraylength, 1) := by decide +kernel
theorem dX2_copyFrom_15 : decode cX2_copyFrom 15 = .ok (.invokestatic 24, 3) := by decide +kernel
theorem dX2_copyFrom_18 : decode cX2_copyFrom 18 = .ok (.aload_n 0, 1) := by decide +kernel
theorem dX2_copyFrom_19 : decode cX2_copyFrom 19 = .ok (.aload_n 1, 1) := by decide +kernel
theorem dX2_copyFrom_20 : decode cX2_copyFrom 20 = .ok (.getfield 30, 3) := by decide +kernel
theorem dX2_copyFrom_23 : decode cX2_copyFrom 23 = .ok (.putfield 30, 3) := by decide +kernel
theorem dX2_copyFrom_26 : decode cX2_copyFrom 26 = .ok (.aload_n 1, 1) := by decide +kernel
theorem dX2_copyFrom_27 : decode cX2_copyFrom 27 = .ok (.getfield 15, 3) := by decide +kernel
theorem dX2_copyFrom_30 : decode cX2_copyFrom 30 = .ok (.iconst 0, 1) := by decide +kernel
theorem dX2_copyFrom_31 : decode cX2_copyFrom 31 = .ok (.aload_n 0, 1) := by decide +kernel
theorem dX2_copyFrom_32 : decode cX2_copyFrom 32 = .ok (.getfield 15, 3) := by decide +kernel
theorem dX2_copyFrom_35 : decode cX2_copyFrom 35 = .ok (.iconst 0, 1) := by decide +kernel
theorem dX2_copyFrom_36 : decode cX2_copyFrom 36 = .ok (.aload_n 0, 1) := by decide +kernel
theorem dX2_copyFrom_37 : decode cX2_copyFrom 37 = .ok (.getfield 15, 3) := by decide +kernel
theorem dX2_copyFrom_40 : decode cX2_copyFrom 40 = .ok (.arraylength, 1) := by decide +kernel
theorem dX2_copyFrom_41 : decode cX2_copyFrom 41 = .ok (.invokestatic 24, 3) := by decide +kernel
theorem dX2_copyFrom_44 : decode cX2_copyFrom 44 = .ok (.aload_n 0, 1) := by decide +kernel
theorem dX2_copyFrom_45 : decode cX2_copyFrom 45 = .ok (.aload_n 1, 1) := by decide +kernel
theorem dX2_copyFrom_46 : decode cX2_copyFrom 46 = .ok (.getfield 34, 3) := by decide +kernel
theorem dX2_copyFrom_49 : decode cX2_copyFrom 49 = .ok (.putfield 34, 3) := by decide +kernel
theorem dX2_copyFrom_52 : decode cX2_copyFrom 52 = .ok (.iconst 0, 1) := by decide +kernel
theorem dX2_copyFrom_53 : decode cX2_copyFrom 53 = .ok (.aload_n 1, 1) := by decide +kernel
theorem dX2_copyFrom_54 : decode cX2_copyFrom 54 = .ok (.getfield 37, 3) := by decide +kernel
theorem dX2_copyFrom_57 : decode cX2_copyFrom 57 = .ok (.sipush 270, 3) := by decide +kernel
theorem dX2_copyFrom_60 : decode cX2_copyFrom 60 = .ok (.invokestatic 40, 3) := by decide +kernel
theorem dX2_copyFrom_63 : decode cX2_copyFrom 63 = .ok (.invokestatic 46, 3) := by decide +kernel
theorem dX2_copyFrom_66 : decode cX2_copyFrom 66 = .ok (.iconst 5, 1) := by decide +kernel
theorem dX2_copyFrom_67 : decode cX2_copyFrom 67 = .ok (.imul, 1) := by decide +kernel
theorem dX2_copyFrom_68 : decode cX2_copyFrom 68 = .ok (.istore_n 2, 1) := by decide +kernel
theorem dX2_copyFrom_69 : decode cX2_copyFrom 69 = .ok (.aload_n 1, 1) := by decide +kernel
theorem dX2_copyFrom_70 : decode cX2_copyFrom 70 = .ok (.getfield 18, 3) := by decide +kernel
theorem dX2_copyFrom_73 : decode cX2_copyFrom 73 = .ok (.iconst 0, 1) := by decide +kernel
theorem dX2_copyFrom_74 : decode cX2_copyFrom 74 = .ok (.aload_n 0, 1) := by decide +kernel
theorem dX2_copyFrom_75 : decode cX2_copyFrom 75 = .ok (.getfield 18, 3) := by decide +kernel
theorem dX2_copyFrom_78 : decode cX2_copyFrom 78 = .ok (.iconst 0, 1) := by decide +kernel
theorem dX2_copyFrom_79 : decode cX2_copyFrom 79 = .ok (.iload_n 2, 1) := by decide +kernel
theorem dX2_copyFrom_80 : decode cX2_copyFrom 80 = .ok (.invokestatic 24, 3) := by decide +kernel
theorem dX2_copyFrom_83 : decode cX2_copyFrom 83 = .ok (.aload_n 0, 1) := by decide +kernel
theorem dX2_copyFrom_84 : decode cX2_copyFrom 84 = .ok (.aload_n 1, 1) := by decide +kernel
theorem dX2_copyFrom_85 : decode cX2_copyFrom 85 = .ok (.getfield 37, 3) := by decide +kernel
theorem dX2_copyFrom_88 : decode cX2_copyFrom 88 = .ok (.putfield 37, 3) := by decide +kernel
theorem dX2_copyFrom_91 : decode cX2_copyFrom 91 = .ok (.aload_n 1, 1) := by decide +kernel
theorem dX2_copyFrom_92 : decode cX2_copyFrom 92 = .ok (.getfield 21, 3) := by decide +kernel
theorem dX2_copyFrom_95 : decode cX2_copyFrom 95 = .ok (.iconst 0, 1) := by decide +kernel
theorem dX2_copyFrom_96 : decode cX2_copyFrom 96 = .ok (.aload_n 0, 1) := by decide +kernel
theorem dX2_copyFrom_97 : decode cX2_copyFrom 97 = .ok (.getfield 21, 3) := by decide +kernel
theorem dX2_copyFrom_100 : decode cX2_copyFrom 100 = .ok (.iconst 0, 1) := by decide +kernel
theorem dX2_copyFrom_101 : decode cX2_copyFrom 101 = .ok (.aload_n 0, 1) := by decide +kernel
theorem dX2_copyFrom_102 : decode cX2_copyFrom 102 = .ok (.getfield 21, 3) := by decide +kernel
theorem dX2_copyFrom_105 : decode cX2_copyFrom 105 = .ok (.arraylength, 1) := by decide +kernel
theorem dX2_copyFrom_106 : decode cX2_copyFrom 106 = .ok (.invokestatic 24, 3) := by decide +kernel
theorem dX2_copyFrom_109 : decode cX2_copyFrom 109 = .ok (.aload_n 0, 1) := by decide +kernel
theorem dX2_copyFrom_110 : decode cX2_copyFrom 110 = .ok (.aload_n 1, 1) := by decide +kernel
theorem dX2_copyFrom_111 : decode cX2_copyFrom 111 = .ok (.getfield 49, 3) := by decide +kernel
theorem dX2_copyFrom_114 : decode cX2_copyFrom 114 = .ok (.putfield 49, 3) := by decide +kernel
theorem dX2_copyFrom_117 : decode cX2_copyFrom 117 = .ok (.return_, 1) := by decide +kernel
theorem dX2_hasPerson_0 : decode cX2_hasPerson 0 = .ok (.iload_n 1, 1) := by decide +kernel
theorem dX2_hasPerson_1 : decode cX2_hasPerson 1 = .ok (.ifCond .lt 15, 3) := by decide +kernel
theorem dX2_hasPerson_4 : decode cX2_hasPerson 4 = .ok (.iload_n 1, 1) := by decide +kernel
theorem dX2_hasPerson_5 : decode cX2_hasPerson 5 = .ok (.aload_n 0, 1) := by decide +kernel
theorem dX2_hasPerson_6 : decode cX2_hasPerson 6 = .ok (.getfield 30, 3) := by decide +kernel
theorem dX2_hasPerson_9 : decode cX2_hasPerson 9 = .ok (.if_icmp .ge 7, 3) := by decide +kernel
theorem dX2_hasPerson_12 : decode cX2_hasPerson 12 = .ok (.iconst 1, 1) := by decide +kernel
theorem dX2_hasPerson_13 : decode cX2_hasPerson 13 = .ok (.goto 4, 3) := by decide +kernel
theorem dX2_hasPerson_16 : decode cX2_hasPerson 16 = .ok (.iconst 0, 1) := by decide +kernel
theorem dX2_hasPerson_17 : decode cX2_hasPerson 17 = .ok (.ireturn, 1) := by decide +kernel
theorem dX2_hasNeed_0 : decode cX2_hasNeed 0 = .ok (.iload_n 1, 1) := by decide +kernel
theorem dX2_hasNeed_1 : decode cX2_hasNeed 1 = .ok (.ifCond .lt 15, 3) := by decide +kernel
theorem dX2_hasNeed_4 : decode cX2_hasNeed 4 = .ok (.iload_n 1, 1) := by decide +kernel
theorem dX2_hasNeed_5 : decode cX2_hasNeed 5 = .ok (.aload_n 0, 1) := by decide +kernel
theorem dX2_hasNeed_6 : decode cX2_hasNeed 6 = .ok (.getfield 34, 3) := by decide +kernel
theorem dX2_hasNeed_9 : decode cX2_hasNeed 9 = .ok (.if_icmp .ge 7, 3) := by decide +kernel
theorem dX2_hasNeed_12 : decode cX2_hasNeed 12 = .ok (.iconst 1, 1) := by decide +kernel
theorem dX2_hasNeed_13 : decode cX2_hasNeed 13 = .ok (.goto 4, 3) := by decide +kernel
theorem dX2_hasNeed_16 : decode cX2_hasNeed 16 = .ok (.iconst 0, 1) := by decide +kernel
theorem dX2_hasNeed_17 : decode cX2_hasNeed 17 = .ok (.ireturn, 1) := by decide +kernel
theorem dX2_ofPerson_0 : decode cX2_ofPerson 0 = .ok (.iload_n 1, 1) := by decide +kernel
theorem dX2_ofPerson_1 : decode cX2_ofPerson 1 = .ok (.ifCond .lt 19, 3) := by decide +kernel
theorem dX2_ofPerson_4 : decode cX2_ofPerson 4 = .ok (.iload_n 1, 1) := by decide +kernel
theorem dX2_ofPerson_5 : decode cX2_ofPerson 5 = .ok (.bipush 7, 2) := by decide +kernel
theorem dX2_ofPerson_7 : decode cX2_ofPerson 7 = .ok (.if_icmp .ge 13, 3) := by decide +kernel
theorem dX2_ofPerson_10 : decode cX2_ofPerson 10 = .ok (.iload_n 2, 1) := by decide +kernel
theorem dX2_ofPerson_11 : decode cX2_ofPerson 11 = .ok (.ifCond .lt 9, 3) := by decide +kernel
theorem dX2_ofPerson_14 : decode cX2_ofPerson 14 = .ok (.iload_n 2, 1) := by decide +kernel
theorem dX2_ofPerson_15 : decode cX2_ofPerson 15 = .ok (.bipush 6, 2) := by decide +kernel
theorem dX2_ofPerson_17 : decode cX2_ofPerson 17 = .ok (.if_icmp .lt 5, 3) := by decide +kernel
theorem dX2_ofPerson_20 : decode cX2_ofPerson 20 = .ok (.iconst 0, 1) := by decide +kernel
theorem dX2_ofPerson_21 : decode cX2_ofPerson 21 = .ok (.ireturn, 1) := by decide +kernel
theorem dX2_ofPerson_22 : decode cX2_ofPerson 22 = .ok (.aload_n 0, 1) := by decide +kernel
theorem dX2_ofPerson_23 : decode cX2_ofPerson 23 = .ok (.getfield 9, 3) := by decide +kernel
theorem dX2_ofPerson_26 : decode cX2_ofPerson 26 = .ok (.iload_n 1, 1) := by decide +kernel
theorem dX2_ofPerson_27 : decode cX2_ofPerson 27 = .ok (.bipush 6, 2) := by decide +kernel
theorem dX2_ofPerson_29 : decode cX2_ofPerson 29 = .ok (.imul, 1) := by decide +kernel
theorem dX2_ofPerson_30 : decode cX2_ofPerson 30 = .ok (.iload_n 2, 1) := by decide +kernel
theorem dX2_ofPerson_31 : decode cX2_ofPerson 31 = .ok (.iadd, 1) := by decide +kernel
theorem dX2_ofPerson_32 : decode cX2_ofPerson 32 = .ok (.iaload, 1) := by decide +kernel
theorem dX2_ofPerson_33 : decode cX2_ofPerson 33 = .ok (.ireturn, 1) := by decide +kernel
theorem dX2_putPerson_0 : decode cX2_putPerson 0 = .ok (.iload_n 1, 1) := by decide +kernel
theorem dX2_putPerson_1 : decode cX2_putPerson 1 = .ok (.ifCond .lt 31, 3) := by decide +kernel
theorem dX2_putPerson_4 : decode cX2_putPerson 4 = .ok (.iload_n 1, 1) := by decide +kernel
theorem dX2_putPerson_5 : decode cX2_putPerson 5 = .ok (.bipush 7, 2) := by decide +kernel
theorem dX2_putPerson_7 : decode cX2_putPerson 7 = .ok (.if_icmp .ge 25, 3) := by decide +kernel
theorem dX2_putPerson_10 : decode cX2_putPerson 10 = .ok (.iload_n 2, 1) := by decide +kernel
theorem dX2_putPerson_11 : decode cX2_putPerson 11 = .ok (.ifCond .lt 21, 3) := by decide +kernel
theorem dX2_putPerson_14 : decode cX2_putPerson 14 = .ok (.iload_n 2, 1) := by decide +kernel
theorem dX2_putPerson_15 : decode cX2_putPerson 15 = .ok (.bipush 6, 2) := by decide +kernel
theorem dX2_putPerson_17 : decode cX2_putPerson 17 = .ok (.if_icmp .ge 15, 3) := by decide +kernel
theorem dX2_putPerson_20 : decode cX2_putPerson 20 = .ok (.aload_n 0, 1) := by decide +kernel
theorem dX2_putPerson_21 : decode cX2_putPerson 21 = .ok (.getfield 9, 3) := by decide +kernel
theorem dX2_putPerson_24 : decode cX2_putPerson 24 = .ok (.iload_n 1, 1) := by decide +kernel
theorem dX2_putPerson_25 : decode cX2_putPerson 25 = .ok (.bipush 6, 2) := by decide +kernel
theorem dX2_putPerson_27 : decode cX2_putPerson 27 = .ok (.imul, 1) := by decide +kernel
theorem dX2_putPerson_28 : decode cX2_putPerson 28 = .ok (.iload_n 2, 1) := by decide +kernel
theorem dX2_putPerson_29 : decode cX2_putPerson 29 = .ok (.iadd, 1) := by decide +kernel
theorem dX2_putPerson_30 : decode cX2_putPerson 30 = .ok (.iload_n 3, 1) := by decide +kernel
theorem dX2_putPerson_31 : decode cX2_putPerson 31 = .ok (.iastore, 1) := by decide +kernel
theorem dX2_putPerson_32 : decode cX2_putPerson 32 = .ok (.return_, 1) := by decide +kernel
theorem dX2_ofNeed_0 : decode cX2_ofNeed 0 = .ok (.iload_n 1, 1) := by decide +kernel
theorem dX2_ofNeed_1 : decode cX2_ofNeed 1 = .ok (.ifCond .lt 19, 3) := by decide +kernel
theorem dX2_ofNeed_4 : decode cX2_ofNeed 4 = .ok (.iload_n 1, 1) := by decide +kernel
theorem dX2_ofNeed_5 : decode cX2_ofNeed 5 = .ok (.bipush 12, 2) := by decide +kernel
theorem dX2_ofNeed_7 : decode cX2_ofNeed 7 = .ok (.if_icmp .ge 13, 3) := by decide +kernel
theorem dX2_ofNeed_10 : decode cX2_ofNeed 10 = .ok (.iload_n 2, 1) := by decide +kernel
theorem dX2_ofNeed_11 : decode cX2_ofNeed 11 = .ok (.ifCond .lt 9, 3) := by decide +kernel
theorem dX2_ofNeed_14 : decode cX2_ofNeed 14 = .ok (.iload_n 2, 1) := by decide +kernel
theorem dX2_ofNeed_15 : decode cX2_ofNeed 15 = .ok (.bipush 6, 2) := by decide +kernel
theorem dX2_ofNeed_17 : decode cX2_ofNeed 17 = .ok (.if_icmp .lt 5, 3) := by decide +kernel
theorem dX2_ofNeed_20 : decode cX2_ofNeed 20 = .ok (.iconst 0, 1) := by decide +kernel
theorem dX2_ofNeed_21 : decode cX2_ofNeed 21 = .ok (.ireturn, 1) := by decide +kernel
theorem dX2_ofNeed_22 : decode cX2_ofNeed 22 = .ok (.aload_n 0, 1) := by decide +kernel
theorem dX2_ofNeed_23 : decode cX2_ofNeed 23 = .ok (.getfield 15, 3) := by decide +kernel
theorem dX2_ofNeed_26 : decode cX2_ofNeed 26 = .ok (.iload_n 1, 1) := by decide +kernel
theorem dX2_ofNeed_27 : decode cX2_ofNeed 27 = .ok (.bipush 6, 2) := by decide +kernel
theorem dX2_ofNeed_29 : decode cX2_ofNeed 29 = .ok (.imul, 1) := by decide +kernel
theorem dX2_ofNeed_30 : decode cX2_ofNeed 30 = .ok (.iload_n 2, 1) := by decide +kernel
theorem dX2_ofNeed_31 : decode cX2_ofNeed 31 = .ok (.iadd, 1) := by decide +kernel
theorem dX2_ofNeed_32 : decode cX2_ofNeed 32 = .ok (.iaload, 1) := by decide +kernel
theorem dX2_ofNeed_33 : decode cX2_ofNeed 33 = .ok (.ireturn, 1) := by decide +kernel
theorem dX2_putNeed_0 : decode cX2_putNeed 0 = .ok (.iload_n 1, 1) := by decide +kernel
theorem dX2_putNeed_1 : decode cX2_putNeed 1 = .ok (.ifCond .lt 31, 3) := by decide +kernel
theorem dX2_putNeed_4 : decode cX2_putNeed 4 = .ok (.iload_n 1, 1) := by decide +kernel
theorem dX2_putNeed_5 : decode cX2_putNeed 5 = .ok (.bipush 12, 2) := by decide +kernel
theorem dX2_putNeed_7 : decode cX2_putNeed 7 = .ok (.if_icmp .ge 25, 3) := by decide +kernel
theorem dX2_putNeed_10 : decode cX2_putNeed 10 = .ok (.iload_n 2, 1) := by decide +kernel
theorem dX2_putNeed_11 : decode cX2_putNeed 11 = .ok (.ifCond .lt 21, 3) := by decide +kernel
theorem dX2_putNeed_14 : decode cX2_putNeed 14 = .ok (.iload_n 2, 1) := by decide +kernel
theorem dX2_putNeed_15 : decode cX2_putNeed 15 = .ok (.bipush 6, 2) := by decide +kernel
theorem dX2_putNeed_17 : decode cX2_putNeed 17 = .ok (.if_icmp .ge 15, 3) := by decide +kernel
theorem dX2_putNeed_20 : decode cX2_putNeed 20 = .ok (.aload_n 0, 1) := by decide +kernel
theorem dX2_putNeed_21 : decode cX2_putNeed 21 = .ok (.getfield 15, 3) := by decide +kernel
theorem dX2_putNeed_24 : decode cX2_putNeed 24 = .ok (.iload_n 1, 1) := by decide +kernel
theorem dX2_putNeed_25 : decode cX2_putNeed 25 = .ok (.bipush 6, 2) := by decide +kernel
theorem dX2_putNeed_27 : decode cX2_putNeed 27 = .ok (.imul, 1) := by decide +kernel
theorem dX2_putNeed_28 : decode cX2_putNeed 28 = .ok (.iload_n 2, 1) := by decide +kernel
theorem dX2_putNeed_29 : decode cX2_putNeed 29 = .ok (.iadd, 1) := by decide +kernel
theorem dX2_putNeed_30 : decode cX2_putNeed 30 = .ok (.iload_n 3, 1) := by decide +kernel
theorem dX2_putNeed_31 : decode cX2_putNeed 31 = .ok (.iastore, 1) := by decide +kernel
theorem dX2_putNeed_32 : decode cX2_putNeed 32 = .ok (.return_, 1) := by decide +kernel
theorem dX2_setting_0 : decode cX2_setting 0 = .ok (.iload_n 1, 1) := by decide +kernel
theorem dX2_setting_1 : decode cX2_setting 1 = .ok (.ifCond .lt 21, 3) := by decide +kernel
theorem dX2_setting_4 : decode cX2_setting 4 = .ok (.iload_n 1, 1) := by decide +kernel
theorem dX2_setting_5 : decode cX2_setting 5 = .ok (.aload_n 0, 1) := by decide +kernel
theorem dX2_setting_6 : decode cX2_setting 6 = .ok (.getfield 21, 3) := by decide +kernel
theorem dX2_setting_9 : decode cX2_setting 9 = .ok (.arraylength, 1) := by decide +kernel
theorem dX2_setting_10 : decode cX2_setting 10 = .ok (.if_icmp .ge 12, 3) := by decide +kernel
theorem dX2_setting_13 : decode cX2_setting 13 = .ok (.aload_n 0, 1) := by decide +kernel
theorem dX2_setting_14 : decode cX2_setting 14 = .ok (.getfield 21, 3) := by decide +kernel
theorem dX2_setting_17 : decode cX2_setting 17 = .ok (.iload_n 1, 1) := by decide +kernel
theorem dX2_setting_18 : decode cX2_setting 18 = .ok (.iaload, 1) := by decide +kernel
theorem dX2_setting_19 : decode cX2_setting 19 = .ok (.goto 4, 3) := by decide +kernel
theorem dX2_setting_22 : decode cX2_setting 22 = .ok (.iconst 0, 1) := by decide +kernel
theorem dX2_setting_23 : decode cX2_setting 23 = .ok (.ireturn, 1) := by decide +kernel
theorem dX2_settle_0 : decode cX2_settle 0 = .ok (.iload_n 1, 1) := by decide +kernel
theorem dX2_settle_1 : decode cX2_settle 1 = .ok (.ifCond .lt 19, 3) := by decide +kernel
theorem dX2_settle_4 : decode cX2_settle 4 = .ok (.iload_n 1, 1) := by decide +kernel
theorem dX2_settle_5 : decode cX2_settle 5 = .ok (.aload_n 0, 1) := by decide +kernel
theorem dX2_settle_6 : decode cX2_settle 6 = .ok (.getfield 21, 3) := by decide +kernel
theorem dX2_settle_9 : decode cX2_settle 9 = .ok (.arraylength, 1) := by decide +kernel
theorem dX2_settle_10 : decode cX2_settle 10 = .ok (.if_icmp .ge 10, 3) := by decide +kernel
theorem dX2_settle_13 : decode cX2_settle 13 = .ok (.aload_n 0, 1) := by decide +kernel
theorem dX2_settle_14 : decode cX2_settle 14 = .ok (.getfield 21, 3) := by decide +kernel
theorem dX2_settle_17 : decode cX2_settle 17 = .ok (.iload_n 1, 1) := by decide +kernel
theorem dX2_settle_18 : decode cX2_settle 18 = .ok (.iload_n 2, 1) := by decide +kernel
theorem dX2_settle_19 : decode cX2_settle 19 = .ok (.iastore, 1) := by decide +kernel
theorem dX2_settle_20 : decode cX2_settle 20 = .ok (.return_, 1) := by decide +kernel
set_option maxRecDepth 20000 in
theorem ggX2_putOnlyNeed_X2_putNeed : GoodIn wsX2_putOnlyNeed wsX2_putNeed := goodIn_r _ [7, 8, 9, 10, 11, 12, 13, 14, 15, 16] rfl (by decide +kernel)
set_option maxRecDepth 20000 in
theorem gX2_putOnlyNeed_X2_putNeed : GoodIn wsX2_putOnlyNeed (wsV RX2 52 RX2 yX2_putNeed wsX2_putNeed) := goodIn_app (goodIn_r _ [3, 4, 5, 6] rfl (by decide +kernel)) ggX2_putOnlyNeed_X2_putNeed
theorem dX2_putOnlyNeed_0 : decode cX2_putOnlyNeed 0 = .ok (.aload_n 0, 1) := by decide +kernel
theorem dX2_putOnlyNeed_1 : decode cX2_putOnlyNeed 1 = .ok (.iconst 1, 1) := by decide +kernel
theorem dX2_putOnlyNeed_2 : decode cX2_putOnlyNeed 2 = .ok (.putfield 34, 3) := by decide +kernel
theorem dX2_putOnlyNeed_5 : decode cX2_putOnlyNeed 5 = .ok (.aload_n 0, 1) := by decide +kernel
theorem dX2_putOnlyNeed_6 : decode cX2_putOnlyNeed 6 = .ok (.iconst 0, 1) := by decide +kernel
theorem dX2_putOnlyNeed_7 : decode cX2_putOnlyNeed 7 = .ok (.iconst 0, 1) := by decide +kernel
theorem dX2_putOnlyNeed_8 : decode cX2_putOnlyNeed 8 = .ok (.iload_n 1, 1) := by decide +kernel
theorem dX2_putOnlyNeed_9 : decode cX2_putOnlyNeed 9 = .ok (.invokevirtual 52, 3) := by decide +kernel
theorem dX2_putOnlyNeed_12 : decode cX2_putOnlyNeed 12 = .ok (.aload_n 0, 1) := by decide +kernel
theorem dX2_putOnlyNeed_13 : decode cX2_putOnlyNeed 13 = .ok (.iconst 0, 1) := by decide +kernel
theorem dX2_putOnlyNeed_14 : decode cX2_putOnlyNeed 14 = .ok (.iconst 1, 1) := by decide +kernel
theorem dX2_putOnlyNeed_15 : decode cX2_putOnlyNeed 15 = .ok (.iload_n 2, 1) := by decide +kernel
theorem dX2_putOnlyNeed_16 : decode cX2_putOnlyNeed 16 = .ok (.invokevirtual 52, 3) := by decide +kernel
theorem dX2_putOnlyNeed_19 : decode cX2_putOnlyNeed 19 = .ok (.aload_n 0, 1) := by decide +kernel
theorem dX2_putOnlyNeed_20 : decode cX2_putOnlyNeed 20 = .ok (.iconst 0, 1) := by decide +kernel
theorem dX2_putOnlyNeed_21 : decode cX2_putOnlyNeed 21 = .ok (.iconst 2, 1) := by decide +kernel
theorem dX2_putOnlyNeed_22 : decode cX2_putOnlyNeed 22 = .ok (.iload_n 3, 1) := by decide +kernel
theorem dX2_putOnlyNeed_23 : decode cX2_putOnlyNeed 23 = .ok (.invokevirtual 52, 3) := by decide +kernel
theorem dX2_putOnlyNeed_26 : decode cX2_putOnlyNeed 26 = .ok (.aload_n 0, 1) := by decide +kernel
theorem dX2_putOnlyNeed_27 : decode cX2_putOnlyNeed 27 = .ok (.iconst 0, 1) := by decide +kernel
theorem dX2_putOnlyNeed_28 : decode cX2_putOnlyNeed 28 = .ok (.iconst 3, 1) := by decide +kernel
theorem dX2_putOnlyNeed_29 : decode cX2_putOnlyNeed 29 = .ok (.iconst 1, 1) := by decide +kernel
theorem dX2_putOnlyNeed_30 : decode cX2_putOnlyNeed 30 = .ok (.invokevirtual 52, 3) := by decide +kernel
theorem dX2_putOnlyNeed_33 : decode cX2_putOnlyNeed 33 = .ok (.aload_n 0, 1) := by decide +kernel
theorem dX2_putOnlyNeed_34 : decode cX2_putOnlyNeed 34 = .ok (.iconst 0, 1) := by decide +kernel
theorem dX2_putOnlyNeed_35 : decode cX2_putOnlyNeed 35 = .ok (.iconst 4, 1) := by decide +kernel
theorem dX2_putOnlyNeed_36 : decode cX2_putOnlyNeed 36 = .ok (.aload_n 0, 1) := by decide +kernel
theorem dX2_putOnlyNeed_37 : decode cX2_putOnlyNeed 37 = .ok (.getfield 49, 3) := by decide +kernel
theorem dX2_putOnlyNeed_40 : decode cX2_putOnlyNeed 40 = .ok (.invokevirtual 52, 3) := by decide +kernel
theorem dX2_putOnlyNeed_43 : decode cX2_putOnlyNeed 43 = .ok (.aload_n 0, 1) := by decide +kernel
theorem dX2_putOnlyNeed_44 : decode cX2_putOnlyNeed 44 = .ok (.iconst 0, 1) := by decide +kernel
theorem dX2_putOnlyNeed_45 : decode cX2_putOnlyNeed 45 = .ok (.iconst 5, 1) := by decide +kernel
theorem dX2_putOnlyNeed_46 : decode cX2_putOnlyNeed 46 = .ok (.iconst 0, 1) := by decide +kernel
theorem dX2_putOnlyNeed_47 : decode cX2_putOnlyNeed 47 = .ok (.invokevirtual 52, 3) := by decide +kernel
theorem dX2_putOnlyNeed_50 : decode cX2_putOnlyNeed 50 = .ok (.return_, 1) := by decide +kernel
set_option maxRecDepth 20000 in
theorem ggX2_minutesBetween_X2_ofPerson : GoodIn wsX2_minutesBetween wsX2_ofPerson := goodIn_r _ [9, 10, 11, 12, 13, 14, 15, 16, 17, 18] rfl (by decide +kernel)
set_option maxRecDepth 20000 in
theorem gX2_minutesBetween_X2_ofPerson : GoodIn wsX2_minutesBetween (wsV RX2 56 RX2 yX2_ofPerson wsX2_ofPerson) := goodIn_app (goodIn_r _ [5, 6, 7, 8] rfl (by decide +kernel)) ggX2_minutesBetween_X2_ofPerson
theorem dX2_minutesBetween_0 : decode cX2_minutesBetween 0 = .ok (.aload_n 0, 1) := by decide +kernel
theorem dX2_minutesBetween_1 : decode cX2_minutesBetween 1 = .ok (.iload_n 1, 1) := by decide +kernel
theorem dX2_minutesBetween_2 : decode cX2_minutesBetween 2 = .ok (.iconst 1, 1) := by decide +kernel
theorem dX2_minutesBetween_3 : decode cX2_minutesBetween 3 = .ok (.invokevirtual 56, 3) := by decide +kernel
theorem dX2_minutesBetween_6 : decode cX2_minutesBetween 6 = .ok (.aload_n 0, 1) := by decide +kernel
theorem dX2_minutesBetween_7 : decode cX2_minutesBetween 7 = .ok (.iload_n 2, 1) := by decide +kernel
theorem dX2_minutesBetween_8 : decode cX2_minutesBetween 8 = .ok (.iconst 1, 1) := by decide +kernel
theorem dX2_minutesBetween_9 : decode cX2_minutesBetween 9 = .ok (.invokevirtual 56, 3) := by decide +kernel
theorem dX2_minutesBetween_12 : decode cX2_minutesBetween 12 = .ok (.isub, 1) := by decide +kernel
theorem dX2_minutesBetween_13 : decode cX2_minutesBetween 13 = .ok (.invokestatic 59, 3) := by decide +kernel
theorem dX2_minutesBetween_16 : decode cX2_minutesBetween 16 = .ok (.ireturn, 1) := by decide +kernel
set_option maxRecDepth 20000 in
theorem ggX2_isSpent_X2_ofPerson : GoodIn wsX2_isSpent wsX2_ofPerson := goodIn_r _ [8, 9, 15, 16, 17, 18, 19, 20, 21, 22] rfl (by decide +kernel)
set_option maxRecDepth 20000 in
theorem gX2_isSpent_X2_ofPerson : GoodIn wsX2_isSpent (wsV RX2 56 RX2 yX2_ofPerson wsX2_ofPerson) := goodIn_app (goodIn_r _ [4, 5, 6, 7] rfl (by decide +kernel)) ggX2_isSpent_X2_ofPerson
set_option maxRecDepth 20000 in
theorem ggX2_isSpent_X2_stillCounts : GoodIn wsX2_isSpent wsX2_stillCounts := goodIn_r _ [13, 3, 1, 14, 15, 16, 17, 18, 19, 20, 21, 22] rfl (by decide +kernel)
set_option maxRecDepth 20000 in
theorem gX2_isSpent_X2_stillCounts : GoodIn wsX2_isSpent (wsV RX2 63 RX2 yX2_stillCounts wsX2_stillCounts) := goodIn_app (goodIn_r _ [10, 11, 12, 7] rfl (by decide +kernel)) ggX2_isSpent_X2_stillCounts
theorem dX2_isSpent_0 : decode cX2_isSpent 0 = .ok (.aload_n 0, 1) := by decide +kernel
theorem dX2_isSpent_1 : decode cX2_isSpent 1 = .ok (.iload_n 1, 1) := by decide +kernel
theorem dX2_isSpent_2 : decode cX2_isSpent 2 = .ok (.iconst 0, 1) := by decide +kernel
theorem dX2_isSpent_3 : decode cX2_isSpent 3 = .ok (.invokevirtual 56, 3) := by decide +kernel
theorem dX2_isSpent_6 : decode cX2_isSpent 6 = .ok (.iconst 4, 1) := by decide +kernel
theorem dX2_isSpent_7 : decode cX2_isSpent 7 = .ok (.if_icmp .ne 5, 3) := by decide +kernel
theorem dX2_isSpent_10 : decode cX2_isSpent 10 = .ok (.iconst 0, 1) := by decide +kernel
theorem dX2_isSpent_11 : decode cX2_isSpent 11 = .ok (.ireturn, 1) := by decide +kernel
theorem dX2_isSpent_12 : decode cX2_isSpent 12 = .ok (.aload_n 0, 1) := by decide +kernel
theorem dX2_isSpent_13 : decode cX2_isSpent 13 = .ok (.getfield 21, 3) := by decide +kernel
theorem dX2_isSpent_16 : decode cX2_isSpent 16 = .ok (.iconst 0, 1) := by decide +kernel
theorem dX2_isSpent_17 : decode cX2_isSpent 17 = .ok (.iaload, 1) := by decide +kernel
theorem dX2_isSpent_18 : decode cX2_isSpent 18 = .ok (.iconst 1, 1) := by decide +kernel
theorem dX2_isSpent_19 : decode cX2_isSpent 19 = .ok (.if_icmp .eq 7, 3) := by decide +kernel
theorem dX2_isSpent_22 : decode cX2_isSpent 22 = .ok (.iconst 1, 1) := by decide +kernel
theorem dX2_isSpent_23 : decode cX2_isSpent 23 = .ok (.goto 4, 3) := by decide +kernel
theorem dX2_isSpent_26 : decode cX2_isSpent 26 = .ok (.iconst 0, 1) := by decide +kernel
theorem dX2_isSpent_27 : decode cX2_isSpent 27 = .ok (.istore_n 3, 1) := by decide +kernel
theorem dX2_isSpent_28 : decode cX2_isSpent 28 = .ok (.iconst 0, 1) := by decide +kernel
theorem dX2_isSpent_29 : decode cX2_isSpent 29 = .ok (.istore 4, 2) := by decide +kernel
theorem dX2_isSpent_31 : decode cX2_isSpent 31 = .ok (.iload 4, 2) := by decide +kernel
theorem dX2_isSpent_33 : decode cX2_isSpent 33 = .ok (.aload_n 0, 1) := by decide +kernel
theorem dX2_isSpent_34 : decode cX2_isSpent 34 = .ok (.getfield 37, 3) := by decide +kernel
theorem dX2_isSpent_37 : decode cX2_isSpent 37 = .ok (.if_icmp .ge 96, 3) := by decide +kernel
theorem dX2_isSpent_40 : decode cX2_isSpent 40 = .ok (.iload 4, 2) := by decide +kernel
theorem dX2_isSpent_42 : decode cX2_isSpent 42 = .ok (.sipush 270, 3) := by decide +kernel
theorem dX2_isSpent_45 : decode cX2_isSpent 45 = .ok (.if_icmp .ge 88, 3) := by decide +kernel
theorem dX2_isSpent_48 : decode cX2_isSpent 48 = .ok (.iload 4, 2) := by decide +kernel
theorem dX2_isSpent_50 : decode cX2_isSpent 50 = .ok (.iconst 5, 1) := by decide +kernel
theorem dX2_isSpent_51 : decode cX2_isSpent 51 = .ok (.imul, 1) := by decide +kernel
theorem dX2_isSpent_52 : decode cX2_isSpent 52 = .ok (.istore 5, 2) := by decide +kernel
theorem dX2_isSpent_54 : decode cX2_isSpent 54 = .ok (.aload_n 0, 1) := by decide +kernel
theorem dX2_isSpent_55 : decode cX2_isSpent 55 = .ok (.getfield 18, 3) := by decide +kernel
theorem dX2_isSpent_58 : decode cX2_isSpent 58 = .ok (.iload 5, 2) := by decide +kernel
theorem dX2_isSpent_60 : decode cX2_isSpent 60 = .ok (.iconst 0, 1) := by decide +kernel
theorem dX2_isSpent_61 : decode cX2_isSpent 61 = .ok (.iadd, 1) := by decide +kernel
theorem dX2_isSpent_62 : decode cX2_isSpent 62 = .ok (.iaload, 1) := by decide +kernel
theorem dX2_isSpent_63 : decode cX2_isSpent 63 = .ok (.istore 6, 2) := by decide +kernel
theorem dX2_isSpent_65 : decode cX2_isSpent 65 = .ok (.aload_n 0, 1) := by decide +kernel
theorem dX2_isSpent_66 : decode cX2_isSpent 66 = .ok (.getfield 18, 3) := by decide +kernel
theorem dX2_isSpent_69 : decode cX2_isSpent 69 = .ok (.iload 5, 2) := by decide +kernel
theorem dX2_isSpent_71 : decode cX2_isSpent 71 = .ok (.iconst 1, 1) := by decide +kernel
theorem dX2_isSpent_72 : decode cX2_isSpent 72 = .ok (.iadd, 1) := by decide +kernel
theorem dX2_isSpent_73 : decode cX2_isSpent 73 = .ok (.iaload, 1) := by decide +kernel
theorem dX2_isSpent_74 : decode cX2_isSpent 74 = .ok (.istore 7, 2) := by decide +kernel
theorem dX2_isSpent_76 : decode cX2_isSpent 76 = .ok (.iload 6, 2) := by decide +kernel
theorem dX2_isSpent_78 : decode cX2_isSpent 78 = .ok (.iload_n 1, 1) := by decide +kernel
theorem dX2_isSpent_79 : decode cX2_isSpent 79 = .ok (.if_icmp .ne 9, 3) := by decide +kernel
theorem dX2_isSpent_82 : decode cX2_isSpent 82 = .ok (.iload 7, 2) := by decide +kernel
theorem dX2_isSpent_84 : decode cX2_isSpent 84 = .ok (.iload_n 2, 1) := by decide +kernel
theorem dX2_isSpent_85 : decode cX2_isSpent 85 = .ok (.if_icmp .eq 19, 3) := by decide +kernel
theorem dX2_isSpent_88 : decode cX2_isSpent 88 = .ok (.iload_n 3, 1) := by decide +kernel
theorem dX2_isSpent_89 : decode cX2_isSpent 89 = .ok (.ifCond .eq 19, 3) := by decide +kernel
theorem dX2_isSpent_92 : decode cX2_isSpent 92 = .ok (.iload 6, 2) := by decide +kernel
theorem dX2_isSpent_94 : decode cX2_isSpent 94 = .ok (.iload_n 2, 1) := by decide +kernel
theorem dX2_isSpent_95 : decode cX2_isSpent 95 = .ok (.if_icmp .ne 13, 3) := by decide +kernel
theorem dX2_isSpent_98 : decode cX2_isSpent 98 = .ok (.iload 7, 2) := by decide +kernel
theorem dX2_isSpent_100 : decode cX2_isSpent 100 = .ok (.iload_n 1, 1) := by decide +kernel
theorem dX2_isSpent_101 : decode cX2_isSpent 101 = .ok (.if_icmp .ne 7, 3) := by decide +kernel
theorem dX2_isSpent_104 : decode cX2_isSpent 104 = .ok (.iconst 1, 1) := by decide +kernel
theorem dX2_isSpent_105 : decode cX2_isSpent 105 = .ok (.goto 4, 3) := by decide +kernel
theorem dX2_isSpent_108 : decode cX2_isSpent 108 = .ok (.iconst 0, 1) := by decide +kernel
theorem dX2_isSpent_109 : decode cX2_isSpent 109 = .ok (.istore 8, 2) := by decide +kernel
theorem dX2_isSpent_111 : decode cX2_isSpent 111 = .ok (.iload 8, 2) := by decide +kernel
theorem dX2_isSpent_113 : decode cX2_isSpent 113 = .ok (.ifCond .eq 14, 3) := by decide +kernel
theorem dX2_isSpent_116 : decode cX2_isSpent 116 = .ok (.aload_n 0, 1) := by decide +kernel
theorem dX2_isSpent_117 : decode cX2_isSpent 117 = .ok (.iload 5, 2) := by decide +kernel
theorem dX2_isSpent_119 : decode cX2_isSpent 119 = .ok (.invokevirtual 63, 3) := by decide +kernel
theorem dX2_isSpent_122 : decode cX2_isSpent 122 = .ok (.ifCond .eq 5, 3) := by decide +kernel
theorem dX2_isSpent_125 : decode cX2_isSpent 125 = .ok (.iconst 1, 1) := by decide +kernel
theorem dX2_isSpent_126 : decode cX2_isSpent 126 = .ok (.ireturn, 1) := by decide +kernel
theorem dX2_isSpent_127 : decode cX2_isSpent 127 = .ok (.iinc 4 1, 3) := by decide +kernel
theorem dX2_isSpent_130 : decode cX2_isSpent 130 = .ok (.goto (-99), 3) := by decide +kernel
theorem dX2_isSpent_133 : decode cX2_isSpent 133 = .ok (.iconst 0, 1) := by decide +kernel
theorem dX2_isSpent_134 : decode cX2_isSpent 134 = .ok (.ireturn, 1) := by decide +kernel
theorem dX2_stillCounts_0 : decode cX2_stillCounts 0 = .ok (.iload_n 1, 1) := by decide +kernel
theorem dX2_stillCounts_1 : decode cX2_stillCounts 1 = .ok (.ifCond .lt 14, 3) := by decide +kernel
theorem dX2_stillCounts_4 : decode cX2_stillCounts 4 = .ok (.iload_n 1, 1) := by decide +kernel
theorem dX2_stillCounts_5 : decode cX2_stillCounts 5 = .ok (.iconst 5, 1) := by decide +kernel
theorem dX2_stillCounts_6 : decode cX2_stillCounts 6 = .ok (.iadd, 1) := by decide +kernel
theorem dX2_stillCounts_7 : decode cX2_stillCounts 7 = .ok (.aload_n 0, 1) := by decide +kernel
theorem dX2_stillCounts_8 : decode cX2_stillCounts 8 = .ok (.getfield 18, 3) := by decide +kernel
theorem dX2_stillCounts_11 : decode cX2_stillCounts 11 = .ok (.arraylength, 1) := by decide +kernel
theorem dX2_stillCounts_12 : decode cX2_stillCounts 12 = .ok (.if_icmp .le 5, 3) := by decide +kernel
theorem dX2_stillCounts_15 : decode cX2_stillCounts 15 = .ok (.iconst 0, 1) := by decide +kernel
theorem dX2_stillCounts_16 : decode cX2_stillCounts 16 = .ok (.ireturn, 1) := by decide +kernel
theorem dX2_stillCounts_17 : decode cX2_stillCounts 17 = .ok (.aload_n 0, 1) := by decide +kernel
theorem dX2_stillCounts_18 : decode cX2_stillCounts 18 = .ok (.getfield 21, 3) := by decide +kernel
theorem dX2_stillCounts_21 : decode cX2_stillCounts 21 = .ok (.iconst 0, 1) := by decide +kernel
theorem dX2_stillCounts_22 : decode cX2_stillCounts 22 = .ok (.iaload, 1) := by decide +kernel
theorem dX2_stillCounts_23 : decode cX2_stillCounts 23 = .ok (.iconst 2, 1) := by decide +kernel
theorem dX2_stillCounts_24 : decode cX2_stillCounts 24 = .ok (.if_icmp .ne 31, 3) := by decide +kernel
theorem dX2_stillCounts_27 : decode cX2_stillCounts 27 = .ok (.aload_n 0, 1) := by decide +kernel
theorem dX2_stillCounts_28 : decode cX2_stillCounts 28 = .ok (.getfield 49, 3) := by decide +kernel
theorem dX2_stillCounts_31 : decode cX2_stillCounts 31 = .ok (.aload_n 0, 1) := by decide +kernel
theorem dX2_stillCounts_32 : decode cX2_stillCounts 32 = .ok (.getfield 18, 3) := by decide +kernel
theorem dX2_stillCounts_35 : decode cX2_stillCounts 35 = .ok (.iload_n 1, 1) := by decide +kernel
theorem dX2_stillCounts_36 : decode cX2_stillCounts 36 = .ok (.iconst 2, 1) := by decide +kernel
theorem dX2_stillCounts_37 : decode cX2_stillCounts 37 = .ok (.iadd, 1) := by decide +kernel
theorem dX2_stillCounts_38 : decode cX2_stillCounts 38 = .ok (.iaload, 1) := by decide +kernel
theorem dX2_stillCounts_39 : decode cX2_stillCounts 39 = .ok (.isub, 1) := by decide +kernel
theorem dX2_stillCounts_40 : decode cX2_stillCounts 40 = .ok (.aload_n 0, 1) := by decide +kernel
theorem dX2_stillCounts_41 : decode cX2_stillCounts 41 = .ok (.getfield 21, 3) := by decide +kernel
theorem dX2_stillCounts_44 : decode cX2_stillCounts 44 = .ok (.iconst 1, 1) := by decide +kernel
theorem dX2_stillCounts_45 : decode cX2_stillCounts 45 = .ok (.iaload, 1) := by decide +kernel
theorem dX2_stillCounts_46 : decode cX2_stillCounts 46 = .ok (.if_icmp .ge 7, 3) := by decide +kernel
theorem dX2_stillCounts_49 : decode cX2_stillCounts 49 = .ok (.iconst 1, 1) := by decide +kernel
theorem dX2_stillCounts_50 : decode cX2_stillCounts 50 = .ok (.goto 4, 3) := by decide +kernel
theorem dX2_stillCounts_53 : decode cX2_stillCounts 53 = .ok (.iconst 0, 1) := by decide +kernel
theorem dX2_stillCounts_54 : decode cX2_stillCounts 54 = .ok (.ireturn, 1) := by decide +kernel
theorem dX2_stillCounts_55 : decode cX2_stillCounts 55 = .ok (.aload_n 0, 1) := by decide +kernel
theorem dX2_stillCounts_56 : decode cX2_stillCounts 56 = .ok (.getfield 21, 3) := by decide +kernel
theorem dX2_stillCounts_59 : decode cX2_stillCounts 59 = .ok (.iconst 0, 1) := by decide +kernel
theorem dX2_stillCounts_60 : decode cX2_stillCounts 60 = .ok (.iaload, 1) := by decide +kernel
theorem dX2_stillCounts_61 : decode cX2_stillCounts 61 = .ok (.iconst 3, 1) := by decide +kernel
theorem dX2_stillCounts_62 : decode cX2_stillCounts 62 = .ok (.if_icmp .ne 20, 3) := by decide +kernel
theorem dX2_stillCounts_65 : decode cX2_stillCounts 65 = .ok (.aload_n 0, 1) := by decide +kernel
theorem dX2_stillCounts_66 : decode cX2_stillCounts 66 = .ok (.getfield 18, 3) := by decide +kernel
theorem dX2_stillCounts_69 : decode cX2_stillCounts 69 = .ok (.iload_n 1, 1) := by decide +kernel
theorem dX2_stillCounts_70 : decode cX2_stillCounts 70 = .ok (.iconst 3, 1) := by decide +kernel
theorem dX2_stillCounts_71 : decode cX2_stillCounts 71 = .ok (.iadd, 1) := by decide +kernel
theorem dX2_stillCounts_72 : decode cX2_stillCounts 72 = .ok (.iaload, 1) := by decide +kernel
theorem dX2_stillCounts_73 : decode cX2_stillCounts 73 = .ok (.aload_n 0, 1) := by decide +kernel
theorem dX2_stillCounts_74 : decode cX2_stillCounts 74 = .ok (.getfield 21, 3) := by decide +kernel
theorem dX2_stillCounts_77 : decode cX2_stillCounts 77 = .ok (.iconst 2, 1) := by decide +kernel
theorem dX2_stillCounts_78 : decode cX2_stillCounts 78 = .ok (.iaload, 1) := by decide +kernel
theorem dX2_stillCounts_79 : decode cX2_stillCounts 79 = .ok (.if_icmp .lt 7, 3) := by decide +kernel
theorem dX2_stillCounts_82 : decode cX2_stillCounts 82 = .ok (.iconst 1, 1) := by decide +kernel
theorem dX2_stillCounts_83 : decode cX2_stillCounts 83 = .ok (.goto 4, 3) := by decide +kernel
theorem dX2_stillCounts_86 : decode cX2_stillCounts 86 = .ok (.iconst 0, 1) := by decide +kernel
theorem dX2_stillCounts_87 : decode cX2_stillCounts 87 = .ok (.ireturn, 1) := by decide +kernel
set_option maxRecDepth 20000 in
theorem ggX2_mayHelp_X2_hasPerson : GoodIn wsX2_mayHelp wsX2_hasPerson := goodIn_r _ [5, 6, 32, 33, 34, 35, 36, 37, 38, 39] rfl (by decide +kernel)
set_option maxRecDepth 20000 in
theorem gX2_mayHelp_X2_hasPerson : GoodIn wsX2_mayHelp (wsV RX2 67 RX2 yX2_hasPerson wsX2_hasPerson) := goodIn_app (goodIn_r _ [1, 2, 3, 4] rfl (by decide +kernel)) ggX2_mayHelp_X2_hasPerson
set_option maxRecDepth 20000 in
theorem ggX2_mayHelp_X2_isSpent : GoodIn wsX2_mayHelp wsX2_isSpent := goodIn_r _ [10, 11, 12, 13, 14, 15, 16, 4, 17, 18, 19, 20, 21, 22, 23, 32, 33, 34, 35, 36, 37, 38, 39] rfl (by decide +kernel)
set_option maxRecDepth 20000 in
theorem gX2_mayHelp_X2_isSpent : GoodIn wsX2_mayHelp (wsV RX2 70 RX2 yX2_isSpent wsX2_isSpent) := goodIn_app (goodIn_r _ [7, 8, 9, 4] rfl (by decide +kernel)) ggX2_mayHelp_X2_isSpent
set_option maxRecDepth 20000 in
theorem ggX2_mayHelp_X2_ofPerson : GoodIn wsX2_mayHelp wsX2_ofPerson := goodIn_r _ [17, 18, 32, 33, 34, 35, 36, 37, 38, 39] rfl (by decide +kernel)
set_option maxRecDepth 20000 in
theorem gX2_mayHelp_X2_ofPerson : GoodIn wsX2_mayHelp (wsV RX2 56 RX2 yX2_ofPerson wsX2_ofPerson) := goodIn_app (goodIn_r _ [14, 15, 16, 4] rfl (by decide +kernel)) ggX2_mayHelp_X2_ofPerson
set_option maxRecDepth 20000 in
theorem ggX2_mayHelp_X2_minutesBetween : GoodIn wsX2_mayHelp wsX2_minutesBetween := goodIn_r _ [27, 28, 29, 30, 31, 14, 15, 16, 4, 17, 18, 32, 33, 34, 35, 36, 37, 38, 39] rfl (by decide +kernel)
set_option maxRecDepth 20000 in
theorem gX2_mayHelp_X2_minutesBetween : GoodIn wsX2_mayHelp (wsV RX2 74 RX2 yX2_minutesBetween wsX2_minutesBetween) := goodIn_app (goodIn_r _ [24, 25, 26, 4] rfl (by decide +kernel)) ggX2_mayHelp_X2_minutesBetween
theorem dX2_mayHelp_0 : decode cX2_mayHelp 0 = .ok (.iload_n 1, 1) := by decide +kernel
theorem dX2_mayHelp_1 : decode cX2_mayHelp 1 = .ok (.iload_n 2, 1) := by decide +kernel
theorem dX2_mayHelp_2 : decode cX2_mayHelp 2 = .ok (.if_icmp .eq 28, 3) := by decide +kernel
theorem dX2_mayHelp_5 : decode cX2_mayHelp 5 = .ok (.aload_n 0, 1) := by decide +kernel
theorem dX2_mayHelp_6 : decode cX2_mayHelp 6 = .ok (.iload_n 1, 1) := by decide +kernel
theorem dX2_mayHelp_7 : decode cX2_mayHelp 7 = .ok (.invokevirtual 67, 3) := by decide +kernel
theorem dX2_mayHelp_10 : decode cX2_mayHelp 10 = .ok (.ifCond .eq 20, 3) := by decide +kernel
theorem dX2_mayHelp_13 : decode cX2_mayHelp 13 = .ok (.aload_n 0, 1) := by decide +kernel
theorem dX2_mayHelp_14 : decode cX2_mayHelp 14 = .ok (.iload_n 2, 1) := by decide +kernel
theorem dX2_mayHelp_15 : decode cX2_mayHelp 15 = .ok (.invokevirtual 67, 3) := by decide +kernel
theorem dX2_mayHelp_18 : decode cX2_mayHelp 18 = .ok (.ifCond .eq 12, 3) := by decide +kernel
theorem dX2_mayHelp_21 : decode cX2_mayHelp 21 = .ok (.aload_n 0, 1) := by decide +kernel
theorem dX2_mayHelp_22 : decode cX2_mayHelp 22 = .ok (.iload_n 1, 1) := by decide +kernel
theorem dX2_mayHelp_23 : decode cX2_mayHelp 23 = .ok (.iload_n 2, 1) := by decide +kernel
theorem dX2_mayHelp_24 : decode cX2_mayHelp 24 = .ok (.invokevirtual 70, 3) := by decide +kernel
theorem dX2_mayHelp_27 : decode cX2_mayHelp 27 = .ok (.ifCond .eq 5, 3) := by decide +kernel
theorem dX2_mayHelp_30 : decode cX2_mayHelp 30 = .ok (.iconst 0, 1) := by decide +kernel
theorem dX2_mayHelp_31 : decode cX2_mayHelp 31 = .ok (.ireturn, 1) := by decide +kernel
theorem dX2_mayHelp_32 : decode cX2_mayHelp 32 = .ok (.aload_n 0, 1) := by decide +kernel
theorem dX2_mayHelp_33 : decode cX2_mayHelp 33 = .ok (.iload_n 1, 1) := by decide +kernel
theorem dX2_mayHelp_34 : decode cX2_mayHelp 34 = .ok (.iconst 0, 1) := by decide +kernel
theorem dX2_mayHelp_35 : decode cX2_mayHelp 35 = .ok (.invokevirtual 56, 3) := by decide +kernel
theorem dX2_mayHelp_38 : decode cX2_mayHelp 38 = .ok (.bipush 6, 2) := by decide +kernel
theorem dX2_mayHelp_40 : decode cX2_mayHelp 40 = .ok (.if_icmp .ne 14, 3) := by decide +kernel
theorem dX2_mayHelp_43 : decode cX2_mayHelp 43 = .ok (.aload_n 0, 1) := by decide +kernel
theorem dX2_mayHelp_44 : decode cX2_mayHelp 44 = .ok (.iload_n 1, 1) := by decide +kernel
theorem dX2_mayHelp_45 : decode cX2_mayHelp 45 = .ok (.iload_n 2, 1) := by decide +kernel
theorem dX2_mayHelp_46 : decode cX2_mayHelp 46 = .ok (.invokevirtual 74, 3) := by decide +kernel
theorem dX2_mayHelp_49 : decode cX2_mayHelp 49 = .ok (.bipush 20, 2) := by decide +kernel
theorem dX2_mayHelp_51 : decode cX2_mayHelp 51 = .ok (.if_icmp .gt 7, 3) := by decide +kernel
theorem dX2_mayHelp_54 : decode cX2_mayHelp 54 = .ok (.iconst 1, 1) := by decide +kernel
theorem dX2_mayHelp_55 : decode cX2_mayHelp 55 = .ok (.goto 4, 3) := by decide +kernel
theorem dX2_mayHelp_58 : decode cX2_mayHelp 58 = .ok (.iconst 0, 1) := by decide +kernel
theorem dX2_mayHelp_59 : decode cX2_mayHelp 59 = .ok (.ireturn, 1) := by decide +kernel
set_option maxRecDepth 20000 in
theorem ggX2_handsLeft_X2_ofNeed : GoodIn wsX2_handsLeft wsX2_ofNeed := goodIn_r _ [5, 6, 14, 15, 16, 17, 18, 19, 20, 21] rfl (by decide +kernel)
set_option maxRecDepth 20000 in
theorem gX2_handsLeft_X2_ofNeed : GoodIn wsX2_handsLeft (wsV RX2 77 RX2 yX2_ofNeed wsX2_ofNeed) := goodIn_app (goodIn_r _ [1, 2, 3, 4] rfl (by decide +kernel)) ggX2_handsLeft_X2_ofNeed
set_option maxRecDepth 20000 in
theorem ggX2_handsLeft_J6_bitCount_0f7a4 : GoodIn wsX2_handsLeft wsJ6_bitCount_0f7a4 := goodIn_r _ [10, 11, 12, 13] rfl (by decide +kernel)
set_option maxRecDepth 20000 in
theorem gX2_handsLeft_J6_bitCount_0f7a4 : GoodIn wsX2_handsLeft (va_wsS RX2 80 yJ6_bitCount_0f7a4 wsJ6_bitCount_0f7a4) := goodIn_app (goodIn_r _ [7, 8, 9] rfl (by decide +kernel)) ggX2_handsLeft_J6_bitCount_0f7a4
theorem dX2_handsLeft_0 : decode cX2_handsLeft 0 = .ok (.aload_n 0, 1) := by decide +kernel
theorem dX2_handsLeft_1 : decode cX2_handsLeft 1 = .ok (.iload_n 1, 1) := by decide +kernel
theorem dX2_handsLeft_2 : decode cX2_handsLeft 2 = .ok (.iconst 3, 1) := by decide +kernel
theorem dX2_handsLeft_3 : decode cX2_handsLeft 3 = .ok (.invokevirtual 77, 3) := by decide +kernel
theorem dX2_handsLeft_6 : decode cX2_handsLeft 6 = .ok (.aload_n 0, 1) := by decide +kernel
theorem dX2_handsLeft_7 : decode cX2_handsLeft 7 = .ok (.iload_n 1, 1) := by decide +kernel
theorem dX2_handsLeft_8 : decode cX2_handsLeft 8 = .ok (.iconst 5, 1) := by decide +kernel
theorem dX2_handsLeft_9 : decode cX2_handsLeft 9 = .ok (.invokevirtual 77, 3) := by decide +kernel
theorem dX2_handsLeft_12 : decode cX2_handsLeft 12 = .ok (.invokestatic 80, 3) := by decide +kernel
theorem dX2_handsLeft_15 : decode cX2_handsLeft 15 = .ok (.isub, 1) := by decide +kernel
theorem dX2_handsLeft_16 : decode cX2_handsLeft 16 = .ok (.ireturn, 1) := by decide +kernel
set_option maxRecDepth 20000 in
theorem ggX2_isOpen_X2_hasNeed : GoodIn wsX2_isOpen wsX2_hasNeed := goodIn_r _ [6, 7, 24, 25, 26, 27, 28, 29, 30, 31] rfl (by decide +kernel)
set_option maxRecDepth 20000 in
theorem gX2_isOpen_X2_hasNeed : GoodIn wsX2_isOpen (wsV RX2 85 RX2 yX2_hasNeed wsX2_hasNeed) := goodIn_app (goodIn_r _ [2, 3, 4, 5] rfl (by decide +kernel)) ggX2_isOpen_X2_hasNeed
set_option maxRecDepth 20000 in
theorem ggX2_isOpen_X2_ofNeed : GoodIn wsX2_isOpen wsX2_ofNeed := goodIn_r _ [11, 12, 24, 25, 26, 27, 28, 29, 30, 31] rfl (by decide +kernel)
set_option maxRecDepth 20000 in
theorem gX2_isOpen_X2_ofNeed : GoodIn wsX2_isOpen (wsV RX2 77 RX2 yX2_ofNeed wsX2_ofNeed) := goodIn_app (goodIn_r _ [8, 9, 10, 5] rfl (by decide +kernel)) ggX2_isOpen_X2_ofNeed
set_option maxRecDepth 20000 in
theorem ggX2_isOpen_X2_handsLeft : GoodIn wsX2_isOpen wsX2_handsLeft := goodIn_r _ [16, 8, 9, 10, 5, 11, 12, 17, 18, 19, 20, 21, 22, 23, 24, 25, 26, 27, 28, 29, 30, 31] rfl (by decide +kernel)
set_option maxRecDepth 20000 in
theorem gX2_isOpen_X2_handsLeft : GoodIn wsX2_isOpen (wsV RX2 88 RX2 yX2_handsLeft wsX2_handsLeft) := goodIn_app (goodIn_r _ [13, 14, 15, 5] rfl (by decide +kernel)) ggX2_isOpen_X2_handsLeft
theorem dX2_isOpen_0 : decode cX2_isOpen 0 = .ok (.aload_n 0, 1) := by decide +kernel
theorem dX2_isOpen_1 : decode cX2_isOpen 1 = .ok (.iload_n 1, 1) := by decide +kernel
theorem dX2_isOpen_2 : decode cX2_isOpen 2 = .ok (.invokevirtual 85, 3) := by decide +kernel
theorem dX2_isOpen_5 : decode cX2_isOpen 5 = .ok (.ifCond .eq 28, 3) := by decide +kernel
theorem dX2_isOpen_8 : decode cX2_isOpen 8 = .ok (.aload_n 0, 1) := by decide +kernel
theorem dX2_isOpen_9 : decode cX2_isOpen 9 = .ok (.iload_n 1, 1) := by decide +kernel
theorem dX2_isOpen_10 : decode cX2_isOpen 10 = .ok (.iconst 4, 1) := by decide +kernel
theorem dX2_isOpen_11 : decode cX2_isOpen 11 = .ok (.invokevirtual 77, 3) := by decide +kernel
theorem dX2_isOpen_14 : decode cX2_isOpen 14 = .ok (.aload_n 0, 1) := by decide +kernel
theorem dX2_isOpen_15 : decode cX2_isOpen 15 = .ok (.getfield 49, 3) := by decide +kernel
theorem dX2_isOpen_18 : decode cX2_isOpen 18 = .ok (.if_icmp .ne 15, 3) := by decide +kernel
theorem dX2_isOpen_21 : decode cX2_isOpen 21 = .ok (.aload_n 0, 1) := by decide +kernel
theorem dX2_isOpen_22 : decode cX2_isOpen 22 = .ok (.iload_n 1, 1) := by decide +kernel
theorem dX2_isOpen_23 : decode cX2_isOpen 23 = .ok (.invokevirtual 88, 3) := by decide +kernel
theorem dX2_isOpen_26 : decode cX2_isOpen 26 = .ok (.ifCond .le 7, 3) := by decide +kernel
theorem dX2_isOpen_29 : decode cX2_isOpen 29 = .ok (.iconst 1, 1) := by decide +kernel
theorem dX2_isOpen_30 : decode cX2_isOpen 30 = .ok (.goto 4, 3) := by decide +kernel
theorem dX2_isOpen_33 : decode cX2_isOpen 33 = .ok (.iconst 0, 1) := by decide +kernel
theorem dX2_isOpen_34 : decode cX2_isOpen 34 = .ok (.ireturn, 1) := by decide +kernel
set_option maxRecDepth 20000 in
theorem ggX2_openNeeds_X2_isOpen : GoodIn wsX2_openNeeds wsX2_isOpen := goodIn_r _ [6, 7, 8, 9, 10, 5, 11, 1, 12, 13, 14, 15, 16, 17, 18, 19, 20, 21, 22, 23, 24, 25, 26, 27, 28, 29, 30, 31, 32, 33, 34, 35] rfl (by decide +kernel)
set_option maxRecDepth 20000 in
theorem gX2_openNeeds_X2_isOpen : GoodIn wsX2_openNeeds (wsV RX2 91 RX2 yX2_isOpen wsX2_isOpen) := goodIn_app (goodIn_r _ [2, 3, 4, 5] rfl (by decide +kernel)) ggX2_openNeeds_X2_isOpen
theorem dX2_openNeeds_0 : decode cX2_openNeeds 0 = .ok (.iconst 0, 1) := by decide +kernel
theorem dX2_openNeeds_1 : decode cX2_openNeeds 1 = .ok (.istore_n 1, 1) := by decide +kernel
theorem dX2_openNeeds_2 : decode cX2_openNeeds 2 = .ok (.iconst 0, 1) := by decide +kernel
theorem dX2_openNeeds_3 : decode cX2_openNeeds 3 = .ok (.istore_n 2, 1) := by decide +kernel
theorem dX2_openNeeds_4 : decode cX2_openNeeds 4 = .ok (.iload_n 2, 1) := by decide +kernel
theorem dX2_openNeeds_5 : decode cX2_openNeeds 5 = .ok (.aload_n 0, 1) := by decide +kernel
theorem dX2_openNeeds_6 : decode cX2_openNeeds 6 = .ok (.getfield 34, 3) := by decide +kernel
theorem dX2_openNeeds_9 : decode cX2_openNeeds 9 = .ok (.if_icmp .ge 25, 3) := by decide +kernel
theorem dX2_openNeeds_12 : decode cX2_openNeeds 12 = .ok (.iload_n 1, 1) := by decide +kernel
theorem dX2_openNeeds_13 : decode cX2_openNeeds 13 = .ok (.aload_n 0, 1) := by decide +kernel
theorem dX2_openNeeds_14 : decode cX2_openNeeds 14 = .ok (.iload_n 2, 1) := by decide +kernel
theorem dX2_openNeeds_15 : decode cX2_openNeeds 15 = .ok (.invokevirtual 91, 3) := by decide +kernel
theorem dX2_openNeeds_18 : decode cX2_openNeeds 18 = .ok (.ifCond .eq 7, 3) := by decide +kernel
theorem dX2_openNeeds_21 : decode cX2_openNeeds 21 = .ok (.iconst 1, 1) := by decide +kernel
theorem dX2_openNeeds_22 : decode cX2_openNeeds 22 = .ok (.goto 4, 3) := by decide +kernel
theorem dX2_openNeeds_25 : decode cX2_openNeeds 25 = .ok (.iconst 0, 1) := by decide +kernel
theorem dX2_openNeeds_26 : decode cX2_openNeeds 26 = .ok (.iadd, 1) := by decide +kernel
theorem dX2_openNeeds_27 : decode cX2_openNeeds 27 = .ok (.istore_n 1, 1) := by decide +kernel
theorem dX2_openNeeds_28 : decode cX2_openNeeds 28 = .ok (.iinc 2 1, 3) := by decide +kernel
theorem dX2_openNeeds_31 : decode cX2_openNeeds 31 = .ok (.goto (-27), 3) := by decide +kernel
theorem dX2_openNeeds_34 : decode cX2_openNeeds 34 = .ok (.iload_n 1, 1) := by decide +kernel
theorem dX2_openNeeds_35 : decode cX2_openNeeds 35 = .ok (.ireturn, 1) := by decide +kernel
set_option maxRecDepth 20000 in
theorem ggX2_handsLeftFrom_X2_ofNeed : GoodIn wsX2_handsLeftFrom wsX2_ofNeed := goodIn_r _ [6, 7, 19, 20, 21, 22, 23, 24, 25, 26] rfl (by decide +kernel)
set_option maxRecDepth 20000 in
theorem gX2_handsLeftFrom_X2_ofNeed : GoodIn wsX2_handsLeftFrom (wsV RX2 77 RX2 yX2_ofNeed wsX2_ofNeed) := goodIn_app (goodIn_r _ [2, 3, 4, 5] rfl (by decide +kernel)) ggX2_handsLeftFrom_X2_ofNeed
set_option maxRecDepth 20000 in
theorem ggX2_handsLeftFrom_X2_handsLeft : GoodIn wsX2_handsLeftFrom wsX2_handsLeft := goodIn_r _ [11, 2, 3, 4, 5, 6, 7, 12, 13, 14, 15, 16, 17, 18, 19, 20, 21, 22, 23, 24, 25, 26] rfl (by decide +kernel)
set_option maxRecDepth 20000 in
theorem gX2_handsLeftFrom_X2_handsLeft : GoodIn wsX2_handsLeftFrom (wsV RX2 88 RX2 yX2_handsLeft wsX2_handsLeft) := goodIn_app (goodIn_r _ [8, 9, 10, 5] rfl (by decide +kernel)) ggX2_handsLeftFrom_X2_handsLeft
theorem dX2_handsLeftFrom_0 : decode cX2_handsLeftFrom 0 = .ok (.iconst 0, 1) := by decide +kernel
theorem dX2_handsLeftFrom_1 : decode cX2_handsLeftFrom 1 = .ok (.istore_n 2, 1) := by decide +kernel
theorem dX2_handsLeftFrom_2 : decode cX2_handsLeftFrom 2 = .ok (.iconst 0, 1) := by decide +kernel
theorem dX2_handsLeftFrom_3 : decode cX2_handsLeftFrom 3 = .ok (.istore_n 3, 1) := by decide +kernel
theorem dX2_handsLeftFrom_4 : decode cX2_handsLeftFrom 4 = .ok (.iload_n 3, 1) := by decide +kernel
theorem dX2_handsLeftFrom_5 : decode cX2_handsLeftFrom 5 = .ok (.aload_n 0, 1) := by decide +kernel
theorem dX2_handsLeftFrom_6 : decode cX2_handsLeftFrom 6 = .ok (.getfield 34, 3) := by decide +kernel
theorem dX2_handsLeftFrom_9 : decode cX2_handsLeftFrom 9 = .ok (.if_icmp .ge 31, 3) := by decide +kernel
theorem dX2_handsLeftFrom_12 : decode cX2_handsLeftFrom 12 = .ok (.iload_n 2, 1) := by decide +kernel
theorem dX2_handsLeftFrom_13 : decode cX2_handsLeftFrom 13 = .ok (.aload_n 0, 1) := by decide +kernel
theorem dX2_handsLeftFrom_14 : decode cX2_handsLeftFrom 14 = .ok (.iload_n 3, 1) := by decide +kernel
theorem dX2_handsLeftFrom_15 : decode cX2_handsLeftFrom 15 = .ok (.iconst 4, 1) := by decide +kernel
theorem dX2_handsLeftFrom_16 : decode cX2_handsLeftFrom 16 = .ok (.invokevirtual 77, 3) := by decide +kernel
theorem dX2_handsLeftFrom_19 : decode cX2_handsLeftFrom 19 = .ok (.iload_n 1, 1) := by decide +kernel
theorem dX2_handsLeftFrom_20 : decode cX2_handsLeftFrom 20 = .ok (.if_icmp .lt 11, 3) := by decide +kernel
theorem dX2_handsLeftFrom_23 : decode cX2_handsLeftFrom 23 = .ok (.aload_n 0, 1) := by decide +kernel
theorem dX2_handsLeftFrom_24 : decode cX2_handsLeftFrom 24 = .ok (.iload_n 3, 1) := by decide +kernel
theorem dX2_handsLeftFrom_25 : decode cX2_handsLeftFrom 25 = .ok (.invokevirtual 88, 3) := by decide +kernel
theorem dX2_handsLeftFrom_28 : decode cX2_handsLeftFrom 28 = .ok (.goto 4, 3) := by decide +kernel
theorem dX2_handsLeftFrom_31 : decode cX2_handsLeftFrom 31 = .ok (.iconst 0, 1) := by decide +kernel
theorem dX2_handsLeftFrom_32 : decode cX2_handsLeftFrom 32 = .ok (.iadd, 1) := by decide +kernel
theorem dX2_handsLeftFrom_33 : decode cX2_handsLeftFrom 33 = .ok (.istore_n 2, 1) := by decide +kernel
theorem dX2_handsLeftFrom_34 : decode cX2_handsLeftFrom 34 = .ok (.iinc 3 1, 3) := by decide +kernel
theorem dX2_handsLeftFrom_37 : decode cX2_handsLeftFrom 37 = .ok (.goto (-33), 3) := by decide +kernel
theorem dX2_handsLeftFrom_40 : decode cX2_handsLeftFrom 40 = .ok (.iload_n 2, 1) := by decide +kernel
theorem dX2_handsLeftFrom_41 : decode cX2_handsLeftFrom 41 = .ok (.ireturn, 1) := by decide +kernel
set_option maxRecDepth 20000 in
theorem ggX2_mayHelpWith_X2_ofNeed : GoodIn wsX2_mayHelpWith wsX2_ofNeed := goodIn_r _ [5, 6, 64, 65, 66, 67, 68, 69, 70, 71] rfl (by decide +kernel)
set_option maxRecDepth 20000 in
theorem gX2_mayHelpWith_X2_ofNeed : GoodIn wsX2_mayHelpWith (wsV RX2 77 RX2 yX2_ofNeed wsX2_ofNeed) := goodIn_app (goodIn_r _ [1, 2, 3, 4] rfl (by decide +kernel)) ggX2_mayHelpWith_X2_ofNeed
set_option maxRecDepth 20000 in
theorem ggX2_mayHelpWith_X2_bitOf : GoodIn wsX2_mayHelpWith wsX2_bitOf := goodIn_r _ [9] rfl (by decide +kernel)
set_option maxRecDepth 20000 in
theorem gX2_mayHelpWith_X2_bitOf : GoodIn wsX2_mayHelpWith (va_wsS RX2 94 yX2_bitOf wsX2_bitOf) := goodIn_app (goodIn_r _ [7, 8, 4] rfl (by decide +kernel)) ggX2_mayHelpWith_X2_bitOf
set_option maxRecDepth 20000 in
theorem ggX2_mayHelpWith_X2_isOpen : GoodIn wsX2_mayHelpWith wsX2_isOpen := goodIn_r _ [13, 14, 15, 16, 17, 4, 18, 19, 1, 2, 3, 5, 6, 20, 21, 22, 23, 24, 25, 26, 27, 28, 29, 30, 64, 65, 66, 67, 68, 69, 70, 71] rfl (by decide +kernel)
set_option maxRecDepth 20000 in
theorem gX2_mayHelpWith_X2_isOpen : GoodIn wsX2_mayHelpWith (wsV RX2 91 RX2 yX2_isOpen wsX2_isOpen) := goodIn_app (goodIn_r _ [10, 11, 12, 4] rfl (by decide +kernel)) ggX2_mayHelpWith_X2_isOpen
set_option maxRecDepth 20000 in
theorem ggX2_mayHelpWith_X2_mayHelp : GoodIn wsX2_mayHelpWith wsX2_mayHelp := goodIn_r _ [34, 35, 36, 37, 4, 38, 39, 40, 41, 42, 43, 44, 45, 46, 47, 48, 49, 50, 51, 52, 53, 54, 55, 14, 56, 57, 58, 59, 60, 61, 62, 63, 64, 65, 66, 67, 68, 69, 70, 71] rfl (by decide +kernel)
set_option maxRecDepth 20000 in
theorem gX2_mayHelpWith_X2_mayHelp : GoodIn wsX2_mayHelpWith (wsV RX2 97 RX2 yX2_mayHelp wsX2_mayHelp) := goodIn_app (goodIn_r _ [31, 32, 33, 4] rfl (by decide +kernel)) ggX2_mayHelpWith_X2_mayHelp
theorem dX2_mayHelpWith_0 : decode cX2_mayHelpWith 0 = .ok (.aload_n 0, 1) := by decide +kernel
theorem dX2_mayHelpWith_1 : decode cX2_mayHelpWith 1 = .ok (.iload_n 2, 1) := by decide +kernel
theorem dX2_mayHelpWith_2 : decode cX2_mayHelpWith 2 = .ok (.iconst 5, 1) := by decide +kernel
theorem dX2_mayHelpWith_3 : decode cX2_mayHelpWith 3 = .ok (.invokevirtual 77, 3) := by decide +kernel
theorem dX2_mayHelpWith_6 : decode cX2_mayHelpWith 6 = .ok (.iload_n 1, 1) := by decide +kernel
theorem dX2_mayHelpWith_7 : decode cX2_mayHelpWith 7 = .ok (.invokestatic 94, 3) := by decide +kernel
theorem dX2_mayHelpWith_10 : decode cX2_mayHelpWith 10 = .ok (.iand, 1) := by decide +kernel
theorem dX2_mayHelpWith_11 : decode cX2_mayHelpWith 11 = .ok (.ifCond .eq 7, 3) := by decide +kernel
theorem dX2_mayHelpWith_14 : decode cX2_mayHelpWith 14 = .ok (.iconst 1, 1) := by decide +kernel
theorem dX2_mayHelpWith_15 : decode cX2_mayHelpWith 15 = .ok (.goto 4, 3) := by decide +kernel
theorem dX2_mayHelpWith_18 : decode cX2_mayHelpWith 18 = .ok (.iconst 0, 1) := by decide +kernel
theorem dX2_mayHelpWith_19 : decode cX2_mayHelpWith 19 = .ok (.istore_n 3, 1) := by decide +kernel
theorem dX2_mayHelpWith_20 : decode cX2_mayHelpWith 20 = .ok (.iload_n 3, 1) := by decide +kernel
theorem dX2_mayHelpWith_21 : decode cX2_mayHelpWith 21 = .ok (.ifCond .ne 29, 3) := by decide +kernel
theorem dX2_mayHelpWith_24 : decode cX2_mayHelpWith 24 = .ok (.aload_n 0, 1) := by decide +kernel
theorem dX2_mayHelpWith_25 : decode cX2_mayHelpWith 25 = .ok (.iload_n 2, 1) := by decide +kernel
theorem dX2_mayHelpWith_26 : decode cX2_mayHelpWith 26 = .ok (.invokevirtual 91, 3) := by decide +kernel
theorem dX2_mayHelpWith_29 : decode cX2_mayHelpWith 29 = .ok (.ifCond .eq 21, 3) := by decide +kernel
theorem dX2_mayHelpWith_32 : decode cX2_mayHelpWith 32 = .ok (.aload_n 0, 1) := by decide +kernel
theorem dX2_mayHelpWith_33 : decode cX2_mayHelpWith 33 = .ok (.iload_n 1, 1) := by decide +kernel
theorem dX2_mayHelpWith_34 : decode cX2_mayHelpWith 34 = .ok (.aload_n 0, 1) := by decide +kernel
theorem dX2_mayHelpWith_35 : decode cX2_mayHelpWith 35 = .ok (.iload_n 2, 1) := by decide +kernel
theorem dX2_mayHelpWith_36 : decode cX2_mayHelpWith 36 = .ok (.iconst 0, 1) := by decide +kernel
theorem dX2_mayHelpWith_37 : decode cX2_mayHelpWith 37 = .ok (.invokevirtual 77, 3) := by decide +kernel
theorem dX2_mayHelpWith_40 : decode cX2_mayHelpWith 40 = .ok (.invokevirtual 97, 3) := by decide +kernel
theorem dX2_mayHelpWith_43 : decode cX2_mayHelpWith 43 = .ok (.ifCond .eq 7, 3) := by decide +kernel
theorem dX2_mayHelpWith_46 : decode cX2_mayHelpWith 46 = .ok (.iconst 1, 1) := by decide +kernel
theorem dX2_mayHelpWith_47 : decode cX2_mayHelpWith 47 = .ok (.goto 4, 3) := by decide +kernel
theorem dX2_mayHelpWith_50 : decode cX2_mayHelpWith 50 = .ok (.iconst 0, 1) := by decide +kernel
theorem dX2_mayHelpWith_51 : decode cX2_mayHelpWith 51 = .ok (.ireturn, 1) := by decide +kernel
set_option maxRecDepth 20000 in
theorem ggX2_goodOf_X2_ofNeed : GoodIn wsX2_goodOf wsX2_ofNeed := goodIn_r _ [9, 10, 23, 24, 25, 26, 27, 28, 29, 30] rfl (by decide +kernel)
set_option maxRecDepth 20000 in
theorem gX2_goodOf_X2_ofNeed : GoodIn wsX2_goodOf (wsV RX2 77 RX2 yX2_ofNeed wsX2_ofNeed) := goodIn_app (goodIn_r _ [5, 6, 7, 8] rfl (by decide +kernel)) ggX2_goodOf_X2_ofNeed
set_option maxRecDepth 20000 in
theorem ggX2_goodOf_X2_ofPerson : GoodIn wsX2_goodOf wsX2_ofPerson := goodIn_r _ [14, 15, 23, 24, 25, 26, 27, 28, 29, 30] rfl (by decide +kernel)
set_option maxRecDepth 20000 in
theorem gX2_goodOf_X2_ofPerson : GoodIn wsX2_goodOf (wsV RX2 56 RX2 yX2_ofPerson wsX2_ofPerson) := goodIn_app (goodIn_r _ [11, 12, 13, 8] rfl (by decide +kernel)) ggX2_goodOf_X2_ofPerson
set_option maxRecDepth 20000 in
theorem ggX2_goodOf_X2_minutesBetween : GoodIn wsX2_goodOf wsX2_minutesBetween := goodIn_r _ [19, 20, 21, 3, 22, 11, 12, 13, 8, 14, 15, 23, 24, 25, 26, 27, 28, 29, 30] rfl (by decide +kernel)
set_option maxRecDepth 20000 in
theorem gX2_goodOf_X2_minutesBetween : GoodIn wsX2_goodOf (wsV RX2 74 RX2 yX2_minutesBetween wsX2_minutesBetween) := goodIn_app (goodIn_r _ [16, 17, 18, 8] rfl (by decide +kernel)) ggX2_goodOf_X2_minutesBetween
theorem dX2_goodOf_0 : decode cX2_goodOf 0 = .ok (.aload_n 0, 1) := by decide +kernel
theorem dX2_goodOf_1 : decode cX2_goodOf 1 = .ok (.iload_n 1, 1) := by decide +kernel
theorem dX2_goodOf_2 : decode cX2_goodOf 2 = .ok (.iconst 2, 1) := by decide +kernel
theorem dX2_goodOf_3 : decode cX2_goodOf 3 = .ok (.aload_n 0, 1) := by decide +kernel
theorem dX2_goodOf_4 : decode cX2_goodOf 4 = .ok (.iload_n 2, 1) := by decide +kernel
theorem dX2_goodOf_5 : decode cX2_goodOf 5 = .ok (.iconst 1, 1) := by decide +kernel
theorem dX2_goodOf_6 : decode cX2_goodOf 6 = .ok (.invokevirtual 77, 3) := by decide +kernel
theorem dX2_goodOf_9 : decode cX2_goodOf 9 = .ok (.iadd, 1) := by decide +kernel
theorem dX2_goodOf_10 : decode cX2_goodOf 10 = .ok (.invokevirtual 56, 3) := by decide +kernel
theorem dX2_goodOf_13 : decode cX2_goodOf 13 = .ok (.aload_n 0, 1) := by decide +kernel
theorem dX2_goodOf_14 : decode cX2_goodOf 14 = .ok (.iload_n 2, 1) := by decide +kernel
theorem dX2_goodOf_15 : decode cX2_goodOf 15 = .ok (.iconst 2, 1) := by decide +kernel
theorem dX2_goodOf_16 : decode cX2_goodOf 16 = .ok (.invokevirtual 77, 3) := by decide +kernel
theorem dX2_goodOf_19 : decode cX2_goodOf 19 = .ok (.imul, 1) := by decide +kernel
theorem dX2_goodOf_20 : decode cX2_goodOf 20 = .ok (.istore_n 3, 1) := by decide +kernel
theorem dX2_goodOf_21 : decode cX2_goodOf 21 = .ok (.aload_n 0, 1) := by decide +kernel
theorem dX2_goodOf_22 : decode cX2_goodOf 22 = .ok (.iload_n 1, 1) := by decide +kernel
theorem dX2_goodOf_23 : decode cX2_goodOf 23 = .ok (.aload_n 0, 1) := by decide +kernel
theorem dX2_goodOf_24 : decode cX2_goodOf 24 = .ok (.iload_n 2, 1) := by decide +kernel
theorem dX2_goodOf_25 : decode cX2_goodOf 25 = .ok (.iconst 0, 1) := by decide +kernel
theorem dX2_goodOf_26 : decode cX2_goodOf 26 = .ok (.invokevirtual 77, 3) := by decide +kernel
theorem dX2_goodOf_29 : decode cX2_goodOf 29 = .ok (.invokevirtual 74, 3) := by decide +kernel
theorem dX2_goodOf_32 : decode cX2_goodOf 32 = .ok (.istore 4, 2) := by decide +kernel
theorem dX2_goodOf_34 : decode cX2_goodOf 34 = .ok (.iconst 0, 1) := by decide +kernel
theorem dX2_goodOf_35 : decode cX2_goodOf 35 = .ok (.iload_n 3, 1) := by decide +kernel
theorem dX2_goodOf_36 : decode cX2_goodOf 36 = .ok (.iload 4, 2) := by decide +kernel
theorem dX2_goodOf_38 : decode cX2_goodOf 38 = .ok (.bipush 10, 2) := by decide +kernel
theorem dX2_goodOf_40 : decode cX2_goodOf 40 = .ok (.idiv, 1) := by decide +kernel
theorem dX2_goodOf_41 : decode cX2_goodOf 41 = .ok (.isub, 1) := by decide +kernel
theorem dX2_goodOf_42 : decode cX2_goodOf 42 = .ok (.invokestatic 46, 3) := by decide +kernel
theorem dX2_goodOf_45 : decode cX2_goodOf 45 = .ok (.istore 5, 2) := by decide +kernel
theorem dX2_goodOf_47 : decode cX2_goodOf 47 = .ok (.aload_n 0, 1) := by decide +kernel
theorem dX2_goodOf_48 : decode cX2_goodOf 48 = .ok (.iload_n 2, 1) := by decide +kernel
theorem dX2_goodOf_49 : decode cX2_goodOf 49 = .ok (.iconst 1, 1) := by decide +kernel
theorem dX2_goodOf_50 : decode cX2_goodOf 50 = .ok (.invokevirtual 77, 3) := by decide +kernel
theorem dX2_goodOf_53 : decode cX2_goodOf 53 = .ok (.ifCond .ne 10, 3) := by decide +kernel
theorem dX2_goodOf_56 : decode cX2_goodOf 56 = .ok (.iconst 2, 1) := by decide +kernel
theorem dX2_goodOf_57 : decode cX2_goodOf 57 = .ok (.iload 5, 2) := by decide +kernel
theorem dX2_goodOf_59 : decode cX2_goodOf 59 = .ok (.imul, 1) := by decide +kernel
theorem dX2_goodOf_60 : decode cX2_goodOf 60 = .ok (.goto 5, 3) := by decide +kernel
theorem dX2_goodOf_63 : decode cX2_goodOf 63 = .ok (.iload 5, 2) := by decide +kernel
theorem dX2_goodOf_65 : decode cX2_goodOf 65 = .ok (.istore 6, 2) := by decide +kernel
theorem dX2_goodOf_67 : decode cX2_goodOf 67 = .ok (.aload_n 0, 1) := by decide +kernel
theorem dX2_goodOf_68 : decode cX2_goodOf 68 = .ok (.iload_n 1, 1) := by decide +kernel
theorem dX2_goodOf_69 : decode cX2_goodOf 69 = .ok (.iconst 0, 1) := by decide +kernel
theorem dX2_goodOf_70 : decode cX2_goodOf 70 = .ok (.invokevirtual 56, 3) := by decide +kernel
theorem dX2_goodOf_73 : decode cX2_goodOf 73 = .ok (.tableswitch 79 1 6 #[39, 42, 47, 56, 58, 63], 39) := by decide +kernel
theorem dX2_goodOf_112 : decode cX2_goodOf 112 = .ok (.iload 6, 2) := by decide +kernel
theorem dX2_goodOf_114 : decode cX2_goodOf 114 = .ok (.ireturn, 1) := by decide +kernel
theorem dX2_goodOf_115 : decode cX2_goodOf 115 = .ok (.iload 5, 2) := by decide +kernel
theorem dX2_goodOf_117 : decode cX2_goodOf 117 = .ok (.iconst 2, 1) := by decide +kernel
theorem dX2_goodOf_118 : decode cX2_goodOf 118 = .ok (.idiv, 1) := by decide +kernel
theorem dX2_goodOf_119 : decode cX2_goodOf 119 = .ok (.ireturn, 1) := by decide +kernel
theorem dX2_goodOf_120 : decode cX2_goodOf 120 = .ok (.iconst 0, 1) := by decide +kernel
theorem dX2_goodOf_121 : decode cX2_goodOf 121 = .ok (.iload 5, 2) := by decide +kernel
theorem dX2_goodOf_123 : decode cX2_goodOf 123 = .ok (.iconst 5, 1) := by decide +kernel
theorem dX2_goodOf_124 : decode cX2_goodOf 124 = .ok (.isub, 1) := by decide +kernel
theorem dX2_goodOf_125 : decode cX2_goodOf 125 = .ok (.invokestatic 46, 3) := by decide +kernel
theorem dX2_goodOf_128 : decode cX2_goodOf 128 = .ok (.ireturn, 1) := by decide +kernel
theorem dX2_goodOf_129 : decode cX2_goodOf 129 = .ok (.iload_n 3, 1) := by decide +kernel
theorem dX2_goodOf_130 : decode cX2_goodOf 130 = .ok (.ireturn, 1) := by decide +kernel
theorem dX2_goodOf_131 : decode cX2_goodOf 131 = .ok (.iload 6, 2) := by decide +kernel
theorem dX2_goodOf_133 : decode cX2_goodOf 133 = .ok (.iconst 3, 1) := by decide +kernel
theorem dX2_goodOf_134 : decode cX2_goodOf 134 = .ok (.iadd, 1) := by decide +kernel
theorem dX2_goodOf_135 : decode cX2_goodOf 135 = .ok (.ireturn, 1) := by decide +kernel
theorem dX2_goodOf_136 : decode cX2_goodOf 136 = .ok (.iload 4, 2) := by decide +kernel
theorem dX2_goodOf_138 : decode cX2_goodOf 138 = .ok (.bipush 20, 2) := by decide +kernel
theorem dX2_goodOf_140 : decode cX2_goodOf 140 = .ok (.if_icmp .le 7, 3) := by decide +kernel
theorem dX2_goodOf_143 : decode cX2_goodOf 143 = .ok (.iconst 0, 1) := by decide +kernel
theorem dX2_goodOf_144 : decode cX2_goodOf 144 = .ok (.goto 7, 3) := by decide +kernel
theorem dX2_goodOf_147 : decode cX2_goodOf 147 = .ok (.iload 5, 2) := by decide +kernel
theorem dX2_goodOf_149 : decode cX2_goodOf 149 = .ok (.iconst 2, 1) := by decide +kernel
theorem dX2_goodOf_150 : decode cX2_goodOf 150 = .ok (.idiv, 1) := by decide +kernel
theorem dX2_goodOf_151 : decode cX2_goodOf 151 = .ok (.ireturn, 1) := by decide +kernel
theorem dX2_goodOf_152 : decode cX2_goodOf 152 = .ok (.iload 5, 2) := by decide +kernel
theorem dX2_goodOf_154 : decode cX2_goodOf 154 = .ok (.ireturn, 1) := by decide +kernel
set_option maxRecDepth 20000 in
theorem ggX2_lossOf_X2_ofNeed : GoodIn wsX2_lossOf wsX2_ofNeed := goodIn_r _ [10, 11, 28, 29, 30, 31, 32, 33, 34, 35] rfl (by decide +kernel)
set_option maxRecDepth 20000 in
theorem gX2_lossOf_X2_ofNeed : GoodIn wsX2_lossOf (wsV RX2 77 RX2 yX2_ofNeed wsX2_ofNeed) := goodIn_app (goodIn_r _ [6, 7, 8, 9] rfl (by decide +kernel)) ggX2_lossOf_X2_ofNeed
set_option maxRecDepth 20000 in
theorem ggX2_lossOf_X2_goodOf : GoodIn wsX2_lossOf wsX2_goodOf := goodIn_r _ [15, 2, 3, 4, 5, 6, 7, 8, 9, 10, 11, 16, 17, 18, 19, 20, 21, 22, 23, 24, 25, 26, 27, 28, 29, 30, 31, 32, 33, 34, 35] rfl (by decide +kernel)
set_option maxRecDepth 20000 in
theorem gX2_lossOf_X2_goodOf : GoodIn wsX2_lossOf (wsV RX2 100 RX2 yX2_goodOf wsX2_goodOf) := goodIn_app (goodIn_r _ [12, 13, 14, 9] rfl (by decide +kernel)) ggX2_lossOf_X2_goodOf
theorem dX2_lossOf_0 : decode cX2_lossOf 0 = .ok (.iconst 0, 1) := by decide +kernel
theorem dX2_lossOf_1 : decode cX2_lossOf 1 = .ok (.istore_n 3, 1) := by decide +kernel
theorem dX2_lossOf_2 : decode cX2_lossOf 2 = .ok (.iload_n 2, 1) := by decide +kernel
theorem dX2_lossOf_3 : decode cX2_lossOf 3 = .ok (.iconst 1, 1) := by decide +kernel
theorem dX2_lossOf_4 : decode cX2_lossOf 4 = .ok (.iadd, 1) := by decide +kernel
theorem dX2_lossOf_5 : decode cX2_lossOf 5 = .ok (.istore 4, 2) := by decide +kernel
theorem dX2_lossOf_7 : decode cX2_lossOf 7 = .ok (.iload 4, 2) := by decide +kernel
theorem dX2_lossOf_9 : decode cX2_lossOf 9 = .ok (.aload_n 0, 1) := by decide +kernel
theorem dX2_lossOf_10 : decode cX2_lossOf 10 = .ok (.getfield 34, 3) := by decide +kernel
theorem dX2_lossOf_13 : decode cX2_lossOf 13 = .ok (.if_icmp .ge 37, 3) := by decide +kernel
theorem dX2_lossOf_16 : decode cX2_lossOf 16 = .ok (.aload_n 0, 1) := by decide +kernel
theorem dX2_lossOf_17 : decode cX2_lossOf 17 = .ok (.iload 4, 2) := by decide +kernel
theorem dX2_lossOf_19 : decode cX2_lossOf 19 = .ok (.iconst 0, 1) := by decide +kernel
theorem dX2_lossOf_20 : decode cX2_lossOf 20 = .ok (.invokevirtual 77, 3) := by decide +kernel
theorem dX2_lossOf_23 : decode cX2_lossOf 23 = .ok (.aload_n 0, 1) := by decide +kernel
theorem dX2_lossOf_24 : decode cX2_lossOf 24 = .ok (.iload_n 2, 1) := by decide +kernel
theorem dX2_lossOf_25 : decode cX2_lossOf 25 = .ok (.iconst 0, 1) := by decide +kernel
theorem dX2_lossOf_26 : decode cX2_lossOf 26 = .ok (.invokevirtual 77, 3) := by decide +kernel
theorem dX2_lossOf_29 : decode cX2_lossOf 29 = .ok (.if_icmp .ne 15, 3) := by decide +kernel
theorem dX2_lossOf_32 : decode cX2_lossOf 32 = .ok (.iload_n 3, 1) := by decide +kernel
theorem dX2_lossOf_33 : decode cX2_lossOf 33 = .ok (.aload_n 0, 1) := by decide +kernel
theorem dX2_lossOf_34 : decode cX2_lossOf 34 = .ok (.iload_n 1, 1) := by decide +kernel
theorem dX2_lossOf_35 : decode cX2_lossOf 35 = .ok (.iload 4, 2) := by decide +kernel
theorem dX2_lossOf_37 : decode cX2_lossOf 37 = .ok (.invokevirtual 100, 3) := by decide +kernel
theorem dX2_lossOf_40 : decode cX2_lossOf 40 = .ok (.invokestatic 46, 3) := by decide +kernel
theorem dX2_lossOf_43 : decode cX2_lossOf 43 = .ok (.istore_n 3, 1) := by decide +kernel
theorem dX2_lossOf_44 : decode cX2_lossOf 44 = .ok (.iinc 4 1, 3) := by decide +kernel
theorem dX2_lossOf_47 : decode cX2_lossOf 47 = .ok (.goto (-40), 3) := by decide +kernel
theorem dX2_lossOf_50 : decode cX2_lossOf 50 = .ok (.iload_n 3, 1) := by decide +kernel
theorem dX2_lossOf_51 : decode cX2_lossOf 51 = .ok (.ireturn, 1) := by decide +kernel
theorem dX2_bookIsFull_0 : decode cX2_bookIsFull 0 = .ok (.aload_n 0, 1) := by decide +kernel
theorem dX2_bookIsFull_1 : decode cX2_bookIsFull 1 = .ok (.getfield 37, 3) := by decide +kernel
theorem dX2_bookIsFull_4 : decode cX2_bookIsFull 4 = .ok (.bipush 60, 2) := by decide +kernel
theorem dX2_bookIsFull_6 : decode cX2_bookIsFull 6 = .ok (.if_icmp .lt 7, 3) := by decide +kernel
theorem dX2_bookIsFull_9 : decode cX2_bookIsFull 9 = .ok (.iconst 1, 1) := by decide +kernel
theorem dX2_bookIsFull_10 : decode cX2_bookIsFull 10 = .ok (.goto 4, 3) := by decide +kernel
theorem dX2_bookIsFull_13 : decode cX2_bookIsFull 13 = .ok (.iconst 0, 1) := by decide +kernel
theorem dX2_bookIsFull_14 : decode cX2_bookIsFull 14 = .ok (.ireturn, 1) := by decide +kernel
set_option maxRecDepth 20000 in
theorem ggX2_doHelp_X2_ofNeed : GoodIn wsX2_doHelp wsX2_ofNeed := goodIn_r _ [5, 6, 21, 22, 23, 24, 25, 26, 27, 28] rfl (by decide +kernel)
set_option maxRecDepth 20000 in
theorem gX2_doHelp_X2_ofNeed : GoodIn wsX2_doHelp (wsV RX2 77 RX2 yX2_ofNeed wsX2_ofNeed) := goodIn_app (goodIn_r _ [1, 2, 3, 4] rfl (by decide +kernel)) ggX2_doHelp_X2_ofNeed
set_option maxRecDepth 20000 in
theorem ggX2_doHelp_X2_write : GoodIn wsX2_doHelp wsX2_write := goodIn_r _ [10, 11, 12, 13, 21, 22, 23, 24, 25, 26, 27, 28] rfl (by decide +kernel)
set_option maxRecDepth 20000 in
theorem gX2_doHelp_X2_write : GoodIn wsX2_doHelp (wsV RX2 103 RX2 yX2_write wsX2_write) := goodIn_app (goodIn_r _ [7, 8, 9, 4] rfl (by decide +kernel)) ggX2_doHelp_X2_write
set_option maxRecDepth 20000 in
theorem ggX2_doHelp_X2_bitOf : GoodIn wsX2_doHelp wsX2_bitOf := goodIn_r _ [16] rfl (by decide +kernel)
set_option maxRecDepth 20000 in
theorem gX2_doHelp_X2_bitOf : GoodIn wsX2_doHelp (va_wsS RX2 94 yX2_bitOf wsX2_bitOf) := goodIn_app (goodIn_r _ [14, 15, 4] rfl (by decide +kernel)) ggX2_doHelp_X2_bitOf
set_option maxRecDepth 20000 in
theorem ggX2_doHelp_X2_putNeed : GoodIn wsX2_doHelp wsX2_putNeed := goodIn_r _ [20, 6, 21, 22, 23, 24, 25, 26, 27, 28] rfl (by decide +kernel)
set_option maxRecDepth 20000 in
theorem gX2_doHelp_X2_putNeed : GoodIn wsX2_doHelp (wsV RX2 52 RX2 yX2_putNeed wsX2_putNeed) := goodIn_app (goodIn_r _ [17, 18, 19, 4] rfl (by decide +kernel)) ggX2_doHelp_X2_putNeed
theorem dX2_doHelp_0 : decode cX2_doHelp 0 = .ok (.aload_n 0, 1) := by decide +kernel
theorem dX2_doHelp_1 : decode cX2_doHelp 1 = .ok (.iload_n 1, 1) := by decide +kernel
theorem dX2_doHelp_2 : decode cX2_doHelp 2 = .ok (.aload_n 0, 1) := by decide +kernel
theorem dX2_doHelp_3 : decode cX2_doHelp 3 = .ok (.iload_n 2, 1) := by decide +kernel
theorem dX2_doHelp_4 : decode cX2_doHelp 4 = .ok (.iconst 0, 1) := by decide +kernel
theorem dX2_doHelp_5 : decode cX2_doHelp 5 = .ok (.invokevirtual 77, 3) := by decide +kernel
theorem dX2_doHelp_8 : decode cX2_doHelp 8 = .ok (.aload_n 0, 1) := by decide +kernel
theorem dX2_doHelp_9 : decode cX2_doHelp 9 = .ok (.iload_n 2, 1) := by decide +kernel
theorem dX2_doHelp_10 : decode cX2_doHelp 10 = .ok (.iconst 2, 1) := by decide +kernel
theorem dX2_doHelp_11 : decode cX2_doHelp 11 = .ok (.invokevirtual 77, 3) := by decide +kernel
theorem dX2_doHelp_14 : decode cX2_doHelp 14 = .ok (.iload_n 2, 1) := by decide +kernel
theorem dX2_doHelp_15 : decode cX2_doHelp 15 = .ok (.invokevirtual 103, 3) := by decide +kernel
theorem dX2_doHelp_18 : decode cX2_doHelp 18 = .ok (.aload_n 0, 1) := by decide +kernel
theorem dX2_doHelp_19 : decode cX2_doHelp 19 = .ok (.iload_n 2, 1) := by decide +kernel
theorem dX2_doHelp_20 : decode cX2_doHelp 20 = .ok (.iconst 5, 1) := by decide +kernel
theorem dX2_doHelp_21 : decode cX2_doHelp 21 = .ok (.aload_n 0, 1) := by decide +kernel
theorem dX2_doHelp_22 : decode cX2_doHelp 22 = .ok (.iload_n 2, 1) := by decide +kernel
theorem dX2_doHelp_23 : decode cX2_doHelp 23 = .ok (.iconst 5, 1) := by decide +kernel
theorem dX2_doHelp_24 : decode cX2_doHelp 24 = .ok (.invokevirtual 77, 3) := by decide +kernel
theorem dX2_doHelp_27 : decode cX2_doHelp 27 = .ok (.iload_n 1, 1) := by decide +kernel
theorem dX2_doHelp_28 : decode cX2_doHelp 28 = .ok (.invokestatic 94, 3) := by decide +kernel
theorem dX2_doHelp_31 : decode cX2_doHelp 31 = .ok (.ior, 1) := by decide +kernel
theorem dX2_doHelp_32 : decode cX2_doHelp 32 = .ok (.invokevirtual 52, 3) := by decide +kernel
theorem dX2_doHelp_35 : decode cX2_doHelp 35 = .ok (.return_, 1) := by decide +kernel
theorem dX2_write_0 : decode cX2_write 0 = .ok (.aload_n 0, 1) := by decide +kernel
theorem dX2_write_1 : decode cX2_write 1 = .ok (.getfield 37, 3) := by decide +kernel
theorem dX2_write_4 : decode cX2_write 4 = .ok (.ifCond .lt 13, 3) := by decide +kernel
theorem dX2_write_7 : decode cX2_write 7 = .ok (.aload_n 0, 1) := by decide +kernel
theorem dX2_write_8 : decode cX2_write 8 = .ok (.getfield 37, 3) := by decide +kernel
theorem dX2_write_11 : decode cX2_write 11 = .ok (.sipush 270, 3) := by decide +kernel
theorem dX2_write_14 : decode cX2_write 14 = .ok (.if_icmp .lt 4, 3) := by decide +kernel
theorem dX2_write_17 : decode cX2_write 17 = .ok (.return_, 1) := by decide +kernel
theorem dX2_write_18 : decode cX2_write 18 = .ok (.aload_n 0, 1) := by decide +kernel
theorem dX2_write_19 : decode cX2_write 19 = .ok (.getfield 37, 3) := by decide +kernel
theorem dX2_write_22 : decode cX2_write 22 = .ok (.iconst 5, 1) := by decide +kernel
theorem dX2_write_23 : decode cX2_write 23 = .ok (.imul, 1) := by decide +kernel
theorem dX2_write_24 : decode cX2_write 24 = .ok (.istore 5, 2) := by decide +kernel
theorem dX2_write_26 : decode cX2_write 26 = .ok (.aload_n 0, 1) := by decide +kernel
theorem dX2_write_27 : decode cX2_write 27 = .ok (.getfield 18, 3) := by decide +kernel
theorem dX2_write_30 : decode cX2_write 30 = .ok (.iload 5, 2) := by decide +kernel
theorem dX2_write_32 : decode cX2_write 32 = .ok (.iconst 0, 1) := by decide +kernel
theorem dX2_write_33 : decode cX2_write 33 = .ok (.iadd, 1) := by decide +kernel
theorem dX2_write_34 : decode cX2_write 34 = .ok (.iload_n 1, 1) := by decide +kernel
theorem dX2_write_35 : decode cX2_write 35 = .ok (.iastore, 1) := by decide +kernel
theorem dX2_write_36 : decode cX2_write 36 = .ok (.aload_n 0, 1) := by decide +kernel
theorem dX2_write_37 : decode cX2_write 37 = .ok (.getfield 18, 3) := by decide +kernel
theorem dX2_write_40 : decode cX2_write 40 = .ok (.iload 5, 2) := by decide +kernel
theorem dX2_write_42 : decode cX2_write 42 = .ok (.iconst 1, 1) := by decide +kernel
theorem dX2_write_43 : decode cX2_write 43 = .ok (.iadd, 1) := by decide +kernel
theorem dX2_write_44 : decode cX2_write 44 = .ok (.iload_n 2, 1) := by decide +kernel
theorem dX2_write_45 : decode cX2_write 45 = .ok (.iastore, 1) := by decide +kernel
theorem dX2_write_46 : decode cX2_write 46 = .ok (.aload_n 0, 1) := by decide +kernel
theorem dX2_write_47 : decode cX2_write 47 = .ok (.getfield 18, 3) := by decide +kernel
theorem dX2_write_50 : decode cX2_write 50 = .ok (.iload 5, 2) := by decide +kernel
theorem dX2_write_52 : decode cX2_write 52 = .ok (.iconst 2, 1) := by decide +kernel
theorem dX2_write_53 : decode cX2_write 53 = .ok (.iadd, 1) := by decide +kernel
theorem dX2_write_54 : decode cX2_write 54 = .ok (.aload_n 0, 1) := by decide +kernel
theorem dX2_write_55 : decode cX2_write 55 = .ok (.getfield 49, 3) := by decide +kernel
theorem dX2_write_58 : decode cX2_write 58 = .ok (.iastore, 1) := by decide +kernel
theorem dX2_write_59 : decode cX2_write 59 = .ok (.aload_n 0, 1) := by decide +kernel
theorem dX2_write_60 : decode cX2_write 60 = .ok (.getfield 18, 3) := by decide +kernel
theorem dX2_write_63 : decode cX2_write 63 = .ok (.iload 5, 2) := by decide +kernel
theorem dX2_write_65 : decode cX2_write 65 = .ok (.iconst 3, 1) := by decide +kernel
theorem dX2_write_66 : decode cX2_write 66 = .ok (.iadd, 1) := by decide +kernel
theorem dX2_write_67 : decode cX2_write 67 = .ok (.iload_n 3, 1) := by decide +kernel
theorem dX2_write_68 : decode cX2_write 68 = .ok (.iastore, 1) := by decide +kernel
theorem dX2_write_69 : decode cX2_write 69 = .ok (.aload_n 0, 1) := by decide +kernel
theorem dX2_write_70 : decode cX2_write 70 = .ok (.getfield 18, 3) := by decide +kernel
theorem dX2_write_73 : decode cX2_write 73 = .ok (.iload 5, 2) := by decide +kernel
theorem dX2_write_75 : decode cX2_write 75 = .ok (.iconst 4, 1) := by decide +kernel
theorem dX2_write_76 : decode cX2_write 76 = .ok (.iadd, 1) := by decide +kernel
theorem dX2_write_77 : decode cX2_write 77 = .ok (.iload 4, 2) := by decide +kernel
theorem dX2_write_79 : decode cX2_write 79 = .ok (.iastore, 1) := by decide +kernel
theorem dX2_write_80 : decode cX2_write 80 = .ok (.aload_n 0, 1) := by decide +kernel
theorem dX2_write_81 : decode cX2_write 81 = .ok (.dup, 1) := by decide +kernel
theorem dX2_write_82 : decode cX2_write 82 = .ok (.getfield 37, 3) := by decide +kernel
theorem dX2_write_85 : decode cX2_write 85 = .ok (.iconst 1, 1) := by decide +kernel
theorem dX2_write_86 : decode cX2_write 86 = .ok (.iadd, 1) := by decide +kernel
theorem dX2_write_87 : decode cX2_write 87 = .ok (.putfield 37, 3) := by decide +kernel
theorem dX2_write_90 : decode cX2_write 90 = .ok (.return_, 1) := by decide +kernel
set_option maxRecDepth 20000 in
theorem ggX2_takeBack_X2_ofNeed : GoodIn wsX2_takeBack wsX2_ofNeed := goodIn_r _ [7, 8, 16, 17, 18, 19, 20, 21, 22, 23] rfl (by decide +kernel)
set_option maxRecDepth 20000 in
theorem gX2_takeBack_X2_ofNeed : GoodIn wsX2_takeBack (wsV RX2 77 RX2 yX2_ofNeed wsX2_ofNeed) := goodIn_app (goodIn_r _ [3, 4, 5, 6] rfl (by decide +kernel)) ggX2_takeBack_X2_ofNeed
set_option maxRecDepth 20000 in
theorem ggX2_takeBack_X2_bitOf : GoodIn wsX2_takeBack wsX2_bitOf := goodIn_r _ [11] rfl (by decide +kernel)
set_option maxRecDepth 20000 in
theorem gX2_takeBack_X2_bitOf : GoodIn wsX2_takeBack (va_wsS RX2 94 yX2_bitOf wsX2_bitOf) := goodIn_app (goodIn_r _ [9, 10, 6] rfl (by decide +kernel)) ggX2_takeBack_X2_bitOf
set_option maxRecDepth 20000 in
theorem ggX2_takeBack_X2_putNeed : GoodIn wsX2_takeBack wsX2_putNeed := goodIn_r _ [15, 8, 16, 17, 18, 19, 20, 21, 22, 23] rfl (by decide +kernel)
set_option maxRecDepth 20000 in
theorem gX2_takeBack_X2_putNeed : GoodIn wsX2_takeBack (wsV RX2 52 RX2 yX2_putNeed wsX2_putNeed) := goodIn_app (goodIn_r _ [12, 13, 14, 6] rfl (by decide +kernel)) ggX2_takeBack_X2_putNeed
theorem dX2_takeBack_0 : decode cX2_takeBack 0 = .ok (.aload_n 0, 1) := by decide +kernel
theorem dX2_takeBack_1 : decode cX2_takeBack 1 = .ok (.getfield 37, 3) := by decide +kernel
theorem dX2_takeBack_4 : decode cX2_takeBack 4 = .ok (.ifCond .le 13, 3) := by decide +kernel
theorem dX2_takeBack_7 : decode cX2_takeBack 7 = .ok (.aload_n 0, 1) := by decide +kernel
theorem dX2_takeBack_8 : decode cX2_takeBack 8 = .ok (.getfield 37, 3) := by decide +kernel
theorem dX2_takeBack_11 : decode cX2_takeBack 11 = .ok (.sipush 270, 3) := by decide +kernel
theorem dX2_takeBack_14 : decode cX2_takeBack 14 = .ok (.if_icmp .le 4, 3) := by decide +kernel
theorem dX2_takeBack_17 : decode cX2_takeBack 17 = .ok (.return_, 1) := by decide +kernel
theorem dX2_takeBack_18 : decode cX2_takeBack 18 = .ok (.aload_n 0, 1) := by decide +kernel
theorem dX2_takeBack_19 : decode cX2_takeBack 19 = .ok (.dup, 1) := by decide +kernel
theorem dX2_takeBack_20 : decode cX2_takeBack 20 = .ok (.getfield 37, 3) := by decide +kernel
theorem dX2_takeBack_23 : decode cX2_takeBack 23 = .ok (.iconst 1, 1) := by decide +kernel
theorem dX2_takeBack_24 : decode cX2_takeBack 24 = .ok (.isub, 1) := by decide +kernel
theorem dX2_takeBack_25 : decode cX2_takeBack 25 = .ok (.putfield 37, 3) := by decide +kernel
theorem dX2_takeBack_28 : decode cX2_takeBack 28 = .ok (.aload_n 0, 1) := by decide +kernel
theorem dX2_takeBack_29 : decode cX2_takeBack 29 = .ok (.getfield 37, 3) := by decide +kernel
theorem dX2_takeBack_32 : decode cX2_takeBack 32 = .ok (.iconst 5, 1) := by decide +kernel
theorem dX2_takeBack_33 : decode cX2_takeBack 33 = .ok (.imul, 1) := by decide +kernel
theorem dX2_takeBack_34 : decode cX2_takeBack 34 = .ok (.istore_n 1, 1) := by decide +kernel
theorem dX2_takeBack_35 : decode cX2_takeBack 35 = .ok (.aload_n 0, 1) := by decide +kernel
theorem dX2_takeBack_36 : decode cX2_takeBack 36 = .ok (.getfield 18, 3) := by decide +kernel
theorem dX2_takeBack_39 : decode cX2_takeBack 39 = .ok (.iload_n 1, 1) := by decide +kernel
theorem dX2_takeBack_40 : decode cX2_takeBack 40 = .ok (.iconst 4, 1) := by decide +kernel
theorem dX2_takeBack_41 : decode cX2_takeBack 41 = .ok (.iadd, 1) := by decide +kernel
theorem dX2_takeBack_42 : decode cX2_takeBack 42 = .ok (.iaload, 1) := by decide +kernel
theorem dX2_takeBack_43 : decode cX2_takeBack 43 = .ok (.istore_n 2, 1) := by decide +kernel
theorem dX2_takeBack_44 : decode cX2_takeBack 44 = .ok (.aload_n 0, 1) := by decide +kernel
theorem dX2_takeBack_45 : decode cX2_takeBack 45 = .ok (.iload_n 2, 1) := by decide +kernel
theorem dX2_takeBack_46 : decode cX2_takeBack 46 = .ok (.iconst 5, 1) := by decide +kernel
theorem dX2_takeBack_47 : decode cX2_takeBack 47 = .ok (.aload_n 0, 1) := by decide +kernel
theorem dX2_takeBack_48 : decode cX2_takeBack 48 = .ok (.iload_n 2, 1) := by decide +kernel
theorem dX2_takeBack_49 : decode cX2_takeBack 49 = .ok (.iconst 5, 1) := by decide +kernel
theorem dX2_takeBack_50 : decode cX2_takeBack 50 = .ok (.invokevirtual 77, 3) := by decide +kernel
theorem dX2_takeBack_53 : decode cX2_takeBack 53 = .ok (.aload_n 0, 1) := by decide +kernel
theorem dX2_takeBack_54 : decode cX2_takeBack 54 = .ok (.getfield 18, 3) := by decide +kernel
theorem dX2_takeBack_57 : decode cX2_takeBack 57 = .ok (.iload_n 1, 1) := by decide +kernel
theorem dX2_takeBack_58 : decode cX2_takeBack 58 = .ok (.iconst 0, 1) := by decide +kernel
theorem dX2_takeBack_59 : decode cX2_takeBack 59 = .ok (.iadd, 1) := by decide +kernel
theorem dX2_takeBack_60 : decode cX2_takeBack 60 = .ok (.iaload, 1) := by decide +kernel
theorem dX2_takeBack_61 : decode cX2_takeBack 61 = .ok (.invokestatic 94, 3) := by decide +kernel
theorem dX2_takeBack_64 : decode cX2_takeBack 64 = .ok (.iconst (-1), 1) := by decide +kernel
theorem dX2_takeBack_65 : decode cX2_takeBack 65 = .ok (.ixor, 1) := by decide +kernel
theorem dX2_takeBack_66 : decode cX2_takeBack 66 = .ok (.iand, 1) := by decide +kernel
theorem dX2_takeBack_67 : decode cX2_takeBack 67 = .ok (.invokevirtual 52, 3) := by decide +kernel
theorem dX2_takeBack_70 : decode cX2_takeBack 70 = .ok (.return_, 1) := by decide +kernel
theorem dX2_bitOf_0 : decode cX2_bitOf 0 = .ok (.iload_n 0, 1) := by decide +kernel
theorem dX2_bitOf_1 : decode cX2_bitOf 1 = .ok (.ifCond .lt 15, 3) := by decide +kernel
theorem dX2_bitOf_4 : decode cX2_bitOf 4 = .ok (.iload_n 0, 1) := by decide +kernel
theorem dX2_bitOf_5 : decode cX2_bitOf 5 = .ok (.bipush 7, 2) := by decide +kernel
theorem dX2_bitOf_7 : decode cX2_bitOf 7 = .ok (.if_icmp .ge 9, 3) := by decide +kernel
theorem dX2_bitOf_10 : decode cX2_bitOf 10 = .ok (.iconst 1, 1) := by decide +kernel
theorem dX2_bitOf_11 : decode cX2_bitOf 11 = .ok (.iload_n 0, 1) := by decide +kernel
theorem dX2_bitOf_12 : decode cX2_bitOf 12 = .ok (.ishl, 1) := by decide +kernel
theorem dX2_bitOf_13 : decode cX2_bitOf 13 = .ok (.goto 4, 3) := by decide +kernel
theorem dX2_bitOf_16 : decode cX2_bitOf 16 = .ok (.iconst 0, 1) := by decide +kernel
theorem dX2_bitOf_17 : decode cX2_bitOf 17 = .ok (.ireturn, 1) := by decide +kernel
