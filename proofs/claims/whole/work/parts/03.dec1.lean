set_option maxRecDepth 20000 in
theorem ggX0_init_X4_init : GoodIn wsX0_init wsX4_init := goodIn_r _ [11, 12, 2, 3, 13, 14, 15, 16, 17, 18, 19, 20, 21, 22, 23] (by decide +kernel) (by decide +kernel)
set_option maxRecDepth 20000 in
theorem gX0_init_X4_init_n9 : GoodIn wsX0_init (wsX4_init) := ggX0_init_X4_init
theorem dX0_init_0 : decode cX0_init 0 = .ok (.aload_n 0, 1) := by decide +kernel
theorem dX0_init_1 : decode cX0_init 1 = .ok (.invokespecial 1, 3) := by decide +kernel
theorem dX0_init_4 : decode cX0_init 4 = .ok (.aload_n 0, 1) := by decide +kernel
theorem dX0_init_5 : decode cX0_init 5 = .ok (.new 7, 3) := by decide +kernel
theorem dX0_init_8 : decode cX0_init 8 = .ok (.dup, 1) := by decide +kernel
theorem dX0_init_9 : decode cX0_init 9 = .ok (.invokespecial 9, 3) := by decide +kernel
theorem dX0_init_12 : decode cX0_init 12 = .ok (.putfield 10, 3) := by decide +kernel
theorem dX0_init_15 : decode cX0_init 15 = .ok (.aload_n 0, 1) := by decide +kernel
theorem dX0_init_16 : decode cX0_init 16 = .ok (.aload_n 1, 1) := by decide +kernel
theorem dX0_init_17 : decode cX0_init 17 = .ok (.putfield 16, 3) := by decide +kernel
theorem dX0_init_20 : decode cX0_init 20 = .ok (.aload_n 0, 1) := by decide +kernel
theorem dX0_init_21 : decode cX0_init 21 = .ok (.aload_n 2, 1) := by decide +kernel
theorem dX0_init_22 : decode cX0_init 22 = .ok (.putfield 20, 3) := by decide +kernel
theorem dX0_init_25 : decode cX0_init 25 = .ok (.return_, 1) := by decide +kernel
set_option maxRecDepth 20000 in
theorem ggX0_seekServed_X0_weightOf : GoodIn wsX0_seekServed wsX0_weightOf := goodIn_r _ [6] (by decide +kernel) (by decide +kernel)
set_option maxRecDepth 20000 in
theorem gX0_seekServed_X0_weightOf : GoodIn wsX0_seekServed (va_wsS RX0 23 yX0_weightOf wsX0_weightOf) := goodIn_app (goodIn_of _ (by decide +kernel)) ggX0_seekServed_X0_weightOf
set_option maxRecDepth 20000 in
theorem ggX0_seekServed_X0_isServedBehind : GoodIn wsX0_seekServed wsX0_isServedBehind := goodIn_r _ [10, 11, 12, 13, 14, 15, 16, 17, 18, 19, 20, 21, 22, 23, 24, 25, 26, 27, 28, 29, 30, 31, 32, 33, 34, 35, 36, 37, 38, 39, 40, 41, 42, 43, 44, 45, 46, 47, 48, 49, 50, 51, 52, 53, 54, 55, 56, 57, 58, 59, 60, 61, 62, 63, 64, 65, 66, 67, 68, 69, 70, 71, 72, 73, 74, 75, 76, 77, 78, 79, 80, 81, 82, 83, 84, 85, 86, 87, 88, 89, 90, 94, 95, 96, 97, 98, 99, 100, 101, 102, 103, 104, 105, 106, 107, 108, 109] (by decide +kernel) (by decide +kernel)
set_option maxRecDepth 20000 in
theorem gX0_seekServed_X0_isServedBehind : GoodIn wsX0_seekServed (wsV RX0 27 RX0 yX0_isServedBehind wsX0_isServedBehind) := goodIn_app (goodIn_of _ (by decide +kernel)) ggX0_seekServed_X0_isServedBehind
set_option maxRecDepth 20000 in
theorem ggX0_seekServed_X0_commonDivisor : GoodIn wsX0_seekServed wsX0_commonDivisor := goodIn_r _ [93] (by decide +kernel) (by decide +kernel)
set_option maxRecDepth 20000 in
theorem gX0_seekServed_X0_commonDivisor : GoodIn wsX0_seekServed (va_wsS RX0 31 yX0_commonDivisor wsX0_commonDivisor) := goodIn_app (goodIn_of _ (by decide +kernel)) ggX0_seekServed_X0_commonDivisor
theorem dX0_seekServed_0 : decode cX0_seekServed 0 = .ok (.iconst 0, 1) := by decide +kernel
theorem dX0_seekServed_1 : decode cX0_seekServed 1 = .ok (.istore 4, 2) := by decide +kernel
theorem dX0_seekServed_3 : decode cX0_seekServed 3 = .ok (.iconst 1, 1) := by decide +kernel
theorem dX0_seekServed_4 : decode cX0_seekServed 4 = .ok (.istore 5, 2) := by decide +kernel
theorem dX0_seekServed_6 : decode cX0_seekServed 6 = .ok (.iconst 0, 1) := by decide +kernel
theorem dX0_seekServed_7 : decode cX0_seekServed 7 = .ok (.istore 6, 2) := by decide +kernel
theorem dX0_seekServed_9 : decode cX0_seekServed 9 = .ok (.iload 6, 2) := by decide +kernel
theorem dX0_seekServed_11 : decode cX0_seekServed 11 = .ok (.iload_n 2, 1) := by decide +kernel
theorem dX0_seekServed_12 : decode cX0_seekServed 12 = .ok (.if_icmp .ge 16, 3) := by decide +kernel
theorem dX0_seekServed_15 : decode cX0_seekServed 15 = .ok (.iload 5, 2) := by decide +kernel
theorem dX0_seekServed_17 : decode cX0_seekServed 17 = .ok (.bipush 10, 2) := by decide +kernel
theorem dX0_seekServed_19 : decode cX0_seekServed 19 = .ok (.imul, 1) := by decide +kernel
theorem dX0_seekServed_20 : decode cX0_seekServed 20 = .ok (.istore 5, 2) := by decide +kernel
theorem dX0_seekServed_22 : decode cX0_seekServed 22 = .ok (.iinc 6 1, 3) := by decide +kernel
theorem dX0_seekServed_25 : decode cX0_seekServed 25 = .ok (.goto (-16), 3) := by decide +kernel
theorem dX0_seekServed_28 : decode cX0_seekServed 28 = .ok (.iconst 0, 1) := by decide +kernel
theorem dX0_seekServed_29 : decode cX0_seekServed 29 = .ok (.istore 6, 2) := by decide +kernel
theorem dX0_seekServed_31 : decode cX0_seekServed 31 = .ok (.iload 6, 2) := by decide +kernel
theorem dX0_seekServed_33 : decode cX0_seekServed 33 = .ok (.iconst 1, 1) := by decide +kernel
theorem dX0_seekServed_34 : decode cX0_seekServed 34 = .ok (.iload_n 2, 1) := by decide +kernel
theorem dX0_seekServed_35 : decode cX0_seekServed 35 = .ok (.ishl, 1) := by decide +kernel
theorem dX0_seekServed_36 : decode cX0_seekServed 36 = .ok (.if_icmp .ge 41, 3) := by decide +kernel
theorem dX0_seekServed_39 : decode cX0_seekServed 39 = .ok (.iload 6, 2) := by decide +kernel
theorem dX0_seekServed_41 : decode cX0_seekServed 41 = .ok (.iload_n 2, 1) := by decide +kernel
theorem dX0_seekServed_42 : decode cX0_seekServed 42 = .ok (.iload_n 3, 1) := by decide +kernel
theorem dX0_seekServed_43 : decode cX0_seekServed 43 = .ok (.invokestatic 23, 3) := by decide +kernel
theorem dX0_seekServed_46 : decode cX0_seekServed 46 = .ok (.istore 7, 2) := by decide +kernel
theorem dX0_seekServed_48 : decode cX0_seekServed 48 = .ok (.iload 7, 2) := by decide +kernel
theorem dX0_seekServed_50 : decode cX0_seekServed 50 = .ok (.ifCond .le 21, 3) := by decide +kernel
theorem dX0_seekServed_53 : decode cX0_seekServed 53 = .ok (.aload_n 0, 1) := by decide +kernel
theorem dX0_seekServed_54 : decode cX0_seekServed 54 = .ok (.iload_n 1, 1) := by decide +kernel
theorem dX0_seekServed_55 : decode cX0_seekServed 55 = .ok (.iload_n 2, 1) := by decide +kernel
theorem dX0_seekServed_56 : decode cX0_seekServed 56 = .ok (.iload 6, 2) := by decide +kernel
theorem dX0_seekServed_58 : decode cX0_seekServed 58 = .ok (.invokevirtual 27, 3) := by decide +kernel
theorem dX0_seekServed_61 : decode cX0_seekServed 61 = .ok (.ifCond .eq 10, 3) := by decide +kernel
theorem dX0_seekServed_64 : decode cX0_seekServed 64 = .ok (.iload 4, 2) := by decide +kernel
theorem dX0_seekServed_66 : decode cX0_seekServed 66 = .ok (.iload 7, 2) := by decide +kernel
theorem dX0_seekServed_68 : decode cX0_seekServed 68 = .ok (.iadd, 1) := by decide +kernel
theorem dX0_seekServed_69 : decode cX0_seekServed 69 = .ok (.istore 4, 2) := by decide +kernel
theorem dX0_seekServed_71 : decode cX0_seekServed 71 = .ok (.iinc 6 1, 3) := by decide +kernel
theorem dX0_seekServed_74 : decode cX0_seekServed 74 = .ok (.goto (-43), 3) := by decide +kernel
theorem dX0_seekServed_77 : decode cX0_seekServed 77 = .ok (.iload 5, 2) := by decide +kernel
theorem dX0_seekServed_79 : decode cX0_seekServed 79 = .ok (.iload 4, 2) := by decide +kernel
theorem dX0_seekServed_81 : decode cX0_seekServed 81 = .ok (.invokestatic 31, 3) := by decide +kernel
theorem dX0_seekServed_84 : decode cX0_seekServed 84 = .ok (.istore 6, 2) := by decide +kernel
theorem dX0_seekServed_86 : decode cX0_seekServed 86 = .ok (.iload 6, 2) := by decide +kernel
theorem dX0_seekServed_88 : decode cX0_seekServed 88 = .ok (.ifCond .le 21, 3) := by decide +kernel
theorem dX0_seekServed_91 : decode cX0_seekServed 91 = .ok (.aload_n 0, 1) := by decide +kernel
theorem dX0_seekServed_92 : decode cX0_seekServed 92 = .ok (.iload 4, 2) := by decide +kernel
theorem dX0_seekServed_94 : decode cX0_seekServed 94 = .ok (.iload 6, 2) := by decide +kernel
theorem dX0_seekServed_96 : decode cX0_seekServed 96 = .ok (.idiv, 1) := by decide +kernel
theorem dX0_seekServed_97 : decode cX0_seekServed 97 = .ok (.putfield 35, 3) := by decide +kernel
theorem dX0_seekServed_100 : decode cX0_seekServed 100 = .ok (.aload_n 0, 1) := by decide +kernel
theorem dX0_seekServed_101 : decode cX0_seekServed 101 = .ok (.iload 5, 2) := by decide +kernel
theorem dX0_seekServed_103 : decode cX0_seekServed 103 = .ok (.iload 6, 2) := by decide +kernel
theorem dX0_seekServed_105 : decode cX0_seekServed 105 = .ok (.idiv, 1) := by decide +kernel
theorem dX0_seekServed_106 : decode cX0_seekServed 106 = .ok (.putfield 39, 3) := by decide +kernel
theorem dX0_seekServed_109 : decode cX0_seekServed 109 = .ok (.return_, 1) := by decide +kernel
theorem dX0_weightOf_0 : decode cX0_weightOf 0 = .ok (.iconst 1, 1) := by decide +kernel
theorem dX0_weightOf_1 : decode cX0_weightOf 1 = .ok (.istore_n 3, 1) := by decide +kernel
theorem dX0_weightOf_2 : decode cX0_weightOf 2 = .ok (.iconst 0, 1) := by decide +kernel
theorem dX0_weightOf_3 : decode cX0_weightOf 3 = .ok (.istore 4, 2) := by decide +kernel
theorem dX0_weightOf_5 : decode cX0_weightOf 5 = .ok (.iload 4, 2) := by decide +kernel
theorem dX0_weightOf_7 : decode cX0_weightOf 7 = .ok (.iload_n 1, 1) := by decide +kernel
theorem dX0_weightOf_8 : decode cX0_weightOf 8 = .ok (.if_icmp .ge 30, 3) := by decide +kernel
theorem dX0_weightOf_11 : decode cX0_weightOf 11 = .ok (.iload_n 3, 1) := by decide +kernel
theorem dX0_weightOf_12 : decode cX0_weightOf 12 = .ok (.iload_n 0, 1) := by decide +kernel
theorem dX0_weightOf_13 : decode cX0_weightOf 13 = .ok (.iload 4, 2) := by decide +kernel
theorem dX0_weightOf_15 : decode cX0_weightOf 15 = .ok (.ishr, 1) := by decide +kernel
theorem dX0_weightOf_16 : decode cX0_weightOf 16 = .ok (.iconst 1, 1) := by decide +kernel
theorem dX0_weightOf_17 : decode cX0_weightOf 17 = .ok (.iand, 1) := by decide +kernel
theorem dX0_weightOf_18 : decode cX0_weightOf 18 = .ok (.iconst 1, 1) := by decide +kernel
theorem dX0_weightOf_19 : decode cX0_weightOf 19 = .ok (.if_icmp .ne 7, 3) := by decide +kernel
theorem dX0_weightOf_22 : decode cX0_weightOf 22 = .ok (.iload_n 2, 1) := by decide +kernel
theorem dX0_weightOf_23 : decode cX0_weightOf 23 = .ok (.goto 7, 3) := by decide +kernel
theorem dX0_weightOf_26 : decode cX0_weightOf 26 = .ok (.bipush 10, 2) := by decide +kernel
theorem dX0_weightOf_28 : decode cX0_weightOf 28 = .ok (.iload_n 2, 1) := by decide +kernel
theorem dX0_weightOf_29 : decode cX0_weightOf 29 = .ok (.isub, 1) := by decide +kernel
theorem dX0_weightOf_30 : decode cX0_weightOf 30 = .ok (.imul, 1) := by decide +kernel
theorem dX0_weightOf_31 : decode cX0_weightOf 31 = .ok (.istore_n 3, 1) := by decide +kernel
theorem dX0_weightOf_32 : decode cX0_weightOf 32 = .ok (.iinc 4 1, 3) := by decide +kernel
theorem dX0_weightOf_35 : decode cX0_weightOf 35 = .ok (.goto (-30), 3) := by decide +kernel
theorem dX0_weightOf_38 : decode cX0_weightOf 38 = .ok (.iload_n 3, 1) := by decide +kernel
theorem dX0_weightOf_39 : decode cX0_weightOf 39 = .ok (.ireturn, 1) := by decide +kernel
set_option maxRecDepth 20000 in
theorem ggX0_isServedBehind_X4_copyFrom : GoodIn wsX0_isServedBehind wsX4_copyFrom := goodIn_r _ [8, 9, 10, 11, 12, 13, 14, 15, 16, 17, 18, 19, 20, 21, 22, 23, 24, 25, 26, 86, 87, 88, 89, 90, 91] (by decide +kernel) (by decide +kernel)
set_option maxRecDepth 20000 in
theorem gX0_isServedBehind_X4_copyFrom : GoodIn wsX0_isServedBehind (wsV RX0 42 RX4 yX4_copyFrom wsX4_copyFrom) := goodIn_app (goodIn_of _ (by decide +kernel)) ggX0_isServedBehind_X4_copyFrom
set_option maxRecDepth 20000 in
theorem ggX0_isServedBehind_X4_runMinute : GoodIn wsX0_isServedBehind wsX4_runMinute := goodIn_r _ [30, 14, 13, 31, 9, 32, 33, 34, 7, 35, 36, 37, 38, 21, 39, 40, 41, 17, 42, 43, 44, 45, 46, 47, 48, 49, 50, 51, 52, 53, 54, 55, 56, 57, 11, 58, 59, 60, 61, 12, 62, 63, 64, 65, 66, 67, 68, 69, 70, 71, 72, 10, 73, 74, 75, 76, 86, 87, 88, 89, 90, 91, 92, 93, 94, 95, 96] (by decide +kernel) (by decide +kernel)
set_option maxRecDepth 20000 in
theorem gX0_isServedBehind_X4_runMinute : GoodIn wsX0_isServedBehind (wsV RX0 46 RX4 yX4_runMinute wsX4_runMinute) := goodIn_app (goodIn_of _ (by decide +kernel)) ggX0_isServedBehind_X4_runMinute
set_option maxRecDepth 20000 in
theorem ggX0_isServedBehind_X4_isServed : GoodIn wsX0_isServedBehind wsX4_isServed := goodIn_r _ [80, 10, 40, 41, 17, 42, 86, 87, 88, 89, 90, 91] (by decide +kernel) (by decide +kernel)
set_option maxRecDepth 20000 in
theorem gX0_isServedBehind_X4_isServed : GoodIn wsX0_isServedBehind (wsV RX0 50 RX4 yX4_isServed wsX4_isServed) := goodIn_app (goodIn_of _ (by decide +kernel)) ggX0_isServedBehind_X4_isServed
theorem dX0_isServedBehind_0 : decode cX0_isServedBehind 0 = .ok (.aload_n 0, 1) := by decide +kernel
theorem dX0_isServedBehind_1 : decode cX0_isServedBehind 1 = .ok (.getfield 10, 3) := by decide +kernel
theorem dX0_isServedBehind_4 : decode cX0_isServedBehind 4 = .ok (.aload_n 0, 1) := by decide +kernel
theorem dX0_isServedBehind_5 : decode cX0_isServedBehind 5 = .ok (.getfield 20, 3) := by decide +kernel
theorem dX0_isServedBehind_8 : decode cX0_isServedBehind 8 = .ok (.invokevirtual 42, 3) := by decide +kernel
theorem dX0_isServedBehind_11 : decode cX0_isServedBehind 11 = .ok (.iconst 0, 1) := by decide +kernel
theorem dX0_isServedBehind_12 : decode cX0_isServedBehind 12 = .ok (.istore 4, 2) := by decide +kernel
theorem dX0_isServedBehind_14 : decode cX0_isServedBehind 14 = .ok (.iload 4, 2) := by decide +kernel
theorem dX0_isServedBehind_16 : decode cX0_isServedBehind 16 = .ok (.iload_n 2, 1) := by decide +kernel
theorem dX0_isServedBehind_17 : decode cX0_isServedBehind 17 = .ok (.if_icmp .ge 34, 3) := by decide +kernel
theorem dX0_isServedBehind_20 : decode cX0_isServedBehind 20 = .ok (.aload_n 0, 1) := by decide +kernel
theorem dX0_isServedBehind_21 : decode cX0_isServedBehind 21 = .ok (.getfield 10, 3) := by decide +kernel
theorem dX0_isServedBehind_24 : decode cX0_isServedBehind 24 = .ok (.aload_n 0, 1) := by decide +kernel
theorem dX0_isServedBehind_25 : decode cX0_isServedBehind 25 = .ok (.getfield 16, 3) := by decide +kernel
theorem dX0_isServedBehind_28 : decode cX0_isServedBehind 28 = .ok (.iload_n 3, 1) := by decide +kernel
theorem dX0_isServedBehind_29 : decode cX0_isServedBehind 29 = .ok (.iload 4, 2) := by decide +kernel
theorem dX0_isServedBehind_31 : decode cX0_isServedBehind 31 = .ok (.ishr, 1) := by decide +kernel
theorem dX0_isServedBehind_32 : decode cX0_isServedBehind 32 = .ok (.iconst 1, 1) := by decide +kernel
theorem dX0_isServedBehind_33 : decode cX0_isServedBehind 33 = .ok (.iand, 1) := by decide +kernel
theorem dX0_isServedBehind_34 : decode cX0_isServedBehind 34 = .ok (.ifCond .ne 7, 3) := by decide +kernel
theorem dX0_isServedBehind_37 : decode cX0_isServedBehind 37 = .ok (.iconst 1, 1) := by decide +kernel
theorem dX0_isServedBehind_38 : decode cX0_isServedBehind 38 = .ok (.goto 4, 3) := by decide +kernel
theorem dX0_isServedBehind_41 : decode cX0_isServedBehind 41 = .ok (.iconst 0, 1) := by decide +kernel
theorem dX0_isServedBehind_42 : decode cX0_isServedBehind 42 = .ok (.invokevirtual 46, 3) := by decide +kernel
theorem dX0_isServedBehind_45 : decode cX0_isServedBehind 45 = .ok (.iinc 4 1, 3) := by decide +kernel
theorem dX0_isServedBehind_48 : decode cX0_isServedBehind 48 = .ok (.goto (-34), 3) := by decide +kernel
theorem dX0_isServedBehind_51 : decode cX0_isServedBehind 51 = .ok (.aload_n 0, 1) := by decide +kernel
theorem dX0_isServedBehind_52 : decode cX0_isServedBehind 52 = .ok (.getfield 10, 3) := by decide +kernel
theorem dX0_isServedBehind_55 : decode cX0_isServedBehind 55 = .ok (.iload_n 1, 1) := by decide +kernel
theorem dX0_isServedBehind_56 : decode cX0_isServedBehind 56 = .ok (.invokevirtual 50, 3) := by decide +kernel
theorem dX0_isServedBehind_59 : decode cX0_isServedBehind 59 = .ok (.ireturn, 1) := by decide +kernel
theorem dX0_commonDivisor_0 : decode cX0_commonDivisor 0 = .ok (.iload_n 0, 1) := by decide +kernel
theorem dX0_commonDivisor_1 : decode cX0_commonDivisor 1 = .ok (.istore_n 2, 1) := by decide +kernel
theorem dX0_commonDivisor_2 : decode cX0_commonDivisor 2 = .ok (.iload_n 1, 1) := by decide +kernel
theorem dX0_commonDivisor_3 : decode cX0_commonDivisor 3 = .ok (.istore_n 3, 1) := by decide +kernel
theorem dX0_commonDivisor_4 : decode cX0_commonDivisor 4 = .ok (.iconst 0, 1) := by decide +kernel
theorem dX0_commonDivisor_5 : decode cX0_commonDivisor 5 = .ok (.istore 4, 2) := by decide +kernel
theorem dX0_commonDivisor_7 : decode cX0_commonDivisor 7 = .ok (.iload 4, 2) := by decide +kernel
theorem dX0_commonDivisor_9 : decode cX0_commonDivisor 9 = .ok (.bipush 64, 2) := by decide +kernel
theorem dX0_commonDivisor_11 : decode cX0_commonDivisor 11 = .ok (.if_icmp .ge 23, 3) := by decide +kernel
theorem dX0_commonDivisor_14 : decode cX0_commonDivisor 14 = .ok (.iload_n 3, 1) := by decide +kernel
theorem dX0_commonDivisor_15 : decode cX0_commonDivisor 15 = .ok (.ifCond .le 19, 3) := by decide +kernel
theorem dX0_commonDivisor_18 : decode cX0_commonDivisor 18 = .ok (.iload_n 2, 1) := by decide +kernel
theorem dX0_commonDivisor_19 : decode cX0_commonDivisor 19 = .ok (.iload_n 3, 1) := by decide +kernel
theorem dX0_commonDivisor_20 : decode cX0_commonDivisor 20 = .ok (.irem, 1) := by decide +kernel
theorem dX0_commonDivisor_21 : decode cX0_commonDivisor 21 = .ok (.istore 5, 2) := by decide +kernel
theorem dX0_commonDivisor_23 : decode cX0_commonDivisor 23 = .ok (.iload_n 3, 1) := by decide +kernel
theorem dX0_commonDivisor_24 : decode cX0_commonDivisor 24 = .ok (.istore_n 2, 1) := by decide +kernel
theorem dX0_commonDivisor_25 : decode cX0_commonDivisor 25 = .ok (.iload 5, 2) := by decide +kernel
theorem dX0_commonDivisor_27 : decode cX0_commonDivisor 27 = .ok (.istore_n 3, 1) := by decide +kernel
theorem dX0_commonDivisor_28 : decode cX0_commonDivisor 28 = .ok (.iinc 4 1, 3) := by decide +kernel
theorem dX0_commonDivisor_31 : decode cX0_commonDivisor 31 = .ok (.goto (-24), 3) := by decide +kernel
theorem dX0_commonDivisor_34 : decode cX0_commonDivisor 34 = .ok (.iload_n 2, 1) := by decide +kernel
theorem dX0_commonDivisor_35 : decode cX0_commonDivisor 35 = .ok (.ireturn, 1) := by decide +kernel
set_option maxRecDepth 20000 in
theorem ggX0_sceneBehindDay_X4_copyFrom : GoodIn wsX0_sceneBehindDay wsX4_copyFrom := goodIn_r _ [8, 9, 10, 11, 12, 13, 14, 15, 16, 17, 18, 19, 20, 21, 22, 23, 24, 25, 26, 123, 124, 125, 126, 127, 128] (by decide +kernel) (by decide +kernel)
set_option maxRecDepth 20000 in
theorem gX0_sceneBehindDay_X4_copyFrom : GoodIn wsX0_sceneBehindDay (wsV RX0 42 RX4 yX4_copyFrom wsX4_copyFrom) := goodIn_app (goodIn_of _ (by decide +kernel)) ggX0_sceneBehindDay_X4_copyFrom
set_option maxRecDepth 20000 in
theorem ggX0_sceneBehindDay_X0_drawOf : GoodIn wsX0_sceneBehindDay wsX0_drawOf := goodIn_r _ [30, 31, 32, 33] (by decide +kernel) (by decide +kernel)
set_option maxRecDepth 20000 in
theorem gX0_sceneBehindDay_X0_drawOf : GoodIn wsX0_sceneBehindDay (va_wsS RX0 54 yX0_drawOf wsX0_drawOf) := goodIn_app (goodIn_of _ (by decide +kernel)) ggX0_sceneBehindDay_X0_drawOf
set_option maxRecDepth 20000 in
theorem ggX0_sceneBehindDay_X0_actByDraw : GoodIn wsX0_sceneBehindDay wsX0_actByDraw := goodIn_r _ [37, 3, 38, 1, 39, 40, 41, 7, 42, 43, 44, 45, 46, 13, 9, 47, 48, 17, 49, 50, 51, 52, 53, 54, 55, 56, 57, 10, 58, 59, 60, 61, 62, 63, 64, 65, 66, 67, 68, 69, 70, 71, 72, 73, 74, 75, 76, 11, 77, 78, 79, 80, 81, 20, 21, 22, 82, 83, 84, 85, 12, 86, 87, 88, 89, 118, 119, 120, 121, 122, 129, 130, 131, 132, 133, 123, 124, 125, 126, 127, 128] (by decide +kernel) (by decide +kernel)
set_option maxRecDepth 20000 in
theorem gX0_sceneBehindDay_X0_actByDraw : GoodIn wsX0_sceneBehindDay (wsV RX0 57 RX0 yX0_actByDraw wsX0_actByDraw) := goodIn_app (goodIn_of _ (by decide +kernel)) ggX0_sceneBehindDay_X0_actByDraw
set_option maxRecDepth 20000 in
theorem ggX0_sceneBehindDay_X4_runMinute : GoodIn wsX0_sceneBehindDay wsX4_runMinute := goodIn_r _ [93, 14, 13, 94, 9, 95, 96, 97, 7, 98, 99, 100, 101, 21, 102, 47, 48, 17, 49, 103, 104, 105, 106, 107, 108, 109, 110, 111, 112, 113, 114, 115, 116, 117, 11, 82, 83, 84, 85, 12, 86, 87, 88, 89, 58, 59, 60, 69, 70, 71, 72, 10, 43, 44, 45, 46, 123, 124, 125, 126, 127, 128, 129, 130, 131, 132, 133] (by decide +kernel) (by decide +kernel)
set_option maxRecDepth 20000 in
theorem gX0_sceneBehindDay_X4_runMinute : GoodIn wsX0_sceneBehindDay (wsV RX0 46 RX4 yX4_runMinute wsX4_runMinute) := goodIn_app (goodIn_of _ (by decide +kernel)) ggX0_sceneBehindDay_X4_runMinute
theorem dX0_sceneBehindDay_0 : decode cX0_sceneBehindDay 0 = .ok (.aload_n 0, 1) := by decide +kernel
theorem dX0_sceneBehindDay_1 : decode cX0_sceneBehindDay 1 = .ok (.getfield 10, 3) := by decide +kernel
theorem dX0_sceneBehindDay_4 : decode cX0_sceneBehindDay 4 = .ok (.aload_n 0, 1) := by decide +kernel
theorem dX0_sceneBehindDay_5 : decode cX0_sceneBehindDay 5 = .ok (.getfield 20, 3) := by decide +kernel
theorem dX0_sceneBehindDay_8 : decode cX0_sceneBehindDay 8 = .ok (.invokevirtual 42, 3) := by decide +kernel
theorem dX0_sceneBehindDay_11 : decode cX0_sceneBehindDay 11 = .ok (.iconst 0, 1) := by decide +kernel
theorem dX0_sceneBehindDay_12 : decode cX0_sceneBehindDay 12 = .ok (.istore_n 3, 1) := by decide +kernel
theorem dX0_sceneBehindDay_13 : decode cX0_sceneBehindDay 13 = .ok (.iload_n 3, 1) := by decide +kernel
theorem dX0_sceneBehindDay_14 : decode cX0_sceneBehindDay 14 = .ok (.iload_n 2, 1) := by decide +kernel
theorem dX0_sceneBehindDay_15 : decode cX0_sceneBehindDay 15 = .ok (.if_icmp .ge 30, 3) := by decide +kernel
theorem dX0_sceneBehindDay_18 : decode cX0_sceneBehindDay 18 = .ok (.aload_n 0, 1) := by decide +kernel
theorem dX0_sceneBehindDay_19 : decode cX0_sceneBehindDay 19 = .ok (.iload_n 1, 1) := by decide +kernel
theorem dX0_sceneBehindDay_20 : decode cX0_sceneBehindDay 20 = .ok (.iload_n 3, 1) := by decide +kernel
theorem dX0_sceneBehindDay_21 : decode cX0_sceneBehindDay 21 = .ok (.invokestatic 54, 3) := by decide +kernel
theorem dX0_sceneBehindDay_24 : decode cX0_sceneBehindDay 24 = .ok (.invokevirtual 57, 3) := by decide +kernel
theorem dX0_sceneBehindDay_27 : decode cX0_sceneBehindDay 27 = .ok (.aload_n 0, 1) := by decide +kernel
theorem dX0_sceneBehindDay_28 : decode cX0_sceneBehindDay 28 = .ok (.getfield 10, 3) := by decide +kernel
theorem dX0_sceneBehindDay_31 : decode cX0_sceneBehindDay 31 = .ok (.aload_n 0, 1) := by decide +kernel
theorem dX0_sceneBehindDay_32 : decode cX0_sceneBehindDay 32 = .ok (.getfield 16, 3) := by decide +kernel
theorem dX0_sceneBehindDay_35 : decode cX0_sceneBehindDay 35 = .ok (.iconst 1, 1) := by decide +kernel
theorem dX0_sceneBehindDay_36 : decode cX0_sceneBehindDay 36 = .ok (.invokevirtual 46, 3) := by decide +kernel
theorem dX0_sceneBehindDay_39 : decode cX0_sceneBehindDay 39 = .ok (.iinc 3 1, 3) := by decide +kernel
theorem dX0_sceneBehindDay_42 : decode cX0_sceneBehindDay 42 = .ok (.goto (-29), 3) := by decide +kernel
theorem dX0_sceneBehindDay_45 : decode cX0_sceneBehindDay 45 = .ok (.aload_n 0, 1) := by decide +kernel
theorem dX0_sceneBehindDay_46 : decode cX0_sceneBehindDay 46 = .ok (.getfield 10, 3) := by decide +kernel
theorem dX0_sceneBehindDay_49 : decode cX0_sceneBehindDay 49 = .ok (.areturn, 1) := by decide +kernel
theorem dX0_drawOf_0 : decode cX0_drawOf 0 = .ok (.ldc2_w 61, 3) := by decide +kernel
theorem dX0_drawOf_3 : decode cX0_drawOf 3 = .ok (.iload_n 0, 1) := by decide +kernel
theorem dX0_drawOf_4 : decode cX0_drawOf 4 = .ok (.i2l, 1) := by decide +kernel
theorem dX0_drawOf_5 : decode cX0_drawOf 5 = .ok (.lmul, 1) := by decide +kernel
theorem dX0_drawOf_6 : decode cX0_drawOf 6 = .ok (.ldc2_w 63, 3) := by decide +kernel
theorem dX0_drawOf_9 : decode cX0_drawOf 9 = .ok (.iload_n 1, 1) := by decide +kernel
theorem dX0_drawOf_10 : decode cX0_drawOf 10 = .ok (.i2l, 1) := by decide +kernel
theorem dX0_drawOf_11 : decode cX0_drawOf 11 = .ok (.lmul, 1) := by decide +kernel
theorem dX0_drawOf_12 : decode cX0_drawOf 12 = .ok (.ladd, 1) := by decide +kernel
theorem dX0_drawOf_13 : decode cX0_drawOf 13 = .ok (.lconst 1, 1) := by decide +kernel
theorem dX0_drawOf_14 : decode cX0_drawOf 14 = .ok (.ladd, 1) := by decide +kernel
theorem dX0_drawOf_15 : decode cX0_drawOf 15 = .ok (.lstore_n 2, 1) := by decide +kernel
theorem dX0_drawOf_16 : decode cX0_drawOf 16 = .ok (.lload_n 2, 1) := by decide +kernel
theorem dX0_drawOf_17 : decode cX0_drawOf 17 = .ok (.lload_n 2, 1) := by decide +kernel
theorem dX0_drawOf_18 : decode cX0_drawOf 18 = .ok (.lmul, 1) := by decide +kernel
theorem dX0_drawOf_19 : decode cX0_drawOf 19 = .ok (.ldc2_w 65, 3) := by decide +kernel
theorem dX0_drawOf_22 : decode cX0_drawOf 22 = .ok (.lrem, 1) := by decide +kernel
theorem dX0_drawOf_23 : decode cX0_drawOf 23 = .ok (.l2i, 1) := by decide +kernel
theorem dX0_drawOf_24 : decode cX0_drawOf 24 = .ok (.ireturn, 1) := by decide +kernel
set_option maxRecDepth 20000 in
theorem ggX0_actByDraw_X4_isQueued : GoodIn wsX0_actByDraw wsX4_isQueued := goodIn_r _ [8, 9, 10, 11, 7, 12, 13, 14, 15, 16, 17, 18, 75, 76, 77, 78, 79, 80] (by decide +kernel) (by decide +kernel)
set_option maxRecDepth 20000 in
theorem gX0_actByDraw_X4_isQueued : GoodIn wsX0_actByDraw (wsV RX0 72 RX4 yX4_isQueued wsX4_isQueued) := goodIn_app (goodIn_of _ (by decide +kernel)) ggX0_actByDraw_X4_isQueued
set_option maxRecDepth 20000 in
theorem ggX0_actByDraw_X4_append : GoodIn wsX0_actByDraw wsX4_append := goodIn_r _ [22, 13, 23, 24, 25, 7, 26, 14, 27, 15, 16, 17, 18, 28, 29, 30, 75, 76, 77, 78, 79, 80] (by decide +kernel) (by decide +kernel)
set_option maxRecDepth 20000 in
theorem gX0_actByDraw_X4_append : GoodIn wsX0_actByDraw (wsV RX0 75 RX4 yX4_append wsX4_append) := goodIn_app (goodIn_of _ (by decide +kernel)) ggX0_actByDraw_X4_append
set_option maxRecDepth 20000 in
theorem ggX0_actByDraw_X4_canLet : GoodIn wsX0_actByDraw wsX4_canLet := goodIn_r _ [34, 9, 10, 11, 7, 12, 13, 14, 15, 16, 17, 18, 75, 76, 77, 78, 79, 80] (by decide +kernel) (by decide +kernel)
set_option maxRecDepth 20000 in
theorem gX0_actByDraw_X4_canLet : GoodIn wsX0_actByDraw (wsV RX0 78 RX4 yX4_canLet wsX4_canLet) := goodIn_app (goodIn_of _ (by decide +kernel)) ggX0_actByDraw_X4_canLet
set_option maxRecDepth 20000 in
theorem ggX0_actByDraw_X4_letPast : GoodIn wsX0_actByDraw wsX4_letPast := goodIn_r _ [38, 9, 10, 11, 7, 12, 13, 14, 15, 16, 17, 18, 39, 40, 41, 42, 27, 28, 29, 30, 23, 24, 25, 26, 75, 76, 77, 78, 79, 80] (by decide +kernel) (by decide +kernel)
set_option maxRecDepth 20000 in
theorem gX0_actByDraw_X4_letPast : GoodIn wsX0_actByDraw (wsV RX0 82 RX4 yX4_letPast wsX4_letPast) := goodIn_app (goodIn_of _ (by decide +kernel)) ggX0_actByDraw_X4_letPast
set_option maxRecDepth 20000 in
theorem ggX0_actByDraw_X4_settle : GoodIn wsX0_actByDraw wsX4_settle := goodIn_r _ [46, 47, 48, 49, 50, 7, 51, 52, 53, 54, 55, 56, 57, 58, 59, 60, 15, 16, 17, 18, 61, 62, 63, 64, 28, 29, 30, 75, 76, 77, 78, 79, 80] (by decide +kernel) (by decide +kernel)
set_option maxRecDepth 20000 in
theorem gX0_actByDraw_X4_settle : GoodIn wsX0_actByDraw (wsV RX0 86 RX4 yX4_settle wsX4_settle) := goodIn_app (goodIn_of _ (by decide +kernel)) ggX0_actByDraw_X4_settle
theorem dX0_actByDraw_0 : decode cX0_actByDraw 0 = .ok (.aload_n 0, 1) := by decide +kernel
theorem dX0_actByDraw_1 : decode cX0_actByDraw 1 = .ok (.getfield 16, 3) := by decide +kernel
theorem dX0_actByDraw_4 : decode cX0_actByDraw 4 = .ok (.getfield 67, 3) := by decide +kernel
theorem dX0_actByDraw_7 : decode cX0_actByDraw 7 = .ok (.iconst 1, 1) := by decide +kernel
theorem dX0_actByDraw_8 : decode cX0_actByDraw 8 = .ok (.if_icmp .ge 4, 3) := by decide +kernel
theorem dX0_actByDraw_11 : decode cX0_actByDraw 11 = .ok (.return_, 1) := by decide +kernel
theorem dX0_actByDraw_12 : decode cX0_actByDraw 12 = .ok (.iload_n 1, 1) := by decide +kernel
theorem dX0_actByDraw_13 : decode cX0_actByDraw 13 = .ok (.bipush 8, 2) := by decide +kernel
theorem dX0_actByDraw_15 : decode cX0_actByDraw 15 = .ok (.idiv, 1) := by decide +kernel
theorem dX0_actByDraw_16 : decode cX0_actByDraw 16 = .ok (.aload_n 0, 1) := by decide +kernel
theorem dX0_actByDraw_17 : decode cX0_actByDraw 17 = .ok (.getfield 16, 3) := by decide +kernel
theorem dX0_actByDraw_20 : decode cX0_actByDraw 20 = .ok (.getfield 67, 3) := by decide +kernel
theorem dX0_actByDraw_23 : decode cX0_actByDraw 23 = .ok (.irem, 1) := by decide +kernel
theorem dX0_actByDraw_24 : decode cX0_actByDraw 24 = .ok (.istore_n 2, 1) := by decide +kernel
theorem dX0_actByDraw_25 : decode cX0_actByDraw 25 = .ok (.iload_n 1, 1) := by decide +kernel
theorem dX0_actByDraw_26 : decode cX0_actByDraw 26 = .ok (.bipush 64, 2) := by decide +kernel
theorem dX0_actByDraw_28 : decode cX0_actByDraw 28 = .ok (.idiv, 1) := by decide +kernel
theorem dX0_actByDraw_29 : decode cX0_actByDraw 29 = .ok (.aload_n 0, 1) := by decide +kernel
theorem dX0_actByDraw_30 : decode cX0_actByDraw 30 = .ok (.getfield 16, 3) := by decide +kernel
theorem dX0_actByDraw_33 : decode cX0_actByDraw 33 = .ok (.getfield 67, 3) := by decide +kernel
theorem dX0_actByDraw_36 : decode cX0_actByDraw 36 = .ok (.irem, 1) := by decide +kernel
theorem dX0_actByDraw_37 : decode cX0_actByDraw 37 = .ok (.istore_n 3, 1) := by decide +kernel
theorem dX0_actByDraw_38 : decode cX0_actByDraw 38 = .ok (.iload_n 1, 1) := by decide +kernel
theorem dX0_actByDraw_39 : decode cX0_actByDraw 39 = .ok (.bipush 8, 2) := by decide +kernel
theorem dX0_actByDraw_41 : decode cX0_actByDraw 41 = .ok (.irem, 1) := by decide +kernel
theorem dX0_actByDraw_42 : decode cX0_actByDraw 42 = .ok (.tableswitch 88 0 3 #[30, 30, 52, 76], 30) := by decide +kernel
theorem dX0_actByDraw_72 : decode cX0_actByDraw 72 = .ok (.aload_n 0, 1) := by decide +kernel
theorem dX0_actByDraw_73 : decode cX0_actByDraw 73 = .ok (.getfield 10, 3) := by decide +kernel
theorem dX0_actByDraw_76 : decode cX0_actByDraw 76 = .ok (.iload_n 2, 1) := by decide +kernel
theorem dX0_actByDraw_77 : decode cX0_actByDraw 77 = .ok (.invokevirtual 72, 3) := by decide +kernel
theorem dX0_actByDraw_80 : decode cX0_actByDraw 80 = .ok (.ifCond .ne 50, 3) := by decide +kernel
theorem dX0_actByDraw_83 : decode cX0_actByDraw 83 = .ok (.aload_n 0, 1) := by decide +kernel
theorem dX0_actByDraw_84 : decode cX0_actByDraw 84 = .ok (.getfield 10, 3) := by decide +kernel
theorem dX0_actByDraw_87 : decode cX0_actByDraw 87 = .ok (.iload_n 2, 1) := by decide +kernel
theorem dX0_actByDraw_88 : decode cX0_actByDraw 88 = .ok (.invokevirtual 75, 3) := by decide +kernel
theorem dX0_actByDraw_91 : decode cX0_actByDraw 91 = .ok (.goto 39, 3) := by decide +kernel
theorem dX0_actByDraw_94 : decode cX0_actByDraw 94 = .ok (.aload_n 0, 1) := by decide +kernel
theorem dX0_actByDraw_95 : decode cX0_actByDraw 95 = .ok (.getfield 10, 3) := by decide +kernel
theorem dX0_actByDraw_98 : decode cX0_actByDraw 98 = .ok (.iload_n 2, 1) := by decide +kernel
theorem dX0_actByDraw_99 : decode cX0_actByDraw 99 = .ok (.iload_n 3, 1) := by decide +kernel
theorem dX0_actByDraw_100 : decode cX0_actByDraw 100 = .ok (.invokevirtual 78, 3) := by decide +kernel
theorem dX0_actByDraw_103 : decode cX0_actByDraw 103 = .ok (.ifCond .eq 27, 3) := by decide +kernel
theorem dX0_actByDraw_106 : decode cX0_actByDraw 106 = .ok (.aload_n 0, 1) := by decide +kernel
theorem dX0_actByDraw_107 : decode cX0_actByDraw 107 = .ok (.getfield 10, 3) := by decide +kernel
theorem dX0_actByDraw_110 : decode cX0_actByDraw 110 = .ok (.iload_n 2, 1) := by decide +kernel
theorem dX0_actByDraw_111 : decode cX0_actByDraw 111 = .ok (.iload_n 3, 1) := by decide +kernel
theorem dX0_actByDraw_112 : decode cX0_actByDraw 112 = .ok (.invokevirtual 82, 3) := by decide +kernel
theorem dX0_actByDraw_115 : decode cX0_actByDraw 115 = .ok (.goto 15, 3) := by decide +kernel
theorem dX0_actByDraw_118 : decode cX0_actByDraw 118 = .ok (.aload_n 0, 1) := by decide +kernel
theorem dX0_actByDraw_119 : decode cX0_actByDraw 119 = .ok (.getfield 10, 3) := by decide +kernel
theorem dX0_actByDraw_122 : decode cX0_actByDraw 122 = .ok (.iload_n 2, 1) := by decide +kernel
theorem dX0_actByDraw_123 : decode cX0_actByDraw 123 = .ok (.iload_n 3, 1) := by decide +kernel
theorem dX0_actByDraw_124 : decode cX0_actByDraw 124 = .ok (.invokevirtual 86, 3) := by decide +kernel
theorem dX0_actByDraw_127 : decode cX0_actByDraw 127 = .ok (.goto 3, 3) := by decide +kernel
theorem dX0_actByDraw_130 : decode cX0_actByDraw 130 = .ok (.return_, 1) := by decide +kernel
theorem dX1_init_0 : decode cX1_init 0 = .ok (.aload_n 0, 1) := by decide +kernel
theorem dX1_init_1 : decode cX1_init 1 = .ok (.invokespecial 3, 3) := by decide +kernel
theorem dX1_init_4 : decode cX1_init 4 = .ok (.aload_n 0, 1) := by decide +kernel
theorem dX1_init_5 : decode cX1_init 5 = .ok (.bipush 7, 2) := by decide +kernel
theorem dX1_init_7 : decode cX1_init 7 = .ok (.newarray .int, 2) := by decide +kernel
theorem dX1_init_9 : decode cX1_init 9 = .ok (.putfield 9, 3) := by decide +kernel
theorem dX1_init_12 : decode cX1_init 12 = .ok (.aload_n 0, 1) := by decide +kernel
theorem dX1_init_13 : decode cX1_init 13 = .ok (.bipush 7, 2) := by decide +kernel
theorem dX1_init_15 : decode cX1_init 15 = .ok (.newarray .int, 2) := by decide +kernel
theorem dX1_init_17 : decode cX1_init 17 = .ok (.putfield 15, 3) := by decide +kernel
theorem dX1_init_20 : decode cX1_init 20 = .ok (.aload_n 0, 1) := by decide +kernel
theorem dX1_init_21 : decode cX1_init 21 = .ok (.bipush 7, 2) := by decide +kernel
theorem dX1_init_23 : decode cX1_init 23 = .ok (.newarray .int, 2) := by decide +kernel
theorem dX1_init_25 : decode cX1_init 25 = .ok (.putfield 18, 3) := by decide +kernel
theorem dX1_init_28 : decode cX1_init 28 = .ok (.return_, 1) := by decide +kernel
theorem dX1_empty_0 : decode cX1_empty 0 = .ok (.aload_n 0, 1) := by decide +kernel
theorem dX1_empty_1 : decode cX1_empty 1 = .ok (.iconst 0, 1) := by decide +kernel
theorem dX1_empty_2 : decode cX1_empty 2 = .ok (.putfield 21, 3) := by decide +kernel
theorem dX1_empty_5 : decode cX1_empty 5 = .ok (.aload_n 0, 1) := by decide +kernel
theorem dX1_empty_6 : decode cX1_empty 6 = .ok (.iconst 3, 1) := by decide +kernel
theorem dX1_empty_7 : decode cX1_empty 7 = .ok (.putfield 25, 3) := by decide +kernel
theorem dX1_empty_10 : decode cX1_empty 10 = .ok (.return_, 1) := by decide +kernel
set_option maxRecDepth 20000 in
theorem ggX1_copyFrom_X3_copy : GoodIn wsX1_copyFrom wsX3_copy := goodIn_r _ [9, 10, 11, 12, 13, 14, 15, 16, 17] (by decide +kernel) (by decide +kernel)
set_option maxRecDepth 20000 in
theorem gX1_copyFrom_X3_copy : GoodIn wsX1_copyFrom (va_wsS RX1 28 yX3_copy wsX3_copy) := goodIn_app (goodIn_of _ (by decide +kernel)) ggX1_copyFrom_X3_copy
theorem dX1_copyFrom_0 : decode cX1_copyFrom 0 = .ok (.aload_n 1, 1) := by decide +kernel
theorem dX1_copyFrom_1 : decode cX1_copyFrom 1 = .ok (.getfield 9, 3) := by decide +kernel
theorem dX1_copyFrom_4 : decode cX1_copyFrom 4 = .ok (.aload_n 0, 1) := by decide +kernel
theorem dX1_copyFrom_5 : decode cX1_copyFrom 5 = .ok (.getfield 9, 3) := by decide +kernel
theorem dX1_copyFrom_8 : decode cX1_copyFrom 8 = .ok (.invokestatic 28, 3) := by decide +kernel
theorem dX1_copyFrom_11 : decode cX1_copyFrom 11 = .ok (.aload_n 1, 1) := by decide +kernel
theorem dX1_copyFrom_12 : decode cX1_copyFrom 12 = .ok (.getfield 15, 3) := by decide +kernel
theorem dX1_copyFrom_15 : decode cX1_copyFrom 15 = .ok (.aload_n 0, 1) := by decide +kernel
theorem dX1_copyFrom_16 : decode cX1_copyFrom 16 = .ok (.getfield 15, 3) := by decide +kernel
theorem dX1_copyFrom_19 : decode cX1_copyFrom 19 = .ok (.invokestatic 28, 3) := by decide +kernel
theorem dX1_copyFrom_22 : decode cX1_copyFrom 22 = .ok (.aload_n 1, 1) := by decide +kernel
theorem dX1_copyFrom_23 : decode cX1_copyFrom 23 = .ok (.getfield 18, 3) := by decide +kernel
theorem dX1_copyFrom_26 : decode cX1_copyFrom 26 = .ok (.aload_n 0, 1) := by decide +kernel
theorem dX1_copyFrom_27 : decode cX1_copyFrom 27 = .ok (.getfield 18, 3) := by decide +kernel
theorem dX1_copyFrom_30 : decode cX1_copyFrom 30 = .ok (.invokestatic 28, 3) := by decide +kernel
theorem dX1_copyFrom_33 : decode cX1_copyFrom 33 = .ok (.aload_n 0, 1) := by decide +kernel
theorem dX1_copyFrom_34 : decode cX1_copyFrom 34 = .ok (.aload_n 1, 1) := by decide +kernel
theorem dX1_copyFrom_35 : decode cX1_copyFrom 35 = .ok (.getfield 21, 3) := by decide +kernel
theorem dX1_copyFrom_38 : decode cX1_copyFrom 38 = .ok (.putfield 21, 3) := by decide +kernel
theorem dX1_copyFrom_41 : decode cX1_copyFrom 41 = .ok (.aload_n 0, 1) := by decide +kernel
theorem dX1_copyFrom_42 : decode cX1_copyFrom 42 = .ok (.aload_n 1, 1) := by decide +kernel
theorem dX1_copyFrom_43 : decode cX1_copyFrom 43 = .ok (.getfield 25, 3) := by decide +kernel
theorem dX1_copyFrom_46 : decode cX1_copyFrom 46 = .ok (.putfield 25, 3) := by decide +kernel
theorem dX1_copyFrom_49 : decode cX1_copyFrom 49 = .ok (.return_, 1) := by decide +kernel
set_option maxRecDepth 20000 in
theorem ggX1_add_X3_put : GoodIn wsX1_add wsX3_put := goodIn_r _ [8] (by decide +kernel) (by decide +kernel)
set_option maxRecDepth 20000 in
theorem gX1_add_X3_put : GoodIn wsX1_add (va_wsS RX1 34 yX3_put wsX3_put) := goodIn_app (goodIn_of _ (by decide +kernel)) ggX1_add_X3_put
theorem dX1_add_0 : decode cX1_add 0 = .ok (.aload_n 0, 1) := by decide +kernel
theorem dX1_add_1 : decode cX1_add 1 = .ok (.getfield 9, 3) := by decide +kernel
theorem dX1_add_4 : decode cX1_add 4 = .ok (.aload_n 0, 1) := by decide +kernel
theorem dX1_add_5 : decode cX1_add 5 = .ok (.getfield 21, 3) := by decide +kernel
theorem dX1_add_8 : decode cX1_add 8 = .ok (.iload_n 1, 1) := by decide +kernel
theorem dX1_add_9 : decode cX1_add 9 = .ok (.invokestatic 34, 3) := by decide +kernel
theorem dX1_add_12 : decode cX1_add 12 = .ok (.aload_n 0, 1) := by decide +kernel
theorem dX1_add_13 : decode cX1_add 13 = .ok (.getfield 15, 3) := by decide +kernel
theorem dX1_add_16 : decode cX1_add 16 = .ok (.aload_n 0, 1) := by decide +kernel
theorem dX1_add_17 : decode cX1_add 17 = .ok (.getfield 21, 3) := by decide +kernel
theorem dX1_add_20 : decode cX1_add 20 = .ok (.iload_n 2, 1) := by decide +kernel
theorem dX1_add_21 : decode cX1_add 21 = .ok (.invokestatic 34, 3) := by decide +kernel
theorem dX1_add_24 : decode cX1_add 24 = .ok (.aload_n 0, 1) := by decide +kernel
theorem dX1_add_25 : decode cX1_add 25 = .ok (.getfield 18, 3) := by decide +kernel
theorem dX1_add_28 : decode cX1_add 28 = .ok (.aload_n 0, 1) := by decide +kernel
theorem dX1_add_29 : decode cX1_add 29 = .ok (.getfield 21, 3) := by decide +kernel
theorem dX1_add_32 : decode cX1_add 32 = .ok (.iload_n 3, 1) := by decide +kernel
theorem dX1_add_33 : decode cX1_add 33 = .ok (.invokestatic 34, 3) := by decide +kernel
theorem dX1_add_36 : decode cX1_add 36 = .ok (.aload_n 0, 1) := by decide +kernel
theorem dX1_add_37 : decode cX1_add 37 = .ok (.dup, 1) := by decide +kernel
theorem dX1_add_38 : decode cX1_add 38 = .ok (.getfield 21, 3) := by decide +kernel
theorem dX1_add_41 : decode cX1_add 41 = .ok (.iconst 1, 1) := by decide +kernel
theorem dX1_add_42 : decode cX1_add 42 = .ok (.iadd, 1) := by decide +kernel
theorem dX1_add_43 : decode cX1_add 43 = .ok (.putfield 21, 3) := by decide +kernel
theorem dX1_add_46 : decode cX1_add 46 = .ok (.return_, 1) := by decide +kernel
theorem dX1_isPerson_0 : decode cX1_isPerson 0 = .ok (.iload_n 1, 1) := by decide +kernel
theorem dX1_isPerson_1 : decode cX1_isPerson 1 = .ok (.ifCond .lt 15, 3) := by decide +kernel
theorem dX1_isPerson_4 : decode cX1_isPerson 4 = .ok (.iload_n 1, 1) := by decide +kernel
theorem dX1_isPerson_5 : decode cX1_isPerson 5 = .ok (.aload_n 0, 1) := by decide +kernel
theorem dX1_isPerson_6 : decode cX1_isPerson 6 = .ok (.getfield 21, 3) := by decide +kernel
theorem dX1_isPerson_9 : decode cX1_isPerson 9 = .ok (.if_icmp .ge 7, 3) := by decide +kernel
theorem dX1_isPerson_12 : decode cX1_isPerson 12 = .ok (.iconst 1, 1) := by decide +kernel
theorem dX1_isPerson_13 : decode cX1_isPerson 13 = .ok (.goto 4, 3) := by decide +kernel
theorem dX1_isPerson_16 : decode cX1_isPerson 16 = .ok (.iconst 0, 1) := by decide +kernel
theorem dX1_isPerson_17 : decode cX1_isPerson 17 = .ok (.ireturn, 1) := by decide +kernel
set_option maxRecDepth 20000 in
theorem ggX1_gain_X3_at : GoodIn wsX1_gain wsX3_at := goodIn_r _ [5] (by decide +kernel) (by decide +kernel)
set_option maxRecDepth 20000 in
theorem gX1_gain_X3_at : GoodIn wsX1_gain (va_wsS RX1 38 yX3_at wsX3_at) := goodIn_app (goodIn_of _ (by decide +kernel)) ggX1_gain_X3_at
theorem dX1_gain_0 : decode cX1_gain 0 = .ok (.aload_n 0, 1) := by decide +kernel
theorem dX1_gain_1 : decode cX1_gain 1 = .ok (.getfield 15, 3) := by decide +kernel
theorem dX1_gain_4 : decode cX1_gain 4 = .ok (.iload_n 1, 1) := by decide +kernel
theorem dX1_gain_5 : decode cX1_gain 5 = .ok (.invokestatic 38, 3) := by decide +kernel
theorem dX1_gain_8 : decode cX1_gain 8 = .ok (.aload_n 0, 1) := by decide +kernel
theorem dX1_gain_9 : decode cX1_gain 9 = .ok (.getfield 15, 3) := by decide +kernel
theorem dX1_gain_12 : decode cX1_gain 12 = .ok (.iload_n 2, 1) := by decide +kernel
theorem dX1_gain_13 : decode cX1_gain 13 = .ok (.invokestatic 38, 3) := by decide +kernel
theorem dX1_gain_16 : decode cX1_gain 16 = .ok (.isub, 1) := by decide +kernel
theorem dX1_gain_17 : decode cX1_gain 17 = .ok (.ireturn, 1) := by decide +kernel
set_option maxRecDepth 20000 in
theorem ggX2_init_X4_init : GoodIn wsX2_init wsX4_init := goodIn_r _ [14, 15, 2, 3, 8, 16, 17, 18, 19, 20, 21, 22, 23, 24, 25] (by decide +kernel) (by decide +kernel)
set_option maxRecDepth 20000 in
theorem gX2_init_X4_init_n11 : GoodIn wsX2_init (wsX4_init) := ggX2_init_X4_init
theorem dX2_init_0 : decode cX2_init 0 = .ok (.aload_n 0, 1) := by decide +kernel
theorem dX2_init_1 : decode cX2_init 1 = .ok (.invokespecial 3, 3) := by decide +kernel
theorem dX2_init_4 : decode cX2_init 4 = .ok (.aload_n 0, 1) := by decide +kernel
theorem dX2_init_5 : decode cX2_init 5 = .ok (.new 9, 3) := by decide +kernel
theorem dX2_init_8 : decode cX2_init 8 = .ok (.dup, 1) := by decide +kernel
theorem dX2_init_9 : decode cX2_init 9 = .ok (.invokespecial 11, 3) := by decide +kernel
theorem dX2_init_12 : decode cX2_init 12 = .ok (.putfield 12, 3) := by decide +kernel
theorem dX2_init_15 : decode cX2_init 15 = .ok (.aload_n 0, 1) := by decide +kernel
theorem dX2_init_16 : decode cX2_init 16 = .ok (.sipush 128, 3) := by decide +kernel
theorem dX2_init_19 : decode cX2_init 19 = .ok (.newarray .int, 2) := by decide +kernel
theorem dX2_init_21 : decode cX2_init 21 = .ok (.putfield 18, 3) := by decide +kernel
theorem dX2_init_24 : decode cX2_init 24 = .ok (.aload_n 0, 1) := by decide +kernel
theorem dX2_init_25 : decode cX2_init 25 = .ok (.sipush 128, 3) := by decide +kernel
theorem dX2_init_28 : decode cX2_init 28 = .ok (.newarray .int, 2) := by decide +kernel
theorem dX2_init_30 : decode cX2_init 30 = .ok (.putfield 22, 3) := by decide +kernel
theorem dX2_init_33 : decode cX2_init 33 = .ok (.aload_n 0, 1) := by decide +kernel
theorem dX2_init_34 : decode cX2_init 34 = .ok (.aload_n 1, 1) := by decide +kernel
theorem dX2_init_35 : decode cX2_init 35 = .ok (.putfield 25, 3) := by decide +kernel
theorem dX2_init_38 : decode cX2_init 38 = .ok (.aload_n 0, 1) := by decide +kernel
theorem dX2_init_39 : decode cX2_init 39 = .ok (.aload_n 2, 1) := by decide +kernel
theorem dX2_init_40 : decode cX2_init 40 = .ok (.putfield 29, 3) := by decide +kernel
theorem dX2_init_43 : decode cX2_init 43 = .ok (.return_, 1) := by decide +kernel
set_option maxRecDepth 20000 in
theorem ggX2_sceneBehind_X4_copyFrom : GoodIn wsX2_sceneBehind wsX4_copyFrom := goodIn_r _ [8, 9, 10, 11, 12, 13, 14, 15, 16, 17, 18, 19, 20, 21, 22, 23, 24, 25, 26, 89, 90, 91, 92, 93, 94] (by decide +kernel) (by decide +kernel)
set_option maxRecDepth 20000 in
theorem gX2_sceneBehind_X4_copyFrom : GoodIn wsX2_sceneBehind (wsV RX2 32 RX4 yX4_copyFrom wsX4_copyFrom) := goodIn_app (goodIn_of _ (by decide +kernel)) ggX2_sceneBehind_X4_copyFrom
set_option maxRecDepth 20000 in
theorem ggX2_sceneBehind_X4_run : GoodIn wsX2_sceneBehind wsX4_run := goodIn_r _ [30, 31, 32, 33, 7, 34, 14, 13, 35, 9, 36, 37, 38, 39, 40, 41, 42, 21, 43, 44, 45, 17, 46, 47, 48, 49, 50, 51, 52, 53, 54, 55, 56, 57, 58, 59, 60, 61, 11, 62, 63, 64, 65, 12, 66, 67, 68, 69, 70, 71, 72, 73, 74, 75, 76, 10, 77, 78, 79, 80, 89, 90, 91, 92, 93, 94, 95, 96, 97, 98, 99] (by decide +kernel) (by decide +kernel)
set_option maxRecDepth 20000 in
theorem gX2_sceneBehind_X4_run : GoodIn wsX2_sceneBehind (wsV RX2 36 RX4 yX4_run wsX4_run) := goodIn_app (goodIn_of _ (by decide +kernel)) ggX2_sceneBehind_X4_run
theorem dX2_sceneBehind_0 : decode cX2_sceneBehind 0 = .ok (.aload_n 0, 1) := by decide +kernel
theorem dX2_sceneBehind_1 : decode cX2_sceneBehind 1 = .ok (.getfield 12, 3) := by decide +kernel
theorem dX2_sceneBehind_4 : decode cX2_sceneBehind 4 = .ok (.aload_n 0, 1) := by decide +kernel
theorem dX2_sceneBehind_5 : decode cX2_sceneBehind 5 = .ok (.getfield 29, 3) := by decide +kernel
theorem dX2_sceneBehind_8 : decode cX2_sceneBehind 8 = .ok (.invokevirtual 32, 3) := by decide +kernel
theorem dX2_sceneBehind_11 : decode cX2_sceneBehind 11 = .ok (.aload_n 0, 1) := by decide +kernel
theorem dX2_sceneBehind_12 : decode cX2_sceneBehind 12 = .ok (.getfield 12, 3) := by decide +kernel
theorem dX2_sceneBehind_15 : decode cX2_sceneBehind 15 = .ok (.aload_n 0, 1) := by decide +kernel
theorem dX2_sceneBehind_16 : decode cX2_sceneBehind 16 = .ok (.getfield 25, 3) := by decide +kernel
theorem dX2_sceneBehind_19 : decode cX2_sceneBehind 19 = .ok (.iload_n 1, 1) := by decide +kernel
theorem dX2_sceneBehind_20 : decode cX2_sceneBehind 20 = .ok (.invokevirtual 36, 3) := by decide +kernel
theorem dX2_sceneBehind_23 : decode cX2_sceneBehind 23 = .ok (.aload_n 0, 1) := by decide +kernel
theorem dX2_sceneBehind_24 : decode cX2_sceneBehind 24 = .ok (.getfield 12, 3) := by decide +kernel
theorem dX2_sceneBehind_27 : decode cX2_sceneBehind 27 = .ok (.areturn, 1) := by decide +kernel
set_option maxRecDepth 20000 in
theorem ggX2_waitOf_X4_copyFrom : GoodIn wsX2_waitOf wsX4_copyFrom := goodIn_r _ [7, 8, 9, 10, 11, 12, 13, 14, 15, 16, 17, 18, 19, 20, 21, 22, 23, 24, 25, 94, 95, 96, 97, 98, 99] (by decide +kernel) (by decide +kernel)
set_option maxRecDepth 20000 in
theorem gX2_waitOf_X4_copyFrom : GoodIn wsX2_waitOf (wsV RX2 32 RX4 yX4_copyFrom wsX4_copyFrom) := goodIn_app (goodIn_of _ (by decide +kernel)) ggX2_waitOf_X4_copyFrom
set_option maxRecDepth 20000 in
theorem ggX2_waitOf_X2_waitInTrialOf : GoodIn wsX2_waitOf wsX2_waitInTrialOf := goodIn_r _ [30, 1, 31, 32, 33, 34, 6, 35, 13, 12, 36, 8, 37, 38, 39, 40, 41, 42, 43, 20, 44, 45, 46, 16, 47, 48, 49, 50, 51, 52, 53, 54, 55, 56, 57, 58, 59, 60, 61, 62, 10, 63, 64, 65, 66, 11, 67, 68, 69, 70, 71, 72, 73, 74, 75, 76, 77, 9, 78, 79, 80, 81, 82, 83, 84, 85, 86, 87, 88, 89, 90, 91, 92, 93, 94, 95, 96, 97, 98, 99, 100, 101, 102, 103, 104] (by decide +kernel) (by decide +kernel)
set_option maxRecDepth 20000 in
theorem gX2_waitOf_X2_waitInTrialOf : GoodIn wsX2_waitOf (wsV RX2 40 RX2 yX2_waitInTrialOf wsX2_waitInTrialOf) := goodIn_app (goodIn_of _ (by decide +kernel)) ggX2_waitOf_X2_waitInTrialOf
theorem dX2_waitOf_0 : decode cX2_waitOf 0 = .ok (.aload_n 0, 1) := by decide +kernel
theorem dX2_waitOf_1 : decode cX2_waitOf 1 = .ok (.getfield 12, 3) := by decide +kernel
theorem dX2_waitOf_4 : decode cX2_waitOf 4 = .ok (.aload_n 0, 1) := by decide +kernel
theorem dX2_waitOf_5 : decode cX2_waitOf 5 = .ok (.getfield 29, 3) := by decide +kernel
theorem dX2_waitOf_8 : decode cX2_waitOf 8 = .ok (.invokevirtual 32, 3) := by decide +kernel
theorem dX2_waitOf_11 : decode cX2_waitOf 11 = .ok (.aload_n 0, 1) := by decide +kernel
theorem dX2_waitOf_12 : decode cX2_waitOf 12 = .ok (.iload_n 1, 1) := by decide +kernel
theorem dX2_waitOf_13 : decode cX2_waitOf 13 = .ok (.invokevirtual 40, 3) := by decide +kernel
theorem dX2_waitOf_16 : decode cX2_waitOf 16 = .ok (.ireturn, 1) := by decide +kernel
set_option maxRecDepth 20000 in
theorem ggX2_waitInTrialOf_X4_runMinute : GoodIn wsX2_waitInTrialOf wsX4_runMinute := goodIn_r _ [7, 8, 9, 10, 11, 12, 13, 14, 6, 15, 16, 17, 18, 19, 20, 21, 22, 23, 24, 25, 26, 27, 28, 29, 30, 31, 32, 33, 34, 35, 36, 37, 38, 39, 40, 41, 42, 43, 44, 45, 46, 47, 48, 49, 50, 51, 52, 53, 54, 55, 56, 57, 58, 59, 60, 61, 74, 75, 76, 77, 78, 79, 80, 81, 82, 83, 84] (by decide +kernel) (by decide +kernel)
set_option maxRecDepth 20000 in
theorem gX2_waitInTrialOf_X4_runMinute : GoodIn wsX2_waitInTrialOf (wsV RX2 44 RX4 yX4_runMinute wsX4_runMinute) := goodIn_app (goodIn_of _ (by decide +kernel)) ggX2_waitInTrialOf_X4_runMinute
set_option maxRecDepth 20000 in
theorem ggX2_waitInTrialOf_X4_isServed : GoodIn wsX2_waitInTrialOf wsX4_isServed := goodIn_r _ [65, 57, 21, 22, 23, 24, 74, 75, 76, 77, 78, 79] (by decide +kernel) (by decide +kernel)
set_option maxRecDepth 20000 in
theorem gX2_waitInTrialOf_X4_isServed : GoodIn wsX2_waitInTrialOf (wsV RX2 48 RX4 yX4_isServed wsX4_isServed) := goodIn_app (goodIn_of _ (by decide +kernel)) ggX2_waitInTrialOf_X4_isServed
theorem dX2_waitInTrialOf_0 : decode cX2_waitInTrialOf 0 = .ok (.iconst 1, 1) := by decide +kernel
theorem dX2_waitInTrialOf_1 : decode cX2_waitInTrialOf 1 = .ok (.istore_n 2, 1) := by decide +kernel
theorem dX2_waitInTrialOf_2 : decode cX2_waitInTrialOf 2 = .ok (.iload_n 2, 1) := by decide +kernel
theorem dX2_waitInTrialOf_3 : decode cX2_waitInTrialOf 3 = .ok (.bipush 60, 2) := by decide +kernel
theorem dX2_waitInTrialOf_5 : decode cX2_waitInTrialOf 5 = .ok (.if_icmp .gt 34, 3) := by decide +kernel
theorem dX2_waitInTrialOf_8 : decode cX2_waitInTrialOf 8 = .ok (.aload_n 0, 1) := by decide +kernel
theorem dX2_waitInTrialOf_9 : decode cX2_waitInTrialOf 9 = .ok (.getfield 12, 3) := by decide +kernel
theorem dX2_waitInTrialOf_12 : decode cX2_waitInTrialOf 12 = .ok (.aload_n 0, 1) := by decide +kernel
theorem dX2_waitInTrialOf_13 : decode cX2_waitInTrialOf 13 = .ok (.getfield 25, 3) := by decide +kernel
theorem dX2_waitInTrialOf_16 : decode cX2_waitInTrialOf 16 = .ok (.iconst 1, 1) := by decide +kernel
theorem dX2_waitInTrialOf_17 : decode cX2_waitInTrialOf 17 = .ok (.invokevirtual 44, 3) := by decide +kernel
theorem dX2_waitInTrialOf_20 : decode cX2_waitInTrialOf 20 = .ok (.aload_n 0, 1) := by decide +kernel
theorem dX2_waitInTrialOf_21 : decode cX2_waitInTrialOf 21 = .ok (.getfield 12, 3) := by decide +kernel
theorem dX2_waitInTrialOf_24 : decode cX2_waitInTrialOf 24 = .ok (.iload_n 1, 1) := by decide +kernel
theorem dX2_waitInTrialOf_25 : decode cX2_waitInTrialOf 25 = .ok (.invokevirtual 48, 3) := by decide +kernel
theorem dX2_waitInTrialOf_28 : decode cX2_waitInTrialOf 28 = .ok (.ifCond .eq 5, 3) := by decide +kernel
theorem dX2_waitInTrialOf_31 : decode cX2_waitInTrialOf 31 = .ok (.iload_n 2, 1) := by decide +kernel
theorem dX2_waitInTrialOf_32 : decode cX2_waitInTrialOf 32 = .ok (.ireturn, 1) := by decide +kernel
theorem dX2_waitInTrialOf_33 : decode cX2_waitInTrialOf 33 = .ok (.iinc 2 1, 3) := by decide +kernel
theorem dX2_waitInTrialOf_36 : decode cX2_waitInTrialOf 36 = .ok (.goto (-34), 3) := by decide +kernel
theorem dX2_waitInTrialOf_39 : decode cX2_waitInTrialOf 39 = .ok (.bipush (-4), 2) := by decide +kernel
theorem dX2_waitInTrialOf_41 : decode cX2_waitInTrialOf 41 = .ok (.ireturn, 1) := by decide +kernel
set_option maxRecDepth 20000 in
theorem ggX2_seekStand_X4_copyFrom : GoodIn wsX2_seekStand wsX4_copyFrom := goodIn_r _ [10, 11, 12, 13, 14, 15, 16, 17, 18, 19, 20, 21, 22, 23, 24, 25, 26, 27, 28, 115, 116, 117, 118, 119, 120] (by decide +kernel) (by decide +kernel)
set_option maxRecDepth 20000 in
theorem gX2_seekStand_X4_copyFrom : GoodIn wsX2_seekStand (wsV RX2 32 RX4 yX4_copyFrom wsX4_copyFrom) := goodIn_app (goodIn_of _ (by decide +kernel)) ggX2_seekStand_X4_copyFrom
set_option maxRecDepth 20000 in
theorem ggX2_seekStand_X4_takeOut : GoodIn wsX2_seekStand wsX4_takeOut := goodIn_r _ [32, 15, 11, 12, 33, 34, 35, 9, 36, 37, 38, 19, 39, 40, 41, 42, 115, 116, 117, 118, 119, 120] (by decide +kernel) (by decide +kernel)
set_option maxRecDepth 20000 in
theorem gX2_seekStand_X4_takeOut : GoodIn wsX2_seekStand (wsV RX2 60 RX4 yX4_takeOut wsX4_takeOut) := goodIn_app (goodIn_of _ (by decide +kernel)) ggX2_seekStand_X4_takeOut
set_option maxRecDepth 20000 in
theorem ggX2_seekStand_X4_insert : GoodIn wsX2_seekStand wsX4_insert := goodIn_r _ [46, 15, 11, 12, 37, 38, 19, 39, 40, 41, 42, 115, 116, 117, 118, 119, 120] (by decide +kernel) (by decide +kernel)
set_option maxRecDepth 20000 in
theorem gX2_seekStand_X4_insert : GoodIn wsX2_seekStand (wsV RX2 64 RX4 yX4_insert wsX4_insert) := goodIn_app (goodIn_of _ (by decide +kernel)) ggX2_seekStand_X4_insert
set_option maxRecDepth 20000 in
theorem ggX2_seekStand_X4_run : GoodIn wsX2_seekStand wsX4_run := goodIn_r _ [50, 51, 52, 53, 9, 54, 16, 15, 55, 11, 56, 57, 58, 59, 60, 61, 62, 23, 63, 37, 38, 19, 39, 64, 65, 66, 67, 68, 69, 70, 71, 72, 73, 74, 75, 76, 77, 78, 13, 79, 80, 81, 82, 14, 83, 84, 85, 86, 40, 41, 42, 87, 30, 31, 32, 12, 33, 34, 35, 36, 115, 116, 117, 118, 119, 120, 121, 122, 123, 124, 125] (by decide +kernel) (by decide +kernel)
set_option maxRecDepth 20000 in
theorem gX2_seekStand_X4_run : GoodIn wsX2_seekStand (wsV RX2 36 RX4 yX4_run wsX4_run) := goodIn_app (goodIn_of _ (by decide +kernel)) ggX2_seekStand_X4_run
set_option maxRecDepth 20000 in
theorem ggX2_seekStand_X4_isServed : GoodIn wsX2_seekStand wsX4_isServed := goodIn_r _ [91, 12, 37, 38, 19, 39, 115, 116, 117, 118, 119, 120] (by decide +kernel) (by decide +kernel)
set_option maxRecDepth 20000 in
theorem gX2_seekStand_X4_isServed : GoodIn wsX2_seekStand (wsV RX2 48 RX4 yX4_isServed wsX4_isServed) := goodIn_app (goodIn_of _ (by decide +kernel)) ggX2_seekStand_X4_isServed
set_option maxRecDepth 20000 in
theorem ggX2_seekStand_X4_dueOf : GoodIn wsX2_seekStand wsX4_dueOf := goodIn_r _ [95, 79, 80, 81, 9, 82, 14, 37, 38, 19, 39, 115, 116, 117, 118, 119, 120] (by decide +kernel) (by decide +kernel)
set_option maxRecDepth 20000 in
theorem gX2_seekStand_X4_dueOf : GoodIn wsX2_seekStand (wsV RX2 67 RX4 yX4_dueOf wsX4_dueOf) := goodIn_app (goodIn_of _ (by decide +kernel)) ggX2_seekStand_X4_dueOf
set_option maxRecDepth 20000 in
theorem ggX2_seekStand_X2_offerMost : GoodIn wsX2_seekStand wsX2_offerMost := goodIn_r _ [100, 1, 101, 102, 103, 104, 99, 105, 106, 107, 108, 109, 110, 111, 112, 113, 114] (by decide +kernel) (by decide +kernel)
set_option maxRecDepth 20000 in
theorem gX2_seekStand_X2_offerMost : GoodIn wsX2_seekStand (wsV RX2 70 RX2 yX2_offerMost wsX2_offerMost) := goodIn_app (goodIn_of _ (by decide +kernel)) ggX2_seekStand_X2_offerMost
theorem dX2_seekStand_0 : decode cX2_seekStand 0 = .ok (.aload_n 0, 1) := by decide +kernel
theorem dX2_seekStand_1 : decode cX2_seekStand 1 = .ok (.iconst 0, 1) := by decide +kernel
theorem dX2_seekStand_2 : decode cX2_seekStand 2 = .ok (.putfield 52, 3) := by decide +kernel
theorem dX2_seekStand_5 : decode cX2_seekStand 5 = .ok (.iconst 0, 1) := by decide +kernel
theorem dX2_seekStand_6 : decode cX2_seekStand 6 = .ok (.istore_n 3, 1) := by decide +kernel
theorem dX2_seekStand_7 : decode cX2_seekStand 7 = .ok (.iload_n 3, 1) := by decide +kernel
theorem dX2_seekStand_8 : decode cX2_seekStand 8 = .ok (.aload_n 0, 1) := by decide +kernel
theorem dX2_seekStand_9 : decode cX2_seekStand 9 = .ok (.getfield 29, 3) := by decide +kernel
theorem dX2_seekStand_12 : decode cX2_seekStand 12 = .ok (.getfield 56, 3) := by decide +kernel
theorem dX2_seekStand_15 : decode cX2_seekStand 15 = .ok (.if_icmp .ge 74, 3) := by decide +kernel
theorem dX2_seekStand_18 : decode cX2_seekStand 18 = .ok (.aload_n 0, 1) := by decide +kernel
theorem dX2_seekStand_19 : decode cX2_seekStand 19 = .ok (.getfield 12, 3) := by decide +kernel
theorem dX2_seekStand_22 : decode cX2_seekStand 22 = .ok (.aload_n 0, 1) := by decide +kernel
theorem dX2_seekStand_23 : decode cX2_seekStand 23 = .ok (.getfield 29, 3) := by decide +kernel
theorem dX2_seekStand_26 : decode cX2_seekStand 26 = .ok (.invokevirtual 32, 3) := by decide +kernel
theorem dX2_seekStand_29 : decode cX2_seekStand 29 = .ok (.aload_n 0, 1) := by decide +kernel
theorem dX2_seekStand_30 : decode cX2_seekStand 30 = .ok (.getfield 12, 3) := by decide +kernel
theorem dX2_seekStand_33 : decode cX2_seekStand 33 = .ok (.iload_n 1, 1) := by decide +kernel
theorem dX2_seekStand_34 : decode cX2_seekStand 34 = .ok (.iconst 2, 1) := by decide +kernel
theorem dX2_seekStand_35 : decode cX2_seekStand 35 = .ok (.invokevirtual 60, 3) := by decide +kernel
theorem dX2_seekStand_38 : decode cX2_seekStand 38 = .ok (.aload_n 0, 1) := by decide +kernel
theorem dX2_seekStand_39 : decode cX2_seekStand 39 = .ok (.getfield 12, 3) := by decide +kernel
theorem dX2_seekStand_42 : decode cX2_seekStand 42 = .ok (.iload_n 1, 1) := by decide +kernel
theorem dX2_seekStand_43 : decode cX2_seekStand 43 = .ok (.iload_n 3, 1) := by decide +kernel
theorem dX2_seekStand_44 : decode cX2_seekStand 44 = .ok (.invokevirtual 64, 3) := by decide +kernel
theorem dX2_seekStand_47 : decode cX2_seekStand 47 = .ok (.aload_n 0, 1) := by decide +kernel
theorem dX2_seekStand_48 : decode cX2_seekStand 48 = .ok (.getfield 12, 3) := by decide +kernel
theorem dX2_seekStand_51 : decode cX2_seekStand 51 = .ok (.aload_n 0, 1) := by decide +kernel
theorem dX2_seekStand_52 : decode cX2_seekStand 52 = .ok (.getfield 25, 3) := by decide +kernel
theorem dX2_seekStand_55 : decode cX2_seekStand 55 = .ok (.iload_n 2, 1) := by decide +kernel
theorem dX2_seekStand_56 : decode cX2_seekStand 56 = .ok (.invokevirtual 36, 3) := by decide +kernel
theorem dX2_seekStand_59 : decode cX2_seekStand 59 = .ok (.aload_n 0, 1) := by decide +kernel
theorem dX2_seekStand_60 : decode cX2_seekStand 60 = .ok (.getfield 12, 3) := by decide +kernel
theorem dX2_seekStand_63 : decode cX2_seekStand 63 = .ok (.iload_n 1, 1) := by decide +kernel
theorem dX2_seekStand_64 : decode cX2_seekStand 64 = .ok (.invokevirtual 48, 3) := by decide +kernel
theorem dX2_seekStand_67 : decode cX2_seekStand 67 = .ok (.ifCond .eq 16, 3) := by decide +kernel
theorem dX2_seekStand_70 : decode cX2_seekStand 70 = .ok (.aload_n 0, 1) := by decide +kernel
theorem dX2_seekStand_71 : decode cX2_seekStand 71 = .ok (.iload_n 3, 1) := by decide +kernel
theorem dX2_seekStand_72 : decode cX2_seekStand 72 = .ok (.aload_n 0, 1) := by decide +kernel
theorem dX2_seekStand_73 : decode cX2_seekStand 73 = .ok (.getfield 12, 3) := by decide +kernel
theorem dX2_seekStand_76 : decode cX2_seekStand 76 = .ok (.iload_n 1, 1) := by decide +kernel
theorem dX2_seekStand_77 : decode cX2_seekStand 77 = .ok (.invokevirtual 67, 3) := by decide +kernel
theorem dX2_seekStand_80 : decode cX2_seekStand 80 = .ok (.invokevirtual 70, 3) := by decide +kernel
theorem dX2_seekStand_83 : decode cX2_seekStand 83 = .ok (.iinc 3 1, 3) := by decide +kernel
theorem dX2_seekStand_86 : decode cX2_seekStand 86 = .ok (.goto (-79), 3) := by decide +kernel
theorem dX2_seekStand_89 : decode cX2_seekStand 89 = .ok (.return_, 1) := by decide +kernel
set_option maxRecDepth 20000 in
theorem ggX2_seekHaste_X4_copyFrom : GoodIn wsX2_seekHaste wsX4_copyFrom := goodIn_r _ [10, 11, 12, 13, 14, 15, 16, 17, 18, 19, 20, 21, 22, 23, 24, 25, 26, 27, 28, 123, 124, 125, 126, 127, 128] (by decide +kernel) (by decide +kernel)
set_option maxRecDepth 20000 in
theorem gX2_seekHaste_X4_copyFrom : GoodIn wsX2_seekHaste (wsV RX2 32 RX4 yX4_copyFrom wsX4_copyFrom) := goodIn_app (goodIn_of _ (by decide +kernel)) ggX2_seekHaste_X4_copyFrom
set_option maxRecDepth 20000 in
theorem ggX2_seekHaste_X2_waitInTrialOf : GoodIn wsX2_seekHaste wsX2_waitInTrialOf := goodIn_r _ [33, 2, 4, 34, 35, 36, 9, 37, 16, 15, 38, 11, 39, 40, 41, 42, 43, 44, 45, 23, 46, 47, 48, 19, 49, 50, 51, 52, 53, 54, 55, 56, 57, 58, 59, 60, 61, 62, 63, 64, 13, 65, 66, 67, 68, 14, 69, 70, 71, 72, 73, 74, 75, 76, 77, 78, 79, 12, 80, 81, 82, 83, 84, 85, 86, 87, 110, 111, 112, 113, 114, 115, 116, 117, 123, 124, 125, 126, 127, 128, 118, 119, 120, 121, 122] (by decide +kernel) (by decide +kernel)
set_option maxRecDepth 20000 in
theorem gX2_seekHaste_X2_waitInTrialOf : GoodIn wsX2_seekHaste (wsV RX2 40 RX2 yX2_waitInTrialOf wsX2_waitInTrialOf) := goodIn_app (goodIn_of _ (by decide +kernel)) ggX2_seekHaste_X2_waitInTrialOf
set_option maxRecDepth 20000 in
theorem ggX2_seekHaste_X2_offerSoonest : GoodIn wsX2_seekHaste wsX2_offerSoonest := goodIn_r _ [91, 1, 92, 93, 94, 95, 32, 96, 97, 110, 111, 112, 113, 114, 115, 116, 117] (by decide +kernel) (by decide +kernel)
set_option maxRecDepth 20000 in
theorem gX2_seekHaste_X2_offerSoonest : GoodIn wsX2_seekHaste (wsV RX2 73 RX2 yX2_offerSoonest wsX2_offerSoonest) := goodIn_app (goodIn_of _ (by decide +kernel)) ggX2_seekHaste_X2_offerSoonest
set_option maxRecDepth 20000 in
theorem ggX2_seekHaste_X4_canLet : GoodIn wsX2_seekHaste wsX4_canLet := goodIn_r _ [101, 80, 81, 82, 9, 83, 15, 11, 47, 48, 19, 49, 123, 124, 125, 126, 127, 128] (by decide +kernel) (by decide +kernel)
set_option maxRecDepth 20000 in
theorem gX2_seekHaste_X4_canLet : GoodIn wsX2_seekHaste (wsV RX2 81 RX4 yX4_canLet wsX4_canLet) := goodIn_app (goodIn_of _ (by decide +kernel)) ggX2_seekHaste_X4_canLet
set_option maxRecDepth 20000 in
theorem ggX2_seekHaste_X4_letPast : GoodIn wsX2_seekHaste wsX4_letPast := goodIn_r _ [105, 80, 81, 82, 9, 83, 15, 11, 47, 48, 19, 49, 76, 77, 78, 79, 12, 73, 74, 75, 106, 107, 108, 109, 123, 124, 125, 126, 127, 128] (by decide +kernel) (by decide +kernel)
set_option maxRecDepth 20000 in
theorem gX2_seekHaste_X4_letPast : GoodIn wsX2_seekHaste (wsV RX2 85 RX4 yX4_letPast wsX4_letPast) := goodIn_app (goodIn_of _ (by decide +kernel)) ggX2_seekHaste_X4_letPast
theorem dX2_seekHaste_0 : decode cX2_seekHaste 0 = .ok (.aload_n 0, 1) := by decide +kernel
theorem dX2_seekHaste_1 : decode cX2_seekHaste 1 = .ok (.iconst 0, 1) := by decide +kernel
theorem dX2_seekHaste_2 : decode cX2_seekHaste 2 = .ok (.putfield 52, 3) := by decide +kernel
theorem dX2_seekHaste_5 : decode cX2_seekHaste 5 = .ok (.aload_n 0, 1) := by decide +kernel
theorem dX2_seekHaste_6 : decode cX2_seekHaste 6 = .ok (.getfield 12, 3) := by decide +kernel
theorem dX2_seekHaste_9 : decode cX2_seekHaste 9 = .ok (.aload_n 0, 1) := by decide +kernel
theorem dX2_seekHaste_10 : decode cX2_seekHaste 10 = .ok (.getfield 29, 3) := by decide +kernel
theorem dX2_seekHaste_13 : decode cX2_seekHaste 13 = .ok (.invokevirtual 32, 3) := by decide +kernel
theorem dX2_seekHaste_16 : decode cX2_seekHaste 16 = .ok (.aload_n 0, 1) := by decide +kernel
theorem dX2_seekHaste_17 : decode cX2_seekHaste 17 = .ok (.bipush 99, 2) := by decide +kernel
theorem dX2_seekHaste_19 : decode cX2_seekHaste 19 = .ok (.aload_n 0, 1) := by decide +kernel
theorem dX2_seekHaste_20 : decode cX2_seekHaste 20 = .ok (.iload_n 1, 1) := by decide +kernel
theorem dX2_seekHaste_21 : decode cX2_seekHaste 21 = .ok (.invokevirtual 40, 3) := by decide +kernel
theorem dX2_seekHaste_24 : decode cX2_seekHaste 24 = .ok (.invokevirtual 73, 3) := by decide +kernel
theorem dX2_seekHaste_27 : decode cX2_seekHaste 27 = .ok (.iconst 0, 1) := by decide +kernel
theorem dX2_seekHaste_28 : decode cX2_seekHaste 28 = .ok (.istore_n 2, 1) := by decide +kernel
theorem dX2_seekHaste_29 : decode cX2_seekHaste 29 = .ok (.iload_n 2, 1) := by decide +kernel
theorem dX2_seekHaste_30 : decode cX2_seekHaste 30 = .ok (.aload_n 0, 1) := by decide +kernel
theorem dX2_seekHaste_31 : decode cX2_seekHaste 31 = .ok (.getfield 25, 3) := by decide +kernel
theorem dX2_seekHaste_34 : decode cX2_seekHaste 34 = .ok (.getfield 76, 3) := by decide +kernel
theorem dX2_seekHaste_37 : decode cX2_seekHaste 37 = .ok (.if_icmp .ge 75, 3) := by decide +kernel
theorem dX2_seekHaste_40 : decode cX2_seekHaste 40 = .ok (.iconst 0, 1) := by decide +kernel
theorem dX2_seekHaste_41 : decode cX2_seekHaste 41 = .ok (.istore_n 3, 1) := by decide +kernel
theorem dX2_seekHaste_42 : decode cX2_seekHaste 42 = .ok (.iload_n 3, 1) := by decide +kernel
theorem dX2_seekHaste_43 : decode cX2_seekHaste 43 = .ok (.aload_n 0, 1) := by decide +kernel
theorem dX2_seekHaste_44 : decode cX2_seekHaste 44 = .ok (.getfield 25, 3) := by decide +kernel
theorem dX2_seekHaste_47 : decode cX2_seekHaste 47 = .ok (.getfield 76, 3) := by decide +kernel
theorem dX2_seekHaste_50 : decode cX2_seekHaste 50 = .ok (.if_icmp .ge 56, 3) := by decide +kernel
theorem dX2_seekHaste_53 : decode cX2_seekHaste 53 = .ok (.aload_n 0, 1) := by decide +kernel
theorem dX2_seekHaste_54 : decode cX2_seekHaste 54 = .ok (.getfield 29, 3) := by decide +kernel
theorem dX2_seekHaste_57 : decode cX2_seekHaste 57 = .ok (.iload_n 2, 1) := by decide +kernel
theorem dX2_seekHaste_58 : decode cX2_seekHaste 58 = .ok (.iload_n 3, 1) := by decide +kernel
theorem dX2_seekHaste_59 : decode cX2_seekHaste 59 = .ok (.invokevirtual 81, 3) := by decide +kernel
theorem dX2_seekHaste_62 : decode cX2_seekHaste 62 = .ok (.ifCond .eq 38, 3) := by decide +kernel
theorem dX2_seekHaste_65 : decode cX2_seekHaste 65 = .ok (.aload_n 0, 1) := by decide +kernel
theorem dX2_seekHaste_66 : decode cX2_seekHaste 66 = .ok (.getfield 12, 3) := by decide +kernel
theorem dX2_seekHaste_69 : decode cX2_seekHaste 69 = .ok (.aload_n 0, 1) := by decide +kernel
theorem dX2_seekHaste_70 : decode cX2_seekHaste 70 = .ok (.getfield 29, 3) := by decide +kernel
theorem dX2_seekHaste_73 : decode cX2_seekHaste 73 = .ok (.invokevirtual 32, 3) := by decide +kernel
theorem dX2_seekHaste_76 : decode cX2_seekHaste 76 = .ok (.aload_n 0, 1) := by decide +kernel
theorem dX2_seekHaste_77 : decode cX2_seekHaste 77 = .ok (.getfield 12, 3) := by decide +kernel
theorem dX2_seekHaste_80 : decode cX2_seekHaste 80 = .ok (.iload_n 2, 1) := by decide +kernel
theorem dX2_seekHaste_81 : decode cX2_seekHaste 81 = .ok (.iload_n 3, 1) := by decide +kernel
theorem dX2_seekHaste_82 : decode cX2_seekHaste 82 = .ok (.invokevirtual 85, 3) := by decide +kernel
theorem dX2_seekHaste_85 : decode cX2_seekHaste 85 = .ok (.aload_n 0, 1) := by decide +kernel
theorem dX2_seekHaste_86 : decode cX2_seekHaste 86 = .ok (.bipush 10, 2) := by decide +kernel
theorem dX2_seekHaste_88 : decode cX2_seekHaste 88 = .ok (.iload_n 2, 1) := by decide +kernel
theorem dX2_seekHaste_89 : decode cX2_seekHaste 89 = .ok (.imul, 1) := by decide +kernel
theorem dX2_seekHaste_90 : decode cX2_seekHaste 90 = .ok (.iload_n 3, 1) := by decide +kernel
theorem dX2_seekHaste_91 : decode cX2_seekHaste 91 = .ok (.iadd, 1) := by decide +kernel
theorem dX2_seekHaste_92 : decode cX2_seekHaste 92 = .ok (.aload_n 0, 1) := by decide +kernel
theorem dX2_seekHaste_93 : decode cX2_seekHaste 93 = .ok (.iload_n 1, 1) := by decide +kernel
theorem dX2_seekHaste_94 : decode cX2_seekHaste 94 = .ok (.invokevirtual 40, 3) := by decide +kernel
theorem dX2_seekHaste_97 : decode cX2_seekHaste 97 = .ok (.invokevirtual 73, 3) := by decide +kernel
theorem dX2_seekHaste_100 : decode cX2_seekHaste 100 = .ok (.iinc 3 1, 3) := by decide +kernel
theorem dX2_seekHaste_103 : decode cX2_seekHaste 103 = .ok (.goto (-61), 3) := by decide +kernel
theorem dX2_seekHaste_106 : decode cX2_seekHaste 106 = .ok (.iinc 2 1, 3) := by decide +kernel
theorem dX2_seekHaste_109 : decode cX2_seekHaste 109 = .ok (.goto (-80), 3) := by decide +kernel
theorem dX2_seekHaste_112 : decode cX2_seekHaste 112 = .ok (.return_, 1) := by decide +kernel
set_option maxRecDepth 20000 in
theorem ggX2_seekMiss_X4_isQueued : GoodIn wsX2_seekMiss wsX4_isQueued := goodIn_r _ [10, 11, 12, 13, 9, 14, 15, 16, 17, 18, 19, 20, 123, 124, 125, 126, 127, 128] (by decide +kernel) (by decide +kernel)
set_option maxRecDepth 20000 in
theorem gX2_seekMiss_X4_isQueued : GoodIn wsX2_seekMiss (wsV RX2 88 RX4 yX4_isQueued wsX4_isQueued) := goodIn_app (goodIn_of _ (by decide +kernel)) ggX2_seekMiss_X4_isQueued
set_option maxRecDepth 20000 in
theorem ggX2_seekMiss_X4_copyFrom : GoodIn wsX2_seekMiss wsX4_copyFrom := goodIn_r _ [24, 16, 25, 26, 27, 15, 28, 29, 30, 19, 31, 32, 33, 34, 35, 36, 37, 38, 39, 123, 124, 125, 126, 127, 128] (by decide +kernel) (by decide +kernel)
set_option maxRecDepth 20000 in
theorem gX2_seekMiss_X4_copyFrom : GoodIn wsX2_seekMiss (wsV RX2 32 RX4 yX4_copyFrom wsX4_copyFrom) := goodIn_app (goodIn_of _ (by decide +kernel)) ggX2_seekMiss_X4_copyFrom
set_option maxRecDepth 20000 in
theorem ggX2_seekMiss_X4_takeOut : GoodIn wsX2_seekMiss wsX4_takeOut := goodIn_r _ [43, 15, 16, 25, 11, 12, 13, 9, 14, 17, 18, 19, 20, 44, 45, 46, 123, 124, 125, 126, 127, 128] (by decide +kernel) (by decide +kernel)
set_option maxRecDepth 20000 in
theorem gX2_seekMiss_X4_takeOut : GoodIn wsX2_seekMiss (wsV RX2 60 RX4 yX4_takeOut wsX4_takeOut) := goodIn_app (goodIn_of _ (by decide +kernel)) ggX2_seekMiss_X4_takeOut
set_option maxRecDepth 20000 in
theorem ggX2_seekMiss_X4_run : GoodIn wsX2_seekMiss wsX4_run := goodIn_r _ [50, 51, 52, 53, 9, 54, 28, 15, 55, 16, 56, 57, 58, 59, 60, 61, 62, 34, 63, 17, 18, 19, 20, 64, 65, 66, 67, 68, 69, 70, 71, 72, 73, 74, 75, 76, 77, 78, 26, 79, 80, 81, 82, 27, 83, 84, 85, 86, 44, 45, 46, 87, 41, 42, 43, 25, 11, 12, 13, 14, 123, 124, 125, 126, 127, 128, 118, 119, 120, 121, 122] (by decide +kernel) (by decide +kernel)
set_option maxRecDepth 20000 in
theorem gX2_seekMiss_X4_run : GoodIn wsX2_seekMiss (wsV RX2 36 RX4 yX4_run wsX4_run) := goodIn_app (goodIn_of _ (by decide +kernel)) ggX2_seekMiss_X4_run
set_option maxRecDepth 20000 in
theorem ggX2_seekMiss_X2_duesInTrialOfOthers : GoodIn wsX2_seekMiss wsX2_duesInTrialOfOthers := goodIn_r _ [92, 4, 93, 94, 5, 95, 18, 19, 20, 96, 97, 98, 9, 99, 79, 80, 81, 82, 27, 17, 110, 111, 112, 113, 114, 115, 116, 117, 123, 124, 125, 126, 127, 128] (by decide +kernel) (by decide +kernel)
set_option maxRecDepth 20000 in
theorem gX2_seekMiss_X2_duesInTrialOfOthers : GoodIn wsX2_seekMiss (wsV RX2 91 RX2 yX2_duesInTrialOfOthers wsX2_duesInTrialOfOthers) := goodIn_app (goodIn_of _ (by decide +kernel)) ggX2_seekMiss_X2_duesInTrialOfOthers
set_option maxRecDepth 20000 in
theorem ggX2_seekMiss_X2_offerMost : GoodIn wsX2_seekMiss wsX2_offerMost := goodIn_r _ [103, 1, 104, 105, 106, 107, 91, 108, 109, 110, 111, 112, 113, 114, 115, 116, 117] (by decide +kernel) (by decide +kernel)
set_option maxRecDepth 20000 in
theorem gX2_seekMiss_X2_offerMost : GoodIn wsX2_seekMiss (wsV RX2 70 RX2 yX2_offerMost wsX2_offerMost) := goodIn_app (goodIn_of _ (by decide +kernel)) ggX2_seekMiss_X2_offerMost
theorem dX2_seekMiss_0 : decode cX2_seekMiss 0 = .ok (.aload_n 0, 1) := by decide +kernel
theorem dX2_seekMiss_1 : decode cX2_seekMiss 1 = .ok (.iconst 0, 1) := by decide +kernel
theorem dX2_seekMiss_2 : decode cX2_seekMiss 2 = .ok (.putfield 52, 3) := by decide +kernel
theorem dX2_seekMiss_5 : decode cX2_seekMiss 5 = .ok (.iconst 0, 1) := by decide +kernel
theorem dX2_seekMiss_6 : decode cX2_seekMiss 6 = .ok (.istore_n 1, 1) := by decide +kernel
theorem dX2_seekMiss_7 : decode cX2_seekMiss 7 = .ok (.iload_n 1, 1) := by decide +kernel
theorem dX2_seekMiss_8 : decode cX2_seekMiss 8 = .ok (.aload_n 0, 1) := by decide +kernel
theorem dX2_seekMiss_9 : decode cX2_seekMiss 9 = .ok (.getfield 25, 3) := by decide +kernel
theorem dX2_seekMiss_12 : decode cX2_seekMiss 12 = .ok (.getfield 76, 3) := by decide +kernel
theorem dX2_seekMiss_15 : decode cX2_seekMiss 15 = .ok (.if_icmp .ge 63, 3) := by decide +kernel
theorem dX2_seekMiss_18 : decode cX2_seekMiss 18 = .ok (.aload_n 0, 1) := by decide +kernel
theorem dX2_seekMiss_19 : decode cX2_seekMiss 19 = .ok (.getfield 29, 3) := by decide +kernel
theorem dX2_seekMiss_22 : decode cX2_seekMiss 22 = .ok (.iload_n 1, 1) := by decide +kernel
theorem dX2_seekMiss_23 : decode cX2_seekMiss 23 = .ok (.invokevirtual 88, 3) := by decide +kernel
theorem dX2_seekMiss_26 : decode cX2_seekMiss 26 = .ok (.ifCond .eq 46, 3) := by decide +kernel
theorem dX2_seekMiss_29 : decode cX2_seekMiss 29 = .ok (.aload_n 0, 1) := by decide +kernel
theorem dX2_seekMiss_30 : decode cX2_seekMiss 30 = .ok (.getfield 12, 3) := by decide +kernel
theorem dX2_seekMiss_33 : decode cX2_seekMiss 33 = .ok (.aload_n 0, 1) := by decide +kernel
theorem dX2_seekMiss_34 : decode cX2_seekMiss 34 = .ok (.getfield 29, 3) := by decide +kernel
theorem dX2_seekMiss_37 : decode cX2_seekMiss 37 = .ok (.invokevirtual 32, 3) := by decide +kernel
theorem dX2_seekMiss_40 : decode cX2_seekMiss 40 = .ok (.aload_n 0, 1) := by decide +kernel
theorem dX2_seekMiss_41 : decode cX2_seekMiss 41 = .ok (.getfield 12, 3) := by decide +kernel
theorem dX2_seekMiss_44 : decode cX2_seekMiss 44 = .ok (.iload_n 1, 1) := by decide +kernel
theorem dX2_seekMiss_45 : decode cX2_seekMiss 45 = .ok (.iconst 2, 1) := by decide +kernel
theorem dX2_seekMiss_46 : decode cX2_seekMiss 46 = .ok (.invokevirtual 60, 3) := by decide +kernel
theorem dX2_seekMiss_49 : decode cX2_seekMiss 49 = .ok (.aload_n 0, 1) := by decide +kernel
theorem dX2_seekMiss_50 : decode cX2_seekMiss 50 = .ok (.getfield 12, 3) := by decide +kernel
theorem dX2_seekMiss_53 : decode cX2_seekMiss 53 = .ok (.aload_n 0, 1) := by decide +kernel
theorem dX2_seekMiss_54 : decode cX2_seekMiss 54 = .ok (.getfield 25, 3) := by decide +kernel
theorem dX2_seekMiss_57 : decode cX2_seekMiss 57 = .ok (.bipush 10, 2) := by decide +kernel
theorem dX2_seekMiss_59 : decode cX2_seekMiss 59 = .ok (.invokevirtual 36, 3) := by decide +kernel
theorem dX2_seekMiss_62 : decode cX2_seekMiss 62 = .ok (.aload_n 0, 1) := by decide +kernel
theorem dX2_seekMiss_63 : decode cX2_seekMiss 63 = .ok (.iload_n 1, 1) := by decide +kernel
theorem dX2_seekMiss_64 : decode cX2_seekMiss 64 = .ok (.aload_n 0, 1) := by decide +kernel
theorem dX2_seekMiss_65 : decode cX2_seekMiss 65 = .ok (.iload_n 1, 1) := by decide +kernel
theorem dX2_seekMiss_66 : decode cX2_seekMiss 66 = .ok (.invokevirtual 91, 3) := by decide +kernel
theorem dX2_seekMiss_69 : decode cX2_seekMiss 69 = .ok (.invokevirtual 70, 3) := by decide +kernel
theorem dX2_seekMiss_72 : decode cX2_seekMiss 72 = .ok (.iinc 1 1, 3) := by decide +kernel
theorem dX2_seekMiss_75 : decode cX2_seekMiss 75 = .ok (.goto (-68), 3) := by decide +kernel
theorem dX2_seekMiss_78 : decode cX2_seekMiss 78 = .ok (.return_, 1) := by decide +kernel
set_option maxRecDepth 20000 in
theorem ggX2_duesInTrialOfOthers_X3_at : GoodIn wsX2_duesInTrialOfOthers wsX3_at := goodIn_r _ [8] (by decide +kernel) (by decide +kernel)
set_option maxRecDepth 20000 in
theorem gX2_duesInTrialOfOthers_X3_at : GoodIn wsX2_duesInTrialOfOthers (va_wsS RX2 97 yX3_at wsX3_at) := goodIn_app (goodIn_of _ (by decide +kernel)) ggX2_duesInTrialOfOthers_X3_at
set_option maxRecDepth 20000 in
theorem ggX2_duesInTrialOfOthers_X4_dueOf : GoodIn wsX2_duesInTrialOfOthers wsX4_dueOf := goodIn_r _ [13, 14, 15, 16, 12, 17, 18, 19, 6, 7, 8, 28, 29, 30, 31, 32, 33] (by decide +kernel) (by decide +kernel)
set_option maxRecDepth 20000 in
theorem gX2_duesInTrialOfOthers_X4_dueOf : GoodIn wsX2_duesInTrialOfOthers (wsV RX2 67 RX4 yX4_dueOf wsX4_dueOf) := goodIn_app (goodIn_of _ (by decide +kernel)) ggX2_duesInTrialOfOthers_X4_dueOf
theorem dX2_duesInTrialOfOthers_0 : decode cX2_duesInTrialOfOthers 0 = .ok (.iconst 0, 1) := by decide +kernel
theorem dX2_duesInTrialOfOthers_1 : decode cX2_duesInTrialOfOthers 1 = .ok (.istore_n 2, 1) := by decide +kernel
theorem dX2_duesInTrialOfOthers_2 : decode cX2_duesInTrialOfOthers 2 = .ok (.iconst 0, 1) := by decide +kernel
theorem dX2_duesInTrialOfOthers_3 : decode cX2_duesInTrialOfOthers 3 = .ok (.istore_n 3, 1) := by decide +kernel
theorem dX2_duesInTrialOfOthers_4 : decode cX2_duesInTrialOfOthers 4 = .ok (.iload_n 3, 1) := by decide +kernel
theorem dX2_duesInTrialOfOthers_5 : decode cX2_duesInTrialOfOthers 5 = .ok (.aload_n 0, 1) := by decide +kernel
theorem dX2_duesInTrialOfOthers_6 : decode cX2_duesInTrialOfOthers 6 = .ok (.getfield 29, 3) := by decide +kernel
theorem dX2_duesInTrialOfOthers_9 : decode cX2_duesInTrialOfOthers 9 = .ok (.getfield 56, 3) := by decide +kernel
theorem dX2_duesInTrialOfOthers_12 : decode cX2_duesInTrialOfOthers 12 = .ok (.if_icmp .ge 40, 3) := by decide +kernel
theorem dX2_duesInTrialOfOthers_15 : decode cX2_duesInTrialOfOthers 15 = .ok (.aload_n 0, 1) := by decide +kernel
theorem dX2_duesInTrialOfOthers_16 : decode cX2_duesInTrialOfOthers 16 = .ok (.getfield 29, 3) := by decide +kernel
theorem dX2_duesInTrialOfOthers_19 : decode cX2_duesInTrialOfOthers 19 = .ok (.getfield 94, 3) := by decide +kernel
theorem dX2_duesInTrialOfOthers_22 : decode cX2_duesInTrialOfOthers 22 = .ok (.iload_n 3, 1) := by decide +kernel
theorem dX2_duesInTrialOfOthers_23 : decode cX2_duesInTrialOfOthers 23 = .ok (.invokestatic 97, 3) := by decide +kernel
theorem dX2_duesInTrialOfOthers_26 : decode cX2_duesInTrialOfOthers 26 = .ok (.istore 4, 2) := by decide +kernel
theorem dX2_duesInTrialOfOthers_28 : decode cX2_duesInTrialOfOthers 28 = .ok (.iload 4, 2) := by decide +kernel
theorem dX2_duesInTrialOfOthers_30 : decode cX2_duesInTrialOfOthers 30 = .ok (.iload_n 1, 1) := by decide +kernel
theorem dX2_duesInTrialOfOthers_31 : decode cX2_duesInTrialOfOthers 31 = .ok (.if_icmp .eq 15, 3) := by decide +kernel
theorem dX2_duesInTrialOfOthers_34 : decode cX2_duesInTrialOfOthers 34 = .ok (.iload_n 2, 1) := by decide +kernel
theorem dX2_duesInTrialOfOthers_35 : decode cX2_duesInTrialOfOthers 35 = .ok (.aload_n 0, 1) := by decide +kernel
theorem dX2_duesInTrialOfOthers_36 : decode cX2_duesInTrialOfOthers 36 = .ok (.getfield 12, 3) := by decide +kernel
theorem dX2_duesInTrialOfOthers_39 : decode cX2_duesInTrialOfOthers 39 = .ok (.iload 4, 2) := by decide +kernel
theorem dX2_duesInTrialOfOthers_41 : decode cX2_duesInTrialOfOthers 41 = .ok (.invokevirtual 67, 3) := by decide +kernel
theorem dX2_duesInTrialOfOthers_44 : decode cX2_duesInTrialOfOthers 44 = .ok (.iadd, 1) := by decide +kernel
theorem dX2_duesInTrialOfOthers_45 : decode cX2_duesInTrialOfOthers 45 = .ok (.istore_n 2, 1) := by decide +kernel
theorem dX2_duesInTrialOfOthers_46 : decode cX2_duesInTrialOfOthers 46 = .ok (.iinc 3 1, 3) := by decide +kernel
theorem dX2_duesInTrialOfOthers_49 : decode cX2_duesInTrialOfOthers 49 = .ok (.goto (-45), 3) := by decide +kernel
theorem dX2_duesInTrialOfOthers_52 : decode cX2_duesInTrialOfOthers 52 = .ok (.iload_n 2, 1) := by decide +kernel
theorem dX2_duesInTrialOfOthers_53 : decode cX2_duesInTrialOfOthers 53 = .ok (.ireturn, 1) := by decide +kernel
set_option maxRecDepth 20000 in
theorem ggX2_offerMost_X2_take : GoodIn wsX2_offerMost wsX2_take := goodIn_r _ [7, 1, 8, 2, 9, 10, 11, 12, 13, 14, 15, 16] (by decide +kernel) (by decide +kernel)
set_option maxRecDepth 20000 in
theorem gX2_offerMost_X2_take : GoodIn wsX2_offerMost (wsV RX2 106 RX2 yX2_take wsX2_take) := goodIn_app (goodIn_of _ (by decide +kernel)) ggX2_offerMost_X2_take
theorem dX2_offerMost_0 : decode cX2_offerMost 0 = .ok (.aload_n 0, 1) := by decide +kernel
theorem dX2_offerMost_1 : decode cX2_offerMost 1 = .ok (.getfield 52, 3) := by decide +kernel
theorem dX2_offerMost_4 : decode cX2_offerMost 4 = .ok (.ifCond .eq 11, 3) := by decide +kernel
theorem dX2_offerMost_7 : decode cX2_offerMost 7 = .ok (.iload_n 2, 1) := by decide +kernel
theorem dX2_offerMost_8 : decode cX2_offerMost 8 = .ok (.aload_n 0, 1) := by decide +kernel
theorem dX2_offerMost_9 : decode cX2_offerMost 9 = .ok (.getfield 103, 3) := by decide +kernel
theorem dX2_offerMost_12 : decode cX2_offerMost 12 = .ok (.if_icmp .le 9, 3) := by decide +kernel
theorem dX2_offerMost_15 : decode cX2_offerMost 15 = .ok (.aload_n 0, 1) := by decide +kernel
theorem dX2_offerMost_16 : decode cX2_offerMost 16 = .ok (.iload_n 1, 1) := by decide +kernel
theorem dX2_offerMost_17 : decode cX2_offerMost 17 = .ok (.iload_n 2, 1) := by decide +kernel
theorem dX2_offerMost_18 : decode cX2_offerMost 18 = .ok (.invokevirtual 106, 3) := by decide +kernel
theorem dX2_offerMost_21 : decode cX2_offerMost 21 = .ok (.return_, 1) := by decide +kernel
set_option maxRecDepth 20000 in
theorem ggX2_offerSoonest_X2_take : GoodIn wsX2_offerSoonest wsX2_take := goodIn_r _ [7, 1, 8, 2, 9, 10, 11, 12, 13, 14, 15, 16] (by decide +kernel) (by decide +kernel)
set_option maxRecDepth 20000 in
theorem gX2_offerSoonest_X2_take : GoodIn wsX2_offerSoonest (wsV RX2 106 RX2 yX2_take wsX2_take) := goodIn_app (goodIn_of _ (by decide +kernel)) ggX2_offerSoonest_X2_take
theorem dX2_offerSoonest_0 : decode cX2_offerSoonest 0 = .ok (.iload_n 2, 1) := by decide +kernel
theorem dX2_offerSoonest_1 : decode cX2_offerSoonest 1 = .ok (.bipush (-4), 2) := by decide +kernel
theorem dX2_offerSoonest_3 : decode cX2_offerSoonest 3 = .ok (.if_icmp .eq 24, 3) := by decide +kernel
theorem dX2_offerSoonest_6 : decode cX2_offerSoonest 6 = .ok (.aload_n 0, 1) := by decide +kernel
theorem dX2_offerSoonest_7 : decode cX2_offerSoonest 7 = .ok (.getfield 52, 3) := by decide +kernel
theorem dX2_offerSoonest_10 : decode cX2_offerSoonest 10 = .ok (.ifCond .eq 11, 3) := by decide +kernel
theorem dX2_offerSoonest_13 : decode cX2_offerSoonest 13 = .ok (.iload_n 2, 1) := by decide +kernel
theorem dX2_offerSoonest_14 : decode cX2_offerSoonest 14 = .ok (.aload_n 0, 1) := by decide +kernel
theorem dX2_offerSoonest_15 : decode cX2_offerSoonest 15 = .ok (.getfield 103, 3) := by decide +kernel
theorem dX2_offerSoonest_18 : decode cX2_offerSoonest 18 = .ok (.if_icmp .ge 9, 3) := by decide +kernel
theorem dX2_offerSoonest_21 : decode cX2_offerSoonest 21 = .ok (.aload_n 0, 1) := by decide +kernel
theorem dX2_offerSoonest_22 : decode cX2_offerSoonest 22 = .ok (.iload_n 1, 1) := by decide +kernel
theorem dX2_offerSoonest_23 : decode cX2_offerSoonest 23 = .ok (.iload_n 2, 1) := by decide +kernel
theorem dX2_offerSoonest_24 : decode cX2_offerSoonest 24 = .ok (.invokevirtual 106, 3) := by decide +kernel
theorem dX2_offerSoonest_27 : decode cX2_offerSoonest 27 = .ok (.return_, 1) := by decide +kernel
theorem dX2_take_0 : decode cX2_take 0 = .ok (.aload_n 0, 1) := by decide +kernel
theorem dX2_take_1 : decode cX2_take 1 = .ok (.iconst 1, 1) := by decide +kernel
theorem dX2_take_2 : decode cX2_take 2 = .ok (.putfield 52, 3) := by decide +kernel
theorem dX2_take_5 : decode cX2_take 5 = .ok (.aload_n 0, 1) := by decide +kernel
theorem dX2_take_6 : decode cX2_take 6 = .ok (.iload_n 1, 1) := by decide +kernel
theorem dX2_take_7 : decode cX2_take 7 = .ok (.putfield 109, 3) := by decide +kernel
theorem dX2_take_10 : decode cX2_take 10 = .ok (.aload_n 0, 1) := by decide +kernel
theorem dX2_take_11 : decode cX2_take 11 = .ok (.iload_n 2, 1) := by decide +kernel
theorem dX2_take_12 : decode cX2_take 12 = .ok (.putfield 103, 3) := by decide +kernel
theorem dX2_take_15 : decode cX2_take 15 = .ok (.return_, 1) := by decide +kernel
set_option maxRecDepth 20000 in
theorem ggX2_fewestPayments_X4_dueOf : GoodIn wsX2_fewestPayments wsX4_dueOf := goodIn_r _ [10, 11, 12, 13, 9, 14, 15, 16, 17, 18, 19, 46, 47, 48, 49, 50, 51] (by decide +kernel) (by decide +kernel)
set_option maxRecDepth 20000 in
theorem gX2_fewestPayments_X4_dueOf : GoodIn wsX2_fewestPayments (wsV RX2 67 RX4 yX4_dueOf wsX4_dueOf) := goodIn_app (goodIn_of _ (by decide +kernel)) ggX2_fewestPayments_X4_dueOf
set_option maxRecDepth 20000 in
theorem ggX2_fewestPayments_X3_at : GoodIn wsX2_fewestPayments wsX3_at := goodIn_r _ [19] (by decide +kernel) (by decide +kernel)
set_option maxRecDepth 20000 in
theorem gX2_fewestPayments_X3_at : GoodIn wsX2_fewestPayments (va_wsS RX2 97 yX3_at wsX3_at) := goodIn_app (goodIn_of _ (by decide +kernel)) ggX2_fewestPayments_X3_at
set_option maxRecDepth 20000 in
theorem ggX2_fewestPayments_X3_put : GoodIn wsX2_fewestPayments wsX3_put := goodIn_r _ [23] (by decide +kernel) (by decide +kernel)
set_option maxRecDepth 20000 in
theorem gX2_fewestPayments_X3_put : GoodIn wsX2_fewestPayments (va_wsS RX2 112 yX3_put wsX3_put) := goodIn_app (goodIn_of _ (by decide +kernel)) ggX2_fewestPayments_X3_put
set_option maxRecDepth 20000 in
theorem ggX2_fewestPayments_X2_mostGroupsInParts : GoodIn wsX2_fewestPayments wsX2_mostGroupsInParts := goodIn_r _ [28, 1, 2, 5, 29, 30, 31, 32, 20, 17, 18, 19, 33, 34, 35, 36, 37, 38, 39, 40, 41, 42, 43, 44, 45] (by decide +kernel) (by decide +kernel)
set_option maxRecDepth 20000 in
theorem gX2_fewestPayments_X2_mostGroupsInParts : GoodIn wsX2_fewestPayments (wsV RX2 116 RX2 yX2_mostGroupsInParts wsX2_mostGroupsInParts) := goodIn_app (goodIn_of _ (by decide +kernel)) ggX2_fewestPayments_X2_mostGroupsInParts
theorem dX2_fewestPayments_0 : decode cX2_fewestPayments 0 = .ok (.iconst 0, 1) := by decide +kernel
theorem dX2_fewestPayments_1 : decode cX2_fewestPayments 1 = .ok (.istore_n 1, 1) := by decide +kernel
theorem dX2_fewestPayments_2 : decode cX2_fewestPayments 2 = .ok (.iload_n 1, 1) := by decide +kernel
theorem dX2_fewestPayments_3 : decode cX2_fewestPayments 3 = .ok (.aload_n 0, 1) := by decide +kernel
theorem dX2_fewestPayments_4 : decode cX2_fewestPayments 4 = .ok (.getfield 25, 3) := by decide +kernel
theorem dX2_fewestPayments_7 : decode cX2_fewestPayments 7 = .ok (.getfield 76, 3) := by decide +kernel
theorem dX2_fewestPayments_10 : decode cX2_fewestPayments 10 = .ok (.if_icmp .ge 91, 3) := by decide +kernel
theorem dX2_fewestPayments_13 : decode cX2_fewestPayments 13 = .ok (.aload_n 0, 1) := by decide +kernel
theorem dX2_fewestPayments_14 : decode cX2_fewestPayments 14 = .ok (.getfield 29, 3) := by decide +kernel
theorem dX2_fewestPayments_17 : decode cX2_fewestPayments 17 = .ok (.iload_n 1, 1) := by decide +kernel
theorem dX2_fewestPayments_18 : decode cX2_fewestPayments 18 = .ok (.invokevirtual 67, 3) := by decide +kernel
theorem dX2_fewestPayments_21 : decode cX2_fewestPayments 21 = .ok (.istore_n 2, 1) := by decide +kernel
theorem dX2_fewestPayments_22 : decode cX2_fewestPayments 22 = .ok (.iconst 1, 1) := by decide +kernel
theorem dX2_fewestPayments_23 : decode cX2_fewestPayments 23 = .ok (.iload_n 1, 1) := by decide +kernel
theorem dX2_fewestPayments_24 : decode cX2_fewestPayments 24 = .ok (.ishl, 1) := by decide +kernel
theorem dX2_fewestPayments_25 : decode cX2_fewestPayments 25 = .ok (.istore_n 3, 1) := by decide +kernel
theorem dX2_fewestPayments_26 : decode cX2_fewestPayments 26 = .ok (.iload_n 3, 1) := by decide +kernel
theorem dX2_fewestPayments_27 : decode cX2_fewestPayments 27 = .ok (.istore 4, 2) := by decide +kernel
theorem dX2_fewestPayments_29 : decode cX2_fewestPayments 29 = .ok (.iload 4, 2) := by decide +kernel
theorem dX2_fewestPayments_31 : decode cX2_fewestPayments 31 = .ok (.iconst 2, 1) := by decide +kernel
theorem dX2_fewestPayments_32 : decode cX2_fewestPayments 32 = .ok (.iload_n 3, 1) := by decide +kernel
theorem dX2_fewestPayments_33 : decode cX2_fewestPayments 33 = .ok (.imul, 1) := by decide +kernel
theorem dX2_fewestPayments_34 : decode cX2_fewestPayments 34 = .ok (.if_icmp .ge 61, 3) := by decide +kernel
theorem dX2_fewestPayments_37 : decode cX2_fewestPayments 37 = .ok (.aload_n 0, 1) := by decide +kernel
theorem dX2_fewestPayments_38 : decode cX2_fewestPayments 38 = .ok (.getfield 18, 3) := by decide +kernel
theorem dX2_fewestPayments_41 : decode cX2_fewestPayments 41 = .ok (.iload 4, 2) := by decide +kernel
theorem dX2_fewestPayments_43 : decode cX2_fewestPayments 43 = .ok (.iload_n 3, 1) := by decide +kernel
theorem dX2_fewestPayments_44 : decode cX2_fewestPayments 44 = .ok (.isub, 1) := by decide +kernel
theorem dX2_fewestPayments_45 : decode cX2_fewestPayments 45 = .ok (.invokestatic 97, 3) := by decide +kernel
theorem dX2_fewestPayments_48 : decode cX2_fewestPayments 48 = .ok (.iload_n 2, 1) := by decide +kernel
theorem dX2_fewestPayments_49 : decode cX2_fewestPayments 49 = .ok (.iadd, 1) := by decide +kernel
theorem dX2_fewestPayments_50 : decode cX2_fewestPayments 50 = .ok (.istore 5, 2) := by decide +kernel
theorem dX2_fewestPayments_52 : decode cX2_fewestPayments 52 = .ok (.aload_n 0, 1) := by decide +kernel
theorem dX2_fewestPayments_53 : decode cX2_fewestPayments 53 = .ok (.getfield 18, 3) := by decide +kernel
theorem dX2_fewestPayments_56 : decode cX2_fewestPayments 56 = .ok (.iload 4, 2) := by decide +kernel
theorem dX2_fewestPayments_58 : decode cX2_fewestPayments 58 = .ok (.iload 5, 2) := by decide +kernel
theorem dX2_fewestPayments_60 : decode cX2_fewestPayments 60 = .ok (.invokestatic 112, 3) := by decide +kernel
theorem dX2_fewestPayments_63 : decode cX2_fewestPayments 63 = .ok (.aload_n 0, 1) := by decide +kernel
theorem dX2_fewestPayments_64 : decode cX2_fewestPayments 64 = .ok (.getfield 22, 3) := by decide +kernel
theorem dX2_fewestPayments_67 : decode cX2_fewestPayments 67 = .ok (.iload 4, 2) := by decide +kernel
theorem dX2_fewestPayments_69 : decode cX2_fewestPayments 69 = .ok (.aload_n 0, 1) := by decide +kernel
theorem dX2_fewestPayments_70 : decode cX2_fewestPayments 70 = .ok (.iload 4, 2) := by decide +kernel
theorem dX2_fewestPayments_72 : decode cX2_fewestPayments 72 = .ok (.invokevirtual 116, 3) := by decide +kernel
theorem dX2_fewestPayments_75 : decode cX2_fewestPayments 75 = .ok (.iload 5, 2) := by decide +kernel
theorem dX2_fewestPayments_77 : decode cX2_fewestPayments 77 = .ok (.ifCond .ne 7, 3) := by decide +kernel
theorem dX2_fewestPayments_80 : decode cX2_fewestPayments 80 = .ok (.iconst 1, 1) := by decide +kernel
theorem dX2_fewestPayments_81 : decode cX2_fewestPayments 81 = .ok (.goto 4, 3) := by decide +kernel
theorem dX2_fewestPayments_84 : decode cX2_fewestPayments 84 = .ok (.iconst 0, 1) := by decide +kernel
theorem dX2_fewestPayments_85 : decode cX2_fewestPayments 85 = .ok (.iadd, 1) := by decide +kernel
theorem dX2_fewestPayments_86 : decode cX2_fewestPayments 86 = .ok (.invokestatic 112, 3) := by decide +kernel
theorem dX2_fewestPayments_89 : decode cX2_fewestPayments 89 = .ok (.iinc 4 1, 3) := by decide +kernel
theorem dX2_fewestPayments_92 : decode cX2_fewestPayments 92 = .ok (.goto (-63), 3) := by decide +kernel
theorem dX2_fewestPayments_95 : decode cX2_fewestPayments 95 = .ok (.iinc 1 1, 3) := by decide +kernel
theorem dX2_fewestPayments_98 : decode cX2_fewestPayments 98 = .ok (.goto (-96), 3) := by decide +kernel
theorem dX2_fewestPayments_101 : decode cX2_fewestPayments 101 = .ok (.aload_n 0, 1) := by decide +kernel
theorem dX2_fewestPayments_102 : decode cX2_fewestPayments 102 = .ok (.getfield 25, 3) := by decide +kernel
theorem dX2_fewestPayments_105 : decode cX2_fewestPayments 105 = .ok (.getfield 76, 3) := by decide +kernel
theorem dX2_fewestPayments_108 : decode cX2_fewestPayments 108 = .ok (.aload_n 0, 1) := by decide +kernel
theorem dX2_fewestPayments_109 : decode cX2_fewestPayments 109 = .ok (.getfield 22, 3) := by decide +kernel
theorem dX2_fewestPayments_112 : decode cX2_fewestPayments 112 = .ok (.iconst 1, 1) := by decide +kernel
theorem dX2_fewestPayments_113 : decode cX2_fewestPayments 113 = .ok (.aload_n 0, 1) := by decide +kernel
theorem dX2_fewestPayments_114 : decode cX2_fewestPayments 114 = .ok (.getfield 25, 3) := by decide +kernel
theorem dX2_fewestPayments_117 : decode cX2_fewestPayments 117 = .ok (.getfield 76, 3) := by decide +kernel
theorem dX2_fewestPayments_120 : decode cX2_fewestPayments 120 = .ok (.ishl, 1) := by decide +kernel
theorem dX2_fewestPayments_121 : decode cX2_fewestPayments 121 = .ok (.iconst 1, 1) := by decide +kernel
theorem dX2_fewestPayments_122 : decode cX2_fewestPayments 122 = .ok (.isub, 1) := by decide +kernel
theorem dX2_fewestPayments_123 : decode cX2_fewestPayments 123 = .ok (.invokestatic 97, 3) := by decide +kernel
theorem dX2_fewestPayments_126 : decode cX2_fewestPayments 126 = .ok (.isub, 1) := by decide +kernel
theorem dX2_fewestPayments_127 : decode cX2_fewestPayments 127 = .ok (.ireturn, 1) := by decide +kernel
set_option maxRecDepth 20000 in
theorem ggX2_mostGroupsInParts_X3_at : GoodIn wsX2_mostGroupsInParts wsX3_at := goodIn_r _ [11] (by decide +kernel) (by decide +kernel)
set_option maxRecDepth 20000 in
theorem gX2_mostGroupsInParts_X3_at : GoodIn wsX2_mostGroupsInParts (va_wsS RX2 97 yX3_at wsX3_at) := goodIn_app (goodIn_of _ (by decide +kernel)) ggX2_mostGroupsInParts_X3_at
theorem dX2_mostGroupsInParts_0 : decode cX2_mostGroupsInParts 0 = .ok (.iconst 0, 1) := by decide +kernel
theorem dX2_mostGroupsInParts_1 : decode cX2_mostGroupsInParts 1 = .ok (.istore_n 2, 1) := by decide +kernel
theorem dX2_mostGroupsInParts_2 : decode cX2_mostGroupsInParts 2 = .ok (.iconst 0, 1) := by decide +kernel
theorem dX2_mostGroupsInParts_3 : decode cX2_mostGroupsInParts 3 = .ok (.istore_n 3, 1) := by decide +kernel
theorem dX2_mostGroupsInParts_4 : decode cX2_mostGroupsInParts 4 = .ok (.iload_n 3, 1) := by decide +kernel
theorem dX2_mostGroupsInParts_5 : decode cX2_mostGroupsInParts 5 = .ok (.aload_n 0, 1) := by decide +kernel
theorem dX2_mostGroupsInParts_6 : decode cX2_mostGroupsInParts 6 = .ok (.getfield 25, 3) := by decide +kernel
theorem dX2_mostGroupsInParts_9 : decode cX2_mostGroupsInParts 9 = .ok (.getfield 76, 3) := by decide +kernel
theorem dX2_mostGroupsInParts_12 : decode cX2_mostGroupsInParts 12 = .ok (.if_icmp .ge 37, 3) := by decide +kernel
theorem dX2_mostGroupsInParts_15 : decode cX2_mostGroupsInParts 15 = .ok (.iload_n 1, 1) := by decide +kernel
theorem dX2_mostGroupsInParts_16 : decode cX2_mostGroupsInParts 16 = .ok (.iload_n 3, 1) := by decide +kernel
theorem dX2_mostGroupsInParts_17 : decode cX2_mostGroupsInParts 17 = .ok (.ishr, 1) := by decide +kernel
theorem dX2_mostGroupsInParts_18 : decode cX2_mostGroupsInParts 18 = .ok (.iconst 1, 1) := by decide +kernel
theorem dX2_mostGroupsInParts_19 : decode cX2_mostGroupsInParts 19 = .ok (.iand, 1) := by decide +kernel
theorem dX2_mostGroupsInParts_20 : decode cX2_mostGroupsInParts 20 = .ok (.iconst 1, 1) := by decide +kernel
theorem dX2_mostGroupsInParts_21 : decode cX2_mostGroupsInParts 21 = .ok (.if_icmp .ne 22, 3) := by decide +kernel
theorem dX2_mostGroupsInParts_24 : decode cX2_mostGroupsInParts 24 = .ok (.iload_n 2, 1) := by decide +kernel
theorem dX2_mostGroupsInParts_25 : decode cX2_mostGroupsInParts 25 = .ok (.aload_n 0, 1) := by decide +kernel
theorem dX2_mostGroupsInParts_26 : decode cX2_mostGroupsInParts 26 = .ok (.getfield 22, 3) := by decide +kernel
theorem dX2_mostGroupsInParts_29 : decode cX2_mostGroupsInParts 29 = .ok (.iload_n 1, 1) := by decide +kernel
theorem dX2_mostGroupsInParts_30 : decode cX2_mostGroupsInParts 30 = .ok (.iconst 1, 1) := by decide +kernel
theorem dX2_mostGroupsInParts_31 : decode cX2_mostGroupsInParts 31 = .ok (.iload_n 3, 1) := by decide +kernel
theorem dX2_mostGroupsInParts_32 : decode cX2_mostGroupsInParts 32 = .ok (.ishl, 1) := by decide +kernel
theorem dX2_mostGroupsInParts_33 : decode cX2_mostGroupsInParts 33 = .ok (.iconst (-1), 1) := by decide +kernel
theorem dX2_mostGroupsInParts_34 : decode cX2_mostGroupsInParts 34 = .ok (.ixor, 1) := by decide +kernel
theorem dX2_mostGroupsInParts_35 : decode cX2_mostGroupsInParts 35 = .ok (.iand, 1) := by decide +kernel
theorem dX2_mostGroupsInParts_36 : decode cX2_mostGroupsInParts 36 = .ok (.invokestatic 97, 3) := by decide +kernel
theorem dX2_mostGroupsInParts_39 : decode cX2_mostGroupsInParts 39 = .ok (.invokestatic 119, 3) := by decide +kernel
theorem dX2_mostGroupsInParts_42 : decode cX2_mostGroupsInParts 42 = .ok (.istore_n 2, 1) := by decide +kernel
theorem dX2_mostGroupsInParts_43 : decode cX2_mostGroupsInParts 43 = .ok (.iinc 3 1, 3) := by decide +kernel
theorem dX2_mostGroupsInParts_46 : decode cX2_mostGroupsInParts 46 = .ok (.goto (-42), 3) := by decide +kernel
theorem dX2_mostGroupsInParts_49 : decode cX2_mostGroupsInParts 49 = .ok (.iload_n 2, 1) := by decide +kernel
theorem dX2_mostGroupsInParts_50 : decode cX2_mostGroupsInParts 50 = .ok (.ireturn, 1) := by decide +kernel
theorem dX3_at_0 : decode cX3_at 0 = .ok (.iload_n 1, 1) := by decide +kernel
theorem dX3_at_1 : decode cX3_at 1 = .ok (.ifCond .lt 15, 3) := by decide +kernel
theorem dX3_at_4 : decode cX3_at 4 = .ok (.iload_n 1, 1) := by decide +kernel
theorem dX3_at_5 : decode cX3_at 5 = .ok (.aload_n 0, 1) := by decide +kernel
theorem dX3_at_6 : decode cX3_at 6 = .ok (.arraylength, 1) := by decide +kernel
theorem dX3_at_7 : decode cX3_at 7 = .ok (.if_icmp .ge 9, 3) := by decide +kernel
theorem dX3_at_10 : decode cX3_at 10 = .ok (.aload_n 0, 1) := by decide +kernel
theorem dX3_at_11 : decode cX3_at 11 = .ok (.iload_n 1, 1) := by decide +kernel
theorem dX3_at_12 : decode cX3_at 12 = .ok (.iaload, 1) := by decide +kernel
theorem dX3_at_13 : decode cX3_at 13 = .ok (.goto 4, 3) := by decide +kernel
theorem dX3_at_16 : decode cX3_at 16 = .ok (.iconst 0, 1) := by decide +kernel
theorem dX3_at_17 : decode cX3_at 17 = .ok (.ireturn, 1) := by decide +kernel
theorem dX3_put_0 : decode cX3_put 0 = .ok (.iload_n 1, 1) := by decide +kernel
theorem dX3_put_1 : decode cX3_put 1 = .ok (.ifCond .lt 13, 3) := by decide +kernel
theorem dX3_put_4 : decode cX3_put 4 = .ok (.iload_n 1, 1) := by decide +kernel
theorem dX3_put_5 : decode cX3_put 5 = .ok (.aload_n 0, 1) := by decide +kernel
theorem dX3_put_6 : decode cX3_put 6 = .ok (.arraylength, 1) := by decide +kernel
theorem dX3_put_7 : decode cX3_put 7 = .ok (.if_icmp .ge 7, 3) := by decide +kernel
theorem dX3_put_10 : decode cX3_put 10 = .ok (.aload_n 0, 1) := by decide +kernel
theorem dX3_put_11 : decode cX3_put 11 = .ok (.iload_n 1, 1) := by decide +kernel
theorem dX3_put_12 : decode cX3_put 12 = .ok (.iload_n 2, 1) := by decide +kernel
theorem dX3_put_13 : decode cX3_put 13 = .ok (.iastore, 1) := by decide +kernel
theorem dX3_put_14 : decode cX3_put 14 = .ok (.return_, 1) := by decide +kernel
theorem dX3_copy_0 : decode cX3_copy 0 = .ok (.aload_n 0, 1) := by decide +kernel
theorem dX3_copy_1 : decode cX3_copy 1 = .ok (.iconst 0, 1) := by decide +kernel
theorem dX3_copy_2 : decode cX3_copy 2 = .ok (.aload_n 1, 1) := by decide +kernel
theorem dX3_copy_3 : decode cX3_copy 3 = .ok (.iconst 0, 1) := by decide +kernel
theorem dX3_copy_4 : decode cX3_copy 4 = .ok (.aload_n 0, 1) := by decide +kernel
theorem dX3_copy_5 : decode cX3_copy 5 = .ok (.arraylength, 1) := by decide +kernel
theorem dX3_copy_6 : decode cX3_copy 6 = .ok (.aload_n 1, 1) := by decide +kernel
theorem dX3_copy_7 : decode cX3_copy 7 = .ok (.arraylength, 1) := by decide +kernel
theorem dX3_copy_8 : decode cX3_copy 8 = .ok (.invokestatic 7, 3) := by decide +kernel
theorem dX3_copy_11 : decode cX3_copy 11 = .ok (.invokestatic 13, 3) := by decide +kernel
theorem dX3_copy_14 : decode cX3_copy 14 = .ok (.return_, 1) := by decide +kernel
theorem dX3_isMultiple_0 : decode cX3_isMultiple 0 = .ok (.iload_n 1, 1) := by decide +kernel
theorem dX3_isMultiple_1 : decode cX3_isMultiple 1 = .ok (.ifCond .le 13, 3) := by decide +kernel
theorem dX3_isMultiple_4 : decode cX3_isMultiple 4 = .ok (.iload_n 0, 1) := by decide +kernel
theorem dX3_isMultiple_5 : decode cX3_isMultiple 5 = .ok (.iload_n 1, 1) := by decide +kernel
theorem dX3_isMultiple_6 : decode cX3_isMultiple 6 = .ok (.irem, 1) := by decide +kernel
theorem dX3_isMultiple_7 : decode cX3_isMultiple 7 = .ok (.ifCond .ne 7, 3) := by decide +kernel
theorem dX3_isMultiple_10 : decode cX3_isMultiple 10 = .ok (.iconst 1, 1) := by decide +kernel
theorem dX3_isMultiple_11 : decode cX3_isMultiple 11 = .ok (.goto 4, 3) := by decide +kernel
theorem dX3_isMultiple_14 : decode cX3_isMultiple 14 = .ok (.iconst 0, 1) := by decide +kernel
theorem dX3_isMultiple_15 : decode cX3_isMultiple 15 = .ok (.ireturn, 1) := by decide +kernel
theorem dX4_init_0 : decode cX4_init 0 = .ok (.aload_n 0, 1) := by decide +kernel
theorem dX4_init_1 : decode cX4_init 1 = .ok (.invokespecial 3, 3) := by decide +kernel
theorem dX4_init_4 : decode cX4_init 4 = .ok (.aload_n 0, 1) := by decide +kernel
theorem dX4_init_5 : decode cX4_init 5 = .ok (.bipush 7, 2) := by decide +kernel
theorem dX4_init_7 : decode cX4_init 7 = .ok (.newarray .int, 2) := by decide +kernel
theorem dX4_init_9 : decode cX4_init 9 = .ok (.putfield 9, 3) := by decide +kernel
theorem dX4_init_12 : decode cX4_init 12 = .ok (.aload_n 0, 1) := by decide +kernel
theorem dX4_init_13 : decode cX4_init 13 = .ok (.bipush 7, 2) := by decide +kernel
theorem dX4_init_15 : decode cX4_init 15 = .ok (.newarray .int, 2) := by decide +kernel
theorem dX4_init_17 : decode cX4_init 17 = .ok (.putfield 15, 3) := by decide +kernel
theorem dX4_init_20 : decode cX4_init 20 = .ok (.aload_n 0, 1) := by decide +kernel
theorem dX4_init_21 : decode cX4_init 21 = .ok (.bipush 7, 2) := by decide +kernel
theorem dX4_init_23 : decode cX4_init 23 = .ok (.newarray .int, 2) := by decide +kernel
theorem dX4_init_25 : decode cX4_init 25 = .ok (.putfield 18, 3) := by decide +kernel
theorem dX4_init_28 : decode cX4_init 28 = .ok (.aload_n 0, 1) := by decide +kernel
theorem dX4_init_29 : decode cX4_init 29 = .ok (.bipush 49, 2) := by decide +kernel
theorem dX4_init_31 : decode cX4_init 31 = .ok (.newarray .int, 2) := by decide +kernel
theorem dX4_init_33 : decode cX4_init 33 = .ok (.putfield 21, 3) := by decide +kernel
theorem dX4_init_36 : decode cX4_init 36 = .ok (.return_, 1) := by decide +kernel
theorem dX4_empty_0 : decode cX4_empty 0 = .ok (.iconst 0, 1) := by decide +kernel
theorem dX4_empty_1 : decode cX4_empty 1 = .ok (.istore_n 1, 1) := by decide +kernel
theorem dX4_empty_2 : decode cX4_empty 2 = .ok (.iload_n 1, 1) := by decide +kernel
theorem dX4_empty_3 : decode cX4_empty 3 = .ok (.aload_n 0, 1) := by decide +kernel
theorem dX4_empty_4 : decode cX4_empty 4 = .ok (.getfield 21, 3) := by decide +kernel
theorem dX4_empty_7 : decode cX4_empty 7 = .ok (.arraylength, 1) := by decide +kernel
theorem dX4_empty_8 : decode cX4_empty 8 = .ok (.if_icmp .ge 16, 3) := by decide +kernel
theorem dX4_empty_11 : decode cX4_empty 11 = .ok (.aload_n 0, 1) := by decide +kernel
theorem dX4_empty_12 : decode cX4_empty 12 = .ok (.getfield 21, 3) := by decide +kernel
theorem dX4_empty_15 : decode cX4_empty 15 = .ok (.iload_n 1, 1) := by decide +kernel
theorem dX4_empty_16 : decode cX4_empty 16 = .ok (.iconst 0, 1) := by decide +kernel
theorem dX4_empty_17 : decode cX4_empty 17 = .ok (.iastore, 1) := by decide +kernel
theorem dX4_empty_18 : decode cX4_empty 18 = .ok (.iinc 1 1, 3) := by decide +kernel
theorem dX4_empty_21 : decode cX4_empty 21 = .ok (.goto (-19), 3) := by decide +kernel
theorem dX4_empty_24 : decode cX4_empty 24 = .ok (.aload_n 0, 1) := by decide +kernel
theorem dX4_empty_25 : decode cX4_empty 25 = .ok (.iconst 0, 1) := by decide +kernel
theorem dX4_empty_26 : decode cX4_empty 26 = .ok (.putfield 24, 3) := by decide +kernel
theorem dX4_empty_29 : decode cX4_empty 29 = .ok (.aload_n 0, 1) := by decide +kernel
theorem dX4_empty_30 : decode cX4_empty 30 = .ok (.iconst 0, 1) := by decide +kernel
theorem dX4_empty_31 : decode cX4_empty 31 = .ok (.putfield 28, 3) := by decide +kernel
theorem dX4_empty_34 : decode cX4_empty 34 = .ok (.return_, 1) := by decide +kernel
set_option maxRecDepth 20000 in
theorem ggX4_copyFrom_X3_copy : GoodIn wsX4_copyFrom wsX3_copy := goodIn_r _ [10, 11, 12, 13, 14, 15, 16, 17, 18] (by decide +kernel) (by decide +kernel)
set_option maxRecDepth 20000 in
theorem gX4_copyFrom_X3_copy : GoodIn wsX4_copyFrom (va_wsS RX4 31 yX3_copy wsX3_copy) := goodIn_app (goodIn_of _ (by decide +kernel)) ggX4_copyFrom_X3_copy
theorem dX4_copyFrom_0 : decode cX4_copyFrom 0 = .ok (.aload_n 1, 1) := by decide +kernel
theorem dX4_copyFrom_1 : decode cX4_copyFrom 1 = .ok (.getfield 9, 3) := by decide +kernel
theorem dX4_copyFrom_4 : decode cX4_copyFrom 4 = .ok (.aload_n 0, 1) := by decide +kernel
theorem dX4_copyFrom_5 : decode cX4_copyFrom 5 = .ok (.getfield 9, 3) := by decide +kernel
theorem dX4_copyFrom_8 : decode cX4_copyFrom 8 = .ok (.invokestatic 31, 3) := by decide +kernel
theorem dX4_copyFrom_11 : decode cX4_copyFrom 11 = .ok (.aload_n 1, 1) := by decide +kernel
theorem dX4_copyFrom_12 : decode cX4_copyFrom 12 = .ok (.getfield 15, 3) := by decide +kernel
theorem dX4_copyFrom_15 : decode cX4_copyFrom 15 = .ok (.aload_n 0, 1) := by decide +kernel
theorem dX4_copyFrom_16 : decode cX4_copyFrom 16 = .ok (.getfield 15, 3) := by decide +kernel
theorem dX4_copyFrom_19 : decode cX4_copyFrom 19 = .ok (.invokestatic 31, 3) := by decide +kernel
theorem dX4_copyFrom_22 : decode cX4_copyFrom 22 = .ok (.aload_n 1, 1) := by decide +kernel
theorem dX4_copyFrom_23 : decode cX4_copyFrom 23 = .ok (.getfield 18, 3) := by decide +kernel
theorem dX4_copyFrom_26 : decode cX4_copyFrom 26 = .ok (.aload_n 0, 1) := by decide +kernel
theorem dX4_copyFrom_27 : decode cX4_copyFrom 27 = .ok (.getfield 18, 3) := by decide +kernel
theorem dX4_copyFrom_30 : decode cX4_copyFrom 30 = .ok (.invokestatic 31, 3) := by decide +kernel
theorem dX4_copyFrom_33 : decode cX4_copyFrom 33 = .ok (.aload_n 1, 1) := by decide +kernel
theorem dX4_copyFrom_34 : decode cX4_copyFrom 34 = .ok (.getfield 21, 3) := by decide +kernel
theorem dX4_copyFrom_37 : decode cX4_copyFrom 37 = .ok (.aload_n 0, 1) := by decide +kernel
theorem dX4_copyFrom_38 : decode cX4_copyFrom 38 = .ok (.getfield 21, 3) := by decide +kernel
theorem dX4_copyFrom_41 : decode cX4_copyFrom 41 = .ok (.invokestatic 31, 3) := by decide +kernel
theorem dX4_copyFrom_44 : decode cX4_copyFrom 44 = .ok (.aload_n 0, 1) := by decide +kernel
theorem dX4_copyFrom_45 : decode cX4_copyFrom 45 = .ok (.aload_n 1, 1) := by decide +kernel
theorem dX4_copyFrom_46 : decode cX4_copyFrom 46 = .ok (.getfield 24, 3) := by decide +kernel
theorem dX4_copyFrom_49 : decode cX4_copyFrom 49 = .ok (.putfield 24, 3) := by decide +kernel
theorem dX4_copyFrom_52 : decode cX4_copyFrom 52 = .ok (.aload_n 0, 1) := by decide +kernel
theorem dX4_copyFrom_53 : decode cX4_copyFrom 53 = .ok (.aload_n 1, 1) := by decide +kernel
theorem dX4_copyFrom_54 : decode cX4_copyFrom 54 = .ok (.getfield 28, 3) := by decide +kernel
theorem dX4_copyFrom_57 : decode cX4_copyFrom 57 = .ok (.putfield 28, 3) := by decide +kernel
theorem dX4_copyFrom_60 : decode cX4_copyFrom 60 = .ok (.return_, 1) := by decide +kernel
set_option maxRecDepth 20000 in
theorem ggX4_placeOf_X3_at : GoodIn wsX4_placeOf wsX3_at := goodIn_r _ [6] (by decide +kernel) (by decide +kernel)
set_option maxRecDepth 20000 in
theorem gX4_placeOf_X3_at : GoodIn wsX4_placeOf (va_wsS RX4 37 yX3_at wsX3_at) := goodIn_app (goodIn_of _ (by decide +kernel)) ggX4_placeOf_X3_at
theorem dX4_placeOf_0 : decode cX4_placeOf 0 = .ok (.iconst 0, 1) := by decide +kernel
theorem dX4_placeOf_1 : decode cX4_placeOf 1 = .ok (.istore_n 2, 1) := by decide +kernel
theorem dX4_placeOf_2 : decode cX4_placeOf 2 = .ok (.iload_n 2, 1) := by decide +kernel
theorem dX4_placeOf_3 : decode cX4_placeOf 3 = .ok (.aload_n 0, 1) := by decide +kernel
theorem dX4_placeOf_4 : decode cX4_placeOf 4 = .ok (.getfield 24, 3) := by decide +kernel
theorem dX4_placeOf_7 : decode cX4_placeOf 7 = .ok (.if_icmp .ge 23, 3) := by decide +kernel
theorem dX4_placeOf_10 : decode cX4_placeOf 10 = .ok (.aload_n 0, 1) := by decide +kernel
theorem dX4_placeOf_11 : decode cX4_placeOf 11 = .ok (.getfield 9, 3) := by decide +kernel
theorem dX4_placeOf_14 : decode cX4_placeOf 14 = .ok (.iload_n 2, 1) := by decide +kernel
theorem dX4_placeOf_15 : decode cX4_placeOf 15 = .ok (.invokestatic 37, 3) := by decide +kernel
theorem dX4_placeOf_18 : decode cX4_placeOf 18 = .ok (.iload_n 1, 1) := by decide +kernel
theorem dX4_placeOf_19 : decode cX4_placeOf 19 = .ok (.if_icmp .ne 5, 3) := by decide +kernel
theorem dX4_placeOf_22 : decode cX4_placeOf 22 = .ok (.iload_n 2, 1) := by decide +kernel
theorem dX4_placeOf_23 : decode cX4_placeOf 23 = .ok (.ireturn, 1) := by decide +kernel
theorem dX4_placeOf_24 : decode cX4_placeOf 24 = .ok (.iinc 2 1, 3) := by decide +kernel
theorem dX4_placeOf_27 : decode cX4_placeOf 27 = .ok (.goto (-25), 3) := by decide +kernel
theorem dX4_placeOf_30 : decode cX4_placeOf 30 = .ok (.bipush (-4), 2) := by decide +kernel
theorem dX4_placeOf_32 : decode cX4_placeOf 32 = .ok (.ireturn, 1) := by decide +kernel
set_option maxRecDepth 20000 in
theorem ggX4_isQueued_X4_placeOf : GoodIn wsX4_isQueued wsX4_placeOf := goodIn_r _ [5, 6, 7, 8, 9, 10, 11, 12, 13, 14, 15, 16, 17] (by decide +kernel) (by decide +kernel)
set_option maxRecDepth 20000 in
theorem gX4_isQueued_X4_placeOf : GoodIn wsX4_isQueued (wsV RX4 41 RX4 yX4_placeOf wsX4_placeOf) := goodIn_app (goodIn_of _ (by decide +kernel)) ggX4_isQueued_X4_placeOf
theorem dX4_isQueued_0 : decode cX4_isQueued 0 = .ok (.aload_n 0, 1) := by decide +kernel
theorem dX4_isQueued_1 : decode cX4_isQueued 1 = .ok (.iload_n 1, 1) := by decide +kernel
theorem dX4_isQueued_2 : decode cX4_isQueued 2 = .ok (.invokevirtual 41, 3) := by decide +kernel
theorem dX4_isQueued_5 : decode cX4_isQueued 5 = .ok (.bipush (-4), 2) := by decide +kernel
theorem dX4_isQueued_7 : decode cX4_isQueued 7 = .ok (.if_icmp .eq 7, 3) := by decide +kernel
theorem dX4_isQueued_10 : decode cX4_isQueued 10 = .ok (.iconst 1, 1) := by decide +kernel
theorem dX4_isQueued_11 : decode cX4_isQueued 11 = .ok (.goto 4, 3) := by decide +kernel
theorem dX4_isQueued_14 : decode cX4_isQueued 14 = .ok (.iconst 0, 1) := by decide +kernel
theorem dX4_isQueued_15 : decode cX4_isQueued 15 = .ok (.ireturn, 1) := by decide +kernel
set_option maxRecDepth 20000 in
theorem ggX4_isServed_X3_at : GoodIn wsX4_isServed wsX3_at := goodIn_r _ [5] (by decide +kernel) (by decide +kernel)
set_option maxRecDepth 20000 in
theorem gX4_isServed_X3_at : GoodIn wsX4_isServed (va_wsS RX4 37 yX3_at wsX3_at) := goodIn_app (goodIn_of _ (by decide +kernel)) ggX4_isServed_X3_at
theorem dX4_isServed_0 : decode cX4_isServed 0 = .ok (.aload_n 0, 1) := by decide +kernel
theorem dX4_isServed_1 : decode cX4_isServed 1 = .ok (.getfield 15, 3) := by decide +kernel
theorem dX4_isServed_4 : decode cX4_isServed 4 = .ok (.iload_n 1, 1) := by decide +kernel
theorem dX4_isServed_5 : decode cX4_isServed 5 = .ok (.invokestatic 37, 3) := by decide +kernel
theorem dX4_isServed_8 : decode cX4_isServed 8 = .ok (.iconst 1, 1) := by decide +kernel
theorem dX4_isServed_9 : decode cX4_isServed 9 = .ok (.if_icmp .ne 7, 3) := by decide +kernel
theorem dX4_isServed_12 : decode cX4_isServed 12 = .ok (.iconst 1, 1) := by decide +kernel
theorem dX4_isServed_13 : decode cX4_isServed 13 = .ok (.goto 4, 3) := by decide +kernel
theorem dX4_isServed_16 : decode cX4_isServed 16 = .ok (.iconst 0, 1) := by decide +kernel
theorem dX4_isServed_17 : decode cX4_isServed 17 = .ok (.ireturn, 1) := by decide +kernel
set_option maxRecDepth 20000 in
theorem ggX4_numberOf_X3_at : GoodIn wsX4_numberOf wsX3_at := goodIn_r _ [6] (by decide +kernel) (by decide +kernel)
set_option maxRecDepth 20000 in
theorem gX4_numberOf_X3_at : GoodIn wsX4_numberOf (va_wsS RX4 37 yX3_at wsX3_at) := goodIn_app (goodIn_of _ (by decide +kernel)) ggX4_numberOf_X3_at
theorem dX4_numberOf_0 : decode cX4_numberOf 0 = .ok (.iconst 0, 1) := by decide +kernel
theorem dX4_numberOf_1 : decode cX4_numberOf 1 = .ok (.istore_n 3, 1) := by decide +kernel
theorem dX4_numberOf_2 : decode cX4_numberOf 2 = .ok (.iconst 0, 1) := by decide +kernel
theorem dX4_numberOf_3 : decode cX4_numberOf 3 = .ok (.istore 4, 2) := by decide +kernel
theorem dX4_numberOf_5 : decode cX4_numberOf 5 = .ok (.iload 4, 2) := by decide +kernel
theorem dX4_numberOf_7 : decode cX4_numberOf 7 = .ok (.aload_n 1, 1) := by decide +kernel
theorem dX4_numberOf_8 : decode cX4_numberOf 8 = .ok (.getfield 45, 3) := by decide +kernel
theorem dX4_numberOf_11 : decode cX4_numberOf 11 = .ok (.if_icmp .ge 25, 3) := by decide +kernel
theorem dX4_numberOf_14 : decode cX4_numberOf 14 = .ok (.aload_n 0, 1) := by decide +kernel
theorem dX4_numberOf_15 : decode cX4_numberOf 15 = .ok (.getfield 15, 3) := by decide +kernel
theorem dX4_numberOf_18 : decode cX4_numberOf 18 = .ok (.iload 4, 2) := by decide +kernel
theorem dX4_numberOf_20 : decode cX4_numberOf 20 = .ok (.invokestatic 37, 3) := by decide +kernel
theorem dX4_numberOf_23 : decode cX4_numberOf 23 = .ok (.iload_n 2, 1) := by decide +kernel
theorem dX4_numberOf_24 : decode cX4_numberOf 24 = .ok (.if_icmp .ne 6, 3) := by decide +kernel
theorem dX4_numberOf_27 : decode cX4_numberOf 27 = .ok (.iinc 3 1, 3) := by decide +kernel
theorem dX4_numberOf_30 : decode cX4_numberOf 30 = .ok (.iinc 4 1, 3) := by decide +kernel
theorem dX4_numberOf_33 : decode cX4_numberOf 33 = .ok (.goto (-28), 3) := by decide +kernel
theorem dX4_numberOf_36 : decode cX4_numberOf 36 = .ok (.iload_n 3, 1) := by decide +kernel
theorem dX4_numberOf_37 : decode cX4_numberOf 37 = .ok (.ireturn, 1) := by decide +kernel
set_option maxRecDepth 20000 in
theorem ggX4_debt_X3_at : GoodIn wsX4_debt wsX3_at := goodIn_r _ [5] (by decide +kernel) (by decide +kernel)
set_option maxRecDepth 20000 in
theorem gX4_debt_X3_at : GoodIn wsX4_debt (va_wsS RX4 37 yX3_at wsX3_at) := goodIn_app (goodIn_of _ (by decide +kernel)) ggX4_debt_X3_at
theorem dX4_debt_0 : decode cX4_debt 0 = .ok (.aload_n 0, 1) := by decide +kernel
theorem dX4_debt_1 : decode cX4_debt 1 = .ok (.getfield 21, 3) := by decide +kernel
theorem dX4_debt_4 : decode cX4_debt 4 = .ok (.iload_n 1, 1) := by decide +kernel
theorem dX4_debt_5 : decode cX4_debt 5 = .ok (.bipush 7, 2) := by decide +kernel
theorem dX4_debt_7 : decode cX4_debt 7 = .ok (.imul, 1) := by decide +kernel
theorem dX4_debt_8 : decode cX4_debt 8 = .ok (.iload_n 2, 1) := by decide +kernel
theorem dX4_debt_9 : decode cX4_debt 9 = .ok (.iadd, 1) := by decide +kernel
theorem dX4_debt_10 : decode cX4_debt 10 = .ok (.invokestatic 37, 3) := by decide +kernel
theorem dX4_debt_13 : decode cX4_debt 13 = .ok (.ireturn, 1) := by decide +kernel
set_option maxRecDepth 20000 in
theorem ggX4_setDebt_X3_put : GoodIn wsX4_setDebt wsX3_put := goodIn_r _ [5] (by decide +kernel) (by decide +kernel)
set_option maxRecDepth 20000 in
theorem gX4_setDebt_X3_put : GoodIn wsX4_setDebt (va_wsS RX4 50 yX3_put wsX3_put) := goodIn_app (goodIn_of _ (by decide +kernel)) ggX4_setDebt_X3_put
theorem dX4_setDebt_0 : decode cX4_setDebt 0 = .ok (.aload_n 0, 1) := by decide +kernel
theorem dX4_setDebt_1 : decode cX4_setDebt 1 = .ok (.getfield 21, 3) := by decide +kernel
theorem dX4_setDebt_4 : decode cX4_setDebt 4 = .ok (.iload_n 1, 1) := by decide +kernel
theorem dX4_setDebt_5 : decode cX4_setDebt 5 = .ok (.bipush 7, 2) := by decide +kernel
theorem dX4_setDebt_7 : decode cX4_setDebt 7 = .ok (.imul, 1) := by decide +kernel
theorem dX4_setDebt_8 : decode cX4_setDebt 8 = .ok (.iload_n 2, 1) := by decide +kernel
theorem dX4_setDebt_9 : decode cX4_setDebt 9 = .ok (.iadd, 1) := by decide +kernel
theorem dX4_setDebt_10 : decode cX4_setDebt 10 = .ok (.iload_n 3, 1) := by decide +kernel
theorem dX4_setDebt_11 : decode cX4_setDebt 11 = .ok (.invokestatic 50, 3) := by decide +kernel
theorem dX4_setDebt_14 : decode cX4_setDebt 14 = .ok (.return_, 1) := by decide +kernel
set_option maxRecDepth 20000 in
theorem ggX4_dueOf_X4_debt : GoodIn wsX4_dueOf wsX4_debt := goodIn_r _ [5, 6, 7, 8, 9, 10, 11, 12, 13, 14, 15, 16] (by decide +kernel) (by decide +kernel)
set_option maxRecDepth 20000 in
theorem gX4_dueOf_X4_debt : GoodIn wsX4_dueOf (wsV RX4 54 RX4 yX4_debt wsX4_debt) := goodIn_app (goodIn_of _ (by decide +kernel)) ggX4_dueOf_X4_debt
theorem dX4_dueOf_0 : decode cX4_dueOf 0 = .ok (.iconst 0, 1) := by decide +kernel
theorem dX4_dueOf_1 : decode cX4_dueOf 1 = .ok (.istore_n 2, 1) := by decide +kernel
theorem dX4_dueOf_2 : decode cX4_dueOf 2 = .ok (.iconst 0, 1) := by decide +kernel
theorem dX4_dueOf_3 : decode cX4_dueOf 3 = .ok (.istore_n 3, 1) := by decide +kernel
theorem dX4_dueOf_4 : decode cX4_dueOf 4 = .ok (.iload_n 3, 1) := by decide +kernel
theorem dX4_dueOf_5 : decode cX4_dueOf 5 = .ok (.bipush 7, 2) := by decide +kernel
theorem dX4_dueOf_7 : decode cX4_dueOf 7 = .ok (.if_icmp .ge 25, 3) := by decide +kernel
theorem dX4_dueOf_10 : decode cX4_dueOf 10 = .ok (.iload_n 2, 1) := by decide +kernel
theorem dX4_dueOf_11 : decode cX4_dueOf 11 = .ok (.aload_n 0, 1) := by decide +kernel
theorem dX4_dueOf_12 : decode cX4_dueOf 12 = .ok (.iload_n 3, 1) := by decide +kernel
theorem dX4_dueOf_13 : decode cX4_dueOf 13 = .ok (.iload_n 1, 1) := by decide +kernel
theorem dX4_dueOf_14 : decode cX4_dueOf 14 = .ok (.invokevirtual 54, 3) := by decide +kernel
theorem dX4_dueOf_17 : decode cX4_dueOf 17 = .ok (.aload_n 0, 1) := by decide +kernel
theorem dX4_dueOf_18 : decode cX4_dueOf 18 = .ok (.iload_n 1, 1) := by decide +kernel
theorem dX4_dueOf_19 : decode cX4_dueOf 19 = .ok (.iload_n 3, 1) := by decide +kernel
theorem dX4_dueOf_20 : decode cX4_dueOf 20 = .ok (.invokevirtual 54, 3) := by decide +kernel
theorem dX4_dueOf_23 : decode cX4_dueOf 23 = .ok (.isub, 1) := by decide +kernel
theorem dX4_dueOf_24 : decode cX4_dueOf 24 = .ok (.iadd, 1) := by decide +kernel
theorem dX4_dueOf_25 : decode cX4_dueOf 25 = .ok (.istore_n 2, 1) := by decide +kernel
theorem dX4_dueOf_26 : decode cX4_dueOf 26 = .ok (.iinc 3 1, 3) := by decide +kernel
theorem dX4_dueOf_29 : decode cX4_dueOf 29 = .ok (.goto (-25), 3) := by decide +kernel
theorem dX4_dueOf_32 : decode cX4_dueOf 32 = .ok (.iload_n 2, 1) := by decide +kernel
theorem dX4_dueOf_33 : decode cX4_dueOf 33 = .ok (.ireturn, 1) := by decide +kernel
theorem dX4_owedInAll_0 : decode cX4_owedInAll 0 = .ok (.iconst 0, 1) := by decide +kernel
theorem dX4_owedInAll_1 : decode cX4_owedInAll 1 = .ok (.istore_n 1, 1) := by decide +kernel
theorem dX4_owedInAll_2 : decode cX4_owedInAll 2 = .ok (.iconst 0, 1) := by decide +kernel
theorem dX4_owedInAll_3 : decode cX4_owedInAll 3 = .ok (.istore_n 2, 1) := by decide +kernel
theorem dX4_owedInAll_4 : decode cX4_owedInAll 4 = .ok (.iload_n 2, 1) := by decide +kernel
theorem dX4_owedInAll_5 : decode cX4_owedInAll 5 = .ok (.aload_n 0, 1) := by decide +kernel
theorem dX4_owedInAll_6 : decode cX4_owedInAll 6 = .ok (.getfield 21, 3) := by decide +kernel
theorem dX4_owedInAll_9 : decode cX4_owedInAll 9 = .ok (.arraylength, 1) := by decide +kernel
theorem dX4_owedInAll_10 : decode cX4_owedInAll 10 = .ok (.if_icmp .ge 18, 3) := by decide +kernel
theorem dX4_owedInAll_13 : decode cX4_owedInAll 13 = .ok (.iload_n 1, 1) := by decide +kernel
theorem dX4_owedInAll_14 : decode cX4_owedInAll 14 = .ok (.aload_n 0, 1) := by decide +kernel
theorem dX4_owedInAll_15 : decode cX4_owedInAll 15 = .ok (.getfield 21, 3) := by decide +kernel
theorem dX4_owedInAll_18 : decode cX4_owedInAll 18 = .ok (.iload_n 2, 1) := by decide +kernel
theorem dX4_owedInAll_19 : decode cX4_owedInAll 19 = .ok (.iaload, 1) := by decide +kernel
theorem dX4_owedInAll_20 : decode cX4_owedInAll 20 = .ok (.iadd, 1) := by decide +kernel
theorem dX4_owedInAll_21 : decode cX4_owedInAll 21 = .ok (.istore_n 1, 1) := by decide +kernel
theorem dX4_owedInAll_22 : decode cX4_owedInAll 22 = .ok (.iinc 2 1, 3) := by decide +kernel
theorem dX4_owedInAll_25 : decode cX4_owedInAll 25 = .ok (.goto (-21), 3) := by decide +kernel
theorem dX4_owedInAll_28 : decode cX4_owedInAll 28 = .ok (.iload_n 1, 1) := by decide +kernel
theorem dX4_owedInAll_29 : decode cX4_owedInAll 29 = .ok (.ireturn, 1) := by decide +kernel
set_option maxRecDepth 20000 in
theorem ggX4_append_X4_insert : GoodIn wsX4_append wsX4_insert := goodIn_r _ [6, 1, 7, 8, 9, 10, 11, 12, 13, 14, 15, 16, 17, 18, 19, 20, 21] (by decide +kernel) (by decide +kernel)
set_option maxRecDepth 20000 in
theorem gX4_append_X4_insert : GoodIn wsX4_append (wsV RX4 58 RX4 yX4_insert wsX4_insert) := goodIn_app (goodIn_of _ (by decide +kernel)) ggX4_append_X4_insert
theorem dX4_append_0 : decode cX4_append 0 = .ok (.aload_n 0, 1) := by decide +kernel
theorem dX4_append_1 : decode cX4_append 1 = .ok (.iload_n 1, 1) := by decide +kernel
theorem dX4_append_2 : decode cX4_append 2 = .ok (.aload_n 0, 1) := by decide +kernel
theorem dX4_append_3 : decode cX4_append 3 = .ok (.getfield 24, 3) := by decide +kernel
theorem dX4_append_6 : decode cX4_append 6 = .ok (.invokevirtual 58, 3) := by decide +kernel
theorem dX4_append_9 : decode cX4_append 9 = .ok (.return_, 1) := by decide +kernel
set_option maxRecDepth 20000 in
theorem ggX4_insert_X3_at : GoodIn wsX4_insert wsX3_at := goodIn_r _ [7] (by decide +kernel) (by decide +kernel)
set_option maxRecDepth 20000 in
theorem gX4_insert_X3_at : GoodIn wsX4_insert (va_wsS RX4 37 yX3_at wsX3_at) := goodIn_app (goodIn_of _ (by decide +kernel)) ggX4_insert_X3_at
set_option maxRecDepth 20000 in
theorem ggX4_insert_X3_put : GoodIn wsX4_insert wsX3_put := goodIn_r _ [10] (by decide +kernel) (by decide +kernel)
set_option maxRecDepth 20000 in
theorem gX4_insert_X3_put : GoodIn wsX4_insert (va_wsS RX4 50 yX3_put wsX3_put) := goodIn_app (goodIn_of _ (by decide +kernel)) ggX4_insert_X3_put
theorem dX4_insert_0 : decode cX4_insert 0 = .ok (.aload_n 0, 1) := by decide +kernel
theorem dX4_insert_1 : decode cX4_insert 1 = .ok (.getfield 24, 3) := by decide +kernel
theorem dX4_insert_4 : decode cX4_insert 4 = .ok (.istore_n 3, 1) := by decide +kernel
theorem dX4_insert_5 : decode cX4_insert 5 = .ok (.iload_n 3, 1) := by decide +kernel
theorem dX4_insert_6 : decode cX4_insert 6 = .ok (.iload_n 2, 1) := by decide +kernel
theorem dX4_insert_7 : decode cX4_insert 7 = .ok (.if_icmp .le 27, 3) := by decide +kernel
theorem dX4_insert_10 : decode cX4_insert 10 = .ok (.aload_n 0, 1) := by decide +kernel
theorem dX4_insert_11 : decode cX4_insert 11 = .ok (.getfield 9, 3) := by decide +kernel
theorem dX4_insert_14 : decode cX4_insert 14 = .ok (.iload_n 3, 1) := by decide +kernel
theorem dX4_insert_15 : decode cX4_insert 15 = .ok (.aload_n 0, 1) := by decide +kernel
theorem dX4_insert_16 : decode cX4_insert 16 = .ok (.getfield 9, 3) := by decide +kernel
theorem dX4_insert_19 : decode cX4_insert 19 = .ok (.iload_n 3, 1) := by decide +kernel
theorem dX4_insert_20 : decode cX4_insert 20 = .ok (.iconst 1, 1) := by decide +kernel
theorem dX4_insert_21 : decode cX4_insert 21 = .ok (.isub, 1) := by decide +kernel
theorem dX4_insert_22 : decode cX4_insert 22 = .ok (.invokestatic 37, 3) := by decide +kernel
theorem dX4_insert_25 : decode cX4_insert 25 = .ok (.invokestatic 50, 3) := by decide +kernel
theorem dX4_insert_28 : decode cX4_insert 28 = .ok (.iinc 3 (-1), 3) := by decide +kernel
theorem dX4_insert_31 : decode cX4_insert 31 = .ok (.goto (-26), 3) := by decide +kernel
theorem dX4_insert_34 : decode cX4_insert 34 = .ok (.aload_n 0, 1) := by decide +kernel
theorem dX4_insert_35 : decode cX4_insert 35 = .ok (.getfield 9, 3) := by decide +kernel
theorem dX4_insert_38 : decode cX4_insert 38 = .ok (.iload_n 2, 1) := by decide +kernel
theorem dX4_insert_39 : decode cX4_insert 39 = .ok (.iload_n 1, 1) := by decide +kernel
theorem dX4_insert_40 : decode cX4_insert 40 = .ok (.invokestatic 50, 3) := by decide +kernel
theorem dX4_insert_43 : decode cX4_insert 43 = .ok (.aload_n 0, 1) := by decide +kernel
theorem dX4_insert_44 : decode cX4_insert 44 = .ok (.getfield 15, 3) := by decide +kernel
theorem dX4_insert_47 : decode cX4_insert 47 = .ok (.iload_n 1, 1) := by decide +kernel
theorem dX4_insert_48 : decode cX4_insert 48 = .ok (.iconst 0, 1) := by decide +kernel
theorem dX4_insert_49 : decode cX4_insert 49 = .ok (.invokestatic 50, 3) := by decide +kernel
theorem dX4_insert_52 : decode cX4_insert 52 = .ok (.aload_n 0, 1) := by decide +kernel
theorem dX4_insert_53 : decode cX4_insert 53 = .ok (.dup, 1) := by decide +kernel
theorem dX4_insert_54 : decode cX4_insert 54 = .ok (.getfield 24, 3) := by decide +kernel
theorem dX4_insert_57 : decode cX4_insert 57 = .ok (.iconst 1, 1) := by decide +kernel
theorem dX4_insert_58 : decode cX4_insert 58 = .ok (.iadd, 1) := by decide +kernel
theorem dX4_insert_59 : decode cX4_insert 59 = .ok (.putfield 24, 3) := by decide +kernel
theorem dX4_insert_62 : decode cX4_insert 62 = .ok (.return_, 1) := by decide +kernel
set_option maxRecDepth 20000 in
theorem ggX4_takeOut_X4_placeOf : GoodIn wsX4_takeOut wsX4_placeOf := goodIn_r _ [8, 1, 2, 9, 10, 11, 12, 16, 17, 18, 19, 20, 21] (by decide +kernel) (by decide +kernel)
set_option maxRecDepth 20000 in
theorem gX4_takeOut_X4_placeOf : GoodIn wsX4_takeOut (wsV RX4 41 RX4 yX4_placeOf wsX4_placeOf) := goodIn_app (goodIn_of _ (by decide +kernel)) ggX4_takeOut_X4_placeOf
set_option maxRecDepth 20000 in
theorem ggX4_takeOut_X3_at : GoodIn wsX4_takeOut wsX3_at := goodIn_r _ [12] (by decide +kernel) (by decide +kernel)
set_option maxRecDepth 20000 in
theorem gX4_takeOut_X3_at : GoodIn wsX4_takeOut (va_wsS RX4 37 yX3_at wsX3_at) := goodIn_app (goodIn_of _ (by decide +kernel)) ggX4_takeOut_X3_at
set_option maxRecDepth 20000 in
theorem ggX4_takeOut_X3_put : GoodIn wsX4_takeOut wsX3_put := goodIn_r _ [15] (by decide +kernel) (by decide +kernel)
set_option maxRecDepth 20000 in
theorem gX4_takeOut_X3_put : GoodIn wsX4_takeOut (va_wsS RX4 50 yX3_put wsX3_put) := goodIn_app (goodIn_of _ (by decide +kernel)) ggX4_takeOut_X3_put
theorem dX4_takeOut_0 : decode cX4_takeOut 0 = .ok (.aload_n 0, 1) := by decide +kernel
theorem dX4_takeOut_1 : decode cX4_takeOut 1 = .ok (.iload_n 1, 1) := by decide +kernel
theorem dX4_takeOut_2 : decode cX4_takeOut 2 = .ok (.invokevirtual 41, 3) := by decide +kernel
theorem dX4_takeOut_5 : decode cX4_takeOut 5 = .ok (.istore_n 3, 1) := by decide +kernel
theorem dX4_takeOut_6 : decode cX4_takeOut 6 = .ok (.iload_n 3, 1) := by decide +kernel
theorem dX4_takeOut_7 : decode cX4_takeOut 7 = .ok (.bipush (-4), 2) := by decide +kernel
theorem dX4_takeOut_9 : decode cX4_takeOut 9 = .ok (.if_icmp .ne 4, 3) := by decide +kernel
theorem dX4_takeOut_12 : decode cX4_takeOut 12 = .ok (.return_, 1) := by decide +kernel
theorem dX4_takeOut_13 : decode cX4_takeOut 13 = .ok (.aload_n 0, 1) := by decide +kernel
theorem dX4_takeOut_14 : decode cX4_takeOut 14 = .ok (.dup, 1) := by decide +kernel
theorem dX4_takeOut_15 : decode cX4_takeOut 15 = .ok (.getfield 24, 3) := by decide +kernel
theorem dX4_takeOut_18 : decode cX4_takeOut 18 = .ok (.iconst 1, 1) := by decide +kernel
theorem dX4_takeOut_19 : decode cX4_takeOut 19 = .ok (.isub, 1) := by decide +kernel
theorem dX4_takeOut_20 : decode cX4_takeOut 20 = .ok (.putfield 24, 3) := by decide +kernel
theorem dX4_takeOut_23 : decode cX4_takeOut 23 = .ok (.iload_n 3, 1) := by decide +kernel
theorem dX4_takeOut_24 : decode cX4_takeOut 24 = .ok (.istore 4, 2) := by decide +kernel
theorem dX4_takeOut_26 : decode cX4_takeOut 26 = .ok (.iload 4, 2) := by decide +kernel
theorem dX4_takeOut_28 : decode cX4_takeOut 28 = .ok (.aload_n 0, 1) := by decide +kernel
theorem dX4_takeOut_29 : decode cX4_takeOut 29 = .ok (.getfield 24, 3) := by decide +kernel
theorem dX4_takeOut_32 : decode cX4_takeOut 32 = .ok (.if_icmp .ge 29, 3) := by decide +kernel
theorem dX4_takeOut_35 : decode cX4_takeOut 35 = .ok (.aload_n 0, 1) := by decide +kernel
theorem dX4_takeOut_36 : decode cX4_takeOut 36 = .ok (.getfield 9, 3) := by decide +kernel
theorem dX4_takeOut_39 : decode cX4_takeOut 39 = .ok (.iload 4, 2) := by decide +kernel
theorem dX4_takeOut_41 : decode cX4_takeOut 41 = .ok (.aload_n 0, 1) := by decide +kernel
theorem dX4_takeOut_42 : decode cX4_takeOut 42 = .ok (.getfield 9, 3) := by decide +kernel
theorem dX4_takeOut_45 : decode cX4_takeOut 45 = .ok (.iload 4, 2) := by decide +kernel
theorem dX4_takeOut_47 : decode cX4_takeOut 47 = .ok (.iconst 1, 1) := by decide +kernel
theorem dX4_takeOut_48 : decode cX4_takeOut 48 = .ok (.iadd, 1) := by decide +kernel
theorem dX4_takeOut_49 : decode cX4_takeOut 49 = .ok (.invokestatic 37, 3) := by decide +kernel
theorem dX4_takeOut_52 : decode cX4_takeOut 52 = .ok (.invokestatic 50, 3) := by decide +kernel
theorem dX4_takeOut_55 : decode cX4_takeOut 55 = .ok (.iinc 4 1, 3) := by decide +kernel
theorem dX4_takeOut_58 : decode cX4_takeOut 58 = .ok (.goto (-32), 3) := by decide +kernel
theorem dX4_takeOut_61 : decode cX4_takeOut 61 = .ok (.aload_n 0, 1) := by decide +kernel
theorem dX4_takeOut_62 : decode cX4_takeOut 62 = .ok (.getfield 15, 3) := by decide +kernel
theorem dX4_takeOut_65 : decode cX4_takeOut 65 = .ok (.iload_n 1, 1) := by decide +kernel
theorem dX4_takeOut_66 : decode cX4_takeOut 66 = .ok (.iload_n 2, 1) := by decide +kernel
theorem dX4_takeOut_67 : decode cX4_takeOut 67 = .ok (.invokestatic 50, 3) := by decide +kernel
theorem dX4_takeOut_70 : decode cX4_takeOut 70 = .ok (.return_, 1) := by decide +kernel
set_option maxRecDepth 20000 in
theorem ggX4_canLet_X4_placeOf : GoodIn wsX4_canLet wsX4_placeOf := goodIn_r _ [5, 6, 7, 8, 9, 10, 11, 12, 13, 14, 15, 16, 17] (by decide +kernel) (by decide +kernel)
set_option maxRecDepth 20000 in
theorem gX4_canLet_X4_placeOf : GoodIn wsX4_canLet (wsV RX4 41 RX4 yX4_placeOf wsX4_placeOf) := goodIn_app (goodIn_of _ (by decide +kernel)) ggX4_canLet_X4_placeOf
theorem dX4_canLet_0 : decode cX4_canLet 0 = .ok (.aload_n 0, 1) := by decide +kernel
theorem dX4_canLet_1 : decode cX4_canLet 1 = .ok (.iload_n 1, 1) := by decide +kernel
theorem dX4_canLet_2 : decode cX4_canLet 2 = .ok (.invokevirtual 41, 3) := by decide +kernel
theorem dX4_canLet_5 : decode cX4_canLet 5 = .ok (.istore_n 3, 1) := by decide +kernel
theorem dX4_canLet_6 : decode cX4_canLet 6 = .ok (.iload_n 3, 1) := by decide +kernel
theorem dX4_canLet_7 : decode cX4_canLet 7 = .ok (.bipush (-4), 2) := by decide +kernel
theorem dX4_canLet_9 : decode cX4_canLet 9 = .ok (.if_icmp .eq 16, 3) := by decide +kernel
theorem dX4_canLet_12 : decode cX4_canLet 12 = .ok (.aload_n 0, 1) := by decide +kernel
theorem dX4_canLet_13 : decode cX4_canLet 13 = .ok (.iload_n 2, 1) := by decide +kernel
theorem dX4_canLet_14 : decode cX4_canLet 14 = .ok (.invokevirtual 41, 3) := by decide +kernel
theorem dX4_canLet_17 : decode cX4_canLet 17 = .ok (.iload_n 3, 1) := by decide +kernel
theorem dX4_canLet_18 : decode cX4_canLet 18 = .ok (.if_icmp .le 7, 3) := by decide +kernel
theorem dX4_canLet_21 : decode cX4_canLet 21 = .ok (.iconst 1, 1) := by decide +kernel
theorem dX4_canLet_22 : decode cX4_canLet 22 = .ok (.goto 4, 3) := by decide +kernel
theorem dX4_canLet_25 : decode cX4_canLet 25 = .ok (.iconst 0, 1) := by decide +kernel
theorem dX4_canLet_26 : decode cX4_canLet 26 = .ok (.ireturn, 1) := by decide +kernel
set_option maxRecDepth 20000 in
theorem ggX4_letPast_X4_placeOf : GoodIn wsX4_letPast wsX4_placeOf := goodIn_r _ [5, 6, 7, 8, 9, 10, 11, 24, 25, 26, 27, 28, 29] (by decide +kernel) (by decide +kernel)
set_option maxRecDepth 20000 in
theorem gX4_letPast_X4_placeOf : GoodIn wsX4_letPast (wsV RX4 41 RX4 yX4_placeOf wsX4_placeOf) := goodIn_app (goodIn_of _ (by decide +kernel)) ggX4_letPast_X4_placeOf
set_option maxRecDepth 20000 in
theorem ggX4_letPast_X4_takeOut : GoodIn wsX4_letPast wsX4_takeOut := goodIn_r _ [15, 6, 7, 16, 1, 2, 3, 4, 5, 8, 9, 10, 11, 17, 18, 19, 24, 25, 26, 27, 28, 29] (by decide +kernel) (by decide +kernel)
set_option maxRecDepth 20000 in
theorem gX4_letPast_X4_takeOut : GoodIn wsX4_letPast (wsV RX4 62 RX4 yX4_takeOut wsX4_takeOut) := goodIn_app (goodIn_of _ (by decide +kernel)) ggX4_letPast_X4_takeOut
set_option maxRecDepth 20000 in
theorem ggX4_letPast_X4_insert : GoodIn wsX4_letPast wsX4_insert := goodIn_r _ [23, 6, 7, 16, 8, 9, 10, 11, 17, 18, 19, 24, 25, 26, 27, 28, 29] (by decide +kernel) (by decide +kernel)
set_option maxRecDepth 20000 in
theorem gX4_letPast_X4_insert : GoodIn wsX4_letPast (wsV RX4 58 RX4 yX4_insert wsX4_insert) := goodIn_app (goodIn_of _ (by decide +kernel)) ggX4_letPast_X4_insert
theorem dX4_letPast_0 : decode cX4_letPast 0 = .ok (.aload_n 0, 1) := by decide +kernel
theorem dX4_letPast_1 : decode cX4_letPast 1 = .ok (.iload_n 1, 1) := by decide +kernel
theorem dX4_letPast_2 : decode cX4_letPast 2 = .ok (.invokevirtual 41, 3) := by decide +kernel
theorem dX4_letPast_5 : decode cX4_letPast 5 = .ok (.istore_n 3, 1) := by decide +kernel
theorem dX4_letPast_6 : decode cX4_letPast 6 = .ok (.aload_n 0, 1) := by decide +kernel
theorem dX4_letPast_7 : decode cX4_letPast 7 = .ok (.iload_n 2, 1) := by decide +kernel
theorem dX4_letPast_8 : decode cX4_letPast 8 = .ok (.iconst 2, 1) := by decide +kernel
theorem dX4_letPast_9 : decode cX4_letPast 9 = .ok (.invokevirtual 62, 3) := by decide +kernel
theorem dX4_letPast_12 : decode cX4_letPast 12 = .ok (.aload_n 0, 1) := by decide +kernel
theorem dX4_letPast_13 : decode cX4_letPast 13 = .ok (.iload_n 2, 1) := by decide +kernel
theorem dX4_letPast_14 : decode cX4_letPast 14 = .ok (.iload_n 3, 1) := by decide +kernel
theorem dX4_letPast_15 : decode cX4_letPast 15 = .ok (.invokevirtual 58, 3) := by decide +kernel
theorem dX4_letPast_18 : decode cX4_letPast 18 = .ok (.return_, 1) := by decide +kernel
set_option maxRecDepth 20000 in
theorem ggX4_payable_X4_debt : GoodIn wsX4_payable wsX4_debt := goodIn_r _ [10, 11, 12, 13, 14, 15, 16, 17, 18, 19, 20, 21] (by decide +kernel) (by decide +kernel)
set_option maxRecDepth 20000 in
theorem gX4_payable_X4_debt : GoodIn wsX4_payable (wsV RX4 54 RX4 yX4_debt wsX4_debt) := goodIn_app (goodIn_of _ (by decide +kernel)) ggX4_payable_X4_debt
set_option maxRecDepth 20000 in
theorem ggX4_payable_X3_at : GoodIn wsX4_payable wsX3_at := goodIn_r _ [15] (by decide +kernel) (by decide +kernel)
set_option maxRecDepth 20000 in
theorem gX4_payable_X3_at : GoodIn wsX4_payable (va_wsS RX4 37 yX3_at wsX3_at) := goodIn_app (goodIn_of _ (by decide +kernel)) ggX4_payable_X3_at
theorem dX4_payable_0 : decode cX4_payable 0 = .ok (.aload_n 0, 1) := by decide +kernel
theorem dX4_payable_1 : decode cX4_payable 1 = .ok (.iload_n 1, 1) := by decide +kernel
theorem dX4_payable_2 : decode cX4_payable 2 = .ok (.iload_n 2, 1) := by decide +kernel
theorem dX4_payable_3 : decode cX4_payable 3 = .ok (.invokevirtual 54, 3) := by decide +kernel
theorem dX4_payable_6 : decode cX4_payable 6 = .ok (.aload_n 0, 1) := by decide +kernel
theorem dX4_payable_7 : decode cX4_payable 7 = .ok (.getfield 18, 3) := by decide +kernel
theorem dX4_payable_10 : decode cX4_payable 10 = .ok (.iload_n 1, 1) := by decide +kernel
theorem dX4_payable_11 : decode cX4_payable 11 = .ok (.invokestatic 37, 3) := by decide +kernel
theorem dX4_payable_14 : decode cX4_payable 14 = .ok (.invokestatic 65, 3) := by decide +kernel
theorem dX4_payable_17 : decode cX4_payable 17 = .ok (.ireturn, 1) := by decide +kernel
set_option maxRecDepth 20000 in
theorem ggX4_settle_X4_payable : GoodIn wsX4_settle wsX4_payable := goodIn_r _ [6, 1, 7, 8, 9, 10, 11, 12, 13, 5, 14, 15, 16, 17, 18, 19, 27, 28, 29, 30, 31, 32] (by decide +kernel) (by decide +kernel)
set_option maxRecDepth 20000 in
theorem gX4_settle_X4_payable : GoodIn wsX4_settle (wsV RX4 70 RX4 yX4_payable wsX4_payable) := goodIn_app (goodIn_of _ (by decide +kernel)) ggX4_settle_X4_payable
set_option maxRecDepth 20000 in
theorem ggX4_settle_X4_debt : GoodIn wsX4_settle wsX4_debt := goodIn_r _ [14, 15, 16, 17, 18, 19, 27, 28, 29, 30, 31, 32] (by decide +kernel) (by decide +kernel)
set_option maxRecDepth 20000 in
theorem gX4_settle_X4_debt : GoodIn wsX4_settle (wsV RX4 54 RX4 yX4_debt wsX4_debt) := goodIn_app (goodIn_of _ (by decide +kernel)) ggX4_settle_X4_debt
set_option maxRecDepth 20000 in
theorem ggX4_settle_X4_setDebt : GoodIn wsX4_settle wsX4_setDebt := goodIn_r _ [23, 15, 24, 25, 18, 26, 27, 28, 29, 30, 31, 32] (by decide +kernel) (by decide +kernel)
set_option maxRecDepth 20000 in
theorem gX4_settle_X4_setDebt : GoodIn wsX4_settle (wsV RX4 73 RX4 yX4_setDebt wsX4_setDebt) := goodIn_app (goodIn_of _ (by decide +kernel)) ggX4_settle_X4_setDebt
set_option maxRecDepth 20000 in
theorem ggX4_settle_X3_at : GoodIn wsX4_settle wsX3_at := goodIn_r _ [19] (by decide +kernel) (by decide +kernel)
set_option maxRecDepth 20000 in
theorem gX4_settle_X3_at : GoodIn wsX4_settle (va_wsS RX4 37 yX3_at wsX3_at) := goodIn_app (goodIn_of _ (by decide +kernel)) ggX4_settle_X3_at
set_option maxRecDepth 20000 in
theorem ggX4_settle_X3_put : GoodIn wsX4_settle wsX3_put := goodIn_r _ [26] (by decide +kernel) (by decide +kernel)
set_option maxRecDepth 20000 in
theorem gX4_settle_X3_put : GoodIn wsX4_settle (va_wsS RX4 50 yX3_put wsX3_put) := goodIn_app (goodIn_of _ (by decide +kernel)) ggX4_settle_X3_put
theorem dX4_settle_0 : decode cX4_settle 0 = .ok (.aload_n 0, 1) := by decide +kernel
theorem dX4_settle_1 : decode cX4_settle 1 = .ok (.iload_n 1, 1) := by decide +kernel
theorem dX4_settle_2 : decode cX4_settle 2 = .ok (.iload_n 2, 1) := by decide +kernel
theorem dX4_settle_3 : decode cX4_settle 3 = .ok (.invokevirtual 70, 3) := by decide +kernel
theorem dX4_settle_6 : decode cX4_settle 6 = .ok (.istore_n 3, 1) := by decide +kernel
theorem dX4_settle_7 : decode cX4_settle 7 = .ok (.aload_n 0, 1) := by decide +kernel
theorem dX4_settle_8 : decode cX4_settle 8 = .ok (.iload_n 1, 1) := by decide +kernel
theorem dX4_settle_9 : decode cX4_settle 9 = .ok (.iload_n 2, 1) := by decide +kernel
theorem dX4_settle_10 : decode cX4_settle 10 = .ok (.aload_n 0, 1) := by decide +kernel
theorem dX4_settle_11 : decode cX4_settle 11 = .ok (.iload_n 1, 1) := by decide +kernel
theorem dX4_settle_12 : decode cX4_settle 12 = .ok (.iload_n 2, 1) := by decide +kernel
theorem dX4_settle_13 : decode cX4_settle 13 = .ok (.invokevirtual 54, 3) := by decide +kernel
theorem dX4_settle_16 : decode cX4_settle 16 = .ok (.iload_n 3, 1) := by decide +kernel
theorem dX4_settle_17 : decode cX4_settle 17 = .ok (.isub, 1) := by decide +kernel
theorem dX4_settle_18 : decode cX4_settle 18 = .ok (.invokevirtual 73, 3) := by decide +kernel
theorem dX4_settle_21 : decode cX4_settle 21 = .ok (.aload_n 0, 1) := by decide +kernel
