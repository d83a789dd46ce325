theorem dX4_settle_22 : decode cX4_settle 22 = .ok (.getfield 18, 3) := by decide +kernel
theorem dX4_settle_25 : decode cX4_settle 25 = .ok (.iload_n 1, 1) := by decide +kernel
theorem dX4_settle_26 : decode cX4_settle 26 = .ok (.aload_n 0, 1) := by decide +kernel
theorem dX4_settle_27 : decode cX4_settle 27 = .ok (.getfield 18, 3) := by decide +kernel
theorem dX4_settle_30 : decode cX4_settle 30 = .ok (.iload_n 1, 1) := by decide +kernel
theorem dX4_settle_31 : decode cX4_settle 31 = .ok (.invokestatic 37, 3) := by decide +kernel
theorem dX4_settle_34 : decode cX4_settle 34 = .ok (.iload_n 3, 1) := by decide +kernel
theorem dX4_settle_35 : decode cX4_settle 35 = .ok (.isub, 1) := by decide +kernel
theorem dX4_settle_36 : decode cX4_settle 36 = .ok (.invokestatic 50, 3) := by decide +kernel
theorem dX4_settle_39 : decode cX4_settle 39 = .ok (.aload_n 0, 1) := by decide +kernel
theorem dX4_settle_40 : decode cX4_settle 40 = .ok (.getfield 18, 3) := by decide +kernel
theorem dX4_settle_43 : decode cX4_settle 43 = .ok (.iload_n 2, 1) := by decide +kernel
theorem dX4_settle_44 : decode cX4_settle 44 = .ok (.aload_n 0, 1) := by decide +kernel
theorem dX4_settle_45 : decode cX4_settle 45 = .ok (.getfield 18, 3) := by decide +kernel
theorem dX4_settle_48 : decode cX4_settle 48 = .ok (.iload_n 2, 1) := by decide +kernel
theorem dX4_settle_49 : decode cX4_settle 49 = .ok (.invokestatic 37, 3) := by decide +kernel
theorem dX4_settle_52 : decode cX4_settle 52 = .ok (.iload_n 3, 1) := by decide +kernel
theorem dX4_settle_53 : decode cX4_settle 53 = .ok (.iadd, 1) := by decide +kernel
theorem dX4_settle_54 : decode cX4_settle 54 = .ok (.invokestatic 50, 3) := by decide +kernel
theorem dX4_settle_57 : decode cX4_settle 57 = .ok (.return_, 1) := by decide +kernel
set_option maxRecDepth 20000 in
theorem ggX4_wantsFor_X3_at : GoodIn wsX4_wantsFor wsX3_at := goodIn_r _ [6] (by decide +kernel) (by decide +kernel)
set_option maxRecDepth 20000 in
theorem gX4_wantsFor_X3_at : GoodIn wsX4_wantsFor (va_wsS RX4 37 yX3_at wsX3_at) := goodIn_app (goodIn_of _ (by decide +kernel)) ggX4_wantsFor_X3_at
theorem dX4_wantsFor_0 : decode cX4_wantsFor 0 = .ok (.aload_n 1, 1) := by decide +kernel
theorem dX4_wantsFor_1 : decode cX4_wantsFor 1 = .ok (.getfield 77, 3) := by decide +kernel
theorem dX4_wantsFor_4 : decode cX4_wantsFor 4 = .ok (.iload_n 2, 1) := by decide +kernel
theorem dX4_wantsFor_5 : decode cX4_wantsFor 5 = .ok (.invokestatic 37, 3) := by decide +kernel
theorem dX4_wantsFor_8 : decode cX4_wantsFor 8 = .ok (.tableswitch 66 0 3 #[32, 66, 42, 44], 32) := by decide +kernel
theorem dX4_wantsFor_40 : decode cX4_wantsFor 40 = .ok (.iload_n 3, 1) := by decide +kernel
theorem dX4_wantsFor_41 : decode cX4_wantsFor 41 = .ok (.ifCond .le 7, 3) := by decide +kernel
theorem dX4_wantsFor_44 : decode cX4_wantsFor 44 = .ok (.iconst 1, 1) := by decide +kernel
theorem dX4_wantsFor_45 : decode cX4_wantsFor 45 = .ok (.goto 4, 3) := by decide +kernel
theorem dX4_wantsFor_48 : decode cX4_wantsFor 48 = .ok (.iconst 0, 1) := by decide +kernel
theorem dX4_wantsFor_49 : decode cX4_wantsFor 49 = .ok (.ireturn, 1) := by decide +kernel
theorem dX4_wantsFor_50 : decode cX4_wantsFor 50 = .ok (.iconst 1, 1) := by decide +kernel
theorem dX4_wantsFor_51 : decode cX4_wantsFor 51 = .ok (.ireturn, 1) := by decide +kernel
theorem dX4_wantsFor_52 : decode cX4_wantsFor 52 = .ok (.iload_n 3, 1) := by decide +kernel
theorem dX4_wantsFor_53 : decode cX4_wantsFor 53 = .ok (.ifCond .le 19, 3) := by decide +kernel
theorem dX4_wantsFor_56 : decode cX4_wantsFor 56 = .ok (.aload_n 0, 1) := by decide +kernel
theorem dX4_wantsFor_57 : decode cX4_wantsFor 57 = .ok (.getfield 18, 3) := by decide +kernel
theorem dX4_wantsFor_60 : decode cX4_wantsFor 60 = .ok (.iload_n 2, 1) := by decide +kernel
theorem dX4_wantsFor_61 : decode cX4_wantsFor 61 = .ok (.invokestatic 37, 3) := by decide +kernel
theorem dX4_wantsFor_64 : decode cX4_wantsFor 64 = .ok (.iload_n 3, 1) := by decide +kernel
theorem dX4_wantsFor_65 : decode cX4_wantsFor 65 = .ok (.if_icmp .lt 7, 3) := by decide +kernel
theorem dX4_wantsFor_68 : decode cX4_wantsFor 68 = .ok (.iconst 1, 1) := by decide +kernel
theorem dX4_wantsFor_69 : decode cX4_wantsFor 69 = .ok (.goto 4, 3) := by decide +kernel
theorem dX4_wantsFor_72 : decode cX4_wantsFor 72 = .ok (.iconst 0, 1) := by decide +kernel
theorem dX4_wantsFor_73 : decode cX4_wantsFor 73 = .ok (.ireturn, 1) := by decide +kernel
theorem dX4_wantsFor_74 : decode cX4_wantsFor 74 = .ok (.iconst 0, 1) := by decide +kernel
theorem dX4_wantsFor_75 : decode cX4_wantsFor 75 = .ok (.ireturn, 1) := by decide +kernel
set_option maxRecDepth 20000 in
theorem ggX4_run_X4_runMinute : GoodIn wsX4_run wsX4_runMinute := goodIn_r _ [5, 6, 7, 8, 9, 10, 11, 12, 4, 13, 14, 15, 16, 17, 18, 19, 20, 21, 22, 23, 24, 25, 26, 27, 28, 29, 30, 31, 32, 33, 34, 35, 36, 37, 38, 39, 40, 41, 42, 43, 44, 45, 46, 47, 48, 49, 50, 51, 52, 53, 54, 55, 56, 57, 58, 59, 60, 61, 62, 63, 64, 65, 66, 67, 68, 69, 70] (by decide +kernel) (by decide +kernel)
set_option maxRecDepth 20000 in
theorem gX4_run_X4_runMinute : GoodIn wsX4_run (wsV RX4 80 RX4 yX4_runMinute wsX4_runMinute) := goodIn_app (goodIn_of _ (by decide +kernel)) ggX4_run_X4_runMinute
theorem dX4_run_0 : decode cX4_run 0 = .ok (.iconst 0, 1) := by decide +kernel
theorem dX4_run_1 : decode cX4_run 1 = .ok (.istore_n 3, 1) := by decide +kernel
theorem dX4_run_2 : decode cX4_run 2 = .ok (.iload_n 3, 1) := by decide +kernel
theorem dX4_run_3 : decode cX4_run 3 = .ok (.iload_n 2, 1) := by decide +kernel
theorem dX4_run_4 : decode cX4_run 4 = .ok (.if_icmp .ge 15, 3) := by decide +kernel
theorem dX4_run_7 : decode cX4_run 7 = .ok (.aload_n 0, 1) := by decide +kernel
theorem dX4_run_8 : decode cX4_run 8 = .ok (.aload_n 1, 1) := by decide +kernel
theorem dX4_run_9 : decode cX4_run 9 = .ok (.iconst 1, 1) := by decide +kernel
theorem dX4_run_10 : decode cX4_run 10 = .ok (.invokevirtual 80, 3) := by decide +kernel
theorem dX4_run_13 : decode cX4_run 13 = .ok (.iinc 3 1, 3) := by decide +kernel
theorem dX4_run_16 : decode cX4_run 16 = .ok (.goto (-14), 3) := by decide +kernel
theorem dX4_run_19 : decode cX4_run 19 = .ok (.return_, 1) := by decide +kernel
set_option maxRecDepth 20000 in
theorem ggX4_runMinute_X4_pushAll : GoodIn wsX4_runMinute wsX4_pushAll := goodIn_r _ [9, 2, 4, 1, 10, 11, 12, 13, 14, 15, 16, 17, 18, 19, 20, 21, 22, 23, 24, 25, 26, 27, 28, 29, 30, 31, 8, 32, 33, 34, 35, 36, 37, 38, 39, 40, 41, 42, 43, 44, 45, 46, 56, 57, 58, 59, 60, 61, 62, 63, 64, 65, 66] (by decide +kernel) (by decide +kernel)
set_option maxRecDepth 20000 in
theorem gX4_runMinute_X4_pushAll : GoodIn wsX4_runMinute (wsV RX4 84 RX4 yX4_pushAll wsX4_pushAll) := goodIn_app (goodIn_of _ (by decide +kernel)) ggX4_runMinute_X4_pushAll
set_option maxRecDepth 20000 in
theorem ggX4_runMinute_X3_isMultiple : GoodIn wsX4_runMinute wsX3_isMultiple := goodIn_r _ [21] (by decide +kernel) (by decide +kernel)
set_option maxRecDepth 20000 in
theorem gX4_runMinute_X3_isMultiple : GoodIn wsX4_runMinute (va_wsS RX4 91 yX3_isMultiple wsX3_isMultiple) := goodIn_app (goodIn_of _ (by decide +kernel)) ggX4_runMinute_X3_isMultiple
set_option maxRecDepth 20000 in
theorem ggX4_runMinute_X3_at : GoodIn wsX4_runMinute wsX3_at := goodIn_r _ [18] (by decide +kernel) (by decide +kernel)
set_option maxRecDepth 20000 in
theorem gX4_runMinute_X3_at : GoodIn wsX4_runMinute (va_wsS RX4 37 yX3_at wsX3_at) := goodIn_app (goodIn_of _ (by decide +kernel)) ggX4_runMinute_X3_at
set_option maxRecDepth 20000 in
theorem ggX4_runMinute_X4_takeOut : GoodIn wsX4_runMinute wsX4_takeOut := goodIn_r _ [50, 2, 4, 51, 52, 53, 54, 8, 55, 15, 16, 17, 18, 44, 45, 46, 56, 57, 58, 59, 60, 61] (by decide +kernel) (by decide +kernel)
set_option maxRecDepth 20000 in
theorem gX4_runMinute_X4_takeOut : GoodIn wsX4_runMinute (wsV RX4 62 RX4 yX4_takeOut wsX4_takeOut) := goodIn_app (goodIn_of _ (by decide +kernel)) ggX4_runMinute_X4_takeOut
theorem dX4_runMinute_0 : decode cX4_runMinute 0 = .ok (.aload_n 0, 1) := by decide +kernel
theorem dX4_runMinute_1 : decode cX4_runMinute 1 = .ok (.dup, 1) := by decide +kernel
theorem dX4_runMinute_2 : decode cX4_runMinute 2 = .ok (.getfield 28, 3) := by decide +kernel
theorem dX4_runMinute_5 : decode cX4_runMinute 5 = .ok (.iconst 1, 1) := by decide +kernel
theorem dX4_runMinute_6 : decode cX4_runMinute 6 = .ok (.iadd, 1) := by decide +kernel
theorem dX4_runMinute_7 : decode cX4_runMinute 7 = .ok (.putfield 28, 3) := by decide +kernel
theorem dX4_runMinute_10 : decode cX4_runMinute 10 = .ok (.iload_n 2, 1) := by decide +kernel
theorem dX4_runMinute_11 : decode cX4_runMinute 11 = .ok (.ifCond .eq 8, 3) := by decide +kernel
theorem dX4_runMinute_14 : decode cX4_runMinute 14 = .ok (.aload_n 0, 1) := by decide +kernel
theorem dX4_runMinute_15 : decode cX4_runMinute 15 = .ok (.aload_n 1, 1) := by decide +kernel
theorem dX4_runMinute_16 : decode cX4_runMinute 16 = .ok (.invokevirtual 84, 3) := by decide +kernel
theorem dX4_runMinute_19 : decode cX4_runMinute 19 = .ok (.aload_n 0, 1) := by decide +kernel
theorem dX4_runMinute_20 : decode cX4_runMinute 20 = .ok (.getfield 24, 3) := by decide +kernel
theorem dX4_runMinute_23 : decode cX4_runMinute 23 = .ok (.ifCond .le 30, 3) := by decide +kernel
theorem dX4_runMinute_26 : decode cX4_runMinute 26 = .ok (.aload_n 0, 1) := by decide +kernel
theorem dX4_runMinute_27 : decode cX4_runMinute 27 = .ok (.getfield 28, 3) := by decide +kernel
theorem dX4_runMinute_30 : decode cX4_runMinute 30 = .ok (.aload_n 1, 1) := by decide +kernel
theorem dX4_runMinute_31 : decode cX4_runMinute 31 = .ok (.getfield 88, 3) := by decide +kernel
theorem dX4_runMinute_34 : decode cX4_runMinute 34 = .ok (.invokestatic 91, 3) := by decide +kernel
theorem dX4_runMinute_37 : decode cX4_runMinute 37 = .ok (.ifCond .eq 16, 3) := by decide +kernel
theorem dX4_runMinute_40 : decode cX4_runMinute 40 = .ok (.aload_n 0, 1) := by decide +kernel
theorem dX4_runMinute_41 : decode cX4_runMinute 41 = .ok (.aload_n 0, 1) := by decide +kernel
theorem dX4_runMinute_42 : decode cX4_runMinute 42 = .ok (.getfield 9, 3) := by decide +kernel
theorem dX4_runMinute_45 : decode cX4_runMinute 45 = .ok (.iconst 0, 1) := by decide +kernel
theorem dX4_runMinute_46 : decode cX4_runMinute 46 = .ok (.invokestatic 37, 3) := by decide +kernel
theorem dX4_runMinute_49 : decode cX4_runMinute 49 = .ok (.iconst 1, 1) := by decide +kernel
theorem dX4_runMinute_50 : decode cX4_runMinute 50 = .ok (.invokevirtual 62, 3) := by decide +kernel
theorem dX4_runMinute_53 : decode cX4_runMinute 53 = .ok (.return_, 1) := by decide +kernel
set_option maxRecDepth 20000 in
theorem ggX4_pushAll_X3_at : GoodIn wsX4_pushAll wsX3_at := goodIn_r _ [12] (by decide +kernel) (by decide +kernel)
set_option maxRecDepth 20000 in
theorem gX4_pushAll_X3_at : GoodIn wsX4_pushAll (va_wsS RX4 37 yX3_at wsX3_at) := goodIn_app (goodIn_of _ (by decide +kernel)) ggX4_pushAll_X3_at
set_option maxRecDepth 20000 in
theorem ggX4_pushAll_X3_isMultiple : GoodIn wsX4_pushAll wsX3_isMultiple := goodIn_r _ [15] (by decide +kernel) (by decide +kernel)
set_option maxRecDepth 20000 in
theorem gX4_pushAll_X3_isMultiple : GoodIn wsX4_pushAll (va_wsS RX4 91 yX3_isMultiple wsX3_isMultiple) := goodIn_app (goodIn_of _ (by decide +kernel)) ggX4_pushAll_X3_isMultiple
set_option maxRecDepth 20000 in
theorem ggX4_pushAll_X1_gain : GoodIn wsX4_pushAll wsX1_gain := goodIn_r _ [20, 21, 22, 10, 11, 12, 48, 49, 50, 51, 52] (by decide +kernel) (by decide +kernel)
set_option maxRecDepth 20000 in
theorem gX4_pushAll_X1_gain : GoodIn wsX4_pushAll (wsV RX4 98 RX1 yX1_gain wsX1_gain) := goodIn_app (goodIn_of _ (by decide +kernel)) ggX4_pushAll_X1_gain
set_option maxRecDepth 20000 in
theorem ggX4_pushAll_X4_wantsFor : GoodIn wsX4_pushAll wsX4_wantsFor := goodIn_r _ [27, 28, 29, 9, 10, 11, 12, 48, 49, 50, 51, 52, 42, 43, 44, 45, 46, 47] (by decide +kernel) (by decide +kernel)
set_option maxRecDepth 20000 in
theorem gX4_pushAll_X4_wantsFor : GoodIn wsX4_pushAll (wsV RX4 101 RX4 yX4_wantsFor wsX4_wantsFor) := goodIn_app (goodIn_of _ (by decide +kernel)) ggX4_pushAll_X4_wantsFor
set_option maxRecDepth 20000 in
theorem ggX4_pushAll_X4_debt : GoodIn wsX4_pushAll wsX4_debt := goodIn_r _ [33, 34, 9, 10, 11, 12, 42, 43, 44, 45, 46, 47] (by decide +kernel) (by decide +kernel)
set_option maxRecDepth 20000 in
theorem gX4_pushAll_X4_debt : GoodIn wsX4_pushAll (wsV RX4 54 RX4 yX4_debt wsX4_debt) := goodIn_app (goodIn_of _ (by decide +kernel)) ggX4_pushAll_X4_debt
set_option maxRecDepth 20000 in
theorem ggX4_pushAll_X4_setDebt : GoodIn wsX4_pushAll wsX4_setDebt := goodIn_r _ [38, 34, 39, 40, 11, 41, 42, 43, 44, 45, 46, 47] (by decide +kernel) (by decide +kernel)
set_option maxRecDepth 20000 in
theorem gX4_pushAll_X4_setDebt : GoodIn wsX4_pushAll (wsV RX4 73 RX4 yX4_setDebt wsX4_setDebt) := goodIn_app (goodIn_of _ (by decide +kernel)) ggX4_pushAll_X4_setDebt
theorem dX4_pushAll_0 : decode cX4_pushAll 0 = .ok (.iconst 1, 1) := by decide +kernel
theorem dX4_pushAll_1 : decode cX4_pushAll 1 = .ok (.istore_n 2, 1) := by decide +kernel
theorem dX4_pushAll_2 : decode cX4_pushAll 2 = .ok (.iload_n 2, 1) := by decide +kernel
theorem dX4_pushAll_3 : decode cX4_pushAll 3 = .ok (.aload_n 0, 1) := by decide +kernel
theorem dX4_pushAll_4 : decode cX4_pushAll 4 = .ok (.getfield 24, 3) := by decide +kernel
theorem dX4_pushAll_7 : decode cX4_pushAll 7 = .ok (.if_icmp .ge 111, 3) := by decide +kernel
theorem dX4_pushAll_10 : decode cX4_pushAll 10 = .ok (.iload_n 2, 1) := by decide +kernel
theorem dX4_pushAll_11 : decode cX4_pushAll 11 = .ok (.aload_n 0, 1) := by decide +kernel
theorem dX4_pushAll_12 : decode cX4_pushAll 12 = .ok (.getfield 9, 3) := by decide +kernel
theorem dX4_pushAll_15 : decode cX4_pushAll 15 = .ok (.arraylength, 1) := by decide +kernel
theorem dX4_pushAll_16 : decode cX4_pushAll 16 = .ok (.if_icmp .ge 102, 3) := by decide +kernel
theorem dX4_pushAll_19 : decode cX4_pushAll 19 = .ok (.aload_n 0, 1) := by decide +kernel
theorem dX4_pushAll_20 : decode cX4_pushAll 20 = .ok (.getfield 9, 3) := by decide +kernel
theorem dX4_pushAll_23 : decode cX4_pushAll 23 = .ok (.iload_n 2, 1) := by decide +kernel
theorem dX4_pushAll_24 : decode cX4_pushAll 24 = .ok (.iaload, 1) := by decide +kernel
theorem dX4_pushAll_25 : decode cX4_pushAll 25 = .ok (.istore_n 3, 1) := by decide +kernel
theorem dX4_pushAll_26 : decode cX4_pushAll 26 = .ok (.aload_n 0, 1) := by decide +kernel
theorem dX4_pushAll_27 : decode cX4_pushAll 27 = .ok (.getfield 28, 3) := by decide +kernel
theorem dX4_pushAll_30 : decode cX4_pushAll 30 = .ok (.aload_n 1, 1) := by decide +kernel
theorem dX4_pushAll_31 : decode cX4_pushAll 31 = .ok (.getfield 95, 3) := by decide +kernel
theorem dX4_pushAll_34 : decode cX4_pushAll 34 = .ok (.iload_n 3, 1) := by decide +kernel
theorem dX4_pushAll_35 : decode cX4_pushAll 35 = .ok (.invokestatic 37, 3) := by decide +kernel
theorem dX4_pushAll_38 : decode cX4_pushAll 38 = .ok (.invokestatic 91, 3) := by decide +kernel
theorem dX4_pushAll_41 : decode cX4_pushAll 41 = .ok (.ifCond .eq 71, 3) := by decide +kernel
theorem dX4_pushAll_44 : decode cX4_pushAll 44 = .ok (.aload_n 0, 1) := by decide +kernel
theorem dX4_pushAll_45 : decode cX4_pushAll 45 = .ok (.getfield 9, 3) := by decide +kernel
theorem dX4_pushAll_48 : decode cX4_pushAll 48 = .ok (.iload_n 2, 1) := by decide +kernel
theorem dX4_pushAll_49 : decode cX4_pushAll 49 = .ok (.iconst 1, 1) := by decide +kernel
theorem dX4_pushAll_50 : decode cX4_pushAll 50 = .ok (.isub, 1) := by decide +kernel
theorem dX4_pushAll_51 : decode cX4_pushAll 51 = .ok (.iaload, 1) := by decide +kernel
theorem dX4_pushAll_52 : decode cX4_pushAll 52 = .ok (.istore 4, 2) := by decide +kernel
theorem dX4_pushAll_54 : decode cX4_pushAll 54 = .ok (.aload_n 1, 1) := by decide +kernel
theorem dX4_pushAll_55 : decode cX4_pushAll 55 = .ok (.iload_n 3, 1) := by decide +kernel
theorem dX4_pushAll_56 : decode cX4_pushAll 56 = .ok (.iload 4, 2) := by decide +kernel
theorem dX4_pushAll_58 : decode cX4_pushAll 58 = .ok (.invokevirtual 98, 3) := by decide +kernel
theorem dX4_pushAll_61 : decode cX4_pushAll 61 = .ok (.istore 5, 2) := by decide +kernel
theorem dX4_pushAll_63 : decode cX4_pushAll 63 = .ok (.aload_n 0, 1) := by decide +kernel
theorem dX4_pushAll_64 : decode cX4_pushAll 64 = .ok (.aload_n 1, 1) := by decide +kernel
theorem dX4_pushAll_65 : decode cX4_pushAll 65 = .ok (.iload_n 3, 1) := by decide +kernel
theorem dX4_pushAll_66 : decode cX4_pushAll 66 = .ok (.iload 5, 2) := by decide +kernel
theorem dX4_pushAll_68 : decode cX4_pushAll 68 = .ok (.invokevirtual 101, 3) := by decide +kernel
theorem dX4_pushAll_71 : decode cX4_pushAll 71 = .ok (.ifCond .eq 41, 3) := by decide +kernel
theorem dX4_pushAll_74 : decode cX4_pushAll 74 = .ok (.aload_n 0, 1) := by decide +kernel
theorem dX4_pushAll_75 : decode cX4_pushAll 75 = .ok (.getfield 9, 3) := by decide +kernel
theorem dX4_pushAll_78 : decode cX4_pushAll 78 = .ok (.iload_n 2, 1) := by decide +kernel
theorem dX4_pushAll_79 : decode cX4_pushAll 79 = .ok (.iconst 1, 1) := by decide +kernel
theorem dX4_pushAll_80 : decode cX4_pushAll 80 = .ok (.isub, 1) := by decide +kernel
theorem dX4_pushAll_81 : decode cX4_pushAll 81 = .ok (.iload_n 3, 1) := by decide +kernel
theorem dX4_pushAll_82 : decode cX4_pushAll 82 = .ok (.iastore, 1) := by decide +kernel
theorem dX4_pushAll_83 : decode cX4_pushAll 83 = .ok (.aload_n 0, 1) := by decide +kernel
theorem dX4_pushAll_84 : decode cX4_pushAll 84 = .ok (.getfield 9, 3) := by decide +kernel
theorem dX4_pushAll_87 : decode cX4_pushAll 87 = .ok (.iload_n 2, 1) := by decide +kernel
theorem dX4_pushAll_88 : decode cX4_pushAll 88 = .ok (.iload 4, 2) := by decide +kernel
theorem dX4_pushAll_90 : decode cX4_pushAll 90 = .ok (.iastore, 1) := by decide +kernel
theorem dX4_pushAll_91 : decode cX4_pushAll 91 = .ok (.aload_n 0, 1) := by decide +kernel
theorem dX4_pushAll_92 : decode cX4_pushAll 92 = .ok (.iload_n 3, 1) := by decide +kernel
theorem dX4_pushAll_93 : decode cX4_pushAll 93 = .ok (.iload 4, 2) := by decide +kernel
theorem dX4_pushAll_95 : decode cX4_pushAll 95 = .ok (.aload_n 0, 1) := by decide +kernel
theorem dX4_pushAll_96 : decode cX4_pushAll 96 = .ok (.iload_n 3, 1) := by decide +kernel
theorem dX4_pushAll_97 : decode cX4_pushAll 97 = .ok (.iload 4, 2) := by decide +kernel
theorem dX4_pushAll_99 : decode cX4_pushAll 99 = .ok (.invokevirtual 54, 3) := by decide +kernel
theorem dX4_pushAll_102 : decode cX4_pushAll 102 = .ok (.iconst 0, 1) := by decide +kernel
theorem dX4_pushAll_103 : decode cX4_pushAll 103 = .ok (.iload 5, 2) := by decide +kernel
theorem dX4_pushAll_105 : decode cX4_pushAll 105 = .ok (.invokestatic 105, 3) := by decide +kernel
theorem dX4_pushAll_108 : decode cX4_pushAll 108 = .ok (.iadd, 1) := by decide +kernel
theorem dX4_pushAll_109 : decode cX4_pushAll 109 = .ok (.invokevirtual 73, 3) := by decide +kernel
theorem dX4_pushAll_112 : decode cX4_pushAll 112 = .ok (.iinc 2 1, 3) := by decide +kernel
theorem dX4_pushAll_115 : decode cX4_pushAll 115 = .ok (.goto (-113), 3) := by decide +kernel
theorem dX4_pushAll_118 : decode cX4_pushAll 118 = .ok (.return_, 1) := by decide +kernel
set_option maxRecDepth 20000 in
theorem ggX5_init_X1_init : GoodIn wsX5_init wsX1_init := goodIn_r _ [16, 17, 2, 3, 12, 18, 19, 20, 28, 29, 30, 31, 32] (by decide +kernel) (by decide +kernel)
set_option maxRecDepth 20000 in
theorem gX5_init_X1_init_n11 : GoodIn wsX5_init (wsX1_init) := ggX5_init_X1_init
set_option maxRecDepth 20000 in
theorem ggX5_init_X4_init : GoodIn wsX5_init wsX4_init := goodIn_r _ [22, 23, 2, 3, 12, 24, 25, 26, 27, 39, 40, 41, 42, 43, 44] (by decide +kernel) (by decide +kernel)
set_option maxRecDepth 20000 in
theorem gX5_init_X4_init_n20 : GoodIn wsX5_init (wsX4_init) := ggX5_init_X4_init
theorem dX5_init_0 : decode cX5_init 0 = .ok (.aload_n 0, 1) := by decide +kernel
theorem dX5_init_1 : decode cX5_init 1 = .ok (.invokespecial 3, 3) := by decide +kernel
theorem dX5_init_4 : decode cX5_init 4 = .ok (.aload_n 0, 1) := by decide +kernel
theorem dX5_init_5 : decode cX5_init 5 = .ok (.new 9, 3) := by decide +kernel
theorem dX5_init_8 : decode cX5_init 8 = .ok (.dup, 1) := by decide +kernel
theorem dX5_init_9 : decode cX5_init 9 = .ok (.invokespecial 11, 3) := by decide +kernel
theorem dX5_init_12 : decode cX5_init 12 = .ok (.putfield 12, 3) := by decide +kernel
theorem dX5_init_15 : decode cX5_init 15 = .ok (.aload_n 0, 1) := by decide +kernel
theorem dX5_init_16 : decode cX5_init 16 = .ok (.new 18, 3) := by decide +kernel
theorem dX5_init_19 : decode cX5_init 19 = .ok (.dup, 1) := by decide +kernel
theorem dX5_init_20 : decode cX5_init 20 = .ok (.invokespecial 20, 3) := by decide +kernel
theorem dX5_init_23 : decode cX5_init 23 = .ok (.putfield 21, 3) := by decide +kernel
theorem dX5_init_26 : decode cX5_init 26 = .ok (.aload_n 0, 1) := by decide +kernel
theorem dX5_init_27 : decode cX5_init 27 = .ok (.sipush 200, 3) := by decide +kernel
theorem dX5_init_30 : decode cX5_init 30 = .ok (.newarray .int, 2) := by decide +kernel
theorem dX5_init_32 : decode cX5_init 32 = .ok (.putfield 25, 3) := by decide +kernel
theorem dX5_init_35 : decode cX5_init 35 = .ok (.aload_n 0, 1) := by decide +kernel
theorem dX5_init_36 : decode cX5_init 36 = .ok (.iconst 4, 1) := by decide +kernel
theorem dX5_init_37 : decode cX5_init 37 = .ok (.newarray .int, 2) := by decide +kernel
theorem dX5_init_39 : decode cX5_init 39 = .ok (.putfield 29, 3) := by decide +kernel
theorem dX5_init_42 : decode cX5_init 42 = .ok (.return_, 1) := by decide +kernel
set_option maxRecDepth 20000 in
theorem ggX5_add_X3_put : GoodIn wsX5_add wsX3_put := goodIn_r _ [6] (by decide +kernel) (by decide +kernel)
set_option maxRecDepth 20000 in
theorem gX5_add_X3_put : GoodIn wsX5_add (va_wsS RX5 36 yX3_put wsX3_put) := goodIn_app (goodIn_of _ (by decide +kernel)) ggX5_add_X3_put
theorem dX5_add_0 : decode cX5_add 0 = .ok (.aload_n 0, 1) := by decide +kernel
theorem dX5_add_1 : decode cX5_add 1 = .ok (.getfield 25, 3) := by decide +kernel
theorem dX5_add_4 : decode cX5_add 4 = .ok (.aload_n 0, 1) := by decide +kernel
theorem dX5_add_5 : decode cX5_add 5 = .ok (.getfield 32, 3) := by decide +kernel
theorem dX5_add_8 : decode cX5_add 8 = .ok (.iload_n 1, 1) := by decide +kernel
theorem dX5_add_9 : decode cX5_add 9 = .ok (.invokestatic 36, 3) := by decide +kernel
theorem dX5_add_12 : decode cX5_add 12 = .ok (.aload_n 0, 1) := by decide +kernel
theorem dX5_add_13 : decode cX5_add 13 = .ok (.dup, 1) := by decide +kernel
theorem dX5_add_14 : decode cX5_add 14 = .ok (.getfield 32, 3) := by decide +kernel
theorem dX5_add_17 : decode cX5_add 17 = .ok (.iconst 1, 1) := by decide +kernel
theorem dX5_add_18 : decode cX5_add 18 = .ok (.iadd, 1) := by decide +kernel
theorem dX5_add_19 : decode cX5_add 19 = .ok (.putfield 32, 3) := by decide +kernel
theorem dX5_add_22 : decode cX5_add 22 = .ok (.return_, 1) := by decide +kernel
set_option maxRecDepth 20000 in
theorem ggX5_read_X1_empty : GoodIn wsX5_read wsX1_empty := goodIn_r _ [9, 10, 11, 98, 99, 100, 101, 102] (by decide +kernel) (by decide +kernel)
set_option maxRecDepth 20000 in
theorem gX5_read_X1_empty : GoodIn wsX5_read (wsV RX5 42 RX1 yX1_empty wsX1_empty) := goodIn_app (goodIn_of _ (by decide +kernel)) ggX5_read_X1_empty
set_option maxRecDepth 20000 in
theorem ggX5_read_X4_empty : GoodIn wsX5_read wsX4_empty := goodIn_r _ [16, 17, 18, 19, 103, 104, 105, 106, 107, 108] (by decide +kernel) (by decide +kernel)
set_option maxRecDepth 20000 in
theorem gX5_read_X4_empty : GoodIn wsX5_read (wsV RX5 45 RX4 yX4_empty wsX4_empty) := goodIn_app (goodIn_of _ (by decide +kernel)) ggX5_read_X4_empty
set_option maxRecDepth 20000 in
theorem ggX5_read_X5_readItem : GoodIn wsX5_read wsX5_readItem := goodIn_r _ [24, 3, 25, 26, 27, 23, 28, 4, 29, 30, 31, 32, 33, 34, 35, 36, 37, 38, 39, 40, 41, 42, 43, 44, 45, 46, 47, 48, 49, 50, 51, 52, 1, 53, 2, 54, 55, 56, 57, 15, 58, 18, 59, 60, 61, 62, 63, 64, 65, 66, 67, 68, 69, 8, 70, 71, 10, 72, 73, 74, 75, 76, 77, 78, 79, 80, 81, 82, 83, 84, 85, 86, 87, 88, 89, 90, 91, 17, 92, 93, 94, 95, 96, 97, 98, 99, 100, 101, 102, 103, 104, 105, 106, 107, 108] (by decide +kernel) (by decide +kernel)
set_option maxRecDepth 20000 in
theorem gX5_read_X5_readItem : GoodIn wsX5_read (wsV RX5 49 RX5 yX5_readItem wsX5_readItem) := goodIn_app (goodIn_of _ (by decide +kernel)) ggX5_read_X5_readItem
theorem dX5_read_0 : decode cX5_read 0 = .ok (.aload_n 0, 1) := by decide +kernel
theorem dX5_read_1 : decode cX5_read 1 = .ok (.getfield 12, 3) := by decide +kernel
theorem dX5_read_4 : decode cX5_read 4 = .ok (.invokevirtual 42, 3) := by decide +kernel
theorem dX5_read_7 : decode cX5_read 7 = .ok (.aload_n 0, 1) := by decide +kernel
theorem dX5_read_8 : decode cX5_read 8 = .ok (.getfield 21, 3) := by decide +kernel
theorem dX5_read_11 : decode cX5_read 11 = .ok (.invokevirtual 45, 3) := by decide +kernel
theorem dX5_read_14 : decode cX5_read 14 = .ok (.aload_n 0, 1) := by decide +kernel
theorem dX5_read_15 : decode cX5_read 15 = .ok (.iconst 0, 1) := by decide +kernel
theorem dX5_read_16 : decode cX5_read 16 = .ok (.putfield 46, 3) := by decide +kernel
theorem dX5_read_19 : decode cX5_read 19 = .ok (.iconst 0, 1) := by decide +kernel
theorem dX5_read_20 : decode cX5_read 20 = .ok (.istore_n 1, 1) := by decide +kernel
theorem dX5_read_21 : decode cX5_read 21 = .ok (.iload_n 1, 1) := by decide +kernel
theorem dX5_read_22 : decode cX5_read 22 = .ok (.sipush 200, 3) := by decide +kernel
theorem dX5_read_25 : decode cX5_read 25 = .ok (.if_icmp .ge 34, 3) := by decide +kernel
theorem dX5_read_28 : decode cX5_read 28 = .ok (.aload_n 0, 1) := by decide +kernel
theorem dX5_read_29 : decode cX5_read 29 = .ok (.getfield 46, 3) := by decide +kernel
theorem dX5_read_32 : decode cX5_read 32 = .ok (.aload_n 0, 1) := by decide +kernel
theorem dX5_read_33 : decode cX5_read 33 = .ok (.getfield 32, 3) := by decide +kernel
theorem dX5_read_36 : decode cX5_read 36 = .ok (.if_icmp .ge 23, 3) := by decide +kernel
theorem dX5_read_39 : decode cX5_read 39 = .ok (.aload_n 0, 1) := by decide +kernel
theorem dX5_read_40 : decode cX5_read 40 = .ok (.getfield 46, 3) := by decide +kernel
theorem dX5_read_43 : decode cX5_read 43 = .ok (.istore_n 2, 1) := by decide +kernel
theorem dX5_read_44 : decode cX5_read 44 = .ok (.aload_n 0, 1) := by decide +kernel
theorem dX5_read_45 : decode cX5_read 45 = .ok (.invokevirtual 49, 3) := by decide +kernel
theorem dX5_read_48 : decode cX5_read 48 = .ok (.ifCond .ne 5, 3) := by decide +kernel
theorem dX5_read_51 : decode cX5_read 51 = .ok (.iload_n 2, 1) := by decide +kernel
theorem dX5_read_52 : decode cX5_read 52 = .ok (.ireturn, 1) := by decide +kernel
theorem dX5_read_53 : decode cX5_read 53 = .ok (.iinc 1 1, 3) := by decide +kernel
theorem dX5_read_56 : decode cX5_read 56 = .ok (.goto (-35), 3) := by decide +kernel
theorem dX5_read_59 : decode cX5_read 59 = .ok (.bipush (-4), 2) := by decide +kernel
theorem dX5_read_61 : decode cX5_read 61 = .ok (.ireturn, 1) := by decide +kernel
set_option maxRecDepth 20000 in
theorem ggX5_readItem_X5_letterAt : GoodIn wsX5_readItem wsX5_letterAt := goodIn_r _ [6, 7, 8, 9, 10, 11, 12, 78, 79, 80, 81, 82, 83] (by decide +kernel) (by decide +kernel)
set_option maxRecDepth 20000 in
theorem gX5_readItem_X5_letterAt : GoodIn wsX5_readItem (wsV RX5 53 RX5 yX5_letterAt wsX5_letterAt) := goodIn_app (goodIn_of _ (by decide +kernel)) ggX5_readItem_X5_letterAt
set_option maxRecDepth 20000 in
theorem ggX5_readItem_X5_readNumbers : GoodIn wsX5_readItem wsX5_readNumbers := goodIn_r _ [16, 1, 17, 18, 19, 5, 20, 21, 2, 3, 4, 6, 7, 8, 9, 10, 11, 12, 22, 23, 24, 25, 26, 27, 78, 79, 80, 81, 82, 83] (by decide +kernel) (by decide +kernel)
set_option maxRecDepth 20000 in
theorem gX5_readItem_X5_readNumbers : GoodIn wsX5_readItem (wsV RX5 57 RX5 yX5_readNumbers wsX5_readNumbers) := goodIn_app (goodIn_of _ (by decide +kernel)) ggX5_readItem_X5_readNumbers
set_option maxRecDepth 20000 in
theorem ggX5_readItem_X5_tellPerson : GoodIn wsX5_readItem wsX5_tellPerson := goodIn_r _ [31, 21, 32, 33, 34, 35, 9, 10, 11, 12, 25, 26, 27, 36, 37, 38, 39, 40, 41, 42, 43, 44, 45, 46, 47, 48, 49, 50, 51, 52, 53, 54, 55, 56, 57, 58, 59, 78, 79, 80, 81, 82, 83, 84, 85, 86, 87, 88, 89, 90, 91, 92, 93, 94] (by decide +kernel) (by decide +kernel)
set_option maxRecDepth 20000 in
theorem gX5_readItem_X5_tellPerson : GoodIn wsX5_readItem (wsV RX5 61 RX5 yX5_tellPerson wsX5_tellPerson) := goodIn_app (goodIn_of _ (by decide +kernel)) ggX5_readItem_X5_tellPerson
set_option maxRecDepth 20000 in
theorem ggX5_readItem_X5_tellServed : GoodIn wsX5_readItem wsX5_tellServed := goodIn_r _ [63, 21, 32, 64, 9, 10, 11, 12, 78, 79, 80, 81, 82, 83, 84, 85, 86, 87, 88] (by decide +kernel) (by decide +kernel)
set_option maxRecDepth 20000 in
theorem gX5_readItem_X5_tellServed : GoodIn wsX5_readItem (wsV RX5 64 RX5 yX5_tellServed wsX5_tellServed) := goodIn_app (goodIn_of _ (by decide +kernel)) ggX5_readItem_X5_tellServed
set_option maxRecDepth 20000 in
theorem ggX5_readItem_X5_tellDebt : GoodIn wsX5_readItem wsX5_tellDebt := goodIn_r _ [68, 21, 32, 34, 9, 10, 11, 12, 69, 70, 71, 53, 72, 56, 73, 74, 75, 39, 76, 77, 49, 26, 27, 78, 79, 80, 81, 82, 83, 84, 85, 86, 87, 88, 89, 90, 91, 92, 93, 94] (by decide +kernel) (by decide +kernel)
set_option maxRecDepth 20000 in
theorem gX5_readItem_X5_tellDebt : GoodIn wsX5_readItem (wsV RX5 67 RX5 yX5_tellDebt wsX5_tellDebt) := goodIn_app (goodIn_of _ (by decide +kernel)) ggX5_readItem_X5_tellDebt
theorem dX5_readItem_0 : decode cX5_readItem 0 = .ok (.aload_n 0, 1) := by decide +kernel
theorem dX5_readItem_1 : decode cX5_readItem 1 = .ok (.aload_n 0, 1) := by decide +kernel
theorem dX5_readItem_2 : decode cX5_readItem 2 = .ok (.getfield 46, 3) := by decide +kernel
theorem dX5_readItem_5 : decode cX5_readItem 5 = .ok (.invokevirtual 53, 3) := by decide +kernel
theorem dX5_readItem_8 : decode cX5_readItem 8 = .ok (.istore_n 1, 1) := by decide +kernel
theorem dX5_readItem_9 : decode cX5_readItem 9 = .ok (.aload_n 0, 1) := by decide +kernel
theorem dX5_readItem_10 : decode cX5_readItem 10 = .ok (.dup, 1) := by decide +kernel
theorem dX5_readItem_11 : decode cX5_readItem 11 = .ok (.getfield 46, 3) := by decide +kernel
theorem dX5_readItem_14 : decode cX5_readItem 14 = .ok (.iconst 1, 1) := by decide +kernel
theorem dX5_readItem_15 : decode cX5_readItem 15 = .ok (.iadd, 1) := by decide +kernel
theorem dX5_readItem_16 : decode cX5_readItem 16 = .ok (.putfield 46, 3) := by decide +kernel
theorem dX5_readItem_19 : decode cX5_readItem 19 = .ok (.iload_n 1, 1) := by decide +kernel
theorem dX5_readItem_20 : decode cX5_readItem 20 = .ok (.lookupswitch 99 #[(100, 78), (112, 36), (115, 57)], 36) := by decide +kernel
theorem dX5_readItem_56 : decode cX5_readItem 56 = .ok (.aload_n 0, 1) := by decide +kernel
theorem dX5_readItem_57 : decode cX5_readItem 57 = .ok (.iconst 4, 1) := by decide +kernel
theorem dX5_readItem_58 : decode cX5_readItem 58 = .ok (.invokevirtual 57, 3) := by decide +kernel
theorem dX5_readItem_61 : decode cX5_readItem 61 = .ok (.ifCond .eq 14, 3) := by decide +kernel
theorem dX5_readItem_64 : decode cX5_readItem 64 = .ok (.aload_n 0, 1) := by decide +kernel
theorem dX5_readItem_65 : decode cX5_readItem 65 = .ok (.invokevirtual 61, 3) := by decide +kernel
theorem dX5_readItem_68 : decode cX5_readItem 68 = .ok (.ifCond .eq 7, 3) := by decide +kernel
theorem dX5_readItem_71 : decode cX5_readItem 71 = .ok (.iconst 1, 1) := by decide +kernel
theorem dX5_readItem_72 : decode cX5_readItem 72 = .ok (.goto 4, 3) := by decide +kernel
theorem dX5_readItem_75 : decode cX5_readItem 75 = .ok (.iconst 0, 1) := by decide +kernel
theorem dX5_readItem_76 : decode cX5_readItem 76 = .ok (.ireturn, 1) := by decide +kernel
theorem dX5_readItem_77 : decode cX5_readItem 77 = .ok (.aload_n 0, 1) := by decide +kernel
theorem dX5_readItem_78 : decode cX5_readItem 78 = .ok (.iconst 1, 1) := by decide +kernel
theorem dX5_readItem_79 : decode cX5_readItem 79 = .ok (.invokevirtual 57, 3) := by decide +kernel
theorem dX5_readItem_82 : decode cX5_readItem 82 = .ok (.ifCond .eq 14, 3) := by decide +kernel
theorem dX5_readItem_85 : decode cX5_readItem 85 = .ok (.aload_n 0, 1) := by decide +kernel
theorem dX5_readItem_86 : decode cX5_readItem 86 = .ok (.invokevirtual 64, 3) := by decide +kernel
theorem dX5_readItem_89 : decode cX5_readItem 89 = .ok (.ifCond .eq 7, 3) := by decide +kernel
theorem dX5_readItem_92 : decode cX5_readItem 92 = .ok (.iconst 1, 1) := by decide +kernel
theorem dX5_readItem_93 : decode cX5_readItem 93 = .ok (.goto 4, 3) := by decide +kernel
theorem dX5_readItem_96 : decode cX5_readItem 96 = .ok (.iconst 0, 1) := by decide +kernel
theorem dX5_readItem_97 : decode cX5_readItem 97 = .ok (.ireturn, 1) := by decide +kernel
theorem dX5_readItem_98 : decode cX5_readItem 98 = .ok (.aload_n 0, 1) := by decide +kernel
theorem dX5_readItem_99 : decode cX5_readItem 99 = .ok (.iconst 3, 1) := by decide +kernel
theorem dX5_readItem_100 : decode cX5_readItem 100 = .ok (.invokevirtual 57, 3) := by decide +kernel
theorem dX5_readItem_103 : decode cX5_readItem 103 = .ok (.ifCond .eq 14, 3) := by decide +kernel
theorem dX5_readItem_106 : decode cX5_readItem 106 = .ok (.aload_n 0, 1) := by decide +kernel
theorem dX5_readItem_107 : decode cX5_readItem 107 = .ok (.invokevirtual 67, 3) := by decide +kernel
theorem dX5_readItem_110 : decode cX5_readItem 110 = .ok (.ifCond .eq 7, 3) := by decide +kernel
theorem dX5_readItem_113 : decode cX5_readItem 113 = .ok (.iconst 1, 1) := by decide +kernel
theorem dX5_readItem_114 : decode cX5_readItem 114 = .ok (.goto 4, 3) := by decide +kernel
theorem dX5_readItem_117 : decode cX5_readItem 117 = .ok (.iconst 0, 1) := by decide +kernel
theorem dX5_readItem_118 : decode cX5_readItem 118 = .ok (.ireturn, 1) := by decide +kernel
theorem dX5_readItem_119 : decode cX5_readItem 119 = .ok (.iconst 0, 1) := by decide +kernel
theorem dX5_readItem_120 : decode cX5_readItem 120 = .ok (.ireturn, 1) := by decide +kernel
set_option maxRecDepth 20000 in
theorem ggX5_readNumbers_X5_readNumber : GoodIn wsX5_readNumbers wsX5_readNumber := goodIn_r _ [6, 1, 7, 8, 9, 10, 5, 11, 12, 13, 14, 15, 16, 17, 18, 19, 20, 21, 22, 23, 24, 25, 26, 27, 28, 29] (by decide +kernel) (by decide +kernel)
set_option maxRecDepth 20000 in
theorem gX5_readNumbers_X5_readNumber : GoodIn wsX5_readNumbers (wsV RX5 70 RX5 yX5_readNumber wsX5_readNumber) := goodIn_app (goodIn_of _ (by decide +kernel)) ggX5_readNumbers_X5_readNumber
set_option maxRecDepth 20000 in
theorem ggX5_readNumbers_X5_letterAt : GoodIn wsX5_readNumbers wsX5_letterAt := goodIn_r _ [11, 12, 13, 14, 15, 16, 17, 24, 25, 26, 27, 28, 29] (by decide +kernel) (by decide +kernel)
set_option maxRecDepth 20000 in
theorem gX5_readNumbers_X5_letterAt : GoodIn wsX5_readNumbers (wsV RX5 53 RX5 yX5_letterAt wsX5_letterAt) := goodIn_app (goodIn_of _ (by decide +kernel)) ggX5_readNumbers_X5_letterAt
theorem dX5_readNumbers_0 : decode cX5_readNumbers 0 = .ok (.iconst 0, 1) := by decide +kernel
theorem dX5_readNumbers_1 : decode cX5_readNumbers 1 = .ok (.istore_n 2, 1) := by decide +kernel
theorem dX5_readNumbers_2 : decode cX5_readNumbers 2 = .ok (.iload_n 2, 1) := by decide +kernel
theorem dX5_readNumbers_3 : decode cX5_readNumbers 3 = .ok (.iload_n 1, 1) := by decide +kernel
theorem dX5_readNumbers_4 : decode cX5_readNumbers 4 = .ok (.if_icmp .ge 54, 3) := by decide +kernel
theorem dX5_readNumbers_7 : decode cX5_readNumbers 7 = .ok (.aload_n 0, 1) := by decide +kernel
theorem dX5_readNumbers_8 : decode cX5_readNumbers 8 = .ok (.iload_n 2, 1) := by decide +kernel
theorem dX5_readNumbers_9 : decode cX5_readNumbers 9 = .ok (.invokevirtual 70, 3) := by decide +kernel
theorem dX5_readNumbers_12 : decode cX5_readNumbers 12 = .ok (.ifCond .eq 28, 3) := by decide +kernel
theorem dX5_readNumbers_15 : decode cX5_readNumbers 15 = .ok (.aload_n 0, 1) := by decide +kernel
theorem dX5_readNumbers_16 : decode cX5_readNumbers 16 = .ok (.aload_n 0, 1) := by decide +kernel
theorem dX5_readNumbers_17 : decode cX5_readNumbers 17 = .ok (.getfield 46, 3) := by decide +kernel
theorem dX5_readNumbers_20 : decode cX5_readNumbers 20 = .ok (.invokevirtual 53, 3) := by decide +kernel
theorem dX5_readNumbers_23 : decode cX5_readNumbers 23 = .ok (.iload_n 2, 1) := by decide +kernel
theorem dX5_readNumbers_24 : decode cX5_readNumbers 24 = .ok (.iload_n 1, 1) := by decide +kernel
theorem dX5_readNumbers_25 : decode cX5_readNumbers 25 = .ok (.iconst 1, 1) := by decide +kernel
theorem dX5_readNumbers_26 : decode cX5_readNumbers 26 = .ok (.isub, 1) := by decide +kernel
theorem dX5_readNumbers_27 : decode cX5_readNumbers 27 = .ok (.if_icmp .ne 8, 3) := by decide +kernel
theorem dX5_readNumbers_30 : decode cX5_readNumbers 30 = .ok (.bipush 59, 2) := by decide +kernel
theorem dX5_readNumbers_32 : decode cX5_readNumbers 32 = .ok (.goto 5, 3) := by decide +kernel
theorem dX5_readNumbers_35 : decode cX5_readNumbers 35 = .ok (.bipush 44, 2) := by decide +kernel
theorem dX5_readNumbers_37 : decode cX5_readNumbers 37 = .ok (.if_icmp .eq 5, 3) := by decide +kernel
theorem dX5_readNumbers_40 : decode cX5_readNumbers 40 = .ok (.iconst 0, 1) := by decide +kernel
theorem dX5_readNumbers_41 : decode cX5_readNumbers 41 = .ok (.ireturn, 1) := by decide +kernel
theorem dX5_readNumbers_42 : decode cX5_readNumbers 42 = .ok (.aload_n 0, 1) := by decide +kernel
theorem dX5_readNumbers_43 : decode cX5_readNumbers 43 = .ok (.dup, 1) := by decide +kernel
theorem dX5_readNumbers_44 : decode cX5_readNumbers 44 = .ok (.getfield 46, 3) := by decide +kernel
theorem dX5_readNumbers_47 : decode cX5_readNumbers 47 = .ok (.iconst 1, 1) := by decide +kernel
theorem dX5_readNumbers_48 : decode cX5_readNumbers 48 = .ok (.iadd, 1) := by decide +kernel
theorem dX5_readNumbers_49 : decode cX5_readNumbers 49 = .ok (.putfield 46, 3) := by decide +kernel
theorem dX5_readNumbers_52 : decode cX5_readNumbers 52 = .ok (.iinc 2 1, 3) := by decide +kernel
theorem dX5_readNumbers_55 : decode cX5_readNumbers 55 = .ok (.goto (-53), 3) := by decide +kernel
theorem dX5_readNumbers_58 : decode cX5_readNumbers 58 = .ok (.iconst 1, 1) := by decide +kernel
theorem dX5_readNumbers_59 : decode cX5_readNumbers 59 = .ok (.ireturn, 1) := by decide +kernel
set_option maxRecDepth 20000 in
theorem ggX5_readNumber_X5_letterAt : GoodIn wsX5_readNumber wsX5_letterAt := goodIn_r _ [7, 8, 9, 10, 11, 12, 13, 20, 21, 22, 23, 24, 25] (by decide +kernel) (by decide +kernel)
set_option maxRecDepth 20000 in
theorem gX5_readNumber_X5_letterAt : GoodIn wsX5_readNumber (wsV RX5 53 RX5 yX5_letterAt wsX5_letterAt) := goodIn_app (goodIn_of _ (by decide +kernel)) ggX5_readNumber_X5_letterAt
set_option maxRecDepth 20000 in
theorem ggX5_readNumber_X5_isFigure : GoodIn wsX5_readNumber wsX5_isFigure := goodIn_r _ [16] (by decide +kernel) (by decide +kernel)
set_option maxRecDepth 20000 in
theorem gX5_readNumber_X5_isFigure : GoodIn wsX5_readNumber (va_wsS RX5 73 yX5_isFigure wsX5_isFigure) := goodIn_app (goodIn_of _ (by decide +kernel)) ggX5_readNumber_X5_isFigure
set_option maxRecDepth 20000 in
theorem ggX5_readNumber_X3_put : GoodIn wsX5_readNumber wsX3_put := goodIn_r _ [19] (by decide +kernel) (by decide +kernel)
set_option maxRecDepth 20000 in
theorem gX5_readNumber_X3_put : GoodIn wsX5_readNumber (va_wsS RX5 36 yX3_put wsX3_put) := goodIn_app (goodIn_of _ (by decide +kernel)) ggX5_readNumber_X3_put
theorem dX5_readNumber_0 : decode cX5_readNumber 0 = .ok (.aload_n 0, 1) := by decide +kernel
theorem dX5_readNumber_1 : decode cX5_readNumber 1 = .ok (.aload_n 0, 1) := by decide +kernel
theorem dX5_readNumber_2 : decode cX5_readNumber 2 = .ok (.getfield 46, 3) := by decide +kernel
theorem dX5_readNumber_5 : decode cX5_readNumber 5 = .ok (.invokevirtual 53, 3) := by decide +kernel
theorem dX5_readNumber_8 : decode cX5_readNumber 8 = .ok (.invokestatic 73, 3) := by decide +kernel
theorem dX5_readNumber_11 : decode cX5_readNumber 11 = .ok (.ifCond .ne 5, 3) := by decide +kernel
theorem dX5_readNumber_14 : decode cX5_readNumber 14 = .ok (.iconst 0, 1) := by decide +kernel
theorem dX5_readNumber_15 : decode cX5_readNumber 15 = .ok (.ireturn, 1) := by decide +kernel
theorem dX5_readNumber_16 : decode cX5_readNumber 16 = .ok (.aload_n 0, 1) := by decide +kernel
theorem dX5_readNumber_17 : decode cX5_readNumber 17 = .ok (.aload_n 0, 1) := by decide +kernel
theorem dX5_readNumber_18 : decode cX5_readNumber 18 = .ok (.getfield 46, 3) := by decide +kernel
theorem dX5_readNumber_21 : decode cX5_readNumber 21 = .ok (.invokevirtual 53, 3) := by decide +kernel
theorem dX5_readNumber_24 : decode cX5_readNumber 24 = .ok (.bipush 48, 2) := by decide +kernel
theorem dX5_readNumber_26 : decode cX5_readNumber 26 = .ok (.isub, 1) := by decide +kernel
theorem dX5_readNumber_27 : decode cX5_readNumber 27 = .ok (.istore_n 2, 1) := by decide +kernel
theorem dX5_readNumber_28 : decode cX5_readNumber 28 = .ok (.aload_n 0, 1) := by decide +kernel
theorem dX5_readNumber_29 : decode cX5_readNumber 29 = .ok (.dup, 1) := by decide +kernel
theorem dX5_readNumber_30 : decode cX5_readNumber 30 = .ok (.getfield 46, 3) := by decide +kernel
theorem dX5_readNumber_33 : decode cX5_readNumber 33 = .ok (.iconst 1, 1) := by decide +kernel
theorem dX5_readNumber_34 : decode cX5_readNumber 34 = .ok (.iadd, 1) := by decide +kernel
theorem dX5_readNumber_35 : decode cX5_readNumber 35 = .ok (.putfield 46, 3) := by decide +kernel
theorem dX5_readNumber_38 : decode cX5_readNumber 38 = .ok (.aload_n 0, 1) := by decide +kernel
theorem dX5_readNumber_39 : decode cX5_readNumber 39 = .ok (.aload_n 0, 1) := by decide +kernel
theorem dX5_readNumber_40 : decode cX5_readNumber 40 = .ok (.getfield 46, 3) := by decide +kernel
theorem dX5_readNumber_43 : decode cX5_readNumber 43 = .ok (.invokevirtual 53, 3) := by decide +kernel
theorem dX5_readNumber_46 : decode cX5_readNumber 46 = .ok (.invokestatic 73, 3) := by decide +kernel
theorem dX5_readNumber_49 : decode cX5_readNumber 49 = .ok (.ifCond .eq 30, 3) := by decide +kernel
theorem dX5_readNumber_52 : decode cX5_readNumber 52 = .ok (.bipush 10, 2) := by decide +kernel
theorem dX5_readNumber_54 : decode cX5_readNumber 54 = .ok (.iload_n 2, 1) := by decide +kernel
theorem dX5_readNumber_55 : decode cX5_readNumber 55 = .ok (.imul, 1) := by decide +kernel
theorem dX5_readNumber_56 : decode cX5_readNumber 56 = .ok (.aload_n 0, 1) := by decide +kernel
theorem dX5_readNumber_57 : decode cX5_readNumber 57 = .ok (.aload_n 0, 1) := by decide +kernel
theorem dX5_readNumber_58 : decode cX5_readNumber 58 = .ok (.getfield 46, 3) := by decide +kernel
theorem dX5_readNumber_61 : decode cX5_readNumber 61 = .ok (.invokevirtual 53, 3) := by decide +kernel
theorem dX5_readNumber_64 : decode cX5_readNumber 64 = .ok (.iadd, 1) := by decide +kernel
theorem dX5_readNumber_65 : decode cX5_readNumber 65 = .ok (.bipush 48, 2) := by decide +kernel
theorem dX5_readNumber_67 : decode cX5_readNumber 67 = .ok (.isub, 1) := by decide +kernel
theorem dX5_readNumber_68 : decode cX5_readNumber 68 = .ok (.istore_n 2, 1) := by decide +kernel
theorem dX5_readNumber_69 : decode cX5_readNumber 69 = .ok (.aload_n 0, 1) := by decide +kernel
theorem dX5_readNumber_70 : decode cX5_readNumber 70 = .ok (.dup, 1) := by decide +kernel
theorem dX5_readNumber_71 : decode cX5_readNumber 71 = .ok (.getfield 46, 3) := by decide +kernel
theorem dX5_readNumber_74 : decode cX5_readNumber 74 = .ok (.iconst 1, 1) := by decide +kernel
theorem dX5_readNumber_75 : decode cX5_readNumber 75 = .ok (.iadd, 1) := by decide +kernel
theorem dX5_readNumber_76 : decode cX5_readNumber 76 = .ok (.putfield 46, 3) := by decide +kernel
theorem dX5_readNumber_79 : decode cX5_readNumber 79 = .ok (.aload_n 0, 1) := by decide +kernel
theorem dX5_readNumber_80 : decode cX5_readNumber 80 = .ok (.getfield 29, 3) := by decide +kernel
theorem dX5_readNumber_83 : decode cX5_readNumber 83 = .ok (.iload_n 1, 1) := by decide +kernel
theorem dX5_readNumber_84 : decode cX5_readNumber 84 = .ok (.iload_n 2, 1) := by decide +kernel
theorem dX5_readNumber_85 : decode cX5_readNumber 85 = .ok (.invokestatic 36, 3) := by decide +kernel
theorem dX5_readNumber_88 : decode cX5_readNumber 88 = .ok (.iconst 1, 1) := by decide +kernel
theorem dX5_readNumber_89 : decode cX5_readNumber 89 = .ok (.ireturn, 1) := by decide +kernel
set_option maxRecDepth 20000 in
theorem ggX5_tellPerson_X3_at : GoodIn wsX5_tellPerson wsX3_at := goodIn_r _ [9] (by decide +kernel) (by decide +kernel)
set_option maxRecDepth 20000 in
theorem gX5_tellPerson_X3_at : GoodIn wsX5_tellPerson (va_wsS RX5 76 yX3_at wsX3_at) := goodIn_app (goodIn_of _ (by decide +kernel)) ggX5_tellPerson_X3_at
set_option maxRecDepth 20000 in
theorem ggX5_tellPerson_X3_put : GoodIn wsX5_tellPerson wsX3_put := goodIn_r _ [12] (by decide +kernel) (by decide +kernel)
set_option maxRecDepth 20000 in
theorem gX5_tellPerson_X3_put : GoodIn wsX5_tellPerson (va_wsS RX5 36 yX3_put wsX3_put) := goodIn_app (goodIn_of _ (by decide +kernel)) ggX5_tellPerson_X3_put
set_option maxRecDepth 20000 in
theorem ggX5_tellPerson_X4_append : GoodIn wsX5_tellPerson wsX4_append := goodIn_r _ [17, 18, 19, 20, 21, 16, 22, 23, 24, 25, 7, 8, 9, 26, 11, 12, 48, 49, 50, 51, 52, 53] (by decide +kernel) (by decide +kernel)
set_option maxRecDepth 20000 in
theorem gX5_tellPerson_X4_append : GoodIn wsX5_tellPerson (wsV RX5 85 RX4 yX4_append wsX4_append) := goodIn_app (goodIn_of _ (by decide +kernel)) ggX5_tellPerson_X4_append
set_option maxRecDepth 20000 in
theorem ggX5_tellPerson_X1_add : GoodIn wsX5_tellPerson wsX1_add := goodIn_r _ [31, 32, 33, 34, 35, 36, 11, 8, 12, 43, 44, 45, 46, 47] (by decide +kernel) (by decide +kernel)
set_option maxRecDepth 20000 in
theorem gX5_tellPerson_X1_add : GoodIn wsX5_tellPerson (wsV RX5 89 RX1 yX1_add wsX1_add) := goodIn_app (goodIn_of _ (by decide +kernel)) ggX5_tellPerson_X1_add
theorem dX5_tellPerson_0 : decode cX5_tellPerson 0 = .ok (.aload_n 0, 1) := by decide +kernel
theorem dX5_tellPerson_1 : decode cX5_tellPerson 1 = .ok (.getfield 29, 3) := by decide +kernel
theorem dX5_tellPerson_4 : decode cX5_tellPerson 4 = .ok (.iconst 0, 1) := by decide +kernel
theorem dX5_tellPerson_5 : decode cX5_tellPerson 5 = .ok (.invokestatic 76, 3) := by decide +kernel
theorem dX5_tellPerson_8 : decode cX5_tellPerson 8 = .ok (.istore_n 1, 1) := by decide +kernel
theorem dX5_tellPerson_9 : decode cX5_tellPerson 9 = .ok (.aload_n 0, 1) := by decide +kernel
theorem dX5_tellPerson_10 : decode cX5_tellPerson 10 = .ok (.getfield 29, 3) := by decide +kernel
theorem dX5_tellPerson_13 : decode cX5_tellPerson 13 = .ok (.iconst 1, 1) := by decide +kernel
theorem dX5_tellPerson_14 : decode cX5_tellPerson 14 = .ok (.invokestatic 76, 3) := by decide +kernel
theorem dX5_tellPerson_17 : decode cX5_tellPerson 17 = .ok (.istore_n 2, 1) := by decide +kernel
theorem dX5_tellPerson_18 : decode cX5_tellPerson 18 = .ok (.aload_n 0, 1) := by decide +kernel
theorem dX5_tellPerson_19 : decode cX5_tellPerson 19 = .ok (.getfield 29, 3) := by decide +kernel
theorem dX5_tellPerson_22 : decode cX5_tellPerson 22 = .ok (.iconst 2, 1) := by decide +kernel
theorem dX5_tellPerson_23 : decode cX5_tellPerson 23 = .ok (.invokestatic 76, 3) := by decide +kernel
theorem dX5_tellPerson_26 : decode cX5_tellPerson 26 = .ok (.istore_n 3, 1) := by decide +kernel
theorem dX5_tellPerson_27 : decode cX5_tellPerson 27 = .ok (.aload_n 0, 1) := by decide +kernel
theorem dX5_tellPerson_28 : decode cX5_tellPerson 28 = .ok (.getfield 29, 3) := by decide +kernel
theorem dX5_tellPerson_31 : decode cX5_tellPerson 31 = .ok (.iconst 3, 1) := by decide +kernel
theorem dX5_tellPerson_32 : decode cX5_tellPerson 32 = .ok (.invokestatic 76, 3) := by decide +kernel
theorem dX5_tellPerson_35 : decode cX5_tellPerson 35 = .ok (.istore 4, 2) := by decide +kernel
theorem dX5_tellPerson_37 : decode cX5_tellPerson 37 = .ok (.iload_n 1, 1) := by decide +kernel
theorem dX5_tellPerson_38 : decode cX5_tellPerson 38 = .ok (.iconst 3, 1) := by decide +kernel
theorem dX5_tellPerson_39 : decode cX5_tellPerson 39 = .ok (.if_icmp .gt 39, 3) := by decide +kernel
theorem dX5_tellPerson_42 : decode cX5_tellPerson 42 = .ok (.iload_n 2, 1) := by decide +kernel
theorem dX5_tellPerson_43 : decode cX5_tellPerson 43 = .ok (.bipush 20, 2) := by decide +kernel
theorem dX5_tellPerson_45 : decode cX5_tellPerson 45 = .ok (.if_icmp .gt 33, 3) := by decide +kernel
theorem dX5_tellPerson_48 : decode cX5_tellPerson 48 = .ok (.iload_n 3, 1) := by decide +kernel
theorem dX5_tellPerson_49 : decode cX5_tellPerson 49 = .ok (.iconst 1, 1) := by decide +kernel
theorem dX5_tellPerson_50 : decode cX5_tellPerson 50 = .ok (.if_icmp .lt 28, 3) := by decide +kernel
theorem dX5_tellPerson_53 : decode cX5_tellPerson 53 = .ok (.iload_n 3, 1) := by decide +kernel
theorem dX5_tellPerson_54 : decode cX5_tellPerson 54 = .ok (.bipush 9, 2) := by decide +kernel
theorem dX5_tellPerson_56 : decode cX5_tellPerson 56 = .ok (.if_icmp .gt 22, 3) := by decide +kernel
theorem dX5_tellPerson_59 : decode cX5_tellPerson 59 = .ok (.iload 4, 2) := by decide +kernel
theorem dX5_tellPerson_61 : decode cX5_tellPerson 61 = .ok (.bipush 60, 2) := by decide +kernel
theorem dX5_tellPerson_63 : decode cX5_tellPerson 63 = .ok (.if_icmp .gt 15, 3) := by decide +kernel
theorem dX5_tellPerson_66 : decode cX5_tellPerson 66 = .ok (.aload_n 0, 1) := by decide +kernel
theorem dX5_tellPerson_67 : decode cX5_tellPerson 67 = .ok (.getfield 12, 3) := by decide +kernel
theorem dX5_tellPerson_70 : decode cX5_tellPerson 70 = .ok (.getfield 79, 3) := by decide +kernel
theorem dX5_tellPerson_73 : decode cX5_tellPerson 73 = .ok (.bipush 7, 2) := by decide +kernel
theorem dX5_tellPerson_75 : decode cX5_tellPerson 75 = .ok (.if_icmp .lt 5, 3) := by decide +kernel
theorem dX5_tellPerson_78 : decode cX5_tellPerson 78 = .ok (.iconst 0, 1) := by decide +kernel
theorem dX5_tellPerson_79 : decode cX5_tellPerson 79 = .ok (.ireturn, 1) := by decide +kernel
theorem dX5_tellPerson_80 : decode cX5_tellPerson 80 = .ok (.aload_n 0, 1) := by decide +kernel
theorem dX5_tellPerson_81 : decode cX5_tellPerson 81 = .ok (.getfield 21, 3) := by decide +kernel
theorem dX5_tellPerson_84 : decode cX5_tellPerson 84 = .ok (.getfield 82, 3) := by decide +kernel
theorem dX5_tellPerson_87 : decode cX5_tellPerson 87 = .ok (.aload_n 0, 1) := by decide +kernel
theorem dX5_tellPerson_88 : decode cX5_tellPerson 88 = .ok (.getfield 12, 3) := by decide +kernel
theorem dX5_tellPerson_91 : decode cX5_tellPerson 91 = .ok (.getfield 79, 3) := by decide +kernel
theorem dX5_tellPerson_94 : decode cX5_tellPerson 94 = .ok (.iload 4, 2) := by decide +kernel
theorem dX5_tellPerson_96 : decode cX5_tellPerson 96 = .ok (.invokestatic 36, 3) := by decide +kernel
theorem dX5_tellPerson_99 : decode cX5_tellPerson 99 = .ok (.aload_n 0, 1) := by decide +kernel
theorem dX5_tellPerson_100 : decode cX5_tellPerson 100 = .ok (.getfield 21, 3) := by decide +kernel
theorem dX5_tellPerson_103 : decode cX5_tellPerson 103 = .ok (.aload_n 0, 1) := by decide +kernel
theorem dX5_tellPerson_104 : decode cX5_tellPerson 104 = .ok (.getfield 12, 3) := by decide +kernel
theorem dX5_tellPerson_107 : decode cX5_tellPerson 107 = .ok (.getfield 79, 3) := by decide +kernel
theorem dX5_tellPerson_110 : decode cX5_tellPerson 110 = .ok (.invokevirtual 85, 3) := by decide +kernel
theorem dX5_tellPerson_113 : decode cX5_tellPerson 113 = .ok (.aload_n 0, 1) := by decide +kernel
theorem dX5_tellPerson_114 : decode cX5_tellPerson 114 = .ok (.getfield 12, 3) := by decide +kernel
theorem dX5_tellPerson_117 : decode cX5_tellPerson 117 = .ok (.iload_n 1, 1) := by decide +kernel
theorem dX5_tellPerson_118 : decode cX5_tellPerson 118 = .ok (.iload_n 2, 1) := by decide +kernel
theorem dX5_tellPerson_119 : decode cX5_tellPerson 119 = .ok (.iload_n 3, 1) := by decide +kernel
theorem dX5_tellPerson_120 : decode cX5_tellPerson 120 = .ok (.invokevirtual 89, 3) := by decide +kernel
theorem dX5_tellPerson_123 : decode cX5_tellPerson 123 = .ok (.iconst 1, 1) := by decide +kernel
theorem dX5_tellPerson_124 : decode cX5_tellPerson 124 = .ok (.ireturn, 1) := by decide +kernel
set_option maxRecDepth 20000 in
theorem ggX5_tellServed_X3_at : GoodIn wsX5_tellServed wsX3_at := goodIn_r _ [7] (by decide +kernel) (by decide +kernel)
set_option maxRecDepth 20000 in
theorem gX5_tellServed_X3_at : GoodIn wsX5_tellServed (va_wsS RX5 76 yX3_at wsX3_at) := goodIn_app (goodIn_of _ (by decide +kernel)) ggX5_tellServed_X3_at
theorem dX5_tellServed_0 : decode cX5_tellServed 0 = .ok (.aload_n 0, 1) := by decide +kernel
theorem dX5_tellServed_1 : decode cX5_tellServed 1 = .ok (.getfield 29, 3) := by decide +kernel
theorem dX5_tellServed_4 : decode cX5_tellServed 4 = .ok (.iconst 0, 1) := by decide +kernel
theorem dX5_tellServed_5 : decode cX5_tellServed 5 = .ok (.invokestatic 76, 3) := by decide +kernel
theorem dX5_tellServed_8 : decode cX5_tellServed 8 = .ok (.istore_n 1, 1) := by decide +kernel
theorem dX5_tellServed_9 : decode cX5_tellServed 9 = .ok (.iload_n 1, 1) := by decide +kernel
theorem dX5_tellServed_10 : decode cX5_tellServed 10 = .ok (.iconst 1, 1) := by decide +kernel
theorem dX5_tellServed_11 : decode cX5_tellServed 11 = .ok (.if_icmp .lt 9, 3) := by decide +kernel
theorem dX5_tellServed_14 : decode cX5_tellServed 14 = .ok (.iload_n 1, 1) := by decide +kernel
theorem dX5_tellServed_15 : decode cX5_tellServed 15 = .ok (.bipush 9, 2) := by decide +kernel
theorem dX5_tellServed_17 : decode cX5_tellServed 17 = .ok (.if_icmp .le 5, 3) := by decide +kernel
theorem dX5_tellServed_20 : decode cX5_tellServed 20 = .ok (.iconst 0, 1) := by decide +kernel
theorem dX5_tellServed_21 : decode cX5_tellServed 21 = .ok (.ireturn, 1) := by decide +kernel
theorem dX5_tellServed_22 : decode cX5_tellServed 22 = .ok (.aload_n 0, 1) := by decide +kernel
theorem dX5_tellServed_23 : decode cX5_tellServed 23 = .ok (.getfield 12, 3) := by decide +kernel
theorem dX5_tellServed_26 : decode cX5_tellServed 26 = .ok (.iload_n 1, 1) := by decide +kernel
theorem dX5_tellServed_27 : decode cX5_tellServed 27 = .ok (.putfield 93, 3) := by decide +kernel
theorem dX5_tellServed_30 : decode cX5_tellServed 30 = .ok (.iconst 1, 1) := by decide +kernel
theorem dX5_tellServed_31 : decode cX5_tellServed 31 = .ok (.ireturn, 1) := by decide +kernel
set_option maxRecDepth 20000 in
theorem ggX5_tellDebt_X3_at : GoodIn wsX5_tellDebt wsX3_at := goodIn_r _ [7] (by decide +kernel) (by decide +kernel)
set_option maxRecDepth 20000 in
theorem gX5_tellDebt_X3_at : GoodIn wsX5_tellDebt (va_wsS RX5 76 yX3_at wsX3_at) := goodIn_app (goodIn_of _ (by decide +kernel)) ggX5_tellDebt_X3_at
set_option maxRecDepth 20000 in
theorem ggX5_tellDebt_X1_isPerson : GoodIn wsX5_tellDebt wsX1_isPerson := goodIn_r _ [12, 13, 29, 30, 31, 32, 33] (by decide +kernel) (by decide +kernel)
set_option maxRecDepth 20000 in
theorem gX5_tellDebt_X1_isPerson : GoodIn wsX5_tellDebt (wsV RX5 96 RX1 yX1_isPerson wsX1_isPerson) := goodIn_app (goodIn_of _ (by decide +kernel)) ggX5_tellDebt_X1_isPerson
set_option maxRecDepth 20000 in
theorem ggX5_tellDebt_X4_setDebt : GoodIn wsX5_tellDebt wsX4_setDebt := goodIn_r _ [18, 19, 20, 21, 6, 22, 34, 35, 36, 37, 38, 39] (by decide +kernel) (by decide +kernel)
set_option maxRecDepth 20000 in
theorem gX5_tellDebt_X4_setDebt : GoodIn wsX5_tellDebt (wsV RX5 99 RX4 yX4_setDebt wsX4_setDebt) := goodIn_app (goodIn_of _ (by decide +kernel)) ggX5_tellDebt_X4_setDebt
theorem dX5_tellDebt_0 : decode cX5_tellDebt 0 = .ok (.aload_n 0, 1) := by decide +kernel
theorem dX5_tellDebt_1 : decode cX5_tellDebt 1 = .ok (.getfield 29, 3) := by decide +kernel
theorem dX5_tellDebt_4 : decode cX5_tellDebt 4 = .ok (.iconst 0, 1) := by decide +kernel
theorem dX5_tellDebt_5 : decode cX5_tellDebt 5 = .ok (.invokestatic 76, 3) := by decide +kernel
theorem dX5_tellDebt_8 : decode cX5_tellDebt 8 = .ok (.istore_n 1, 1) := by decide +kernel
theorem dX5_tellDebt_9 : decode cX5_tellDebt 9 = .ok (.aload_n 0, 1) := by decide +kernel
theorem dX5_tellDebt_10 : decode cX5_tellDebt 10 = .ok (.getfield 29, 3) := by decide +kernel
theorem dX5_tellDebt_13 : decode cX5_tellDebt 13 = .ok (.iconst 1, 1) := by decide +kernel
theorem dX5_tellDebt_14 : decode cX5_tellDebt 14 = .ok (.invokestatic 76, 3) := by decide +kernel
theorem dX5_tellDebt_17 : decode cX5_tellDebt 17 = .ok (.istore_n 2, 1) := by decide +kernel
theorem dX5_tellDebt_18 : decode cX5_tellDebt 18 = .ok (.aload_n 0, 1) := by decide +kernel
theorem dX5_tellDebt_19 : decode cX5_tellDebt 19 = .ok (.getfield 29, 3) := by decide +kernel
theorem dX5_tellDebt_22 : decode cX5_tellDebt 22 = .ok (.iconst 2, 1) := by decide +kernel
theorem dX5_tellDebt_23 : decode cX5_tellDebt 23 = .ok (.invokestatic 76, 3) := by decide +kernel
theorem dX5_tellDebt_26 : decode cX5_tellDebt 26 = .ok (.istore_n 3, 1) := by decide +kernel
theorem dX5_tellDebt_27 : decode cX5_tellDebt 27 = .ok (.aload_n 0, 1) := by decide +kernel
theorem dX5_tellDebt_28 : decode cX5_tellDebt 28 = .ok (.getfield 12, 3) := by decide +kernel
theorem dX5_tellDebt_31 : decode cX5_tellDebt 31 = .ok (.iload_n 1, 1) := by decide +kernel
theorem dX5_tellDebt_32 : decode cX5_tellDebt 32 = .ok (.invokevirtual 96, 3) := by decide +kernel
theorem dX5_tellDebt_35 : decode cX5_tellDebt 35 = .ok (.ifCond .eq 25, 3) := by decide +kernel
theorem dX5_tellDebt_38 : decode cX5_tellDebt 38 = .ok (.aload_n 0, 1) := by decide +kernel
theorem dX5_tellDebt_39 : decode cX5_tellDebt 39 = .ok (.getfield 12, 3) := by decide +kernel
theorem dX5_tellDebt_42 : decode cX5_tellDebt 42 = .ok (.iload_n 2, 1) := by decide +kernel
theorem dX5_tellDebt_43 : decode cX5_tellDebt 43 = .ok (.invokevirtual 96, 3) := by decide +kernel
theorem dX5_tellDebt_46 : decode cX5_tellDebt 46 = .ok (.ifCond .eq 14, 3) := by decide +kernel
theorem dX5_tellDebt_49 : decode cX5_tellDebt 49 = .ok (.iload_n 1, 1) := by decide +kernel
theorem dX5_tellDebt_50 : decode cX5_tellDebt 50 = .ok (.iload_n 2, 1) := by decide +kernel
theorem dX5_tellDebt_51 : decode cX5_tellDebt 51 = .ok (.if_icmp .eq 9, 3) := by decide +kernel
theorem dX5_tellDebt_54 : decode cX5_tellDebt 54 = .ok (.iload_n 3, 1) := by decide +kernel
theorem dX5_tellDebt_55 : decode cX5_tellDebt 55 = .ok (.bipush 60, 2) := by decide +kernel
theorem dX5_tellDebt_57 : decode cX5_tellDebt 57 = .ok (.if_icmp .le 5, 3) := by decide +kernel
theorem dX5_tellDebt_60 : decode cX5_tellDebt 60 = .ok (.iconst 0, 1) := by decide +kernel
theorem dX5_tellDebt_61 : decode cX5_tellDebt 61 = .ok (.ireturn, 1) := by decide +kernel
theorem dX5_tellDebt_62 : decode cX5_tellDebt 62 = .ok (.aload_n 0, 1) := by decide +kernel
theorem dX5_tellDebt_63 : decode cX5_tellDebt 63 = .ok (.getfield 21, 3) := by decide +kernel
theorem dX5_tellDebt_66 : decode cX5_tellDebt 66 = .ok (.iload_n 1, 1) := by decide +kernel
theorem dX5_tellDebt_67 : decode cX5_tellDebt 67 = .ok (.iload_n 2, 1) := by decide +kernel
theorem dX5_tellDebt_68 : decode cX5_tellDebt 68 = .ok (.iload_n 3, 1) := by decide +kernel
theorem dX5_tellDebt_69 : decode cX5_tellDebt 69 = .ok (.invokevirtual 99, 3) := by decide +kernel
theorem dX5_tellDebt_72 : decode cX5_tellDebt 72 = .ok (.iconst 1, 1) := by decide +kernel
theorem dX5_tellDebt_73 : decode cX5_tellDebt 73 = .ok (.ireturn, 1) := by decide +kernel
set_option maxRecDepth 20000 in
theorem ggX5_letterAt_X3_at : GoodIn wsX5_letterAt wsX3_at := goodIn_r _ [6] (by decide +kernel) (by decide +kernel)
set_option maxRecDepth 20000 in
theorem gX5_letterAt_X3_at : GoodIn wsX5_letterAt (va_wsS RX5 76 yX3_at wsX3_at) := goodIn_app (goodIn_of _ (by decide +kernel)) ggX5_letterAt_X3_at
theorem dX5_letterAt_0 : decode cX5_letterAt 0 = .ok (.iload_n 1, 1) := by decide +kernel
theorem dX5_letterAt_1 : decode cX5_letterAt 1 = .ok (.aload_n 0, 1) := by decide +kernel
theorem dX5_letterAt_2 : decode cX5_letterAt 2 = .ok (.getfield 32, 3) := by decide +kernel
theorem dX5_letterAt_5 : decode cX5_letterAt 5 = .ok (.if_icmp .ge 14, 3) := by decide +kernel
theorem dX5_letterAt_8 : decode cX5_letterAt 8 = .ok (.aload_n 0, 1) := by decide +kernel
theorem dX5_letterAt_9 : decode cX5_letterAt 9 = .ok (.getfield 25, 3) := by decide +kernel
theorem dX5_letterAt_12 : decode cX5_letterAt 12 = .ok (.iload_n 1, 1) := by decide +kernel
theorem dX5_letterAt_13 : decode cX5_letterAt 13 = .ok (.invokestatic 76, 3) := by decide +kernel
theorem dX5_letterAt_16 : decode cX5_letterAt 16 = .ok (.goto 4, 3) := by decide +kernel
theorem dX5_letterAt_19 : decode cX5_letterAt 19 = .ok (.iconst 0, 1) := by decide +kernel
theorem dX5_letterAt_20 : decode cX5_letterAt 20 = .ok (.ireturn, 1) := by decide +kernel
theorem dX5_isFigure_0 : decode cX5_isFigure 0 = .ok (.iload_n 0, 1) := by decide +kernel
theorem dX5_isFigure_1 : decode cX5_isFigure 1 = .ok (.bipush 48, 2) := by decide +kernel
theorem dX5_isFigure_3 : decode cX5_isFigure 3 = .ok (.if_icmp .lt 13, 3) := by decide +kernel
theorem dX5_isFigure_6 : decode cX5_isFigure 6 = .ok (.iload_n 0, 1) := by decide +kernel
theorem dX5_isFigure_7 : decode cX5_isFigure 7 = .ok (.bipush 57, 2) := by decide +kernel
theorem dX5_isFigure_9 : decode cX5_isFigure 9 = .ok (.if_icmp .gt 7, 3) := by decide +kernel
theorem dX5_isFigure_12 : decode cX5_isFigure 12 = .ok (.iconst 1, 1) := by decide +kernel
theorem dX5_isFigure_13 : decode cX5_isFigure 13 = .ok (.goto 4, 3) := by decide +kernel
theorem dX5_isFigure_16 : decode cX5_isFigure 16 = .ok (.iconst 0, 1) := by decide +kernel
theorem dX5_isFigure_17 : decode cX5_isFigure 17 = .ok (.ireturn, 1) := by decide +kernel
set_option maxRecDepth 20000 in
theorem ggX6_init_X4_init : GoodIn wsX6_init wsX4_init := goodIn_r _ [13, 14, 2, 3, 15, 16, 17, 18, 19, 22, 23, 24, 25, 26, 27] (by decide +kernel) (by decide +kernel)
set_option maxRecDepth 20000 in
theorem gX6_init_X4_init_n21 : GoodIn wsX6_init (wsX4_init) := ggX6_init_X4_init
theorem dX6_init_0 : decode cX6_init 0 = .ok (.aload_n 0, 1) := by decide +kernel
theorem dX6_init_1 : decode cX6_init 1 = .ok (.invokespecial 1, 3) := by decide +kernel
theorem dX6_init_4 : decode cX6_init 4 = .ok (.aload_n 0, 1) := by decide +kernel
theorem dX6_init_5 : decode cX6_init 5 = .ok (.iload_n 1, 1) := by decide +kernel
theorem dX6_init_6 : decode cX6_init 6 = .ok (.iconst 0, 1) := by decide +kernel
theorem dX6_init_7 : decode cX6_init 7 = .ok (.invokestatic 7, 3) := by decide +kernel
theorem dX6_init_10 : decode cX6_init 10 = .ok (.anewarray 13, 3) := by decide +kernel
theorem dX6_init_13 : decode cX6_init 13 = .ok (.putfield 15, 3) := by decide +kernel
theorem dX6_init_16 : decode cX6_init 16 = .ok (.iconst 0, 1) := by decide +kernel
theorem dX6_init_17 : decode cX6_init 17 = .ok (.istore_n 2, 1) := by decide +kernel
theorem dX6_init_18 : decode cX6_init 18 = .ok (.iload_n 2, 1) := by decide +kernel
theorem dX6_init_19 : decode cX6_init 19 = .ok (.aload_n 0, 1) := by decide +kernel
theorem dX6_init_20 : decode cX6_init 20 = .ok (.getfield 15, 3) := by decide +kernel
theorem dX6_init_23 : decode cX6_init 23 = .ok (.arraylength, 1) := by decide +kernel
theorem dX6_init_24 : decode cX6_init 24 = .ok (.if_icmp .ge 22, 3) := by decide +kernel
theorem dX6_init_27 : decode cX6_init 27 = .ok (.aload_n 0, 1) := by decide +kernel
theorem dX6_init_28 : decode cX6_init 28 = .ok (.getfield 15, 3) := by decide +kernel
theorem dX6_init_31 : decode cX6_init 31 = .ok (.iload_n 2, 1) := by decide +kernel
theorem dX6_init_32 : decode cX6_init 32 = .ok (.new 13, 3) := by decide +kernel
theorem dX6_init_35 : decode cX6_init 35 = .ok (.dup, 1) := by decide +kernel
theorem dX6_init_36 : decode cX6_init 36 = .ok (.invokespecial 21, 3) := by decide +kernel
theorem dX6_init_39 : decode cX6_init 39 = .ok (.aastore, 1) := by decide +kernel
theorem dX6_init_40 : decode cX6_init 40 = .ok (.iinc 2 1, 3) := by decide +kernel
theorem dX6_init_43 : decode cX6_init 43 = .ok (.goto (-25), 3) := by decide +kernel
theorem dX6_init_46 : decode cX6_init 46 = .ok (.return_, 1) := by decide +kernel
set_option maxRecDepth 20000 in
theorem ggX6_push_X6_turn : GoodIn wsX6_push wsX6_turn := goodIn_r _ [7, 2, 8, 9, 10, 6, 11, 35, 36] (by decide +kernel) (by decide +kernel)
set_option maxRecDepth 20000 in
theorem gX6_push_X6_turn : GoodIn wsX6_push (wsV RX6 26 RX6 yX6_turn wsX6_turn) := goodIn_app (goodIn_of _ (by decide +kernel)) ggX6_push_X6_turn
set_option maxRecDepth 20000 in
theorem ggX6_push_X6_slotAt : GoodIn wsX6_push wsX6_slotAt := goodIn_r _ [11, 2, 35, 36] (by decide +kernel) (by decide +kernel)
set_option maxRecDepth 20000 in
theorem gX6_push_X6_slotAt : GoodIn wsX6_push (wsV RX6 29 RX6 yX6_slotAt wsX6_slotAt) := goodIn_app (goodIn_of _ (by decide +kernel)) ggX6_push_X6_slotAt
set_option maxRecDepth 20000 in
theorem ggX6_push_X4_copyFrom : GoodIn wsX6_push wsX4_copyFrom := goodIn_r _ [16, 17, 18, 19, 20, 21, 22, 23, 24, 25, 26, 27, 28, 29, 30, 31, 32, 33, 34, 37, 38, 39, 40, 41, 42] (by decide +kernel) (by decide +kernel)
set_option maxRecDepth 20000 in
theorem gX6_push_X4_copyFrom : GoodIn wsX6_push (wsV RX6 33 RX4 yX4_copyFrom wsX4_copyFrom) := goodIn_app (goodIn_of _ (by decide +kernel)) ggX6_push_X4_copyFrom
theorem dX6_push_0 : decode cX6_push 0 = .ok (.aload_n 0, 1) := by decide +kernel
theorem dX6_push_1 : decode cX6_push 1 = .ok (.getfield 22, 3) := by decide +kernel
theorem dX6_push_4 : decode cX6_push 4 = .ok (.aload_n 0, 1) := by decide +kernel
theorem dX6_push_5 : decode cX6_push 5 = .ok (.getfield 15, 3) := by decide +kernel
theorem dX6_push_8 : decode cX6_push 8 = .ok (.arraylength, 1) := by decide +kernel
theorem dX6_push_9 : decode cX6_push 9 = .ok (.if_icmp .lt 18, 3) := by decide +kernel
theorem dX6_push_12 : decode cX6_push 12 = .ok (.aload_n 0, 1) := by decide +kernel
theorem dX6_push_13 : decode cX6_push 13 = .ok (.invokevirtual 26, 3) := by decide +kernel
theorem dX6_push_16 : decode cX6_push 16 = .ok (.aload_n 0, 1) := by decide +kernel
theorem dX6_push_17 : decode cX6_push 17 = .ok (.aload_n 0, 1) := by decide +kernel
theorem dX6_push_18 : decode cX6_push 18 = .ok (.getfield 15, 3) := by decide +kernel
theorem dX6_push_21 : decode cX6_push 21 = .ok (.arraylength, 1) := by decide +kernel
theorem dX6_push_22 : decode cX6_push 22 = .ok (.iconst 1, 1) := by decide +kernel
theorem dX6_push_23 : decode cX6_push 23 = .ok (.isub, 1) := by decide +kernel
theorem dX6_push_24 : decode cX6_push 24 = .ok (.putfield 22, 3) := by decide +kernel
theorem dX6_push_27 : decode cX6_push 27 = .ok (.aload_n 0, 1) := by decide +kernel
theorem dX6_push_28 : decode cX6_push 28 = .ok (.aload_n 0, 1) := by decide +kernel
theorem dX6_push_29 : decode cX6_push 29 = .ok (.getfield 22, 3) := by decide +kernel
theorem dX6_push_32 : decode cX6_push 32 = .ok (.invokevirtual 29, 3) := by decide +kernel
theorem dX6_push_35 : decode cX6_push 35 = .ok (.astore_n 2, 1) := by decide +kernel
theorem dX6_push_36 : decode cX6_push 36 = .ok (.aload_n 2, 1) := by decide +kernel
theorem dX6_push_37 : decode cX6_push 37 = .ok (.ifnull 18, 3) := by decide +kernel
theorem dX6_push_40 : decode cX6_push 40 = .ok (.aload_n 2, 1) := by decide +kernel
theorem dX6_push_41 : decode cX6_push 41 = .ok (.aload_n 1, 1) := by decide +kernel
theorem dX6_push_42 : decode cX6_push 42 = .ok (.invokevirtual 33, 3) := by decide +kernel
theorem dX6_push_45 : decode cX6_push 45 = .ok (.aload_n 0, 1) := by decide +kernel
theorem dX6_push_46 : decode cX6_push 46 = .ok (.dup, 1) := by decide +kernel
theorem dX6_push_47 : decode cX6_push 47 = .ok (.getfield 22, 3) := by decide +kernel
theorem dX6_push_50 : decode cX6_push 50 = .ok (.iconst 1, 1) := by decide +kernel
theorem dX6_push_51 : decode cX6_push 51 = .ok (.iadd, 1) := by decide +kernel
theorem dX6_push_52 : decode cX6_push 52 = .ok (.putfield 22, 3) := by decide +kernel
theorem dX6_push_55 : decode cX6_push 55 = .ok (.return_, 1) := by decide +kernel
set_option maxRecDepth 20000 in
theorem ggX6_popInto_X6_slotAt : GoodIn wsX6_popInto wsX6_slotAt := goodIn_r _ [6, 7, 31, 32] (by decide +kernel) (by decide +kernel)
set_option maxRecDepth 20000 in
theorem gX6_popInto_X6_slotAt : GoodIn wsX6_popInto (wsV RX6 29 RX6 yX6_slotAt wsX6_slotAt) := goodIn_app (goodIn_of _ (by decide +kernel)) ggX6_popInto_X6_slotAt
set_option maxRecDepth 20000 in
theorem ggX6_popInto_X4_copyFrom : GoodIn wsX6_popInto wsX4_copyFrom := goodIn_r _ [12, 13, 14, 15, 16, 17, 18, 19, 20, 21, 22, 23, 24, 25, 26, 27, 28, 29, 30, 33, 34, 35, 36, 37, 38] (by decide +kernel) (by decide +kernel)
set_option maxRecDepth 20000 in
theorem gX6_popInto_X4_copyFrom : GoodIn wsX6_popInto (wsV RX6 33 RX4 yX4_copyFrom wsX4_copyFrom) := goodIn_app (goodIn_of _ (by decide +kernel)) ggX6_popInto_X4_copyFrom
theorem dX6_popInto_0 : decode cX6_popInto 0 = .ok (.aload_n 0, 1) := by decide +kernel
theorem dX6_popInto_1 : decode cX6_popInto 1 = .ok (.aload_n 0, 1) := by decide +kernel
theorem dX6_popInto_2 : decode cX6_popInto 2 = .ok (.getfield 22, 3) := by decide +kernel
theorem dX6_popInto_5 : decode cX6_popInto 5 = .ok (.iconst 1, 1) := by decide +kernel
theorem dX6_popInto_6 : decode cX6_popInto 6 = .ok (.isub, 1) := by decide +kernel
theorem dX6_popInto_7 : decode cX6_popInto 7 = .ok (.invokevirtual 29, 3) := by decide +kernel
theorem dX6_popInto_10 : decode cX6_popInto 10 = .ok (.astore_n 2, 1) := by decide +kernel
theorem dX6_popInto_11 : decode cX6_popInto 11 = .ok (.aload_n 2, 1) := by decide +kernel
theorem dX6_popInto_12 : decode cX6_popInto 12 = .ok (.ifnull 18, 3) := by decide +kernel
theorem dX6_popInto_15 : decode cX6_popInto 15 = .ok (.aload_n 1, 1) := by decide +kernel
theorem dX6_popInto_16 : decode cX6_popInto 16 = .ok (.aload_n 2, 1) := by decide +kernel
theorem dX6_popInto_17 : decode cX6_popInto 17 = .ok (.invokevirtual 33, 3) := by decide +kernel
theorem dX6_popInto_20 : decode cX6_popInto 20 = .ok (.aload_n 0, 1) := by decide +kernel
theorem dX6_popInto_21 : decode cX6_popInto 21 = .ok (.dup, 1) := by decide +kernel
theorem dX6_popInto_22 : decode cX6_popInto 22 = .ok (.getfield 22, 3) := by decide +kernel
theorem dX6_popInto_25 : decode cX6_popInto 25 = .ok (.iconst 1, 1) := by decide +kernel
theorem dX6_popInto_26 : decode cX6_popInto 26 = .ok (.isub, 1) := by decide +kernel
theorem dX6_popInto_27 : decode cX6_popInto 27 = .ok (.putfield 22, 3) := by decide +kernel
theorem dX6_popInto_30 : decode cX6_popInto 30 = .ok (.return_, 1) := by decide +kernel
set_option maxRecDepth 20000 in
theorem ggX6_turn_X6_slotAt : GoodIn wsX6_turn wsX6_slotAt := goodIn_r _ [6, 1, 7, 8] (by decide +kernel) (by decide +kernel)
set_option maxRecDepth 20000 in
theorem gX6_turn_X6_slotAt : GoodIn wsX6_turn (wsV RX6 29 RX6 yX6_slotAt wsX6_slotAt) := goodIn_app (goodIn_of _ (by decide +kernel)) ggX6_turn_X6_slotAt
theorem dX6_turn_0 : decode cX6_turn 0 = .ok (.aload_n 0, 1) := by decide +kernel
theorem dX6_turn_1 : decode cX6_turn 1 = .ok (.iconst 0, 1) := by decide +kernel
theorem dX6_turn_2 : decode cX6_turn 2 = .ok (.invokevirtual 29, 3) := by decide +kernel
theorem dX6_turn_5 : decode cX6_turn 5 = .ok (.astore_n 1, 1) := by decide +kernel
theorem dX6_turn_6 : decode cX6_turn 6 = .ok (.iconst 1, 1) := by decide +kernel
theorem dX6_turn_7 : decode cX6_turn 7 = .ok (.istore_n 2, 1) := by decide +kernel
theorem dX6_turn_8 : decode cX6_turn 8 = .ok (.iload_n 2, 1) := by decide +kernel
theorem dX6_turn_9 : decode cX6_turn 9 = .ok (.aload_n 0, 1) := by decide +kernel
theorem dX6_turn_10 : decode cX6_turn 10 = .ok (.getfield 15, 3) := by decide +kernel
theorem dX6_turn_13 : decode cX6_turn 13 = .ok (.arraylength, 1) := by decide +kernel
theorem dX6_turn_14 : decode cX6_turn 14 = .ok (.if_icmp .ge 23, 3) := by decide +kernel
theorem dX6_turn_17 : decode cX6_turn 17 = .ok (.aload_n 0, 1) := by decide +kernel
theorem dX6_turn_18 : decode cX6_turn 18 = .ok (.getfield 15, 3) := by decide +kernel
theorem dX6_turn_21 : decode cX6_turn 21 = .ok (.iload_n 2, 1) := by decide +kernel
theorem dX6_turn_22 : decode cX6_turn 22 = .ok (.iconst 1, 1) := by decide +kernel
theorem dX6_turn_23 : decode cX6_turn 23 = .ok (.isub, 1) := by decide +kernel
theorem dX6_turn_24 : decode cX6_turn 24 = .ok (.aload_n 0, 1) := by decide +kernel
theorem dX6_turn_25 : decode cX6_turn 25 = .ok (.getfield 15, 3) := by decide +kernel
theorem dX6_turn_28 : decode cX6_turn 28 = .ok (.iload_n 2, 1) := by decide +kernel
theorem dX6_turn_29 : decode cX6_turn 29 = .ok (.aaload, 1) := by decide +kernel
theorem dX6_turn_30 : decode cX6_turn 30 = .ok (.aastore, 1) := by decide +kernel
theorem dX6_turn_31 : decode cX6_turn 31 = .ok (.iinc 2 1, 3) := by decide +kernel
theorem dX6_turn_34 : decode cX6_turn 34 = .ok (.goto (-26), 3) := by decide +kernel
theorem dX6_turn_37 : decode cX6_turn 37 = .ok (.aload_n 0, 1) := by decide +kernel
theorem dX6_turn_38 : decode cX6_turn 38 = .ok (.getfield 15, 3) := by decide +kernel
theorem dX6_turn_41 : decode cX6_turn 41 = .ok (.arraylength, 1) := by decide +kernel
theorem dX6_turn_42 : decode cX6_turn 42 = .ok (.ifCond .le 16, 3) := by decide +kernel
theorem dX6_turn_45 : decode cX6_turn 45 = .ok (.aload_n 0, 1) := by decide +kernel
theorem dX6_turn_46 : decode cX6_turn 46 = .ok (.getfield 15, 3) := by decide +kernel
theorem dX6_turn_49 : decode cX6_turn 49 = .ok (.aload_n 0, 1) := by decide +kernel
theorem dX6_turn_50 : decode cX6_turn 50 = .ok (.getfield 15, 3) := by decide +kernel
theorem dX6_turn_53 : decode cX6_turn 53 = .ok (.arraylength, 1) := by decide +kernel
theorem dX6_turn_54 : decode cX6_turn 54 = .ok (.iconst 1, 1) := by decide +kernel
theorem dX6_turn_55 : decode cX6_turn 55 = .ok (.isub, 1) := by decide +kernel
theorem dX6_turn_56 : decode cX6_turn 56 = .ok (.aload_n 1, 1) := by decide +kernel
theorem dX6_turn_57 : decode cX6_turn 57 = .ok (.aastore, 1) := by decide +kernel
theorem dX6_turn_58 : decode cX6_turn 58 = .ok (.return_, 1) := by decide +kernel
theorem dX6_slotAt_0 : decode cX6_slotAt 0 = .ok (.iload_n 1, 1) := by decide +kernel
theorem dX6_slotAt_1 : decode cX6_slotAt 1 = .ok (.ifCond .lt 21, 3) := by decide +kernel
theorem dX6_slotAt_4 : decode cX6_slotAt 4 = .ok (.iload_n 1, 1) := by decide +kernel
theorem dX6_slotAt_5 : decode cX6_slotAt 5 = .ok (.aload_n 0, 1) := by decide +kernel
theorem dX6_slotAt_6 : decode cX6_slotAt 6 = .ok (.getfield 15, 3) := by decide +kernel
theorem dX6_slotAt_9 : decode cX6_slotAt 9 = .ok (.arraylength, 1) := by decide +kernel
theorem dX6_slotAt_10 : decode cX6_slotAt 10 = .ok (.if_icmp .ge 12, 3) := by decide +kernel
theorem dX6_slotAt_13 : decode cX6_slotAt 13 = .ok (.aload_n 0, 1) := by decide +kernel
theorem dX6_slotAt_14 : decode cX6_slotAt 14 = .ok (.getfield 15, 3) := by decide +kernel
theorem dX6_slotAt_17 : decode cX6_slotAt 17 = .ok (.iload_n 1, 1) := by decide +kernel
theorem dX6_slotAt_18 : decode cX6_slotAt 18 = .ok (.aaload, 1) := by decide +kernel
theorem dX6_slotAt_19 : decode cX6_slotAt 19 = .ok (.goto 4, 3) := by decide +kernel
theorem dX6_slotAt_22 : decode cX6_slotAt 22 = .ok (.aconst_null, 1) := by decide +kernel
theorem dX6_slotAt_23 : decode cX6_slotAt 23 = .ok (.areturn, 1) := by decide +kernel
set_option maxRecDepth 20000 in
theorem ggX7_init_X1_init : GoodIn wsX7_init wsX1_init := goodIn_r _ [20, 21, 2, 3, 4, 22, 23, 24, 41, 42, 43, 44, 45] (by decide +kernel) (by decide +kernel)
set_option maxRecDepth 20000 in
theorem gX7_init_X1_init_n26 : GoodIn wsX7_init (wsX1_init) := ggX7_init_X1_init
set_option maxRecDepth 20000 in
theorem ggX7_init_X4_init : GoodIn wsX7_init wsX4_init := goodIn_r _ [26, 27, 2, 3, 4, 28, 29, 30, 31, 46, 47, 48, 49, 50, 51] (by decide +kernel) (by decide +kernel)
set_option maxRecDepth 20000 in
theorem gX7_init_X4_init_n33 : GoodIn wsX7_init (wsX4_init) := ggX7_init_X4_init
theorem dX7_init_0 : decode cX7_init 0 = .ok (.aload_n 0, 1) := by decide +kernel
theorem dX7_init_1 : decode cX7_init 1 = .ok (.invokespecial 3, 3) := by decide +kernel
theorem dX7_init_4 : decode cX7_init 4 = .ok (.aload_n 0, 1) := by decide +kernel
theorem dX7_init_5 : decode cX7_init 5 = .ok (.bipush 7, 2) := by decide +kernel
theorem dX7_init_7 : decode cX7_init 7 = .ok (.newarray .int, 2) := by decide +kernel
theorem dX7_init_9 : decode cX7_init 9 = .ok (.putfield 9, 3) := by decide +kernel
theorem dX7_init_12 : decode cX7_init 12 = .ok (.aload_n 0, 1) := by decide +kernel
theorem dX7_init_13 : decode cX7_init 13 = .ok (.bipush 6, 2) := by decide +kernel
theorem dX7_init_15 : decode cX7_init 15 = .ok (.newarray .int, 2) := by decide +kernel
theorem dX7_init_17 : decode cX7_init 17 = .ok (.putfield 15, 3) := by decide +kernel
theorem dX7_init_20 : decode cX7_init 20 = .ok (.aload_n 0, 1) := by decide +kernel
theorem dX7_init_21 : decode cX7_init 21 = .ok (.bipush 6, 2) := by decide +kernel
theorem dX7_init_23 : decode cX7_init 23 = .ok (.newarray .int, 2) := by decide +kernel
theorem dX7_init_25 : decode cX7_init 25 = .ok (.putfield 18, 3) := by decide +kernel
theorem dX7_init_28 : decode cX7_init 28 = .ok (.aload_n 0, 1) := by decide +kernel
theorem dX7_init_29 : decode cX7_init 29 = .ok (.bipush 6, 2) := by decide +kernel
theorem dX7_init_31 : decode cX7_init 31 = .ok (.newarray .int, 2) := by decide +kernel
theorem dX7_init_33 : decode cX7_init 33 = .ok (.putfield 21, 3) := by decide +kernel
theorem dX7_init_36 : decode cX7_init 36 = .ok (.aload_n 0, 1) := by decide +kernel
theorem dX7_init_37 : decode cX7_init 37 = .ok (.new 24, 3) := by decide +kernel
theorem dX7_init_40 : decode cX7_init 40 = .ok (.dup, 1) := by decide +kernel
theorem dX7_init_41 : decode cX7_init 41 = .ok (.invokespecial 26, 3) := by decide +kernel
theorem dX7_init_44 : decode cX7_init 44 = .ok (.putfield 27, 3) := by decide +kernel
theorem dX7_init_47 : decode cX7_init 47 = .ok (.aload_n 0, 1) := by decide +kernel
theorem dX7_init_48 : decode cX7_init 48 = .ok (.new 31, 3) := by decide +kernel
theorem dX7_init_51 : decode cX7_init 51 = .ok (.dup, 1) := by decide +kernel
theorem dX7_init_52 : decode cX7_init 52 = .ok (.invokespecial 33, 3) := by decide +kernel
theorem dX7_init_55 : decode cX7_init 55 = .ok (.putfield 34, 3) := by decide +kernel
theorem dX7_init_58 : decode cX7_init 58 = .ok (.aload_n 0, 1) := by decide +kernel
theorem dX7_init_59 : decode cX7_init 59 = .ok (.aload_n 1, 1) := by decide +kernel
theorem dX7_init_60 : decode cX7_init 60 = .ok (.putfield 38, 3) := by decide +kernel
theorem dX7_init_63 : decode cX7_init 63 = .ok (.aload_n 0, 1) := by decide +kernel
theorem dX7_init_64 : decode cX7_init 64 = .ok (.aload_n 2, 1) := by decide +kernel
theorem dX7_init_65 : decode cX7_init 65 = .ok (.putfield 41, 3) := by decide +kernel
theorem dX7_init_68 : decode cX7_init 68 = .ok (.return_, 1) := by decide +kernel
set_option maxRecDepth 20000 in
theorem ggX7_add_X3_put : GoodIn wsX7_add wsX3_put := goodIn_r _ [8] (by decide +kernel) (by decide +kernel)
set_option maxRecDepth 20000 in
theorem gX7_add_X3_put : GoodIn wsX7_add (va_wsS RX7 48 yX3_put wsX3_put) := goodIn_app (goodIn_of _ (by decide +kernel)) ggX7_add_X3_put
theorem dX7_add_0 : decode cX7_add 0 = .ok (.aload_n 0, 1) := by decide +kernel
theorem dX7_add_1 : decode cX7_add 1 = .ok (.getfield 15, 3) := by decide +kernel
theorem dX7_add_4 : decode cX7_add 4 = .ok (.aload_n 0, 1) := by decide +kernel
theorem dX7_add_5 : decode cX7_add 5 = .ok (.getfield 44, 3) := by decide +kernel
theorem dX7_add_8 : decode cX7_add 8 = .ok (.iload_n 1, 1) := by decide +kernel
theorem dX7_add_9 : decode cX7_add 9 = .ok (.invokestatic 48, 3) := by decide +kernel
theorem dX7_add_12 : decode cX7_add 12 = .ok (.aload_n 0, 1) := by decide +kernel
theorem dX7_add_13 : decode cX7_add 13 = .ok (.getfield 18, 3) := by decide +kernel
theorem dX7_add_16 : decode cX7_add 16 = .ok (.aload_n 0, 1) := by decide +kernel
theorem dX7_add_17 : decode cX7_add 17 = .ok (.getfield 44, 3) := by decide +kernel
theorem dX7_add_20 : decode cX7_add 20 = .ok (.iload_n 2, 1) := by decide +kernel
theorem dX7_add_21 : decode cX7_add 21 = .ok (.invokestatic 48, 3) := by decide +kernel
theorem dX7_add_24 : decode cX7_add 24 = .ok (.aload_n 0, 1) := by decide +kernel
theorem dX7_add_25 : decode cX7_add 25 = .ok (.getfield 21, 3) := by decide +kernel
theorem dX7_add_28 : decode cX7_add 28 = .ok (.aload_n 0, 1) := by decide +kernel
theorem dX7_add_29 : decode cX7_add 29 = .ok (.getfield 44, 3) := by decide +kernel
theorem dX7_add_32 : decode cX7_add 32 = .ok (.iload_n 3, 1) := by decide +kernel
theorem dX7_add_33 : decode cX7_add 33 = .ok (.invokestatic 48, 3) := by decide +kernel
theorem dX7_add_36 : decode cX7_add 36 = .ok (.aload_n 0, 1) := by decide +kernel
theorem dX7_add_37 : decode cX7_add 37 = .ok (.dup, 1) := by decide +kernel
theorem dX7_add_38 : decode cX7_add 38 = .ok (.getfield 44, 3) := by decide +kernel
theorem dX7_add_41 : decode cX7_add 41 = .ok (.iconst 1, 1) := by decide +kernel
theorem dX7_add_42 : decode cX7_add 42 = .ok (.iadd, 1) := by decide +kernel
theorem dX7_add_43 : decode cX7_add 43 = .ok (.putfield 44, 3) := by decide +kernel
theorem dX7_add_46 : decode cX7_add 46 = .ok (.return_, 1) := by decide +kernel
set_option maxRecDepth 20000 in
theorem ggX7_countOrders_X7_startOrders : GoodIn wsX7_countOrders wsX7_startOrders := goodIn_r _ [10, 5, 11, 2, 3, 12, 13, 14, 15, 16, 17, 18, 19, 20, 21, 22, 23, 24, 25, 26, 27, 28, 29, 126, 127, 128, 129, 130, 131, 132, 133, 134, 141, 142, 143, 144, 145, 135, 136, 137, 138, 139, 140] (by decide +kernel) (by decide +kernel)
set_option maxRecDepth 20000 in
theorem gX7_countOrders_X7_startOrders : GoodIn wsX7_countOrders (wsV RX7 54 RX7 yX7_startOrders wsX7_startOrders) := goodIn_app (goodIn_of _ (by decide +kernel)) ggX7_countOrders_X7_startOrders
set_option maxRecDepth 20000 in
theorem ggX7_countOrders_X4_copyFrom : GoodIn wsX7_countOrders wsX4_copyFrom := goodIn_r _ [33, 22, 34, 35, 36, 21, 37, 38, 39, 25, 40, 41, 42, 43, 44, 45, 46, 47, 48, 135, 136, 137, 138, 139, 140] (by decide +kernel) (by decide +kernel)
set_option maxRecDepth 20000 in
theorem gX7_countOrders_X4_copyFrom : GoodIn wsX7_countOrders (wsV RX7 57 RX4 yX4_copyFrom wsX4_copyFrom) := goodIn_app (goodIn_of _ (by decide +kernel)) ggX7_countOrders_X4_copyFrom
set_option maxRecDepth 20000 in
theorem ggX7_countOrders_X3_copy : GoodIn wsX7_countOrders wsX3_copy := goodIn_r _ [40, 41, 42, 43, 44, 45, 46, 47, 48] (by decide +kernel) (by decide +kernel)
set_option maxRecDepth 20000 in
theorem gX7_countOrders_X3_copy : GoodIn wsX7_countOrders (va_wsS RX7 64 yX3_copy wsX3_copy) := goodIn_app (goodIn_of _ (by decide +kernel)) ggX7_countOrders_X3_copy
set_option maxRecDepth 20000 in
theorem ggX7_countOrders_X7_comesTrue : GoodIn wsX7_countOrders wsX7_comesTrue := goodIn_r _ [53, 1, 54, 55, 56, 9, 57, 58, 59, 60, 61, 43, 62, 63, 64, 65, 66, 67, 68, 24, 25, 26, 69, 70, 71, 15, 72, 37, 21, 73, 22, 74, 75, 76, 77, 78, 79, 23, 80, 81, 82, 83, 84, 85, 86, 87, 88, 89, 90, 91, 92, 93, 94, 35, 95, 96, 97, 98, 36, 99, 100, 101, 102, 103, 28, 29, 104, 105, 106, 107, 34, 17, 18, 19, 20, 108, 109, 110, 111, 112, 113, 114, 115, 116, 126, 127, 128, 129, 130, 131, 132, 133, 134, 135, 136, 137, 138, 139, 140, 141, 142, 143, 144, 145] (by decide +kernel) (by decide +kernel)
set_option maxRecDepth 20000 in
theorem gX7_countOrders_X7_comesTrue : GoodIn wsX7_countOrders (wsV RX7 68 RX7 yX7_comesTrue wsX7_comesTrue) := goodIn_app (goodIn_of _ (by decide +kernel)) ggX7_countOrders_X7_comesTrue
set_option maxRecDepth 20000 in
theorem ggX7_countOrders_X7_nextOrder : GoodIn wsX7_countOrders wsX7_nextOrder := goodIn_r _ [120, 2, 121, 3, 68, 24, 25, 26, 122, 123, 124, 9, 125, 27, 28, 29, 126, 127, 128, 129, 130, 131, 132, 133, 134, 135, 136, 137, 138, 139, 140] (by decide +kernel) (by decide +kernel)
set_option maxRecDepth 20000 in
theorem gX7_countOrders_X7_nextOrder : GoodIn wsX7_countOrders (wsV RX7 72 RX7 yX7_nextOrder wsX7_nextOrder) := goodIn_app (goodIn_of _ (by decide +kernel)) ggX7_countOrders_X7_nextOrder
theorem dX7_countOrders_0 : decode cX7_countOrders 0 = .ok (.iconst 0, 1) := by decide +kernel
theorem dX7_countOrders_1 : decode cX7_countOrders 1 = .ok (.istore_n 2, 1) := by decide +kernel
theorem dX7_countOrders_2 : decode cX7_countOrders 2 = .ok (.iconst 1, 1) := by decide +kernel
theorem dX7_countOrders_3 : decode cX7_countOrders 3 = .ok (.istore_n 3, 1) := by decide +kernel
theorem dX7_countOrders_4 : decode cX7_countOrders 4 = .ok (.aload_n 0, 1) := by decide +kernel
theorem dX7_countOrders_5 : decode cX7_countOrders 5 = .ok (.invokevirtual 54, 3) := by decide +kernel
theorem dX7_countOrders_8 : decode cX7_countOrders 8 = .ok (.iconst 0, 1) := by decide +kernel
theorem dX7_countOrders_9 : decode cX7_countOrders 9 = .ok (.istore 4, 2) := by decide +kernel
theorem dX7_countOrders_11 : decode cX7_countOrders 11 = .ok (.iload 4, 2) := by decide +kernel
theorem dX7_countOrders_13 : decode cX7_countOrders 13 = .ok (.sipush 5040, 3) := by decide +kernel
theorem dX7_countOrders_16 : decode cX7_countOrders 16 = .ok (.if_icmp .ge 71, 3) := by decide +kernel
theorem dX7_countOrders_19 : decode cX7_countOrders 19 = .ok (.iload_n 3, 1) := by decide +kernel
theorem dX7_countOrders_20 : decode cX7_countOrders 20 = .ok (.ifCond .eq 67, 3) := by decide +kernel
theorem dX7_countOrders_23 : decode cX7_countOrders 23 = .ok (.aload_n 0, 1) := by decide +kernel
theorem dX7_countOrders_24 : decode cX7_countOrders 24 = .ok (.getfield 34, 3) := by decide +kernel
theorem dX7_countOrders_27 : decode cX7_countOrders 27 = .ok (.aload_n 0, 1) := by decide +kernel
theorem dX7_countOrders_28 : decode cX7_countOrders 28 = .ok (.getfield 41, 3) := by decide +kernel
theorem dX7_countOrders_31 : decode cX7_countOrders 31 = .ok (.invokevirtual 57, 3) := by decide +kernel
theorem dX7_countOrders_34 : decode cX7_countOrders 34 = .ok (.aload_n 0, 1) := by decide +kernel
theorem dX7_countOrders_35 : decode cX7_countOrders 35 = .ok (.getfield 9, 3) := by decide +kernel
theorem dX7_countOrders_38 : decode cX7_countOrders 38 = .ok (.aload_n 0, 1) := by decide +kernel
theorem dX7_countOrders_39 : decode cX7_countOrders 39 = .ok (.getfield 34, 3) := by decide +kernel
theorem dX7_countOrders_42 : decode cX7_countOrders 42 = .ok (.getfield 61, 3) := by decide +kernel
theorem dX7_countOrders_45 : decode cX7_countOrders 45 = .ok (.invokestatic 64, 3) := by decide +kernel
theorem dX7_countOrders_48 : decode cX7_countOrders 48 = .ok (.aload_n 0, 1) := by decide +kernel
theorem dX7_countOrders_49 : decode cX7_countOrders 49 = .ok (.aload_n 0, 1) := by decide +kernel
theorem dX7_countOrders_50 : decode cX7_countOrders 50 = .ok (.getfield 38, 3) := by decide +kernel
theorem dX7_countOrders_53 : decode cX7_countOrders 53 = .ok (.iconst (-1), 1) := by decide +kernel
theorem dX7_countOrders_54 : decode cX7_countOrders 54 = .ok (.invokevirtual 68, 3) := by decide +kernel
theorem dX7_countOrders_57 : decode cX7_countOrders 57 = .ok (.ifCond .eq 6, 3) := by decide +kernel
theorem dX7_countOrders_60 : decode cX7_countOrders 60 = .ok (.iinc 2 1, 3) := by decide +kernel
theorem dX7_countOrders_63 : decode cX7_countOrders 63 = .ok (.iload_n 2, 1) := by decide +kernel
theorem dX7_countOrders_64 : decode cX7_countOrders 64 = .ok (.iload_n 1, 1) := by decide +kernel
theorem dX7_countOrders_65 : decode cX7_countOrders 65 = .ok (.if_icmp .ge 14, 3) := by decide +kernel
theorem dX7_countOrders_68 : decode cX7_countOrders 68 = .ok (.aload_n 0, 1) := by decide +kernel
theorem dX7_countOrders_69 : decode cX7_countOrders 69 = .ok (.invokevirtual 72, 3) := by decide +kernel
theorem dX7_countOrders_72 : decode cX7_countOrders 72 = .ok (.ifCond .eq 7, 3) := by decide +kernel
theorem dX7_countOrders_75 : decode cX7_countOrders 75 = .ok (.iconst 1, 1) := by decide +kernel
theorem dX7_countOrders_76 : decode cX7_countOrders 76 = .ok (.goto 4, 3) := by decide +kernel
theorem dX7_countOrders_79 : decode cX7_countOrders 79 = .ok (.iconst 0, 1) := by decide +kernel
theorem dX7_countOrders_80 : decode cX7_countOrders 80 = .ok (.istore_n 3, 1) := by decide +kernel
theorem dX7_countOrders_81 : decode cX7_countOrders 81 = .ok (.iinc 4 1, 3) := by decide +kernel
theorem dX7_countOrders_84 : decode cX7_countOrders 84 = .ok (.goto (-73), 3) := by decide +kernel
theorem dX7_countOrders_87 : decode cX7_countOrders 87 = .ok (.iload_n 2, 1) := by decide +kernel
theorem dX7_countOrders_88 : decode cX7_countOrders 88 = .ok (.ireturn, 1) := by decide +kernel
set_option maxRecDepth 20000 in
theorem ggX7_fittingKinds_X1_copyFrom : GoodIn wsX7_fittingKinds wsX1_copyFrom := goodIn_r _ [10, 11, 12, 13, 14, 15, 16, 17, 18, 19, 20, 21, 22, 23, 24, 25, 26, 27, 125, 126, 127, 128, 129] (by decide +kernel) (by decide +kernel)
set_option maxRecDepth 20000 in
theorem gX7_fittingKinds_X1_copyFrom : GoodIn wsX7_fittingKinds (wsV RX7 76 RX1 yX1_copyFrom wsX1_copyFrom) := goodIn_app (goodIn_of _ (by decide +kernel)) ggX7_fittingKinds_X1_copyFrom
set_option maxRecDepth 20000 in
theorem ggX7_fittingKinds_X3_put : GoodIn wsX7_fittingKinds wsX3_put := goodIn_r _ [30] (by decide +kernel) (by decide +kernel)
set_option maxRecDepth 20000 in
theorem gX7_fittingKinds_X3_put : GoodIn wsX7_fittingKinds (va_wsS RX7 48 yX3_put wsX3_put) := goodIn_app (goodIn_of _ (by decide +kernel)) ggX7_fittingKinds_X3_put
set_option maxRecDepth 20000 in
theorem ggX7_fittingKinds_X4_copyFrom : GoodIn wsX7_fittingKinds wsX4_copyFrom := goodIn_r _ [35, 36, 37, 38, 39, 40, 41, 42, 17, 18, 19, 20, 21, 22, 23, 24, 25, 26, 27, 130, 131, 132, 133, 134, 135] (by decide +kernel) (by decide +kernel)
set_option maxRecDepth 20000 in
theorem gX7_fittingKinds_X4_copyFrom : GoodIn wsX7_fittingKinds (wsV RX7 57 RX4 yX4_copyFrom wsX4_copyFrom) := goodIn_app (goodIn_of _ (by decide +kernel)) ggX7_fittingKinds_X4_copyFrom
set_option maxRecDepth 20000 in
theorem ggX7_fittingKinds_X7_comesTrue : GoodIn wsX7_fittingKinds wsX7_comesTrue := goodIn_r _ [47, 4, 48, 49, 50, 46, 51, 52, 53, 54, 55, 22, 56, 57, 58, 59, 60, 61, 62, 63, 18, 64, 65, 66, 67, 34, 68, 41, 40, 69, 36, 70, 71, 72, 73, 74, 75, 76, 77, 78, 79, 80, 81, 82, 9, 83, 12, 84, 85, 86, 87, 88, 89, 38, 90, 91, 92, 93, 39, 94, 95, 96, 97, 98, 29, 30, 99, 100, 101, 102, 37, 103, 104, 105, 106, 107, 108, 109, 110, 111, 112, 113, 114, 115, 116, 117, 118, 119, 120, 121, 122, 123, 124, 130, 131, 132, 133, 134, 135, 125, 126, 127, 128, 129] (by decide +kernel) (by decide +kernel)
set_option maxRecDepth 20000 in
theorem gX7_fittingKinds_X7_comesTrue : GoodIn wsX7_fittingKinds (wsV RX7 68 RX7 yX7_comesTrue wsX7_comesTrue) := goodIn_app (goodIn_of _ (by decide +kernel)) ggX7_fittingKinds_X7_comesTrue
theorem dX7_fittingKinds_0 : decode cX7_fittingKinds 0 = .ok (.iconst 0, 1) := by decide +kernel
theorem dX7_fittingKinds_1 : decode cX7_fittingKinds 1 = .ok (.istore_n 2, 1) := by decide +kernel
theorem dX7_fittingKinds_2 : decode cX7_fittingKinds 2 = .ok (.aload_n 0, 1) := by decide +kernel
theorem dX7_fittingKinds_3 : decode cX7_fittingKinds 3 = .ok (.getfield 27, 3) := by decide +kernel
theorem dX7_fittingKinds_6 : decode cX7_fittingKinds 6 = .ok (.aload_n 0, 1) := by decide +kernel
theorem dX7_fittingKinds_7 : decode cX7_fittingKinds 7 = .ok (.getfield 38, 3) := by decide +kernel
theorem dX7_fittingKinds_10 : decode cX7_fittingKinds 10 = .ok (.invokevirtual 76, 3) := by decide +kernel
theorem dX7_fittingKinds_13 : decode cX7_fittingKinds 13 = .ok (.iconst 0, 1) := by decide +kernel
theorem dX7_fittingKinds_14 : decode cX7_fittingKinds 14 = .ok (.istore_n 3, 1) := by decide +kernel
theorem dX7_fittingKinds_15 : decode cX7_fittingKinds 15 = .ok (.iload_n 3, 1) := by decide +kernel
theorem dX7_fittingKinds_16 : decode cX7_fittingKinds 16 = .ok (.iconst 3, 1) := by decide +kernel
theorem dX7_fittingKinds_17 : decode cX7_fittingKinds 17 = .ok (.if_icmp .gt 50, 3) := by decide +kernel
theorem dX7_fittingKinds_20 : decode cX7_fittingKinds 20 = .ok (.aload_n 0, 1) := by decide +kernel
theorem dX7_fittingKinds_21 : decode cX7_fittingKinds 21 = .ok (.getfield 27, 3) := by decide +kernel
theorem dX7_fittingKinds_24 : decode cX7_fittingKinds 24 = .ok (.getfield 79, 3) := by decide +kernel
theorem dX7_fittingKinds_27 : decode cX7_fittingKinds 27 = .ok (.iload_n 1, 1) := by decide +kernel
theorem dX7_fittingKinds_28 : decode cX7_fittingKinds 28 = .ok (.iload_n 3, 1) := by decide +kernel
theorem dX7_fittingKinds_29 : decode cX7_fittingKinds 29 = .ok (.invokestatic 48, 3) := by decide +kernel
theorem dX7_fittingKinds_32 : decode cX7_fittingKinds 32 = .ok (.aload_n 0, 1) := by decide +kernel
theorem dX7_fittingKinds_33 : decode cX7_fittingKinds 33 = .ok (.getfield 34, 3) := by decide +kernel
theorem dX7_fittingKinds_36 : decode cX7_fittingKinds 36 = .ok (.aload_n 0, 1) := by decide +kernel
theorem dX7_fittingKinds_37 : decode cX7_fittingKinds 37 = .ok (.getfield 41, 3) := by decide +kernel
theorem dX7_fittingKinds_40 : decode cX7_fittingKinds 40 = .ok (.invokevirtual 57, 3) := by decide +kernel
theorem dX7_fittingKinds_43 : decode cX7_fittingKinds 43 = .ok (.aload_n 0, 1) := by decide +kernel
theorem dX7_fittingKinds_44 : decode cX7_fittingKinds 44 = .ok (.aload_n 0, 1) := by decide +kernel
theorem dX7_fittingKinds_45 : decode cX7_fittingKinds 45 = .ok (.getfield 27, 3) := by decide +kernel
theorem dX7_fittingKinds_48 : decode cX7_fittingKinds 48 = .ok (.iload_n 1, 1) := by decide +kernel
theorem dX7_fittingKinds_49 : decode cX7_fittingKinds 49 = .ok (.invokevirtual 68, 3) := by decide +kernel
theorem dX7_fittingKinds_52 : decode cX7_fittingKinds 52 = .ok (.ifCond .eq 9, 3) := by decide +kernel
theorem dX7_fittingKinds_55 : decode cX7_fittingKinds 55 = .ok (.iload_n 2, 1) := by decide +kernel
theorem dX7_fittingKinds_56 : decode cX7_fittingKinds 56 = .ok (.iconst 1, 1) := by decide +kernel
theorem dX7_fittingKinds_57 : decode cX7_fittingKinds 57 = .ok (.iload_n 3, 1) := by decide +kernel
theorem dX7_fittingKinds_58 : decode cX7_fittingKinds 58 = .ok (.ishl, 1) := by decide +kernel
theorem dX7_fittingKinds_59 : decode cX7_fittingKinds 59 = .ok (.ior, 1) := by decide +kernel
theorem dX7_fittingKinds_60 : decode cX7_fittingKinds 60 = .ok (.istore_n 2, 1) := by decide +kernel
theorem dX7_fittingKinds_61 : decode cX7_fittingKinds 61 = .ok (.iinc 3 1, 3) := by decide +kernel
theorem dX7_fittingKinds_64 : decode cX7_fittingKinds 64 = .ok (.goto (-49), 3) := by decide +kernel
theorem dX7_fittingKinds_67 : decode cX7_fittingKinds 67 = .ok (.iload_n 2, 1) := by decide +kernel
theorem dX7_fittingKinds_68 : decode cX7_fittingKinds 68 = .ok (.ireturn, 1) := by decide +kernel
set_option maxRecDepth 20000 in
theorem ggX7_startOrders_X4_isQueued : GoodIn wsX7_startOrders wsX4_isQueued := goodIn_r _ [9, 10, 11, 12, 8, 13, 14, 15, 16, 17, 18, 19, 37, 38, 39, 40, 41, 42] (by decide +kernel) (by decide +kernel)
set_option maxRecDepth 20000 in
theorem gX7_startOrders_X4_isQueued : GoodIn wsX7_startOrders (wsV RX7 83 RX4 yX4_isQueued wsX4_isQueued) := goodIn_app (goodIn_of _ (by decide +kernel)) ggX7_startOrders_X4_isQueued
set_option maxRecDepth 20000 in
theorem ggX7_startOrders_X3_put : GoodIn wsX7_startOrders wsX3_put := goodIn_r _ [22] (by decide +kernel) (by decide +kernel)
set_option maxRecDepth 20000 in
theorem gX7_startOrders_X3_put : GoodIn wsX7_startOrders (va_wsS RX7 48 yX3_put wsX3_put) := goodIn_app (goodIn_of _ (by decide +kernel)) ggX7_startOrders_X3_put
theorem dX7_startOrders_0 : decode cX7_startOrders 0 = .ok (.iconst 0, 1) := by decide +kernel
theorem dX7_startOrders_1 : decode cX7_startOrders 1 = .ok (.istore_n 1, 1) := by decide +kernel
theorem dX7_startOrders_2 : decode cX7_startOrders 2 = .ok (.iconst 0, 1) := by decide +kernel
theorem dX7_startOrders_3 : decode cX7_startOrders 3 = .ok (.istore_n 2, 1) := by decide +kernel
theorem dX7_startOrders_4 : decode cX7_startOrders 4 = .ok (.iload_n 2, 1) := by decide +kernel
theorem dX7_startOrders_5 : decode cX7_startOrders 5 = .ok (.aload_n 0, 1) := by decide +kernel
theorem dX7_startOrders_6 : decode cX7_startOrders 6 = .ok (.getfield 38, 3) := by decide +kernel
theorem dX7_startOrders_9 : decode cX7_startOrders 9 = .ok (.getfield 82, 3) := by decide +kernel
theorem dX7_startOrders_12 : decode cX7_startOrders 12 = .ok (.if_icmp .ge 32, 3) := by decide +kernel
theorem dX7_startOrders_15 : decode cX7_startOrders 15 = .ok (.aload_n 0, 1) := by decide +kernel
theorem dX7_startOrders_16 : decode cX7_startOrders 16 = .ok (.getfield 41, 3) := by decide +kernel
theorem dX7_startOrders_19 : decode cX7_startOrders 19 = .ok (.iload_n 2, 1) := by decide +kernel
theorem dX7_startOrders_20 : decode cX7_startOrders 20 = .ok (.invokevirtual 83, 3) := by decide +kernel
theorem dX7_startOrders_23 : decode cX7_startOrders 23 = .ok (.ifCond .eq 15, 3) := by decide +kernel
theorem dX7_startOrders_26 : decode cX7_startOrders 26 = .ok (.aload_n 0, 1) := by decide +kernel
theorem dX7_startOrders_27 : decode cX7_startOrders 27 = .ok (.getfield 9, 3) := by decide +kernel
theorem dX7_startOrders_30 : decode cX7_startOrders 30 = .ok (.iload_n 1, 1) := by decide +kernel
theorem dX7_startOrders_31 : decode cX7_startOrders 31 = .ok (.iload_n 2, 1) := by decide +kernel
theorem dX7_startOrders_32 : decode cX7_startOrders 32 = .ok (.invokestatic 48, 3) := by decide +kernel
theorem dX7_startOrders_35 : decode cX7_startOrders 35 = .ok (.iinc 1 1, 3) := by decide +kernel
theorem dX7_startOrders_38 : decode cX7_startOrders 38 = .ok (.iinc 2 1, 3) := by decide +kernel
theorem dX7_startOrders_41 : decode cX7_startOrders 41 = .ok (.goto (-37), 3) := by decide +kernel
theorem dX7_startOrders_44 : decode cX7_startOrders 44 = .ok (.return_, 1) := by decide +kernel
set_option maxRecDepth 20000 in
theorem ggX7_nextOrder_X3_at : GoodIn wsX7_nextOrder wsX3_at := goodIn_r _ [7] (by decide +kernel) (by decide +kernel)
set_option maxRecDepth 20000 in
theorem gX7_nextOrder_X3_at : GoodIn wsX7_nextOrder (va_wsS RX7 90 yX3_at wsX3_at) := goodIn_app (goodIn_of _ (by decide +kernel)) ggX7_nextOrder_X3_at
set_option maxRecDepth 20000 in
theorem ggX7_nextOrder_X7_swap : GoodIn wsX7_nextOrder wsX7_swap := goodIn_r _ [12, 3, 4, 5, 6, 7, 13, 14, 15, 16, 17, 18, 19, 20, 21, 22, 23, 24] (by decide +kernel) (by decide +kernel)
set_option maxRecDepth 20000 in
theorem gX7_nextOrder_X7_swap : GoodIn wsX7_nextOrder (wsV RX7 94 RX7 yX7_swap wsX7_swap) := goodIn_app (goodIn_of _ (by decide +kernel)) ggX7_nextOrder_X7_swap
theorem dX7_nextOrder_0 : decode cX7_nextOrder 0 = .ok (.aload_n 0, 1) := by decide +kernel
theorem dX7_nextOrder_1 : decode cX7_nextOrder 1 = .ok (.getfield 41, 3) := by decide +kernel
theorem dX7_nextOrder_4 : decode cX7_nextOrder 4 = .ok (.getfield 87, 3) := by decide +kernel
theorem dX7_nextOrder_7 : decode cX7_nextOrder 7 = .ok (.iconst 2, 1) := by decide +kernel
theorem dX7_nextOrder_8 : decode cX7_nextOrder 8 = .ok (.isub, 1) := by decide +kernel
theorem dX7_nextOrder_9 : decode cX7_nextOrder 9 = .ok (.istore_n 1, 1) := by decide +kernel
theorem dX7_nextOrder_10 : decode cX7_nextOrder 10 = .ok (.iload_n 1, 1) := by decide +kernel
theorem dX7_nextOrder_11 : decode cX7_nextOrder 11 = .ok (.ifCond .lt 30, 3) := by decide +kernel
theorem dX7_nextOrder_14 : decode cX7_nextOrder 14 = .ok (.aload_n 0, 1) := by decide +kernel
theorem dX7_nextOrder_15 : decode cX7_nextOrder 15 = .ok (.getfield 9, 3) := by decide +kernel
theorem dX7_nextOrder_18 : decode cX7_nextOrder 18 = .ok (.iload_n 1, 1) := by decide +kernel
theorem dX7_nextOrder_19 : decode cX7_nextOrder 19 = .ok (.invokestatic 90, 3) := by decide +kernel
theorem dX7_nextOrder_22 : decode cX7_nextOrder 22 = .ok (.aload_n 0, 1) := by decide +kernel
theorem dX7_nextOrder_23 : decode cX7_nextOrder 23 = .ok (.getfield 9, 3) := by decide +kernel
theorem dX7_nextOrder_26 : decode cX7_nextOrder 26 = .ok (.iload_n 1, 1) := by decide +kernel
theorem dX7_nextOrder_27 : decode cX7_nextOrder 27 = .ok (.iconst 1, 1) := by decide +kernel
theorem dX7_nextOrder_28 : decode cX7_nextOrder 28 = .ok (.iadd, 1) := by decide +kernel
theorem dX7_nextOrder_29 : decode cX7_nextOrder 29 = .ok (.invokestatic 90, 3) := by decide +kernel
theorem dX7_nextOrder_32 : decode cX7_nextOrder 32 = .ok (.if_icmp .le 9, 3) := by decide +kernel
theorem dX7_nextOrder_35 : decode cX7_nextOrder 35 = .ok (.iinc 1 (-1), 3) := by decide +kernel
theorem dX7_nextOrder_38 : decode cX7_nextOrder 38 = .ok (.goto (-28), 3) := by decide +kernel
theorem dX7_nextOrder_41 : decode cX7_nextOrder 41 = .ok (.iload_n 1, 1) := by decide +kernel
theorem dX7_nextOrder_42 : decode cX7_nextOrder 42 = .ok (.ifCond .ge 5, 3) := by decide +kernel
theorem dX7_nextOrder_45 : decode cX7_nextOrder 45 = .ok (.iconst 0, 1) := by decide +kernel
theorem dX7_nextOrder_46 : decode cX7_nextOrder 46 = .ok (.ireturn, 1) := by decide +kernel
theorem dX7_nextOrder_47 : decode cX7_nextOrder 47 = .ok (.aload_n 0, 1) := by decide +kernel
theorem dX7_nextOrder_48 : decode cX7_nextOrder 48 = .ok (.getfield 41, 3) := by decide +kernel
theorem dX7_nextOrder_51 : decode cX7_nextOrder 51 = .ok (.getfield 87, 3) := by decide +kernel
theorem dX7_nextOrder_54 : decode cX7_nextOrder 54 = .ok (.iconst 1, 1) := by decide +kernel
theorem dX7_nextOrder_55 : decode cX7_nextOrder 55 = .ok (.isub, 1) := by decide +kernel
theorem dX7_nextOrder_56 : decode cX7_nextOrder 56 = .ok (.istore_n 2, 1) := by decide +kernel
theorem dX7_nextOrder_57 : decode cX7_nextOrder 57 = .ok (.iload_n 2, 1) := by decide +kernel
theorem dX7_nextOrder_58 : decode cX7_nextOrder 58 = .ok (.iload_n 1, 1) := by decide +kernel
theorem dX7_nextOrder_59 : decode cX7_nextOrder 59 = .ok (.if_icmp .le 28, 3) := by decide +kernel
theorem dX7_nextOrder_62 : decode cX7_nextOrder 62 = .ok (.aload_n 0, 1) := by decide +kernel
theorem dX7_nextOrder_63 : decode cX7_nextOrder 63 = .ok (.getfield 9, 3) := by decide +kernel
theorem dX7_nextOrder_66 : decode cX7_nextOrder 66 = .ok (.iload_n 2, 1) := by decide +kernel
theorem dX7_nextOrder_67 : decode cX7_nextOrder 67 = .ok (.invokestatic 90, 3) := by decide +kernel
theorem dX7_nextOrder_70 : decode cX7_nextOrder 70 = .ok (.aload_n 0, 1) := by decide +kernel
theorem dX7_nextOrder_71 : decode cX7_nextOrder 71 = .ok (.getfield 9, 3) := by decide +kernel
theorem dX7_nextOrder_74 : decode cX7_nextOrder 74 = .ok (.iload_n 1, 1) := by decide +kernel
theorem dX7_nextOrder_75 : decode cX7_nextOrder 75 = .ok (.invokestatic 90, 3) := by decide +kernel
theorem dX7_nextOrder_78 : decode cX7_nextOrder 78 = .ok (.if_icmp .ge 9, 3) := by decide +kernel
theorem dX7_nextOrder_81 : decode cX7_nextOrder 81 = .ok (.iinc 2 (-1), 3) := by decide +kernel
theorem dX7_nextOrder_84 : decode cX7_nextOrder 84 = .ok (.goto (-27), 3) := by decide +kernel
theorem dX7_nextOrder_87 : decode cX7_nextOrder 87 = .ok (.aload_n 0, 1) := by decide +kernel
theorem dX7_nextOrder_88 : decode cX7_nextOrder 88 = .ok (.iload_n 1, 1) := by decide +kernel
theorem dX7_nextOrder_89 : decode cX7_nextOrder 89 = .ok (.iload_n 2, 1) := by decide +kernel
theorem dX7_nextOrder_90 : decode cX7_nextOrder 90 = .ok (.invokevirtual 94, 3) := by decide +kernel
theorem dX7_nextOrder_93 : decode cX7_nextOrder 93 = .ok (.iload_n 1, 1) := by decide +kernel
theorem dX7_nextOrder_94 : decode cX7_nextOrder 94 = .ok (.iconst 1, 1) := by decide +kernel
theorem dX7_nextOrder_95 : decode cX7_nextOrder 95 = .ok (.iadd, 1) := by decide +kernel
theorem dX7_nextOrder_96 : decode cX7_nextOrder 96 = .ok (.istore_n 3, 1) := by decide +kernel
theorem dX7_nextOrder_97 : decode cX7_nextOrder 97 = .ok (.aload_n 0, 1) := by decide +kernel
theorem dX7_nextOrder_98 : decode cX7_nextOrder 98 = .ok (.getfield 41, 3) := by decide +kernel
theorem dX7_nextOrder_101 : decode cX7_nextOrder 101 = .ok (.getfield 87, 3) := by decide +kernel
theorem dX7_nextOrder_104 : decode cX7_nextOrder 104 = .ok (.iconst 1, 1) := by decide +kernel
theorem dX7_nextOrder_105 : decode cX7_nextOrder 105 = .ok (.isub, 1) := by decide +kernel
theorem dX7_nextOrder_106 : decode cX7_nextOrder 106 = .ok (.istore 4, 2) := by decide +kernel
theorem dX7_nextOrder_108 : decode cX7_nextOrder 108 = .ok (.iload 4, 2) := by decide +kernel
theorem dX7_nextOrder_110 : decode cX7_nextOrder 110 = .ok (.iload_n 3, 1) := by decide +kernel
theorem dX7_nextOrder_111 : decode cX7_nextOrder 111 = .ok (.if_icmp .le 19, 3) := by decide +kernel
theorem dX7_nextOrder_114 : decode cX7_nextOrder 114 = .ok (.aload_n 0, 1) := by decide +kernel
theorem dX7_nextOrder_115 : decode cX7_nextOrder 115 = .ok (.iload_n 3, 1) := by decide +kernel
theorem dX7_nextOrder_116 : decode cX7_nextOrder 116 = .ok (.iload 4, 2) := by decide +kernel
theorem dX7_nextOrder_118 : decode cX7_nextOrder 118 = .ok (.invokevirtual 94, 3) := by decide +kernel
theorem dX7_nextOrder_121 : decode cX7_nextOrder 121 = .ok (.iinc 3 1, 3) := by decide +kernel
theorem dX7_nextOrder_124 : decode cX7_nextOrder 124 = .ok (.iinc 4 (-1), 3) := by decide +kernel
theorem dX7_nextOrder_127 : decode cX7_nextOrder 127 = .ok (.goto (-19), 3) := by decide +kernel
theorem dX7_nextOrder_130 : decode cX7_nextOrder 130 = .ok (.iconst 1, 1) := by decide +kernel
theorem dX7_nextOrder_131 : decode cX7_nextOrder 131 = .ok (.ireturn, 1) := by decide +kernel
set_option maxRecDepth 20000 in
theorem ggX7_swap_X3_at : GoodIn wsX7_swap wsX3_at := goodIn_r _ [5] (by decide +kernel) (by decide +kernel)
set_option maxRecDepth 20000 in
theorem gX7_swap_X3_at : GoodIn wsX7_swap (va_wsS RX7 90 yX3_at wsX3_at) := goodIn_app (goodIn_of _ (by decide +kernel)) ggX7_swap_X3_at
set_option maxRecDepth 20000 in
theorem ggX7_swap_X3_put : GoodIn wsX7_swap wsX3_put := goodIn_r _ [8] (by decide +kernel) (by decide +kernel)
set_option maxRecDepth 20000 in
theorem gX7_swap_X3_put : GoodIn wsX7_swap (va_wsS RX7 48 yX3_put wsX3_put) := goodIn_app (goodIn_of _ (by decide +kernel)) ggX7_swap_X3_put
theorem dX7_swap_0 : decode cX7_swap 0 = .ok (.aload_n 0, 1) := by decide +kernel
theorem dX7_swap_1 : decode cX7_swap 1 = .ok (.getfield 9, 3) := by decide +kernel
theorem dX7_swap_4 : decode cX7_swap 4 = .ok (.iload_n 1, 1) := by decide +kernel
theorem dX7_swap_5 : decode cX7_swap 5 = .ok (.invokestatic 90, 3) := by decide +kernel
theorem dX7_swap_8 : decode cX7_swap 8 = .ok (.istore_n 3, 1) := by decide +kernel
theorem dX7_swap_9 : decode cX7_swap 9 = .ok (.aload_n 0, 1) := by decide +kernel
theorem dX7_swap_10 : decode cX7_swap 10 = .ok (.getfield 9, 3) := by decide +kernel
theorem dX7_swap_13 : decode cX7_swap 13 = .ok (.iload_n 1, 1) := by decide +kernel
theorem dX7_swap_14 : decode cX7_swap 14 = .ok (.aload_n 0, 1) := by decide +kernel
theorem dX7_swap_15 : decode cX7_swap 15 = .ok (.getfield 9, 3) := by decide +kernel
theorem dX7_swap_18 : decode cX7_swap 18 = .ok (.iload_n 2, 1) := by decide +kernel
theorem dX7_swap_19 : decode cX7_swap 19 = .ok (.invokestatic 90, 3) := by decide +kernel
theorem dX7_swap_22 : decode cX7_swap 22 = .ok (.invokestatic 48, 3) := by decide +kernel
theorem dX7_swap_25 : decode cX7_swap 25 = .ok (.aload_n 0, 1) := by decide +kernel
theorem dX7_swap_26 : decode cX7_swap 26 = .ok (.getfield 9, 3) := by decide +kernel
theorem dX7_swap_29 : decode cX7_swap 29 = .ok (.iload_n 2, 1) := by decide +kernel
theorem dX7_swap_30 : decode cX7_swap 30 = .ok (.iload_n 3, 1) := by decide +kernel
theorem dX7_swap_31 : decode cX7_swap 31 = .ok (.invokestatic 48, 3) := by decide +kernel
theorem dX7_swap_34 : decode cX7_swap 34 = .ok (.return_, 1) := by decide +kernel
set_option maxRecDepth 20000 in
theorem ggX7_comesTrue_X7_lastMinute : GoodIn wsX7_comesTrue wsX7_lastMinute := goodIn_r _ [6, 7, 8, 9, 10, 11, 12, 13, 14, 15, 5, 16, 17, 18, 19, 20, 21, 84, 85, 86, 87, 88, 89, 90, 91, 92] (by decide +kernel) (by decide +kernel)
set_option maxRecDepth 20000 in
theorem gX7_comesTrue_X7_lastMinute : GoodIn wsX7_comesTrue (wsV RX7 98 RX7 yX7_lastMinute wsX7_lastMinute) := goodIn_app (goodIn_of _ (by decide +kernel)) ggX7_comesTrue_X7_lastMinute
set_option maxRecDepth 20000 in
theorem ggX7_comesTrue_X4_runMinute : GoodIn wsX7_comesTrue wsX4_runMinute := goodIn_r _ [26, 27, 28, 29, 30, 31, 32, 33, 25, 34, 35, 36, 10, 11, 12, 37, 19, 20, 21, 38, 39, 40, 41, 42, 43, 44, 45, 46, 47, 48, 49, 50, 51, 52, 53, 54, 55, 56, 57, 58, 59, 60, 61, 62, 63, 64, 65, 66, 67, 68, 69, 70, 71, 72, 73, 74, 93, 94, 95, 96, 97, 98, 99, 100, 101, 102, 103] (by decide +kernel) (by decide +kernel)
set_option maxRecDepth 20000 in
theorem gX7_comesTrue_X4_runMinute : GoodIn wsX7_comesTrue (wsV RX7 102 RX4 yX4_runMinute wsX4_runMinute) := goodIn_app (goodIn_of _ (by decide +kernel)) ggX7_comesTrue_X4_runMinute
set_option maxRecDepth 20000 in
theorem ggX7_comesTrue_X7_agreesBehind : GoodIn wsX7_comesTrue wsX7_agreesBehind := goodIn_r _ [78, 7, 8, 1, 17, 79, 13, 14, 15, 5, 16, 18, 19, 20, 21, 80, 81, 82, 25, 83, 54, 55, 56, 57, 58, 37, 84, 85, 86, 87, 88, 89, 90, 91, 92, 93, 94, 95, 96, 97, 98] (by decide +kernel) (by decide +kernel)
set_option maxRecDepth 20000 in
theorem gX7_comesTrue_X7_agreesBehind : GoodIn wsX7_comesTrue (wsV RX7 106 RX7 yX7_agreesBehind wsX7_agreesBehind) := goodIn_app (goodIn_of _ (by decide +kernel)) ggX7_comesTrue_X7_agreesBehind
theorem dX7_comesTrue_0 : decode cX7_comesTrue 0 = .ok (.aload_n 0, 1) := by decide +kernel
theorem dX7_comesTrue_1 : decode cX7_comesTrue 1 = .ok (.iload_n 2, 1) := by decide +kernel
theorem dX7_comesTrue_2 : decode cX7_comesTrue 2 = .ok (.invokevirtual 98, 3) := by decide +kernel
theorem dX7_comesTrue_5 : decode cX7_comesTrue 5 = .ok (.istore_n 3, 1) := by decide +kernel
theorem dX7_comesTrue_6 : decode cX7_comesTrue 6 = .ok (.iconst 1, 1) := by decide +kernel
theorem dX7_comesTrue_7 : decode cX7_comesTrue 7 = .ok (.istore 4, 2) := by decide +kernel
theorem dX7_comesTrue_9 : decode cX7_comesTrue 9 = .ok (.iload 4, 2) := by decide +kernel
theorem dX7_comesTrue_11 : decode cX7_comesTrue 11 = .ok (.iload_n 3, 1) := by decide +kernel
theorem dX7_comesTrue_12 : decode cX7_comesTrue 12 = .ok (.if_icmp .gt 30, 3) := by decide +kernel
theorem dX7_comesTrue_15 : decode cX7_comesTrue 15 = .ok (.aload_n 0, 1) := by decide +kernel
theorem dX7_comesTrue_16 : decode cX7_comesTrue 16 = .ok (.getfield 34, 3) := by decide +kernel
theorem dX7_comesTrue_19 : decode cX7_comesTrue 19 = .ok (.aload_n 1, 1) := by decide +kernel
theorem dX7_comesTrue_20 : decode cX7_comesTrue 20 = .ok (.iconst 1, 1) := by decide +kernel
theorem dX7_comesTrue_21 : decode cX7_comesTrue 21 = .ok (.invokevirtual 102, 3) := by decide +kernel
theorem dX7_comesTrue_24 : decode cX7_comesTrue 24 = .ok (.aload_n 0, 1) := by decide +kernel
theorem dX7_comesTrue_25 : decode cX7_comesTrue 25 = .ok (.iload 4, 2) := by decide +kernel
theorem dX7_comesTrue_27 : decode cX7_comesTrue 27 = .ok (.iload_n 2, 1) := by decide +kernel
theorem dX7_comesTrue_28 : decode cX7_comesTrue 28 = .ok (.invokevirtual 106, 3) := by decide +kernel
theorem dX7_comesTrue_31 : decode cX7_comesTrue 31 = .ok (.ifCond .ne 5, 3) := by decide +kernel
theorem dX7_comesTrue_34 : decode cX7_comesTrue 34 = .ok (.iconst 0, 1) := by decide +kernel
theorem dX7_comesTrue_35 : decode cX7_comesTrue 35 = .ok (.ireturn, 1) := by decide +kernel
theorem dX7_comesTrue_36 : decode cX7_comesTrue 36 = .ok (.iinc 4 1, 3) := by decide +kernel
theorem dX7_comesTrue_39 : decode cX7_comesTrue 39 = .ok (.goto (-30), 3) := by decide +kernel
theorem dX7_comesTrue_42 : decode cX7_comesTrue 42 = .ok (.iconst 1, 1) := by decide +kernel
theorem dX7_comesTrue_43 : decode cX7_comesTrue 43 = .ok (.ireturn, 1) := by decide +kernel
set_option maxRecDepth 20000 in
theorem ggX7_lastMinute_X7_isOf : GoodIn wsX7_lastMinute wsX7_isOf := goodIn_r _ [11, 12, 13, 14, 15, 16, 17, 18, 19, 20, 21, 22, 23, 24, 25] (by decide +kernel) (by decide +kernel)
set_option maxRecDepth 20000 in
theorem gX7_lastMinute_X7_isOf : GoodIn wsX7_lastMinute (wsV RX7 110 RX7 yX7_isOf wsX7_isOf) := goodIn_app (goodIn_of _ (by decide +kernel)) ggX7_lastMinute_X7_isOf
set_option maxRecDepth 20000 in
theorem ggX7_lastMinute_X3_at : GoodIn wsX7_lastMinute wsX3_at := goodIn_r _ [16] (by decide +kernel) (by decide +kernel)
set_option maxRecDepth 20000 in
theorem gX7_lastMinute_X3_at : GoodIn wsX7_lastMinute (va_wsS RX7 90 yX3_at wsX3_at) := goodIn_app (goodIn_of _ (by decide +kernel)) ggX7_lastMinute_X3_at
theorem dX7_lastMinute_0 : decode cX7_lastMinute 0 = .ok (.iconst 0, 1) := by decide +kernel
theorem dX7_lastMinute_1 : decode cX7_lastMinute 1 = .ok (.istore_n 2, 1) := by decide +kernel
theorem dX7_lastMinute_2 : decode cX7_lastMinute 2 = .ok (.iconst 0, 1) := by decide +kernel
theorem dX7_lastMinute_3 : decode cX7_lastMinute 3 = .ok (.istore_n 3, 1) := by decide +kernel
theorem dX7_lastMinute_4 : decode cX7_lastMinute 4 = .ok (.iload_n 3, 1) := by decide +kernel
theorem dX7_lastMinute_5 : decode cX7_lastMinute 5 = .ok (.aload_n 0, 1) := by decide +kernel
theorem dX7_lastMinute_6 : decode cX7_lastMinute 6 = .ok (.getfield 44, 3) := by decide +kernel
theorem dX7_lastMinute_9 : decode cX7_lastMinute 9 = .ok (.if_icmp .ge 31, 3) := by decide +kernel
theorem dX7_lastMinute_12 : decode cX7_lastMinute 12 = .ok (.aload_n 0, 1) := by decide +kernel
theorem dX7_lastMinute_13 : decode cX7_lastMinute 13 = .ok (.iload_n 3, 1) := by decide +kernel
theorem dX7_lastMinute_14 : decode cX7_lastMinute 14 = .ok (.iload_n 1, 1) := by decide +kernel
theorem dX7_lastMinute_15 : decode cX7_lastMinute 15 = .ok (.invokevirtual 110, 3) := by decide +kernel
theorem dX7_lastMinute_18 : decode cX7_lastMinute 18 = .ok (.ifCond .eq 16, 3) := by decide +kernel
theorem dX7_lastMinute_21 : decode cX7_lastMinute 21 = .ok (.iload_n 2, 1) := by decide +kernel
theorem dX7_lastMinute_22 : decode cX7_lastMinute 22 = .ok (.aload_n 0, 1) := by decide +kernel
theorem dX7_lastMinute_23 : decode cX7_lastMinute 23 = .ok (.getfield 18, 3) := by decide +kernel
theorem dX7_lastMinute_26 : decode cX7_lastMinute 26 = .ok (.iload_n 3, 1) := by decide +kernel
theorem dX7_lastMinute_27 : decode cX7_lastMinute 27 = .ok (.invokestatic 90, 3) := by decide +kernel
theorem dX7_lastMinute_30 : decode cX7_lastMinute 30 = .ok (.invokestatic 113, 3) := by decide +kernel
theorem dX7_lastMinute_33 : decode cX7_lastMinute 33 = .ok (.istore_n 2, 1) := by decide +kernel
theorem dX7_lastMinute_34 : decode cX7_lastMinute 34 = .ok (.iinc 3 1, 3) := by decide +kernel
theorem dX7_lastMinute_37 : decode cX7_lastMinute 37 = .ok (.goto (-33), 3) := by decide +kernel
theorem dX7_lastMinute_40 : decode cX7_lastMinute 40 = .ok (.iload_n 2, 1) := by decide +kernel
theorem dX7_lastMinute_41 : decode cX7_lastMinute 41 = .ok (.ireturn, 1) := by decide +kernel
set_option maxRecDepth 20000 in
theorem ggX7_agreesBehind_X7_isOf : GoodIn wsX7_agreesBehind wsX7_isOf := goodIn_r _ [10, 4, 11, 12, 13, 14, 26, 27, 28, 29, 30, 31, 32, 33, 34] (by decide +kernel) (by decide +kernel)
set_option maxRecDepth 20000 in
theorem gX7_agreesBehind_X7_isOf : GoodIn wsX7_agreesBehind (wsV RX7 110 RX7 yX7_isOf wsX7_isOf) := goodIn_app (goodIn_of _ (by decide +kernel)) ggX7_agreesBehind_X7_isOf
set_option maxRecDepth 20000 in
theorem ggX7_agreesBehind_X3_at : GoodIn wsX7_agreesBehind wsX3_at := goodIn_r _ [14] (by decide +kernel) (by decide +kernel)
set_option maxRecDepth 20000 in
theorem gX7_agreesBehind_X3_at : GoodIn wsX7_agreesBehind (va_wsS RX7 90 yX3_at wsX3_at) := goodIn_app (goodIn_of _ (by decide +kernel)) ggX7_agreesBehind_X3_at
set_option maxRecDepth 20000 in
theorem ggX7_agreesBehind_X4_dueOf : GoodIn wsX7_agreesBehind wsX4_dueOf := goodIn_r _ [19, 20, 21, 22, 18, 23, 24, 25, 12, 13, 14, 35, 36, 37, 38, 39, 40] (by decide +kernel) (by decide +kernel)
set_option maxRecDepth 20000 in
theorem gX7_agreesBehind_X4_dueOf : GoodIn wsX7_agreesBehind (wsV RX7 119 RX4 yX4_dueOf wsX4_dueOf) := goodIn_app (goodIn_of _ (by decide +kernel)) ggX7_agreesBehind_X4_dueOf
theorem dX7_agreesBehind_0 : decode cX7_agreesBehind 0 = .ok (.iconst 0, 1) := by decide +kernel
theorem dX7_agreesBehind_1 : decode cX7_agreesBehind 1 = .ok (.istore_n 3, 1) := by decide +kernel
theorem dX7_agreesBehind_2 : decode cX7_agreesBehind 2 = .ok (.iload_n 3, 1) := by decide +kernel
theorem dX7_agreesBehind_3 : decode cX7_agreesBehind 3 = .ok (.aload_n 0, 1) := by decide +kernel
theorem dX7_agreesBehind_4 : decode cX7_agreesBehind 4 = .ok (.getfield 44, 3) := by decide +kernel
theorem dX7_agreesBehind_7 : decode cX7_agreesBehind 7 = .ok (.if_icmp .ge 58, 3) := by decide +kernel
theorem dX7_agreesBehind_10 : decode cX7_agreesBehind 10 = .ok (.aload_n 0, 1) := by decide +kernel
theorem dX7_agreesBehind_11 : decode cX7_agreesBehind 11 = .ok (.iload_n 3, 1) := by decide +kernel
theorem dX7_agreesBehind_12 : decode cX7_agreesBehind 12 = .ok (.iload_n 2, 1) := by decide +kernel
theorem dX7_agreesBehind_13 : decode cX7_agreesBehind 13 = .ok (.invokevirtual 110, 3) := by decide +kernel
theorem dX7_agreesBehind_16 : decode cX7_agreesBehind 16 = .ok (.ifCond .eq 43, 3) := by decide +kernel
theorem dX7_agreesBehind_19 : decode cX7_agreesBehind 19 = .ok (.aload_n 0, 1) := by decide +kernel
theorem dX7_agreesBehind_20 : decode cX7_agreesBehind 20 = .ok (.getfield 18, 3) := by decide +kernel
theorem dX7_agreesBehind_23 : decode cX7_agreesBehind 23 = .ok (.iload_n 3, 1) := by decide +kernel
theorem dX7_agreesBehind_24 : decode cX7_agreesBehind 24 = .ok (.invokestatic 90, 3) := by decide +kernel
theorem dX7_agreesBehind_27 : decode cX7_agreesBehind 27 = .ok (.iload_n 1, 1) := by decide +kernel
theorem dX7_agreesBehind_28 : decode cX7_agreesBehind 28 = .ok (.if_icmp .ne 31, 3) := by decide +kernel
theorem dX7_agreesBehind_31 : decode cX7_agreesBehind 31 = .ok (.aload_n 0, 1) := by decide +kernel
theorem dX7_agreesBehind_32 : decode cX7_agreesBehind 32 = .ok (.getfield 34, 3) := by decide +kernel
theorem dX7_agreesBehind_35 : decode cX7_agreesBehind 35 = .ok (.aload_n 0, 1) := by decide +kernel
theorem dX7_agreesBehind_36 : decode cX7_agreesBehind 36 = .ok (.getfield 15, 3) := by decide +kernel
theorem dX7_agreesBehind_39 : decode cX7_agreesBehind 39 = .ok (.iload_n 3, 1) := by decide +kernel
theorem dX7_agreesBehind_40 : decode cX7_agreesBehind 40 = .ok (.invokestatic 90, 3) := by decide +kernel
theorem dX7_agreesBehind_43 : decode cX7_agreesBehind 43 = .ok (.invokevirtual 119, 3) := by decide +kernel
theorem dX7_agreesBehind_46 : decode cX7_agreesBehind 46 = .ok (.aload_n 0, 1) := by decide +kernel
theorem dX7_agreesBehind_47 : decode cX7_agreesBehind 47 = .ok (.getfield 21, 3) := by decide +kernel
theorem dX7_agreesBehind_50 : decode cX7_agreesBehind 50 = .ok (.iload_n 3, 1) := by decide +kernel
theorem dX7_agreesBehind_51 : decode cX7_agreesBehind 51 = .ok (.invokestatic 90, 3) := by decide +kernel
theorem dX7_agreesBehind_54 : decode cX7_agreesBehind 54 = .ok (.if_icmp .eq 5, 3) := by decide +kernel
theorem dX7_agreesBehind_57 : decode cX7_agreesBehind 57 = .ok (.iconst 0, 1) := by decide +kernel
theorem dX7_agreesBehind_58 : decode cX7_agreesBehind 58 = .ok (.ireturn, 1) := by decide +kernel
theorem dX7_agreesBehind_59 : decode cX7_agreesBehind 59 = .ok (.iinc 3 1, 3) := by decide +kernel
theorem dX7_agreesBehind_62 : decode cX7_agreesBehind 62 = .ok (.goto (-60), 3) := by decide +kernel
theorem dX7_agreesBehind_65 : decode cX7_agreesBehind 65 = .ok (.iconst 1, 1) := by decide +kernel
theorem dX7_agreesBehind_66 : decode cX7_agreesBehind 66 = .ok (.ireturn, 1) := by decide +kernel
set_option maxRecDepth 20000 in
theorem ggX7_isOf_X3_at : GoodIn wsX7_isOf wsX3_at := goodIn_r _ [5] (by decide +kernel) (by decide +kernel)
set_option maxRecDepth 20000 in
theorem gX7_isOf_X3_at : GoodIn wsX7_isOf (va_wsS RX7 90 yX3_at wsX3_at) := goodIn_app (goodIn_of _ (by decide +kernel)) ggX7_isOf_X3_at
theorem dX7_isOf_0 : decode cX7_isOf 0 = .ok (.iload_n 2, 1) := by decide +kernel
theorem dX7_isOf_1 : decode cX7_isOf 1 = .ok (.iconst (-1), 1) := by decide +kernel
theorem dX7_isOf_2 : decode cX7_isOf 2 = .ok (.if_icmp .eq 15, 3) := by decide +kernel
theorem dX7_isOf_5 : decode cX7_isOf 5 = .ok (.aload_n 0, 1) := by decide +kernel
theorem dX7_isOf_6 : decode cX7_isOf 6 = .ok (.getfield 15, 3) := by decide +kernel
theorem dX7_isOf_9 : decode cX7_isOf 9 = .ok (.iload_n 1, 1) := by decide +kernel
theorem dX7_isOf_10 : decode cX7_isOf 10 = .ok (.invokestatic 90, 3) := by decide +kernel
theorem dX7_isOf_13 : decode cX7_isOf 13 = .ok (.iload_n 2, 1) := by decide +kernel
theorem dX7_isOf_14 : decode cX7_isOf 14 = .ok (.if_icmp .ne 7, 3) := by decide +kernel
theorem dX7_isOf_17 : decode cX7_isOf 17 = .ok (.iconst 1, 1) := by decide +kernel
theorem dX7_isOf_18 : decode cX7_isOf 18 = .ok (.goto 4, 3) := by decide +kernel
theorem dX7_isOf_21 : decode cX7_isOf 21 = .ok (.iconst 0, 1) := by decide +kernel
theorem dX7_isOf_22 : decode cX7_isOf 22 = .ok (.ireturn, 1) := by decide +kernel
set_option maxRecDepth 20000 in
theorem ggX8_init_X1_init : GoodIn wsX8_init wsX1_init := goodIn_r _ [35, 36, 2, 3, 37, 38, 39, 40, 260, 261, 262, 263, 264] (by decide +kernel) (by decide +kernel)
set_option maxRecDepth 20000 in
theorem gX8_init_X1_init_n9 : GoodIn wsX8_init (wsX1_init) := ggX8_init_X1_init
set_option maxRecDepth 20000 in
theorem ggX8_init_X4_init : GoodIn wsX8_init wsX4_init := goodIn_r _ [42, 43, 2, 3, 37, 44, 45, 46, 47, 273, 274, 275, 276, 277, 278] (by decide +kernel) (by decide +kernel)
set_option maxRecDepth 20000 in
theorem gX8_init_X4_init_n18 : GoodIn wsX8_init (wsX4_init) := ggX8_init_X4_init
set_option maxRecDepth 20000 in
theorem ggX8_init_X5_init : GoodIn wsX8_init wsX5_init := goodIn_r _ [49, 50, 2, 3, 51, 5, 6, 52, 53, 9, 10, 54, 37, 55, 56, 34, 35, 36, 38, 39, 40, 41, 42, 43, 44, 45, 46, 47, 260, 261, 262, 263, 264, 279, 280, 281, 282, 283, 284, 273, 274, 275, 276, 277, 278] (by decide +kernel) (by decide +kernel)
set_option maxRecDepth 20000 in
theorem gX8_init_X5_init_n25 : GoodIn wsX8_init (wsX5_init) := ggX8_init_X5_init
set_option maxRecDepth 20000 in
theorem ggX8_init_X6_init : GoodIn wsX8_init wsX6_init := goodIn_r _ [59, 60, 2, 3, 61, 62, 63, 64, 65, 66, 9, 10, 41, 42, 43, 37, 44, 45, 46, 47, 285, 286, 273, 274, 275, 276, 277, 278] (by decide +kernel) (by decide +kernel)
set_option maxRecDepth 20000 in
theorem gX8_init_X6_init : GoodIn wsX8_init (wsX6_init) := ggX8_init_X6_init
set_option maxRecDepth 20000 in
theorem ggX8_init_X2_init : GoodIn wsX8_init wsX2_init := goodIn_r _ [69, 70, 2, 3, 71, 9, 10, 72, 37, 73, 74, 75, 76, 41, 42, 43, 44, 45, 46, 47, 273, 274, 275, 276, 277, 278, 287, 288, 289, 290, 291, 292, 293, 294] (by decide +kernel) (by decide +kernel)
set_option maxRecDepth 20000 in
theorem gX8_init_X2_init : GoodIn wsX8_init (wsX2_init) := ggX8_init_X2_init
set_option maxRecDepth 20000 in
theorem ggX8_init_X7_init : GoodIn wsX8_init wsX7_init := goodIn_r _ [79, 80, 2, 3, 37, 81, 82, 83, 84, 85, 5, 6, 86, 87, 9, 10, 88, 89, 90, 34, 35, 36, 38, 39, 40, 41, 42, 43, 44, 45, 46, 47, 295, 296, 297, 298, 299, 300, 301, 302, 303, 260, 261, 262, 263, 264, 273, 274, 275, 276, 277, 278] (by decide +kernel) (by decide +kernel)
set_option maxRecDepth 20000 in
theorem gX8_init_X7_init : GoodIn wsX8_init (wsX7_init) := ggX8_init_X7_init
set_option maxRecDepth 20000 in
theorem ggX8_init_X0_init : GoodIn wsX8_init wsX0_init := goodIn_r _ [93, 94, 2, 3, 95, 9, 10, 96, 97, 98, 41, 42, 43, 37, 44, 45, 46, 47, 273, 274, 275, 276, 277, 278, 304, 305, 306, 307, 308] (by decide +kernel) (by decide +kernel)
set_option maxRecDepth 20000 in
theorem gX8_init_X0_init : GoodIn wsX8_init (wsX0_init) := ggX8_init_X0_init
set_option maxRecDepth 20000 in
theorem ggX8_init_J0_length_8abf5 : GoodIn wsX8_init wsJ0_length_8abf5 := goodIn_r _ [103, 104, 105, 106, 107, 102, 108, 109, 110] (by decide +kernel) (by decide +kernel)
set_option maxRecDepth 20000 in
theorem gX8_init_J0_length_8abf5 : GoodIn wsX8_init (wsV RX8 67 RJ0 yJ0_length_8abf5 wsJ0_length_8abf5) := goodIn_app (goodIn_of _ (by decide +kernel)) ggX8_init_J0_length_8abf5
set_option maxRecDepth 20000 in
theorem ggX8_init_J0_charAt_5068e : GoodIn wsX8_init wsJ0_charAt_5068e := goodIn_r _ [114, 104, 115, 116, 117, 102, 118, 109, 110, 119, 120, 121, 122, 123, 124, 125, 126, 127, 128, 129, 130, 131, 132, 133, 134, 135, 136, 137, 138, 139, 140, 141, 142, 143, 144, 145, 146, 147] (by decide +kernel) (by decide +kernel)
set_option maxRecDepth 20000 in
theorem gX8_init_J0_charAt_5068e : GoodIn wsX8_init (wsV RX8 73 RJ0 yJ0_charAt_5068e wsJ0_charAt_5068e) := goodIn_app (goodIn_of _ (by decide +kernel)) ggX8_init_J0_charAt_5068e
set_option maxRecDepth 20000 in
theorem ggX8_init_X5_add : GoodIn wsX8_init wsX5_add := goodIn_r _ [151, 55, 152, 153, 154, 155, 156, 279, 280, 281, 282, 283, 284] (by decide +kernel) (by decide +kernel)
set_option maxRecDepth 20000 in
theorem gX8_init_X5_add : GoodIn wsX8_init (wsV RX8 77 RX5 yX5_add wsX5_add) := goodIn_app (goodIn_of _ (by decide +kernel)) ggX8_init_X5_add
set_option maxRecDepth 20000 in
theorem ggX8_init_X5_read : GoodIn wsX8_init wsX5_read := goodIn_r _ [160, 52, 54, 161, 152, 162, 163, 164, 6, 165, 166, 167, 168, 169, 170, 10, 171, 47, 172, 173, 174, 175, 176, 14, 177, 178, 179, 180, 181, 55, 182, 183, 155, 184, 185, 186, 187, 188, 189, 190, 191, 192, 56, 193, 194, 195, 153, 154, 156, 196, 197, 198, 199, 200, 201, 202, 203, 204, 205, 206, 207, 208, 209, 44, 45, 210, 211, 212, 213, 214, 215, 38, 39, 40, 216, 217, 218, 219, 220, 221, 222, 223, 224, 225, 226, 227, 228, 229, 230, 231, 232, 233, 279, 280, 281, 282, 283, 284, 260, 261, 262, 263, 264, 273, 274, 275, 276, 277, 278] (by decide +kernel) (by decide +kernel)
set_option maxRecDepth 20000 in
theorem gX8_init_X5_read : GoodIn wsX8_init (wsV RX8 80 RX5 yX5_read wsX5_read) := goodIn_app (goodIn_of _ (by decide +kernel)) ggX8_init_X5_read
set_option maxRecDepth 20000 in
theorem ggX8_init_X8_takeScript : GoodIn wsX8_init wsX8_takeScript := goodIn_r _ [238, 7, 15, 239, 11, 240, 241, 242, 243, 6, 244, 38, 39, 40, 166, 167, 245, 246, 155, 247, 248, 249, 63, 250, 251, 252, 253, 254, 255, 256, 257, 10, 258, 44, 45, 46, 47, 172, 173, 259, 265, 266, 267, 268, 269, 270, 271, 272, 279, 280, 281, 282, 283, 284, 260, 261, 262, 263, 264, 273, 274, 275, 276, 277, 278] (by decide +kernel) (by decide +kernel)
set_option maxRecDepth 20000 in
theorem gX8_init_X8_takeScript : GoodIn wsX8_init (wsV RX8 83 RX8 yX8_takeScript wsX8_takeScript) := goodIn_app (goodIn_of _ (by decide +kernel)) ggX8_init_X8_takeScript
theorem dX8_init_0 : decode cX8_init 0 = .ok (.aload_n 0, 1) := by decide +kernel
theorem dX8_init_1 : decode cX8_init 1 = .ok (.invokespecial 1, 3) := by decide +kernel
theorem dX8_init_4 : decode cX8_init 4 = .ok (.aload_n 0, 1) := by decide +kernel
theorem dX8_init_5 : decode cX8_init 5 = .ok (.new 7, 3) := by decide +kernel
theorem dX8_init_8 : decode cX8_init 8 = .ok (.dup, 1) := by decide +kernel
theorem dX8_init_9 : decode cX8_init 9 = .ok (.invokespecial 9, 3) := by decide +kernel
theorem dX8_init_12 : decode cX8_init 12 = .ok (.putfield 10, 3) := by decide +kernel
theorem dX8_init_15 : decode cX8_init 15 = .ok (.aload_n 0, 1) := by decide +kernel
theorem dX8_init_16 : decode cX8_init 16 = .ok (.new 16, 3) := by decide +kernel
theorem dX8_init_19 : decode cX8_init 19 = .ok (.dup, 1) := by decide +kernel
theorem dX8_init_20 : decode cX8_init 20 = .ok (.invokespecial 18, 3) := by decide +kernel
theorem dX8_init_23 : decode cX8_init 23 = .ok (.putfield 19, 3) := by decide +kernel
theorem dX8_init_26 : decode cX8_init 26 = .ok (.aload_n 0, 1) := by decide +kernel
theorem dX8_init_27 : decode cX8_init 27 = .ok (.new 23, 3) := by decide +kernel
theorem dX8_init_30 : decode cX8_init 30 = .ok (.dup, 1) := by decide +kernel
theorem dX8_init_31 : decode cX8_init 31 = .ok (.invokespecial 25, 3) := by decide +kernel
theorem dX8_init_34 : decode cX8_init 34 = .ok (.putfield 26, 3) := by decide +kernel
theorem dX8_init_37 : decode cX8_init 37 = .ok (.aload_n 0, 1) := by decide +kernel
theorem dX8_init_38 : decode cX8_init 38 = .ok (.new 30, 3) := by decide +kernel
theorem dX8_init_41 : decode cX8_init 41 = .ok (.dup, 1) := by decide +kernel
theorem dX8_init_42 : decode cX8_init 42 = .ok (.bipush 8, 2) := by decide +kernel
theorem dX8_init_44 : decode cX8_init 44 = .ok (.invokespecial 32, 3) := by decide +kernel
theorem dX8_init_47 : decode cX8_init 47 = .ok (.putfield 35, 3) := by decide +kernel
theorem dX8_init_50 : decode cX8_init 50 = .ok (.aload_n 0, 1) := by decide +kernel
theorem dX8_init_51 : decode cX8_init 51 = .ok (.new 30, 3) := by decide +kernel
theorem dX8_init_54 : decode cX8_init 54 = .ok (.dup, 1) := by decide +kernel
theorem dX8_init_55 : decode cX8_init 55 = .ok (.iconst 2, 1) := by decide +kernel
theorem dX8_init_56 : decode cX8_init 56 = .ok (.invokespecial 32, 3) := by decide +kernel
theorem dX8_init_59 : decode cX8_init 59 = .ok (.putfield 39, 3) := by decide +kernel
theorem dX8_init_62 : decode cX8_init 62 = .ok (.aload_n 0, 1) := by decide +kernel
theorem dX8_init_63 : decode cX8_init 63 = .ok (.new 42, 3) := by decide +kernel
theorem dX8_init_66 : decode cX8_init 66 = .ok (.dup, 1) := by decide +kernel
theorem dX8_init_67 : decode cX8_init 67 = .ok (.aload_n 0, 1) := by decide +kernel
theorem dX8_init_68 : decode cX8_init 68 = .ok (.getfield 10, 3) := by decide +kernel
theorem dX8_init_71 : decode cX8_init 71 = .ok (.aload_n 0, 1) := by decide +kernel
theorem dX8_init_72 : decode cX8_init 72 = .ok (.getfield 19, 3) := by decide +kernel
theorem dX8_init_75 : decode cX8_init 75 = .ok (.invokespecial 44, 3) := by decide +kernel
theorem dX8_init_78 : decode cX8_init 78 = .ok (.putfield 47, 3) := by decide +kernel
theorem dX8_init_81 : decode cX8_init 81 = .ok (.aload_n 0, 1) := by decide +kernel
theorem dX8_init_82 : decode cX8_init 82 = .ok (.new 51, 3) := by decide +kernel
theorem dX8_init_85 : decode cX8_init 85 = .ok (.dup, 1) := by decide +kernel
theorem dX8_init_86 : decode cX8_init 86 = .ok (.aload_n 0, 1) := by decide +kernel
theorem dX8_init_87 : decode cX8_init 87 = .ok (.getfield 10, 3) := by decide +kernel
theorem dX8_init_90 : decode cX8_init 90 = .ok (.aload_n 0, 1) := by decide +kernel
theorem dX8_init_91 : decode cX8_init 91 = .ok (.getfield 19, 3) := by decide +kernel
theorem dX8_init_94 : decode cX8_init 94 = .ok (.invokespecial 53, 3) := by decide +kernel
theorem dX8_init_97 : decode cX8_init 97 = .ok (.putfield 54, 3) := by decide +kernel
theorem dX8_init_100 : decode cX8_init 100 = .ok (.aload_n 0, 1) := by decide +kernel
theorem dX8_init_101 : decode cX8_init 101 = .ok (.new 58, 3) := by decide +kernel
theorem dX8_init_104 : decode cX8_init 104 = .ok (.dup, 1) := by decide +kernel
theorem dX8_init_105 : decode cX8_init 105 = .ok (.aload_n 0, 1) := by decide +kernel
theorem dX8_init_106 : decode cX8_init 106 = .ok (.getfield 10, 3) := by decide +kernel
theorem dX8_init_109 : decode cX8_init 109 = .ok (.aload_n 0, 1) := by decide +kernel
theorem dX8_init_110 : decode cX8_init 110 = .ok (.getfield 19, 3) := by decide +kernel
theorem dX8_init_113 : decode cX8_init 113 = .ok (.invokespecial 60, 3) := by decide +kernel
theorem dX8_init_116 : decode cX8_init 116 = .ok (.putfield 61, 3) := by decide +kernel
theorem dX8_init_119 : decode cX8_init 119 = .ok (.iconst 0, 1) := by decide +kernel
theorem dX8_init_120 : decode cX8_init 120 = .ok (.istore_n 1, 1) := by decide +kernel
theorem dX8_init_121 : decode cX8_init 121 = .ok (.iload_n 1, 1) := by decide +kernel
theorem dX8_init_122 : decode cX8_init 122 = .ok (.ldc 65, 2) := by decide +kernel
theorem dX8_init_124 : decode cX8_init 124 = .ok (.invokevirtual 67, 3) := by decide +kernel
theorem dX8_init_127 : decode cX8_init 127 = .ok (.if_icmp .ge 22, 3) := by decide +kernel
theorem dX8_init_130 : decode cX8_init 130 = .ok (.aload_n 0, 1) := by decide +kernel
theorem dX8_init_131 : decode cX8_init 131 = .ok (.getfield 26, 3) := by decide +kernel
theorem dX8_init_134 : decode cX8_init 134 = .ok (.ldc 65, 2) := by decide +kernel
theorem dX8_init_136 : decode cX8_init 136 = .ok (.iload_n 1, 1) := by decide +kernel
theorem dX8_init_137 : decode cX8_init 137 = .ok (.invokevirtual 73, 3) := by decide +kernel
theorem dX8_init_140 : decode cX8_init 140 = .ok (.invokevirtual 77, 3) := by decide +kernel
theorem dX8_init_143 : decode cX8_init 143 = .ok (.iinc 1 1, 3) := by decide +kernel
theorem dX8_init_146 : decode cX8_init 146 = .ok (.goto (-25), 3) := by decide +kernel
theorem dX8_init_149 : decode cX8_init 149 = .ok (.aload_n 0, 1) := by decide +kernel
theorem dX8_init_150 : decode cX8_init 150 = .ok (.getfield 26, 3) := by decide +kernel
theorem dX8_init_153 : decode cX8_init 153 = .ok (.invokevirtual 80, 3) := by decide +kernel
theorem dX8_init_156 : decode cX8_init 156 = .ok (.pop, 1) := by decide +kernel
theorem dX8_init_157 : decode cX8_init 157 = .ok (.aload_n 0, 1) := by decide +kernel
theorem dX8_init_158 : decode cX8_init 158 = .ok (.invokevirtual 83, 3) := by decide +kernel
theorem dX8_init_161 : decode cX8_init 161 = .ok (.aload_n 0, 1) := by decide +kernel
theorem dX8_init_162 : decode cX8_init 162 = .ok (.getfield 26, 3) := by decide +kernel
theorem dX8_init_165 : decode cX8_init 165 = .ok (.iconst 0, 1) := by decide +kernel
theorem dX8_init_166 : decode cX8_init 166 = .ok (.putfield 86, 3) := by decide +kernel
theorem dX8_init_169 : decode cX8_init 169 = .ok (.return_, 1) := by decide +kernel
set_option maxRecDepth 20000 in
theorem ggX8_write_X5_add : GoodIn wsX8_write wsX5_add := goodIn_r _ [7, 8, 9, 10, 11, 12, 13, 22, 23, 24, 25, 26, 27] (by decide +kernel) (by decide +kernel)
set_option maxRecDepth 20000 in
theorem gX8_write_X5_add : GoodIn wsX8_write (wsV RX8 77 RX5 yX5_add wsX5_add) := goodIn_app (goodIn_of _ (by decide +kernel)) ggX8_write_X5_add
theorem dX8_write_0 : decode cX8_write 0 = .ok (.iload_n 1, 1) := by decide +kernel
theorem dX8_write_1 : decode cX8_write 1 = .ok (.bipush 32, 2) := by decide +kernel
theorem dX8_write_3 : decode cX8_write 3 = .ok (.if_icmp .lt 9, 3) := by decide +kernel
