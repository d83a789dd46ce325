theorem dX9_behind_39 : decode cX9_behind 39 = .ok (.if_icmp .ge 14, 3) := by decide +kernel
theorem dX9_behind_42 : decode cX9_behind 42 = .ok (.aload_n 0, 1) := by decide +kernel
theorem dX9_behind_43 : decode cX9_behind 43 = .ok (.iconst 1, 1) := by decide +kernel
theorem dX9_behind_44 : decode cX9_behind 44 = .ok (.invokevirtual 122, 3) := by decide +kernel
theorem dX9_behind_47 : decode cX9_behind 47 = .ok (.iinc 4 1, 3) := by decide +kernel
theorem dX9_behind_50 : decode cX9_behind 50 = .ok (.goto (-14), 3) := by decide +kernel
theorem dX9_behind_53 : decode cX9_behind 53 = .ok (.iload_n 3, 1) := by decide +kernel
theorem dX9_behind_54 : decode cX9_behind 54 = .ok (.ifCond .ne 11, 3) := by decide +kernel
theorem dX9_behind_57 : decode cX9_behind 57 = .ok (.aload_n 0, 1) := by decide +kernel
theorem dX9_behind_58 : decode cX9_behind 58 = .ok (.iload_n 2, 1) := by decide +kernel
theorem dX9_behind_59 : decode cX9_behind 59 = .ok (.invokevirtual 105, 3) := by decide +kernel
theorem dX9_behind_62 : decode cX9_behind 62 = .ok (.goto 11, 3) := by decide +kernel
theorem dX9_behind_65 : decode cX9_behind 65 = .ok (.aload_n 0, 1) := by decide +kernel
theorem dX9_behind_66 : decode cX9_behind 66 = .ok (.iload_n 2, 1) := by decide +kernel
theorem dX9_behind_67 : decode cX9_behind 67 = .ok (.invokevirtual 108, 3) := by decide +kernel
theorem dX9_behind_70 : decode cX9_behind 70 = .ok (.ldc 111, 2) := by decide +kernel
theorem dX9_behind_72 : decode cX9_behind 72 = .ok (.iadd, 1) := by decide +kernel
theorem dX9_behind_73 : decode cX9_behind 73 = .ok (.istore 4, 2) := by decide +kernel
theorem dX9_behind_75 : decode cX9_behind 75 = .ok (.aload_n 0, 1) := by decide +kernel
theorem dX9_behind_76 : decode cX9_behind 76 = .ok (.invokevirtual 146, 3) := by decide +kernel
theorem dX9_behind_79 : decode cX9_behind 79 = .ok (.iload 4, 2) := by decide +kernel
theorem dX9_behind_81 : decode cX9_behind 81 = .ok (.ireturn, 1) := by decide +kernel
set_option maxRecDepth 20000 in
theorem ggX9_servedIn_X9_passes : GoodIn wsX9_servedIn wsX9_passes := goodIn_r _ [6, 1, 7, 8, 9, 10, 11, 5, 12, 13, 14, 15, 16, 17, 18, 19, 20, 21, 22, 23, 24, 25, 26, 27, 28, 29, 30, 31, 32, 33, 34, 35, 36, 37] (by decide +kernel) (by decide +kernel)
set_option maxRecDepth 20000 in
theorem gX9_servedIn_X9_passes : GoodIn wsX9_servedIn (wsV RX9 122 RX9 yX9_passes wsX9_passes) := goodIn_app (goodIn_of _ (by decide +kernel)) ggX9_servedIn_X9_passes
theorem dX9_servedIn_0 : decode cX9_servedIn 0 = .ok (.iconst 0, 1) := by decide +kernel
theorem dX9_servedIn_1 : decode cX9_servedIn 1 = .ok (.istore_n 2, 1) := by decide +kernel
theorem dX9_servedIn_2 : decode cX9_servedIn 2 = .ok (.iload_n 2, 1) := by decide +kernel
theorem dX9_servedIn_3 : decode cX9_servedIn 3 = .ok (.bipush 60, 2) := by decide +kernel
theorem dX9_servedIn_5 : decode cX9_servedIn 5 = .ok (.if_icmp .gt 26, 3) := by decide +kernel
theorem dX9_servedIn_8 : decode cX9_servedIn 8 = .ok (.aload_n 0, 1) := by decide +kernel
theorem dX9_servedIn_9 : decode cX9_servedIn 9 = .ok (.getfield 22, 3) := by decide +kernel
theorem dX9_servedIn_12 : decode cX9_servedIn 12 = .ok (.bipush 9, 2) := by decide +kernel
theorem dX9_servedIn_14 : decode cX9_servedIn 14 = .ok (.iload_n 1, 1) := by decide +kernel
theorem dX9_servedIn_15 : decode cX9_servedIn 15 = .ok (.iadd, 1) := by decide +kernel
theorem dX9_servedIn_16 : decode cX9_servedIn 16 = .ok (.iaload, 1) := by decide +kernel
theorem dX9_servedIn_17 : decode cX9_servedIn 17 = .ok (.ifCond .ne 14, 3) := by decide +kernel
theorem dX9_servedIn_20 : decode cX9_servedIn 20 = .ok (.aload_n 0, 1) := by decide +kernel
theorem dX9_servedIn_21 : decode cX9_servedIn 21 = .ok (.iconst 1, 1) := by decide +kernel
theorem dX9_servedIn_22 : decode cX9_servedIn 22 = .ok (.invokevirtual 122, 3) := by decide +kernel
theorem dX9_servedIn_25 : decode cX9_servedIn 25 = .ok (.iinc 2 1, 3) := by decide +kernel
theorem dX9_servedIn_28 : decode cX9_servedIn 28 = .ok (.goto (-26), 3) := by decide +kernel
theorem dX9_servedIn_31 : decode cX9_servedIn 31 = .ok (.iload_n 2, 1) := by decide +kernel
theorem dX9_servedIn_32 : decode cX9_servedIn 32 = .ok (.bipush 60, 2) := by decide +kernel
theorem dX9_servedIn_34 : decode cX9_servedIn 34 = .ok (.if_icmp .le 8, 3) := by decide +kernel
theorem dX9_servedIn_37 : decode cX9_servedIn 37 = .ok (.bipush (-4), 2) := by decide +kernel
theorem dX9_servedIn_39 : decode cX9_servedIn 39 = .ok (.goto 4, 3) := by decide +kernel
theorem dX9_servedIn_42 : decode cX9_servedIn 42 = .ok (.iload_n 2, 1) := by decide +kernel
theorem dX9_servedIn_43 : decode cX9_servedIn 43 = .ok (.ireturn, 1) := by decide +kernel
set_option maxRecDepth 20000 in
theorem ggX9_served_X9_isOne : GoodIn wsX9_served wsX9_isOne := goodIn_r _ [5, 6, 7, 8, 4, 9, 41, 42, 43, 44, 45, 46, 47, 48, 49, 50, 51, 52, 53, 54, 55, 56, 57] (by decide +kernel) (by decide +kernel)
set_option maxRecDepth 20000 in
theorem gX9_served_X9_isOne : GoodIn wsX9_served (wsV RX9 102 RX9 yX9_isOne wsX9_isOne) := goodIn_app (goodIn_of _ (by decide +kernel)) ggX9_served_X9_isOne
set_option maxRecDepth 20000 in
theorem ggX9_served_X9_placeOf : GoodIn wsX9_served wsX9_placeOf := goodIn_r _ [13, 14, 41, 42, 43, 44, 45, 46, 47, 48, 49, 50, 51, 52, 53, 54, 55, 56, 57] (by decide +kernel) (by decide +kernel)
set_option maxRecDepth 20000 in
theorem gX9_served_X9_placeOf : GoodIn wsX9_served (wsV RX9 105 RX9 yX9_placeOf wsX9_placeOf) := goodIn_app (goodIn_of _ (by decide +kernel)) ggX9_served_X9_placeOf
set_option maxRecDepth 20000 in
theorem ggX9_served_X9_holds : GoodIn wsX9_served wsX9_holds := goodIn_r _ [18, 19, 14, 41, 42, 43, 44, 45, 46, 47, 48, 49, 50, 51, 52, 53, 54, 55, 56, 57] (by decide +kernel) (by decide +kernel)
set_option maxRecDepth 20000 in
theorem gX9_served_X9_holds : GoodIn wsX9_served (wsV RX9 143 RX9 yX9_holds wsX9_holds) := goodIn_app (goodIn_of _ (by decide +kernel)) ggX9_served_X9_holds
set_option maxRecDepth 20000 in
theorem ggX9_served_X9_servedIn : GoodIn wsX9_served wsX9_servedIn := goodIn_r _ [23, 14, 24, 25, 26, 4, 27, 28, 6, 10, 11, 12, 13, 29, 30, 31, 32, 33, 34, 35, 36, 41, 42, 43, 44, 45, 46, 47, 48, 49, 50, 51, 52, 53, 54, 55, 56, 57] (by decide +kernel) (by decide +kernel)
set_option maxRecDepth 20000 in
theorem gX9_served_X9_servedIn : GoodIn wsX9_served (wsV RX9 149 RX9 yX9_servedIn wsX9_servedIn) := goodIn_app (goodIn_of _ (by decide +kernel)) ggX9_served_X9_servedIn
set_option maxRecDepth 20000 in
theorem ggX9_served_X9_backs : GoodIn wsX9_served wsX9_backs := goodIn_r _ [40, 14, 19, 41, 42, 43, 44, 45, 46, 47, 48, 49, 50, 51, 52, 53, 54, 55, 56, 57] (by decide +kernel) (by decide +kernel)
set_option maxRecDepth 20000 in
theorem gX9_served_X9_backs : GoodIn wsX9_served (wsV RX9 146 RX9 yX9_backs wsX9_backs) := goodIn_app (goodIn_of _ (by decide +kernel)) ggX9_served_X9_backs
theorem dX9_served_0 : decode cX9_served 0 = .ok (.aload_n 0, 1) := by decide +kernel
theorem dX9_served_1 : decode cX9_served 1 = .ok (.iload_n 1, 1) := by decide +kernel
theorem dX9_served_2 : decode cX9_served 2 = .ok (.invokevirtual 102, 3) := by decide +kernel
theorem dX9_served_5 : decode cX9_served 5 = .ok (.ifCond .ne 5, 3) := by decide +kernel
theorem dX9_served_8 : decode cX9_served 8 = .ok (.iconst (-1), 1) := by decide +kernel
theorem dX9_served_9 : decode cX9_served 9 = .ok (.ireturn, 1) := by decide +kernel
theorem dX9_served_10 : decode cX9_served 10 = .ok (.aload_n 0, 1) := by decide +kernel
theorem dX9_served_11 : decode cX9_served 11 = .ok (.iload_n 1, 1) := by decide +kernel
theorem dX9_served_12 : decode cX9_served 12 = .ok (.invokevirtual 105, 3) := by decide +kernel
theorem dX9_served_15 : decode cX9_served 15 = .ok (.bipush (-4), 2) := by decide +kernel
theorem dX9_served_17 : decode cX9_served 17 = .ok (.if_icmp .ne 6, 3) := by decide +kernel
theorem dX9_served_20 : decode cX9_served 20 = .ok (.bipush (-2), 2) := by decide +kernel
theorem dX9_served_22 : decode cX9_served 22 = .ok (.ireturn, 1) := by decide +kernel
theorem dX9_served_23 : decode cX9_served 23 = .ok (.aload_n 0, 1) := by decide +kernel
theorem dX9_served_24 : decode cX9_served 24 = .ok (.invokevirtual 143, 3) := by decide +kernel
theorem dX9_served_27 : decode cX9_served 27 = .ok (.aload_n 0, 1) := by decide +kernel
theorem dX9_served_28 : decode cX9_served 28 = .ok (.iload_n 1, 1) := by decide +kernel
theorem dX9_served_29 : decode cX9_served 29 = .ok (.invokevirtual 149, 3) := by decide +kernel
theorem dX9_served_32 : decode cX9_served 32 = .ok (.istore_n 2, 1) := by decide +kernel
theorem dX9_served_33 : decode cX9_served 33 = .ok (.aload_n 0, 1) := by decide +kernel
theorem dX9_served_34 : decode cX9_served 34 = .ok (.invokevirtual 146, 3) := by decide +kernel
theorem dX9_served_37 : decode cX9_served 37 = .ok (.iload_n 2, 1) := by decide +kernel
theorem dX9_served_38 : decode cX9_served 38 = .ok (.ireturn, 1) := by decide +kernel
set_option maxRecDepth 20000 in
theorem ggX9_stand_X9_isOne : GoodIn wsX9_stand wsX9_isOne := goodIn_r _ [7, 8, 9, 10, 6, 11, 46, 47, 48, 49, 50, 51, 52, 53, 54, 55, 56, 57, 58, 59, 60, 61, 62] (by decide +kernel) (by decide +kernel)
set_option maxRecDepth 20000 in
theorem gX9_stand_X9_isOne : GoodIn wsX9_stand (wsV RX9 102 RX9 yX9_isOne wsX9_isOne) := goodIn_app (goodIn_of _ (by decide +kernel)) ggX9_stand_X9_isOne
set_option maxRecDepth 20000 in
theorem ggX9_stand_X9_in : GoodIn wsX9_stand wsX9_in := goodIn_r _ [11] (by decide +kernel) (by decide +kernel)
set_option maxRecDepth 20000 in
theorem gX9_stand_X9_in : GoodIn wsX9_stand (va_wsS RX9 56 yX9_in wsX9_in) := goodIn_app (goodIn_of _ (by decide +kernel)) ggX9_stand_X9_in
set_option maxRecDepth 20000 in
theorem ggX9_stand_X9_placeOf : GoodIn wsX9_stand wsX9_placeOf := goodIn_r _ [15, 1, 46, 47, 48, 49, 50, 51, 52, 53, 54, 55, 56, 57, 58, 59, 60, 61, 62] (by decide +kernel) (by decide +kernel)
set_option maxRecDepth 20000 in
theorem gX9_stand_X9_placeOf : GoodIn wsX9_stand (wsV RX9 105 RX9 yX9_placeOf wsX9_placeOf) := goodIn_app (goodIn_of _ (by decide +kernel)) ggX9_stand_X9_placeOf
set_option maxRecDepth 20000 in
theorem ggX9_stand_X9_holds : GoodIn wsX9_stand wsX9_holds := goodIn_r _ [19, 20, 1, 46, 47, 48, 49, 50, 51, 52, 53, 54, 55, 56, 57, 58, 59, 60, 61, 62] (by decide +kernel) (by decide +kernel)
set_option maxRecDepth 20000 in
theorem gX9_stand_X9_holds : GoodIn wsX9_stand (wsV RX9 143 RX9 yX9_holds wsX9_holds) := goodIn_app (goodIn_of _ (by decide +kernel)) ggX9_stand_X9_holds
set_option maxRecDepth 20000 in
theorem ggX9_stand_X9_goes : GoodIn wsX9_stand wsX9_goes := goodIn_r _ [24, 1, 46, 47, 48, 49, 50, 51, 52, 53, 54, 55, 56, 57, 58, 59, 60, 61, 62] (by decide +kernel) (by decide +kernel)
set_option maxRecDepth 20000 in
theorem gX9_stand_X9_goes : GoodIn wsX9_stand (wsV RX9 115 RX9 yX9_goes wsX9_goes) := goodIn_app (goodIn_of _ (by decide +kernel)) ggX9_stand_X9_goes
set_option maxRecDepth 20000 in
theorem ggX9_stand_X9_comes : GoodIn wsX9_stand wsX9_comes := goodIn_r _ [28, 1, 46, 47, 48, 49, 50, 51, 52, 53, 54, 55, 56, 57, 58, 59, 60, 61, 62] (by decide +kernel) (by decide +kernel)
set_option maxRecDepth 20000 in
theorem gX9_stand_X9_comes : GoodIn wsX9_stand (wsV RX9 126 RX9 yX9_comes wsX9_comes) := goodIn_app (goodIn_of _ (by decide +kernel)) ggX9_stand_X9_comes
set_option maxRecDepth 20000 in
theorem ggX9_stand_X9_passes : GoodIn wsX9_stand wsX9_passes := goodIn_r _ [32, 1, 33, 8, 12, 13, 14, 6, 15, 34, 35, 36, 37, 21, 22, 23, 24, 46, 47, 48, 49, 50, 51, 52, 53, 54, 55, 56, 57, 58, 59, 60, 61, 62] (by decide +kernel) (by decide +kernel)
set_option maxRecDepth 20000 in
theorem gX9_stand_X9_passes : GoodIn wsX9_stand (wsV RX9 122 RX9 yX9_passes wsX9_passes) := goodIn_app (goodIn_of _ (by decide +kernel)) ggX9_stand_X9_passes
set_option maxRecDepth 20000 in
theorem ggX9_stand_X9_due : GoodIn wsX9_stand wsX9_due := goodIn_r _ [41, 1, 46, 47, 48, 49, 50, 51, 52, 53, 54, 55, 56, 57, 58, 59, 60, 61, 62] (by decide +kernel) (by decide +kernel)
set_option maxRecDepth 20000 in
theorem gX9_stand_X9_due : GoodIn wsX9_stand (wsV RX9 108 RX9 yX9_due wsX9_due) := goodIn_app (goodIn_of _ (by decide +kernel)) ggX9_stand_X9_due
set_option maxRecDepth 20000 in
theorem ggX9_stand_X9_backs : GoodIn wsX9_stand wsX9_backs := goodIn_r _ [45, 1, 20, 46, 47, 48, 49, 50, 51, 52, 53, 54, 55, 56, 57, 58, 59, 60, 61, 62] (by decide +kernel) (by decide +kernel)
set_option maxRecDepth 20000 in
theorem gX9_stand_X9_backs : GoodIn wsX9_stand (wsV RX9 146 RX9 yX9_backs wsX9_backs) := goodIn_app (goodIn_of _ (by decide +kernel)) ggX9_stand_X9_backs
theorem dX9_stand_0 : decode cX9_stand 0 = .ok (.aload_n 0, 1) := by decide +kernel
theorem dX9_stand_1 : decode cX9_stand 1 = .ok (.iload_n 1, 1) := by decide +kernel
theorem dX9_stand_2 : decode cX9_stand 2 = .ok (.invokevirtual 102, 3) := by decide +kernel
theorem dX9_stand_5 : decode cX9_stand 5 = .ok (.ifCond .eq 22, 3) := by decide +kernel
theorem dX9_stand_8 : decode cX9_stand 8 = .ok (.iload_n 2, 1) := by decide +kernel
theorem dX9_stand_9 : decode cX9_stand 9 = .ok (.iconst 1, 1) := by decide +kernel
theorem dX9_stand_10 : decode cX9_stand 10 = .ok (.bipush 40, 2) := by decide +kernel
theorem dX9_stand_12 : decode cX9_stand 12 = .ok (.invokestatic 56, 3) := by decide +kernel
theorem dX9_stand_15 : decode cX9_stand 15 = .ok (.ifCond .eq 12, 3) := by decide +kernel
theorem dX9_stand_18 : decode cX9_stand 18 = .ok (.iload_n 3, 1) := by decide +kernel
theorem dX9_stand_19 : decode cX9_stand 19 = .ok (.iconst 0, 1) := by decide +kernel
theorem dX9_stand_20 : decode cX9_stand 20 = .ok (.iconst 1, 1) := by decide +kernel
theorem dX9_stand_21 : decode cX9_stand 21 = .ok (.invokestatic 56, 3) := by decide +kernel
theorem dX9_stand_24 : decode cX9_stand 24 = .ok (.ifCond .ne 5, 3) := by decide +kernel
theorem dX9_stand_27 : decode cX9_stand 27 = .ok (.iconst (-1), 1) := by decide +kernel
theorem dX9_stand_28 : decode cX9_stand 28 = .ok (.ireturn, 1) := by decide +kernel
theorem dX9_stand_29 : decode cX9_stand 29 = .ok (.aload_n 0, 1) := by decide +kernel
theorem dX9_stand_30 : decode cX9_stand 30 = .ok (.iload_n 1, 1) := by decide +kernel
theorem dX9_stand_31 : decode cX9_stand 31 = .ok (.invokevirtual 105, 3) := by decide +kernel
theorem dX9_stand_34 : decode cX9_stand 34 = .ok (.bipush (-4), 2) := by decide +kernel
theorem dX9_stand_36 : decode cX9_stand 36 = .ok (.if_icmp .ne 6, 3) := by decide +kernel
theorem dX9_stand_39 : decode cX9_stand 39 = .ok (.bipush (-2), 2) := by decide +kernel
theorem dX9_stand_41 : decode cX9_stand 41 = .ok (.ireturn, 1) := by decide +kernel
theorem dX9_stand_42 : decode cX9_stand 42 = .ok (.aload_n 0, 1) := by decide +kernel
theorem dX9_stand_43 : decode cX9_stand 43 = .ok (.invokevirtual 143, 3) := by decide +kernel
theorem dX9_stand_46 : decode cX9_stand 46 = .ok (.bipush (-4), 2) := by decide +kernel
theorem dX9_stand_48 : decode cX9_stand 48 = .ok (.istore 4, 2) := by decide +kernel
theorem dX9_stand_50 : decode cX9_stand 50 = .ok (.bipush (-4), 2) := by decide +kernel
theorem dX9_stand_52 : decode cX9_stand 52 = .ok (.istore 5, 2) := by decide +kernel
theorem dX9_stand_54 : decode cX9_stand 54 = .ok (.aload_n 0, 1) := by decide +kernel
theorem dX9_stand_55 : decode cX9_stand 55 = .ok (.getfield 22, 3) := by decide +kernel
theorem dX9_stand_58 : decode cX9_stand 58 = .ok (.iconst 1, 1) := by decide +kernel
theorem dX9_stand_59 : decode cX9_stand 59 = .ok (.iaload, 1) := by decide +kernel
theorem dX9_stand_60 : decode cX9_stand 60 = .ok (.istore 6, 2) := by decide +kernel
theorem dX9_stand_62 : decode cX9_stand 62 = .ok (.iconst 0, 1) := by decide +kernel
theorem dX9_stand_63 : decode cX9_stand 63 = .ok (.istore 7, 2) := by decide +kernel
theorem dX9_stand_65 : decode cX9_stand 65 = .ok (.iload 7, 2) := by decide +kernel
theorem dX9_stand_67 : decode cX9_stand 67 = .ok (.iload 6, 2) := by decide +kernel
theorem dX9_stand_69 : decode cX9_stand 69 = .ok (.if_icmp .ge 130, 3) := by decide +kernel
theorem dX9_stand_72 : decode cX9_stand 72 = .ok (.aload_n 0, 1) := by decide +kernel
theorem dX9_stand_73 : decode cX9_stand 73 = .ok (.aload_n 0, 1) := by decide +kernel
theorem dX9_stand_74 : decode cX9_stand 74 = .ok (.iload_n 1, 1) := by decide +kernel
theorem dX9_stand_75 : decode cX9_stand 75 = .ok (.invokevirtual 105, 3) := by decide +kernel
theorem dX9_stand_78 : decode cX9_stand 78 = .ok (.iconst 0, 1) := by decide +kernel
theorem dX9_stand_79 : decode cX9_stand 79 = .ok (.invokevirtual 115, 3) := by decide +kernel
theorem dX9_stand_82 : decode cX9_stand 82 = .ok (.aload_n 0, 1) := by decide +kernel
theorem dX9_stand_83 : decode cX9_stand 83 = .ok (.iload_n 1, 1) := by decide +kernel
theorem dX9_stand_84 : decode cX9_stand 84 = .ok (.iload 7, 2) := by decide +kernel
theorem dX9_stand_86 : decode cX9_stand 86 = .ok (.invokevirtual 126, 3) := by decide +kernel
theorem dX9_stand_89 : decode cX9_stand 89 = .ok (.iconst 0, 1) := by decide +kernel
theorem dX9_stand_90 : decode cX9_stand 90 = .ok (.istore 8, 2) := by decide +kernel
theorem dX9_stand_92 : decode cX9_stand 92 = .ok (.iconst 0, 1) := by decide +kernel
theorem dX9_stand_93 : decode cX9_stand 93 = .ok (.istore 9, 2) := by decide +kernel
theorem dX9_stand_95 : decode cX9_stand 95 = .ok (.iload 9, 2) := by decide +kernel
theorem dX9_stand_97 : decode cX9_stand 97 = .ok (.iload_n 2, 1) := by decide +kernel
theorem dX9_stand_98 : decode cX9_stand 98 = .ok (.if_icmp .ge 39, 3) := by decide +kernel
theorem dX9_stand_101 : decode cX9_stand 101 = .ok (.aload_n 0, 1) := by decide +kernel
theorem dX9_stand_102 : decode cX9_stand 102 = .ok (.iconst 1, 1) := by decide +kernel
theorem dX9_stand_103 : decode cX9_stand 103 = .ok (.invokevirtual 122, 3) := by decide +kernel
theorem dX9_stand_106 : decode cX9_stand 106 = .ok (.iload 8, 2) := by decide +kernel
theorem dX9_stand_108 : decode cX9_stand 108 = .ok (.ifCond .ne 16, 3) := by decide +kernel
theorem dX9_stand_111 : decode cX9_stand 111 = .ok (.aload_n 0, 1) := by decide +kernel
theorem dX9_stand_112 : decode cX9_stand 112 = .ok (.getfield 22, 3) := by decide +kernel
theorem dX9_stand_115 : decode cX9_stand 115 = .ok (.bipush 9, 2) := by decide +kernel
theorem dX9_stand_117 : decode cX9_stand 117 = .ok (.iload_n 1, 1) := by decide +kernel
theorem dX9_stand_118 : decode cX9_stand 118 = .ok (.iadd, 1) := by decide +kernel
theorem dX9_stand_119 : decode cX9_stand 119 = .ok (.iaload, 1) := by decide +kernel
theorem dX9_stand_120 : decode cX9_stand 120 = .ok (.iconst 1, 1) := by decide +kernel
theorem dX9_stand_121 : decode cX9_stand 121 = .ok (.if_icmp .ne 7, 3) := by decide +kernel
theorem dX9_stand_124 : decode cX9_stand 124 = .ok (.iconst 1, 1) := by decide +kernel
theorem dX9_stand_125 : decode cX9_stand 125 = .ok (.goto 4, 3) := by decide +kernel
theorem dX9_stand_128 : decode cX9_stand 128 = .ok (.iconst 0, 1) := by decide +kernel
theorem dX9_stand_129 : decode cX9_stand 129 = .ok (.istore 8, 2) := by decide +kernel
theorem dX9_stand_131 : decode cX9_stand 131 = .ok (.iinc 9 1, 3) := by decide +kernel
theorem dX9_stand_134 : decode cX9_stand 134 = .ok (.goto (-39), 3) := by decide +kernel
theorem dX9_stand_137 : decode cX9_stand 137 = .ok (.aload_n 0, 1) := by decide +kernel
theorem dX9_stand_138 : decode cX9_stand 138 = .ok (.iload_n 1, 1) := by decide +kernel
theorem dX9_stand_139 : decode cX9_stand 139 = .ok (.invokevirtual 108, 3) := by decide +kernel
theorem dX9_stand_142 : decode cX9_stand 142 = .ok (.ldc 111, 2) := by decide +kernel
theorem dX9_stand_144 : decode cX9_stand 144 = .ok (.iadd, 1) := by decide +kernel
theorem dX9_stand_145 : decode cX9_stand 145 = .ok (.istore 9, 2) := by decide +kernel
theorem dX9_stand_147 : decode cX9_stand 147 = .ok (.iload 8, 2) := by decide +kernel
theorem dX9_stand_149 : decode cX9_stand 149 = .ok (.ifCond .eq 15, 3) := by decide +kernel
theorem dX9_stand_152 : decode cX9_stand 152 = .ok (.iload 9, 2) := by decide +kernel
theorem dX9_stand_154 : decode cX9_stand 154 = .ok (.iload 4, 2) := by decide +kernel
theorem dX9_stand_156 : decode cX9_stand 156 = .ok (.if_icmp .le 8, 3) := by decide +kernel
theorem dX9_stand_159 : decode cX9_stand 159 = .ok (.iload 7, 2) := by decide +kernel
theorem dX9_stand_161 : decode cX9_stand 161 = .ok (.goto 5, 3) := by decide +kernel
theorem dX9_stand_164 : decode cX9_stand 164 = .ok (.iload 5, 2) := by decide +kernel
theorem dX9_stand_166 : decode cX9_stand 166 = .ok (.istore 5, 2) := by decide +kernel
theorem dX9_stand_168 : decode cX9_stand 168 = .ok (.iload 8, 2) := by decide +kernel
theorem dX9_stand_170 : decode cX9_stand 170 = .ok (.ifCond .eq 15, 3) := by decide +kernel
theorem dX9_stand_173 : decode cX9_stand 173 = .ok (.iload 9, 2) := by decide +kernel
theorem dX9_stand_175 : decode cX9_stand 175 = .ok (.iload 4, 2) := by decide +kernel
theorem dX9_stand_177 : decode cX9_stand 177 = .ok (.if_icmp .le 8, 3) := by decide +kernel
theorem dX9_stand_180 : decode cX9_stand 180 = .ok (.iload 9, 2) := by decide +kernel
theorem dX9_stand_182 : decode cX9_stand 182 = .ok (.goto 5, 3) := by decide +kernel
theorem dX9_stand_185 : decode cX9_stand 185 = .ok (.iload 4, 2) := by decide +kernel
theorem dX9_stand_187 : decode cX9_stand 187 = .ok (.istore 4, 2) := by decide +kernel
theorem dX9_stand_189 : decode cX9_stand 189 = .ok (.aload_n 0, 1) := by decide +kernel
theorem dX9_stand_190 : decode cX9_stand 190 = .ok (.invokevirtual 146, 3) := by decide +kernel
theorem dX9_stand_193 : decode cX9_stand 193 = .ok (.iinc 7 1, 3) := by decide +kernel
theorem dX9_stand_196 : decode cX9_stand 196 = .ok (.goto (-131), 3) := by decide +kernel
theorem dX9_stand_199 : decode cX9_stand 199 = .ok (.iload_n 3, 1) := by decide +kernel
theorem dX9_stand_200 : decode cX9_stand 200 = .ok (.ifCond .ne 8, 3) := by decide +kernel
theorem dX9_stand_203 : decode cX9_stand 203 = .ok (.iload 5, 2) := by decide +kernel
theorem dX9_stand_205 : decode cX9_stand 205 = .ok (.goto 5, 3) := by decide +kernel
theorem dX9_stand_208 : decode cX9_stand 208 = .ok (.iload 4, 2) := by decide +kernel
theorem dX9_stand_210 : decode cX9_stand 210 = .ok (.ireturn, 1) := by decide +kernel
set_option maxRecDepth 20000 in
theorem ggX9_haste_X9_isOne : GoodIn wsX9_haste wsX9_isOne := goodIn_r _ [6, 1, 7, 8, 5, 9, 53, 54, 55, 56, 57, 58, 59, 60, 61, 62, 63, 64, 65, 66, 67, 68, 69] (by decide +kernel) (by decide +kernel)
set_option maxRecDepth 20000 in
theorem gX9_haste_X9_isOne : GoodIn wsX9_haste (wsV RX9 102 RX9 yX9_isOne wsX9_isOne) := goodIn_app (goodIn_of _ (by decide +kernel)) ggX9_haste_X9_isOne
set_option maxRecDepth 20000 in
theorem ggX9_haste_X9_in : GoodIn wsX9_haste wsX9_in := goodIn_r _ [9] (by decide +kernel) (by decide +kernel)
set_option maxRecDepth 20000 in
theorem gX9_haste_X9_in : GoodIn wsX9_haste (va_wsS RX9 56 yX9_in wsX9_in) := goodIn_app (goodIn_of _ (by decide +kernel)) ggX9_haste_X9_in
set_option maxRecDepth 20000 in
theorem ggX9_haste_X9_placeOf : GoodIn wsX9_haste wsX9_placeOf := goodIn_r _ [13, 14, 53, 54, 55, 56, 57, 58, 59, 60, 61, 62, 63, 64, 65, 66, 67, 68, 69] (by decide +kernel) (by decide +kernel)
set_option maxRecDepth 20000 in
theorem gX9_haste_X9_placeOf : GoodIn wsX9_haste (wsV RX9 105 RX9 yX9_placeOf wsX9_placeOf) := goodIn_app (goodIn_of _ (by decide +kernel)) ggX9_haste_X9_placeOf
set_option maxRecDepth 20000 in
theorem ggX9_haste_X9_holds : GoodIn wsX9_haste wsX9_holds := goodIn_r _ [18, 19, 14, 53, 54, 55, 56, 57, 58, 59, 60, 61, 62, 63, 64, 65, 66, 67, 68, 69] (by decide +kernel) (by decide +kernel)
set_option maxRecDepth 20000 in
theorem gX9_haste_X9_holds : GoodIn wsX9_haste (wsV RX9 143 RX9 yX9_holds wsX9_holds) := goodIn_app (goodIn_of _ (by decide +kernel)) ggX9_haste_X9_holds
set_option maxRecDepth 20000 in
theorem ggX9_haste_X9_servedIn : GoodIn wsX9_haste wsX9_servedIn := goodIn_r _ [23, 14, 24, 25, 26, 5, 27, 28, 1, 10, 11, 12, 13, 29, 30, 31, 32, 33, 34, 35, 36, 53, 54, 55, 56, 57, 58, 59, 60, 61, 62, 63, 64, 65, 66, 67, 68, 69] (by decide +kernel) (by decide +kernel)
set_option maxRecDepth 20000 in
theorem gX9_haste_X9_servedIn : GoodIn wsX9_haste (wsV RX9 149 RX9 yX9_servedIn wsX9_servedIn) := goodIn_app (goodIn_of _ (by decide +kernel)) ggX9_haste_X9_servedIn
set_option maxRecDepth 20000 in
theorem ggX9_haste_X9_backs : GoodIn wsX9_haste wsX9_backs := goodIn_r _ [40, 14, 19, 53, 54, 55, 56, 57, 58, 59, 60, 61, 62, 63, 64, 65, 66, 67, 68, 69] (by decide +kernel) (by decide +kernel)
set_option maxRecDepth 20000 in
theorem gX9_haste_X9_backs : GoodIn wsX9_haste (wsV RX9 146 RX9 yX9_backs wsX9_backs) := goodIn_app (goodIn_of _ (by decide +kernel)) ggX9_haste_X9_backs
set_option maxRecDepth 20000 in
theorem ggX9_haste_X9_mayLet : GoodIn wsX9_haste wsX9_mayLet := goodIn_r _ [44, 10, 11, 12, 5, 13, 14, 53, 54, 55, 56, 57, 58, 59, 60, 61, 62, 63, 64, 65, 66, 67, 68, 69] (by decide +kernel) (by decide +kernel)
set_option maxRecDepth 20000 in
theorem gX9_haste_X9_mayLet : GoodIn wsX9_haste (wsV RX9 129 RX9 yX9_mayLet wsX9_mayLet) := goodIn_app (goodIn_of _ (by decide +kernel)) ggX9_haste_X9_mayLet
set_option maxRecDepth 20000 in
theorem ggX9_haste_X9_lets : GoodIn wsX9_haste wsX9_lets := goodIn_r _ [48, 10, 11, 12, 5, 13, 14, 33, 34, 35, 36, 49, 50, 51, 52, 53, 54, 55, 56, 57, 58, 59, 60, 61, 62, 63, 64, 65, 66, 67, 68, 69] (by decide +kernel) (by decide +kernel)
set_option maxRecDepth 20000 in
theorem gX9_haste_X9_lets : GoodIn wsX9_haste (wsV RX9 133 RX9 yX9_lets wsX9_lets) := goodIn_app (goodIn_of _ (by decide +kernel)) ggX9_haste_X9_lets
theorem dX9_haste_0 : decode cX9_haste 0 = .ok (.aload_n 0, 1) := by decide +kernel
theorem dX9_haste_1 : decode cX9_haste 1 = .ok (.iload_n 1, 1) := by decide +kernel
theorem dX9_haste_2 : decode cX9_haste 2 = .ok (.invokevirtual 102, 3) := by decide +kernel
theorem dX9_haste_5 : decode cX9_haste 5 = .ok (.ifCond .eq 12, 3) := by decide +kernel
theorem dX9_haste_8 : decode cX9_haste 8 = .ok (.iload_n 2, 1) := by decide +kernel
theorem dX9_haste_9 : decode cX9_haste 9 = .ok (.iconst 0, 1) := by decide +kernel
theorem dX9_haste_10 : decode cX9_haste 10 = .ok (.iconst 1, 1) := by decide +kernel
theorem dX9_haste_11 : decode cX9_haste 11 = .ok (.invokestatic 56, 3) := by decide +kernel
theorem dX9_haste_14 : decode cX9_haste 14 = .ok (.ifCond .ne 5, 3) := by decide +kernel
theorem dX9_haste_17 : decode cX9_haste 17 = .ok (.iconst (-1), 1) := by decide +kernel
theorem dX9_haste_18 : decode cX9_haste 18 = .ok (.ireturn, 1) := by decide +kernel
theorem dX9_haste_19 : decode cX9_haste 19 = .ok (.aload_n 0, 1) := by decide +kernel
theorem dX9_haste_20 : decode cX9_haste 20 = .ok (.iload_n 1, 1) := by decide +kernel
theorem dX9_haste_21 : decode cX9_haste 21 = .ok (.invokevirtual 105, 3) := by decide +kernel
theorem dX9_haste_24 : decode cX9_haste 24 = .ok (.bipush (-4), 2) := by decide +kernel
theorem dX9_haste_26 : decode cX9_haste 26 = .ok (.if_icmp .ne 6, 3) := by decide +kernel
theorem dX9_haste_29 : decode cX9_haste 29 = .ok (.bipush (-2), 2) := by decide +kernel
theorem dX9_haste_31 : decode cX9_haste 31 = .ok (.ireturn, 1) := by decide +kernel
theorem dX9_haste_32 : decode cX9_haste 32 = .ok (.aload_n 0, 1) := by decide +kernel
theorem dX9_haste_33 : decode cX9_haste 33 = .ok (.invokevirtual 143, 3) := by decide +kernel
theorem dX9_haste_36 : decode cX9_haste 36 = .ok (.aload_n 0, 1) := by decide +kernel
theorem dX9_haste_37 : decode cX9_haste 37 = .ok (.iload_n 1, 1) := by decide +kernel
theorem dX9_haste_38 : decode cX9_haste 38 = .ok (.invokevirtual 149, 3) := by decide +kernel
theorem dX9_haste_41 : decode cX9_haste 41 = .ok (.istore_n 3, 1) := by decide +kernel
theorem dX9_haste_42 : decode cX9_haste 42 = .ok (.aload_n 0, 1) := by decide +kernel
theorem dX9_haste_43 : decode cX9_haste 43 = .ok (.invokevirtual 146, 3) := by decide +kernel
theorem dX9_haste_46 : decode cX9_haste 46 = .ok (.iload_n 3, 1) := by decide +kernel
theorem dX9_haste_47 : decode cX9_haste 47 = .ok (.bipush (-4), 2) := by decide +kernel
theorem dX9_haste_49 : decode cX9_haste 49 = .ok (.if_icmp .ne 8, 3) := by decide +kernel
theorem dX9_haste_52 : decode cX9_haste 52 = .ok (.bipush 61, 2) := by decide +kernel
theorem dX9_haste_54 : decode cX9_haste 54 = .ok (.goto 4, 3) := by decide +kernel
theorem dX9_haste_57 : decode cX9_haste 57 = .ok (.iload_n 3, 1) := by decide +kernel
theorem dX9_haste_58 : decode cX9_haste 58 = .ok (.istore 4, 2) := by decide +kernel
theorem dX9_haste_60 : decode cX9_haste 60 = .ok (.bipush 99, 2) := by decide +kernel
theorem dX9_haste_62 : decode cX9_haste 62 = .ok (.istore 5, 2) := by decide +kernel
theorem dX9_haste_64 : decode cX9_haste 64 = .ok (.iconst 0, 1) := by decide +kernel
theorem dX9_haste_65 : decode cX9_haste 65 = .ok (.istore 6, 2) := by decide +kernel
theorem dX9_haste_67 : decode cX9_haste 67 = .ok (.iload 6, 2) := by decide +kernel
theorem dX9_haste_69 : decode cX9_haste 69 = .ok (.aload_n 0, 1) := by decide +kernel
theorem dX9_haste_70 : decode cX9_haste 70 = .ok (.getfield 13, 3) := by decide +kernel
theorem dX9_haste_73 : decode cX9_haste 73 = .ok (.iconst 0, 1) := by decide +kernel
theorem dX9_haste_74 : decode cX9_haste 74 = .ok (.iaload, 1) := by decide +kernel
theorem dX9_haste_75 : decode cX9_haste 75 = .ok (.if_icmp .ge 112, 3) := by decide +kernel
theorem dX9_haste_78 : decode cX9_haste 78 = .ok (.iconst 0, 1) := by decide +kernel
theorem dX9_haste_79 : decode cX9_haste 79 = .ok (.istore 7, 2) := by decide +kernel
theorem dX9_haste_81 : decode cX9_haste 81 = .ok (.iload 7, 2) := by decide +kernel
theorem dX9_haste_83 : decode cX9_haste 83 = .ok (.aload_n 0, 1) := by decide +kernel
theorem dX9_haste_84 : decode cX9_haste 84 = .ok (.getfield 13, 3) := by decide +kernel
theorem dX9_haste_87 : decode cX9_haste 87 = .ok (.iconst 0, 1) := by decide +kernel
theorem dX9_haste_88 : decode cX9_haste 88 = .ok (.iaload, 1) := by decide +kernel
theorem dX9_haste_89 : decode cX9_haste 89 = .ok (.if_icmp .ge 92, 3) := by decide +kernel
theorem dX9_haste_92 : decode cX9_haste 92 = .ok (.iload 6, 2) := by decide +kernel
theorem dX9_haste_94 : decode cX9_haste 94 = .ok (.iload 7, 2) := by decide +kernel
theorem dX9_haste_96 : decode cX9_haste 96 = .ok (.if_icmp .eq 79, 3) := by decide +kernel
theorem dX9_haste_99 : decode cX9_haste 99 = .ok (.aload_n 0, 1) := by decide +kernel
theorem dX9_haste_100 : decode cX9_haste 100 = .ok (.iload 6, 2) := by decide +kernel
theorem dX9_haste_102 : decode cX9_haste 102 = .ok (.iload 7, 2) := by decide +kernel
theorem dX9_haste_104 : decode cX9_haste 104 = .ok (.invokevirtual 129, 3) := by decide +kernel
theorem dX9_haste_107 : decode cX9_haste 107 = .ok (.ifCond .eq 68, 3) := by decide +kernel
theorem dX9_haste_110 : decode cX9_haste 110 = .ok (.aload_n 0, 1) := by decide +kernel
theorem dX9_haste_111 : decode cX9_haste 111 = .ok (.iload 6, 2) := by decide +kernel
theorem dX9_haste_113 : decode cX9_haste 113 = .ok (.iload 7, 2) := by decide +kernel
theorem dX9_haste_115 : decode cX9_haste 115 = .ok (.invokevirtual 133, 3) := by decide +kernel
theorem dX9_haste_118 : decode cX9_haste 118 = .ok (.aload_n 0, 1) := by decide +kernel
theorem dX9_haste_119 : decode cX9_haste 119 = .ok (.iload_n 1, 1) := by decide +kernel
theorem dX9_haste_120 : decode cX9_haste 120 = .ok (.invokevirtual 149, 3) := by decide +kernel
theorem dX9_haste_123 : decode cX9_haste 123 = .ok (.istore_n 3, 1) := by decide +kernel
theorem dX9_haste_124 : decode cX9_haste 124 = .ok (.aload_n 0, 1) := by decide +kernel
theorem dX9_haste_125 : decode cX9_haste 125 = .ok (.invokevirtual 146, 3) := by decide +kernel
theorem dX9_haste_128 : decode cX9_haste 128 = .ok (.iload_n 3, 1) := by decide +kernel
theorem dX9_haste_129 : decode cX9_haste 129 = .ok (.bipush (-4), 2) := by decide +kernel
theorem dX9_haste_131 : decode cX9_haste 131 = .ok (.if_icmp .eq 20, 3) := by decide +kernel
theorem dX9_haste_134 : decode cX9_haste 134 = .ok (.iload_n 3, 1) := by decide +kernel
theorem dX9_haste_135 : decode cX9_haste 135 = .ok (.iload 4, 2) := by decide +kernel
theorem dX9_haste_137 : decode cX9_haste 137 = .ok (.if_icmp .ge 14, 3) := by decide +kernel
theorem dX9_haste_140 : decode cX9_haste 140 = .ok (.bipush 10, 2) := by decide +kernel
theorem dX9_haste_142 : decode cX9_haste 142 = .ok (.iload 6, 2) := by decide +kernel
theorem dX9_haste_144 : decode cX9_haste 144 = .ok (.imul, 1) := by decide +kernel
theorem dX9_haste_145 : decode cX9_haste 145 = .ok (.iload 7, 2) := by decide +kernel
theorem dX9_haste_147 : decode cX9_haste 147 = .ok (.iadd, 1) := by decide +kernel
theorem dX9_haste_148 : decode cX9_haste 148 = .ok (.goto 5, 3) := by decide +kernel
theorem dX9_haste_151 : decode cX9_haste 151 = .ok (.iload 5, 2) := by decide +kernel
theorem dX9_haste_153 : decode cX9_haste 153 = .ok (.istore 5, 2) := by decide +kernel
theorem dX9_haste_155 : decode cX9_haste 155 = .ok (.iload_n 3, 1) := by decide +kernel
theorem dX9_haste_156 : decode cX9_haste 156 = .ok (.bipush (-4), 2) := by decide +kernel
theorem dX9_haste_158 : decode cX9_haste 158 = .ok (.if_icmp .eq 13, 3) := by decide +kernel
theorem dX9_haste_161 : decode cX9_haste 161 = .ok (.iload_n 3, 1) := by decide +kernel
theorem dX9_haste_162 : decode cX9_haste 162 = .ok (.iload 4, 2) := by decide +kernel
theorem dX9_haste_164 : decode cX9_haste 164 = .ok (.if_icmp .ge 7, 3) := by decide +kernel
theorem dX9_haste_167 : decode cX9_haste 167 = .ok (.iload_n 3, 1) := by decide +kernel
theorem dX9_haste_168 : decode cX9_haste 168 = .ok (.goto 5, 3) := by decide +kernel
theorem dX9_haste_171 : decode cX9_haste 171 = .ok (.iload 4, 2) := by decide +kernel
theorem dX9_haste_173 : decode cX9_haste 173 = .ok (.istore 4, 2) := by decide +kernel
theorem dX9_haste_175 : decode cX9_haste 175 = .ok (.iinc 7 1, 3) := by decide +kernel
theorem dX9_haste_178 : decode cX9_haste 178 = .ok (.goto (-97), 3) := by decide +kernel
theorem dX9_haste_181 : decode cX9_haste 181 = .ok (.iinc 6 1, 3) := by decide +kernel
theorem dX9_haste_184 : decode cX9_haste 184 = .ok (.goto (-117), 3) := by decide +kernel
theorem dX9_haste_187 : decode cX9_haste 187 = .ok (.iload 4, 2) := by decide +kernel
theorem dX9_haste_189 : decode cX9_haste 189 = .ok (.bipush 60, 2) := by decide +kernel
theorem dX9_haste_191 : decode cX9_haste 191 = .ok (.if_icmp .le 8, 3) := by decide +kernel
theorem dX9_haste_194 : decode cX9_haste 194 = .ok (.bipush (-4), 2) := by decide +kernel
theorem dX9_haste_196 : decode cX9_haste 196 = .ok (.goto 14, 3) := by decide +kernel
theorem dX9_haste_199 : decode cX9_haste 199 = .ok (.iload_n 2, 1) := by decide +kernel
theorem dX9_haste_200 : decode cX9_haste 200 = .ok (.ifCond .ne 8, 3) := by decide +kernel
theorem dX9_haste_203 : decode cX9_haste 203 = .ok (.iload 5, 2) := by decide +kernel
theorem dX9_haste_205 : decode cX9_haste 205 = .ok (.goto 5, 3) := by decide +kernel
theorem dX9_haste_208 : decode cX9_haste 208 = .ok (.iload 4, 2) := by decide +kernel
theorem dX9_haste_210 : decode cX9_haste 210 = .ok (.ireturn, 1) := by decide +kernel
set_option maxRecDepth 20000 in
theorem ggX9_clear_X9_due : GoodIn wsX9_clear wsX9_due := goodIn_r _ [7, 8, 9, 10, 11, 12, 13, 14, 15, 16, 17, 18, 19, 20, 21, 22, 23, 24, 25] (by decide +kernel) (by decide +kernel)
set_option maxRecDepth 20000 in
theorem gX9_clear_X9_due : GoodIn wsX9_clear (wsV RX9 108 RX9 yX9_due wsX9_due) := goodIn_app (goodIn_of _ (by decide +kernel)) ggX9_clear_X9_due
theorem dX9_clear_0 : decode cX9_clear 0 = .ok (.iconst 0, 1) := by decide +kernel
theorem dX9_clear_1 : decode cX9_clear 1 = .ok (.istore_n 1, 1) := by decide +kernel
theorem dX9_clear_2 : decode cX9_clear 2 = .ok (.iconst 0, 1) := by decide +kernel
theorem dX9_clear_3 : decode cX9_clear 3 = .ok (.istore_n 2, 1) := by decide +kernel
theorem dX9_clear_4 : decode cX9_clear 4 = .ok (.iconst 0, 1) := by decide +kernel
theorem dX9_clear_5 : decode cX9_clear 5 = .ok (.istore_n 3, 1) := by decide +kernel
theorem dX9_clear_6 : decode cX9_clear 6 = .ok (.iload_n 3, 1) := by decide +kernel
theorem dX9_clear_7 : decode cX9_clear 7 = .ok (.aload_n 0, 1) := by decide +kernel
theorem dX9_clear_8 : decode cX9_clear 8 = .ok (.getfield 13, 3) := by decide +kernel
theorem dX9_clear_11 : decode cX9_clear 11 = .ok (.iconst 0, 1) := by decide +kernel
theorem dX9_clear_12 : decode cX9_clear 12 = .ok (.iaload, 1) := by decide +kernel
theorem dX9_clear_13 : decode cX9_clear 13 = .ok (.if_icmp .ge 43, 3) := by decide +kernel
theorem dX9_clear_16 : decode cX9_clear 16 = .ok (.iload_n 1, 1) := by decide +kernel
theorem dX9_clear_17 : decode cX9_clear 17 = .ok (.aload_n 0, 1) := by decide +kernel
theorem dX9_clear_18 : decode cX9_clear 18 = .ok (.iload_n 3, 1) := by decide +kernel
theorem dX9_clear_19 : decode cX9_clear 19 = .ok (.invokevirtual 108, 3) := by decide +kernel
theorem dX9_clear_22 : decode cX9_clear 22 = .ok (.ifCond .ne 7, 3) := by decide +kernel
theorem dX9_clear_25 : decode cX9_clear 25 = .ok (.iconst 0, 1) := by decide +kernel
theorem dX9_clear_26 : decode cX9_clear 26 = .ok (.goto 6, 3) := by decide +kernel
theorem dX9_clear_29 : decode cX9_clear 29 = .ok (.iconst 1, 1) := by decide +kernel
theorem dX9_clear_30 : decode cX9_clear 30 = .ok (.iload_n 3, 1) := by decide +kernel
theorem dX9_clear_31 : decode cX9_clear 31 = .ok (.ishl, 1) := by decide +kernel
theorem dX9_clear_32 : decode cX9_clear 32 = .ok (.ior, 1) := by decide +kernel
theorem dX9_clear_33 : decode cX9_clear 33 = .ok (.istore_n 1, 1) := by decide +kernel
theorem dX9_clear_34 : decode cX9_clear 34 = .ok (.iload_n 2, 1) := by decide +kernel
theorem dX9_clear_35 : decode cX9_clear 35 = .ok (.aload_n 0, 1) := by decide +kernel
theorem dX9_clear_36 : decode cX9_clear 36 = .ok (.iload_n 3, 1) := by decide +kernel
theorem dX9_clear_37 : decode cX9_clear 37 = .ok (.invokevirtual 108, 3) := by decide +kernel
theorem dX9_clear_40 : decode cX9_clear 40 = .ok (.ifCond .ne 7, 3) := by decide +kernel
theorem dX9_clear_43 : decode cX9_clear 43 = .ok (.iconst 0, 1) := by decide +kernel
theorem dX9_clear_44 : decode cX9_clear 44 = .ok (.goto 4, 3) := by decide +kernel
theorem dX9_clear_47 : decode cX9_clear 47 = .ok (.iconst 1, 1) := by decide +kernel
theorem dX9_clear_48 : decode cX9_clear 48 = .ok (.iadd, 1) := by decide +kernel
theorem dX9_clear_49 : decode cX9_clear 49 = .ok (.istore_n 2, 1) := by decide +kernel
theorem dX9_clear_50 : decode cX9_clear 50 = .ok (.iinc 3 1, 3) := by decide +kernel
theorem dX9_clear_53 : decode cX9_clear 53 = .ok (.goto (-47), 3) := by decide +kernel
theorem dX9_clear_56 : decode cX9_clear 56 = .ok (.iconst 1, 1) := by decide +kernel
theorem dX9_clear_57 : decode cX9_clear 57 = .ok (.istore_n 3, 1) := by decide +kernel
theorem dX9_clear_58 : decode cX9_clear 58 = .ok (.iload_n 3, 1) := by decide +kernel
theorem dX9_clear_59 : decode cX9_clear 59 = .ok (.sipush 128, 3) := by decide +kernel
theorem dX9_clear_62 : decode cX9_clear 62 = .ok (.if_icmp .ge 107, 3) := by decide +kernel
theorem dX9_clear_65 : decode cX9_clear 65 = .ok (.iconst 0, 1) := by decide +kernel
theorem dX9_clear_66 : decode cX9_clear 66 = .ok (.istore 4, 2) := by decide +kernel
theorem dX9_clear_68 : decode cX9_clear 68 = .ok (.iconst 0, 1) := by decide +kernel
theorem dX9_clear_69 : decode cX9_clear 69 = .ok (.istore 5, 2) := by decide +kernel
theorem dX9_clear_71 : decode cX9_clear 71 = .ok (.iconst 0, 1) := by decide +kernel
theorem dX9_clear_72 : decode cX9_clear 72 = .ok (.istore 6, 2) := by decide +kernel
theorem dX9_clear_74 : decode cX9_clear 74 = .ok (.iload 6, 2) := by decide +kernel
theorem dX9_clear_76 : decode cX9_clear 76 = .ok (.aload_n 0, 1) := by decide +kernel
theorem dX9_clear_77 : decode cX9_clear 77 = .ok (.getfield 13, 3) := by decide +kernel
theorem dX9_clear_80 : decode cX9_clear 80 = .ok (.iconst 0, 1) := by decide +kernel
theorem dX9_clear_81 : decode cX9_clear 81 = .ok (.iaload, 1) := by decide +kernel
theorem dX9_clear_82 : decode cX9_clear 82 = .ok (.if_icmp .ge 61, 3) := by decide +kernel
theorem dX9_clear_85 : decode cX9_clear 85 = .ok (.iload_n 3, 1) := by decide +kernel
theorem dX9_clear_86 : decode cX9_clear 86 = .ok (.iload 6, 2) := by decide +kernel
theorem dX9_clear_88 : decode cX9_clear 88 = .ok (.ishr, 1) := by decide +kernel
theorem dX9_clear_89 : decode cX9_clear 89 = .ok (.iconst 1, 1) := by decide +kernel
theorem dX9_clear_90 : decode cX9_clear 90 = .ok (.iand, 1) := by decide +kernel
theorem dX9_clear_91 : decode cX9_clear 91 = .ok (.iconst 1, 1) := by decide +kernel
theorem dX9_clear_92 : decode cX9_clear 92 = .ok (.if_icmp .ne 45, 3) := by decide +kernel
theorem dX9_clear_95 : decode cX9_clear 95 = .ok (.iload 4, 2) := by decide +kernel
theorem dX9_clear_97 : decode cX9_clear 97 = .ok (.aload_n 0, 1) := by decide +kernel
theorem dX9_clear_98 : decode cX9_clear 98 = .ok (.iload 6, 2) := by decide +kernel
theorem dX9_clear_100 : decode cX9_clear 100 = .ok (.invokevirtual 108, 3) := by decide +kernel
theorem dX9_clear_103 : decode cX9_clear 103 = .ok (.iadd, 1) := by decide +kernel
theorem dX9_clear_104 : decode cX9_clear 104 = .ok (.istore 4, 2) := by decide +kernel
theorem dX9_clear_106 : decode cX9_clear 106 = .ok (.aload_n 0, 1) := by decide +kernel
theorem dX9_clear_107 : decode cX9_clear 107 = .ok (.getfield 40, 3) := by decide +kernel
theorem dX9_clear_110 : decode cX9_clear 110 = .ok (.iload_n 3, 1) := by decide +kernel
theorem dX9_clear_111 : decode cX9_clear 111 = .ok (.iconst 1, 1) := by decide +kernel
theorem dX9_clear_112 : decode cX9_clear 112 = .ok (.iload 6, 2) := by decide +kernel
theorem dX9_clear_114 : decode cX9_clear 114 = .ok (.ishl, 1) := by decide +kernel
theorem dX9_clear_115 : decode cX9_clear 115 = .ok (.iconst (-1), 1) := by decide +kernel
theorem dX9_clear_116 : decode cX9_clear 116 = .ok (.ixor, 1) := by decide +kernel
theorem dX9_clear_117 : decode cX9_clear 117 = .ok (.iand, 1) := by decide +kernel
theorem dX9_clear_118 : decode cX9_clear 118 = .ok (.iaload, 1) := by decide +kernel
theorem dX9_clear_119 : decode cX9_clear 119 = .ok (.istore 7, 2) := by decide +kernel
theorem dX9_clear_121 : decode cX9_clear 121 = .ok (.iload 7, 2) := by decide +kernel
theorem dX9_clear_123 : decode cX9_clear 123 = .ok (.iload 5, 2) := by decide +kernel
theorem dX9_clear_125 : decode cX9_clear 125 = .ok (.if_icmp .le 8, 3) := by decide +kernel
theorem dX9_clear_128 : decode cX9_clear 128 = .ok (.iload 7, 2) := by decide +kernel
theorem dX9_clear_130 : decode cX9_clear 130 = .ok (.goto 5, 3) := by decide +kernel
theorem dX9_clear_133 : decode cX9_clear 133 = .ok (.iload 5, 2) := by decide +kernel
theorem dX9_clear_135 : decode cX9_clear 135 = .ok (.istore 5, 2) := by decide +kernel
theorem dX9_clear_137 : decode cX9_clear 137 = .ok (.iinc 6 1, 3) := by decide +kernel
theorem dX9_clear_140 : decode cX9_clear 140 = .ok (.goto (-66), 3) := by decide +kernel
theorem dX9_clear_143 : decode cX9_clear 143 = .ok (.aload_n 0, 1) := by decide +kernel
theorem dX9_clear_144 : decode cX9_clear 144 = .ok (.getfield 40, 3) := by decide +kernel
theorem dX9_clear_147 : decode cX9_clear 147 = .ok (.iload_n 3, 1) := by decide +kernel
theorem dX9_clear_148 : decode cX9_clear 148 = .ok (.iload 4, 2) := by decide +kernel
theorem dX9_clear_150 : decode cX9_clear 150 = .ok (.ifCond .ne 10, 3) := by decide +kernel
theorem dX9_clear_153 : decode cX9_clear 153 = .ok (.iload 5, 2) := by decide +kernel
theorem dX9_clear_155 : decode cX9_clear 155 = .ok (.iconst 1, 1) := by decide +kernel
theorem dX9_clear_156 : decode cX9_clear 156 = .ok (.iadd, 1) := by decide +kernel
theorem dX9_clear_157 : decode cX9_clear 157 = .ok (.goto 5, 3) := by decide +kernel
theorem dX9_clear_160 : decode cX9_clear 160 = .ok (.iload 5, 2) := by decide +kernel
theorem dX9_clear_162 : decode cX9_clear 162 = .ok (.iastore, 1) := by decide +kernel
theorem dX9_clear_163 : decode cX9_clear 163 = .ok (.iinc 3 1, 3) := by decide +kernel
theorem dX9_clear_166 : decode cX9_clear 166 = .ok (.goto (-108), 3) := by decide +kernel
theorem dX9_clear_169 : decode cX9_clear 169 = .ok (.iload_n 1, 1) := by decide +kernel
theorem dX9_clear_170 : decode cX9_clear 170 = .ok (.ifCond .ne 7, 3) := by decide +kernel
theorem dX9_clear_173 : decode cX9_clear 173 = .ok (.iconst 0, 1) := by decide +kernel
theorem dX9_clear_174 : decode cX9_clear 174 = .ok (.goto 11, 3) := by decide +kernel
theorem dX9_clear_177 : decode cX9_clear 177 = .ok (.iload_n 2, 1) := by decide +kernel
theorem dX9_clear_178 : decode cX9_clear 178 = .ok (.aload_n 0, 1) := by decide +kernel
theorem dX9_clear_179 : decode cX9_clear 179 = .ok (.getfield 40, 3) := by decide +kernel
theorem dX9_clear_182 : decode cX9_clear 182 = .ok (.iload_n 1, 1) := by decide +kernel
theorem dX9_clear_183 : decode cX9_clear 183 = .ok (.iaload, 1) := by decide +kernel
theorem dX9_clear_184 : decode cX9_clear 184 = .ok (.isub, 1) := by decide +kernel
theorem dX9_clear_185 : decode cX9_clear 185 = .ok (.ireturn, 1) := by decide +kernel
set_option maxRecDepth 20000 in
theorem ggX9_miss_X9_in : GoodIn wsX9_miss wsX9_in := goodIn_r _ [8] (by decide +kernel) (by decide +kernel)
set_option maxRecDepth 20000 in
theorem gX9_miss_X9_in : GoodIn wsX9_miss (va_wsS RX9 56 yX9_in wsX9_in) := goodIn_app (goodIn_of _ (by decide +kernel)) ggX9_miss_X9_in
set_option maxRecDepth 20000 in
theorem ggX9_miss_X9_holds : GoodIn wsX9_miss wsX9_holds := goodIn_r _ [12, 4, 1, 38, 39, 40, 41, 42, 43, 44, 45, 46, 47, 48, 49, 50, 51, 52, 53, 54] (by decide +kernel) (by decide +kernel)
set_option maxRecDepth 20000 in
theorem gX9_miss_X9_holds : GoodIn wsX9_miss (wsV RX9 143 RX9 yX9_holds wsX9_holds) := goodIn_app (goodIn_of _ (by decide +kernel)) ggX9_miss_X9_holds
set_option maxRecDepth 20000 in
theorem ggX9_miss_X9_placeOf : GoodIn wsX9_miss wsX9_placeOf := goodIn_r _ [16, 1, 38, 39, 40, 41, 42, 43, 44, 45, 46, 47, 48, 49, 50, 51, 52, 53, 54] (by decide +kernel) (by decide +kernel)
set_option maxRecDepth 20000 in
theorem gX9_miss_X9_placeOf : GoodIn wsX9_miss (wsV RX9 105 RX9 yX9_placeOf wsX9_placeOf) := goodIn_app (goodIn_of _ (by decide +kernel)) ggX9_miss_X9_placeOf
set_option maxRecDepth 20000 in
theorem ggX9_miss_X9_goes : GoodIn wsX9_miss wsX9_goes := goodIn_r _ [20, 1, 38, 39, 40, 41, 42, 43, 44, 45, 46, 47, 48, 49, 50, 51, 52, 53, 54] (by decide +kernel) (by decide +kernel)
set_option maxRecDepth 20000 in
theorem gX9_miss_X9_goes : GoodIn wsX9_miss (wsV RX9 115 RX9 yX9_goes wsX9_goes) := goodIn_app (goodIn_of _ (by decide +kernel)) ggX9_miss_X9_goes
set_option maxRecDepth 20000 in
theorem ggX9_miss_X9_passes : GoodIn wsX9_miss wsX9_passes := goodIn_r _ [24, 1, 25, 2, 13, 14, 15, 7, 16, 26, 27, 28, 29, 17, 18, 19, 20, 38, 39, 40, 41, 42, 43, 44, 45, 46, 47, 48, 49, 50, 51, 52, 53, 54] (by decide +kernel) (by decide +kernel)
set_option maxRecDepth 20000 in
theorem gX9_miss_X9_passes : GoodIn wsX9_miss (wsV RX9 122 RX9 yX9_passes wsX9_passes) := goodIn_app (goodIn_of _ (by decide +kernel)) ggX9_miss_X9_passes
set_option maxRecDepth 20000 in
theorem ggX9_miss_X9_due : GoodIn wsX9_miss wsX9_due := goodIn_r _ [33, 1, 38, 39, 40, 41, 42, 43, 44, 45, 46, 47, 48, 49, 50, 51, 52, 53, 54] (by decide +kernel) (by decide +kernel)
set_option maxRecDepth 20000 in
theorem gX9_miss_X9_due : GoodIn wsX9_miss (wsV RX9 108 RX9 yX9_due wsX9_due) := goodIn_app (goodIn_of _ (by decide +kernel)) ggX9_miss_X9_due
set_option maxRecDepth 20000 in
theorem ggX9_miss_X9_backs : GoodIn wsX9_miss wsX9_backs := goodIn_r _ [37, 1, 4, 38, 39, 40, 41, 42, 43, 44, 45, 46, 47, 48, 49, 50, 51, 52, 53, 54] (by decide +kernel) (by decide +kernel)
set_option maxRecDepth 20000 in
theorem gX9_miss_X9_backs : GoodIn wsX9_miss (wsV RX9 146 RX9 yX9_backs wsX9_backs) := goodIn_app (goodIn_of _ (by decide +kernel)) ggX9_miss_X9_backs
theorem dX9_miss_0 : decode cX9_miss 0 = .ok (.iload_n 1, 1) := by decide +kernel
theorem dX9_miss_1 : decode cX9_miss 1 = .ok (.iconst 0, 1) := by decide +kernel
theorem dX9_miss_2 : decode cX9_miss 2 = .ok (.iconst 1, 1) := by decide +kernel
theorem dX9_miss_3 : decode cX9_miss 3 = .ok (.invokestatic 56, 3) := by decide +kernel
theorem dX9_miss_6 : decode cX9_miss 6 = .ok (.ifCond .ne 5, 3) := by decide +kernel
theorem dX9_miss_9 : decode cX9_miss 9 = .ok (.iconst (-1), 1) := by decide +kernel
theorem dX9_miss_10 : decode cX9_miss 10 = .ok (.ireturn, 1) := by decide +kernel
theorem dX9_miss_11 : decode cX9_miss 11 = .ok (.aload_n 0, 1) := by decide +kernel
theorem dX9_miss_12 : decode cX9_miss 12 = .ok (.invokevirtual 143, 3) := by decide +kernel
theorem dX9_miss_15 : decode cX9_miss 15 = .ok (.aload_n 0, 1) := by decide +kernel
theorem dX9_miss_16 : decode cX9_miss 16 = .ok (.getfield 22, 3) := by decide +kernel
theorem dX9_miss_19 : decode cX9_miss 19 = .ok (.iconst 1, 1) := by decide +kernel
theorem dX9_miss_20 : decode cX9_miss 20 = .ok (.iaload, 1) := by decide +kernel
theorem dX9_miss_21 : decode cX9_miss 21 = .ok (.istore_n 2, 1) := by decide +kernel
theorem dX9_miss_22 : decode cX9_miss 22 = .ok (.bipush (-4), 2) := by decide +kernel
theorem dX9_miss_24 : decode cX9_miss 24 = .ok (.istore_n 3, 1) := by decide +kernel
theorem dX9_miss_25 : decode cX9_miss 25 = .ok (.bipush (-4), 2) := by decide +kernel
theorem dX9_miss_27 : decode cX9_miss 27 = .ok (.istore 4, 2) := by decide +kernel
theorem dX9_miss_29 : decode cX9_miss 29 = .ok (.iconst 0, 1) := by decide +kernel
theorem dX9_miss_30 : decode cX9_miss 30 = .ok (.istore 5, 2) := by decide +kernel
theorem dX9_miss_32 : decode cX9_miss 32 = .ok (.iload 5, 2) := by decide +kernel
theorem dX9_miss_34 : decode cX9_miss 34 = .ok (.aload_n 0, 1) := by decide +kernel
theorem dX9_miss_35 : decode cX9_miss 35 = .ok (.getfield 13, 3) := by decide +kernel
theorem dX9_miss_38 : decode cX9_miss 38 = .ok (.iconst 0, 1) := by decide +kernel
theorem dX9_miss_39 : decode cX9_miss 39 = .ok (.iaload, 1) := by decide +kernel
theorem dX9_miss_40 : decode cX9_miss 40 = .ok (.if_icmp .ge 144, 3) := by decide +kernel
theorem dX9_miss_43 : decode cX9_miss 43 = .ok (.aload_n 0, 1) := by decide +kernel
theorem dX9_miss_44 : decode cX9_miss 44 = .ok (.iload 5, 2) := by decide +kernel
theorem dX9_miss_46 : decode cX9_miss 46 = .ok (.invokevirtual 105, 3) := by decide +kernel
theorem dX9_miss_49 : decode cX9_miss 49 = .ok (.bipush (-4), 2) := by decide +kernel
theorem dX9_miss_51 : decode cX9_miss 51 = .ok (.if_icmp .eq 127, 3) := by decide +kernel
theorem dX9_miss_54 : decode cX9_miss 54 = .ok (.aload_n 0, 1) := by decide +kernel
theorem dX9_miss_55 : decode cX9_miss 55 = .ok (.aload_n 0, 1) := by decide +kernel
theorem dX9_miss_56 : decode cX9_miss 56 = .ok (.iload 5, 2) := by decide +kernel
theorem dX9_miss_58 : decode cX9_miss 58 = .ok (.invokevirtual 105, 3) := by decide +kernel
theorem dX9_miss_61 : decode cX9_miss 61 = .ok (.iconst 2, 1) := by decide +kernel
theorem dX9_miss_62 : decode cX9_miss 62 = .ok (.invokevirtual 115, 3) := by decide +kernel
theorem dX9_miss_65 : decode cX9_miss 65 = .ok (.iconst 0, 1) := by decide +kernel
theorem dX9_miss_66 : decode cX9_miss 66 = .ok (.istore 6, 2) := by decide +kernel
theorem dX9_miss_68 : decode cX9_miss 68 = .ok (.iload 6, 2) := by decide +kernel
theorem dX9_miss_70 : decode cX9_miss 70 = .ok (.bipush 10, 2) := by decide +kernel
theorem dX9_miss_72 : decode cX9_miss 72 = .ok (.if_icmp .ge 14, 3) := by decide +kernel
theorem dX9_miss_75 : decode cX9_miss 75 = .ok (.aload_n 0, 1) := by decide +kernel
theorem dX9_miss_76 : decode cX9_miss 76 = .ok (.iconst 1, 1) := by decide +kernel
theorem dX9_miss_77 : decode cX9_miss 77 = .ok (.invokevirtual 122, 3) := by decide +kernel
theorem dX9_miss_80 : decode cX9_miss 80 = .ok (.iinc 6 1, 3) := by decide +kernel
theorem dX9_miss_83 : decode cX9_miss 83 = .ok (.goto (-15), 3) := by decide +kernel
theorem dX9_miss_86 : decode cX9_miss 86 = .ok (.ldc 111, 2) := by decide +kernel
theorem dX9_miss_88 : decode cX9_miss 88 = .ok (.istore 6, 2) := by decide +kernel
theorem dX9_miss_90 : decode cX9_miss 90 = .ok (.iconst 0, 1) := by decide +kernel
theorem dX9_miss_91 : decode cX9_miss 91 = .ok (.istore 7, 2) := by decide +kernel
theorem dX9_miss_93 : decode cX9_miss 93 = .ok (.iload 7, 2) := by decide +kernel
theorem dX9_miss_95 : decode cX9_miss 95 = .ok (.iload_n 2, 1) := by decide +kernel
theorem dX9_miss_96 : decode cX9_miss 96 = .ok (.if_icmp .ge 42, 3) := by decide +kernel
theorem dX9_miss_99 : decode cX9_miss 99 = .ok (.aload_n 0, 1) := by decide +kernel
theorem dX9_miss_100 : decode cX9_miss 100 = .ok (.getfield 37, 3) := by decide +kernel
theorem dX9_miss_103 : decode cX9_miss 103 = .ok (.iconst 2, 1) := by decide +kernel
theorem dX9_miss_104 : decode cX9_miss 104 = .ok (.iload 7, 2) := by decide +kernel
theorem dX9_miss_106 : decode cX9_miss 106 = .ok (.iadd, 1) := by decide +kernel
theorem dX9_miss_107 : decode cX9_miss 107 = .ok (.iaload, 1) := by decide +kernel
theorem dX9_miss_108 : decode cX9_miss 108 = .ok (.istore 8, 2) := by decide +kernel
theorem dX9_miss_110 : decode cX9_miss 110 = .ok (.iload 6, 2) := by decide +kernel
theorem dX9_miss_112 : decode cX9_miss 112 = .ok (.iload 8, 2) := by decide +kernel
theorem dX9_miss_114 : decode cX9_miss 114 = .ok (.iload 5, 2) := by decide +kernel
theorem dX9_miss_116 : decode cX9_miss 116 = .ok (.if_icmp .ne 7, 3) := by decide +kernel
theorem dX9_miss_119 : decode cX9_miss 119 = .ok (.iconst 0, 1) := by decide +kernel
theorem dX9_miss_120 : decode cX9_miss 120 = .ok (.goto 9, 3) := by decide +kernel
theorem dX9_miss_123 : decode cX9_miss 123 = .ok (.aload_n 0, 1) := by decide +kernel
theorem dX9_miss_124 : decode cX9_miss 124 = .ok (.iload 8, 2) := by decide +kernel
theorem dX9_miss_126 : decode cX9_miss 126 = .ok (.invokevirtual 108, 3) := by decide +kernel
theorem dX9_miss_129 : decode cX9_miss 129 = .ok (.iadd, 1) := by decide +kernel
theorem dX9_miss_130 : decode cX9_miss 130 = .ok (.istore 6, 2) := by decide +kernel
theorem dX9_miss_132 : decode cX9_miss 132 = .ok (.iinc 7 1, 3) := by decide +kernel
theorem dX9_miss_135 : decode cX9_miss 135 = .ok (.goto (-42), 3) := by decide +kernel
theorem dX9_miss_138 : decode cX9_miss 138 = .ok (.iload 6, 2) := by decide +kernel
theorem dX9_miss_140 : decode cX9_miss 140 = .ok (.iload_n 3, 1) := by decide +kernel
theorem dX9_miss_141 : decode cX9_miss 141 = .ok (.if_icmp .gt 10, 3) := by decide +kernel
theorem dX9_miss_144 : decode cX9_miss 144 = .ok (.iload 4, 2) := by decide +kernel
theorem dX9_miss_146 : decode cX9_miss 146 = .ok (.bipush (-4), 2) := by decide +kernel
theorem dX9_miss_148 : decode cX9_miss 148 = .ok (.if_icmp .ne 8, 3) := by decide +kernel
theorem dX9_miss_151 : decode cX9_miss 151 = .ok (.iload 5, 2) := by decide +kernel
theorem dX9_miss_153 : decode cX9_miss 153 = .ok (.goto 5, 3) := by decide +kernel
theorem dX9_miss_156 : decode cX9_miss 156 = .ok (.iload 4, 2) := by decide +kernel
theorem dX9_miss_158 : decode cX9_miss 158 = .ok (.istore 4, 2) := by decide +kernel
theorem dX9_miss_160 : decode cX9_miss 160 = .ok (.iload 4, 2) := by decide +kernel
theorem dX9_miss_162 : decode cX9_miss 162 = .ok (.iload 5, 2) := by decide +kernel
theorem dX9_miss_164 : decode cX9_miss 164 = .ok (.if_icmp .ne 8, 3) := by decide +kernel
theorem dX9_miss_167 : decode cX9_miss 167 = .ok (.iload 6, 2) := by decide +kernel
theorem dX9_miss_169 : decode cX9_miss 169 = .ok (.goto 4, 3) := by decide +kernel
theorem dX9_miss_172 : decode cX9_miss 172 = .ok (.iload_n 3, 1) := by decide +kernel
theorem dX9_miss_173 : decode cX9_miss 173 = .ok (.istore_n 3, 1) := by decide +kernel
theorem dX9_miss_174 : decode cX9_miss 174 = .ok (.aload_n 0, 1) := by decide +kernel
theorem dX9_miss_175 : decode cX9_miss 175 = .ok (.invokevirtual 146, 3) := by decide +kernel
theorem dX9_miss_178 : decode cX9_miss 178 = .ok (.iinc 5 1, 3) := by decide +kernel
theorem dX9_miss_181 : decode cX9_miss 181 = .ok (.goto (-149), 3) := by decide +kernel
theorem dX9_miss_184 : decode cX9_miss 184 = .ok (.iload_n 1, 1) := by decide +kernel
theorem dX9_miss_185 : decode cX9_miss 185 = .ok (.ifCond .ne 8, 3) := by decide +kernel
theorem dX9_miss_188 : decode cX9_miss 188 = .ok (.iload 4, 2) := by decide +kernel
theorem dX9_miss_190 : decode cX9_miss 190 = .ok (.goto 4, 3) := by decide +kernel
theorem dX9_miss_193 : decode cX9_miss 193 = .ok (.iload_n 3, 1) := by decide +kernel
theorem dX9_miss_194 : decode cX9_miss 194 = .ok (.ireturn, 1) := by decide +kernel
set_option maxRecDepth 20000 in
theorem ggX9_see_X9_isOne : GoodIn wsX9_see wsX9_isOne := goodIn_r _ [8, 9, 10, 11, 7, 12, 13, 14, 15, 16, 17, 18, 19, 20, 21, 22, 23, 24, 25, 26, 27, 28, 29] (by decide +kernel) (by decide +kernel)
set_option maxRecDepth 20000 in
theorem gX9_see_X9_isOne : GoodIn wsX9_see (wsV RX9 102 RX9 yX9_isOne wsX9_isOne) := goodIn_app (goodIn_of _ (by decide +kernel)) ggX9_see_X9_isOne
set_option maxRecDepth 20000 in
theorem ggX9_see_X9_in : GoodIn wsX9_see wsX9_in := goodIn_r _ [12] (by decide +kernel) (by decide +kernel)
set_option maxRecDepth 20000 in
theorem gX9_see_X9_in : GoodIn wsX9_see (va_wsS RX9 56 yX9_in wsX9_in) := goodIn_app (goodIn_of _ (by decide +kernel)) ggX9_see_X9_in
theorem dX9_see_0 : decode cX9_see 0 = .ok (.aload_n 0, 1) := by decide +kernel
theorem dX9_see_1 : decode cX9_see 1 = .ok (.iload_n 1, 1) := by decide +kernel
theorem dX9_see_2 : decode cX9_see 2 = .ok (.invokevirtual 102, 3) := by decide +kernel
theorem dX9_see_5 : decode cX9_see 5 = .ok (.ifCond .eq 23, 3) := by decide +kernel
theorem dX9_see_8 : decode cX9_see 8 = .ok (.iload_n 2, 1) := by decide +kernel
theorem dX9_see_9 : decode cX9_see 9 = .ok (.iconst 1, 1) := by decide +kernel
theorem dX9_see_10 : decode cX9_see 10 = .ok (.bipush 20, 2) := by decide +kernel
theorem dX9_see_12 : decode cX9_see 12 = .ok (.invokestatic 56, 3) := by decide +kernel
theorem dX9_see_15 : decode cX9_see 15 = .ok (.ifCond .eq 13, 3) := by decide +kernel
theorem dX9_see_18 : decode cX9_see 18 = .ok (.iload_n 3, 1) := by decide +kernel
theorem dX9_see_19 : decode cX9_see 19 = .ok (.iconst 0, 1) := by decide +kernel
theorem dX9_see_20 : decode cX9_see 20 = .ok (.ldc 152, 2) := by decide +kernel
theorem dX9_see_22 : decode cX9_see 22 = .ok (.invokestatic 56, 3) := by decide +kernel
theorem dX9_see_25 : decode cX9_see 25 = .ok (.ifCond .ne 5, 3) := by decide +kernel
theorem dX9_see_28 : decode cX9_see 28 = .ok (.iconst (-1), 1) := by decide +kernel
theorem dX9_see_29 : decode cX9_see 29 = .ok (.ireturn, 1) := by decide +kernel
theorem dX9_see_30 : decode cX9_see 30 = .ok (.aload_n 0, 1) := by decide +kernel
theorem dX9_see_31 : decode cX9_see 31 = .ok (.getfield 99, 3) := by decide +kernel
theorem dX9_see_34 : decode cX9_see 34 = .ok (.bipush 6, 2) := by decide +kernel
theorem dX9_see_36 : decode cX9_see 36 = .ok (.if_icmp .ne 6, 3) := by decide +kernel
theorem dX9_see_39 : decode cX9_see 39 = .ok (.bipush (-3), 2) := by decide +kernel
theorem dX9_see_41 : decode cX9_see 41 = .ok (.ireturn, 1) := by decide +kernel
theorem dX9_see_42 : decode cX9_see 42 = .ok (.aload_n 0, 1) := by decide +kernel
theorem dX9_see_43 : decode cX9_see 43 = .ok (.getfield 31, 3) := by decide +kernel
theorem dX9_see_46 : decode cX9_see 46 = .ok (.iconst 3, 1) := by decide +kernel
theorem dX9_see_47 : decode cX9_see 47 = .ok (.aload_n 0, 1) := by decide +kernel
theorem dX9_see_48 : decode cX9_see 48 = .ok (.getfield 99, 3) := by decide +kernel
theorem dX9_see_51 : decode cX9_see 51 = .ok (.imul, 1) := by decide +kernel
theorem dX9_see_52 : decode cX9_see 52 = .ok (.iload_n 1, 1) := by decide +kernel
theorem dX9_see_53 : decode cX9_see 53 = .ok (.iastore, 1) := by decide +kernel
theorem dX9_see_54 : decode cX9_see 54 = .ok (.aload_n 0, 1) := by decide +kernel
theorem dX9_see_55 : decode cX9_see 55 = .ok (.getfield 31, 3) := by decide +kernel
theorem dX9_see_58 : decode cX9_see 58 = .ok (.iconst 3, 1) := by decide +kernel
theorem dX9_see_59 : decode cX9_see 59 = .ok (.aload_n 0, 1) := by decide +kernel
theorem dX9_see_60 : decode cX9_see 60 = .ok (.getfield 99, 3) := by decide +kernel
theorem dX9_see_63 : decode cX9_see 63 = .ok (.imul, 1) := by decide +kernel
theorem dX9_see_64 : decode cX9_see 64 = .ok (.iconst 1, 1) := by decide +kernel
theorem dX9_see_65 : decode cX9_see 65 = .ok (.iadd, 1) := by decide +kernel
theorem dX9_see_66 : decode cX9_see 66 = .ok (.iload_n 2, 1) := by decide +kernel
theorem dX9_see_67 : decode cX9_see 67 = .ok (.iastore, 1) := by decide +kernel
theorem dX9_see_68 : decode cX9_see 68 = .ok (.aload_n 0, 1) := by decide +kernel
theorem dX9_see_69 : decode cX9_see 69 = .ok (.getfield 31, 3) := by decide +kernel
theorem dX9_see_72 : decode cX9_see 72 = .ok (.iconst 3, 1) := by decide +kernel
theorem dX9_see_73 : decode cX9_see 73 = .ok (.aload_n 0, 1) := by decide +kernel
theorem dX9_see_74 : decode cX9_see 74 = .ok (.getfield 99, 3) := by decide +kernel
theorem dX9_see_77 : decode cX9_see 77 = .ok (.imul, 1) := by decide +kernel
theorem dX9_see_78 : decode cX9_see 78 = .ok (.iconst 2, 1) := by decide +kernel
theorem dX9_see_79 : decode cX9_see 79 = .ok (.iadd, 1) := by decide +kernel
theorem dX9_see_80 : decode cX9_see 80 = .ok (.iload_n 3, 1) := by decide +kernel
theorem dX9_see_81 : decode cX9_see 81 = .ok (.iastore, 1) := by decide +kernel
theorem dX9_see_82 : decode cX9_see 82 = .ok (.aload_n 0, 1) := by decide +kernel
theorem dX9_see_83 : decode cX9_see 83 = .ok (.dup, 1) := by decide +kernel
theorem dX9_see_84 : decode cX9_see 84 = .ok (.getfield 99, 3) := by decide +kernel
theorem dX9_see_87 : decode cX9_see 87 = .ok (.iconst 1, 1) := by decide +kernel
theorem dX9_see_88 : decode cX9_see 88 = .ok (.iadd, 1) := by decide +kernel
theorem dX9_see_89 : decode cX9_see 89 = .ok (.putfield 99, 3) := by decide +kernel
theorem dX9_see_92 : decode cX9_see 92 = .ok (.aload_n 0, 1) := by decide +kernel
theorem dX9_see_93 : decode cX9_see 93 = .ok (.getfield 99, 3) := by decide +kernel
theorem dX9_see_96 : decode cX9_see 96 = .ok (.ireturn, 1) := by decide +kernel
theorem dX9_forget_0 : decode cX9_forget 0 = .ok (.aload_n 0, 1) := by decide +kernel
theorem dX9_forget_1 : decode cX9_forget 1 = .ok (.getfield 99, 3) := by decide +kernel
theorem dX9_forget_4 : decode cX9_forget 4 = .ok (.istore_n 1, 1) := by decide +kernel
theorem dX9_forget_5 : decode cX9_forget 5 = .ok (.aload_n 0, 1) := by decide +kernel
theorem dX9_forget_6 : decode cX9_forget 6 = .ok (.iconst 0, 1) := by decide +kernel
theorem dX9_forget_7 : decode cX9_forget 7 = .ok (.putfield 99, 3) := by decide +kernel
theorem dX9_forget_10 : decode cX9_forget 10 = .ok (.iload_n 1, 1) := by decide +kernel
theorem dX9_forget_11 : decode cX9_forget 11 = .ok (.ireturn, 1) := by decide +kernel
set_option maxRecDepth 20000 in
theorem ggX9_isSo_X9_passes : GoodIn wsX9_isSo wsX9_passes := goodIn_r _ [8, 9, 10, 11, 12, 13, 14, 7, 15, 16, 17, 18, 19, 20, 21, 22, 23, 28, 29, 30, 31, 32, 33, 34, 35, 36, 37, 38, 39, 40, 41, 42, 43, 44] (by decide +kernel) (by decide +kernel)
set_option maxRecDepth 20000 in
theorem gX9_isSo_X9_passes : GoodIn wsX9_isSo (wsV RX9 122 RX9 yX9_passes wsX9_passes) := goodIn_app (goodIn_of _ (by decide +kernel)) ggX9_isSo_X9_passes
set_option maxRecDepth 20000 in
theorem ggX9_isSo_X9_due : GoodIn wsX9_isSo wsX9_due := goodIn_r _ [27, 9, 28, 29, 30, 31, 32, 33, 34, 35, 36, 37, 38, 39, 40, 41, 42, 43, 44] (by decide +kernel) (by decide +kernel)
set_option maxRecDepth 20000 in
theorem gX9_isSo_X9_due : GoodIn wsX9_isSo (wsV RX9 108 RX9 yX9_due wsX9_due) := goodIn_app (goodIn_of _ (by decide +kernel)) ggX9_isSo_X9_due
theorem dX9_isSo_0 : decode cX9_isSo 0 = .ok (.iconst 1, 1) := by decide +kernel
theorem dX9_isSo_1 : decode cX9_isSo 1 = .ok (.istore_n 2, 1) := by decide +kernel
theorem dX9_isSo_2 : decode cX9_isSo 2 = .ok (.iconst 1, 1) := by decide +kernel
theorem dX9_isSo_3 : decode cX9_isSo 3 = .ok (.istore_n 3, 1) := by decide +kernel
theorem dX9_isSo_4 : decode cX9_isSo 4 = .ok (.iload_n 3, 1) := by decide +kernel
theorem dX9_isSo_5 : decode cX9_isSo 5 = .ok (.bipush 20, 2) := by decide +kernel
theorem dX9_isSo_7 : decode cX9_isSo 7 = .ok (.if_icmp .gt 107, 3) := by decide +kernel
theorem dX9_isSo_10 : decode cX9_isSo 10 = .ok (.iload_n 2, 1) := by decide +kernel
theorem dX9_isSo_11 : decode cX9_isSo 11 = .ok (.ifCond .eq 103, 3) := by decide +kernel
theorem dX9_isSo_14 : decode cX9_isSo 14 = .ok (.aload_n 0, 1) := by decide +kernel
theorem dX9_isSo_15 : decode cX9_isSo 15 = .ok (.iconst 1, 1) := by decide +kernel
theorem dX9_isSo_16 : decode cX9_isSo 16 = .ok (.invokevirtual 122, 3) := by decide +kernel
theorem dX9_isSo_19 : decode cX9_isSo 19 = .ok (.iconst 0, 1) := by decide +kernel
theorem dX9_isSo_20 : decode cX9_isSo 20 = .ok (.istore 4, 2) := by decide +kernel
theorem dX9_isSo_22 : decode cX9_isSo 22 = .ok (.iload 4, 2) := by decide +kernel
theorem dX9_isSo_24 : decode cX9_isSo 24 = .ok (.aload_n 0, 1) := by decide +kernel
theorem dX9_isSo_25 : decode cX9_isSo 25 = .ok (.getfield 99, 3) := by decide +kernel
theorem dX9_isSo_28 : decode cX9_isSo 28 = .ok (.if_icmp .ge 80, 3) := by decide +kernel
theorem dX9_isSo_31 : decode cX9_isSo 31 = .ok (.aload_n 0, 1) := by decide +kernel
theorem dX9_isSo_32 : decode cX9_isSo 32 = .ok (.getfield 31, 3) := by decide +kernel
theorem dX9_isSo_35 : decode cX9_isSo 35 = .ok (.iconst 3, 1) := by decide +kernel
theorem dX9_isSo_36 : decode cX9_isSo 36 = .ok (.iload 4, 2) := by decide +kernel
theorem dX9_isSo_38 : decode cX9_isSo 38 = .ok (.imul, 1) := by decide +kernel
theorem dX9_isSo_39 : decode cX9_isSo 39 = .ok (.iaload, 1) := by decide +kernel
theorem dX9_isSo_40 : decode cX9_isSo 40 = .ok (.istore 5, 2) := by decide +kernel
theorem dX9_isSo_42 : decode cX9_isSo 42 = .ok (.iload_n 2, 1) := by decide +kernel
theorem dX9_isSo_43 : decode cX9_isSo 43 = .ok (.ifCond .eq 57, 3) := by decide +kernel
theorem dX9_isSo_46 : decode cX9_isSo 46 = .ok (.iload_n 1, 1) := by decide +kernel
theorem dX9_isSo_47 : decode cX9_isSo 47 = .ok (.bipush (-4), 2) := by decide +kernel
theorem dX9_isSo_49 : decode cX9_isSo 49 = .ok (.if_icmp .eq 9, 3) := by decide +kernel
theorem dX9_isSo_52 : decode cX9_isSo 52 = .ok (.iload 5, 2) := by decide +kernel
theorem dX9_isSo_54 : decode cX9_isSo 54 = .ok (.iload_n 1, 1) := by decide +kernel
theorem dX9_isSo_55 : decode cX9_isSo 55 = .ok (.if_icmp .ne 41, 3) := by decide +kernel
theorem dX9_isSo_58 : decode cX9_isSo 58 = .ok (.aload_n 0, 1) := by decide +kernel
theorem dX9_isSo_59 : decode cX9_isSo 59 = .ok (.getfield 31, 3) := by decide +kernel
theorem dX9_isSo_62 : decode cX9_isSo 62 = .ok (.iconst 3, 1) := by decide +kernel
theorem dX9_isSo_63 : decode cX9_isSo 63 = .ok (.iload 4, 2) := by decide +kernel
theorem dX9_isSo_65 : decode cX9_isSo 65 = .ok (.imul, 1) := by decide +kernel
theorem dX9_isSo_66 : decode cX9_isSo 66 = .ok (.iconst 1, 1) := by decide +kernel
theorem dX9_isSo_67 : decode cX9_isSo 67 = .ok (.iadd, 1) := by decide +kernel
theorem dX9_isSo_68 : decode cX9_isSo 68 = .ok (.iaload, 1) := by decide +kernel
theorem dX9_isSo_69 : decode cX9_isSo 69 = .ok (.iload_n 3, 1) := by decide +kernel
theorem dX9_isSo_70 : decode cX9_isSo 70 = .ok (.if_icmp .ne 26, 3) := by decide +kernel
theorem dX9_isSo_73 : decode cX9_isSo 73 = .ok (.aload_n 0, 1) := by decide +kernel
theorem dX9_isSo_74 : decode cX9_isSo 74 = .ok (.iload 5, 2) := by decide +kernel
theorem dX9_isSo_76 : decode cX9_isSo 76 = .ok (.invokevirtual 108, 3) := by decide +kernel
theorem dX9_isSo_79 : decode cX9_isSo 79 = .ok (.ldc 111, 2) := by decide +kernel
theorem dX9_isSo_81 : decode cX9_isSo 81 = .ok (.iadd, 1) := by decide +kernel
theorem dX9_isSo_82 : decode cX9_isSo 82 = .ok (.aload_n 0, 1) := by decide +kernel
theorem dX9_isSo_83 : decode cX9_isSo 83 = .ok (.getfield 31, 3) := by decide +kernel
theorem dX9_isSo_86 : decode cX9_isSo 86 = .ok (.iconst 3, 1) := by decide +kernel
theorem dX9_isSo_87 : decode cX9_isSo 87 = .ok (.iload 4, 2) := by decide +kernel
theorem dX9_isSo_89 : decode cX9_isSo 89 = .ok (.imul, 1) := by decide +kernel
theorem dX9_isSo_90 : decode cX9_isSo 90 = .ok (.iconst 2, 1) := by decide +kernel
theorem dX9_isSo_91 : decode cX9_isSo 91 = .ok (.iadd, 1) := by decide +kernel
theorem dX9_isSo_92 : decode cX9_isSo 92 = .ok (.iaload, 1) := by decide +kernel
theorem dX9_isSo_93 : decode cX9_isSo 93 = .ok (.if_icmp .ne 7, 3) := by decide +kernel
theorem dX9_isSo_96 : decode cX9_isSo 96 = .ok (.iconst 1, 1) := by decide +kernel
theorem dX9_isSo_97 : decode cX9_isSo 97 = .ok (.goto 4, 3) := by decide +kernel
theorem dX9_isSo_100 : decode cX9_isSo 100 = .ok (.iconst 0, 1) := by decide +kernel
theorem dX9_isSo_101 : decode cX9_isSo 101 = .ok (.istore_n 2, 1) := by decide +kernel
theorem dX9_isSo_102 : decode cX9_isSo 102 = .ok (.iinc 4 1, 3) := by decide +kernel
theorem dX9_isSo_105 : decode cX9_isSo 105 = .ok (.goto (-83), 3) := by decide +kernel
theorem dX9_isSo_108 : decode cX9_isSo 108 = .ok (.iinc 3 1, 3) := by decide +kernel
theorem dX9_isSo_111 : decode cX9_isSo 111 = .ok (.goto (-107), 3) := by decide +kernel
theorem dX9_isSo_114 : decode cX9_isSo 114 = .ok (.iload_n 2, 1) := by decide +kernel
theorem dX9_isSo_115 : decode cX9_isSo 115 = .ok (.ireturn, 1) := by decide +kernel
theorem dX9_next_0 : decode cX9_next 0 = .ok (.iload_n 1, 1) := by decide +kernel
theorem dX9_next_1 : decode cX9_next 1 = .ok (.iconst 2, 1) := by decide +kernel
theorem dX9_next_2 : decode cX9_next 2 = .ok (.isub, 1) := by decide +kernel
theorem dX9_next_3 : decode cX9_next 3 = .ok (.istore_n 2, 1) := by decide +kernel
theorem dX9_next_4 : decode cX9_next 4 = .ok (.iload_n 2, 1) := by decide +kernel
theorem dX9_next_5 : decode cX9_next 5 = .ok (.ifCond .lt 26, 3) := by decide +kernel
theorem dX9_next_8 : decode cX9_next 8 = .ok (.aload_n 0, 1) := by decide +kernel
theorem dX9_next_9 : decode cX9_next 9 = .ok (.getfield 43, 3) := by decide +kernel
theorem dX9_next_12 : decode cX9_next 12 = .ok (.iload_n 2, 1) := by decide +kernel
theorem dX9_next_13 : decode cX9_next 13 = .ok (.iaload, 1) := by decide +kernel
theorem dX9_next_14 : decode cX9_next 14 = .ok (.aload_n 0, 1) := by decide +kernel
theorem dX9_next_15 : decode cX9_next 15 = .ok (.getfield 43, 3) := by decide +kernel
theorem dX9_next_18 : decode cX9_next 18 = .ok (.iload_n 2, 1) := by decide +kernel
theorem dX9_next_19 : decode cX9_next 19 = .ok (.iconst 1, 1) := by decide +kernel
theorem dX9_next_20 : decode cX9_next 20 = .ok (.iadd, 1) := by decide +kernel
theorem dX9_next_21 : decode cX9_next 21 = .ok (.iaload, 1) := by decide +kernel
theorem dX9_next_22 : decode cX9_next 22 = .ok (.if_icmp .le 9, 3) := by decide +kernel
theorem dX9_next_25 : decode cX9_next 25 = .ok (.iinc 2 (-1), 3) := by decide +kernel
theorem dX9_next_28 : decode cX9_next 28 = .ok (.goto (-24), 3) := by decide +kernel
theorem dX9_next_31 : decode cX9_next 31 = .ok (.iload_n 2, 1) := by decide +kernel
theorem dX9_next_32 : decode cX9_next 32 = .ok (.ifCond .ge 5, 3) := by decide +kernel
theorem dX9_next_35 : decode cX9_next 35 = .ok (.iconst 0, 1) := by decide +kernel
theorem dX9_next_36 : decode cX9_next 36 = .ok (.ireturn, 1) := by decide +kernel
theorem dX9_next_37 : decode cX9_next 37 = .ok (.iload_n 1, 1) := by decide +kernel
theorem dX9_next_38 : decode cX9_next 38 = .ok (.iconst 1, 1) := by decide +kernel
theorem dX9_next_39 : decode cX9_next 39 = .ok (.isub, 1) := by decide +kernel
theorem dX9_next_40 : decode cX9_next 40 = .ok (.istore_n 3, 1) := by decide +kernel
theorem dX9_next_41 : decode cX9_next 41 = .ok (.aload_n 0, 1) := by decide +kernel
theorem dX9_next_42 : decode cX9_next 42 = .ok (.getfield 43, 3) := by decide +kernel
theorem dX9_next_45 : decode cX9_next 45 = .ok (.iload_n 3, 1) := by decide +kernel
theorem dX9_next_46 : decode cX9_next 46 = .ok (.iaload, 1) := by decide +kernel
theorem dX9_next_47 : decode cX9_next 47 = .ok (.aload_n 0, 1) := by decide +kernel
theorem dX9_next_48 : decode cX9_next 48 = .ok (.getfield 43, 3) := by decide +kernel
theorem dX9_next_51 : decode cX9_next 51 = .ok (.iload_n 2, 1) := by decide +kernel
theorem dX9_next_52 : decode cX9_next 52 = .ok (.iaload, 1) := by decide +kernel
theorem dX9_next_53 : decode cX9_next 53 = .ok (.if_icmp .ge 9, 3) := by decide +kernel
theorem dX9_next_56 : decode cX9_next 56 = .ok (.iinc 3 (-1), 3) := by decide +kernel
theorem dX9_next_59 : decode cX9_next 59 = .ok (.goto (-18), 3) := by decide +kernel
theorem dX9_next_62 : decode cX9_next 62 = .ok (.aload_n 0, 1) := by decide +kernel
theorem dX9_next_63 : decode cX9_next 63 = .ok (.getfield 43, 3) := by decide +kernel
theorem dX9_next_66 : decode cX9_next 66 = .ok (.iload_n 2, 1) := by decide +kernel
theorem dX9_next_67 : decode cX9_next 67 = .ok (.iaload, 1) := by decide +kernel
theorem dX9_next_68 : decode cX9_next 68 = .ok (.istore 4, 2) := by decide +kernel
theorem dX9_next_70 : decode cX9_next 70 = .ok (.aload_n 0, 1) := by decide +kernel
theorem dX9_next_71 : decode cX9_next 71 = .ok (.getfield 43, 3) := by decide +kernel
theorem dX9_next_74 : decode cX9_next 74 = .ok (.iload_n 2, 1) := by decide +kernel
theorem dX9_next_75 : decode cX9_next 75 = .ok (.aload_n 0, 1) := by decide +kernel
theorem dX9_next_76 : decode cX9_next 76 = .ok (.getfield 43, 3) := by decide +kernel
theorem dX9_next_79 : decode cX9_next 79 = .ok (.iload_n 3, 1) := by decide +kernel
theorem dX9_next_80 : decode cX9_next 80 = .ok (.iaload, 1) := by decide +kernel
theorem dX9_next_81 : decode cX9_next 81 = .ok (.iastore, 1) := by decide +kernel
theorem dX9_next_82 : decode cX9_next 82 = .ok (.aload_n 0, 1) := by decide +kernel
theorem dX9_next_83 : decode cX9_next 83 = .ok (.getfield 43, 3) := by decide +kernel
theorem dX9_next_86 : decode cX9_next 86 = .ok (.iload_n 3, 1) := by decide +kernel
theorem dX9_next_87 : decode cX9_next 87 = .ok (.iload 4, 2) := by decide +kernel
theorem dX9_next_89 : decode cX9_next 89 = .ok (.iastore, 1) := by decide +kernel
theorem dX9_next_90 : decode cX9_next 90 = .ok (.iload_n 2, 1) := by decide +kernel
theorem dX9_next_91 : decode cX9_next 91 = .ok (.iconst 1, 1) := by decide +kernel
theorem dX9_next_92 : decode cX9_next 92 = .ok (.iadd, 1) := by decide +kernel
theorem dX9_next_93 : decode cX9_next 93 = .ok (.istore 5, 2) := by decide +kernel
theorem dX9_next_95 : decode cX9_next 95 = .ok (.iload_n 1, 1) := by decide +kernel
theorem dX9_next_96 : decode cX9_next 96 = .ok (.iconst 1, 1) := by decide +kernel
theorem dX9_next_97 : decode cX9_next 97 = .ok (.isub, 1) := by decide +kernel
theorem dX9_next_98 : decode cX9_next 98 = .ok (.istore 6, 2) := by decide +kernel
theorem dX9_next_100 : decode cX9_next 100 = .ok (.iload 5, 2) := by decide +kernel
theorem dX9_next_102 : decode cX9_next 102 = .ok (.iload 6, 2) := by decide +kernel
theorem dX9_next_104 : decode cX9_next 104 = .ok (.if_icmp .ge 44, 3) := by decide +kernel
theorem dX9_next_107 : decode cX9_next 107 = .ok (.aload_n 0, 1) := by decide +kernel
theorem dX9_next_108 : decode cX9_next 108 = .ok (.getfield 43, 3) := by decide +kernel
theorem dX9_next_111 : decode cX9_next 111 = .ok (.iload 5, 2) := by decide +kernel
theorem dX9_next_113 : decode cX9_next 113 = .ok (.iaload, 1) := by decide +kernel
theorem dX9_next_114 : decode cX9_next 114 = .ok (.istore 4, 2) := by decide +kernel
theorem dX9_next_116 : decode cX9_next 116 = .ok (.aload_n 0, 1) := by decide +kernel
theorem dX9_next_117 : decode cX9_next 117 = .ok (.getfield 43, 3) := by decide +kernel
theorem dX9_next_120 : decode cX9_next 120 = .ok (.iload 5, 2) := by decide +kernel
theorem dX9_next_122 : decode cX9_next 122 = .ok (.aload_n 0, 1) := by decide +kernel
theorem dX9_next_123 : decode cX9_next 123 = .ok (.getfield 43, 3) := by decide +kernel
theorem dX9_next_126 : decode cX9_next 126 = .ok (.iload 6, 2) := by decide +kernel
theorem dX9_next_128 : decode cX9_next 128 = .ok (.iaload, 1) := by decide +kernel
theorem dX9_next_129 : decode cX9_next 129 = .ok (.iastore, 1) := by decide +kernel
theorem dX9_next_130 : decode cX9_next 130 = .ok (.aload_n 0, 1) := by decide +kernel
theorem dX9_next_131 : decode cX9_next 131 = .ok (.getfield 43, 3) := by decide +kernel
theorem dX9_next_134 : decode cX9_next 134 = .ok (.iload 6, 2) := by decide +kernel
theorem dX9_next_136 : decode cX9_next 136 = .ok (.iload 4, 2) := by decide +kernel
theorem dX9_next_138 : decode cX9_next 138 = .ok (.iastore, 1) := by decide +kernel
theorem dX9_next_139 : decode cX9_next 139 = .ok (.iinc 5 1, 3) := by decide +kernel
theorem dX9_next_142 : decode cX9_next 142 = .ok (.iinc 6 (-1), 3) := by decide +kernel
theorem dX9_next_145 : decode cX9_next 145 = .ok (.goto (-45), 3) := by decide +kernel
theorem dX9_next_148 : decode cX9_next 148 = .ok (.iconst 1, 1) := by decide +kernel
theorem dX9_next_149 : decode cX9_next 149 = .ok (.ireturn, 1) := by decide +kernel
set_option maxRecDepth 20000 in
theorem ggX9_orders_X9_in : GoodIn wsX9_orders wsX9_in := goodIn_r _ [7] (by decide +kernel) (by decide +kernel)
set_option maxRecDepth 20000 in
theorem gX9_orders_X9_in : GoodIn wsX9_orders (va_wsS RX9 56 yX9_in wsX9_in) := goodIn_app (goodIn_of _ (by decide +kernel)) ggX9_orders_X9_in
set_option maxRecDepth 20000 in
theorem ggX9_orders_X9_holds : GoodIn wsX9_orders wsX9_holds := goodIn_r _ [11, 12, 2, 49, 50, 51, 52, 53, 54, 55, 56, 57, 58, 59, 60, 61, 62, 63, 64, 65] (by decide +kernel) (by decide +kernel)
set_option maxRecDepth 20000 in
theorem gX9_orders_X9_holds : GoodIn wsX9_orders (wsV RX9 143 RX9 yX9_holds wsX9_holds) := goodIn_app (goodIn_of _ (by decide +kernel)) ggX9_orders_X9_holds
set_option maxRecDepth 20000 in
theorem ggX9_orders_X9_isSo : GoodIn wsX9_orders wsX9_isSo := goodIn_r _ [16, 17, 18, 19, 20, 21, 22, 6, 23, 2, 24, 1, 25, 26, 27, 28, 29, 30, 31, 32, 33, 34, 35, 36, 37, 38, 39, 40, 49, 50, 51, 52, 53, 54, 55, 56, 57, 58, 59, 60, 61, 62, 63, 64, 65] (by decide +kernel) (by decide +kernel)
set_option maxRecDepth 20000 in
theorem gX9_orders_X9_isSo : GoodIn wsX9_orders (wsV RX9 153 RX9 yX9_isSo wsX9_isSo) := goodIn_app (goodIn_of _ (by decide +kernel)) ggX9_orders_X9_isSo
set_option maxRecDepth 20000 in
theorem ggX9_orders_X9_backs : GoodIn wsX9_orders wsX9_backs := goodIn_r _ [44, 2, 12, 49, 50, 51, 52, 53, 54, 55, 56, 57, 58, 59, 60, 61, 62, 63, 64, 65] (by decide +kernel) (by decide +kernel)
set_option maxRecDepth 20000 in
theorem gX9_orders_X9_backs : GoodIn wsX9_orders (wsV RX9 146 RX9 yX9_backs wsX9_backs) := goodIn_app (goodIn_of _ (by decide +kernel)) ggX9_orders_X9_backs
set_option maxRecDepth 20000 in
theorem ggX9_orders_X9_next : GoodIn wsX9_orders wsX9_next := goodIn_r _ [48, 3, 49, 50, 51, 52, 53, 54, 55, 56, 57, 58, 59, 60, 61, 62, 63, 64, 65] (by decide +kernel) (by decide +kernel)
set_option maxRecDepth 20000 in
theorem gX9_orders_X9_next : GoodIn wsX9_orders (wsV RX9 156 RX9 yX9_next wsX9_next) := goodIn_app (goodIn_of _ (by decide +kernel)) ggX9_orders_X9_next
theorem dX9_orders_0 : decode cX9_orders 0 = .ok (.iload_n 1, 1) := by decide +kernel
theorem dX9_orders_1 : decode cX9_orders 1 = .ok (.iconst (-1), 1) := by decide +kernel
theorem dX9_orders_2 : decode cX9_orders 2 = .ok (.bipush 6, 2) := by decide +kernel
theorem dX9_orders_4 : decode cX9_orders 4 = .ok (.invokestatic 56, 3) := by decide +kernel
theorem dX9_orders_7 : decode cX9_orders 7 = .ok (.ifCond .ne 5, 3) := by decide +kernel
theorem dX9_orders_10 : decode cX9_orders 10 = .ok (.iconst (-1), 1) := by decide +kernel
theorem dX9_orders_11 : decode cX9_orders 11 = .ok (.ireturn, 1) := by decide +kernel
theorem dX9_orders_12 : decode cX9_orders 12 = .ok (.aload_n 0, 1) := by decide +kernel
theorem dX9_orders_13 : decode cX9_orders 13 = .ok (.invokevirtual 143, 3) := by decide +kernel
theorem dX9_orders_16 : decode cX9_orders 16 = .ok (.iconst 0, 1) := by decide +kernel
theorem dX9_orders_17 : decode cX9_orders 17 = .ok (.istore_n 2, 1) := by decide +kernel
theorem dX9_orders_18 : decode cX9_orders 18 = .ok (.iconst 0, 1) := by decide +kernel
theorem dX9_orders_19 : decode cX9_orders 19 = .ok (.istore_n 3, 1) := by decide +kernel
theorem dX9_orders_20 : decode cX9_orders 20 = .ok (.iload_n 3, 1) := by decide +kernel
theorem dX9_orders_21 : decode cX9_orders 21 = .ok (.aload_n 0, 1) := by decide +kernel
theorem dX9_orders_22 : decode cX9_orders 22 = .ok (.getfield 13, 3) := by decide +kernel
theorem dX9_orders_25 : decode cX9_orders 25 = .ok (.iconst 0, 1) := by decide +kernel
theorem dX9_orders_26 : decode cX9_orders 26 = .ok (.iaload, 1) := by decide +kernel
theorem dX9_orders_27 : decode cX9_orders 27 = .ok (.if_icmp .ge 31, 3) := by decide +kernel
theorem dX9_orders_30 : decode cX9_orders 30 = .ok (.aload_n 0, 1) := by decide +kernel
theorem dX9_orders_31 : decode cX9_orders 31 = .ok (.getfield 22, 3) := by decide +kernel
theorem dX9_orders_34 : decode cX9_orders 34 = .ok (.bipush 9, 2) := by decide +kernel
theorem dX9_orders_36 : decode cX9_orders 36 = .ok (.iload_n 3, 1) := by decide +kernel
theorem dX9_orders_37 : decode cX9_orders 37 = .ok (.iadd, 1) := by decide +kernel
theorem dX9_orders_38 : decode cX9_orders 38 = .ok (.iaload, 1) := by decide +kernel
theorem dX9_orders_39 : decode cX9_orders 39 = .ok (.ifCond .ne 13, 3) := by decide +kernel
theorem dX9_orders_42 : decode cX9_orders 42 = .ok (.aload_n 0, 1) := by decide +kernel
theorem dX9_orders_43 : decode cX9_orders 43 = .ok (.getfield 43, 3) := by decide +kernel
theorem dX9_orders_46 : decode cX9_orders 46 = .ok (.iload_n 2, 1) := by decide +kernel
theorem dX9_orders_47 : decode cX9_orders 47 = .ok (.iload_n 3, 1) := by decide +kernel
theorem dX9_orders_48 : decode cX9_orders 48 = .ok (.iastore, 1) := by decide +kernel
theorem dX9_orders_49 : decode cX9_orders 49 = .ok (.iinc 2 1, 3) := by decide +kernel
theorem dX9_orders_52 : decode cX9_orders 52 = .ok (.iinc 3 1, 3) := by decide +kernel
theorem dX9_orders_55 : decode cX9_orders 55 = .ok (.goto (-35), 3) := by decide +kernel
theorem dX9_orders_58 : decode cX9_orders 58 = .ok (.iconst 0, 1) := by decide +kernel
theorem dX9_orders_59 : decode cX9_orders 59 = .ok (.istore_n 3, 1) := by decide +kernel
theorem dX9_orders_60 : decode cX9_orders 60 = .ok (.bipush (-4), 2) := by decide +kernel
theorem dX9_orders_62 : decode cX9_orders 62 = .ok (.istore 4, 2) := by decide +kernel
theorem dX9_orders_64 : decode cX9_orders 64 = .ok (.iconst 1, 1) := by decide +kernel
theorem dX9_orders_65 : decode cX9_orders 65 = .ok (.istore 5, 2) := by decide +kernel
theorem dX9_orders_67 : decode cX9_orders 67 = .ok (.iload 5, 2) := by decide +kernel
theorem dX9_orders_69 : decode cX9_orders 69 = .ok (.ifCond .eq 86, 3) := by decide +kernel
theorem dX9_orders_72 : decode cX9_orders 72 = .ok (.iconst 0, 1) := by decide +kernel
theorem dX9_orders_73 : decode cX9_orders 73 = .ok (.istore 6, 2) := by decide +kernel
theorem dX9_orders_75 : decode cX9_orders 75 = .ok (.iload 6, 2) := by decide +kernel
theorem dX9_orders_77 : decode cX9_orders 77 = .ok (.iload_n 2, 1) := by decide +kernel
theorem dX9_orders_78 : decode cX9_orders 78 = .ok (.if_icmp .ge 25, 3) := by decide +kernel
theorem dX9_orders_81 : decode cX9_orders 81 = .ok (.aload_n 0, 1) := by decide +kernel
theorem dX9_orders_82 : decode cX9_orders 82 = .ok (.getfield 22, 3) := by decide +kernel
theorem dX9_orders_85 : decode cX9_orders 85 = .ok (.iconst 2, 1) := by decide +kernel
theorem dX9_orders_86 : decode cX9_orders 86 = .ok (.iload 6, 2) := by decide +kernel
theorem dX9_orders_88 : decode cX9_orders 88 = .ok (.iadd, 1) := by decide +kernel
theorem dX9_orders_89 : decode cX9_orders 89 = .ok (.aload_n 0, 1) := by decide +kernel
theorem dX9_orders_90 : decode cX9_orders 90 = .ok (.getfield 43, 3) := by decide +kernel
theorem dX9_orders_93 : decode cX9_orders 93 = .ok (.iload 6, 2) := by decide +kernel
theorem dX9_orders_95 : decode cX9_orders 95 = .ok (.iaload, 1) := by decide +kernel
theorem dX9_orders_96 : decode cX9_orders 96 = .ok (.iastore, 1) := by decide +kernel
theorem dX9_orders_97 : decode cX9_orders 97 = .ok (.iinc 6 1, 3) := by decide +kernel
theorem dX9_orders_100 : decode cX9_orders 100 = .ok (.goto (-25), 3) := by decide +kernel
theorem dX9_orders_103 : decode cX9_orders 103 = .ok (.aload_n 0, 1) := by decide +kernel
theorem dX9_orders_104 : decode cX9_orders 104 = .ok (.bipush (-4), 2) := by decide +kernel
theorem dX9_orders_106 : decode cX9_orders 106 = .ok (.invokevirtual 153, 3) := by decide +kernel
theorem dX9_orders_109 : decode cX9_orders 109 = .ok (.ifCond .eq 32, 3) := by decide +kernel
theorem dX9_orders_112 : decode cX9_orders 112 = .ok (.iload_n 3, 1) := by decide +kernel
theorem dX9_orders_113 : decode cX9_orders 113 = .ok (.ifCond .ne 21, 3) := by decide +kernel
theorem dX9_orders_116 : decode cX9_orders 116 = .ok (.iload_n 1, 1) := by decide +kernel
theorem dX9_orders_117 : decode cX9_orders 117 = .ok (.ifCond .lt 17, 3) := by decide +kernel
theorem dX9_orders_120 : decode cX9_orders 120 = .ok (.iload_n 1, 1) := by decide +kernel
theorem dX9_orders_121 : decode cX9_orders 121 = .ok (.iload_n 2, 1) := by decide +kernel
theorem dX9_orders_122 : decode cX9_orders 122 = .ok (.if_icmp .ge 12, 3) := by decide +kernel
theorem dX9_orders_125 : decode cX9_orders 125 = .ok (.aload_n 0, 1) := by decide +kernel
theorem dX9_orders_126 : decode cX9_orders 126 = .ok (.getfield 43, 3) := by decide +kernel
theorem dX9_orders_129 : decode cX9_orders 129 = .ok (.iload_n 1, 1) := by decide +kernel
theorem dX9_orders_130 : decode cX9_orders 130 = .ok (.iaload, 1) := by decide +kernel
theorem dX9_orders_131 : decode cX9_orders 131 = .ok (.goto 5, 3) := by decide +kernel
theorem dX9_orders_134 : decode cX9_orders 134 = .ok (.iload 4, 2) := by decide +kernel
theorem dX9_orders_136 : decode cX9_orders 136 = .ok (.istore 4, 2) := by decide +kernel
theorem dX9_orders_138 : decode cX9_orders 138 = .ok (.iinc 3 1, 3) := by decide +kernel
theorem dX9_orders_141 : decode cX9_orders 141 = .ok (.aload_n 0, 1) := by decide +kernel
theorem dX9_orders_142 : decode cX9_orders 142 = .ok (.invokevirtual 146, 3) := by decide +kernel
theorem dX9_orders_145 : decode cX9_orders 145 = .ok (.aload_n 0, 1) := by decide +kernel
theorem dX9_orders_146 : decode cX9_orders 146 = .ok (.iload_n 2, 1) := by decide +kernel
theorem dX9_orders_147 : decode cX9_orders 147 = .ok (.invokevirtual 156, 3) := by decide +kernel
theorem dX9_orders_150 : decode cX9_orders 150 = .ok (.istore 5, 2) := by decide +kernel
theorem dX9_orders_152 : decode cX9_orders 152 = .ok (.goto (-85), 3) := by decide +kernel
theorem dX9_orders_155 : decode cX9_orders 155 = .ok (.iload_n 1, 1) := by decide +kernel
theorem dX9_orders_156 : decode cX9_orders 156 = .ok (.iconst (-1), 1) := by decide +kernel
theorem dX9_orders_157 : decode cX9_orders 157 = .ok (.if_icmp .ne 7, 3) := by decide +kernel
theorem dX9_orders_160 : decode cX9_orders 160 = .ok (.iload_n 3, 1) := by decide +kernel
theorem dX9_orders_161 : decode cX9_orders 161 = .ok (.goto 5, 3) := by decide +kernel
theorem dX9_orders_164 : decode cX9_orders 164 = .ok (.iload 4, 2) := by decide +kernel
theorem dX9_orders_166 : decode cX9_orders 166 = .ok (.ireturn, 1) := by decide +kernel
set_option maxRecDepth 20000 in
theorem ggX9_kinds_X9_isOne : GoodIn wsX9_kinds wsX9_isOne := goodIn_r _ [6, 1, 7, 8, 5, 9, 48, 49, 50, 51, 52, 53, 54, 55, 56, 57, 58, 59, 60, 61, 62, 63, 64] (by decide +kernel) (by decide +kernel)
set_option maxRecDepth 20000 in
theorem gX9_kinds_X9_isOne : GoodIn wsX9_kinds (wsV RX9 102 RX9 yX9_isOne wsX9_isOne) := goodIn_app (goodIn_of _ (by decide +kernel)) ggX9_kinds_X9_isOne
set_option maxRecDepth 20000 in
theorem ggX9_kinds_X9_placeOf : GoodIn wsX9_kinds wsX9_placeOf := goodIn_r _ [13, 14, 48, 49, 50, 51, 52, 53, 54, 55, 56, 57, 58, 59, 60, 61, 62, 63, 64] (by decide +kernel) (by decide +kernel)
set_option maxRecDepth 20000 in
theorem gX9_kinds_X9_placeOf : GoodIn wsX9_kinds (wsV RX9 105 RX9 yX9_placeOf wsX9_placeOf) := goodIn_app (goodIn_of _ (by decide +kernel)) ggX9_kinds_X9_placeOf
set_option maxRecDepth 20000 in
theorem ggX9_kinds_X9_holds : GoodIn wsX9_kinds wsX9_holds := goodIn_r _ [18, 19, 14, 48, 49, 50, 51, 52, 53, 54, 55, 56, 57, 58, 59, 60, 61, 62, 63, 64] (by decide +kernel) (by decide +kernel)
set_option maxRecDepth 20000 in
theorem gX9_kinds_X9_holds : GoodIn wsX9_kinds (wsV RX9 143 RX9 yX9_holds wsX9_holds) := goodIn_app (goodIn_of _ (by decide +kernel)) ggX9_kinds_X9_holds
set_option maxRecDepth 20000 in
theorem ggX9_kinds_X9_isSo : GoodIn wsX9_kinds wsX9_isSo := goodIn_r _ [23, 24, 25, 26, 27, 28, 29, 5, 30, 14, 31, 1, 10, 11, 12, 13, 32, 33, 34, 35, 36, 37, 38, 39, 40, 41, 42, 43, 48, 49, 50, 51, 52, 53, 54, 55, 56, 57, 58, 59, 60, 61, 62, 63, 64] (by decide +kernel) (by decide +kernel)
set_option maxRecDepth 20000 in
theorem gX9_kinds_X9_isSo : GoodIn wsX9_kinds (wsV RX9 153 RX9 yX9_isSo wsX9_isSo) := goodIn_app (goodIn_of _ (by decide +kernel)) ggX9_kinds_X9_isSo
set_option maxRecDepth 20000 in
theorem ggX9_kinds_X9_backs : GoodIn wsX9_kinds wsX9_backs := goodIn_r _ [47, 14, 19, 48, 49, 50, 51, 52, 53, 54, 55, 56, 57, 58, 59, 60, 61, 62, 63, 64] (by decide +kernel) (by decide +kernel)
set_option maxRecDepth 20000 in
theorem gX9_kinds_X9_backs : GoodIn wsX9_kinds (wsV RX9 146 RX9 yX9_backs wsX9_backs) := goodIn_app (goodIn_of _ (by decide +kernel)) ggX9_kinds_X9_backs
theorem dX9_kinds_0 : decode cX9_kinds 0 = .ok (.aload_n 0, 1) := by decide +kernel
theorem dX9_kinds_1 : decode cX9_kinds 1 = .ok (.iload_n 1, 1) := by decide +kernel
theorem dX9_kinds_2 : decode cX9_kinds 2 = .ok (.invokevirtual 102, 3) := by decide +kernel
theorem dX9_kinds_5 : decode cX9_kinds 5 = .ok (.ifCond .ne 5, 3) := by decide +kernel
theorem dX9_kinds_8 : decode cX9_kinds 8 = .ok (.iconst (-1), 1) := by decide +kernel
theorem dX9_kinds_9 : decode cX9_kinds 9 = .ok (.ireturn, 1) := by decide +kernel
theorem dX9_kinds_10 : decode cX9_kinds 10 = .ok (.aload_n 0, 1) := by decide +kernel
theorem dX9_kinds_11 : decode cX9_kinds 11 = .ok (.iload_n 1, 1) := by decide +kernel
theorem dX9_kinds_12 : decode cX9_kinds 12 = .ok (.invokevirtual 105, 3) := by decide +kernel
theorem dX9_kinds_15 : decode cX9_kinds 15 = .ok (.bipush (-4), 2) := by decide +kernel
theorem dX9_kinds_17 : decode cX9_kinds 17 = .ok (.if_icmp .ne 6, 3) := by decide +kernel
theorem dX9_kinds_20 : decode cX9_kinds 20 = .ok (.bipush (-2), 2) := by decide +kernel
theorem dX9_kinds_22 : decode cX9_kinds 22 = .ok (.ireturn, 1) := by decide +kernel
theorem dX9_kinds_23 : decode cX9_kinds 23 = .ok (.aload_n 0, 1) := by decide +kernel
theorem dX9_kinds_24 : decode cX9_kinds 24 = .ok (.invokevirtual 143, 3) := by decide +kernel
theorem dX9_kinds_27 : decode cX9_kinds 27 = .ok (.aload_n 0, 1) := by decide +kernel
theorem dX9_kinds_28 : decode cX9_kinds 28 = .ok (.getfield 13, 3) := by decide +kernel
theorem dX9_kinds_31 : decode cX9_kinds 31 = .ok (.iconst 2, 1) := by decide +kernel
theorem dX9_kinds_32 : decode cX9_kinds 32 = .ok (.iload_n 1, 1) := by decide +kernel
theorem dX9_kinds_33 : decode cX9_kinds 33 = .ok (.iadd, 1) := by decide +kernel
theorem dX9_kinds_34 : decode cX9_kinds 34 = .ok (.iaload, 1) := by decide +kernel
theorem dX9_kinds_35 : decode cX9_kinds 35 = .ok (.istore_n 2, 1) := by decide +kernel
theorem dX9_kinds_36 : decode cX9_kinds 36 = .ok (.iconst 0, 1) := by decide +kernel
theorem dX9_kinds_37 : decode cX9_kinds 37 = .ok (.istore_n 3, 1) := by decide +kernel
theorem dX9_kinds_38 : decode cX9_kinds 38 = .ok (.iconst 0, 1) := by decide +kernel
theorem dX9_kinds_39 : decode cX9_kinds 39 = .ok (.istore 4, 2) := by decide +kernel
theorem dX9_kinds_41 : decode cX9_kinds 41 = .ok (.iload 4, 2) := by decide +kernel
theorem dX9_kinds_43 : decode cX9_kinds 43 = .ok (.iconst 4, 1) := by decide +kernel
theorem dX9_kinds_44 : decode cX9_kinds 44 = .ok (.if_icmp .ge 42, 3) := by decide +kernel
theorem dX9_kinds_47 : decode cX9_kinds 47 = .ok (.aload_n 0, 1) := by decide +kernel
theorem dX9_kinds_48 : decode cX9_kinds 48 = .ok (.getfield 13, 3) := by decide +kernel
theorem dX9_kinds_51 : decode cX9_kinds 51 = .ok (.iconst 2, 1) := by decide +kernel
theorem dX9_kinds_52 : decode cX9_kinds 52 = .ok (.iload_n 1, 1) := by decide +kernel
theorem dX9_kinds_53 : decode cX9_kinds 53 = .ok (.iadd, 1) := by decide +kernel
theorem dX9_kinds_54 : decode cX9_kinds 54 = .ok (.iload 4, 2) := by decide +kernel
theorem dX9_kinds_56 : decode cX9_kinds 56 = .ok (.iastore, 1) := by decide +kernel
theorem dX9_kinds_57 : decode cX9_kinds 57 = .ok (.iload_n 3, 1) := by decide +kernel
theorem dX9_kinds_58 : decode cX9_kinds 58 = .ok (.aload_n 0, 1) := by decide +kernel
theorem dX9_kinds_59 : decode cX9_kinds 59 = .ok (.iload_n 1, 1) := by decide +kernel
theorem dX9_kinds_60 : decode cX9_kinds 60 = .ok (.invokevirtual 153, 3) := by decide +kernel
theorem dX9_kinds_63 : decode cX9_kinds 63 = .ok (.ifCond .eq 10, 3) := by decide +kernel
theorem dX9_kinds_66 : decode cX9_kinds 66 = .ok (.iconst 1, 1) := by decide +kernel
theorem dX9_kinds_67 : decode cX9_kinds 67 = .ok (.iload 4, 2) := by decide +kernel
theorem dX9_kinds_69 : decode cX9_kinds 69 = .ok (.ishl, 1) := by decide +kernel
theorem dX9_kinds_70 : decode cX9_kinds 70 = .ok (.goto 4, 3) := by decide +kernel
theorem dX9_kinds_73 : decode cX9_kinds 73 = .ok (.iconst 0, 1) := by decide +kernel
theorem dX9_kinds_74 : decode cX9_kinds 74 = .ok (.ior, 1) := by decide +kernel
theorem dX9_kinds_75 : decode cX9_kinds 75 = .ok (.istore_n 3, 1) := by decide +kernel
theorem dX9_kinds_76 : decode cX9_kinds 76 = .ok (.aload_n 0, 1) := by decide +kernel
theorem dX9_kinds_77 : decode cX9_kinds 77 = .ok (.invokevirtual 146, 3) := by decide +kernel
theorem dX9_kinds_80 : decode cX9_kinds 80 = .ok (.iinc 4 1, 3) := by decide +kernel
theorem dX9_kinds_83 : decode cX9_kinds 83 = .ok (.goto (-42), 3) := by decide +kernel
theorem dX9_kinds_86 : decode cX9_kinds 86 = .ok (.aload_n 0, 1) := by decide +kernel
theorem dX9_kinds_87 : decode cX9_kinds 87 = .ok (.getfield 13, 3) := by decide +kernel
theorem dX9_kinds_90 : decode cX9_kinds 90 = .ok (.iconst 2, 1) := by decide +kernel
theorem dX9_kinds_91 : decode cX9_kinds 91 = .ok (.iload_n 1, 1) := by decide +kernel
theorem dX9_kinds_92 : decode cX9_kinds 92 = .ok (.iadd, 1) := by decide +kernel
theorem dX9_kinds_93 : decode cX9_kinds 93 = .ok (.iload_n 2, 1) := by decide +kernel
theorem dX9_kinds_94 : decode cX9_kinds 94 = .ok (.iastore, 1) := by decide +kernel
theorem dX9_kinds_95 : decode cX9_kinds 95 = .ok (.iload_n 3, 1) := by decide +kernel
theorem dX9_kinds_96 : decode cX9_kinds 96 = .ok (.ireturn, 1) := by decide +kernel
set_option maxRecDepth 20000 in
theorem ggX9_rain_X9_isOne : GoodIn wsX9_rain wsX9_isOne := goodIn_r _ [6, 7, 8, 9, 5, 10, 37, 38, 39, 40, 41, 42, 43, 44, 45, 46, 47, 48, 49, 50, 51, 52, 53] (by decide +kernel) (by decide +kernel)
set_option maxRecDepth 20000 in
theorem gX9_rain_X9_isOne : GoodIn wsX9_rain (wsV RX9 102 RX9 yX9_isOne wsX9_isOne) := goodIn_app (goodIn_of _ (by decide +kernel)) ggX9_rain_X9_isOne
set_option maxRecDepth 20000 in
theorem ggX9_rain_X9_in : GoodIn wsX9_rain wsX9_in := goodIn_r _ [10] (by decide +kernel) (by decide +kernel)
set_option maxRecDepth 20000 in
theorem gX9_rain_X9_in : GoodIn wsX9_rain (va_wsS RX9 56 yX9_in wsX9_in) := goodIn_app (goodIn_of _ (by decide +kernel)) ggX9_rain_X9_in
set_option maxRecDepth 20000 in
theorem ggX9_rain_X9_holds : GoodIn wsX9_rain wsX9_holds := goodIn_r _ [14, 15, 1, 37, 38, 39, 40, 41, 42, 43, 44, 45, 46, 47, 48, 49, 50, 51, 52, 53] (by decide +kernel) (by decide +kernel)
set_option maxRecDepth 20000 in
theorem gX9_rain_X9_holds : GoodIn wsX9_rain (wsV RX9 143 RX9 yX9_holds wsX9_holds) := goodIn_app (goodIn_of _ (by decide +kernel)) ggX9_rain_X9_holds
set_option maxRecDepth 20000 in
theorem ggX9_rain_X9_passes : GoodIn wsX9_rain wsX9_passes := goodIn_r _ [19, 1, 20, 7, 21, 22, 23, 5, 24, 25, 26, 27, 28, 29, 30, 31, 32, 37, 38, 39, 40, 41, 42, 43, 44, 45, 46, 47, 48, 49, 50, 51, 52, 53] (by decide +kernel) (by decide +kernel)
set_option maxRecDepth 20000 in
theorem gX9_rain_X9_passes : GoodIn wsX9_rain (wsV RX9 122 RX9 yX9_passes wsX9_passes) := goodIn_app (goodIn_of _ (by decide +kernel)) ggX9_rain_X9_passes
set_option maxRecDepth 20000 in
theorem ggX9_rain_X9_backs : GoodIn wsX9_rain wsX9_backs := goodIn_r _ [36, 1, 15, 37, 38, 39, 40, 41, 42, 43, 44, 45, 46, 47, 48, 49, 50, 51, 52, 53] (by decide +kernel) (by decide +kernel)
set_option maxRecDepth 20000 in
theorem gX9_rain_X9_backs : GoodIn wsX9_rain (wsV RX9 146 RX9 yX9_backs wsX9_backs) := goodIn_app (goodIn_of _ (by decide +kernel)) ggX9_rain_X9_backs
theorem dX9_rain_0 : decode cX9_rain 0 = .ok (.aload_n 0, 1) := by decide +kernel
theorem dX9_rain_1 : decode cX9_rain 1 = .ok (.iload_n 1, 1) := by decide +kernel
theorem dX9_rain_2 : decode cX9_rain 2 = .ok (.invokevirtual 102, 3) := by decide +kernel
theorem dX9_rain_5 : decode cX9_rain 5 = .ok (.ifCond .eq 33, 3) := by decide +kernel
theorem dX9_rain_8 : decode cX9_rain 8 = .ok (.iload_n 2, 1) := by decide +kernel
theorem dX9_rain_9 : decode cX9_rain 9 = .ok (.iconst 0, 1) := by decide +kernel
theorem dX9_rain_10 : decode cX9_rain 10 = .ok (.bipush 8, 2) := by decide +kernel
theorem dX9_rain_12 : decode cX9_rain 12 = .ok (.invokestatic 56, 3) := by decide +kernel
theorem dX9_rain_15 : decode cX9_rain 15 = .ok (.ifCond .eq 23, 3) := by decide +kernel
theorem dX9_rain_18 : decode cX9_rain 18 = .ok (.iload_n 3, 1) := by decide +kernel
theorem dX9_rain_19 : decode cX9_rain 19 = .ok (.iconst 0, 1) := by decide +kernel
theorem dX9_rain_20 : decode cX9_rain 20 = .ok (.bipush 10, 2) := by decide +kernel
theorem dX9_rain_22 : decode cX9_rain 22 = .ok (.invokestatic 56, 3) := by decide +kernel
theorem dX9_rain_25 : decode cX9_rain 25 = .ok (.ifCond .eq 13, 3) := by decide +kernel
theorem dX9_rain_28 : decode cX9_rain 28 = .ok (.iload 4, 2) := by decide +kernel
theorem dX9_rain_30 : decode cX9_rain 30 = .ok (.iconst 0, 1) := by decide +kernel
theorem dX9_rain_31 : decode cX9_rain 31 = .ok (.iconst 1, 1) := by decide +kernel
theorem dX9_rain_32 : decode cX9_rain 32 = .ok (.invokestatic 56, 3) := by decide +kernel
theorem dX9_rain_35 : decode cX9_rain 35 = .ok (.ifCond .ne 5, 3) := by decide +kernel
theorem dX9_rain_38 : decode cX9_rain 38 = .ok (.iconst (-1), 1) := by decide +kernel
theorem dX9_rain_39 : decode cX9_rain 39 = .ok (.ireturn, 1) := by decide +kernel
theorem dX9_rain_40 : decode cX9_rain 40 = .ok (.aload_n 0, 1) := by decide +kernel
theorem dX9_rain_41 : decode cX9_rain 41 = .ok (.invokevirtual 143, 3) := by decide +kernel
theorem dX9_rain_44 : decode cX9_rain 44 = .ok (.iconst 0, 1) := by decide +kernel
theorem dX9_rain_45 : decode cX9_rain 45 = .ok (.istore 5, 2) := by decide +kernel
theorem dX9_rain_47 : decode cX9_rain 47 = .ok (.iconst 1, 1) := by decide +kernel
theorem dX9_rain_48 : decode cX9_rain 48 = .ok (.istore 6, 2) := by decide +kernel
theorem dX9_rain_50 : decode cX9_rain 50 = .ok (.iconst 0, 1) := by decide +kernel
theorem dX9_rain_51 : decode cX9_rain 51 = .ok (.istore 7, 2) := by decide +kernel
theorem dX9_rain_53 : decode cX9_rain 53 = .ok (.iload 7, 2) := by decide +kernel
theorem dX9_rain_55 : decode cX9_rain 55 = .ok (.iload_n 2, 1) := by decide +kernel
theorem dX9_rain_56 : decode cX9_rain 56 = .ok (.if_icmp .ge 16, 3) := by decide +kernel
theorem dX9_rain_59 : decode cX9_rain 59 = .ok (.iload 6, 2) := by decide +kernel
theorem dX9_rain_61 : decode cX9_rain 61 = .ok (.bipush 10, 2) := by decide +kernel
theorem dX9_rain_63 : decode cX9_rain 63 = .ok (.imul, 1) := by decide +kernel
theorem dX9_rain_64 : decode cX9_rain 64 = .ok (.istore 6, 2) := by decide +kernel
theorem dX9_rain_66 : decode cX9_rain 66 = .ok (.iinc 7 1, 3) := by decide +kernel
theorem dX9_rain_69 : decode cX9_rain 69 = .ok (.goto (-16), 3) := by decide +kernel
theorem dX9_rain_72 : decode cX9_rain 72 = .ok (.iconst 0, 1) := by decide +kernel
theorem dX9_rain_73 : decode cX9_rain 73 = .ok (.istore 7, 2) := by decide +kernel
theorem dX9_rain_75 : decode cX9_rain 75 = .ok (.iload 7, 2) := by decide +kernel
theorem dX9_rain_77 : decode cX9_rain 77 = .ok (.iconst 1, 1) := by decide +kernel
theorem dX9_rain_78 : decode cX9_rain 78 = .ok (.iload_n 2, 1) := by decide +kernel
theorem dX9_rain_79 : decode cX9_rain 79 = .ok (.ishl, 1) := by decide +kernel
theorem dX9_rain_80 : decode cX9_rain 80 = .ok (.if_icmp .ge 105, 3) := by decide +kernel
theorem dX9_rain_83 : decode cX9_rain 83 = .ok (.iconst 1, 1) := by decide +kernel
theorem dX9_rain_84 : decode cX9_rain 84 = .ok (.istore 8, 2) := by decide +kernel
theorem dX9_rain_86 : decode cX9_rain 86 = .ok (.iconst 0, 1) := by decide +kernel
theorem dX9_rain_87 : decode cX9_rain 87 = .ok (.istore 9, 2) := by decide +kernel
theorem dX9_rain_89 : decode cX9_rain 89 = .ok (.iload 9, 2) := by decide +kernel
theorem dX9_rain_91 : decode cX9_rain 91 = .ok (.iload_n 2, 1) := by decide +kernel
theorem dX9_rain_92 : decode cX9_rain 92 = .ok (.if_icmp .ge 59, 3) := by decide +kernel
theorem dX9_rain_95 : decode cX9_rain 95 = .ok (.iload 7, 2) := by decide +kernel
theorem dX9_rain_97 : decode cX9_rain 97 = .ok (.iload 9, 2) := by decide +kernel
theorem dX9_rain_99 : decode cX9_rain 99 = .ok (.ishr, 1) := by decide +kernel
theorem dX9_rain_100 : decode cX9_rain 100 = .ok (.iconst 1, 1) := by decide +kernel
theorem dX9_rain_101 : decode cX9_rain 101 = .ok (.iand, 1) := by decide +kernel
theorem dX9_rain_102 : decode cX9_rain 102 = .ok (.iconst 1, 1) := by decide +kernel
theorem dX9_rain_103 : decode cX9_rain 103 = .ok (.if_icmp .ne 7, 3) := by decide +kernel
theorem dX9_rain_106 : decode cX9_rain 106 = .ok (.iconst 1, 1) := by decide +kernel
theorem dX9_rain_107 : decode cX9_rain 107 = .ok (.goto 4, 3) := by decide +kernel
theorem dX9_rain_110 : decode cX9_rain 110 = .ok (.iconst 0, 1) := by decide +kernel
theorem dX9_rain_111 : decode cX9_rain 111 = .ok (.istore 10, 2) := by decide +kernel
theorem dX9_rain_113 : decode cX9_rain 113 = .ok (.iload 8, 2) := by decide +kernel
theorem dX9_rain_115 : decode cX9_rain 115 = .ok (.iload 10, 2) := by decide +kernel
theorem dX9_rain_117 : decode cX9_rain 117 = .ok (.ifCond .eq 7, 3) := by decide +kernel
theorem dX9_rain_120 : decode cX9_rain 120 = .ok (.iload_n 3, 1) := by decide +kernel
theorem dX9_rain_121 : decode cX9_rain 121 = .ok (.goto 7, 3) := by decide +kernel
theorem dX9_rain_124 : decode cX9_rain 124 = .ok (.bipush 10, 2) := by decide +kernel
theorem dX9_rain_126 : decode cX9_rain 126 = .ok (.iload_n 3, 1) := by decide +kernel
theorem dX9_rain_127 : decode cX9_rain 127 = .ok (.isub, 1) := by decide +kernel
theorem dX9_rain_128 : decode cX9_rain 128 = .ok (.imul, 1) := by decide +kernel
theorem dX9_rain_129 : decode cX9_rain 129 = .ok (.istore 8, 2) := by decide +kernel
theorem dX9_rain_131 : decode cX9_rain 131 = .ok (.aload_n 0, 1) := by decide +kernel
theorem dX9_rain_132 : decode cX9_rain 132 = .ok (.iload 10, 2) := by decide +kernel
theorem dX9_rain_134 : decode cX9_rain 134 = .ok (.ifCond .ne 7, 3) := by decide +kernel
theorem dX9_rain_137 : decode cX9_rain 137 = .ok (.iconst 1, 1) := by decide +kernel
theorem dX9_rain_138 : decode cX9_rain 138 = .ok (.goto 4, 3) := by decide +kernel
theorem dX9_rain_141 : decode cX9_rain 141 = .ok (.iconst 0, 1) := by decide +kernel
theorem dX9_rain_142 : decode cX9_rain 142 = .ok (.invokevirtual 122, 3) := by decide +kernel
theorem dX9_rain_145 : decode cX9_rain 145 = .ok (.iinc 9 1, 3) := by decide +kernel
theorem dX9_rain_148 : decode cX9_rain 148 = .ok (.goto (-59), 3) := by decide +kernel
theorem dX9_rain_151 : decode cX9_rain 151 = .ok (.iload 5, 2) := by decide +kernel
theorem dX9_rain_153 : decode cX9_rain 153 = .ok (.aload_n 0, 1) := by decide +kernel
theorem dX9_rain_154 : decode cX9_rain 154 = .ok (.getfield 22, 3) := by decide +kernel
theorem dX9_rain_157 : decode cX9_rain 157 = .ok (.bipush 9, 2) := by decide +kernel
theorem dX9_rain_159 : decode cX9_rain 159 = .ok (.iload_n 1, 1) := by decide +kernel
theorem dX9_rain_160 : decode cX9_rain 160 = .ok (.iadd, 1) := by decide +kernel
theorem dX9_rain_161 : decode cX9_rain 161 = .ok (.iaload, 1) := by decide +kernel
theorem dX9_rain_162 : decode cX9_rain 162 = .ok (.iconst 1, 1) := by decide +kernel
theorem dX9_rain_163 : decode cX9_rain 163 = .ok (.if_icmp .ne 8, 3) := by decide +kernel
theorem dX9_rain_166 : decode cX9_rain 166 = .ok (.iload 8, 2) := by decide +kernel
theorem dX9_rain_168 : decode cX9_rain 168 = .ok (.goto 4, 3) := by decide +kernel
theorem dX9_rain_171 : decode cX9_rain 171 = .ok (.iconst 0, 1) := by decide +kernel
theorem dX9_rain_172 : decode cX9_rain 172 = .ok (.iadd, 1) := by decide +kernel
theorem dX9_rain_173 : decode cX9_rain 173 = .ok (.istore 5, 2) := by decide +kernel
theorem dX9_rain_175 : decode cX9_rain 175 = .ok (.aload_n 0, 1) := by decide +kernel
theorem dX9_rain_176 : decode cX9_rain 176 = .ok (.invokevirtual 146, 3) := by decide +kernel
theorem dX9_rain_179 : decode cX9_rain 179 = .ok (.iinc 7 1, 3) := by decide +kernel
theorem dX9_rain_182 : decode cX9_rain 182 = .ok (.goto (-107), 3) := by decide +kernel
theorem dX9_rain_185 : decode cX9_rain 185 = .ok (.iload 5, 2) := by decide +kernel
theorem dX9_rain_187 : decode cX9_rain 187 = .ok (.istore 7, 2) := by decide +kernel
theorem dX9_rain_189 : decode cX9_rain 189 = .ok (.iload 6, 2) := by decide +kernel
theorem dX9_rain_191 : decode cX9_rain 191 = .ok (.istore 8, 2) := by decide +kernel
theorem dX9_rain_193 : decode cX9_rain 193 = .ok (.iload 8, 2) := by decide +kernel
theorem dX9_rain_195 : decode cX9_rain 195 = .ok (.ifCond .le 21, 3) := by decide +kernel
theorem dX9_rain_198 : decode cX9_rain 198 = .ok (.iload 7, 2) := by decide +kernel
theorem dX9_rain_200 : decode cX9_rain 200 = .ok (.iload 8, 2) := by decide +kernel
theorem dX9_rain_202 : decode cX9_rain 202 = .ok (.irem, 1) := by decide +kernel
theorem dX9_rain_203 : decode cX9_rain 203 = .ok (.istore 9, 2) := by decide +kernel
theorem dX9_rain_205 : decode cX9_rain 205 = .ok (.iload 8, 2) := by decide +kernel
theorem dX9_rain_207 : decode cX9_rain 207 = .ok (.istore 7, 2) := by decide +kernel
theorem dX9_rain_209 : decode cX9_rain 209 = .ok (.iload 9, 2) := by decide +kernel
theorem dX9_rain_211 : decode cX9_rain 211 = .ok (.istore 8, 2) := by decide +kernel
theorem dX9_rain_213 : decode cX9_rain 213 = .ok (.goto (-20), 3) := by decide +kernel
theorem dX9_rain_216 : decode cX9_rain 216 = .ok (.iload 4, 2) := by decide +kernel
theorem dX9_rain_218 : decode cX9_rain 218 = .ok (.ifCond .ne 11, 3) := by decide +kernel
theorem dX9_rain_221 : decode cX9_rain 221 = .ok (.iload 5, 2) := by decide +kernel
theorem dX9_rain_223 : decode cX9_rain 223 = .ok (.iload 7, 2) := by decide +kernel
theorem dX9_rain_225 : decode cX9_rain 225 = .ok (.idiv, 1) := by decide +kernel
theorem dX9_rain_226 : decode cX9_rain 226 = .ok (.goto 8, 3) := by decide +kernel
theorem dX9_rain_229 : decode cX9_rain 229 = .ok (.iload 6, 2) := by decide +kernel
theorem dX9_rain_231 : decode cX9_rain 231 = .ok (.iload 7, 2) := by decide +kernel
theorem dX9_rain_233 : decode cX9_rain 233 = .ok (.idiv, 1) := by decide +kernel
theorem dX9_rain_234 : decode cX9_rain 234 = .ok (.ireturn, 1) := by decide +kernel
set_option maxRecDepth 20000 in
theorem ggX9_turn_X9_placeOf : GoodIn wsX9_turn wsX9_placeOf := goodIn_r _ [7, 2, 32, 33, 34, 35, 36, 37, 38, 39, 40, 41, 42, 43, 44, 45, 46, 47, 48] (by decide +kernel) (by decide +kernel)
set_option maxRecDepth 20000 in
theorem gX9_turn_X9_placeOf : GoodIn wsX9_turn (wsV RX9 105 RX9 yX9_placeOf wsX9_placeOf) := goodIn_app (goodIn_of _ (by decide +kernel)) ggX9_turn_X9_placeOf
set_option maxRecDepth 20000 in
theorem ggX9_turn_X9_comes : GoodIn wsX9_turn wsX9_comes := goodIn_r _ [11, 2, 32, 33, 34, 35, 36, 37, 38, 39, 40, 41, 42, 43, 44, 45, 46, 47, 48] (by decide +kernel) (by decide +kernel)
set_option maxRecDepth 20000 in
theorem gX9_turn_X9_comes : GoodIn wsX9_turn (wsV RX9 126 RX9 yX9_comes wsX9_comes) := goodIn_app (goodIn_of _ (by decide +kernel)) ggX9_turn_X9_comes
set_option maxRecDepth 20000 in
theorem ggX9_turn_X9_mayLet : GoodIn wsX9_turn wsX9_mayLet := goodIn_r _ [15, 3, 4, 5, 6, 7, 2, 32, 33, 34, 35, 36, 37, 38, 39, 40, 41, 42, 43, 44, 45, 46, 47, 48] (by decide +kernel) (by decide +kernel)
set_option maxRecDepth 20000 in
theorem gX9_turn_X9_mayLet : GoodIn wsX9_turn (wsV RX9 129 RX9 yX9_mayLet wsX9_mayLet) := goodIn_app (goodIn_of _ (by decide +kernel)) ggX9_turn_X9_mayLet
set_option maxRecDepth 20000 in
theorem ggX9_turn_X9_lets : GoodIn wsX9_turn wsX9_lets := goodIn_r _ [19, 3, 4, 5, 6, 7, 2, 20, 21, 22, 23, 8, 9, 10, 11, 32, 33, 34, 35, 36, 37, 38, 39, 40, 41, 42, 43, 44, 45, 46, 47, 48] (by decide +kernel) (by decide +kernel)
set_option maxRecDepth 20000 in
theorem gX9_turn_X9_lets : GoodIn wsX9_turn (wsV RX9 133 RX9 yX9_lets wsX9_lets) := goodIn_app (goodIn_of _ (by decide +kernel)) ggX9_turn_X9_lets
set_option maxRecDepth 20000 in
theorem ggX9_turn_X9_pays : GoodIn wsX9_turn wsX9_pays := goodIn_r _ [27, 2, 28, 29, 30, 6, 31, 32, 33, 34, 35, 36, 37, 38, 39, 40, 41, 42, 43, 44, 45, 46, 47, 48] (by decide +kernel) (by decide +kernel)
set_option maxRecDepth 20000 in
theorem gX9_turn_X9_pays : GoodIn wsX9_turn (wsV RX9 140 RX9 yX9_pays wsX9_pays) := goodIn_app (goodIn_of _ (by decide +kernel)) ggX9_turn_X9_pays
theorem dX9_turn_0 : decode cX9_turn 0 = .ok (.iload_n 1, 1) := by decide +kernel
theorem dX9_turn_1 : decode cX9_turn 1 = .ok (.bipush 8, 2) := by decide +kernel
theorem dX9_turn_3 : decode cX9_turn 3 = .ok (.idiv, 1) := by decide +kernel
theorem dX9_turn_4 : decode cX9_turn 4 = .ok (.aload_n 0, 1) := by decide +kernel
theorem dX9_turn_5 : decode cX9_turn 5 = .ok (.getfield 13, 3) := by decide +kernel
theorem dX9_turn_8 : decode cX9_turn 8 = .ok (.iconst 0, 1) := by decide +kernel
theorem dX9_turn_9 : decode cX9_turn 9 = .ok (.iaload, 1) := by decide +kernel
theorem dX9_turn_10 : decode cX9_turn 10 = .ok (.irem, 1) := by decide +kernel
theorem dX9_turn_11 : decode cX9_turn 11 = .ok (.istore_n 2, 1) := by decide +kernel
theorem dX9_turn_12 : decode cX9_turn 12 = .ok (.iload_n 1, 1) := by decide +kernel
theorem dX9_turn_13 : decode cX9_turn 13 = .ok (.bipush 64, 2) := by decide +kernel
theorem dX9_turn_15 : decode cX9_turn 15 = .ok (.idiv, 1) := by decide +kernel
theorem dX9_turn_16 : decode cX9_turn 16 = .ok (.aload_n 0, 1) := by decide +kernel
theorem dX9_turn_17 : decode cX9_turn 17 = .ok (.getfield 13, 3) := by decide +kernel
theorem dX9_turn_20 : decode cX9_turn 20 = .ok (.iconst 0, 1) := by decide +kernel
theorem dX9_turn_21 : decode cX9_turn 21 = .ok (.iaload, 1) := by decide +kernel
theorem dX9_turn_22 : decode cX9_turn 22 = .ok (.irem, 1) := by decide +kernel
theorem dX9_turn_23 : decode cX9_turn 23 = .ok (.istore_n 3, 1) := by decide +kernel
theorem dX9_turn_24 : decode cX9_turn 24 = .ok (.iload_n 1, 1) := by decide +kernel
theorem dX9_turn_25 : decode cX9_turn 25 = .ok (.bipush 8, 2) := by decide +kernel
theorem dX9_turn_27 : decode cX9_turn 27 = .ok (.irem, 1) := by decide +kernel
theorem dX9_turn_28 : decode cX9_turn 28 = .ok (.istore 4, 2) := by decide +kernel
theorem dX9_turn_30 : decode cX9_turn 30 = .ok (.iload 4, 2) := by decide +kernel
theorem dX9_turn_32 : decode cX9_turn 32 = .ok (.iconst 2, 1) := by decide +kernel
theorem dX9_turn_33 : decode cX9_turn 33 = .ok (.if_icmp .ge 27, 3) := by decide +kernel
theorem dX9_turn_36 : decode cX9_turn 36 = .ok (.aload_n 0, 1) := by decide +kernel
theorem dX9_turn_37 : decode cX9_turn 37 = .ok (.iload_n 2, 1) := by decide +kernel
theorem dX9_turn_38 : decode cX9_turn 38 = .ok (.invokevirtual 105, 3) := by decide +kernel
theorem dX9_turn_41 : decode cX9_turn 41 = .ok (.bipush (-4), 2) := by decide +kernel
theorem dX9_turn_43 : decode cX9_turn 43 = .ok (.if_icmp .ne 17, 3) := by decide +kernel
theorem dX9_turn_46 : decode cX9_turn 46 = .ok (.aload_n 0, 1) := by decide +kernel
theorem dX9_turn_47 : decode cX9_turn 47 = .ok (.iload_n 2, 1) := by decide +kernel
theorem dX9_turn_48 : decode cX9_turn 48 = .ok (.aload_n 0, 1) := by decide +kernel
theorem dX9_turn_49 : decode cX9_turn 49 = .ok (.getfield 22, 3) := by decide +kernel
theorem dX9_turn_52 : decode cX9_turn 52 = .ok (.iconst 1, 1) := by decide +kernel
theorem dX9_turn_53 : decode cX9_turn 53 = .ok (.iaload, 1) := by decide +kernel
theorem dX9_turn_54 : decode cX9_turn 54 = .ok (.invokevirtual 126, 3) := by decide +kernel
theorem dX9_turn_57 : decode cX9_turn 57 = .ok (.goto 49, 3) := by decide +kernel
theorem dX9_turn_60 : decode cX9_turn 60 = .ok (.iload 4, 2) := by decide +kernel
theorem dX9_turn_62 : decode cX9_turn 62 = .ok (.iconst 2, 1) := by decide +kernel
theorem dX9_turn_63 : decode cX9_turn 63 = .ok (.if_icmp .ne 26, 3) := by decide +kernel
theorem dX9_turn_66 : decode cX9_turn 66 = .ok (.iload_n 2, 1) := by decide +kernel
theorem dX9_turn_67 : decode cX9_turn 67 = .ok (.iload_n 3, 1) := by decide +kernel
theorem dX9_turn_68 : decode cX9_turn 68 = .ok (.if_icmp .eq 21, 3) := by decide +kernel
theorem dX9_turn_71 : decode cX9_turn 71 = .ok (.aload_n 0, 1) := by decide +kernel
theorem dX9_turn_72 : decode cX9_turn 72 = .ok (.iload_n 2, 1) := by decide +kernel
theorem dX9_turn_73 : decode cX9_turn 73 = .ok (.iload_n 3, 1) := by decide +kernel
theorem dX9_turn_74 : decode cX9_turn 74 = .ok (.invokevirtual 129, 3) := by decide +kernel
theorem dX9_turn_77 : decode cX9_turn 77 = .ok (.ifCond .eq 12, 3) := by decide +kernel
theorem dX9_turn_80 : decode cX9_turn 80 = .ok (.aload_n 0, 1) := by decide +kernel
theorem dX9_turn_81 : decode cX9_turn 81 = .ok (.iload_n 2, 1) := by decide +kernel
theorem dX9_turn_82 : decode cX9_turn 82 = .ok (.iload_n 3, 1) := by decide +kernel
theorem dX9_turn_83 : decode cX9_turn 83 = .ok (.invokevirtual 133, 3) := by decide +kernel
theorem dX9_turn_86 : decode cX9_turn 86 = .ok (.goto 20, 3) := by decide +kernel
theorem dX9_turn_89 : decode cX9_turn 89 = .ok (.iload 4, 2) := by decide +kernel
theorem dX9_turn_91 : decode cX9_turn 91 = .ok (.iconst 3, 1) := by decide +kernel
theorem dX9_turn_92 : decode cX9_turn 92 = .ok (.if_icmp .ne 14, 3) := by decide +kernel
theorem dX9_turn_95 : decode cX9_turn 95 = .ok (.iload_n 2, 1) := by decide +kernel
theorem dX9_turn_96 : decode cX9_turn 96 = .ok (.iload_n 3, 1) := by decide +kernel
theorem dX9_turn_97 : decode cX9_turn 97 = .ok (.if_icmp .eq 9, 3) := by decide +kernel
theorem dX9_turn_100 : decode cX9_turn 100 = .ok (.aload_n 0, 1) := by decide +kernel
theorem dX9_turn_101 : decode cX9_turn 101 = .ok (.iload_n 2, 1) := by decide +kernel
theorem dX9_turn_102 : decode cX9_turn 102 = .ok (.iload_n 3, 1) := by decide +kernel
theorem dX9_turn_103 : decode cX9_turn 103 = .ok (.invokevirtual 140, 3) := by decide +kernel
theorem dX9_turn_106 : decode cX9_turn 106 = .ok (.return_, 1) := by decide +kernel
theorem dX9_owedInAll_0 : decode cX9_owedInAll 0 = .ok (.iconst 0, 1) := by decide +kernel
theorem dX9_owedInAll_1 : decode cX9_owedInAll 1 = .ok (.istore_n 1, 1) := by decide +kernel
theorem dX9_owedInAll_2 : decode cX9_owedInAll 2 = .ok (.bipush 23, 2) := by decide +kernel
theorem dX9_owedInAll_4 : decode cX9_owedInAll 4 = .ok (.istore_n 2, 1) := by decide +kernel
theorem dX9_owedInAll_5 : decode cX9_owedInAll 5 = .ok (.iload_n 2, 1) := by decide +kernel
theorem dX9_owedInAll_6 : decode cX9_owedInAll 6 = .ok (.bipush 72, 2) := by decide +kernel
theorem dX9_owedInAll_8 : decode cX9_owedInAll 8 = .ok (.if_icmp .ge 18, 3) := by decide +kernel
theorem dX9_owedInAll_11 : decode cX9_owedInAll 11 = .ok (.iload_n 1, 1) := by decide +kernel
theorem dX9_owedInAll_12 : decode cX9_owedInAll 12 = .ok (.aload_n 0, 1) := by decide +kernel
theorem dX9_owedInAll_13 : decode cX9_owedInAll 13 = .ok (.getfield 22, 3) := by decide +kernel
theorem dX9_owedInAll_16 : decode cX9_owedInAll 16 = .ok (.iload_n 2, 1) := by decide +kernel
theorem dX9_owedInAll_17 : decode cX9_owedInAll 17 = .ok (.iaload, 1) := by decide +kernel
theorem dX9_owedInAll_18 : decode cX9_owedInAll 18 = .ok (.iadd, 1) := by decide +kernel
theorem dX9_owedInAll_19 : decode cX9_owedInAll 19 = .ok (.istore_n 1, 1) := by decide +kernel
theorem dX9_owedInAll_20 : decode cX9_owedInAll 20 = .ok (.iinc 2 1, 3) := by decide +kernel
theorem dX9_owedInAll_23 : decode cX9_owedInAll 23 = .ok (.goto (-18), 3) := by decide +kernel
theorem dX9_owedInAll_26 : decode cX9_owedInAll 26 = .ok (.iload_n 1, 1) := by decide +kernel
theorem dX9_owedInAll_27 : decode cX9_owedInAll 27 = .ok (.ireturn, 1) := by decide +kernel
set_option maxRecDepth 20000 in
theorem ggX9_day_X9_in : GoodIn wsX9_day wsX9_in := goodIn_r _ [8] (by decide +kernel) (by decide +kernel)
set_option maxRecDepth 20000 in
theorem gX9_day_X9_in : GoodIn wsX9_day (va_wsS RX9 56 yX9_in wsX9_in) := goodIn_app (goodIn_of _ (by decide +kernel)) ggX9_day_X9_in
set_option maxRecDepth 20000 in
theorem ggX9_day_X9_holds : GoodIn wsX9_day wsX9_holds := goodIn_r _ [12, 13, 4, 64, 65, 66, 67, 68, 69, 70, 71, 72, 73, 74, 75, 76, 77, 78, 79, 80] (by decide +kernel) (by decide +kernel)
set_option maxRecDepth 20000 in
theorem gX9_day_X9_holds : GoodIn wsX9_day (wsV RX9 143 RX9 yX9_holds wsX9_holds) := goodIn_app (goodIn_of _ (by decide +kernel)) ggX9_day_X9_holds
set_option maxRecDepth 20000 in
theorem ggX9_day_X9_turn : GoodIn wsX9_day wsX9_turn := goodIn_r _ [17, 18, 4, 19, 20, 21, 7, 22, 23, 24, 25, 26, 27, 28, 29, 30, 31, 32, 33, 34, 35, 36, 37, 38, 39, 40, 41, 42, 43, 44, 45, 46, 64, 65, 66, 67, 68, 69, 70, 71, 72, 73, 74, 75, 76, 77, 78, 79, 80] (by decide +kernel) (by decide +kernel)
set_option maxRecDepth 20000 in
theorem gX9_day_X9_turn : GoodIn wsX9_day (wsV RX9 165 RX9 yX9_turn wsX9_turn) := goodIn_app (goodIn_of _ (by decide +kernel)) ggX9_day_X9_turn
set_option maxRecDepth 20000 in
theorem ggX9_day_X9_passes : GoodIn wsX9_day wsX9_passes := goodIn_r _ [50, 4, 51, 18, 19, 20, 21, 7, 22, 52, 53, 54, 55, 35, 36, 37, 38, 64, 65, 66, 67, 68, 69, 70, 71, 72, 73, 74, 75, 76, 77, 78, 79, 80] (by decide +kernel) (by decide +kernel)
set_option maxRecDepth 20000 in
theorem gX9_day_X9_passes : GoodIn wsX9_day (wsV RX9 122 RX9 yX9_passes wsX9_passes) := goodIn_app (goodIn_of _ (by decide +kernel)) ggX9_day_X9_passes
set_option maxRecDepth 20000 in
theorem ggX9_day_X9_owedInAll : GoodIn wsX9_day wsX9_owedInAll := goodIn_r _ [59, 4, 64, 65, 66, 67, 68, 69, 70, 71, 72, 73, 74, 75, 76, 77, 78, 79, 80] (by decide +kernel) (by decide +kernel)
set_option maxRecDepth 20000 in
theorem gX9_day_X9_owedInAll : GoodIn wsX9_day (wsV RX9 169 RX9 yX9_owedInAll wsX9_owedInAll) := goodIn_app (goodIn_of _ (by decide +kernel)) ggX9_day_X9_owedInAll
set_option maxRecDepth 20000 in
theorem ggX9_day_X9_backs : GoodIn wsX9_day wsX9_backs := goodIn_r _ [63, 4, 13, 64, 65, 66, 67, 68, 69, 70, 71, 72, 73, 74, 75, 76, 77, 78, 79, 80] (by decide +kernel) (by decide +kernel)
set_option maxRecDepth 20000 in
theorem gX9_day_X9_backs : GoodIn wsX9_day (wsV RX9 146 RX9 yX9_backs wsX9_backs) := goodIn_app (goodIn_of _ (by decide +kernel)) ggX9_day_X9_backs
theorem dX9_day_0 : decode cX9_day 0 = .ok (.iload_n 1, 1) := by decide +kernel
theorem dX9_day_1 : decode cX9_day 1 = .ok (.iconst 0, 1) := by decide +kernel
theorem dX9_day_2 : decode cX9_day 2 = .ok (.sipush 9999, 3) := by decide +kernel
theorem dX9_day_5 : decode cX9_day 5 = .ok (.invokestatic 56, 3) := by decide +kernel
theorem dX9_day_8 : decode cX9_day 8 = .ok (.ifCond .eq 22, 3) := by decide +kernel
theorem dX9_day_11 : decode cX9_day 11 = .ok (.iload_n 2, 1) := by decide +kernel
theorem dX9_day_12 : decode cX9_day 12 = .ok (.iconst 1, 1) := by decide +kernel
theorem dX9_day_13 : decode cX9_day 13 = .ok (.bipush 60, 2) := by decide +kernel
theorem dX9_day_15 : decode cX9_day 15 = .ok (.invokestatic 56, 3) := by decide +kernel
theorem dX9_day_18 : decode cX9_day 18 = .ok (.ifCond .eq 12, 3) := by decide +kernel
theorem dX9_day_21 : decode cX9_day 21 = .ok (.iload_n 3, 1) := by decide +kernel
theorem dX9_day_22 : decode cX9_day 22 = .ok (.iconst 0, 1) := by decide +kernel
theorem dX9_day_23 : decode cX9_day 23 = .ok (.iconst 1, 1) := by decide +kernel
theorem dX9_day_24 : decode cX9_day 24 = .ok (.invokestatic 56, 3) := by decide +kernel
theorem dX9_day_27 : decode cX9_day 27 = .ok (.ifCond .ne 5, 3) := by decide +kernel
theorem dX9_day_30 : decode cX9_day 30 = .ok (.iconst (-1), 1) := by decide +kernel
theorem dX9_day_31 : decode cX9_day 31 = .ok (.ireturn, 1) := by decide +kernel
theorem dX9_day_32 : decode cX9_day 32 = .ok (.aload_n 0, 1) := by decide +kernel
theorem dX9_day_33 : decode cX9_day 33 = .ok (.invokevirtual 143, 3) := by decide +kernel
theorem dX9_day_36 : decode cX9_day 36 = .ok (.iconst 0, 1) := by decide +kernel
theorem dX9_day_37 : decode cX9_day 37 = .ok (.istore 4, 2) := by decide +kernel
theorem dX9_day_39 : decode cX9_day 39 = .ok (.iload 4, 2) := by decide +kernel
theorem dX9_day_41 : decode cX9_day 41 = .ok (.iload_n 2, 1) := by decide +kernel
theorem dX9_day_42 : decode cX9_day 42 = .ok (.if_icmp .ge 46, 3) := by decide +kernel
theorem dX9_day_45 : decode cX9_day 45 = .ok (.ldc2_w 159, 3) := by decide +kernel
theorem dX9_day_48 : decode cX9_day 48 = .ok (.iload_n 1, 1) := by decide +kernel
theorem dX9_day_49 : decode cX9_day 49 = .ok (.i2l, 1) := by decide +kernel
theorem dX9_day_50 : decode cX9_day 50 = .ok (.lmul, 1) := by decide +kernel
theorem dX9_day_51 : decode cX9_day 51 = .ok (.ldc2_w 161, 3) := by decide +kernel
theorem dX9_day_54 : decode cX9_day 54 = .ok (.iload 4, 2) := by decide +kernel
theorem dX9_day_56 : decode cX9_day 56 = .ok (.i2l, 1) := by decide +kernel
theorem dX9_day_57 : decode cX9_day 57 = .ok (.lmul, 1) := by decide +kernel
theorem dX9_day_58 : decode cX9_day 58 = .ok (.ladd, 1) := by decide +kernel
theorem dX9_day_59 : decode cX9_day 59 = .ok (.lconst 1, 1) := by decide +kernel
theorem dX9_day_60 : decode cX9_day 60 = .ok (.ladd, 1) := by decide +kernel
theorem dX9_day_61 : decode cX9_day 61 = .ok (.lstore 5, 2) := by decide +kernel
theorem dX9_day_63 : decode cX9_day 63 = .ok (.aload_n 0, 1) := by decide +kernel
theorem dX9_day_64 : decode cX9_day 64 = .ok (.lload 5, 2) := by decide +kernel
theorem dX9_day_66 : decode cX9_day 66 = .ok (.lload 5, 2) := by decide +kernel
theorem dX9_day_68 : decode cX9_day 68 = .ok (.lmul, 1) := by decide +kernel
theorem dX9_day_69 : decode cX9_day 69 = .ok (.ldc2_w 163, 3) := by decide +kernel
theorem dX9_day_72 : decode cX9_day 72 = .ok (.lrem, 1) := by decide +kernel
theorem dX9_day_73 : decode cX9_day 73 = .ok (.l2i, 1) := by decide +kernel
theorem dX9_day_74 : decode cX9_day 74 = .ok (.invokevirtual 165, 3) := by decide +kernel
theorem dX9_day_77 : decode cX9_day 77 = .ok (.aload_n 0, 1) := by decide +kernel
theorem dX9_day_78 : decode cX9_day 78 = .ok (.iconst 1, 1) := by decide +kernel
theorem dX9_day_79 : decode cX9_day 79 = .ok (.invokevirtual 122, 3) := by decide +kernel
theorem dX9_day_82 : decode cX9_day 82 = .ok (.iinc 4 1, 3) := by decide +kernel
theorem dX9_day_85 : decode cX9_day 85 = .ok (.goto (-46), 3) := by decide +kernel
theorem dX9_day_88 : decode cX9_day 88 = .ok (.iload_n 3, 1) := by decide +kernel
theorem dX9_day_89 : decode cX9_day 89 = .ok (.ifCond .ne 12, 3) := by decide +kernel
theorem dX9_day_92 : decode cX9_day 92 = .ok (.aload_n 0, 1) := by decide +kernel
theorem dX9_day_93 : decode cX9_day 93 = .ok (.getfield 22, 3) := by decide +kernel
theorem dX9_day_96 : decode cX9_day 96 = .ok (.iconst 1, 1) := by decide +kernel
theorem dX9_day_97 : decode cX9_day 97 = .ok (.iaload, 1) := by decide +kernel
theorem dX9_day_98 : decode cX9_day 98 = .ok (.goto 7, 3) := by decide +kernel
theorem dX9_day_101 : decode cX9_day 101 = .ok (.aload_n 0, 1) := by decide +kernel
theorem dX9_day_102 : decode cX9_day 102 = .ok (.invokevirtual 169, 3) := by decide +kernel
theorem dX9_day_105 : decode cX9_day 105 = .ok (.istore 4, 2) := by decide +kernel
theorem dX9_day_107 : decode cX9_day 107 = .ok (.aload_n 0, 1) := by decide +kernel
theorem dX9_day_108 : decode cX9_day 108 = .ok (.invokevirtual 146, 3) := by decide +kernel
theorem dX9_day_111 : decode cX9_day 111 = .ok (.iload 4, 2) := by decide +kernel
theorem dX9_day_113 : decode cX9_day 113 = .ok (.ireturn, 1) := by decide +kernel
theorem dX9_keep_0 : decode cX9_keep 0 = .ok (.aload_n 0, 1) := by decide +kernel
theorem dX9_keep_1 : decode cX9_keep 1 = .ok (.getfield 96, 3) := by decide +kernel
theorem dX9_keep_4 : decode cX9_keep 4 = .ok (.iconst 2, 1) := by decide +kernel
theorem dX9_keep_5 : decode cX9_keep 5 = .ok (.if_icmp .ne 6, 3) := by decide +kernel
theorem dX9_keep_8 : decode cX9_keep 8 = .ok (.bipush (-3), 2) := by decide +kernel
theorem dX9_keep_10 : decode cX9_keep 10 = .ok (.ireturn, 1) := by decide +kernel
theorem dX9_keep_11 : decode cX9_keep 11 = .ok (.iconst 0, 1) := by decide +kernel
theorem dX9_keep_12 : decode cX9_keep 12 = .ok (.istore_n 1, 1) := by decide +kernel
theorem dX9_keep_13 : decode cX9_keep 13 = .ok (.iload_n 1, 1) := by decide +kernel
theorem dX9_keep_14 : decode cX9_keep 14 = .ok (.bipush 72, 2) := by decide +kernel
theorem dX9_keep_16 : decode cX9_keep 16 = .ok (.if_icmp .ge 29, 3) := by decide +kernel
