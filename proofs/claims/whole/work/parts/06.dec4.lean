theorem dX9_begins_5 : decode cX9_begins 5 = .ok (.if_icmp .ge 16, 3) := by decide +kernel
theorem dX9_begins_8 : decode cX9_begins 8 = .ok (.aload_n 0, 1) := by decide +kernel
theorem dX9_begins_9 : decode cX9_begins 9 = .ok (.getfield 16, 3) := by decide +kernel
theorem dX9_begins_12 : decode cX9_begins 12 = .ok (.iload_n 1, 1) := by decide +kernel
theorem dX9_begins_13 : decode cX9_begins 13 = .ok (.iconst 0, 1) := by decide +kernel
theorem dX9_begins_14 : decode cX9_begins 14 = .ok (.iastore, 1) := by decide +kernel
theorem dX9_begins_15 : decode cX9_begins 15 = .ok (.iinc 1 1, 3) := by decide +kernel
theorem dX9_begins_18 : decode cX9_begins 18 = .ok (.goto (-16), 3) := by decide +kernel
theorem dX9_begins_21 : decode cX9_begins 21 = .ok (.iconst 0, 1) := by decide +kernel
theorem dX9_begins_22 : decode cX9_begins 22 = .ok (.istore_n 1, 1) := by decide +kernel
theorem dX9_begins_23 : decode cX9_begins 23 = .ok (.iload_n 1, 1) := by decide +kernel
theorem dX9_begins_24 : decode cX9_begins 24 = .ok (.bipush 72, 2) := by decide +kernel
theorem dX9_begins_26 : decode cX9_begins 26 = .ok (.if_icmp .ge 16, 3) := by decide +kernel
theorem dX9_begins_29 : decode cX9_begins 29 = .ok (.aload_n 0, 1) := by decide +kernel
theorem dX9_begins_30 : decode cX9_begins 30 = .ok (.getfield 19, 3) := by decide +kernel
theorem dX9_begins_33 : decode cX9_begins 33 = .ok (.iload_n 1, 1) := by decide +kernel
theorem dX9_begins_34 : decode cX9_begins 34 = .ok (.iconst 0, 1) := by decide +kernel
theorem dX9_begins_35 : decode cX9_begins 35 = .ok (.iastore, 1) := by decide +kernel
theorem dX9_begins_36 : decode cX9_begins 36 = .ok (.iinc 1 1, 3) := by decide +kernel
theorem dX9_begins_39 : decode cX9_begins 39 = .ok (.goto (-16), 3) := by decide +kernel
theorem dX9_begins_42 : decode cX9_begins 42 = .ok (.aload_n 0, 1) := by decide +kernel
theorem dX9_begins_43 : decode cX9_begins 43 = .ok (.getfield 16, 3) := by decide +kernel
theorem dX9_begins_46 : decode cX9_begins 46 = .ok (.iconst 1, 1) := by decide +kernel
theorem dX9_begins_47 : decode cX9_begins 47 = .ok (.iconst 3, 1) := by decide +kernel
theorem dX9_begins_48 : decode cX9_begins 48 = .ok (.iastore, 1) := by decide +kernel
theorem dX9_begins_49 : decode cX9_begins 49 = .ok (.return_, 1) := by decide +kernel
theorem dX9_stands_0 : decode cX9_stands 0 = .ok (.aload_n 0, 1) := by decide +kernel
theorem dX9_stands_1 : decode cX9_stands 1 = .ok (.getfield 16, 3) := by decide +kernel
theorem dX9_stands_4 : decode cX9_stands 4 = .ok (.iconst 0, 1) := by decide +kernel
theorem dX9_stands_5 : decode cX9_stands 5 = .ok (.iaload, 1) := by decide +kernel
theorem dX9_stands_6 : decode cX9_stands 6 = .ok (.istore 5, 2) := by decide +kernel
theorem dX9_stands_8 : decode cX9_stands 8 = .ok (.aload_n 0, 1) := by decide +kernel
theorem dX9_stands_9 : decode cX9_stands 9 = .ok (.getfield 16, 3) := by decide +kernel
theorem dX9_stands_12 : decode cX9_stands 12 = .ok (.iconst 2, 1) := by decide +kernel
theorem dX9_stands_13 : decode cX9_stands 13 = .ok (.iload 5, 2) := by decide +kernel
theorem dX9_stands_15 : decode cX9_stands 15 = .ok (.iadd, 1) := by decide +kernel
theorem dX9_stands_16 : decode cX9_stands 16 = .ok (.iload_n 1, 1) := by decide +kernel
theorem dX9_stands_17 : decode cX9_stands 17 = .ok (.iastore, 1) := by decide +kernel
theorem dX9_stands_18 : decode cX9_stands 18 = .ok (.aload_n 0, 1) := by decide +kernel
theorem dX9_stands_19 : decode cX9_stands 19 = .ok (.getfield 16, 3) := by decide +kernel
theorem dX9_stands_22 : decode cX9_stands 22 = .ok (.bipush 9, 2) := by decide +kernel
theorem dX9_stands_24 : decode cX9_stands 24 = .ok (.iload 5, 2) := by decide +kernel
theorem dX9_stands_26 : decode cX9_stands 26 = .ok (.iadd, 1) := by decide +kernel
theorem dX9_stands_27 : decode cX9_stands 27 = .ok (.iload_n 2, 1) := by decide +kernel
theorem dX9_stands_28 : decode cX9_stands 28 = .ok (.iastore, 1) := by decide +kernel
theorem dX9_stands_29 : decode cX9_stands 29 = .ok (.aload_n 0, 1) := by decide +kernel
theorem dX9_stands_30 : decode cX9_stands 30 = .ok (.getfield 16, 3) := by decide +kernel
theorem dX9_stands_33 : decode cX9_stands 33 = .ok (.bipush 16, 2) := by decide +kernel
theorem dX9_stands_35 : decode cX9_stands 35 = .ok (.iload 5, 2) := by decide +kernel
theorem dX9_stands_37 : decode cX9_stands 37 = .ok (.iadd, 1) := by decide +kernel
theorem dX9_stands_38 : decode cX9_stands 38 = .ok (.iload_n 3, 1) := by decide +kernel
theorem dX9_stands_39 : decode cX9_stands 39 = .ok (.iastore, 1) := by decide +kernel
theorem dX9_stands_40 : decode cX9_stands 40 = .ok (.aload_n 0, 1) := by decide +kernel
theorem dX9_stands_41 : decode cX9_stands 41 = .ok (.getfield 19, 3) := by decide +kernel
theorem dX9_stands_44 : decode cX9_stands 44 = .ok (.bipush 16, 2) := by decide +kernel
theorem dX9_stands_46 : decode cX9_stands 46 = .ok (.iload 5, 2) := by decide +kernel
theorem dX9_stands_48 : decode cX9_stands 48 = .ok (.iadd, 1) := by decide +kernel
theorem dX9_stands_49 : decode cX9_stands 49 = .ok (.iload 4, 2) := by decide +kernel
theorem dX9_stands_51 : decode cX9_stands 51 = .ok (.iastore, 1) := by decide +kernel
theorem dX9_stands_52 : decode cX9_stands 52 = .ok (.aload_n 0, 1) := by decide +kernel
theorem dX9_stands_53 : decode cX9_stands 53 = .ok (.getfield 19, 3) := by decide +kernel
theorem dX9_stands_56 : decode cX9_stands 56 = .ok (.iconst 2, 1) := by decide +kernel
theorem dX9_stands_57 : decode cX9_stands 57 = .ok (.iload 5, 2) := by decide +kernel
theorem dX9_stands_59 : decode cX9_stands 59 = .ok (.iadd, 1) := by decide +kernel
theorem dX9_stands_60 : decode cX9_stands 60 = .ok (.iload 5, 2) := by decide +kernel
theorem dX9_stands_62 : decode cX9_stands 62 = .ok (.iastore, 1) := by decide +kernel
theorem dX9_stands_63 : decode cX9_stands 63 = .ok (.aload_n 0, 1) := by decide +kernel
theorem dX9_stands_64 : decode cX9_stands 64 = .ok (.getfield 19, 3) := by decide +kernel
theorem dX9_stands_67 : decode cX9_stands 67 = .ok (.iconst 1, 1) := by decide +kernel
theorem dX9_stands_68 : decode cX9_stands 68 = .ok (.dup2, 1) := by decide +kernel
theorem dX9_stands_69 : decode cX9_stands 69 = .ok (.iaload, 1) := by decide +kernel
theorem dX9_stands_70 : decode cX9_stands 70 = .ok (.iconst 1, 1) := by decide +kernel
theorem dX9_stands_71 : decode cX9_stands 71 = .ok (.iadd, 1) := by decide +kernel
theorem dX9_stands_72 : decode cX9_stands 72 = .ok (.iastore, 1) := by decide +kernel
theorem dX9_stands_73 : decode cX9_stands 73 = .ok (.aload_n 0, 1) := by decide +kernel
theorem dX9_stands_74 : decode cX9_stands 74 = .ok (.getfield 16, 3) := by decide +kernel
theorem dX9_stands_77 : decode cX9_stands 77 = .ok (.iconst 0, 1) := by decide +kernel
theorem dX9_stands_78 : decode cX9_stands 78 = .ok (.dup2, 1) := by decide +kernel
theorem dX9_stands_79 : decode cX9_stands 79 = .ok (.iaload, 1) := by decide +kernel
theorem dX9_stands_80 : decode cX9_stands 80 = .ok (.iconst 1, 1) := by decide +kernel
theorem dX9_stands_81 : decode cX9_stands 81 = .ok (.iadd, 1) := by decide +kernel
theorem dX9_stands_82 : decode cX9_stands 82 = .ok (.iastore, 1) := by decide +kernel
theorem dX9_stands_83 : decode cX9_stands 83 = .ok (.return_, 1) := by decide +kernel
set_option maxRecDepth 20000 in
theorem ggX9_readsPerson_X9_number : GoodIn wsX9_readsPerson wsX9_number := goodIn_r _ [6, 7, 8, 9, 10, 5, 11, 12, 13, 14, 15, 16, 17, 18, 19, 25, 26, 27, 28, 29, 30, 31, 32, 33, 34, 35, 36, 37, 38, 39, 40, 41] (by decide +kernel) (by decide +kernel)
set_option maxRecDepth 20000 in
theorem gX9_readsPerson_X9_number : GoodIn wsX9_readsPerson (wsV RX9 75 RX9 yX9_number wsX9_number) := goodIn_app (goodIn_of _ (by decide +kernel)) ggX9_readsPerson_X9_number
set_option maxRecDepth 20000 in
theorem ggX9_readsPerson_X9_stands : GoodIn wsX9_readsPerson wsX9_stands := goodIn_r _ [23, 1, 24, 25, 26, 27, 28, 29, 30, 31, 32, 33, 34, 35, 36, 37, 38, 39, 40, 41] (by decide +kernel) (by decide +kernel)
set_option maxRecDepth 20000 in
theorem gX9_readsPerson_X9_stands : GoodIn wsX9_readsPerson (wsV RX9 49 RX9 yX9_stands wsX9_stands) := goodIn_app (goodIn_of _ (by decide +kernel)) ggX9_readsPerson_X9_stands
theorem dX9_readsPerson_0 : decode cX9_readsPerson 0 = .ok (.aload_n 0, 1) := by decide +kernel
theorem dX9_readsPerson_1 : decode cX9_readsPerson 1 = .ok (.iconst 0, 1) := by decide +kernel
theorem dX9_readsPerson_2 : decode cX9_readsPerson 2 = .ok (.iconst 3, 1) := by decide +kernel
theorem dX9_readsPerson_3 : decode cX9_readsPerson 3 = .ok (.bipush 44, 2) := by decide +kernel
theorem dX9_readsPerson_5 : decode cX9_readsPerson 5 = .ok (.invokevirtual 75, 3) := by decide +kernel
theorem dX9_readsPerson_8 : decode cX9_readsPerson 8 = .ok (.istore_n 1, 1) := by decide +kernel
theorem dX9_readsPerson_9 : decode cX9_readsPerson 9 = .ok (.iload_n 1, 1) := by decide +kernel
theorem dX9_readsPerson_10 : decode cX9_readsPerson 10 = .ok (.ifCond .ge 7, 3) := by decide +kernel
theorem dX9_readsPerson_13 : decode cX9_readsPerson 13 = .ok (.iconst (-1), 1) := by decide +kernel
theorem dX9_readsPerson_14 : decode cX9_readsPerson 14 = .ok (.goto 12, 3) := by decide +kernel
theorem dX9_readsPerson_17 : decode cX9_readsPerson 17 = .ok (.aload_n 0, 1) := by decide +kernel
theorem dX9_readsPerson_18 : decode cX9_readsPerson 18 = .ok (.iconst 0, 1) := by decide +kernel
theorem dX9_readsPerson_19 : decode cX9_readsPerson 19 = .ok (.bipush 20, 2) := by decide +kernel
theorem dX9_readsPerson_21 : decode cX9_readsPerson 21 = .ok (.bipush 44, 2) := by decide +kernel
theorem dX9_readsPerson_23 : decode cX9_readsPerson 23 = .ok (.invokevirtual 75, 3) := by decide +kernel
theorem dX9_readsPerson_26 : decode cX9_readsPerson 26 = .ok (.istore_n 2, 1) := by decide +kernel
theorem dX9_readsPerson_27 : decode cX9_readsPerson 27 = .ok (.iload_n 2, 1) := by decide +kernel
theorem dX9_readsPerson_28 : decode cX9_readsPerson 28 = .ok (.ifCond .ge 7, 3) := by decide +kernel
theorem dX9_readsPerson_31 : decode cX9_readsPerson 31 = .ok (.iconst (-1), 1) := by decide +kernel
theorem dX9_readsPerson_32 : decode cX9_readsPerson 32 = .ok (.goto 12, 3) := by decide +kernel
theorem dX9_readsPerson_35 : decode cX9_readsPerson 35 = .ok (.aload_n 0, 1) := by decide +kernel
theorem dX9_readsPerson_36 : decode cX9_readsPerson 36 = .ok (.iconst 1, 1) := by decide +kernel
theorem dX9_readsPerson_37 : decode cX9_readsPerson 37 = .ok (.bipush 9, 2) := by decide +kernel
theorem dX9_readsPerson_39 : decode cX9_readsPerson 39 = .ok (.bipush 44, 2) := by decide +kernel
theorem dX9_readsPerson_41 : decode cX9_readsPerson 41 = .ok (.invokevirtual 75, 3) := by decide +kernel
theorem dX9_readsPerson_44 : decode cX9_readsPerson 44 = .ok (.istore_n 3, 1) := by decide +kernel
theorem dX9_readsPerson_45 : decode cX9_readsPerson 45 = .ok (.iload_n 3, 1) := by decide +kernel
theorem dX9_readsPerson_46 : decode cX9_readsPerson 46 = .ok (.ifCond .ge 7, 3) := by decide +kernel
theorem dX9_readsPerson_49 : decode cX9_readsPerson 49 = .ok (.iconst (-1), 1) := by decide +kernel
theorem dX9_readsPerson_50 : decode cX9_readsPerson 50 = .ok (.goto 12, 3) := by decide +kernel
theorem dX9_readsPerson_53 : decode cX9_readsPerson 53 = .ok (.aload_n 0, 1) := by decide +kernel
theorem dX9_readsPerson_54 : decode cX9_readsPerson 54 = .ok (.iconst 0, 1) := by decide +kernel
theorem dX9_readsPerson_55 : decode cX9_readsPerson 55 = .ok (.bipush 60, 2) := by decide +kernel
theorem dX9_readsPerson_57 : decode cX9_readsPerson 57 = .ok (.bipush 59, 2) := by decide +kernel
theorem dX9_readsPerson_59 : decode cX9_readsPerson 59 = .ok (.invokevirtual 75, 3) := by decide +kernel
theorem dX9_readsPerson_62 : decode cX9_readsPerson 62 = .ok (.istore 4, 2) := by decide +kernel
theorem dX9_readsPerson_64 : decode cX9_readsPerson 64 = .ok (.iload 4, 2) := by decide +kernel
theorem dX9_readsPerson_66 : decode cX9_readsPerson 66 = .ok (.ifCond .lt 14, 3) := by decide +kernel
theorem dX9_readsPerson_69 : decode cX9_readsPerson 69 = .ok (.aload_n 0, 1) := by decide +kernel
theorem dX9_readsPerson_70 : decode cX9_readsPerson 70 = .ok (.getfield 16, 3) := by decide +kernel
theorem dX9_readsPerson_73 : decode cX9_readsPerson 73 = .ok (.iconst 0, 1) := by decide +kernel
theorem dX9_readsPerson_74 : decode cX9_readsPerson 74 = .ok (.iaload, 1) := by decide +kernel
theorem dX9_readsPerson_75 : decode cX9_readsPerson 75 = .ok (.bipush 7, 2) := by decide +kernel
theorem dX9_readsPerson_77 : decode cX9_readsPerson 77 = .ok (.if_icmp .ne 5, 3) := by decide +kernel
theorem dX9_readsPerson_80 : decode cX9_readsPerson 80 = .ok (.iconst 0, 1) := by decide +kernel
theorem dX9_readsPerson_81 : decode cX9_readsPerson 81 = .ok (.ireturn, 1) := by decide +kernel
theorem dX9_readsPerson_82 : decode cX9_readsPerson 82 = .ok (.aload_n 0, 1) := by decide +kernel
theorem dX9_readsPerson_83 : decode cX9_readsPerson 83 = .ok (.iload_n 1, 1) := by decide +kernel
theorem dX9_readsPerson_84 : decode cX9_readsPerson 84 = .ok (.iload_n 2, 1) := by decide +kernel
theorem dX9_readsPerson_85 : decode cX9_readsPerson 85 = .ok (.iload_n 3, 1) := by decide +kernel
theorem dX9_readsPerson_86 : decode cX9_readsPerson 86 = .ok (.iload 4, 2) := by decide +kernel
theorem dX9_readsPerson_88 : decode cX9_readsPerson 88 = .ok (.invokevirtual 49, 3) := by decide +kernel
theorem dX9_readsPerson_91 : decode cX9_readsPerson 91 = .ok (.iconst 1, 1) := by decide +kernel
theorem dX9_readsPerson_92 : decode cX9_readsPerson 92 = .ok (.ireturn, 1) := by decide +kernel
set_option maxRecDepth 20000 in
theorem ggX9_readsDebt_X9_number : GoodIn wsX9_readsDebt wsX9_number := goodIn_r _ [7, 8, 9, 10, 11, 6, 12, 13, 14, 15, 16, 17, 18, 19, 20, 21, 22, 23, 24, 25, 26, 27, 28, 29, 30, 31, 32, 33, 34, 35, 36, 37] (by decide +kernel) (by decide +kernel)
set_option maxRecDepth 20000 in
theorem gX9_readsDebt_X9_number : GoodIn wsX9_readsDebt (wsV RX9 75 RX9 yX9_number wsX9_number) := goodIn_app (goodIn_of _ (by decide +kernel)) ggX9_readsDebt_X9_number
theorem dX9_readsDebt_0 : decode cX9_readsDebt 0 = .ok (.aload_n 0, 1) := by decide +kernel
theorem dX9_readsDebt_1 : decode cX9_readsDebt 1 = .ok (.iconst 0, 1) := by decide +kernel
theorem dX9_readsDebt_2 : decode cX9_readsDebt 2 = .ok (.aload_n 0, 1) := by decide +kernel
theorem dX9_readsDebt_3 : decode cX9_readsDebt 3 = .ok (.getfield 16, 3) := by decide +kernel
theorem dX9_readsDebt_6 : decode cX9_readsDebt 6 = .ok (.iconst 0, 1) := by decide +kernel
theorem dX9_readsDebt_7 : decode cX9_readsDebt 7 = .ok (.iaload, 1) := by decide +kernel
theorem dX9_readsDebt_8 : decode cX9_readsDebt 8 = .ok (.iconst 1, 1) := by decide +kernel
theorem dX9_readsDebt_9 : decode cX9_readsDebt 9 = .ok (.isub, 1) := by decide +kernel
theorem dX9_readsDebt_10 : decode cX9_readsDebt 10 = .ok (.bipush 44, 2) := by decide +kernel
theorem dX9_readsDebt_12 : decode cX9_readsDebt 12 = .ok (.invokevirtual 75, 3) := by decide +kernel
theorem dX9_readsDebt_15 : decode cX9_readsDebt 15 = .ok (.istore_n 1, 1) := by decide +kernel
theorem dX9_readsDebt_16 : decode cX9_readsDebt 16 = .ok (.iload_n 1, 1) := by decide +kernel
theorem dX9_readsDebt_17 : decode cX9_readsDebt 17 = .ok (.ifCond .ge 7, 3) := by decide +kernel
theorem dX9_readsDebt_20 : decode cX9_readsDebt 20 = .ok (.iconst (-1), 1) := by decide +kernel
theorem dX9_readsDebt_21 : decode cX9_readsDebt 21 = .ok (.goto 18, 3) := by decide +kernel
theorem dX9_readsDebt_24 : decode cX9_readsDebt 24 = .ok (.aload_n 0, 1) := by decide +kernel
theorem dX9_readsDebt_25 : decode cX9_readsDebt 25 = .ok (.iconst 0, 1) := by decide +kernel
theorem dX9_readsDebt_26 : decode cX9_readsDebt 26 = .ok (.aload_n 0, 1) := by decide +kernel
theorem dX9_readsDebt_27 : decode cX9_readsDebt 27 = .ok (.getfield 16, 3) := by decide +kernel
theorem dX9_readsDebt_30 : decode cX9_readsDebt 30 = .ok (.iconst 0, 1) := by decide +kernel
theorem dX9_readsDebt_31 : decode cX9_readsDebt 31 = .ok (.iaload, 1) := by decide +kernel
theorem dX9_readsDebt_32 : decode cX9_readsDebt 32 = .ok (.iconst 1, 1) := by decide +kernel
theorem dX9_readsDebt_33 : decode cX9_readsDebt 33 = .ok (.isub, 1) := by decide +kernel
theorem dX9_readsDebt_34 : decode cX9_readsDebt 34 = .ok (.bipush 44, 2) := by decide +kernel
theorem dX9_readsDebt_36 : decode cX9_readsDebt 36 = .ok (.invokevirtual 75, 3) := by decide +kernel
theorem dX9_readsDebt_39 : decode cX9_readsDebt 39 = .ok (.istore_n 2, 1) := by decide +kernel
theorem dX9_readsDebt_40 : decode cX9_readsDebt 40 = .ok (.iload_n 2, 1) := by decide +kernel
theorem dX9_readsDebt_41 : decode cX9_readsDebt 41 = .ok (.ifCond .ge 7, 3) := by decide +kernel
theorem dX9_readsDebt_44 : decode cX9_readsDebt 44 = .ok (.iconst (-1), 1) := by decide +kernel
theorem dX9_readsDebt_45 : decode cX9_readsDebt 45 = .ok (.goto 12, 3) := by decide +kernel
theorem dX9_readsDebt_48 : decode cX9_readsDebt 48 = .ok (.aload_n 0, 1) := by decide +kernel
theorem dX9_readsDebt_49 : decode cX9_readsDebt 49 = .ok (.iconst 0, 1) := by decide +kernel
theorem dX9_readsDebt_50 : decode cX9_readsDebt 50 = .ok (.bipush 60, 2) := by decide +kernel
theorem dX9_readsDebt_52 : decode cX9_readsDebt 52 = .ok (.bipush 59, 2) := by decide +kernel
theorem dX9_readsDebt_54 : decode cX9_readsDebt 54 = .ok (.invokevirtual 75, 3) := by decide +kernel
theorem dX9_readsDebt_57 : decode cX9_readsDebt 57 = .ok (.istore_n 3, 1) := by decide +kernel
theorem dX9_readsDebt_58 : decode cX9_readsDebt 58 = .ok (.iload_n 3, 1) := by decide +kernel
theorem dX9_readsDebt_59 : decode cX9_readsDebt 59 = .ok (.ifCond .lt 8, 3) := by decide +kernel
theorem dX9_readsDebt_62 : decode cX9_readsDebt 62 = .ok (.iload_n 1, 1) := by decide +kernel
theorem dX9_readsDebt_63 : decode cX9_readsDebt 63 = .ok (.iload_n 2, 1) := by decide +kernel
theorem dX9_readsDebt_64 : decode cX9_readsDebt 64 = .ok (.if_icmp .ne 5, 3) := by decide +kernel
theorem dX9_readsDebt_67 : decode cX9_readsDebt 67 = .ok (.iconst 0, 1) := by decide +kernel
theorem dX9_readsDebt_68 : decode cX9_readsDebt 68 = .ok (.ireturn, 1) := by decide +kernel
theorem dX9_readsDebt_69 : decode cX9_readsDebt 69 = .ok (.aload_n 0, 1) := by decide +kernel
theorem dX9_readsDebt_70 : decode cX9_readsDebt 70 = .ok (.getfield 19, 3) := by decide +kernel
theorem dX9_readsDebt_73 : decode cX9_readsDebt 73 = .ok (.bipush 23, 2) := by decide +kernel
theorem dX9_readsDebt_75 : decode cX9_readsDebt 75 = .ok (.bipush 7, 2) := by decide +kernel
theorem dX9_readsDebt_77 : decode cX9_readsDebt 77 = .ok (.iload_n 1, 1) := by decide +kernel
theorem dX9_readsDebt_78 : decode cX9_readsDebt 78 = .ok (.imul, 1) := by decide +kernel
theorem dX9_readsDebt_79 : decode cX9_readsDebt 79 = .ok (.iadd, 1) := by decide +kernel
theorem dX9_readsDebt_80 : decode cX9_readsDebt 80 = .ok (.iload_n 2, 1) := by decide +kernel
theorem dX9_readsDebt_81 : decode cX9_readsDebt 81 = .ok (.iadd, 1) := by decide +kernel
theorem dX9_readsDebt_82 : decode cX9_readsDebt 82 = .ok (.iload_n 3, 1) := by decide +kernel
theorem dX9_readsDebt_83 : decode cX9_readsDebt 83 = .ok (.iastore, 1) := by decide +kernel
theorem dX9_readsDebt_84 : decode cX9_readsDebt 84 = .ok (.iconst 1, 1) := by decide +kernel
theorem dX9_readsDebt_85 : decode cX9_readsDebt 85 = .ok (.ireturn, 1) := by decide +kernel
set_option maxRecDepth 20000 in
theorem ggX9_readsEach_X9_number : GoodIn wsX9_readsEach wsX9_number := goodIn_r _ [6, 7, 8, 9, 10, 5, 11, 12, 13, 14, 15, 16, 17, 18, 19, 20, 21, 22, 23, 24, 25, 26, 27, 28, 29, 30, 31, 32, 33, 34, 35, 36] (by decide +kernel) (by decide +kernel)
set_option maxRecDepth 20000 in
theorem gX9_readsEach_X9_number : GoodIn wsX9_readsEach (wsV RX9 75 RX9 yX9_number wsX9_number) := goodIn_app (goodIn_of _ (by decide +kernel)) ggX9_readsEach_X9_number
theorem dX9_readsEach_0 : decode cX9_readsEach 0 = .ok (.aload_n 0, 1) := by decide +kernel
theorem dX9_readsEach_1 : decode cX9_readsEach 1 = .ok (.iconst 1, 1) := by decide +kernel
theorem dX9_readsEach_2 : decode cX9_readsEach 2 = .ok (.bipush 9, 2) := by decide +kernel
theorem dX9_readsEach_4 : decode cX9_readsEach 4 = .ok (.bipush 59, 2) := by decide +kernel
theorem dX9_readsEach_6 : decode cX9_readsEach 6 = .ok (.invokevirtual 75, 3) := by decide +kernel
theorem dX9_readsEach_9 : decode cX9_readsEach 9 = .ok (.istore_n 1, 1) := by decide +kernel
theorem dX9_readsEach_10 : decode cX9_readsEach 10 = .ok (.iload_n 1, 1) := by decide +kernel
theorem dX9_readsEach_11 : decode cX9_readsEach 11 = .ok (.ifCond .le 10, 3) := by decide +kernel
theorem dX9_readsEach_14 : decode cX9_readsEach 14 = .ok (.aload_n 0, 1) := by decide +kernel
theorem dX9_readsEach_15 : decode cX9_readsEach 15 = .ok (.getfield 16, 3) := by decide +kernel
theorem dX9_readsEach_18 : decode cX9_readsEach 18 = .ok (.iconst 1, 1) := by decide +kernel
theorem dX9_readsEach_19 : decode cX9_readsEach 19 = .ok (.iload_n 1, 1) := by decide +kernel
theorem dX9_readsEach_20 : decode cX9_readsEach 20 = .ok (.iastore, 1) := by decide +kernel
theorem dX9_readsEach_21 : decode cX9_readsEach 21 = .ok (.iload_n 1, 1) := by decide +kernel
theorem dX9_readsEach_22 : decode cX9_readsEach 22 = .ok (.ifCond .le 7, 3) := by decide +kernel
theorem dX9_readsEach_25 : decode cX9_readsEach 25 = .ok (.iconst 1, 1) := by decide +kernel
theorem dX9_readsEach_26 : decode cX9_readsEach 26 = .ok (.goto 4, 3) := by decide +kernel
theorem dX9_readsEach_29 : decode cX9_readsEach 29 = .ok (.iconst 0, 1) := by decide +kernel
theorem dX9_readsEach_30 : decode cX9_readsEach 30 = .ok (.ireturn, 1) := by decide +kernel
set_option maxRecDepth 20000 in
theorem ggX9_readsAll_X9_begins : GoodIn wsX9_readsAll wsX9_begins := goodIn_r _ [8, 9, 10, 41, 42, 43, 44, 45, 46, 47, 48, 49, 50, 51, 52, 53, 54, 55, 56, 57] (by decide +kernel) (by decide +kernel)
set_option maxRecDepth 20000 in
theorem gX9_readsAll_X9_begins : GoodIn wsX9_readsAll (wsV RX9 46 RX9 yX9_begins wsX9_begins) := goodIn_app (goodIn_of _ (by decide +kernel)) ggX9_readsAll_X9_begins
set_option maxRecDepth 20000 in
theorem ggX9_readsAll_X9_readsPerson : GoodIn wsX9_readsAll wsX9_readsPerson := goodIn_r _ [14, 9, 15, 16, 17, 7, 18, 1, 19, 20, 21, 22, 2, 3, 23, 24, 25, 26, 27, 28, 29, 30, 31, 32, 10, 41, 42, 43, 44, 45, 46, 47, 48, 49, 50, 51, 52, 53, 54, 55, 56, 57] (by decide +kernel) (by decide +kernel)
set_option maxRecDepth 20000 in
theorem gX9_readsAll_X9_readsPerson : GoodIn wsX9_readsAll (wsV RX9 79 RX9 yX9_readsPerson wsX9_readsPerson) := goodIn_app (goodIn_of _ (by decide +kernel)) ggX9_readsAll_X9_readsPerson
set_option maxRecDepth 20000 in
theorem ggX9_readsAll_X9_readsEach : GoodIn wsX9_readsAll wsX9_readsEach := goodIn_r _ [36, 9, 15, 16, 17, 7, 18, 1, 19, 20, 21, 22, 2, 3, 23, 24, 25, 26, 27, 28, 41, 42, 43, 44, 45, 46, 47, 48, 49, 50, 51, 52, 53, 54, 55, 56, 57] (by decide +kernel) (by decide +kernel)
set_option maxRecDepth 20000 in
theorem gX9_readsAll_X9_readsEach : GoodIn wsX9_readsAll (wsV RX9 83 RX9 yX9_readsEach wsX9_readsEach) := goodIn_app (goodIn_of _ (by decide +kernel)) ggX9_readsAll_X9_readsEach
set_option maxRecDepth 20000 in
theorem ggX9_readsAll_X9_readsDebt : GoodIn wsX9_readsAll wsX9_readsDebt := goodIn_r _ [40, 9, 10, 15, 16, 17, 7, 18, 1, 19, 20, 21, 22, 2, 3, 23, 24, 25, 26, 27, 28, 41, 42, 43, 44, 45, 46, 47, 48, 49, 50, 51, 52, 53, 54, 55, 56, 57] (by decide +kernel) (by decide +kernel)
set_option maxRecDepth 20000 in
theorem gX9_readsAll_X9_readsDebt : GoodIn wsX9_readsAll (wsV RX9 86 RX9 yX9_readsDebt wsX9_readsDebt) := goodIn_app (goodIn_of _ (by decide +kernel)) ggX9_readsAll_X9_readsDebt
theorem dX9_readsAll_0 : decode cX9_readsAll 0 = .ok (.aload_n 0, 1) := by decide +kernel
theorem dX9_readsAll_1 : decode cX9_readsAll 1 = .ok (.invokevirtual 46, 3) := by decide +kernel
theorem dX9_readsAll_4 : decode cX9_readsAll 4 = .ok (.aload_n 0, 1) := by decide +kernel
theorem dX9_readsAll_5 : decode cX9_readsAll 5 = .ok (.iconst 0, 1) := by decide +kernel
theorem dX9_readsAll_6 : decode cX9_readsAll 6 = .ok (.putfield 64, 3) := by decide +kernel
theorem dX9_readsAll_9 : decode cX9_readsAll 9 = .ok (.aload_n 0, 1) := by decide +kernel
theorem dX9_readsAll_10 : decode cX9_readsAll 10 = .ok (.getfield 64, 3) := by decide +kernel
theorem dX9_readsAll_13 : decode cX9_readsAll 13 = .ok (.aload_n 0, 1) := by decide +kernel
theorem dX9_readsAll_14 : decode cX9_readsAll 14 = .ok (.getfield 60, 3) := by decide +kernel
theorem dX9_readsAll_17 : decode cX9_readsAll 17 = .ok (.if_icmp .ge 79, 3) := by decide +kernel
theorem dX9_readsAll_20 : decode cX9_readsAll 20 = .ok (.aload_n 0, 1) := by decide +kernel
theorem dX9_readsAll_21 : decode cX9_readsAll 21 = .ok (.getfield 64, 3) := by decide +kernel
theorem dX9_readsAll_24 : decode cX9_readsAll 24 = .ok (.istore_n 1, 1) := by decide +kernel
theorem dX9_readsAll_25 : decode cX9_readsAll 25 = .ok (.aload_n 0, 1) := by decide +kernel
theorem dX9_readsAll_26 : decode cX9_readsAll 26 = .ok (.getfield 7, 3) := by decide +kernel
theorem dX9_readsAll_29 : decode cX9_readsAll 29 = .ok (.iload_n 1, 1) := by decide +kernel
theorem dX9_readsAll_30 : decode cX9_readsAll 30 = .ok (.iaload, 1) := by decide +kernel
theorem dX9_readsAll_31 : decode cX9_readsAll 31 = .ok (.istore_n 2, 1) := by decide +kernel
theorem dX9_readsAll_32 : decode cX9_readsAll 32 = .ok (.aload_n 0, 1) := by decide +kernel
theorem dX9_readsAll_33 : decode cX9_readsAll 33 = .ok (.dup, 1) := by decide +kernel
theorem dX9_readsAll_34 : decode cX9_readsAll 34 = .ok (.getfield 64, 3) := by decide +kernel
theorem dX9_readsAll_37 : decode cX9_readsAll 37 = .ok (.iconst 1, 1) := by decide +kernel
theorem dX9_readsAll_38 : decode cX9_readsAll 38 = .ok (.iadd, 1) := by decide +kernel
theorem dX9_readsAll_39 : decode cX9_readsAll 39 = .ok (.putfield 64, 3) := by decide +kernel
theorem dX9_readsAll_42 : decode cX9_readsAll 42 = .ok (.iload_n 2, 1) := by decide +kernel
theorem dX9_readsAll_43 : decode cX9_readsAll 43 = .ok (.bipush 112, 2) := by decide +kernel
theorem dX9_readsAll_45 : decode cX9_readsAll 45 = .ok (.if_icmp .ne 10, 3) := by decide +kernel
theorem dX9_readsAll_48 : decode cX9_readsAll 48 = .ok (.aload_n 0, 1) := by decide +kernel
theorem dX9_readsAll_49 : decode cX9_readsAll 49 = .ok (.invokevirtual 79, 3) := by decide +kernel
theorem dX9_readsAll_52 : decode cX9_readsAll 52 = .ok (.goto 34, 3) := by decide +kernel
theorem dX9_readsAll_55 : decode cX9_readsAll 55 = .ok (.iload_n 2, 1) := by decide +kernel
theorem dX9_readsAll_56 : decode cX9_readsAll 56 = .ok (.bipush 115, 2) := by decide +kernel
theorem dX9_readsAll_58 : decode cX9_readsAll 58 = .ok (.if_icmp .ne 10, 3) := by decide +kernel
theorem dX9_readsAll_61 : decode cX9_readsAll 61 = .ok (.aload_n 0, 1) := by decide +kernel
theorem dX9_readsAll_62 : decode cX9_readsAll 62 = .ok (.invokevirtual 83, 3) := by decide +kernel
theorem dX9_readsAll_65 : decode cX9_readsAll 65 = .ok (.goto 21, 3) := by decide +kernel
theorem dX9_readsAll_68 : decode cX9_readsAll 68 = .ok (.iload_n 2, 1) := by decide +kernel
theorem dX9_readsAll_69 : decode cX9_readsAll 69 = .ok (.bipush 100, 2) := by decide +kernel
theorem dX9_readsAll_71 : decode cX9_readsAll 71 = .ok (.if_icmp .ne 14, 3) := by decide +kernel
theorem dX9_readsAll_74 : decode cX9_readsAll 74 = .ok (.aload_n 0, 1) := by decide +kernel
theorem dX9_readsAll_75 : decode cX9_readsAll 75 = .ok (.invokevirtual 86, 3) := by decide +kernel
theorem dX9_readsAll_78 : decode cX9_readsAll 78 = .ok (.ifCond .eq 7, 3) := by decide +kernel
theorem dX9_readsAll_81 : decode cX9_readsAll 81 = .ok (.iconst 1, 1) := by decide +kernel
theorem dX9_readsAll_82 : decode cX9_readsAll 82 = .ok (.goto 4, 3) := by decide +kernel
theorem dX9_readsAll_85 : decode cX9_readsAll 85 = .ok (.iconst 0, 1) := by decide +kernel
theorem dX9_readsAll_86 : decode cX9_readsAll 86 = .ok (.istore_n 3, 1) := by decide +kernel
theorem dX9_readsAll_87 : decode cX9_readsAll 87 = .ok (.iload_n 3, 1) := by decide +kernel
theorem dX9_readsAll_88 : decode cX9_readsAll 88 = .ok (.ifCond .ne 5, 3) := by decide +kernel
theorem dX9_readsAll_91 : decode cX9_readsAll 91 = .ok (.iload_n 1, 1) := by decide +kernel
theorem dX9_readsAll_92 : decode cX9_readsAll 92 = .ok (.ireturn, 1) := by decide +kernel
theorem dX9_readsAll_93 : decode cX9_readsAll 93 = .ok (.goto (-84), 3) := by decide +kernel
theorem dX9_readsAll_96 : decode cX9_readsAll 96 = .ok (.bipush (-4), 2) := by decide +kernel
theorem dX9_readsAll_98 : decode cX9_readsAll 98 = .ok (.ireturn, 1) := by decide +kernel
set_option maxRecDepth 20000 in
theorem ggX9_fault_X9_readsAll : GoodIn wsX9_fault wsX9_readsAll := goodIn_r _ [5, 6, 7, 8, 9, 10, 11, 4, 12, 13, 14, 15, 16, 17, 18, 19, 20, 21, 22, 23, 24, 25, 26, 27, 28, 29, 30, 31, 32, 33, 34, 35, 36, 37, 38, 39, 40, 41, 42, 43, 44, 45, 46, 47, 48, 49, 50, 51, 52, 53, 54, 55, 56, 57, 58, 59, 60, 61] (by decide +kernel) (by decide +kernel)
set_option maxRecDepth 20000 in
theorem gX9_fault_X9_readsAll : GoodIn wsX9_fault (wsV RX9 89 RX9 yX9_readsAll wsX9_readsAll) := goodIn_app (goodIn_of _ (by decide +kernel)) ggX9_fault_X9_readsAll
theorem dX9_fault_0 : decode cX9_fault 0 = .ok (.aload_n 0, 1) := by decide +kernel
theorem dX9_fault_1 : decode cX9_fault 1 = .ok (.invokevirtual 89, 3) := by decide +kernel
theorem dX9_fault_4 : decode cX9_fault 4 = .ok (.ireturn, 1) := by decide +kernel
theorem dX9_lays_0 : decode cX9_lays 0 = .ok (.iconst 0, 1) := by decide +kernel
theorem dX9_lays_1 : decode cX9_lays 1 = .ok (.istore_n 1, 1) := by decide +kernel
theorem dX9_lays_2 : decode cX9_lays 2 = .ok (.iload_n 1, 1) := by decide +kernel
theorem dX9_lays_3 : decode cX9_lays 3 = .ok (.bipush 23, 2) := by decide +kernel
theorem dX9_lays_5 : decode cX9_lays 5 = .ok (.if_icmp .ge 21, 3) := by decide +kernel
theorem dX9_lays_8 : decode cX9_lays 8 = .ok (.aload_n 0, 1) := by decide +kernel
theorem dX9_lays_9 : decode cX9_lays 9 = .ok (.getfield 13, 3) := by decide +kernel
theorem dX9_lays_12 : decode cX9_lays 12 = .ok (.iload_n 1, 1) := by decide +kernel
theorem dX9_lays_13 : decode cX9_lays 13 = .ok (.aload_n 0, 1) := by decide +kernel
theorem dX9_lays_14 : decode cX9_lays 14 = .ok (.getfield 16, 3) := by decide +kernel
theorem dX9_lays_17 : decode cX9_lays 17 = .ok (.iload_n 1, 1) := by decide +kernel
theorem dX9_lays_18 : decode cX9_lays 18 = .ok (.iaload, 1) := by decide +kernel
theorem dX9_lays_19 : decode cX9_lays 19 = .ok (.iastore, 1) := by decide +kernel
theorem dX9_lays_20 : decode cX9_lays 20 = .ok (.iinc 1 1, 3) := by decide +kernel
theorem dX9_lays_23 : decode cX9_lays 23 = .ok (.goto (-21), 3) := by decide +kernel
theorem dX9_lays_26 : decode cX9_lays 26 = .ok (.iconst 0, 1) := by decide +kernel
theorem dX9_lays_27 : decode cX9_lays 27 = .ok (.istore_n 1, 1) := by decide +kernel
theorem dX9_lays_28 : decode cX9_lays 28 = .ok (.iload_n 1, 1) := by decide +kernel
theorem dX9_lays_29 : decode cX9_lays 29 = .ok (.bipush 72, 2) := by decide +kernel
theorem dX9_lays_31 : decode cX9_lays 31 = .ok (.if_icmp .ge 21, 3) := by decide +kernel
theorem dX9_lays_34 : decode cX9_lays 34 = .ok (.aload_n 0, 1) := by decide +kernel
theorem dX9_lays_35 : decode cX9_lays 35 = .ok (.getfield 22, 3) := by decide +kernel
theorem dX9_lays_38 : decode cX9_lays 38 = .ok (.iload_n 1, 1) := by decide +kernel
theorem dX9_lays_39 : decode cX9_lays 39 = .ok (.aload_n 0, 1) := by decide +kernel
theorem dX9_lays_40 : decode cX9_lays 40 = .ok (.getfield 19, 3) := by decide +kernel
theorem dX9_lays_43 : decode cX9_lays 43 = .ok (.iload_n 1, 1) := by decide +kernel
theorem dX9_lays_44 : decode cX9_lays 44 = .ok (.iaload, 1) := by decide +kernel
theorem dX9_lays_45 : decode cX9_lays 45 = .ok (.iastore, 1) := by decide +kernel
theorem dX9_lays_46 : decode cX9_lays 46 = .ok (.iinc 1 1, 3) := by decide +kernel
theorem dX9_lays_49 : decode cX9_lays 49 = .ok (.goto (-21), 3) := by decide +kernel
theorem dX9_lays_52 : decode cX9_lays 52 = .ok (.aload_n 0, 1) := by decide +kernel
theorem dX9_lays_53 : decode cX9_lays 53 = .ok (.iconst 0, 1) := by decide +kernel
theorem dX9_lays_54 : decode cX9_lays 54 = .ok (.putfield 93, 3) := by decide +kernel
theorem dX9_lays_57 : decode cX9_lays 57 = .ok (.aload_n 0, 1) := by decide +kernel
theorem dX9_lays_58 : decode cX9_lays 58 = .ok (.iconst 0, 1) := by decide +kernel
theorem dX9_lays_59 : decode cX9_lays 59 = .ok (.putfield 96, 3) := by decide +kernel
theorem dX9_lays_62 : decode cX9_lays 62 = .ok (.aload_n 0, 1) := by decide +kernel
theorem dX9_lays_63 : decode cX9_lays 63 = .ok (.iconst 0, 1) := by decide +kernel
theorem dX9_lays_64 : decode cX9_lays 64 = .ok (.putfield 99, 3) := by decide +kernel
theorem dX9_lays_67 : decode cX9_lays 67 = .ok (.return_, 1) := by decide +kernel
set_option maxRecDepth 20000 in
theorem ggX9_lay_X9_readsAll : GoodIn wsX9_lay wsX9_readsAll := goodIn_r _ [7, 8, 9, 10, 11, 12, 13, 6, 14, 1, 15, 16, 17, 18, 19, 20, 21, 22, 23, 24, 25, 26, 27, 28, 29, 30, 31, 32, 33, 34, 35, 36, 37, 38, 39, 40, 41, 42, 43, 44, 45, 54, 55, 56, 57, 58, 59, 60, 61, 62, 63, 64, 65, 66, 67, 68, 69, 70] (by decide +kernel) (by decide +kernel)
set_option maxRecDepth 20000 in
theorem gX9_lay_X9_readsAll : GoodIn wsX9_lay (wsV RX9 89 RX9 yX9_readsAll wsX9_readsAll) := goodIn_app (goodIn_of _ (by decide +kernel)) ggX9_lay_X9_readsAll
set_option maxRecDepth 20000 in
theorem ggX9_lay_X9_lays : GoodIn wsX9_lay wsX9_lays := goodIn_r _ [49, 2, 1, 50, 15, 51, 52, 53, 54, 55, 56, 57, 58, 59, 60, 61, 62, 63, 64, 65, 66, 67, 68, 69, 70] (by decide +kernel) (by decide +kernel)
set_option maxRecDepth 20000 in
theorem gX9_lay_X9_lays : GoodIn wsX9_lay (wsV RX9 53 RX9 yX9_lays wsX9_lays) := goodIn_app (goodIn_of _ (by decide +kernel)) ggX9_lay_X9_lays
theorem dX9_lay_0 : decode cX9_lay 0 = .ok (.aload_n 0, 1) := by decide +kernel
theorem dX9_lay_1 : decode cX9_lay 1 = .ok (.invokevirtual 89, 3) := by decide +kernel
theorem dX9_lay_4 : decode cX9_lay 4 = .ok (.bipush (-4), 2) := by decide +kernel
theorem dX9_lay_6 : decode cX9_lay 6 = .ok (.if_icmp .ne 12, 3) := by decide +kernel
theorem dX9_lay_9 : decode cX9_lay 9 = .ok (.aload_n 0, 1) := by decide +kernel
theorem dX9_lay_10 : decode cX9_lay 10 = .ok (.getfield 16, 3) := by decide +kernel
theorem dX9_lay_13 : decode cX9_lay 13 = .ok (.iconst 0, 1) := by decide +kernel
theorem dX9_lay_14 : decode cX9_lay 14 = .ok (.iaload, 1) := by decide +kernel
theorem dX9_lay_15 : decode cX9_lay 15 = .ok (.ifCond .ne 6, 3) := by decide +kernel
theorem dX9_lay_18 : decode cX9_lay 18 = .ok (.bipush (-2), 2) := by decide +kernel
theorem dX9_lay_20 : decode cX9_lay 20 = .ok (.ireturn, 1) := by decide +kernel
theorem dX9_lay_21 : decode cX9_lay 21 = .ok (.aload_n 0, 1) := by decide +kernel
theorem dX9_lay_22 : decode cX9_lay 22 = .ok (.invokevirtual 53, 3) := by decide +kernel
theorem dX9_lay_25 : decode cX9_lay 25 = .ok (.aload_n 0, 1) := by decide +kernel
theorem dX9_lay_26 : decode cX9_lay 26 = .ok (.getfield 13, 3) := by decide +kernel
theorem dX9_lay_29 : decode cX9_lay 29 = .ok (.iconst 0, 1) := by decide +kernel
theorem dX9_lay_30 : decode cX9_lay 30 = .ok (.iaload, 1) := by decide +kernel
theorem dX9_lay_31 : decode cX9_lay 31 = .ok (.ireturn, 1) := by decide +kernel
theorem dX9_placeOf_0 : decode cX9_placeOf 0 = .ok (.bipush (-4), 2) := by decide +kernel
theorem dX9_placeOf_2 : decode cX9_placeOf 2 = .ok (.istore_n 2, 1) := by decide +kernel
theorem dX9_placeOf_3 : decode cX9_placeOf 3 = .ok (.iconst 0, 1) := by decide +kernel
theorem dX9_placeOf_4 : decode cX9_placeOf 4 = .ok (.istore_n 3, 1) := by decide +kernel
theorem dX9_placeOf_5 : decode cX9_placeOf 5 = .ok (.iload_n 3, 1) := by decide +kernel
theorem dX9_placeOf_6 : decode cX9_placeOf 6 = .ok (.aload_n 0, 1) := by decide +kernel
theorem dX9_placeOf_7 : decode cX9_placeOf 7 = .ok (.getfield 22, 3) := by decide +kernel
theorem dX9_placeOf_10 : decode cX9_placeOf 10 = .ok (.iconst 1, 1) := by decide +kernel
theorem dX9_placeOf_11 : decode cX9_placeOf 11 = .ok (.iaload, 1) := by decide +kernel
theorem dX9_placeOf_12 : decode cX9_placeOf 12 = .ok (.if_icmp .ge 27, 3) := by decide +kernel
theorem dX9_placeOf_15 : decode cX9_placeOf 15 = .ok (.aload_n 0, 1) := by decide +kernel
theorem dX9_placeOf_16 : decode cX9_placeOf 16 = .ok (.getfield 22, 3) := by decide +kernel
theorem dX9_placeOf_19 : decode cX9_placeOf 19 = .ok (.iconst 2, 1) := by decide +kernel
theorem dX9_placeOf_20 : decode cX9_placeOf 20 = .ok (.iload_n 3, 1) := by decide +kernel
theorem dX9_placeOf_21 : decode cX9_placeOf 21 = .ok (.iadd, 1) := by decide +kernel
theorem dX9_placeOf_22 : decode cX9_placeOf 22 = .ok (.iaload, 1) := by decide +kernel
theorem dX9_placeOf_23 : decode cX9_placeOf 23 = .ok (.iload_n 1, 1) := by decide +kernel
theorem dX9_placeOf_24 : decode cX9_placeOf 24 = .ok (.if_icmp .ne 7, 3) := by decide +kernel
theorem dX9_placeOf_27 : decode cX9_placeOf 27 = .ok (.iload_n 3, 1) := by decide +kernel
theorem dX9_placeOf_28 : decode cX9_placeOf 28 = .ok (.goto 4, 3) := by decide +kernel
theorem dX9_placeOf_31 : decode cX9_placeOf 31 = .ok (.iload_n 2, 1) := by decide +kernel
theorem dX9_placeOf_32 : decode cX9_placeOf 32 = .ok (.istore_n 2, 1) := by decide +kernel
theorem dX9_placeOf_33 : decode cX9_placeOf 33 = .ok (.iinc 3 1, 3) := by decide +kernel
theorem dX9_placeOf_36 : decode cX9_placeOf 36 = .ok (.goto (-31), 3) := by decide +kernel
theorem dX9_placeOf_39 : decode cX9_placeOf 39 = .ok (.iload_n 2, 1) := by decide +kernel
theorem dX9_placeOf_40 : decode cX9_placeOf 40 = .ok (.ireturn, 1) := by decide +kernel
theorem dX9_due_0 : decode cX9_due 0 = .ok (.iconst 0, 1) := by decide +kernel
theorem dX9_due_1 : decode cX9_due 1 = .ok (.istore_n 2, 1) := by decide +kernel
theorem dX9_due_2 : decode cX9_due 2 = .ok (.iconst 0, 1) := by decide +kernel
theorem dX9_due_3 : decode cX9_due 3 = .ok (.istore_n 3, 1) := by decide +kernel
theorem dX9_due_4 : decode cX9_due 4 = .ok (.iload_n 3, 1) := by decide +kernel
theorem dX9_due_5 : decode cX9_due 5 = .ok (.bipush 7, 2) := by decide +kernel
theorem dX9_due_7 : decode cX9_due 7 = .ok (.if_icmp .ge 41, 3) := by decide +kernel
theorem dX9_due_10 : decode cX9_due 10 = .ok (.iload_n 2, 1) := by decide +kernel
theorem dX9_due_11 : decode cX9_due 11 = .ok (.aload_n 0, 1) := by decide +kernel
theorem dX9_due_12 : decode cX9_due 12 = .ok (.getfield 22, 3) := by decide +kernel
theorem dX9_due_15 : decode cX9_due 15 = .ok (.bipush 23, 2) := by decide +kernel
theorem dX9_due_17 : decode cX9_due 17 = .ok (.bipush 7, 2) := by decide +kernel
theorem dX9_due_19 : decode cX9_due 19 = .ok (.iload_n 3, 1) := by decide +kernel
theorem dX9_due_20 : decode cX9_due 20 = .ok (.imul, 1) := by decide +kernel
theorem dX9_due_21 : decode cX9_due 21 = .ok (.iadd, 1) := by decide +kernel
theorem dX9_due_22 : decode cX9_due 22 = .ok (.iload_n 1, 1) := by decide +kernel
theorem dX9_due_23 : decode cX9_due 23 = .ok (.iadd, 1) := by decide +kernel
theorem dX9_due_24 : decode cX9_due 24 = .ok (.iaload, 1) := by decide +kernel
theorem dX9_due_25 : decode cX9_due 25 = .ok (.aload_n 0, 1) := by decide +kernel
theorem dX9_due_26 : decode cX9_due 26 = .ok (.getfield 22, 3) := by decide +kernel
theorem dX9_due_29 : decode cX9_due 29 = .ok (.bipush 23, 2) := by decide +kernel
theorem dX9_due_31 : decode cX9_due 31 = .ok (.bipush 7, 2) := by decide +kernel
theorem dX9_due_33 : decode cX9_due 33 = .ok (.iload_n 1, 1) := by decide +kernel
theorem dX9_due_34 : decode cX9_due 34 = .ok (.imul, 1) := by decide +kernel
theorem dX9_due_35 : decode cX9_due 35 = .ok (.iadd, 1) := by decide +kernel
theorem dX9_due_36 : decode cX9_due 36 = .ok (.iload_n 3, 1) := by decide +kernel
theorem dX9_due_37 : decode cX9_due 37 = .ok (.iadd, 1) := by decide +kernel
theorem dX9_due_38 : decode cX9_due 38 = .ok (.iaload, 1) := by decide +kernel
theorem dX9_due_39 : decode cX9_due 39 = .ok (.isub, 1) := by decide +kernel
theorem dX9_due_40 : decode cX9_due 40 = .ok (.iadd, 1) := by decide +kernel
theorem dX9_due_41 : decode cX9_due 41 = .ok (.istore_n 2, 1) := by decide +kernel
theorem dX9_due_42 : decode cX9_due 42 = .ok (.iinc 3 1, 3) := by decide +kernel
theorem dX9_due_45 : decode cX9_due 45 = .ok (.goto (-41), 3) := by decide +kernel
theorem dX9_due_48 : decode cX9_due 48 = .ok (.iload_n 2, 1) := by decide +kernel
theorem dX9_due_49 : decode cX9_due 49 = .ok (.ireturn, 1) := by decide +kernel
set_option maxRecDepth 20000 in
theorem ggX9_person_X9_isOne : GoodIn wsX9_person wsX9_isOne := goodIn_r _ [8, 1, 9, 10, 7, 11, 20, 21, 22, 23, 24, 25, 26, 27, 28, 29, 30, 31, 32, 33, 34, 35, 36] (by decide +kernel) (by decide +kernel)
set_option maxRecDepth 20000 in
theorem gX9_person_X9_isOne : GoodIn wsX9_person (wsV RX9 102 RX9 yX9_isOne wsX9_isOne) := goodIn_app (goodIn_of _ (by decide +kernel)) ggX9_person_X9_isOne
set_option maxRecDepth 20000 in
theorem ggX9_person_X9_placeOf : GoodIn wsX9_person wsX9_placeOf := goodIn_r _ [15, 2, 20, 21, 22, 23, 24, 25, 26, 27, 28, 29, 30, 31, 32, 33, 34, 35, 36] (by decide +kernel) (by decide +kernel)
set_option maxRecDepth 20000 in
theorem gX9_person_X9_placeOf : GoodIn wsX9_person (wsV RX9 105 RX9 yX9_placeOf wsX9_placeOf) := goodIn_app (goodIn_of _ (by decide +kernel)) ggX9_person_X9_placeOf
set_option maxRecDepth 20000 in
theorem ggX9_person_X9_due : GoodIn wsX9_person wsX9_due := goodIn_r _ [19, 2, 20, 21, 22, 23, 24, 25, 26, 27, 28, 29, 30, 31, 32, 33, 34, 35, 36] (by decide +kernel) (by decide +kernel)
set_option maxRecDepth 20000 in
theorem gX9_person_X9_due : GoodIn wsX9_person (wsV RX9 108 RX9 yX9_due wsX9_due) := goodIn_app (goodIn_of _ (by decide +kernel)) ggX9_person_X9_due
theorem dX9_person_0 : decode cX9_person 0 = .ok (.aload_n 0, 1) := by decide +kernel
theorem dX9_person_1 : decode cX9_person 1 = .ok (.iload_n 1, 1) := by decide +kernel
theorem dX9_person_2 : decode cX9_person 2 = .ok (.invokevirtual 102, 3) := by decide +kernel
theorem dX9_person_5 : decode cX9_person 5 = .ok (.ifCond .ne 5, 3) := by decide +kernel
theorem dX9_person_8 : decode cX9_person 8 = .ok (.iconst (-1), 1) := by decide +kernel
theorem dX9_person_9 : decode cX9_person 9 = .ok (.ireturn, 1) := by decide +kernel
theorem dX9_person_10 : decode cX9_person 10 = .ok (.iload_n 2, 1) := by decide +kernel
theorem dX9_person_11 : decode cX9_person 11 = .ok (.tableswitch 105 0 6 #[41, 50, 60, 70, 80, 86, 96], 41) := by decide +kernel
theorem dX9_person_52 : decode cX9_person 52 = .ok (.aload_n 0, 1) := by decide +kernel
theorem dX9_person_53 : decode cX9_person 53 = .ok (.getfield 13, 3) := by decide +kernel
theorem dX9_person_56 : decode cX9_person 56 = .ok (.iconst 2, 1) := by decide +kernel
theorem dX9_person_57 : decode cX9_person 57 = .ok (.iload_n 1, 1) := by decide +kernel
theorem dX9_person_58 : decode cX9_person 58 = .ok (.iadd, 1) := by decide +kernel
theorem dX9_person_59 : decode cX9_person 59 = .ok (.iaload, 1) := by decide +kernel
theorem dX9_person_60 : decode cX9_person 60 = .ok (.ireturn, 1) := by decide +kernel
theorem dX9_person_61 : decode cX9_person 61 = .ok (.aload_n 0, 1) := by decide +kernel
theorem dX9_person_62 : decode cX9_person 62 = .ok (.getfield 13, 3) := by decide +kernel
theorem dX9_person_65 : decode cX9_person 65 = .ok (.bipush 9, 2) := by decide +kernel
theorem dX9_person_67 : decode cX9_person 67 = .ok (.iload_n 1, 1) := by decide +kernel
theorem dX9_person_68 : decode cX9_person 68 = .ok (.iadd, 1) := by decide +kernel
theorem dX9_person_69 : decode cX9_person 69 = .ok (.iaload, 1) := by decide +kernel
theorem dX9_person_70 : decode cX9_person 70 = .ok (.ireturn, 1) := by decide +kernel
theorem dX9_person_71 : decode cX9_person 71 = .ok (.aload_n 0, 1) := by decide +kernel
theorem dX9_person_72 : decode cX9_person 72 = .ok (.getfield 13, 3) := by decide +kernel
theorem dX9_person_75 : decode cX9_person 75 = .ok (.bipush 16, 2) := by decide +kernel
theorem dX9_person_77 : decode cX9_person 77 = .ok (.iload_n 1, 1) := by decide +kernel
theorem dX9_person_78 : decode cX9_person 78 = .ok (.iadd, 1) := by decide +kernel
theorem dX9_person_79 : decode cX9_person 79 = .ok (.iaload, 1) := by decide +kernel
theorem dX9_person_80 : decode cX9_person 80 = .ok (.ireturn, 1) := by decide +kernel
theorem dX9_person_81 : decode cX9_person 81 = .ok (.aload_n 0, 1) := by decide +kernel
theorem dX9_person_82 : decode cX9_person 82 = .ok (.getfield 22, 3) := by decide +kernel
theorem dX9_person_85 : decode cX9_person 85 = .ok (.bipush 16, 2) := by decide +kernel
theorem dX9_person_87 : decode cX9_person 87 = .ok (.iload_n 1, 1) := by decide +kernel
theorem dX9_person_88 : decode cX9_person 88 = .ok (.iadd, 1) := by decide +kernel
theorem dX9_person_89 : decode cX9_person 89 = .ok (.iaload, 1) := by decide +kernel
theorem dX9_person_90 : decode cX9_person 90 = .ok (.ireturn, 1) := by decide +kernel
theorem dX9_person_91 : decode cX9_person 91 = .ok (.aload_n 0, 1) := by decide +kernel
theorem dX9_person_92 : decode cX9_person 92 = .ok (.iload_n 1, 1) := by decide +kernel
theorem dX9_person_93 : decode cX9_person 93 = .ok (.invokevirtual 105, 3) := by decide +kernel
theorem dX9_person_96 : decode cX9_person 96 = .ok (.ireturn, 1) := by decide +kernel
theorem dX9_person_97 : decode cX9_person 97 = .ok (.aload_n 0, 1) := by decide +kernel
theorem dX9_person_98 : decode cX9_person 98 = .ok (.getfield 22, 3) := by decide +kernel
theorem dX9_person_101 : decode cX9_person 101 = .ok (.bipush 9, 2) := by decide +kernel
theorem dX9_person_103 : decode cX9_person 103 = .ok (.iload_n 1, 1) := by decide +kernel
theorem dX9_person_104 : decode cX9_person 104 = .ok (.iadd, 1) := by decide +kernel
theorem dX9_person_105 : decode cX9_person 105 = .ok (.iaload, 1) := by decide +kernel
theorem dX9_person_106 : decode cX9_person 106 = .ok (.ireturn, 1) := by decide +kernel
theorem dX9_person_107 : decode cX9_person 107 = .ok (.aload_n 0, 1) := by decide +kernel
theorem dX9_person_108 : decode cX9_person 108 = .ok (.iload_n 1, 1) := by decide +kernel
theorem dX9_person_109 : decode cX9_person 109 = .ok (.invokevirtual 108, 3) := by decide +kernel
theorem dX9_person_112 : decode cX9_person 112 = .ok (.ldc 111, 2) := by decide +kernel
theorem dX9_person_114 : decode cX9_person 114 = .ok (.iadd, 1) := by decide +kernel
theorem dX9_person_115 : decode cX9_person 115 = .ok (.ireturn, 1) := by decide +kernel
theorem dX9_person_116 : decode cX9_person 116 = .ok (.iconst (-1), 1) := by decide +kernel
theorem dX9_person_117 : decode cX9_person 117 = .ok (.ireturn, 1) := by decide +kernel
set_option maxRecDepth 20000 in
theorem ggX9_owes_X9_isOne : GoodIn wsX9_owes wsX9_isOne := goodIn_r _ [6, 7, 8, 9, 5, 10, 11, 12, 13, 14, 15, 16, 17, 18, 19, 20, 21, 22, 23, 24, 25, 26, 27] (by decide +kernel) (by decide +kernel)
set_option maxRecDepth 20000 in
theorem gX9_owes_X9_isOne : GoodIn wsX9_owes (wsV RX9 102 RX9 yX9_isOne wsX9_isOne) := goodIn_app (goodIn_of _ (by decide +kernel)) ggX9_owes_X9_isOne
theorem dX9_owes_0 : decode cX9_owes 0 = .ok (.aload_n 0, 1) := by decide +kernel
theorem dX9_owes_1 : decode cX9_owes 1 = .ok (.iload_n 1, 1) := by decide +kernel
theorem dX9_owes_2 : decode cX9_owes 2 = .ok (.invokevirtual 102, 3) := by decide +kernel
theorem dX9_owes_5 : decode cX9_owes 5 = .ok (.ifCond .eq 33, 3) := by decide +kernel
theorem dX9_owes_8 : decode cX9_owes 8 = .ok (.aload_n 0, 1) := by decide +kernel
theorem dX9_owes_9 : decode cX9_owes 9 = .ok (.iload_n 2, 1) := by decide +kernel
theorem dX9_owes_10 : decode cX9_owes 10 = .ok (.invokevirtual 102, 3) := by decide +kernel
theorem dX9_owes_13 : decode cX9_owes 13 = .ok (.ifCond .eq 25, 3) := by decide +kernel
theorem dX9_owes_16 : decode cX9_owes 16 = .ok (.iload_n 1, 1) := by decide +kernel
theorem dX9_owes_17 : decode cX9_owes 17 = .ok (.iload_n 2, 1) := by decide +kernel
theorem dX9_owes_18 : decode cX9_owes 18 = .ok (.if_icmp .eq 20, 3) := by decide +kernel
theorem dX9_owes_21 : decode cX9_owes 21 = .ok (.aload_n 0, 1) := by decide +kernel
theorem dX9_owes_22 : decode cX9_owes 22 = .ok (.getfield 22, 3) := by decide +kernel
theorem dX9_owes_25 : decode cX9_owes 25 = .ok (.bipush 23, 2) := by decide +kernel
theorem dX9_owes_27 : decode cX9_owes 27 = .ok (.bipush 7, 2) := by decide +kernel
theorem dX9_owes_29 : decode cX9_owes 29 = .ok (.iload_n 1, 1) := by decide +kernel
theorem dX9_owes_30 : decode cX9_owes 30 = .ok (.imul, 1) := by decide +kernel
theorem dX9_owes_31 : decode cX9_owes 31 = .ok (.iadd, 1) := by decide +kernel
theorem dX9_owes_32 : decode cX9_owes 32 = .ok (.iload_n 2, 1) := by decide +kernel
theorem dX9_owes_33 : decode cX9_owes 33 = .ok (.iadd, 1) := by decide +kernel
theorem dX9_owes_34 : decode cX9_owes 34 = .ok (.iaload, 1) := by decide +kernel
theorem dX9_owes_35 : decode cX9_owes 35 = .ok (.goto 4, 3) := by decide +kernel
theorem dX9_owes_38 : decode cX9_owes 38 = .ok (.iconst (-1), 1) := by decide +kernel
theorem dX9_owes_39 : decode cX9_owes 39 = .ok (.ireturn, 1) := by decide +kernel
set_option maxRecDepth 20000 in
theorem ggX9_place_X9_in : GoodIn wsX9_place wsX9_in := goodIn_r _ [5] (by decide +kernel) (by decide +kernel)
set_option maxRecDepth 20000 in
theorem gX9_place_X9_in : GoodIn wsX9_place (va_wsS RX9 56 yX9_in wsX9_in) := goodIn_app (goodIn_of _ (by decide +kernel)) ggX9_place_X9_in
theorem dX9_place_0 : decode cX9_place 0 = .ok (.iload_n 1, 1) := by decide +kernel
theorem dX9_place_1 : decode cX9_place 1 = .ok (.iconst 0, 1) := by decide +kernel
theorem dX9_place_2 : decode cX9_place 2 = .ok (.bipush 6, 2) := by decide +kernel
theorem dX9_place_4 : decode cX9_place 4 = .ok (.invokestatic 56, 3) := by decide +kernel
theorem dX9_place_7 : decode cX9_place 7 = .ok (.ifCond .ne 7, 3) := by decide +kernel
theorem dX9_place_10 : decode cX9_place 10 = .ok (.iconst (-1), 1) := by decide +kernel
theorem dX9_place_11 : decode cX9_place 11 = .ok (.goto 26, 3) := by decide +kernel
theorem dX9_place_14 : decode cX9_place 14 = .ok (.iload_n 1, 1) := by decide +kernel
theorem dX9_place_15 : decode cX9_place 15 = .ok (.aload_n 0, 1) := by decide +kernel
theorem dX9_place_16 : decode cX9_place 16 = .ok (.getfield 22, 3) := by decide +kernel
theorem dX9_place_19 : decode cX9_place 19 = .ok (.iconst 1, 1) := by decide +kernel
theorem dX9_place_20 : decode cX9_place 20 = .ok (.iaload, 1) := by decide +kernel
theorem dX9_place_21 : decode cX9_place 21 = .ok (.if_icmp .ge 14, 3) := by decide +kernel
theorem dX9_place_24 : decode cX9_place 24 = .ok (.aload_n 0, 1) := by decide +kernel
theorem dX9_place_25 : decode cX9_place 25 = .ok (.getfield 22, 3) := by decide +kernel
theorem dX9_place_28 : decode cX9_place 28 = .ok (.iconst 2, 1) := by decide +kernel
theorem dX9_place_29 : decode cX9_place 29 = .ok (.iload_n 1, 1) := by decide +kernel
theorem dX9_place_30 : decode cX9_place 30 = .ok (.iadd, 1) := by decide +kernel
theorem dX9_place_31 : decode cX9_place 31 = .ok (.iaload, 1) := by decide +kernel
theorem dX9_place_32 : decode cX9_place 32 = .ok (.goto 5, 3) := by decide +kernel
theorem dX9_place_35 : decode cX9_place 35 = .ok (.bipush (-4), 2) := by decide +kernel
theorem dX9_place_37 : decode cX9_place 37 = .ok (.ireturn, 1) := by decide +kernel
theorem dX9_wouldAt_0 : decode cX9_wouldAt 0 = .ok (.aload_n 0, 1) := by decide +kernel
theorem dX9_wouldAt_1 : decode cX9_wouldAt 1 = .ok (.getfield 22, 3) := by decide +kernel
theorem dX9_wouldAt_4 : decode cX9_wouldAt 4 = .ok (.iconst 2, 1) := by decide +kernel
theorem dX9_wouldAt_5 : decode cX9_wouldAt 5 = .ok (.iload_n 1, 1) := by decide +kernel
theorem dX9_wouldAt_6 : decode cX9_wouldAt 6 = .ok (.iadd, 1) := by decide +kernel
theorem dX9_wouldAt_7 : decode cX9_wouldAt 7 = .ok (.iaload, 1) := by decide +kernel
theorem dX9_wouldAt_8 : decode cX9_wouldAt 8 = .ok (.istore_n 2, 1) := by decide +kernel
theorem dX9_wouldAt_9 : decode cX9_wouldAt 9 = .ok (.aload_n 0, 1) := by decide +kernel
theorem dX9_wouldAt_10 : decode cX9_wouldAt 10 = .ok (.getfield 13, 3) := by decide +kernel
theorem dX9_wouldAt_13 : decode cX9_wouldAt 13 = .ok (.bipush 9, 2) := by decide +kernel
theorem dX9_wouldAt_15 : decode cX9_wouldAt 15 = .ok (.iload_n 2, 1) := by decide +kernel
theorem dX9_wouldAt_16 : decode cX9_wouldAt 16 = .ok (.iadd, 1) := by decide +kernel
theorem dX9_wouldAt_17 : decode cX9_wouldAt 17 = .ok (.iaload, 1) := by decide +kernel
theorem dX9_wouldAt_18 : decode cX9_wouldAt 18 = .ok (.aload_n 0, 1) := by decide +kernel
theorem dX9_wouldAt_19 : decode cX9_wouldAt 19 = .ok (.getfield 13, 3) := by decide +kernel
theorem dX9_wouldAt_22 : decode cX9_wouldAt 22 = .ok (.bipush 9, 2) := by decide +kernel
theorem dX9_wouldAt_24 : decode cX9_wouldAt 24 = .ok (.aload_n 0, 1) := by decide +kernel
theorem dX9_wouldAt_25 : decode cX9_wouldAt 25 = .ok (.getfield 22, 3) := by decide +kernel
theorem dX9_wouldAt_28 : decode cX9_wouldAt 28 = .ok (.iconst 2, 1) := by decide +kernel
theorem dX9_wouldAt_29 : decode cX9_wouldAt 29 = .ok (.iload_n 1, 1) := by decide +kernel
theorem dX9_wouldAt_30 : decode cX9_wouldAt 30 = .ok (.iadd, 1) := by decide +kernel
theorem dX9_wouldAt_31 : decode cX9_wouldAt 31 = .ok (.iconst 1, 1) := by decide +kernel
theorem dX9_wouldAt_32 : decode cX9_wouldAt 32 = .ok (.isub, 1) := by decide +kernel
theorem dX9_wouldAt_33 : decode cX9_wouldAt 33 = .ok (.iaload, 1) := by decide +kernel
theorem dX9_wouldAt_34 : decode cX9_wouldAt 34 = .ok (.iadd, 1) := by decide +kernel
theorem dX9_wouldAt_35 : decode cX9_wouldAt 35 = .ok (.iaload, 1) := by decide +kernel
theorem dX9_wouldAt_36 : decode cX9_wouldAt 36 = .ok (.isub, 1) := by decide +kernel
theorem dX9_wouldAt_37 : decode cX9_wouldAt 37 = .ok (.istore_n 3, 1) := by decide +kernel
theorem dX9_wouldAt_38 : decode cX9_wouldAt 38 = .ok (.aload_n 0, 1) := by decide +kernel
theorem dX9_wouldAt_39 : decode cX9_wouldAt 39 = .ok (.getfield 13, 3) := by decide +kernel
theorem dX9_wouldAt_42 : decode cX9_wouldAt 42 = .ok (.iconst 2, 1) := by decide +kernel
theorem dX9_wouldAt_43 : decode cX9_wouldAt 43 = .ok (.iload_n 2, 1) := by decide +kernel
theorem dX9_wouldAt_44 : decode cX9_wouldAt 44 = .ok (.iadd, 1) := by decide +kernel
theorem dX9_wouldAt_45 : decode cX9_wouldAt 45 = .ok (.iaload, 1) := by decide +kernel
theorem dX9_wouldAt_46 : decode cX9_wouldAt 46 = .ok (.tableswitch 40 0 2 #[26, 36, 38], 26) := by decide +kernel
theorem dX9_wouldAt_72 : decode cX9_wouldAt 72 = .ok (.iload_n 3, 1) := by decide +kernel
theorem dX9_wouldAt_73 : decode cX9_wouldAt 73 = .ok (.ifCond .le 7, 3) := by decide +kernel
theorem dX9_wouldAt_76 : decode cX9_wouldAt 76 = .ok (.iconst 1, 1) := by decide +kernel
theorem dX9_wouldAt_77 : decode cX9_wouldAt 77 = .ok (.goto 4, 3) := by decide +kernel
theorem dX9_wouldAt_80 : decode cX9_wouldAt 80 = .ok (.iconst 0, 1) := by decide +kernel
theorem dX9_wouldAt_81 : decode cX9_wouldAt 81 = .ok (.ireturn, 1) := by decide +kernel
theorem dX9_wouldAt_82 : decode cX9_wouldAt 82 = .ok (.iconst 0, 1) := by decide +kernel
theorem dX9_wouldAt_83 : decode cX9_wouldAt 83 = .ok (.ireturn, 1) := by decide +kernel
theorem dX9_wouldAt_84 : decode cX9_wouldAt 84 = .ok (.iconst 1, 1) := by decide +kernel
theorem dX9_wouldAt_85 : decode cX9_wouldAt 85 = .ok (.ireturn, 1) := by decide +kernel
theorem dX9_wouldAt_86 : decode cX9_wouldAt 86 = .ok (.iload_n 3, 1) := by decide +kernel
theorem dX9_wouldAt_87 : decode cX9_wouldAt 87 = .ok (.ifCond .le 20, 3) := by decide +kernel
theorem dX9_wouldAt_90 : decode cX9_wouldAt 90 = .ok (.aload_n 0, 1) := by decide +kernel
theorem dX9_wouldAt_91 : decode cX9_wouldAt 91 = .ok (.getfield 22, 3) := by decide +kernel
theorem dX9_wouldAt_94 : decode cX9_wouldAt 94 = .ok (.bipush 16, 2) := by decide +kernel
theorem dX9_wouldAt_96 : decode cX9_wouldAt 96 = .ok (.iload_n 2, 1) := by decide +kernel
theorem dX9_wouldAt_97 : decode cX9_wouldAt 97 = .ok (.iadd, 1) := by decide +kernel
theorem dX9_wouldAt_98 : decode cX9_wouldAt 98 = .ok (.iaload, 1) := by decide +kernel
theorem dX9_wouldAt_99 : decode cX9_wouldAt 99 = .ok (.iload_n 3, 1) := by decide +kernel
theorem dX9_wouldAt_100 : decode cX9_wouldAt 100 = .ok (.if_icmp .lt 7, 3) := by decide +kernel
theorem dX9_wouldAt_103 : decode cX9_wouldAt 103 = .ok (.iconst 1, 1) := by decide +kernel
theorem dX9_wouldAt_104 : decode cX9_wouldAt 104 = .ok (.goto 4, 3) := by decide +kernel
theorem dX9_wouldAt_107 : decode cX9_wouldAt 107 = .ok (.iconst 0, 1) := by decide +kernel
theorem dX9_wouldAt_108 : decode cX9_wouldAt 108 = .ok (.ireturn, 1) := by decide +kernel
set_option maxRecDepth 20000 in
theorem ggX9_would_X9_isOne : GoodIn wsX9_would wsX9_isOne := goodIn_r _ [5, 6, 7, 8, 4, 9, 19, 20, 21, 22, 23, 24, 25, 26, 27, 28, 29, 30, 31, 32, 33, 34, 35] (by decide +kernel) (by decide +kernel)
set_option maxRecDepth 20000 in
theorem gX9_would_X9_isOne : GoodIn wsX9_would (wsV RX9 102 RX9 yX9_isOne wsX9_isOne) := goodIn_app (goodIn_of _ (by decide +kernel)) ggX9_would_X9_isOne
set_option maxRecDepth 20000 in
theorem ggX9_would_X9_placeOf : GoodIn wsX9_would wsX9_placeOf := goodIn_r _ [13, 14, 19, 20, 21, 22, 23, 24, 25, 26, 27, 28, 29, 30, 31, 32, 33, 34, 35] (by decide +kernel) (by decide +kernel)
set_option maxRecDepth 20000 in
theorem gX9_would_X9_placeOf : GoodIn wsX9_would (wsV RX9 105 RX9 yX9_placeOf wsX9_placeOf) := goodIn_app (goodIn_of _ (by decide +kernel)) ggX9_would_X9_placeOf
set_option maxRecDepth 20000 in
theorem ggX9_would_X9_wouldAt : GoodIn wsX9_would wsX9_wouldAt := goodIn_r _ [18, 14, 6, 19, 20, 21, 22, 23, 24, 25, 26, 27, 28, 29, 30, 31, 32, 33, 34, 35] (by decide +kernel) (by decide +kernel)
set_option maxRecDepth 20000 in
theorem gX9_would_X9_wouldAt : GoodIn wsX9_would (wsV RX9 112 RX9 yX9_wouldAt wsX9_wouldAt) := goodIn_app (goodIn_of _ (by decide +kernel)) ggX9_would_X9_wouldAt
theorem dX9_would_0 : decode cX9_would 0 = .ok (.aload_n 0, 1) := by decide +kernel
theorem dX9_would_1 : decode cX9_would 1 = .ok (.iload_n 1, 1) := by decide +kernel
theorem dX9_would_2 : decode cX9_would 2 = .ok (.invokevirtual 102, 3) := by decide +kernel
theorem dX9_would_5 : decode cX9_would 5 = .ok (.ifCond .ne 5, 3) := by decide +kernel
theorem dX9_would_8 : decode cX9_would 8 = .ok (.iconst (-1), 1) := by decide +kernel
theorem dX9_would_9 : decode cX9_would 9 = .ok (.ireturn, 1) := by decide +kernel
theorem dX9_would_10 : decode cX9_would 10 = .ok (.aload_n 0, 1) := by decide +kernel
theorem dX9_would_11 : decode cX9_would 11 = .ok (.iload_n 1, 1) := by decide +kernel
theorem dX9_would_12 : decode cX9_would 12 = .ok (.invokevirtual 105, 3) := by decide +kernel
theorem dX9_would_15 : decode cX9_would 15 = .ok (.istore_n 2, 1) := by decide +kernel
theorem dX9_would_16 : decode cX9_would 16 = .ok (.iload_n 2, 1) := by decide +kernel
theorem dX9_would_17 : decode cX9_would 17 = .ok (.iconst 1, 1) := by decide +kernel
theorem dX9_would_18 : decode cX9_would 18 = .ok (.if_icmp .ge 8, 3) := by decide +kernel
theorem dX9_would_21 : decode cX9_would 21 = .ok (.bipush (-2), 2) := by decide +kernel
theorem dX9_would_23 : decode cX9_would 23 = .ok (.goto 16, 3) := by decide +kernel
theorem dX9_would_26 : decode cX9_would 26 = .ok (.aload_n 0, 1) := by decide +kernel
theorem dX9_would_27 : decode cX9_would 27 = .ok (.iload_n 2, 1) := by decide +kernel
theorem dX9_would_28 : decode cX9_would 28 = .ok (.invokevirtual 112, 3) := by decide +kernel
theorem dX9_would_31 : decode cX9_would 31 = .ok (.ifCond .eq 7, 3) := by decide +kernel
theorem dX9_would_34 : decode cX9_would 34 = .ok (.iconst 1, 1) := by decide +kernel
theorem dX9_would_35 : decode cX9_would 35 = .ok (.goto 4, 3) := by decide +kernel
theorem dX9_would_38 : decode cX9_would 38 = .ok (.iconst 0, 1) := by decide +kernel
theorem dX9_would_39 : decode cX9_would 39 = .ok (.ireturn, 1) := by decide +kernel
theorem dX9_keeps_0 : decode cX9_keeps 0 = .ok (.aload_n 0, 1) := by decide +kernel
theorem dX9_keeps_1 : decode cX9_keeps 1 = .ok (.getfield 93, 3) := by decide +kernel
theorem dX9_keeps_4 : decode cX9_keeps 4 = .ok (.bipush 8, 2) := by decide +kernel
theorem dX9_keeps_6 : decode cX9_keeps 6 = .ok (.if_icmp .ne 43, 3) := by decide +kernel
theorem dX9_keeps_9 : decode cX9_keeps 9 = .ok (.iconst 0, 1) := by decide +kernel
theorem dX9_keeps_10 : decode cX9_keeps 10 = .ok (.istore_n 1, 1) := by decide +kernel
theorem dX9_keeps_11 : decode cX9_keeps 11 = .ok (.iload_n 1, 1) := by decide +kernel
theorem dX9_keeps_12 : decode cX9_keeps 12 = .ok (.sipush 504, 3) := by decide +kernel
theorem dX9_keeps_15 : decode cX9_keeps 15 = .ok (.if_icmp .ge 24, 3) := by decide +kernel
theorem dX9_keeps_18 : decode cX9_keeps 18 = .ok (.aload_n 0, 1) := by decide +kernel
theorem dX9_keeps_19 : decode cX9_keeps 19 = .ok (.getfield 25, 3) := by decide +kernel
theorem dX9_keeps_22 : decode cX9_keeps 22 = .ok (.iload_n 1, 1) := by decide +kernel
theorem dX9_keeps_23 : decode cX9_keeps 23 = .ok (.aload_n 0, 1) := by decide +kernel
theorem dX9_keeps_24 : decode cX9_keeps 24 = .ok (.getfield 25, 3) := by decide +kernel
theorem dX9_keeps_27 : decode cX9_keeps 27 = .ok (.iload_n 1, 1) := by decide +kernel
theorem dX9_keeps_28 : decode cX9_keeps 28 = .ok (.bipush 72, 2) := by decide +kernel
theorem dX9_keeps_30 : decode cX9_keeps 30 = .ok (.iadd, 1) := by decide +kernel
theorem dX9_keeps_31 : decode cX9_keeps 31 = .ok (.iaload, 1) := by decide +kernel
theorem dX9_keeps_32 : decode cX9_keeps 32 = .ok (.iastore, 1) := by decide +kernel
theorem dX9_keeps_33 : decode cX9_keeps 33 = .ok (.iinc 1 1, 3) := by decide +kernel
theorem dX9_keeps_36 : decode cX9_keeps 36 = .ok (.goto (-25), 3) := by decide +kernel
theorem dX9_keeps_39 : decode cX9_keeps 39 = .ok (.aload_n 0, 1) := by decide +kernel
theorem dX9_keeps_40 : decode cX9_keeps 40 = .ok (.dup, 1) := by decide +kernel
theorem dX9_keeps_41 : decode cX9_keeps 41 = .ok (.getfield 93, 3) := by decide +kernel
theorem dX9_keeps_44 : decode cX9_keeps 44 = .ok (.iconst 1, 1) := by decide +kernel
theorem dX9_keeps_45 : decode cX9_keeps 45 = .ok (.isub, 1) := by decide +kernel
theorem dX9_keeps_46 : decode cX9_keeps 46 = .ok (.putfield 93, 3) := by decide +kernel
theorem dX9_keeps_49 : decode cX9_keeps 49 = .ok (.iconst 0, 1) := by decide +kernel
theorem dX9_keeps_50 : decode cX9_keeps 50 = .ok (.istore_n 1, 1) := by decide +kernel
theorem dX9_keeps_51 : decode cX9_keeps 51 = .ok (.iload_n 1, 1) := by decide +kernel
theorem dX9_keeps_52 : decode cX9_keeps 52 = .ok (.bipush 72, 2) := by decide +kernel
theorem dX9_keeps_54 : decode cX9_keeps 54 = .ok (.if_icmp .ge 29, 3) := by decide +kernel
theorem dX9_keeps_57 : decode cX9_keeps 57 = .ok (.aload_n 0, 1) := by decide +kernel
theorem dX9_keeps_58 : decode cX9_keeps 58 = .ok (.getfield 25, 3) := by decide +kernel
theorem dX9_keeps_61 : decode cX9_keeps 61 = .ok (.bipush 72, 2) := by decide +kernel
theorem dX9_keeps_63 : decode cX9_keeps 63 = .ok (.aload_n 0, 1) := by decide +kernel
theorem dX9_keeps_64 : decode cX9_keeps 64 = .ok (.getfield 93, 3) := by decide +kernel
theorem dX9_keeps_67 : decode cX9_keeps 67 = .ok (.imul, 1) := by decide +kernel
theorem dX9_keeps_68 : decode cX9_keeps 68 = .ok (.iload_n 1, 1) := by decide +kernel
theorem dX9_keeps_69 : decode cX9_keeps 69 = .ok (.iadd, 1) := by decide +kernel
theorem dX9_keeps_70 : decode cX9_keeps 70 = .ok (.aload_n 0, 1) := by decide +kernel
theorem dX9_keeps_71 : decode cX9_keeps 71 = .ok (.getfield 22, 3) := by decide +kernel
theorem dX9_keeps_74 : decode cX9_keeps 74 = .ok (.iload_n 1, 1) := by decide +kernel
theorem dX9_keeps_75 : decode cX9_keeps 75 = .ok (.iaload, 1) := by decide +kernel
theorem dX9_keeps_76 : decode cX9_keeps 76 = .ok (.iastore, 1) := by decide +kernel
theorem dX9_keeps_77 : decode cX9_keeps 77 = .ok (.iinc 1 1, 3) := by decide +kernel
theorem dX9_keeps_80 : decode cX9_keeps 80 = .ok (.goto (-29), 3) := by decide +kernel
theorem dX9_keeps_83 : decode cX9_keeps 83 = .ok (.aload_n 0, 1) := by decide +kernel
theorem dX9_keeps_84 : decode cX9_keeps 84 = .ok (.dup, 1) := by decide +kernel
theorem dX9_keeps_85 : decode cX9_keeps 85 = .ok (.getfield 93, 3) := by decide +kernel
theorem dX9_keeps_88 : decode cX9_keeps 88 = .ok (.iconst 1, 1) := by decide +kernel
theorem dX9_keeps_89 : decode cX9_keeps 89 = .ok (.iadd, 1) := by decide +kernel
theorem dX9_keeps_90 : decode cX9_keeps 90 = .ok (.putfield 93, 3) := by decide +kernel
theorem dX9_keeps_93 : decode cX9_keeps 93 = .ok (.return_, 1) := by decide +kernel
theorem dX9_goes_0 : decode cX9_goes 0 = .ok (.aload_n 0, 1) := by decide +kernel
theorem dX9_goes_1 : decode cX9_goes 1 = .ok (.getfield 22, 3) := by decide +kernel
theorem dX9_goes_4 : decode cX9_goes 4 = .ok (.bipush 9, 2) := by decide +kernel
theorem dX9_goes_6 : decode cX9_goes 6 = .ok (.aload_n 0, 1) := by decide +kernel
theorem dX9_goes_7 : decode cX9_goes 7 = .ok (.getfield 22, 3) := by decide +kernel
theorem dX9_goes_10 : decode cX9_goes 10 = .ok (.iconst 2, 1) := by decide +kernel
theorem dX9_goes_11 : decode cX9_goes 11 = .ok (.iload_n 1, 1) := by decide +kernel
theorem dX9_goes_12 : decode cX9_goes 12 = .ok (.iadd, 1) := by decide +kernel
theorem dX9_goes_13 : decode cX9_goes 13 = .ok (.iaload, 1) := by decide +kernel
theorem dX9_goes_14 : decode cX9_goes 14 = .ok (.iadd, 1) := by decide +kernel
theorem dX9_goes_15 : decode cX9_goes 15 = .ok (.iload_n 2, 1) := by decide +kernel
theorem dX9_goes_16 : decode cX9_goes 16 = .ok (.iastore, 1) := by decide +kernel
theorem dX9_goes_17 : decode cX9_goes 17 = .ok (.iload_n 1, 1) := by decide +kernel
theorem dX9_goes_18 : decode cX9_goes 18 = .ok (.istore_n 3, 1) := by decide +kernel
theorem dX9_goes_19 : decode cX9_goes 19 = .ok (.iload_n 3, 1) := by decide +kernel
theorem dX9_goes_20 : decode cX9_goes 20 = .ok (.aload_n 0, 1) := by decide +kernel
theorem dX9_goes_21 : decode cX9_goes 21 = .ok (.getfield 22, 3) := by decide +kernel
theorem dX9_goes_24 : decode cX9_goes 24 = .ok (.iconst 1, 1) := by decide +kernel
theorem dX9_goes_25 : decode cX9_goes 25 = .ok (.iaload, 1) := by decide +kernel
theorem dX9_goes_26 : decode cX9_goes 26 = .ok (.iconst 1, 1) := by decide +kernel
theorem dX9_goes_27 : decode cX9_goes 27 = .ok (.isub, 1) := by decide +kernel
theorem dX9_goes_28 : decode cX9_goes 28 = .ok (.if_icmp .ge 27, 3) := by decide +kernel
theorem dX9_goes_31 : decode cX9_goes 31 = .ok (.aload_n 0, 1) := by decide +kernel
theorem dX9_goes_32 : decode cX9_goes 32 = .ok (.getfield 22, 3) := by decide +kernel
theorem dX9_goes_35 : decode cX9_goes 35 = .ok (.iconst 2, 1) := by decide +kernel
theorem dX9_goes_36 : decode cX9_goes 36 = .ok (.iload_n 3, 1) := by decide +kernel
theorem dX9_goes_37 : decode cX9_goes 37 = .ok (.iadd, 1) := by decide +kernel
theorem dX9_goes_38 : decode cX9_goes 38 = .ok (.aload_n 0, 1) := by decide +kernel
theorem dX9_goes_39 : decode cX9_goes 39 = .ok (.getfield 22, 3) := by decide +kernel
theorem dX9_goes_42 : decode cX9_goes 42 = .ok (.iconst 2, 1) := by decide +kernel
theorem dX9_goes_43 : decode cX9_goes 43 = .ok (.iload_n 3, 1) := by decide +kernel
theorem dX9_goes_44 : decode cX9_goes 44 = .ok (.iadd, 1) := by decide +kernel
theorem dX9_goes_45 : decode cX9_goes 45 = .ok (.iconst 1, 1) := by decide +kernel
theorem dX9_goes_46 : decode cX9_goes 46 = .ok (.iadd, 1) := by decide +kernel
theorem dX9_goes_47 : decode cX9_goes 47 = .ok (.iaload, 1) := by decide +kernel
theorem dX9_goes_48 : decode cX9_goes 48 = .ok (.iastore, 1) := by decide +kernel
theorem dX9_goes_49 : decode cX9_goes 49 = .ok (.iinc 3 1, 3) := by decide +kernel
theorem dX9_goes_52 : decode cX9_goes 52 = .ok (.goto (-33), 3) := by decide +kernel
theorem dX9_goes_55 : decode cX9_goes 55 = .ok (.aload_n 0, 1) := by decide +kernel
theorem dX9_goes_56 : decode cX9_goes 56 = .ok (.getfield 22, 3) := by decide +kernel
theorem dX9_goes_59 : decode cX9_goes 59 = .ok (.iconst 1, 1) := by decide +kernel
theorem dX9_goes_60 : decode cX9_goes 60 = .ok (.dup2, 1) := by decide +kernel
theorem dX9_goes_61 : decode cX9_goes 61 = .ok (.iaload, 1) := by decide +kernel
theorem dX9_goes_62 : decode cX9_goes 62 = .ok (.iconst 1, 1) := by decide +kernel
theorem dX9_goes_63 : decode cX9_goes 63 = .ok (.isub, 1) := by decide +kernel
theorem dX9_goes_64 : decode cX9_goes 64 = .ok (.iastore, 1) := by decide +kernel
theorem dX9_goes_65 : decode cX9_goes 65 = .ok (.return_, 1) := by decide +kernel
theorem dX9_comes_0 : decode cX9_comes 0 = .ok (.aload_n 0, 1) := by decide +kernel
theorem dX9_comes_1 : decode cX9_comes 1 = .ok (.getfield 22, 3) := by decide +kernel
theorem dX9_comes_4 : decode cX9_comes 4 = .ok (.iconst 1, 1) := by decide +kernel
theorem dX9_comes_5 : decode cX9_comes 5 = .ok (.iaload, 1) := by decide +kernel
theorem dX9_comes_6 : decode cX9_comes 6 = .ok (.istore_n 3, 1) := by decide +kernel
theorem dX9_comes_7 : decode cX9_comes 7 = .ok (.iload_n 3, 1) := by decide +kernel
theorem dX9_comes_8 : decode cX9_comes 8 = .ok (.iload_n 2, 1) := by decide +kernel
theorem dX9_comes_9 : decode cX9_comes 9 = .ok (.if_icmp .le 27, 3) := by decide +kernel
theorem dX9_comes_12 : decode cX9_comes 12 = .ok (.aload_n 0, 1) := by decide +kernel
theorem dX9_comes_13 : decode cX9_comes 13 = .ok (.getfield 22, 3) := by decide +kernel
theorem dX9_comes_16 : decode cX9_comes 16 = .ok (.iconst 2, 1) := by decide +kernel
theorem dX9_comes_17 : decode cX9_comes 17 = .ok (.iload_n 3, 1) := by decide +kernel
theorem dX9_comes_18 : decode cX9_comes 18 = .ok (.iadd, 1) := by decide +kernel
theorem dX9_comes_19 : decode cX9_comes 19 = .ok (.aload_n 0, 1) := by decide +kernel
theorem dX9_comes_20 : decode cX9_comes 20 = .ok (.getfield 22, 3) := by decide +kernel
theorem dX9_comes_23 : decode cX9_comes 23 = .ok (.iconst 2, 1) := by decide +kernel
theorem dX9_comes_24 : decode cX9_comes 24 = .ok (.iload_n 3, 1) := by decide +kernel
theorem dX9_comes_25 : decode cX9_comes 25 = .ok (.iadd, 1) := by decide +kernel
theorem dX9_comes_26 : decode cX9_comes 26 = .ok (.iconst 1, 1) := by decide +kernel
theorem dX9_comes_27 : decode cX9_comes 27 = .ok (.isub, 1) := by decide +kernel
theorem dX9_comes_28 : decode cX9_comes 28 = .ok (.iaload, 1) := by decide +kernel
theorem dX9_comes_29 : decode cX9_comes 29 = .ok (.iastore, 1) := by decide +kernel
theorem dX9_comes_30 : decode cX9_comes 30 = .ok (.iinc 3 (-1), 3) := by decide +kernel
theorem dX9_comes_33 : decode cX9_comes 33 = .ok (.goto (-26), 3) := by decide +kernel
theorem dX9_comes_36 : decode cX9_comes 36 = .ok (.aload_n 0, 1) := by decide +kernel
theorem dX9_comes_37 : decode cX9_comes 37 = .ok (.getfield 22, 3) := by decide +kernel
theorem dX9_comes_40 : decode cX9_comes 40 = .ok (.iconst 2, 1) := by decide +kernel
theorem dX9_comes_41 : decode cX9_comes 41 = .ok (.iload_n 2, 1) := by decide +kernel
theorem dX9_comes_42 : decode cX9_comes 42 = .ok (.iadd, 1) := by decide +kernel
theorem dX9_comes_43 : decode cX9_comes 43 = .ok (.iload_n 1, 1) := by decide +kernel
theorem dX9_comes_44 : decode cX9_comes 44 = .ok (.iastore, 1) := by decide +kernel
theorem dX9_comes_45 : decode cX9_comes 45 = .ok (.aload_n 0, 1) := by decide +kernel
theorem dX9_comes_46 : decode cX9_comes 46 = .ok (.getfield 22, 3) := by decide +kernel
theorem dX9_comes_49 : decode cX9_comes 49 = .ok (.iconst 1, 1) := by decide +kernel
theorem dX9_comes_50 : decode cX9_comes 50 = .ok (.dup2, 1) := by decide +kernel
theorem dX9_comes_51 : decode cX9_comes 51 = .ok (.iaload, 1) := by decide +kernel
theorem dX9_comes_52 : decode cX9_comes 52 = .ok (.iconst 1, 1) := by decide +kernel
theorem dX9_comes_53 : decode cX9_comes 53 = .ok (.iadd, 1) := by decide +kernel
theorem dX9_comes_54 : decode cX9_comes 54 = .ok (.iastore, 1) := by decide +kernel
theorem dX9_comes_55 : decode cX9_comes 55 = .ok (.aload_n 0, 1) := by decide +kernel
theorem dX9_comes_56 : decode cX9_comes 56 = .ok (.getfield 22, 3) := by decide +kernel
theorem dX9_comes_59 : decode cX9_comes 59 = .ok (.bipush 9, 2) := by decide +kernel
theorem dX9_comes_61 : decode cX9_comes 61 = .ok (.iload_n 1, 1) := by decide +kernel
theorem dX9_comes_62 : decode cX9_comes 62 = .ok (.iadd, 1) := by decide +kernel
theorem dX9_comes_63 : decode cX9_comes 63 = .ok (.iconst 0, 1) := by decide +kernel
theorem dX9_comes_64 : decode cX9_comes 64 = .ok (.iastore, 1) := by decide +kernel
theorem dX9_comes_65 : decode cX9_comes 65 = .ok (.return_, 1) := by decide +kernel
set_option maxRecDepth 20000 in
theorem ggX9_passes_X9_placeOf : GoodIn wsX9_passes wsX9_placeOf := goodIn_r _ [8, 1, 17, 18, 19, 20, 21, 22, 23, 24, 25, 26, 27, 28, 29, 30, 31, 32, 33] (by decide +kernel) (by decide +kernel)
set_option maxRecDepth 20000 in
theorem gX9_passes_X9_placeOf : GoodIn wsX9_passes (wsV RX9 105 RX9 yX9_placeOf wsX9_placeOf) := goodIn_app (goodIn_of _ (by decide +kernel)) ggX9_passes_X9_placeOf
set_option maxRecDepth 20000 in
theorem ggX9_passes_X9_wouldAt : GoodIn wsX9_passes wsX9_wouldAt := goodIn_r _ [12, 1, 3, 17, 18, 19, 20, 21, 22, 23, 24, 25, 26, 27, 28, 29, 30, 31, 32, 33] (by decide +kernel) (by decide +kernel)
set_option maxRecDepth 20000 in
theorem gX9_passes_X9_wouldAt : GoodIn wsX9_passes (wsV RX9 112 RX9 yX9_wouldAt wsX9_wouldAt) := goodIn_app (goodIn_of _ (by decide +kernel)) ggX9_passes_X9_wouldAt
set_option maxRecDepth 20000 in
theorem ggX9_passes_X9_goes : GoodIn wsX9_passes wsX9_goes := goodIn_r _ [16, 1, 17, 18, 19, 20, 21, 22, 23, 24, 25, 26, 27, 28, 29, 30, 31, 32, 33] (by decide +kernel) (by decide +kernel)
set_option maxRecDepth 20000 in
theorem gX9_passes_X9_goes : GoodIn wsX9_passes (wsV RX9 115 RX9 yX9_goes wsX9_goes) := goodIn_app (goodIn_of _ (by decide +kernel)) ggX9_passes_X9_goes
theorem dX9_passes_0 : decode cX9_passes 0 = .ok (.aload_n 0, 1) := by decide +kernel
theorem dX9_passes_1 : decode cX9_passes 1 = .ok (.getfield 22, 3) := by decide +kernel
theorem dX9_passes_4 : decode cX9_passes 4 = .ok (.iconst 0, 1) := by decide +kernel
theorem dX9_passes_5 : decode cX9_passes 5 = .ok (.iaload, 1) := by decide +kernel
theorem dX9_passes_6 : decode cX9_passes 6 = .ok (.iconst 1, 1) := by decide +kernel
theorem dX9_passes_7 : decode cX9_passes 7 = .ok (.iadd, 1) := by decide +kernel
theorem dX9_passes_8 : decode cX9_passes 8 = .ok (.istore_n 2, 1) := by decide +kernel
theorem dX9_passes_9 : decode cX9_passes 9 = .ok (.aload_n 0, 1) := by decide +kernel
theorem dX9_passes_10 : decode cX9_passes 10 = .ok (.getfield 22, 3) := by decide +kernel
theorem dX9_passes_13 : decode cX9_passes 13 = .ok (.iconst 1, 1) := by decide +kernel
theorem dX9_passes_14 : decode cX9_passes 14 = .ok (.iaload, 1) := by decide +kernel
theorem dX9_passes_15 : decode cX9_passes 15 = .ok (.istore_n 3, 1) := by decide +kernel
theorem dX9_passes_16 : decode cX9_passes 16 = .ok (.iconst 0, 1) := by decide +kernel
theorem dX9_passes_17 : decode cX9_passes 17 = .ok (.istore 4, 2) := by decide +kernel
theorem dX9_passes_19 : decode cX9_passes 19 = .ok (.iload 4, 2) := by decide +kernel
theorem dX9_passes_21 : decode cX9_passes 21 = .ok (.iload_n 3, 1) := by decide +kernel
theorem dX9_passes_22 : decode cX9_passes 22 = .ok (.if_icmp .ge 25, 3) := by decide +kernel
theorem dX9_passes_25 : decode cX9_passes 25 = .ok (.aload_n 0, 1) := by decide +kernel
theorem dX9_passes_26 : decode cX9_passes 26 = .ok (.getfield 34, 3) := by decide +kernel
theorem dX9_passes_29 : decode cX9_passes 29 = .ok (.iload 4, 2) := by decide +kernel
theorem dX9_passes_31 : decode cX9_passes 31 = .ok (.aload_n 0, 1) := by decide +kernel
theorem dX9_passes_32 : decode cX9_passes 32 = .ok (.getfield 22, 3) := by decide +kernel
theorem dX9_passes_35 : decode cX9_passes 35 = .ok (.iconst 2, 1) := by decide +kernel
theorem dX9_passes_36 : decode cX9_passes 36 = .ok (.iload 4, 2) := by decide +kernel
theorem dX9_passes_38 : decode cX9_passes 38 = .ok (.iadd, 1) := by decide +kernel
theorem dX9_passes_39 : decode cX9_passes 39 = .ok (.iaload, 1) := by decide +kernel
theorem dX9_passes_40 : decode cX9_passes 40 = .ok (.iastore, 1) := by decide +kernel
theorem dX9_passes_41 : decode cX9_passes 41 = .ok (.iinc 4 1, 3) := by decide +kernel
theorem dX9_passes_44 : decode cX9_passes 44 = .ok (.goto (-25), 3) := by decide +kernel
theorem dX9_passes_47 : decode cX9_passes 47 = .ok (.iconst 1, 1) := by decide +kernel
theorem dX9_passes_48 : decode cX9_passes 48 = .ok (.istore 4, 2) := by decide +kernel
theorem dX9_passes_50 : decode cX9_passes 50 = .ok (.iload 4, 2) := by decide +kernel
theorem dX9_passes_52 : decode cX9_passes 52 = .ok (.iload_n 3, 1) := by decide +kernel
theorem dX9_passes_53 : decode cX9_passes 53 = .ok (.if_icmp .ge 144, 3) := by decide +kernel
theorem dX9_passes_56 : decode cX9_passes 56 = .ok (.iload_n 1, 1) := by decide +kernel
theorem dX9_passes_57 : decode cX9_passes 57 = .ok (.ifCond .eq 140, 3) := by decide +kernel
theorem dX9_passes_60 : decode cX9_passes 60 = .ok (.aload_n 0, 1) := by decide +kernel
theorem dX9_passes_61 : decode cX9_passes 61 = .ok (.getfield 34, 3) := by decide +kernel
theorem dX9_passes_64 : decode cX9_passes 64 = .ok (.iload 4, 2) := by decide +kernel
theorem dX9_passes_66 : decode cX9_passes 66 = .ok (.iaload, 1) := by decide +kernel
theorem dX9_passes_67 : decode cX9_passes 67 = .ok (.istore 5, 2) := by decide +kernel
theorem dX9_passes_69 : decode cX9_passes 69 = .ok (.aload_n 0, 1) := by decide +kernel
theorem dX9_passes_70 : decode cX9_passes 70 = .ok (.iload 5, 2) := by decide +kernel
theorem dX9_passes_72 : decode cX9_passes 72 = .ok (.invokevirtual 105, 3) := by decide +kernel
theorem dX9_passes_75 : decode cX9_passes 75 = .ok (.istore 6, 2) := by decide +kernel
theorem dX9_passes_77 : decode cX9_passes 77 = .ok (.iload_n 2, 1) := by decide +kernel
theorem dX9_passes_78 : decode cX9_passes 78 = .ok (.aload_n 0, 1) := by decide +kernel
theorem dX9_passes_79 : decode cX9_passes 79 = .ok (.getfield 13, 3) := by decide +kernel
theorem dX9_passes_82 : decode cX9_passes 82 = .ok (.bipush 16, 2) := by decide +kernel
theorem dX9_passes_84 : decode cX9_passes 84 = .ok (.iload 5, 2) := by decide +kernel
theorem dX9_passes_86 : decode cX9_passes 86 = .ok (.iadd, 1) := by decide +kernel
theorem dX9_passes_87 : decode cX9_passes 87 = .ok (.iaload, 1) := by decide +kernel
theorem dX9_passes_88 : decode cX9_passes 88 = .ok (.irem, 1) := by decide +kernel
theorem dX9_passes_89 : decode cX9_passes 89 = .ok (.ifCond .ne 102, 3) := by decide +kernel
theorem dX9_passes_92 : decode cX9_passes 92 = .ok (.aload_n 0, 1) := by decide +kernel
theorem dX9_passes_93 : decode cX9_passes 93 = .ok (.iload 6, 2) := by decide +kernel
theorem dX9_passes_95 : decode cX9_passes 95 = .ok (.invokevirtual 112, 3) := by decide +kernel
theorem dX9_passes_98 : decode cX9_passes 98 = .ok (.ifCond .eq 93, 3) := by decide +kernel
theorem dX9_passes_101 : decode cX9_passes 101 = .ok (.aload_n 0, 1) := by decide +kernel
theorem dX9_passes_102 : decode cX9_passes 102 = .ok (.getfield 22, 3) := by decide +kernel
theorem dX9_passes_105 : decode cX9_passes 105 = .ok (.iconst 2, 1) := by decide +kernel
theorem dX9_passes_106 : decode cX9_passes 106 = .ok (.iload 6, 2) := by decide +kernel
theorem dX9_passes_108 : decode cX9_passes 108 = .ok (.iadd, 1) := by decide +kernel
theorem dX9_passes_109 : decode cX9_passes 109 = .ok (.iconst 1, 1) := by decide +kernel
theorem dX9_passes_110 : decode cX9_passes 110 = .ok (.isub, 1) := by decide +kernel
theorem dX9_passes_111 : decode cX9_passes 111 = .ok (.iaload, 1) := by decide +kernel
theorem dX9_passes_112 : decode cX9_passes 112 = .ok (.istore 7, 2) := by decide +kernel
theorem dX9_passes_114 : decode cX9_passes 114 = .ok (.aload_n 0, 1) := by decide +kernel
theorem dX9_passes_115 : decode cX9_passes 115 = .ok (.getfield 13, 3) := by decide +kernel
theorem dX9_passes_118 : decode cX9_passes 118 = .ok (.bipush 9, 2) := by decide +kernel
theorem dX9_passes_120 : decode cX9_passes 120 = .ok (.iload 5, 2) := by decide +kernel
theorem dX9_passes_122 : decode cX9_passes 122 = .ok (.iadd, 1) := by decide +kernel
theorem dX9_passes_123 : decode cX9_passes 123 = .ok (.iaload, 1) := by decide +kernel
theorem dX9_passes_124 : decode cX9_passes 124 = .ok (.aload_n 0, 1) := by decide +kernel
theorem dX9_passes_125 : decode cX9_passes 125 = .ok (.getfield 13, 3) := by decide +kernel
theorem dX9_passes_128 : decode cX9_passes 128 = .ok (.bipush 9, 2) := by decide +kernel
theorem dX9_passes_130 : decode cX9_passes 130 = .ok (.iload 7, 2) := by decide +kernel
theorem dX9_passes_132 : decode cX9_passes 132 = .ok (.iadd, 1) := by decide +kernel
theorem dX9_passes_133 : decode cX9_passes 133 = .ok (.iaload, 1) := by decide +kernel
theorem dX9_passes_134 : decode cX9_passes 134 = .ok (.isub, 1) := by decide +kernel
theorem dX9_passes_135 : decode cX9_passes 135 = .ok (.istore 8, 2) := by decide +kernel
theorem dX9_passes_137 : decode cX9_passes 137 = .ok (.aload_n 0, 1) := by decide +kernel
theorem dX9_passes_138 : decode cX9_passes 138 = .ok (.getfield 22, 3) := by decide +kernel
theorem dX9_passes_141 : decode cX9_passes 141 = .ok (.bipush 23, 2) := by decide +kernel
theorem dX9_passes_143 : decode cX9_passes 143 = .ok (.bipush 7, 2) := by decide +kernel
theorem dX9_passes_145 : decode cX9_passes 145 = .ok (.iload 5, 2) := by decide +kernel
theorem dX9_passes_147 : decode cX9_passes 147 = .ok (.imul, 1) := by decide +kernel
theorem dX9_passes_148 : decode cX9_passes 148 = .ok (.iadd, 1) := by decide +kernel
theorem dX9_passes_149 : decode cX9_passes 149 = .ok (.iload 7, 2) := by decide +kernel
theorem dX9_passes_151 : decode cX9_passes 151 = .ok (.iadd, 1) := by decide +kernel
theorem dX9_passes_152 : decode cX9_passes 152 = .ok (.dup2, 1) := by decide +kernel
theorem dX9_passes_153 : decode cX9_passes 153 = .ok (.iaload, 1) := by decide +kernel
theorem dX9_passes_154 : decode cX9_passes 154 = .ok (.iload 8, 2) := by decide +kernel
theorem dX9_passes_156 : decode cX9_passes 156 = .ok (.ifCond .le 8, 3) := by decide +kernel
theorem dX9_passes_159 : decode cX9_passes 159 = .ok (.iload 8, 2) := by decide +kernel
theorem dX9_passes_161 : decode cX9_passes 161 = .ok (.goto 4, 3) := by decide +kernel
theorem dX9_passes_164 : decode cX9_passes 164 = .ok (.iconst 0, 1) := by decide +kernel
theorem dX9_passes_165 : decode cX9_passes 165 = .ok (.iadd, 1) := by decide +kernel
theorem dX9_passes_166 : decode cX9_passes 166 = .ok (.iastore, 1) := by decide +kernel
theorem dX9_passes_167 : decode cX9_passes 167 = .ok (.aload_n 0, 1) := by decide +kernel
theorem dX9_passes_168 : decode cX9_passes 168 = .ok (.getfield 22, 3) := by decide +kernel
theorem dX9_passes_171 : decode cX9_passes 171 = .ok (.iconst 2, 1) := by decide +kernel
theorem dX9_passes_172 : decode cX9_passes 172 = .ok (.iload 6, 2) := by decide +kernel
theorem dX9_passes_174 : decode cX9_passes 174 = .ok (.iadd, 1) := by decide +kernel
theorem dX9_passes_175 : decode cX9_passes 175 = .ok (.iconst 1, 1) := by decide +kernel
theorem dX9_passes_176 : decode cX9_passes 176 = .ok (.isub, 1) := by decide +kernel
theorem dX9_passes_177 : decode cX9_passes 177 = .ok (.iload 5, 2) := by decide +kernel
theorem dX9_passes_179 : decode cX9_passes 179 = .ok (.iastore, 1) := by decide +kernel
theorem dX9_passes_180 : decode cX9_passes 180 = .ok (.aload_n 0, 1) := by decide +kernel
theorem dX9_passes_181 : decode cX9_passes 181 = .ok (.getfield 22, 3) := by decide +kernel
theorem dX9_passes_184 : decode cX9_passes 184 = .ok (.iconst 2, 1) := by decide +kernel
theorem dX9_passes_185 : decode cX9_passes 185 = .ok (.iload 6, 2) := by decide +kernel
theorem dX9_passes_187 : decode cX9_passes 187 = .ok (.iadd, 1) := by decide +kernel
theorem dX9_passes_188 : decode cX9_passes 188 = .ok (.iload 7, 2) := by decide +kernel
theorem dX9_passes_190 : decode cX9_passes 190 = .ok (.iastore, 1) := by decide +kernel
theorem dX9_passes_191 : decode cX9_passes 191 = .ok (.iinc 4 1, 3) := by decide +kernel
theorem dX9_passes_194 : decode cX9_passes 194 = .ok (.goto (-144), 3) := by decide +kernel
theorem dX9_passes_197 : decode cX9_passes 197 = .ok (.iload_n 2, 1) := by decide +kernel
theorem dX9_passes_198 : decode cX9_passes 198 = .ok (.aload_n 0, 1) := by decide +kernel
theorem dX9_passes_199 : decode cX9_passes 199 = .ok (.getfield 13, 3) := by decide +kernel
theorem dX9_passes_202 : decode cX9_passes 202 = .ok (.iconst 1, 1) := by decide +kernel
theorem dX9_passes_203 : decode cX9_passes 203 = .ok (.iaload, 1) := by decide +kernel
theorem dX9_passes_204 : decode cX9_passes 204 = .ok (.irem, 1) := by decide +kernel
theorem dX9_passes_205 : decode cX9_passes 205 = .ok (.ifCond .ne 13, 3) := by decide +kernel
theorem dX9_passes_208 : decode cX9_passes 208 = .ok (.iload_n 3, 1) := by decide +kernel
theorem dX9_passes_209 : decode cX9_passes 209 = .ok (.ifCond .le 9, 3) := by decide +kernel
theorem dX9_passes_212 : decode cX9_passes 212 = .ok (.aload_n 0, 1) := by decide +kernel
theorem dX9_passes_213 : decode cX9_passes 213 = .ok (.iconst 0, 1) := by decide +kernel
theorem dX9_passes_214 : decode cX9_passes 214 = .ok (.iconst 1, 1) := by decide +kernel
theorem dX9_passes_215 : decode cX9_passes 215 = .ok (.invokevirtual 115, 3) := by decide +kernel
theorem dX9_passes_218 : decode cX9_passes 218 = .ok (.aload_n 0, 1) := by decide +kernel
theorem dX9_passes_219 : decode cX9_passes 219 = .ok (.getfield 22, 3) := by decide +kernel
theorem dX9_passes_222 : decode cX9_passes 222 = .ok (.iconst 0, 1) := by decide +kernel
theorem dX9_passes_223 : decode cX9_passes 223 = .ok (.iload_n 2, 1) := by decide +kernel
theorem dX9_passes_224 : decode cX9_passes 224 = .ok (.iastore, 1) := by decide +kernel
theorem dX9_passes_225 : decode cX9_passes 225 = .ok (.return_, 1) := by decide +kernel
set_option maxRecDepth 20000 in
theorem ggX9_pass_X9_in : GoodIn wsX9_pass wsX9_in := goodIn_r _ [5] (by decide +kernel) (by decide +kernel)
set_option maxRecDepth 20000 in
theorem gX9_pass_X9_in : GoodIn wsX9_pass (va_wsS RX9 56 yX9_in wsX9_in) := goodIn_app (goodIn_of _ (by decide +kernel)) ggX9_pass_X9_in
set_option maxRecDepth 20000 in
theorem ggX9_pass_X9_keeps : GoodIn wsX9_pass wsX9_keeps := goodIn_r _ [9, 10, 11, 1, 30, 31, 32, 33, 34, 35, 36, 37, 38, 39, 40, 41, 42, 43, 44, 45, 46] (by decide +kernel) (by decide +kernel)
set_option maxRecDepth 20000 in
theorem gX9_pass_X9_keeps : GoodIn wsX9_pass (wsV RX9 119 RX9 yX9_keeps wsX9_keeps) := goodIn_app (goodIn_of _ (by decide +kernel)) ggX9_pass_X9_keeps
set_option maxRecDepth 20000 in
theorem ggX9_pass_X9_passes : GoodIn wsX9_pass wsX9_passes := goodIn_r _ [15, 1, 16, 17, 18, 19, 20, 4, 21, 22, 23, 24, 25, 26, 27, 28, 29, 30, 31, 32, 33, 34, 35, 36, 37, 38, 39, 40, 41, 42, 43, 44, 45, 46] (by decide +kernel) (by decide +kernel)
set_option maxRecDepth 20000 in
theorem gX9_pass_X9_passes : GoodIn wsX9_pass (wsV RX9 122 RX9 yX9_passes wsX9_passes) := goodIn_app (goodIn_of _ (by decide +kernel)) ggX9_pass_X9_passes
theorem dX9_pass_0 : decode cX9_pass 0 = .ok (.iload_n 1, 1) := by decide +kernel
theorem dX9_pass_1 : decode cX9_pass 1 = .ok (.iconst 1, 1) := by decide +kernel
theorem dX9_pass_2 : decode cX9_pass 2 = .ok (.bipush 24, 2) := by decide +kernel
theorem dX9_pass_4 : decode cX9_pass 4 = .ok (.invokestatic 56, 3) := by decide +kernel
theorem dX9_pass_7 : decode cX9_pass 7 = .ok (.ifCond .ne 5, 3) := by decide +kernel
theorem dX9_pass_10 : decode cX9_pass 10 = .ok (.iconst (-1), 1) := by decide +kernel
theorem dX9_pass_11 : decode cX9_pass 11 = .ok (.ireturn, 1) := by decide +kernel
theorem dX9_pass_12 : decode cX9_pass 12 = .ok (.aload_n 0, 1) := by decide +kernel
theorem dX9_pass_13 : decode cX9_pass 13 = .ok (.getfield 22, 3) := by decide +kernel
theorem dX9_pass_16 : decode cX9_pass 16 = .ok (.iconst 0, 1) := by decide +kernel
theorem dX9_pass_17 : decode cX9_pass 17 = .ok (.iaload, 1) := by decide +kernel
theorem dX9_pass_18 : decode cX9_pass 18 = .ok (.iload_n 1, 1) := by decide +kernel
theorem dX9_pass_19 : decode cX9_pass 19 = .ok (.iadd, 1) := by decide +kernel
theorem dX9_pass_20 : decode cX9_pass 20 = .ok (.sipush 999, 3) := by decide +kernel
theorem dX9_pass_23 : decode cX9_pass 23 = .ok (.if_icmp .le 6, 3) := by decide +kernel
theorem dX9_pass_26 : decode cX9_pass 26 = .ok (.bipush (-2), 2) := by decide +kernel
theorem dX9_pass_28 : decode cX9_pass 28 = .ok (.ireturn, 1) := by decide +kernel
theorem dX9_pass_29 : decode cX9_pass 29 = .ok (.aload_n 0, 1) := by decide +kernel
theorem dX9_pass_30 : decode cX9_pass 30 = .ok (.invokevirtual 119, 3) := by decide +kernel
theorem dX9_pass_33 : decode cX9_pass 33 = .ok (.iconst 0, 1) := by decide +kernel
theorem dX9_pass_34 : decode cX9_pass 34 = .ok (.istore_n 2, 1) := by decide +kernel
theorem dX9_pass_35 : decode cX9_pass 35 = .ok (.iload_n 2, 1) := by decide +kernel
theorem dX9_pass_36 : decode cX9_pass 36 = .ok (.iload_n 1, 1) := by decide +kernel
theorem dX9_pass_37 : decode cX9_pass 37 = .ok (.if_icmp .ge 14, 3) := by decide +kernel
theorem dX9_pass_40 : decode cX9_pass 40 = .ok (.aload_n 0, 1) := by decide +kernel
theorem dX9_pass_41 : decode cX9_pass 41 = .ok (.iconst 1, 1) := by decide +kernel
theorem dX9_pass_42 : decode cX9_pass 42 = .ok (.invokevirtual 122, 3) := by decide +kernel
theorem dX9_pass_45 : decode cX9_pass 45 = .ok (.iinc 2 1, 3) := by decide +kernel
theorem dX9_pass_48 : decode cX9_pass 48 = .ok (.goto (-13), 3) := by decide +kernel
theorem dX9_pass_51 : decode cX9_pass 51 = .ok (.aload_n 0, 1) := by decide +kernel
theorem dX9_pass_52 : decode cX9_pass 52 = .ok (.getfield 22, 3) := by decide +kernel
theorem dX9_pass_55 : decode cX9_pass 55 = .ok (.iconst 0, 1) := by decide +kernel
theorem dX9_pass_56 : decode cX9_pass 56 = .ok (.iaload, 1) := by decide +kernel
theorem dX9_pass_57 : decode cX9_pass 57 = .ok (.ireturn, 1) := by decide +kernel
set_option maxRecDepth 20000 in
theorem ggX9_mayLet_X9_placeOf : GoodIn wsX9_mayLet wsX9_placeOf := goodIn_r _ [5, 6, 7, 8, 9, 10, 11, 12, 13, 14, 15, 16, 17, 18, 19, 20, 21, 22, 23] (by decide +kernel) (by decide +kernel)
set_option maxRecDepth 20000 in
theorem gX9_mayLet_X9_placeOf : GoodIn wsX9_mayLet (wsV RX9 105 RX9 yX9_placeOf wsX9_placeOf) := goodIn_app (goodIn_of _ (by decide +kernel)) ggX9_mayLet_X9_placeOf
theorem dX9_mayLet_0 : decode cX9_mayLet 0 = .ok (.aload_n 0, 1) := by decide +kernel
theorem dX9_mayLet_1 : decode cX9_mayLet 1 = .ok (.iload_n 1, 1) := by decide +kernel
theorem dX9_mayLet_2 : decode cX9_mayLet 2 = .ok (.invokevirtual 105, 3) := by decide +kernel
theorem dX9_mayLet_5 : decode cX9_mayLet 5 = .ok (.ifCond .lt 20, 3) := by decide +kernel
theorem dX9_mayLet_8 : decode cX9_mayLet 8 = .ok (.aload_n 0, 1) := by decide +kernel
theorem dX9_mayLet_9 : decode cX9_mayLet 9 = .ok (.iload_n 2, 1) := by decide +kernel
theorem dX9_mayLet_10 : decode cX9_mayLet 10 = .ok (.invokevirtual 105, 3) := by decide +kernel
theorem dX9_mayLet_13 : decode cX9_mayLet 13 = .ok (.aload_n 0, 1) := by decide +kernel
theorem dX9_mayLet_14 : decode cX9_mayLet 14 = .ok (.iload_n 1, 1) := by decide +kernel
theorem dX9_mayLet_15 : decode cX9_mayLet 15 = .ok (.invokevirtual 105, 3) := by decide +kernel
theorem dX9_mayLet_18 : decode cX9_mayLet 18 = .ok (.if_icmp .le 7, 3) := by decide +kernel
theorem dX9_mayLet_21 : decode cX9_mayLet 21 = .ok (.iconst 1, 1) := by decide +kernel
theorem dX9_mayLet_22 : decode cX9_mayLet 22 = .ok (.goto 4, 3) := by decide +kernel
theorem dX9_mayLet_25 : decode cX9_mayLet 25 = .ok (.iconst 0, 1) := by decide +kernel
theorem dX9_mayLet_26 : decode cX9_mayLet 26 = .ok (.ireturn, 1) := by decide +kernel
set_option maxRecDepth 20000 in
theorem ggX9_lets_X9_placeOf : GoodIn wsX9_lets wsX9_placeOf := goodIn_r _ [5, 6, 15, 16, 17, 18, 19, 20, 21, 22, 23, 24, 25, 26, 27, 28, 29, 30, 31] (by decide +kernel) (by decide +kernel)
set_option maxRecDepth 20000 in
theorem gX9_lets_X9_placeOf : GoodIn wsX9_lets (wsV RX9 105 RX9 yX9_placeOf wsX9_placeOf) := goodIn_app (goodIn_of _ (by decide +kernel)) ggX9_lets_X9_placeOf
set_option maxRecDepth 20000 in
theorem ggX9_lets_X9_goes : GoodIn wsX9_lets wsX9_goes := goodIn_r _ [10, 6, 15, 16, 17, 18, 19, 20, 21, 22, 23, 24, 25, 26, 27, 28, 29, 30, 31] (by decide +kernel) (by decide +kernel)
set_option maxRecDepth 20000 in
theorem gX9_lets_X9_goes : GoodIn wsX9_lets (wsV RX9 115 RX9 yX9_goes wsX9_goes) := goodIn_app (goodIn_of _ (by decide +kernel)) ggX9_lets_X9_goes
set_option maxRecDepth 20000 in
theorem ggX9_lets_X9_comes : GoodIn wsX9_lets wsX9_comes := goodIn_r _ [14, 6, 15, 16, 17, 18, 19, 20, 21, 22, 23, 24, 25, 26, 27, 28, 29, 30, 31] (by decide +kernel) (by decide +kernel)
set_option maxRecDepth 20000 in
theorem gX9_lets_X9_comes : GoodIn wsX9_lets (wsV RX9 126 RX9 yX9_comes wsX9_comes) := goodIn_app (goodIn_of _ (by decide +kernel)) ggX9_lets_X9_comes
theorem dX9_lets_0 : decode cX9_lets 0 = .ok (.aload_n 0, 1) := by decide +kernel
theorem dX9_lets_1 : decode cX9_lets 1 = .ok (.aload_n 0, 1) := by decide +kernel
theorem dX9_lets_2 : decode cX9_lets 2 = .ok (.iload_n 2, 1) := by decide +kernel
theorem dX9_lets_3 : decode cX9_lets 3 = .ok (.invokevirtual 105, 3) := by decide +kernel
theorem dX9_lets_6 : decode cX9_lets 6 = .ok (.iconst 0, 1) := by decide +kernel
theorem dX9_lets_7 : decode cX9_lets 7 = .ok (.invokevirtual 115, 3) := by decide +kernel
theorem dX9_lets_10 : decode cX9_lets 10 = .ok (.aload_n 0, 1) := by decide +kernel
theorem dX9_lets_11 : decode cX9_lets 11 = .ok (.iload_n 2, 1) := by decide +kernel
theorem dX9_lets_12 : decode cX9_lets 12 = .ok (.aload_n 0, 1) := by decide +kernel
theorem dX9_lets_13 : decode cX9_lets 13 = .ok (.iload_n 1, 1) := by decide +kernel
theorem dX9_lets_14 : decode cX9_lets 14 = .ok (.invokevirtual 105, 3) := by decide +kernel
theorem dX9_lets_17 : decode cX9_lets 17 = .ok (.invokevirtual 126, 3) := by decide +kernel
theorem dX9_lets_20 : decode cX9_lets 20 = .ok (.return_, 1) := by decide +kernel
set_option maxRecDepth 20000 in
theorem ggX9_let_X9_isOne : GoodIn wsX9_let wsX9_isOne := goodIn_r _ [5, 6, 7, 8, 4, 9, 37, 38, 39, 40, 41, 42, 43, 44, 45, 46, 47, 48, 49, 50, 51, 52, 53] (by decide +kernel) (by decide +kernel)
set_option maxRecDepth 20000 in
theorem gX9_let_X9_isOne : GoodIn wsX9_let (wsV RX9 102 RX9 yX9_isOne wsX9_isOne) := goodIn_app (goodIn_of _ (by decide +kernel)) ggX9_let_X9_isOne
set_option maxRecDepth 20000 in
theorem ggX9_let_X9_mayLet : GoodIn wsX9_let wsX9_mayLet := goodIn_r _ [13, 14, 15, 16, 4, 17, 18, 37, 38, 39, 40, 41, 42, 43, 44, 45, 46, 47, 48, 49, 50, 51, 52, 53] (by decide +kernel) (by decide +kernel)
set_option maxRecDepth 20000 in
theorem gX9_let_X9_mayLet : GoodIn wsX9_let (wsV RX9 129 RX9 yX9_mayLet wsX9_mayLet) := goodIn_app (goodIn_of _ (by decide +kernel)) ggX9_let_X9_mayLet
set_option maxRecDepth 20000 in
theorem ggX9_let_X9_keeps : GoodIn wsX9_let wsX9_keeps := goodIn_r _ [22, 23, 24, 18, 37, 38, 39, 40, 41, 42, 43, 44, 45, 46, 47, 48, 49, 50, 51, 52, 53] (by decide +kernel) (by decide +kernel)
set_option maxRecDepth 20000 in
theorem gX9_let_X9_keeps : GoodIn wsX9_let (wsV RX9 119 RX9 yX9_keeps wsX9_keeps) := goodIn_app (goodIn_of _ (by decide +kernel)) ggX9_let_X9_keeps
set_option maxRecDepth 20000 in
theorem ggX9_let_X9_lets : GoodIn wsX9_let wsX9_lets := goodIn_r _ [28, 14, 15, 16, 4, 17, 18, 29, 30, 31, 32, 33, 34, 35, 36, 37, 38, 39, 40, 41, 42, 43, 44, 45, 46, 47, 48, 49, 50, 51, 52, 53] (by decide +kernel) (by decide +kernel)
set_option maxRecDepth 20000 in
theorem gX9_let_X9_lets : GoodIn wsX9_let (wsV RX9 133 RX9 yX9_lets wsX9_lets) := goodIn_app (goodIn_of _ (by decide +kernel)) ggX9_let_X9_lets
set_option maxRecDepth 20000 in
theorem ggX9_let_X9_placeOf : GoodIn wsX9_let wsX9_placeOf := goodIn_r _ [17, 18, 37, 38, 39, 40, 41, 42, 43, 44, 45, 46, 47, 48, 49, 50, 51, 52, 53] (by decide +kernel) (by decide +kernel)
set_option maxRecDepth 20000 in
theorem gX9_let_X9_placeOf : GoodIn wsX9_let (wsV RX9 105 RX9 yX9_placeOf wsX9_placeOf) := goodIn_app (goodIn_of _ (by decide +kernel)) ggX9_let_X9_placeOf
theorem dX9_let_0 : decode cX9_let 0 = .ok (.aload_n 0, 1) := by decide +kernel
theorem dX9_let_1 : decode cX9_let 1 = .ok (.iload_n 1, 1) := by decide +kernel
theorem dX9_let_2 : decode cX9_let 2 = .ok (.invokevirtual 102, 3) := by decide +kernel
theorem dX9_let_5 : decode cX9_let 5 = .ok (.ifCond .eq 16, 3) := by decide +kernel
theorem dX9_let_8 : decode cX9_let 8 = .ok (.aload_n 0, 1) := by decide +kernel
theorem dX9_let_9 : decode cX9_let 9 = .ok (.iload_n 2, 1) := by decide +kernel
theorem dX9_let_10 : decode cX9_let 10 = .ok (.invokevirtual 102, 3) := by decide +kernel
theorem dX9_let_13 : decode cX9_let 13 = .ok (.ifCond .eq 8, 3) := by decide +kernel
theorem dX9_let_16 : decode cX9_let 16 = .ok (.iload_n 1, 1) := by decide +kernel
theorem dX9_let_17 : decode cX9_let 17 = .ok (.iload_n 2, 1) := by decide +kernel
theorem dX9_let_18 : decode cX9_let 18 = .ok (.if_icmp .ne 5, 3) := by decide +kernel
theorem dX9_let_21 : decode cX9_let 21 = .ok (.iconst (-1), 1) := by decide +kernel
theorem dX9_let_22 : decode cX9_let 22 = .ok (.ireturn, 1) := by decide +kernel
theorem dX9_let_23 : decode cX9_let 23 = .ok (.aload_n 0, 1) := by decide +kernel
theorem dX9_let_24 : decode cX9_let 24 = .ok (.iload_n 1, 1) := by decide +kernel
theorem dX9_let_25 : decode cX9_let 25 = .ok (.iload_n 2, 1) := by decide +kernel
theorem dX9_let_26 : decode cX9_let 26 = .ok (.invokevirtual 129, 3) := by decide +kernel
theorem dX9_let_29 : decode cX9_let 29 = .ok (.ifCond .ne 6, 3) := by decide +kernel
theorem dX9_let_32 : decode cX9_let 32 = .ok (.bipush (-2), 2) := by decide +kernel
theorem dX9_let_34 : decode cX9_let 34 = .ok (.ireturn, 1) := by decide +kernel
theorem dX9_let_35 : decode cX9_let 35 = .ok (.aload_n 0, 1) := by decide +kernel
theorem dX9_let_36 : decode cX9_let 36 = .ok (.invokevirtual 119, 3) := by decide +kernel
theorem dX9_let_39 : decode cX9_let 39 = .ok (.aload_n 0, 1) := by decide +kernel
theorem dX9_let_40 : decode cX9_let 40 = .ok (.iload_n 1, 1) := by decide +kernel
theorem dX9_let_41 : decode cX9_let 41 = .ok (.iload_n 2, 1) := by decide +kernel
theorem dX9_let_42 : decode cX9_let 42 = .ok (.invokevirtual 133, 3) := by decide +kernel
theorem dX9_let_45 : decode cX9_let 45 = .ok (.aload_n 0, 1) := by decide +kernel
theorem dX9_let_46 : decode cX9_let 46 = .ok (.iload_n 2, 1) := by decide +kernel
theorem dX9_let_47 : decode cX9_let 47 = .ok (.invokevirtual 105, 3) := by decide +kernel
theorem dX9_let_50 : decode cX9_let 50 = .ok (.ireturn, 1) := by decide +kernel
set_option maxRecDepth 20000 in
theorem ggX9_leave_X9_isOne : GoodIn wsX9_leave wsX9_isOne := goodIn_r _ [6, 7, 8, 9, 5, 10, 25, 26, 27, 28, 29, 30, 31, 32, 33, 34, 35, 36, 37, 38, 39, 40, 41] (by decide +kernel) (by decide +kernel)
set_option maxRecDepth 20000 in
theorem gX9_leave_X9_isOne : GoodIn wsX9_leave (wsV RX9 102 RX9 yX9_isOne wsX9_isOne) := goodIn_app (goodIn_of _ (by decide +kernel)) ggX9_leave_X9_isOne
set_option maxRecDepth 20000 in
theorem ggX9_leave_X9_placeOf : GoodIn wsX9_leave wsX9_placeOf := goodIn_r _ [14, 1, 25, 26, 27, 28, 29, 30, 31, 32, 33, 34, 35, 36, 37, 38, 39, 40, 41] (by decide +kernel) (by decide +kernel)
set_option maxRecDepth 20000 in
theorem gX9_leave_X9_placeOf : GoodIn wsX9_leave (wsV RX9 105 RX9 yX9_placeOf wsX9_placeOf) := goodIn_app (goodIn_of _ (by decide +kernel)) ggX9_leave_X9_placeOf
set_option maxRecDepth 20000 in
theorem ggX9_leave_X9_keeps : GoodIn wsX9_leave wsX9_keeps := goodIn_r _ [18, 19, 20, 1, 25, 26, 27, 28, 29, 30, 31, 32, 33, 34, 35, 36, 37, 38, 39, 40, 41] (by decide +kernel) (by decide +kernel)
set_option maxRecDepth 20000 in
theorem gX9_leave_X9_keeps : GoodIn wsX9_leave (wsV RX9 119 RX9 yX9_keeps wsX9_keeps) := goodIn_app (goodIn_of _ (by decide +kernel)) ggX9_leave_X9_keeps
set_option maxRecDepth 20000 in
theorem ggX9_leave_X9_goes : GoodIn wsX9_leave wsX9_goes := goodIn_r _ [24, 1, 25, 26, 27, 28, 29, 30, 31, 32, 33, 34, 35, 36, 37, 38, 39, 40, 41] (by decide +kernel) (by decide +kernel)
set_option maxRecDepth 20000 in
theorem gX9_leave_X9_goes : GoodIn wsX9_leave (wsV RX9 115 RX9 yX9_goes wsX9_goes) := goodIn_app (goodIn_of _ (by decide +kernel)) ggX9_leave_X9_goes
theorem dX9_leave_0 : decode cX9_leave 0 = .ok (.aload_n 0, 1) := by decide +kernel
theorem dX9_leave_1 : decode cX9_leave 1 = .ok (.iload_n 1, 1) := by decide +kernel
theorem dX9_leave_2 : decode cX9_leave 2 = .ok (.invokevirtual 102, 3) := by decide +kernel
theorem dX9_leave_5 : decode cX9_leave 5 = .ok (.ifCond .ne 5, 3) := by decide +kernel
theorem dX9_leave_8 : decode cX9_leave 8 = .ok (.iconst (-1), 1) := by decide +kernel
theorem dX9_leave_9 : decode cX9_leave 9 = .ok (.ireturn, 1) := by decide +kernel
theorem dX9_leave_10 : decode cX9_leave 10 = .ok (.aload_n 0, 1) := by decide +kernel
theorem dX9_leave_11 : decode cX9_leave 11 = .ok (.iload_n 1, 1) := by decide +kernel
theorem dX9_leave_12 : decode cX9_leave 12 = .ok (.invokevirtual 105, 3) := by decide +kernel
theorem dX9_leave_15 : decode cX9_leave 15 = .ok (.bipush (-4), 2) := by decide +kernel
theorem dX9_leave_17 : decode cX9_leave 17 = .ok (.if_icmp .ne 6, 3) := by decide +kernel
theorem dX9_leave_20 : decode cX9_leave 20 = .ok (.bipush (-2), 2) := by decide +kernel
theorem dX9_leave_22 : decode cX9_leave 22 = .ok (.ireturn, 1) := by decide +kernel
theorem dX9_leave_23 : decode cX9_leave 23 = .ok (.aload_n 0, 1) := by decide +kernel
theorem dX9_leave_24 : decode cX9_leave 24 = .ok (.invokevirtual 119, 3) := by decide +kernel
theorem dX9_leave_27 : decode cX9_leave 27 = .ok (.aload_n 0, 1) := by decide +kernel
theorem dX9_leave_28 : decode cX9_leave 28 = .ok (.aload_n 0, 1) := by decide +kernel
theorem dX9_leave_29 : decode cX9_leave 29 = .ok (.iload_n 1, 1) := by decide +kernel
theorem dX9_leave_30 : decode cX9_leave 30 = .ok (.invokevirtual 105, 3) := by decide +kernel
theorem dX9_leave_33 : decode cX9_leave 33 = .ok (.iconst 2, 1) := by decide +kernel
theorem dX9_leave_34 : decode cX9_leave 34 = .ok (.invokevirtual 115, 3) := by decide +kernel
theorem dX9_leave_37 : decode cX9_leave 37 = .ok (.aload_n 0, 1) := by decide +kernel
theorem dX9_leave_38 : decode cX9_leave 38 = .ok (.getfield 22, 3) := by decide +kernel
theorem dX9_leave_41 : decode cX9_leave 41 = .ok (.iconst 1, 1) := by decide +kernel
theorem dX9_leave_42 : decode cX9_leave 42 = .ok (.iaload, 1) := by decide +kernel
theorem dX9_leave_43 : decode cX9_leave 43 = .ok (.ireturn, 1) := by decide +kernel
set_option maxRecDepth 20000 in
theorem ggX9_come_X9_isOne : GoodIn wsX9_come wsX9_isOne := goodIn_r _ [6, 7, 8, 9, 5, 10, 25, 26, 27, 28, 29, 30, 31, 32, 33, 34, 35, 36, 37, 38, 39, 40, 41] (by decide +kernel) (by decide +kernel)
set_option maxRecDepth 20000 in
theorem gX9_come_X9_isOne : GoodIn wsX9_come (wsV RX9 102 RX9 yX9_isOne wsX9_isOne) := goodIn_app (goodIn_of _ (by decide +kernel)) ggX9_come_X9_isOne
set_option maxRecDepth 20000 in
theorem ggX9_come_X9_placeOf : GoodIn wsX9_come wsX9_placeOf := goodIn_r _ [14, 1, 25, 26, 27, 28, 29, 30, 31, 32, 33, 34, 35, 36, 37, 38, 39, 40, 41] (by decide +kernel) (by decide +kernel)
set_option maxRecDepth 20000 in
theorem gX9_come_X9_placeOf : GoodIn wsX9_come (wsV RX9 105 RX9 yX9_placeOf wsX9_placeOf) := goodIn_app (goodIn_of _ (by decide +kernel)) ggX9_come_X9_placeOf
set_option maxRecDepth 20000 in
theorem ggX9_come_X9_keeps : GoodIn wsX9_come wsX9_keeps := goodIn_r _ [18, 19, 20, 1, 25, 26, 27, 28, 29, 30, 31, 32, 33, 34, 35, 36, 37, 38, 39, 40, 41] (by decide +kernel) (by decide +kernel)
set_option maxRecDepth 20000 in
theorem gX9_come_X9_keeps : GoodIn wsX9_come (wsV RX9 119 RX9 yX9_keeps wsX9_keeps) := goodIn_app (goodIn_of _ (by decide +kernel)) ggX9_come_X9_keeps
set_option maxRecDepth 20000 in
theorem ggX9_come_X9_comes : GoodIn wsX9_come wsX9_comes := goodIn_r _ [24, 1, 25, 26, 27, 28, 29, 30, 31, 32, 33, 34, 35, 36, 37, 38, 39, 40, 41] (by decide +kernel) (by decide +kernel)
set_option maxRecDepth 20000 in
theorem gX9_come_X9_comes : GoodIn wsX9_come (wsV RX9 126 RX9 yX9_comes wsX9_comes) := goodIn_app (goodIn_of _ (by decide +kernel)) ggX9_come_X9_comes
theorem dX9_come_0 : decode cX9_come 0 = .ok (.aload_n 0, 1) := by decide +kernel
theorem dX9_come_1 : decode cX9_come 1 = .ok (.iload_n 1, 1) := by decide +kernel
theorem dX9_come_2 : decode cX9_come 2 = .ok (.invokevirtual 102, 3) := by decide +kernel
theorem dX9_come_5 : decode cX9_come 5 = .ok (.ifCond .ne 5, 3) := by decide +kernel
theorem dX9_come_8 : decode cX9_come 8 = .ok (.iconst (-1), 1) := by decide +kernel
theorem dX9_come_9 : decode cX9_come 9 = .ok (.ireturn, 1) := by decide +kernel
theorem dX9_come_10 : decode cX9_come 10 = .ok (.aload_n 0, 1) := by decide +kernel
theorem dX9_come_11 : decode cX9_come 11 = .ok (.iload_n 1, 1) := by decide +kernel
theorem dX9_come_12 : decode cX9_come 12 = .ok (.invokevirtual 105, 3) := by decide +kernel
theorem dX9_come_15 : decode cX9_come 15 = .ok (.bipush (-4), 2) := by decide +kernel
theorem dX9_come_17 : decode cX9_come 17 = .ok (.if_icmp .eq 6, 3) := by decide +kernel
theorem dX9_come_20 : decode cX9_come 20 = .ok (.bipush (-2), 2) := by decide +kernel
theorem dX9_come_22 : decode cX9_come 22 = .ok (.ireturn, 1) := by decide +kernel
theorem dX9_come_23 : decode cX9_come 23 = .ok (.aload_n 0, 1) := by decide +kernel
theorem dX9_come_24 : decode cX9_come 24 = .ok (.invokevirtual 119, 3) := by decide +kernel
theorem dX9_come_27 : decode cX9_come 27 = .ok (.aload_n 0, 1) := by decide +kernel
theorem dX9_come_28 : decode cX9_come 28 = .ok (.iload_n 1, 1) := by decide +kernel
theorem dX9_come_29 : decode cX9_come 29 = .ok (.aload_n 0, 1) := by decide +kernel
theorem dX9_come_30 : decode cX9_come 30 = .ok (.getfield 22, 3) := by decide +kernel
theorem dX9_come_33 : decode cX9_come 33 = .ok (.iconst 1, 1) := by decide +kernel
theorem dX9_come_34 : decode cX9_come 34 = .ok (.iaload, 1) := by decide +kernel
theorem dX9_come_35 : decode cX9_come 35 = .ok (.invokevirtual 126, 3) := by decide +kernel
theorem dX9_come_38 : decode cX9_come 38 = .ok (.aload_n 0, 1) := by decide +kernel
theorem dX9_come_39 : decode cX9_come 39 = .ok (.iload_n 1, 1) := by decide +kernel
theorem dX9_come_40 : decode cX9_come 40 = .ok (.invokevirtual 105, 3) := by decide +kernel
theorem dX9_come_43 : decode cX9_come 43 = .ok (.ireturn, 1) := by decide +kernel
theorem dX9_canPay_0 : decode cX9_canPay 0 = .ok (.aload_n 0, 1) := by decide +kernel
theorem dX9_canPay_1 : decode cX9_canPay 1 = .ok (.getfield 22, 3) := by decide +kernel
theorem dX9_canPay_4 : decode cX9_canPay 4 = .ok (.bipush 23, 2) := by decide +kernel
theorem dX9_canPay_6 : decode cX9_canPay 6 = .ok (.bipush 7, 2) := by decide +kernel
theorem dX9_canPay_8 : decode cX9_canPay 8 = .ok (.iload_n 1, 1) := by decide +kernel
theorem dX9_canPay_9 : decode cX9_canPay 9 = .ok (.imul, 1) := by decide +kernel
theorem dX9_canPay_10 : decode cX9_canPay 10 = .ok (.iadd, 1) := by decide +kernel
theorem dX9_canPay_11 : decode cX9_canPay 11 = .ok (.iload_n 2, 1) := by decide +kernel
theorem dX9_canPay_12 : decode cX9_canPay 12 = .ok (.iadd, 1) := by decide +kernel
theorem dX9_canPay_13 : decode cX9_canPay 13 = .ok (.iaload, 1) := by decide +kernel
theorem dX9_canPay_14 : decode cX9_canPay 14 = .ok (.istore_n 3, 1) := by decide +kernel
theorem dX9_canPay_15 : decode cX9_canPay 15 = .ok (.iload_n 3, 1) := by decide +kernel
theorem dX9_canPay_16 : decode cX9_canPay 16 = .ok (.aload_n 0, 1) := by decide +kernel
theorem dX9_canPay_17 : decode cX9_canPay 17 = .ok (.getfield 22, 3) := by decide +kernel
theorem dX9_canPay_20 : decode cX9_canPay 20 = .ok (.bipush 16, 2) := by decide +kernel
theorem dX9_canPay_22 : decode cX9_canPay 22 = .ok (.iload_n 1, 1) := by decide +kernel
theorem dX9_canPay_23 : decode cX9_canPay 23 = .ok (.iadd, 1) := by decide +kernel
theorem dX9_canPay_24 : decode cX9_canPay 24 = .ok (.iaload, 1) := by decide +kernel
theorem dX9_canPay_25 : decode cX9_canPay 25 = .ok (.if_icmp .ge 7, 3) := by decide +kernel
theorem dX9_canPay_28 : decode cX9_canPay 28 = .ok (.iload_n 3, 1) := by decide +kernel
theorem dX9_canPay_29 : decode cX9_canPay 29 = .ok (.goto 12, 3) := by decide +kernel
theorem dX9_canPay_32 : decode cX9_canPay 32 = .ok (.aload_n 0, 1) := by decide +kernel
theorem dX9_canPay_33 : decode cX9_canPay 33 = .ok (.getfield 22, 3) := by decide +kernel
theorem dX9_canPay_36 : decode cX9_canPay 36 = .ok (.bipush 16, 2) := by decide +kernel
theorem dX9_canPay_38 : decode cX9_canPay 38 = .ok (.iload_n 1, 1) := by decide +kernel
theorem dX9_canPay_39 : decode cX9_canPay 39 = .ok (.iadd, 1) := by decide +kernel
theorem dX9_canPay_40 : decode cX9_canPay 40 = .ok (.iaload, 1) := by decide +kernel
theorem dX9_canPay_41 : decode cX9_canPay 41 = .ok (.ireturn, 1) := by decide +kernel
set_option maxRecDepth 20000 in
theorem ggX9_pays_X9_canPay : GoodIn wsX9_pays wsX9_canPay := goodIn_r _ [6, 1, 7, 8, 9, 10, 11, 12, 13, 14, 15, 16, 17, 18, 19, 20, 21, 22, 23] (by decide +kernel) (by decide +kernel)
set_option maxRecDepth 20000 in
theorem gX9_pays_X9_canPay : GoodIn wsX9_pays (wsV RX9 136 RX9 yX9_canPay wsX9_canPay) := goodIn_app (goodIn_of _ (by decide +kernel)) ggX9_pays_X9_canPay
theorem dX9_pays_0 : decode cX9_pays 0 = .ok (.aload_n 0, 1) := by decide +kernel
theorem dX9_pays_1 : decode cX9_pays 1 = .ok (.iload_n 1, 1) := by decide +kernel
theorem dX9_pays_2 : decode cX9_pays 2 = .ok (.iload_n 2, 1) := by decide +kernel
theorem dX9_pays_3 : decode cX9_pays 3 = .ok (.invokevirtual 136, 3) := by decide +kernel
theorem dX9_pays_6 : decode cX9_pays 6 = .ok (.istore_n 3, 1) := by decide +kernel
theorem dX9_pays_7 : decode cX9_pays 7 = .ok (.aload_n 0, 1) := by decide +kernel
theorem dX9_pays_8 : decode cX9_pays 8 = .ok (.getfield 22, 3) := by decide +kernel
theorem dX9_pays_11 : decode cX9_pays 11 = .ok (.bipush 23, 2) := by decide +kernel
theorem dX9_pays_13 : decode cX9_pays 13 = .ok (.bipush 7, 2) := by decide +kernel
theorem dX9_pays_15 : decode cX9_pays 15 = .ok (.iload_n 1, 1) := by decide +kernel
theorem dX9_pays_16 : decode cX9_pays 16 = .ok (.imul, 1) := by decide +kernel
theorem dX9_pays_17 : decode cX9_pays 17 = .ok (.iadd, 1) := by decide +kernel
theorem dX9_pays_18 : decode cX9_pays 18 = .ok (.iload_n 2, 1) := by decide +kernel
theorem dX9_pays_19 : decode cX9_pays 19 = .ok (.iadd, 1) := by decide +kernel
theorem dX9_pays_20 : decode cX9_pays 20 = .ok (.dup2, 1) := by decide +kernel
theorem dX9_pays_21 : decode cX9_pays 21 = .ok (.iaload, 1) := by decide +kernel
theorem dX9_pays_22 : decode cX9_pays 22 = .ok (.iload_n 3, 1) := by decide +kernel
theorem dX9_pays_23 : decode cX9_pays 23 = .ok (.isub, 1) := by decide +kernel
theorem dX9_pays_24 : decode cX9_pays 24 = .ok (.iastore, 1) := by decide +kernel
theorem dX9_pays_25 : decode cX9_pays 25 = .ok (.aload_n 0, 1) := by decide +kernel
theorem dX9_pays_26 : decode cX9_pays 26 = .ok (.getfield 22, 3) := by decide +kernel
theorem dX9_pays_29 : decode cX9_pays 29 = .ok (.bipush 16, 2) := by decide +kernel
theorem dX9_pays_31 : decode cX9_pays 31 = .ok (.iload_n 1, 1) := by decide +kernel
theorem dX9_pays_32 : decode cX9_pays 32 = .ok (.iadd, 1) := by decide +kernel
theorem dX9_pays_33 : decode cX9_pays 33 = .ok (.dup2, 1) := by decide +kernel
theorem dX9_pays_34 : decode cX9_pays 34 = .ok (.iaload, 1) := by decide +kernel
theorem dX9_pays_35 : decode cX9_pays 35 = .ok (.iload_n 3, 1) := by decide +kernel
theorem dX9_pays_36 : decode cX9_pays 36 = .ok (.isub, 1) := by decide +kernel
theorem dX9_pays_37 : decode cX9_pays 37 = .ok (.iastore, 1) := by decide +kernel
theorem dX9_pays_38 : decode cX9_pays 38 = .ok (.aload_n 0, 1) := by decide +kernel
theorem dX9_pays_39 : decode cX9_pays 39 = .ok (.getfield 22, 3) := by decide +kernel
theorem dX9_pays_42 : decode cX9_pays 42 = .ok (.bipush 16, 2) := by decide +kernel
theorem dX9_pays_44 : decode cX9_pays 44 = .ok (.iload_n 2, 1) := by decide +kernel
theorem dX9_pays_45 : decode cX9_pays 45 = .ok (.iadd, 1) := by decide +kernel
theorem dX9_pays_46 : decode cX9_pays 46 = .ok (.dup2, 1) := by decide +kernel
theorem dX9_pays_47 : decode cX9_pays 47 = .ok (.iaload, 1) := by decide +kernel
theorem dX9_pays_48 : decode cX9_pays 48 = .ok (.iload_n 3, 1) := by decide +kernel
theorem dX9_pays_49 : decode cX9_pays 49 = .ok (.iadd, 1) := by decide +kernel
theorem dX9_pays_50 : decode cX9_pays 50 = .ok (.iastore, 1) := by decide +kernel
theorem dX9_pays_51 : decode cX9_pays 51 = .ok (.return_, 1) := by decide +kernel
set_option maxRecDepth 20000 in
theorem ggX9_pay_X9_isOne : GoodIn wsX9_pay wsX9_isOne := goodIn_r _ [5, 6, 7, 8, 4, 9, 25, 26, 27, 28, 29, 30, 31, 32, 33, 34, 35, 36, 37, 38, 39, 40, 41] (by decide +kernel) (by decide +kernel)
set_option maxRecDepth 20000 in
theorem gX9_pay_X9_isOne : GoodIn wsX9_pay (wsV RX9 102 RX9 yX9_isOne wsX9_isOne) := goodIn_app (goodIn_of _ (by decide +kernel)) ggX9_pay_X9_isOne
set_option maxRecDepth 20000 in
theorem ggX9_pay_X9_canPay : GoodIn wsX9_pay wsX9_canPay := goodIn_r _ [13, 14, 25, 26, 27, 28, 29, 30, 31, 32, 33, 34, 35, 36, 37, 38, 39, 40, 41] (by decide +kernel) (by decide +kernel)
set_option maxRecDepth 20000 in
theorem gX9_pay_X9_canPay : GoodIn wsX9_pay (wsV RX9 136 RX9 yX9_canPay wsX9_canPay) := goodIn_app (goodIn_of _ (by decide +kernel)) ggX9_pay_X9_canPay
set_option maxRecDepth 20000 in
theorem ggX9_pay_X9_keeps : GoodIn wsX9_pay wsX9_keeps := goodIn_r _ [18, 19, 20, 14, 25, 26, 27, 28, 29, 30, 31, 32, 33, 34, 35, 36, 37, 38, 39, 40, 41] (by decide +kernel) (by decide +kernel)
set_option maxRecDepth 20000 in
theorem gX9_pay_X9_keeps : GoodIn wsX9_pay (wsV RX9 119 RX9 yX9_keeps wsX9_keeps) := goodIn_app (goodIn_of _ (by decide +kernel)) ggX9_pay_X9_keeps
set_option maxRecDepth 20000 in
theorem ggX9_pay_X9_pays : GoodIn wsX9_pay wsX9_pays := goodIn_r _ [24, 14, 10, 11, 12, 4, 13, 25, 26, 27, 28, 29, 30, 31, 32, 33, 34, 35, 36, 37, 38, 39, 40, 41] (by decide +kernel) (by decide +kernel)
set_option maxRecDepth 20000 in
theorem gX9_pay_X9_pays : GoodIn wsX9_pay (wsV RX9 140 RX9 yX9_pays wsX9_pays) := goodIn_app (goodIn_of _ (by decide +kernel)) ggX9_pay_X9_pays
theorem dX9_pay_0 : decode cX9_pay 0 = .ok (.aload_n 0, 1) := by decide +kernel
theorem dX9_pay_1 : decode cX9_pay 1 = .ok (.iload_n 1, 1) := by decide +kernel
theorem dX9_pay_2 : decode cX9_pay 2 = .ok (.invokevirtual 102, 3) := by decide +kernel
theorem dX9_pay_5 : decode cX9_pay 5 = .ok (.ifCond .eq 16, 3) := by decide +kernel
theorem dX9_pay_8 : decode cX9_pay 8 = .ok (.aload_n 0, 1) := by decide +kernel
theorem dX9_pay_9 : decode cX9_pay 9 = .ok (.iload_n 2, 1) := by decide +kernel
theorem dX9_pay_10 : decode cX9_pay 10 = .ok (.invokevirtual 102, 3) := by decide +kernel
theorem dX9_pay_13 : decode cX9_pay 13 = .ok (.ifCond .eq 8, 3) := by decide +kernel
theorem dX9_pay_16 : decode cX9_pay 16 = .ok (.iload_n 1, 1) := by decide +kernel
theorem dX9_pay_17 : decode cX9_pay 17 = .ok (.iload_n 2, 1) := by decide +kernel
theorem dX9_pay_18 : decode cX9_pay 18 = .ok (.if_icmp .ne 5, 3) := by decide +kernel
theorem dX9_pay_21 : decode cX9_pay 21 = .ok (.iconst (-1), 1) := by decide +kernel
theorem dX9_pay_22 : decode cX9_pay 22 = .ok (.ireturn, 1) := by decide +kernel
theorem dX9_pay_23 : decode cX9_pay 23 = .ok (.aload_n 0, 1) := by decide +kernel
theorem dX9_pay_24 : decode cX9_pay 24 = .ok (.iload_n 1, 1) := by decide +kernel
theorem dX9_pay_25 : decode cX9_pay 25 = .ok (.iload_n 2, 1) := by decide +kernel
theorem dX9_pay_26 : decode cX9_pay 26 = .ok (.invokevirtual 136, 3) := by decide +kernel
theorem dX9_pay_29 : decode cX9_pay 29 = .ok (.istore_n 3, 1) := by decide +kernel
theorem dX9_pay_30 : decode cX9_pay 30 = .ok (.iload_n 3, 1) := by decide +kernel
theorem dX9_pay_31 : decode cX9_pay 31 = .ok (.ifCond .ne 6, 3) := by decide +kernel
theorem dX9_pay_34 : decode cX9_pay 34 = .ok (.bipush (-2), 2) := by decide +kernel
theorem dX9_pay_36 : decode cX9_pay 36 = .ok (.ireturn, 1) := by decide +kernel
theorem dX9_pay_37 : decode cX9_pay 37 = .ok (.aload_n 0, 1) := by decide +kernel
theorem dX9_pay_38 : decode cX9_pay 38 = .ok (.invokevirtual 119, 3) := by decide +kernel
theorem dX9_pay_41 : decode cX9_pay 41 = .ok (.aload_n 0, 1) := by decide +kernel
theorem dX9_pay_42 : decode cX9_pay 42 = .ok (.iload_n 1, 1) := by decide +kernel
theorem dX9_pay_43 : decode cX9_pay 43 = .ok (.iload_n 2, 1) := by decide +kernel
theorem dX9_pay_44 : decode cX9_pay 44 = .ok (.invokevirtual 140, 3) := by decide +kernel
theorem dX9_pay_47 : decode cX9_pay 47 = .ok (.iload_n 3, 1) := by decide +kernel
theorem dX9_pay_48 : decode cX9_pay 48 = .ok (.ireturn, 1) := by decide +kernel
theorem dX9_undo_0 : decode cX9_undo 0 = .ok (.aload_n 0, 1) := by decide +kernel
theorem dX9_undo_1 : decode cX9_undo 1 = .ok (.getfield 93, 3) := by decide +kernel
theorem dX9_undo_4 : decode cX9_undo 4 = .ok (.ifCond .ne 6, 3) := by decide +kernel
theorem dX9_undo_7 : decode cX9_undo 7 = .ok (.bipush (-2), 2) := by decide +kernel
theorem dX9_undo_9 : decode cX9_undo 9 = .ok (.ireturn, 1) := by decide +kernel
theorem dX9_undo_10 : decode cX9_undo 10 = .ok (.aload_n 0, 1) := by decide +kernel
theorem dX9_undo_11 : decode cX9_undo 11 = .ok (.dup, 1) := by decide +kernel
theorem dX9_undo_12 : decode cX9_undo 12 = .ok (.getfield 93, 3) := by decide +kernel
theorem dX9_undo_15 : decode cX9_undo 15 = .ok (.iconst 1, 1) := by decide +kernel
theorem dX9_undo_16 : decode cX9_undo 16 = .ok (.isub, 1) := by decide +kernel
theorem dX9_undo_17 : decode cX9_undo 17 = .ok (.putfield 93, 3) := by decide +kernel
theorem dX9_undo_20 : decode cX9_undo 20 = .ok (.iconst 0, 1) := by decide +kernel
theorem dX9_undo_21 : decode cX9_undo 21 = .ok (.istore_n 1, 1) := by decide +kernel
theorem dX9_undo_22 : decode cX9_undo 22 = .ok (.iload_n 1, 1) := by decide +kernel
theorem dX9_undo_23 : decode cX9_undo 23 = .ok (.bipush 72, 2) := by decide +kernel
theorem dX9_undo_25 : decode cX9_undo 25 = .ok (.if_icmp .ge 29, 3) := by decide +kernel
theorem dX9_undo_28 : decode cX9_undo 28 = .ok (.aload_n 0, 1) := by decide +kernel
theorem dX9_undo_29 : decode cX9_undo 29 = .ok (.getfield 22, 3) := by decide +kernel
theorem dX9_undo_32 : decode cX9_undo 32 = .ok (.iload_n 1, 1) := by decide +kernel
theorem dX9_undo_33 : decode cX9_undo 33 = .ok (.aload_n 0, 1) := by decide +kernel
theorem dX9_undo_34 : decode cX9_undo 34 = .ok (.getfield 25, 3) := by decide +kernel
theorem dX9_undo_37 : decode cX9_undo 37 = .ok (.bipush 72, 2) := by decide +kernel
theorem dX9_undo_39 : decode cX9_undo 39 = .ok (.aload_n 0, 1) := by decide +kernel
theorem dX9_undo_40 : decode cX9_undo 40 = .ok (.getfield 93, 3) := by decide +kernel
theorem dX9_undo_43 : decode cX9_undo 43 = .ok (.imul, 1) := by decide +kernel
theorem dX9_undo_44 : decode cX9_undo 44 = .ok (.iload_n 1, 1) := by decide +kernel
theorem dX9_undo_45 : decode cX9_undo 45 = .ok (.iadd, 1) := by decide +kernel
theorem dX9_undo_46 : decode cX9_undo 46 = .ok (.iaload, 1) := by decide +kernel
theorem dX9_undo_47 : decode cX9_undo 47 = .ok (.iastore, 1) := by decide +kernel
theorem dX9_undo_48 : decode cX9_undo 48 = .ok (.iinc 1 1, 3) := by decide +kernel
theorem dX9_undo_51 : decode cX9_undo 51 = .ok (.goto (-29), 3) := by decide +kernel
theorem dX9_undo_54 : decode cX9_undo 54 = .ok (.aload_n 0, 1) := by decide +kernel
theorem dX9_undo_55 : decode cX9_undo 55 = .ok (.getfield 93, 3) := by decide +kernel
theorem dX9_undo_58 : decode cX9_undo 58 = .ok (.ireturn, 1) := by decide +kernel
theorem dX9_holds_0 : decode cX9_holds 0 = .ok (.iconst 0, 1) := by decide +kernel
theorem dX9_holds_1 : decode cX9_holds 1 = .ok (.istore_n 1, 1) := by decide +kernel
theorem dX9_holds_2 : decode cX9_holds 2 = .ok (.iload_n 1, 1) := by decide +kernel
theorem dX9_holds_3 : decode cX9_holds 3 = .ok (.bipush 72, 2) := by decide +kernel
theorem dX9_holds_5 : decode cX9_holds 5 = .ok (.if_icmp .ge 21, 3) := by decide +kernel
theorem dX9_holds_8 : decode cX9_holds 8 = .ok (.aload_n 0, 1) := by decide +kernel
theorem dX9_holds_9 : decode cX9_holds 9 = .ok (.getfield 37, 3) := by decide +kernel
theorem dX9_holds_12 : decode cX9_holds 12 = .ok (.iload_n 1, 1) := by decide +kernel
theorem dX9_holds_13 : decode cX9_holds 13 = .ok (.aload_n 0, 1) := by decide +kernel
theorem dX9_holds_14 : decode cX9_holds 14 = .ok (.getfield 22, 3) := by decide +kernel
theorem dX9_holds_17 : decode cX9_holds 17 = .ok (.iload_n 1, 1) := by decide +kernel
theorem dX9_holds_18 : decode cX9_holds 18 = .ok (.iaload, 1) := by decide +kernel
theorem dX9_holds_19 : decode cX9_holds 19 = .ok (.iastore, 1) := by decide +kernel
theorem dX9_holds_20 : decode cX9_holds 20 = .ok (.iinc 1 1, 3) := by decide +kernel
theorem dX9_holds_23 : decode cX9_holds 23 = .ok (.goto (-21), 3) := by decide +kernel
theorem dX9_holds_26 : decode cX9_holds 26 = .ok (.return_, 1) := by decide +kernel
theorem dX9_backs_0 : decode cX9_backs 0 = .ok (.iconst 0, 1) := by decide +kernel
theorem dX9_backs_1 : decode cX9_backs 1 = .ok (.istore_n 1, 1) := by decide +kernel
theorem dX9_backs_2 : decode cX9_backs 2 = .ok (.iload_n 1, 1) := by decide +kernel
theorem dX9_backs_3 : decode cX9_backs 3 = .ok (.bipush 72, 2) := by decide +kernel
theorem dX9_backs_5 : decode cX9_backs 5 = .ok (.if_icmp .ge 21, 3) := by decide +kernel
theorem dX9_backs_8 : decode cX9_backs 8 = .ok (.aload_n 0, 1) := by decide +kernel
theorem dX9_backs_9 : decode cX9_backs 9 = .ok (.getfield 22, 3) := by decide +kernel
theorem dX9_backs_12 : decode cX9_backs 12 = .ok (.iload_n 1, 1) := by decide +kernel
theorem dX9_backs_13 : decode cX9_backs 13 = .ok (.aload_n 0, 1) := by decide +kernel
theorem dX9_backs_14 : decode cX9_backs 14 = .ok (.getfield 37, 3) := by decide +kernel
theorem dX9_backs_17 : decode cX9_backs 17 = .ok (.iload_n 1, 1) := by decide +kernel
theorem dX9_backs_18 : decode cX9_backs 18 = .ok (.iaload, 1) := by decide +kernel
theorem dX9_backs_19 : decode cX9_backs 19 = .ok (.iastore, 1) := by decide +kernel
theorem dX9_backs_20 : decode cX9_backs 20 = .ok (.iinc 1 1, 3) := by decide +kernel
theorem dX9_backs_23 : decode cX9_backs 23 = .ok (.goto (-21), 3) := by decide +kernel
theorem dX9_backs_26 : decode cX9_backs 26 = .ok (.return_, 1) := by decide +kernel
set_option maxRecDepth 20000 in
theorem ggX9_behind_X9_in : GoodIn wsX9_behind wsX9_in := goodIn_r _ [5] (by decide +kernel) (by decide +kernel)
set_option maxRecDepth 20000 in
theorem gX9_behind_X9_in : GoodIn wsX9_behind (va_wsS RX9 56 yX9_in wsX9_in) := goodIn_app (goodIn_of _ (by decide +kernel)) ggX9_behind_X9_in
set_option maxRecDepth 20000 in
theorem ggX9_behind_X9_isOne : GoodIn wsX9_behind wsX9_isOne := goodIn_r _ [9, 10, 2, 3, 4, 5, 42, 43, 44, 45, 46, 47, 48, 49, 50, 51, 52, 53, 54, 55, 56, 57, 58] (by decide +kernel) (by decide +kernel)
set_option maxRecDepth 20000 in
theorem gX9_behind_X9_isOne : GoodIn wsX9_behind (wsV RX9 102 RX9 yX9_isOne wsX9_isOne) := goodIn_app (goodIn_of _ (by decide +kernel)) ggX9_behind_X9_isOne
set_option maxRecDepth 20000 in
theorem ggX9_behind_X9_holds : GoodIn wsX9_behind wsX9_holds := goodIn_r _ [14, 15, 16, 42, 43, 44, 45, 46, 47, 48, 49, 50, 51, 52, 53, 54, 55, 56, 57, 58] (by decide +kernel) (by decide +kernel)
set_option maxRecDepth 20000 in
theorem gX9_behind_X9_holds : GoodIn wsX9_behind (wsV RX9 143 RX9 yX9_holds wsX9_holds) := goodIn_app (goodIn_of _ (by decide +kernel)) ggX9_behind_X9_holds
set_option maxRecDepth 20000 in
theorem ggX9_behind_X9_passes : GoodIn wsX9_behind wsX9_passes := goodIn_r _ [20, 16, 21, 10, 22, 23, 24, 4, 25, 26, 27, 28, 29, 30, 31, 32, 33, 42, 43, 44, 45, 46, 47, 48, 49, 50, 51, 52, 53, 54, 55, 56, 57, 58] (by decide +kernel) (by decide +kernel)
set_option maxRecDepth 20000 in
theorem gX9_behind_X9_passes : GoodIn wsX9_behind (wsV RX9 122 RX9 yX9_passes wsX9_passes) := goodIn_app (goodIn_of _ (by decide +kernel)) ggX9_behind_X9_passes
set_option maxRecDepth 20000 in
theorem ggX9_behind_X9_placeOf : GoodIn wsX9_behind wsX9_placeOf := goodIn_r _ [25, 16, 42, 43, 44, 45, 46, 47, 48, 49, 50, 51, 52, 53, 54, 55, 56, 57, 58] (by decide +kernel) (by decide +kernel)
set_option maxRecDepth 20000 in
theorem gX9_behind_X9_placeOf : GoodIn wsX9_behind (wsV RX9 105 RX9 yX9_placeOf wsX9_placeOf) := goodIn_app (goodIn_of _ (by decide +kernel)) ggX9_behind_X9_placeOf
set_option maxRecDepth 20000 in
theorem ggX9_behind_X9_due : GoodIn wsX9_behind wsX9_due := goodIn_r _ [37, 16, 42, 43, 44, 45, 46, 47, 48, 49, 50, 51, 52, 53, 54, 55, 56, 57, 58] (by decide +kernel) (by decide +kernel)
set_option maxRecDepth 20000 in
theorem gX9_behind_X9_due : GoodIn wsX9_behind (wsV RX9 108 RX9 yX9_due wsX9_due) := goodIn_app (goodIn_of _ (by decide +kernel)) ggX9_behind_X9_due
set_option maxRecDepth 20000 in
theorem ggX9_behind_X9_backs : GoodIn wsX9_behind wsX9_backs := goodIn_r _ [41, 16, 15, 42, 43, 44, 45, 46, 47, 48, 49, 50, 51, 52, 53, 54, 55, 56, 57, 58] (by decide +kernel) (by decide +kernel)
set_option maxRecDepth 20000 in
theorem gX9_behind_X9_backs : GoodIn wsX9_behind (wsV RX9 146 RX9 yX9_backs wsX9_backs) := goodIn_app (goodIn_of _ (by decide +kernel)) ggX9_behind_X9_backs
theorem dX9_behind_0 : decode cX9_behind 0 = .ok (.iload_n 1, 1) := by decide +kernel
theorem dX9_behind_1 : decode cX9_behind 1 = .ok (.iconst 0, 1) := by decide +kernel
theorem dX9_behind_2 : decode cX9_behind 2 = .ok (.bipush 40, 2) := by decide +kernel
theorem dX9_behind_4 : decode cX9_behind 4 = .ok (.invokestatic 56, 3) := by decide +kernel
theorem dX9_behind_7 : decode cX9_behind 7 = .ok (.ifCond .eq 20, 3) := by decide +kernel
theorem dX9_behind_10 : decode cX9_behind 10 = .ok (.aload_n 0, 1) := by decide +kernel
theorem dX9_behind_11 : decode cX9_behind 11 = .ok (.iload_n 2, 1) := by decide +kernel
theorem dX9_behind_12 : decode cX9_behind 12 = .ok (.invokevirtual 102, 3) := by decide +kernel
theorem dX9_behind_15 : decode cX9_behind 15 = .ok (.ifCond .eq 12, 3) := by decide +kernel
theorem dX9_behind_18 : decode cX9_behind 18 = .ok (.iload_n 3, 1) := by decide +kernel
theorem dX9_behind_19 : decode cX9_behind 19 = .ok (.iconst 0, 1) := by decide +kernel
theorem dX9_behind_20 : decode cX9_behind 20 = .ok (.iconst 1, 1) := by decide +kernel
theorem dX9_behind_21 : decode cX9_behind 21 = .ok (.invokestatic 56, 3) := by decide +kernel
theorem dX9_behind_24 : decode cX9_behind 24 = .ok (.ifCond .ne 5, 3) := by decide +kernel
theorem dX9_behind_27 : decode cX9_behind 27 = .ok (.iconst (-1), 1) := by decide +kernel
theorem dX9_behind_28 : decode cX9_behind 28 = .ok (.ireturn, 1) := by decide +kernel
theorem dX9_behind_29 : decode cX9_behind 29 = .ok (.aload_n 0, 1) := by decide +kernel
theorem dX9_behind_30 : decode cX9_behind 30 = .ok (.invokevirtual 143, 3) := by decide +kernel
theorem dX9_behind_33 : decode cX9_behind 33 = .ok (.iconst 0, 1) := by decide +kernel
theorem dX9_behind_34 : decode cX9_behind 34 = .ok (.istore 4, 2) := by decide +kernel
theorem dX9_behind_36 : decode cX9_behind 36 = .ok (.iload 4, 2) := by decide +kernel
theorem dX9_behind_38 : decode cX9_behind 38 = .ok (.iload_n 1, 1) := by decide +kernel
