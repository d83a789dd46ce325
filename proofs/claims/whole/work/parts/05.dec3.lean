theorem dX8_write_6 : decode cX8_write 6 = .ok (.iload_n 1, 1) := by decide +kernel
theorem dX8_write_7 : decode cX8_write 7 = .ok (.bipush 126, 2) := by decide +kernel
theorem dX8_write_9 : decode cX8_write 9 = .ok (.if_icmp .le 5, 3) := by decide +kernel
theorem dX8_write_12 : decode cX8_write 12 = .ok (.iconst (-1), 1) := by decide +kernel
theorem dX8_write_13 : decode cX8_write 13 = .ok (.ireturn, 1) := by decide +kernel
theorem dX8_write_14 : decode cX8_write 14 = .ok (.aload_n 0, 1) := by decide +kernel
theorem dX8_write_15 : decode cX8_write 15 = .ok (.getfield 26, 3) := by decide +kernel
theorem dX8_write_18 : decode cX8_write 18 = .ok (.getfield 86, 3) := by decide +kernel
theorem dX8_write_21 : decode cX8_write 21 = .ok (.sipush 200, 3) := by decide +kernel
theorem dX8_write_24 : decode cX8_write 24 = .ok (.if_icmp .lt 6, 3) := by decide +kernel
theorem dX8_write_27 : decode cX8_write 27 = .ok (.bipush (-3), 2) := by decide +kernel
theorem dX8_write_29 : decode cX8_write 29 = .ok (.ireturn, 1) := by decide +kernel
theorem dX8_write_30 : decode cX8_write 30 = .ok (.aload_n 0, 1) := by decide +kernel
theorem dX8_write_31 : decode cX8_write 31 = .ok (.getfield 26, 3) := by decide +kernel
theorem dX8_write_34 : decode cX8_write 34 = .ok (.iload_n 1, 1) := by decide +kernel
theorem dX8_write_35 : decode cX8_write 35 = .ok (.invokevirtual 77, 3) := by decide +kernel
theorem dX8_write_38 : decode cX8_write 38 = .ok (.aload_n 0, 1) := by decide +kernel
theorem dX8_write_39 : decode cX8_write 39 = .ok (.getfield 26, 3) := by decide +kernel
theorem dX8_write_42 : decode cX8_write 42 = .ok (.getfield 86, 3) := by decide +kernel
theorem dX8_write_45 : decode cX8_write 45 = .ok (.ireturn, 1) := by decide +kernel
theorem dX8_wipe_0 : decode cX8_wipe 0 = .ok (.aload_n 0, 1) := by decide +kernel
theorem dX8_wipe_1 : decode cX8_wipe 1 = .ok (.getfield 26, 3) := by decide +kernel
theorem dX8_wipe_4 : decode cX8_wipe 4 = .ok (.getfield 86, 3) := by decide +kernel
theorem dX8_wipe_7 : decode cX8_wipe 7 = .ok (.istore_n 1, 1) := by decide +kernel
theorem dX8_wipe_8 : decode cX8_wipe 8 = .ok (.aload_n 0, 1) := by decide +kernel
theorem dX8_wipe_9 : decode cX8_wipe 9 = .ok (.getfield 26, 3) := by decide +kernel
theorem dX8_wipe_12 : decode cX8_wipe 12 = .ok (.iconst 0, 1) := by decide +kernel
theorem dX8_wipe_13 : decode cX8_wipe 13 = .ok (.putfield 86, 3) := by decide +kernel
theorem dX8_wipe_16 : decode cX8_wipe 16 = .ok (.iload_n 1, 1) := by decide +kernel
theorem dX8_wipe_17 : decode cX8_wipe 17 = .ok (.ireturn, 1) := by decide +kernel
set_option maxRecDepth 20000 in
theorem ggX8_fault_X5_read : GoodIn wsX8_fault wsX5_read := goodIn_r _ [6, 7, 8, 9, 10, 11, 12, 13, 14, 15, 16, 17, 18, 19, 20, 21, 22, 23, 24, 25, 26, 27, 28, 5, 29, 30, 31, 32, 33, 34, 35, 36, 37, 38, 39, 40, 41, 42, 43, 44, 45, 46, 47, 48, 49, 50, 51, 52, 53, 54, 55, 56, 57, 58, 59, 60, 61, 62, 63, 64, 65, 66, 67, 68, 69, 70, 71, 72, 73, 74, 75, 76, 77, 78, 79, 80, 81, 82, 83, 84, 85, 86, 87, 88, 89, 90, 91, 92, 93, 94, 95, 96, 105, 106, 107, 108, 109, 110, 111, 112, 113, 114, 115, 116, 117, 118, 119, 120, 121] (by decide +kernel) (by decide +kernel)
set_option maxRecDepth 20000 in
theorem gX8_fault_X5_read : GoodIn wsX8_fault (wsV RX8 80 RX5 yX5_read wsX5_read) := goodIn_app (goodIn_of _ (by decide +kernel)) ggX8_fault_X5_read
theorem dX8_fault_0 : decode cX8_fault 0 = .ok (.aload_n 0, 1) := by decide +kernel
theorem dX8_fault_1 : decode cX8_fault 1 = .ok (.getfield 26, 3) := by decide +kernel
theorem dX8_fault_4 : decode cX8_fault 4 = .ok (.invokevirtual 80, 3) := by decide +kernel
theorem dX8_fault_7 : decode cX8_fault 7 = .ok (.ireturn, 1) := by decide +kernel
set_option maxRecDepth 20000 in
theorem ggX8_lay_X5_read : GoodIn wsX8_lay wsX5_read := goodIn_r _ [14, 15, 16, 17, 18, 19, 20, 21, 22, 23, 24, 25, 26, 27, 28, 29, 30, 31, 32, 33, 34, 35, 36, 13, 37, 38, 39, 40, 41, 42, 43, 44, 45, 46, 47, 48, 49, 50, 51, 52, 53, 54, 55, 56, 57, 58, 59, 60, 61, 62, 63, 64, 65, 66, 67, 68, 69, 70, 71, 72, 73, 74, 75, 76, 77, 78, 79, 80, 81, 82, 83, 84, 85, 86, 87, 88, 89, 90, 91, 92, 93, 94, 95, 96, 97, 98, 99, 100, 101, 102, 103, 104, 141, 142, 143, 144, 145, 146, 147, 148, 149, 150, 151, 163, 164, 165, 166, 167, 168] (by decide +kernel) (by decide +kernel)
set_option maxRecDepth 20000 in
theorem gX8_lay_X5_read : GoodIn wsX8_lay (wsV RX8 80 RX5 yX5_read wsX5_read) := goodIn_app (goodIn_of _ (by decide +kernel)) ggX8_lay_X5_read
set_option maxRecDepth 20000 in
theorem ggX8_lay_X8_takeScript : GoodIn wsX8_lay wsX8_takeScript := goodIn_r _ [109, 9, 1, 2, 110, 111, 112, 113, 114, 22, 115, 84, 85, 86, 24, 25, 116, 117, 45, 118, 119, 120, 121, 122, 123, 124, 125, 126, 127, 128, 129, 29, 130, 76, 77, 131, 31, 32, 33, 132, 133, 134, 135, 136, 137, 138, 139, 140, 141, 142, 143, 144, 145, 146, 147, 148, 149, 150, 151, 163, 164, 165, 166, 167, 168] (by decide +kernel) (by decide +kernel)
set_option maxRecDepth 20000 in
theorem gX8_lay_X8_takeScript : GoodIn wsX8_lay (wsV RX8 83 RX8 yX8_takeScript wsX8_takeScript) := goodIn_app (goodIn_of _ (by decide +kernel)) ggX8_lay_X8_takeScript
theorem dX8_lay_0 : decode cX8_lay 0 = .ok (.aload_n 0, 1) := by decide +kernel
theorem dX8_lay_1 : decode cX8_lay 1 = .ok (.getfield 26, 3) := by decide +kernel
theorem dX8_lay_4 : decode cX8_lay 4 = .ok (.invokevirtual 80, 3) := by decide +kernel
theorem dX8_lay_7 : decode cX8_lay 7 = .ok (.bipush (-4), 2) := by decide +kernel
theorem dX8_lay_9 : decode cX8_lay 9 = .ok (.if_icmp .ne 16, 3) := by decide +kernel
theorem dX8_lay_12 : decode cX8_lay 12 = .ok (.aload_n 0, 1) := by decide +kernel
theorem dX8_lay_13 : decode cX8_lay 13 = .ok (.getfield 26, 3) := by decide +kernel
theorem dX8_lay_16 : decode cX8_lay 16 = .ok (.getfield 89, 3) := by decide +kernel
theorem dX8_lay_19 : decode cX8_lay 19 = .ok (.getfield 90, 3) := by decide +kernel
theorem dX8_lay_22 : decode cX8_lay 22 = .ok (.ifCond .ne 6, 3) := by decide +kernel
theorem dX8_lay_25 : decode cX8_lay 25 = .ok (.bipush (-2), 2) := by decide +kernel
theorem dX8_lay_27 : decode cX8_lay 27 = .ok (.ireturn, 1) := by decide +kernel
theorem dX8_lay_28 : decode cX8_lay 28 = .ok (.aload_n 0, 1) := by decide +kernel
theorem dX8_lay_29 : decode cX8_lay 29 = .ok (.invokevirtual 83, 3) := by decide +kernel
theorem dX8_lay_32 : decode cX8_lay 32 = .ok (.aload_n 0, 1) := by decide +kernel
theorem dX8_lay_33 : decode cX8_lay 33 = .ok (.getfield 54, 3) := by decide +kernel
theorem dX8_lay_36 : decode cX8_lay 36 = .ok (.iconst 0, 1) := by decide +kernel
theorem dX8_lay_37 : decode cX8_lay 37 = .ok (.putfield 93, 3) := by decide +kernel
theorem dX8_lay_40 : decode cX8_lay 40 = .ok (.aload_n 0, 1) := by decide +kernel
theorem dX8_lay_41 : decode cX8_lay 41 = .ok (.getfield 35, 3) := by decide +kernel
theorem dX8_lay_44 : decode cX8_lay 44 = .ok (.iconst 0, 1) := by decide +kernel
theorem dX8_lay_45 : decode cX8_lay 45 = .ok (.putfield 94, 3) := by decide +kernel
theorem dX8_lay_48 : decode cX8_lay 48 = .ok (.aload_n 0, 1) := by decide +kernel
theorem dX8_lay_49 : decode cX8_lay 49 = .ok (.getfield 39, 3) := by decide +kernel
theorem dX8_lay_52 : decode cX8_lay 52 = .ok (.iconst 0, 1) := by decide +kernel
theorem dX8_lay_53 : decode cX8_lay 53 = .ok (.putfield 94, 3) := by decide +kernel
theorem dX8_lay_56 : decode cX8_lay 56 = .ok (.aload_n 0, 1) := by decide +kernel
theorem dX8_lay_57 : decode cX8_lay 57 = .ok (.getfield 10, 3) := by decide +kernel
theorem dX8_lay_60 : decode cX8_lay 60 = .ok (.getfield 90, 3) := by decide +kernel
theorem dX8_lay_63 : decode cX8_lay 63 = .ok (.ireturn, 1) := by decide +kernel
set_option maxRecDepth 20000 in
theorem ggX8_person_X1_isPerson : GoodIn wsX8_person wsX1_isPerson := goodIn_r _ [13, 14, 44, 45, 46, 47, 48] (by decide +kernel) (by decide +kernel)
set_option maxRecDepth 20000 in
theorem gX8_person_X1_isPerson : GoodIn wsX8_person (wsV RX8 95 RX1 yX1_isPerson wsX1_isPerson) := goodIn_app (goodIn_of _ (by decide +kernel)) ggX8_person_X1_isPerson
set_option maxRecDepth 20000 in
theorem ggX8_person_X3_at : GoodIn wsX8_person wsX3_at := goodIn_r _ [18] (by decide +kernel) (by decide +kernel)
set_option maxRecDepth 20000 in
theorem gX8_person_X3_at : GoodIn wsX8_person (va_wsS RX8 103 yX3_at wsX3_at) := goodIn_app (goodIn_of _ (by decide +kernel)) ggX8_person_X3_at
set_option maxRecDepth 20000 in
theorem ggX8_person_X4_placeOf : GoodIn wsX8_person wsX4_placeOf := goodIn_r _ [23, 24, 25, 26, 16, 17, 18, 49, 50, 51, 52, 53, 54] (by decide +kernel) (by decide +kernel)
set_option maxRecDepth 20000 in
theorem gX8_person_X4_placeOf : GoodIn wsX8_person (wsV RX8 118 RX4 yX4_placeOf wsX4_placeOf) := goodIn_app (goodIn_of _ (by decide +kernel)) ggX8_person_X4_placeOf
set_option maxRecDepth 20000 in
theorem ggX8_person_X4_dueOf : GoodIn wsX8_person wsX4_dueOf := goodIn_r _ [30, 31, 32, 33, 22, 34, 35, 26, 16, 17, 18, 49, 50, 51, 52, 53, 54] (by decide +kernel) (by decide +kernel)
set_option maxRecDepth 20000 in
theorem gX8_person_X4_dueOf : GoodIn wsX8_person (wsV RX8 126 RX4 yX4_dueOf wsX4_dueOf) := goodIn_app (goodIn_of _ (by decide +kernel)) ggX8_person_X4_dueOf
theorem dX8_person_0 : decode cX8_person 0 = .ok (.aload_n 0, 1) := by decide +kernel
theorem dX8_person_1 : decode cX8_person 1 = .ok (.getfield 10, 3) := by decide +kernel
theorem dX8_person_4 : decode cX8_person 4 = .ok (.iload_n 1, 1) := by decide +kernel
theorem dX8_person_5 : decode cX8_person 5 = .ok (.invokevirtual 95, 3) := by decide +kernel
theorem dX8_person_8 : decode cX8_person 8 = .ok (.ifCond .ne 5, 3) := by decide +kernel
theorem dX8_person_11 : decode cX8_person 11 = .ok (.iconst (-1), 1) := by decide +kernel
theorem dX8_person_12 : decode cX8_person 12 = .ok (.ireturn, 1) := by decide +kernel
theorem dX8_person_13 : decode cX8_person 13 = .ok (.iload_n 2, 1) := by decide +kernel
theorem dX8_person_14 : decode cX8_person 14 = .ok (.tableswitch 123 0 6 #[42, 54, 66, 78, 90, 99, 111], 42) := by decide +kernel
theorem dX8_person_56 : decode cX8_person 56 = .ok (.aload_n 0, 1) := by decide +kernel
theorem dX8_person_57 : decode cX8_person 57 = .ok (.getfield 10, 3) := by decide +kernel
theorem dX8_person_60 : decode cX8_person 60 = .ok (.getfield 99, 3) := by decide +kernel
theorem dX8_person_63 : decode cX8_person 63 = .ok (.iload_n 1, 1) := by decide +kernel
theorem dX8_person_64 : decode cX8_person 64 = .ok (.invokestatic 103, 3) := by decide +kernel
theorem dX8_person_67 : decode cX8_person 67 = .ok (.ireturn, 1) := by decide +kernel
theorem dX8_person_68 : decode cX8_person 68 = .ok (.aload_n 0, 1) := by decide +kernel
theorem dX8_person_69 : decode cX8_person 69 = .ok (.getfield 10, 3) := by decide +kernel
theorem dX8_person_72 : decode cX8_person 72 = .ok (.getfield 109, 3) := by decide +kernel
theorem dX8_person_75 : decode cX8_person 75 = .ok (.iload_n 1, 1) := by decide +kernel
theorem dX8_person_76 : decode cX8_person 76 = .ok (.invokestatic 103, 3) := by decide +kernel
theorem dX8_person_79 : decode cX8_person 79 = .ok (.ireturn, 1) := by decide +kernel
theorem dX8_person_80 : decode cX8_person 80 = .ok (.aload_n 0, 1) := by decide +kernel
theorem dX8_person_81 : decode cX8_person 81 = .ok (.getfield 10, 3) := by decide +kernel
theorem dX8_person_84 : decode cX8_person 84 = .ok (.getfield 112, 3) := by decide +kernel
theorem dX8_person_87 : decode cX8_person 87 = .ok (.iload_n 1, 1) := by decide +kernel
theorem dX8_person_88 : decode cX8_person 88 = .ok (.invokestatic 103, 3) := by decide +kernel
theorem dX8_person_91 : decode cX8_person 91 = .ok (.ireturn, 1) := by decide +kernel
theorem dX8_person_92 : decode cX8_person 92 = .ok (.aload_n 0, 1) := by decide +kernel
theorem dX8_person_93 : decode cX8_person 93 = .ok (.getfield 19, 3) := by decide +kernel
theorem dX8_person_96 : decode cX8_person 96 = .ok (.getfield 115, 3) := by decide +kernel
theorem dX8_person_99 : decode cX8_person 99 = .ok (.iload_n 1, 1) := by decide +kernel
theorem dX8_person_100 : decode cX8_person 100 = .ok (.invokestatic 103, 3) := by decide +kernel
theorem dX8_person_103 : decode cX8_person 103 = .ok (.ireturn, 1) := by decide +kernel
theorem dX8_person_104 : decode cX8_person 104 = .ok (.aload_n 0, 1) := by decide +kernel
theorem dX8_person_105 : decode cX8_person 105 = .ok (.getfield 19, 3) := by decide +kernel
theorem dX8_person_108 : decode cX8_person 108 = .ok (.iload_n 1, 1) := by decide +kernel
theorem dX8_person_109 : decode cX8_person 109 = .ok (.invokevirtual 118, 3) := by decide +kernel
theorem dX8_person_112 : decode cX8_person 112 = .ok (.ireturn, 1) := by decide +kernel
theorem dX8_person_113 : decode cX8_person 113 = .ok (.aload_n 0, 1) := by decide +kernel
theorem dX8_person_114 : decode cX8_person 114 = .ok (.getfield 19, 3) := by decide +kernel
theorem dX8_person_117 : decode cX8_person 117 = .ok (.getfield 122, 3) := by decide +kernel
theorem dX8_person_120 : decode cX8_person 120 = .ok (.iload_n 1, 1) := by decide +kernel
theorem dX8_person_121 : decode cX8_person 121 = .ok (.invokestatic 103, 3) := by decide +kernel
theorem dX8_person_124 : decode cX8_person 124 = .ok (.ireturn, 1) := by decide +kernel
theorem dX8_person_125 : decode cX8_person 125 = .ok (.ldc 125, 2) := by decide +kernel
theorem dX8_person_127 : decode cX8_person 127 = .ok (.aload_n 0, 1) := by decide +kernel
theorem dX8_person_128 : decode cX8_person 128 = .ok (.getfield 19, 3) := by decide +kernel
theorem dX8_person_131 : decode cX8_person 131 = .ok (.iload_n 1, 1) := by decide +kernel
theorem dX8_person_132 : decode cX8_person 132 = .ok (.invokevirtual 126, 3) := by decide +kernel
theorem dX8_person_135 : decode cX8_person 135 = .ok (.iadd, 1) := by decide +kernel
theorem dX8_person_136 : decode cX8_person 136 = .ok (.ireturn, 1) := by decide +kernel
theorem dX8_person_137 : decode cX8_person 137 = .ok (.iconst (-1), 1) := by decide +kernel
theorem dX8_person_138 : decode cX8_person 138 = .ok (.ireturn, 1) := by decide +kernel
set_option maxRecDepth 20000 in
theorem ggX8_owes_X8_areTwo : GoodIn wsX8_owes wsX8_areTwo := goodIn_r _ [6, 7, 8, 9, 10, 11, 12, 13, 24, 25, 26, 27, 28, 29, 30, 31, 32, 33, 34, 35, 36] (by decide +kernel) (by decide +kernel)
set_option maxRecDepth 20000 in
theorem gX8_owes_X8_areTwo : GoodIn wsX8_owes (wsV RX8 129 RX8 yX8_areTwo wsX8_areTwo) := goodIn_app (goodIn_of _ (by decide +kernel)) ggX8_owes_X8_areTwo
set_option maxRecDepth 20000 in
theorem ggX8_owes_X4_debt : GoodIn wsX8_owes wsX4_debt := goodIn_r _ [18, 19, 20, 21, 22, 23, 37, 38, 39, 40, 41, 42] (by decide +kernel) (by decide +kernel)
set_option maxRecDepth 20000 in
theorem gX8_owes_X4_debt : GoodIn wsX8_owes (wsV RX8 133 RX4 yX4_debt wsX4_debt) := goodIn_app (goodIn_of _ (by decide +kernel)) ggX8_owes_X4_debt
theorem dX8_owes_0 : decode cX8_owes 0 = .ok (.aload_n 0, 1) := by decide +kernel
theorem dX8_owes_1 : decode cX8_owes 1 = .ok (.iload_n 1, 1) := by decide +kernel
theorem dX8_owes_2 : decode cX8_owes 2 = .ok (.iload_n 2, 1) := by decide +kernel
theorem dX8_owes_3 : decode cX8_owes 3 = .ok (.invokevirtual 129, 3) := by decide +kernel
theorem dX8_owes_6 : decode cX8_owes 6 = .ok (.ifCond .eq 15, 3) := by decide +kernel
theorem dX8_owes_9 : decode cX8_owes 9 = .ok (.aload_n 0, 1) := by decide +kernel
theorem dX8_owes_10 : decode cX8_owes 10 = .ok (.getfield 19, 3) := by decide +kernel
theorem dX8_owes_13 : decode cX8_owes 13 = .ok (.iload_n 1, 1) := by decide +kernel
theorem dX8_owes_14 : decode cX8_owes 14 = .ok (.iload_n 2, 1) := by decide +kernel
theorem dX8_owes_15 : decode cX8_owes 15 = .ok (.invokevirtual 133, 3) := by decide +kernel
theorem dX8_owes_18 : decode cX8_owes 18 = .ok (.goto 4, 3) := by decide +kernel
theorem dX8_owes_21 : decode cX8_owes 21 = .ok (.iconst (-1), 1) := by decide +kernel
theorem dX8_owes_22 : decode cX8_owes 22 = .ok (.ireturn, 1) := by decide +kernel
set_option maxRecDepth 20000 in
theorem ggX8_place_X3_at : GoodIn wsX8_place wsX3_at := goodIn_r _ [7] (by decide +kernel) (by decide +kernel)
set_option maxRecDepth 20000 in
theorem gX8_place_X3_at : GoodIn wsX8_place (va_wsS RX8 103 yX3_at wsX3_at) := goodIn_app (goodIn_of _ (by decide +kernel)) ggX8_place_X3_at
theorem dX8_place_0 : decode cX8_place 0 = .ok (.iload_n 1, 1) := by decide +kernel
theorem dX8_place_1 : decode cX8_place 1 = .ok (.ifCond .lt 9, 3) := by decide +kernel
theorem dX8_place_4 : decode cX8_place 4 = .ok (.iload_n 1, 1) := by decide +kernel
theorem dX8_place_5 : decode cX8_place 5 = .ok (.bipush 7, 2) := by decide +kernel
theorem dX8_place_7 : decode cX8_place 7 = .ok (.if_icmp .lt 5, 3) := by decide +kernel
theorem dX8_place_10 : decode cX8_place 10 = .ok (.iconst (-1), 1) := by decide +kernel
theorem dX8_place_11 : decode cX8_place 11 = .ok (.ireturn, 1) := by decide +kernel
theorem dX8_place_12 : decode cX8_place 12 = .ok (.iload_n 1, 1) := by decide +kernel
theorem dX8_place_13 : decode cX8_place 13 = .ok (.aload_n 0, 1) := by decide +kernel
theorem dX8_place_14 : decode cX8_place 14 = .ok (.getfield 19, 3) := by decide +kernel
theorem dX8_place_17 : decode cX8_place 17 = .ok (.getfield 137, 3) := by decide +kernel
theorem dX8_place_20 : decode cX8_place 20 = .ok (.if_icmp .ge 17, 3) := by decide +kernel
theorem dX8_place_23 : decode cX8_place 23 = .ok (.aload_n 0, 1) := by decide +kernel
theorem dX8_place_24 : decode cX8_place 24 = .ok (.getfield 19, 3) := by decide +kernel
theorem dX8_place_27 : decode cX8_place 27 = .ok (.getfield 138, 3) := by decide +kernel
theorem dX8_place_30 : decode cX8_place 30 = .ok (.iload_n 1, 1) := by decide +kernel
theorem dX8_place_31 : decode cX8_place 31 = .ok (.invokestatic 103, 3) := by decide +kernel
theorem dX8_place_34 : decode cX8_place 34 = .ok (.goto 5, 3) := by decide +kernel
theorem dX8_place_37 : decode cX8_place 37 = .ok (.bipush (-4), 2) := by decide +kernel
theorem dX8_place_39 : decode cX8_place 39 = .ok (.ireturn, 1) := by decide +kernel
set_option maxRecDepth 20000 in
theorem ggX8_would_X1_isPerson : GoodIn wsX8_would wsX1_isPerson := goodIn_r _ [8, 9, 48, 49, 50, 51, 52] (by decide +kernel) (by decide +kernel)
set_option maxRecDepth 20000 in
theorem gX8_would_X1_isPerson : GoodIn wsX8_would (wsV RX8 95 RX1 yX1_isPerson wsX1_isPerson) := goodIn_app (goodIn_of _ (by decide +kernel)) ggX8_would_X1_isPerson
set_option maxRecDepth 20000 in
theorem ggX8_would_X4_placeOf : GoodIn wsX8_would wsX4_placeOf := goodIn_r _ [14, 15, 16, 17, 18, 19, 20, 42, 43, 44, 45, 46, 47] (by decide +kernel) (by decide +kernel)
set_option maxRecDepth 20000 in
theorem gX8_would_X4_placeOf : GoodIn wsX8_would (wsV RX8 118 RX4 yX4_placeOf wsX4_placeOf) := goodIn_app (goodIn_of _ (by decide +kernel)) ggX8_would_X4_placeOf
set_option maxRecDepth 20000 in
theorem ggX8_would_X3_at : GoodIn wsX8_would wsX3_at := goodIn_r _ [20] (by decide +kernel) (by decide +kernel)
set_option maxRecDepth 20000 in
theorem gX8_would_X3_at : GoodIn wsX8_would (va_wsS RX8 103 yX3_at wsX3_at) := goodIn_app (goodIn_of _ (by decide +kernel)) ggX8_would_X3_at
set_option maxRecDepth 20000 in
theorem ggX8_would_X1_gain : GoodIn wsX8_would wsX1_gain := goodIn_r _ [25, 26, 27, 18, 19, 20, 48, 49, 50, 51, 52] (by decide +kernel) (by decide +kernel)
set_option maxRecDepth 20000 in
theorem gX8_would_X1_gain : GoodIn wsX8_would (wsV RX8 141 RX1 yX1_gain wsX1_gain) := goodIn_app (goodIn_of _ (by decide +kernel)) ggX8_would_X1_gain
set_option maxRecDepth 20000 in
theorem ggX8_would_X4_wantsFor : GoodIn wsX8_would wsX4_wantsFor := goodIn_r _ [31, 32, 33, 17, 18, 19, 20, 48, 49, 50, 51, 52, 42, 43, 44, 45, 46, 47] (by decide +kernel) (by decide +kernel)
set_option maxRecDepth 20000 in
theorem gX8_would_X4_wantsFor : GoodIn wsX8_would (wsV RX8 144 RX4 yX4_wantsFor wsX4_wantsFor) := goodIn_app (goodIn_of _ (by decide +kernel)) ggX8_would_X4_wantsFor
theorem dX8_would_0 : decode cX8_would 0 = .ok (.aload_n 0, 1) := by decide +kernel
theorem dX8_would_1 : decode cX8_would 1 = .ok (.getfield 10, 3) := by decide +kernel
theorem dX8_would_4 : decode cX8_would 4 = .ok (.iload_n 1, 1) := by decide +kernel
theorem dX8_would_5 : decode cX8_would 5 = .ok (.invokevirtual 95, 3) := by decide +kernel
theorem dX8_would_8 : decode cX8_would 8 = .ok (.ifCond .ne 5, 3) := by decide +kernel
theorem dX8_would_11 : decode cX8_would 11 = .ok (.iconst (-1), 1) := by decide +kernel
theorem dX8_would_12 : decode cX8_would 12 = .ok (.ireturn, 1) := by decide +kernel
theorem dX8_would_13 : decode cX8_would 13 = .ok (.aload_n 0, 1) := by decide +kernel
theorem dX8_would_14 : decode cX8_would 14 = .ok (.getfield 19, 3) := by decide +kernel
theorem dX8_would_17 : decode cX8_would 17 = .ok (.iload_n 1, 1) := by decide +kernel
theorem dX8_would_18 : decode cX8_would 18 = .ok (.invokevirtual 118, 3) := by decide +kernel
theorem dX8_would_21 : decode cX8_would 21 = .ok (.istore_n 2, 1) := by decide +kernel
theorem dX8_would_22 : decode cX8_would 22 = .ok (.iload_n 2, 1) := by decide +kernel
theorem dX8_would_23 : decode cX8_would 23 = .ok (.iconst 1, 1) := by decide +kernel
theorem dX8_would_24 : decode cX8_would 24 = .ok (.if_icmp .ge 6, 3) := by decide +kernel
theorem dX8_would_27 : decode cX8_would 27 = .ok (.bipush (-2), 2) := by decide +kernel
theorem dX8_would_29 : decode cX8_would 29 = .ok (.ireturn, 1) := by decide +kernel
theorem dX8_would_30 : decode cX8_would 30 = .ok (.aload_n 0, 1) := by decide +kernel
theorem dX8_would_31 : decode cX8_would 31 = .ok (.getfield 10, 3) := by decide +kernel
theorem dX8_would_34 : decode cX8_would 34 = .ok (.iload_n 1, 1) := by decide +kernel
theorem dX8_would_35 : decode cX8_would 35 = .ok (.aload_n 0, 1) := by decide +kernel
theorem dX8_would_36 : decode cX8_would 36 = .ok (.getfield 19, 3) := by decide +kernel
theorem dX8_would_39 : decode cX8_would 39 = .ok (.getfield 138, 3) := by decide +kernel
theorem dX8_would_42 : decode cX8_would 42 = .ok (.iload_n 2, 1) := by decide +kernel
theorem dX8_would_43 : decode cX8_would 43 = .ok (.iconst 1, 1) := by decide +kernel
theorem dX8_would_44 : decode cX8_would 44 = .ok (.isub, 1) := by decide +kernel
theorem dX8_would_45 : decode cX8_would 45 = .ok (.invokestatic 103, 3) := by decide +kernel
theorem dX8_would_48 : decode cX8_would 48 = .ok (.invokevirtual 141, 3) := by decide +kernel
theorem dX8_would_51 : decode cX8_would 51 = .ok (.istore_n 3, 1) := by decide +kernel
theorem dX8_would_52 : decode cX8_would 52 = .ok (.aload_n 0, 1) := by decide +kernel
theorem dX8_would_53 : decode cX8_would 53 = .ok (.getfield 19, 3) := by decide +kernel
theorem dX8_would_56 : decode cX8_would 56 = .ok (.aload_n 0, 1) := by decide +kernel
theorem dX8_would_57 : decode cX8_would 57 = .ok (.getfield 10, 3) := by decide +kernel
theorem dX8_would_60 : decode cX8_would 60 = .ok (.iload_n 1, 1) := by decide +kernel
theorem dX8_would_61 : decode cX8_would 61 = .ok (.iload_n 3, 1) := by decide +kernel
theorem dX8_would_62 : decode cX8_would 62 = .ok (.invokevirtual 144, 3) := by decide +kernel
theorem dX8_would_65 : decode cX8_would 65 = .ok (.ifCond .eq 7, 3) := by decide +kernel
theorem dX8_would_68 : decode cX8_would 68 = .ok (.iconst 1, 1) := by decide +kernel
theorem dX8_would_69 : decode cX8_would 69 = .ok (.goto 4, 3) := by decide +kernel
theorem dX8_would_72 : decode cX8_would 72 = .ok (.iconst 0, 1) := by decide +kernel
theorem dX8_would_73 : decode cX8_would 73 = .ok (.ireturn, 1) := by decide +kernel
set_option maxRecDepth 20000 in
theorem ggX8_pass_X6_push : GoodIn wsX8_pass wsX6_push := goodIn_r _ [9, 10, 11, 12, 13, 14, 8, 15, 16, 17, 18, 19, 20, 21, 22, 23, 24, 25, 26, 27, 28, 29, 30, 31, 32, 33, 34, 35, 36, 37, 38, 39, 40, 41, 42, 111, 112, 105, 106, 107, 108, 109, 110] (by decide +kernel) (by decide +kernel)
set_option maxRecDepth 20000 in
theorem gX8_pass_X6_push : GoodIn wsX8_pass (wsV RX8 151 RX6 yX6_push wsX6_push) := goodIn_app (goodIn_of _ (by decide +kernel)) ggX8_pass_X6_push
set_option maxRecDepth 20000 in
theorem ggX8_pass_X4_run : GoodIn wsX8_pass wsX4_run := goodIn_r _ [46, 47, 48, 49, 23, 50, 30, 29, 51, 25, 52, 53, 54, 55, 56, 57, 58, 37, 59, 60, 61, 33, 62, 63, 64, 65, 66, 67, 68, 69, 70, 71, 72, 73, 74, 75, 76, 77, 27, 78, 79, 80, 81, 28, 82, 83, 84, 85, 86, 87, 88, 89, 90, 91, 92, 26, 93, 94, 95, 96, 105, 106, 107, 108, 109, 110, 113, 114, 115, 116, 117] (by decide +kernel) (by decide +kernel)
set_option maxRecDepth 20000 in
theorem gX8_pass_X4_run : GoodIn wsX8_pass (wsV RX8 155 RX4 yX4_run wsX4_run) := goodIn_app (goodIn_of _ (by decide +kernel)) ggX8_pass_X4_run
theorem dX8_pass_0 : decode cX8_pass 0 = .ok (.iload_n 1, 1) := by decide +kernel
theorem dX8_pass_1 : decode cX8_pass 1 = .ok (.iconst 1, 1) := by decide +kernel
theorem dX8_pass_2 : decode cX8_pass 2 = .ok (.if_icmp .lt 9, 3) := by decide +kernel
theorem dX8_pass_5 : decode cX8_pass 5 = .ok (.iload_n 1, 1) := by decide +kernel
theorem dX8_pass_6 : decode cX8_pass 6 = .ok (.bipush 24, 2) := by decide +kernel
theorem dX8_pass_8 : decode cX8_pass 8 = .ok (.if_icmp .le 5, 3) := by decide +kernel
theorem dX8_pass_11 : decode cX8_pass 11 = .ok (.iconst (-1), 1) := by decide +kernel
theorem dX8_pass_12 : decode cX8_pass 12 = .ok (.ireturn, 1) := by decide +kernel
theorem dX8_pass_13 : decode cX8_pass 13 = .ok (.aload_n 0, 1) := by decide +kernel
theorem dX8_pass_14 : decode cX8_pass 14 = .ok (.getfield 19, 3) := by decide +kernel
theorem dX8_pass_17 : decode cX8_pass 17 = .ok (.getfield 148, 3) := by decide +kernel
theorem dX8_pass_20 : decode cX8_pass 20 = .ok (.iload_n 1, 1) := by decide +kernel
theorem dX8_pass_21 : decode cX8_pass 21 = .ok (.iadd, 1) := by decide +kernel
theorem dX8_pass_22 : decode cX8_pass 22 = .ok (.sipush 999, 3) := by decide +kernel
theorem dX8_pass_25 : decode cX8_pass 25 = .ok (.if_icmp .le 6, 3) := by decide +kernel
theorem dX8_pass_28 : decode cX8_pass 28 = .ok (.bipush (-2), 2) := by decide +kernel
theorem dX8_pass_30 : decode cX8_pass 30 = .ok (.ireturn, 1) := by decide +kernel
theorem dX8_pass_31 : decode cX8_pass 31 = .ok (.aload_n 0, 1) := by decide +kernel
theorem dX8_pass_32 : decode cX8_pass 32 = .ok (.getfield 35, 3) := by decide +kernel
theorem dX8_pass_35 : decode cX8_pass 35 = .ok (.aload_n 0, 1) := by decide +kernel
theorem dX8_pass_36 : decode cX8_pass 36 = .ok (.getfield 19, 3) := by decide +kernel
theorem dX8_pass_39 : decode cX8_pass 39 = .ok (.invokevirtual 151, 3) := by decide +kernel
theorem dX8_pass_42 : decode cX8_pass 42 = .ok (.aload_n 0, 1) := by decide +kernel
theorem dX8_pass_43 : decode cX8_pass 43 = .ok (.getfield 19, 3) := by decide +kernel
theorem dX8_pass_46 : decode cX8_pass 46 = .ok (.aload_n 0, 1) := by decide +kernel
theorem dX8_pass_47 : decode cX8_pass 47 = .ok (.getfield 10, 3) := by decide +kernel
theorem dX8_pass_50 : decode cX8_pass 50 = .ok (.iload_n 1, 1) := by decide +kernel
theorem dX8_pass_51 : decode cX8_pass 51 = .ok (.invokevirtual 155, 3) := by decide +kernel
theorem dX8_pass_54 : decode cX8_pass 54 = .ok (.aload_n 0, 1) := by decide +kernel
theorem dX8_pass_55 : decode cX8_pass 55 = .ok (.getfield 19, 3) := by decide +kernel
theorem dX8_pass_58 : decode cX8_pass 58 = .ok (.getfield 148, 3) := by decide +kernel
theorem dX8_pass_61 : decode cX8_pass 61 = .ok (.ireturn, 1) := by decide +kernel
set_option maxRecDepth 20000 in
theorem ggX8_let_X8_areTwo : GoodIn wsX8_let wsX8_areTwo := goodIn_r _ [7, 8, 9, 10, 11, 12, 13, 14, 80, 81, 82, 83, 84, 85, 86, 87, 88, 89, 90, 91, 92] (by decide +kernel) (by decide +kernel)
set_option maxRecDepth 20000 in
theorem gX8_let_X8_areTwo : GoodIn wsX8_let (wsV RX8 129 RX8 yX8_areTwo wsX8_areTwo) := goodIn_app (goodIn_of _ (by decide +kernel)) ggX8_let_X8_areTwo
set_option maxRecDepth 20000 in
theorem ggX8_let_X4_canLet : GoodIn wsX8_let wsX4_canLet := goodIn_r _ [19, 20, 21, 22, 18, 23, 24, 25, 26, 27, 28, 29, 93, 94, 95, 96, 97, 98] (by decide +kernel) (by decide +kernel)
set_option maxRecDepth 20000 in
theorem gX8_let_X4_canLet : GoodIn wsX8_let (wsV RX8 159 RX4 yX4_canLet wsX4_canLet) := goodIn_app (goodIn_of _ (by decide +kernel)) ggX8_let_X4_canLet
set_option maxRecDepth 20000 in
theorem ggX8_let_X6_push : GoodIn wsX8_let wsX6_push := goodIn_r _ [34, 35, 36, 37, 38, 39, 33, 40, 41, 42, 43, 44, 45, 46, 47, 18, 48, 25, 49, 50, 51, 24, 52, 53, 54, 28, 55, 56, 57, 58, 59, 60, 61, 62, 63, 99, 100, 93, 94, 95, 96, 97, 98] (by decide +kernel) (by decide +kernel)
set_option maxRecDepth 20000 in
theorem gX8_let_X6_push : GoodIn wsX8_let (wsV RX8 151 RX6 yX6_push wsX6_push) := goodIn_app (goodIn_of _ (by decide +kernel)) ggX8_let_X6_push
set_option maxRecDepth 20000 in
theorem ggX8_let_X4_letPast : GoodIn wsX8_let wsX4_letPast := goodIn_r _ [67, 20, 21, 22, 18, 23, 24, 25, 26, 27, 28, 29, 68, 69, 70, 71, 49, 72, 73, 74, 75, 76, 77, 78, 93, 94, 95, 96, 97, 98] (by decide +kernel) (by decide +kernel)
set_option maxRecDepth 20000 in
theorem gX8_let_X4_letPast : GoodIn wsX8_let (wsV RX8 162 RX4 yX4_letPast wsX4_letPast) := goodIn_app (goodIn_of _ (by decide +kernel)) ggX8_let_X4_letPast
set_option maxRecDepth 20000 in
theorem ggX8_let_X4_placeOf : GoodIn wsX8_let wsX4_placeOf := goodIn_r _ [23, 24, 25, 26, 27, 28, 29, 93, 94, 95, 96, 97, 98] (by decide +kernel) (by decide +kernel)
set_option maxRecDepth 20000 in
theorem gX8_let_X4_placeOf : GoodIn wsX8_let (wsV RX8 118 RX4 yX4_placeOf wsX4_placeOf) := goodIn_app (goodIn_of _ (by decide +kernel)) ggX8_let_X4_placeOf
theorem dX8_let_0 : decode cX8_let 0 = .ok (.aload_n 0, 1) := by decide +kernel
theorem dX8_let_1 : decode cX8_let 1 = .ok (.iload_n 1, 1) := by decide +kernel
theorem dX8_let_2 : decode cX8_let 2 = .ok (.iload_n 2, 1) := by decide +kernel
theorem dX8_let_3 : decode cX8_let 3 = .ok (.invokevirtual 129, 3) := by decide +kernel
theorem dX8_let_6 : decode cX8_let 6 = .ok (.ifCond .ne 5, 3) := by decide +kernel
theorem dX8_let_9 : decode cX8_let 9 = .ok (.iconst (-1), 1) := by decide +kernel
theorem dX8_let_10 : decode cX8_let 10 = .ok (.ireturn, 1) := by decide +kernel
theorem dX8_let_11 : decode cX8_let 11 = .ok (.aload_n 0, 1) := by decide +kernel
theorem dX8_let_12 : decode cX8_let 12 = .ok (.getfield 19, 3) := by decide +kernel
theorem dX8_let_15 : decode cX8_let 15 = .ok (.iload_n 1, 1) := by decide +kernel
theorem dX8_let_16 : decode cX8_let 16 = .ok (.iload_n 2, 1) := by decide +kernel
theorem dX8_let_17 : decode cX8_let 17 = .ok (.invokevirtual 159, 3) := by decide +kernel
theorem dX8_let_20 : decode cX8_let 20 = .ok (.ifCond .ne 6, 3) := by decide +kernel
theorem dX8_let_23 : decode cX8_let 23 = .ok (.bipush (-2), 2) := by decide +kernel
theorem dX8_let_25 : decode cX8_let 25 = .ok (.ireturn, 1) := by decide +kernel
theorem dX8_let_26 : decode cX8_let 26 = .ok (.aload_n 0, 1) := by decide +kernel
theorem dX8_let_27 : decode cX8_let 27 = .ok (.getfield 35, 3) := by decide +kernel
theorem dX8_let_30 : decode cX8_let 30 = .ok (.aload_n 0, 1) := by decide +kernel
theorem dX8_let_31 : decode cX8_let 31 = .ok (.getfield 19, 3) := by decide +kernel
theorem dX8_let_34 : decode cX8_let 34 = .ok (.invokevirtual 151, 3) := by decide +kernel
theorem dX8_let_37 : decode cX8_let 37 = .ok (.aload_n 0, 1) := by decide +kernel
theorem dX8_let_38 : decode cX8_let 38 = .ok (.getfield 19, 3) := by decide +kernel
theorem dX8_let_41 : decode cX8_let 41 = .ok (.iload_n 1, 1) := by decide +kernel
theorem dX8_let_42 : decode cX8_let 42 = .ok (.iload_n 2, 1) := by decide +kernel
theorem dX8_let_43 : decode cX8_let 43 = .ok (.invokevirtual 162, 3) := by decide +kernel
theorem dX8_let_46 : decode cX8_let 46 = .ok (.aload_n 0, 1) := by decide +kernel
theorem dX8_let_47 : decode cX8_let 47 = .ok (.getfield 19, 3) := by decide +kernel
theorem dX8_let_50 : decode cX8_let 50 = .ok (.iload_n 2, 1) := by decide +kernel
theorem dX8_let_51 : decode cX8_let 51 = .ok (.invokevirtual 118, 3) := by decide +kernel
theorem dX8_let_54 : decode cX8_let 54 = .ok (.ireturn, 1) := by decide +kernel
set_option maxRecDepth 20000 in
theorem ggX8_leave_X1_isPerson : GoodIn wsX8_leave wsX1_isPerson := goodIn_r _ [9, 10, 81, 82, 83, 84, 85] (by decide +kernel) (by decide +kernel)
set_option maxRecDepth 20000 in
theorem gX8_leave_X1_isPerson : GoodIn wsX8_leave (wsV RX8 95 RX1 yX1_isPerson wsX1_isPerson) := goodIn_app (goodIn_of _ (by decide +kernel)) ggX8_leave_X1_isPerson
set_option maxRecDepth 20000 in
theorem ggX8_leave_X4_isQueued : GoodIn wsX8_leave wsX4_isQueued := goodIn_r _ [15, 16, 17, 18, 14, 19, 20, 21, 22, 23, 24, 25, 75, 76, 77, 78, 79, 80] (by decide +kernel) (by decide +kernel)
set_option maxRecDepth 20000 in
theorem gX8_leave_X4_isQueued : GoodIn wsX8_leave (wsV RX8 166 RX4 yX4_isQueued wsX4_isQueued) := goodIn_app (goodIn_of _ (by decide +kernel)) ggX8_leave_X4_isQueued
set_option maxRecDepth 20000 in
theorem ggX8_leave_X6_push : GoodIn wsX8_leave wsX6_push := goodIn_r _ [30, 31, 32, 33, 34, 35, 29, 36, 37, 38, 39, 40, 41, 42, 43, 14, 44, 21, 45, 46, 47, 20, 48, 49, 50, 24, 51, 52, 53, 54, 55, 56, 57, 58, 59, 86, 87, 75, 76, 77, 78, 79, 80] (by decide +kernel) (by decide +kernel)
set_option maxRecDepth 20000 in
theorem gX8_leave_X6_push : GoodIn wsX8_leave (wsV RX8 151 RX6 yX6_push wsX6_push) := goodIn_app (goodIn_of _ (by decide +kernel)) ggX8_leave_X6_push
set_option maxRecDepth 20000 in
theorem ggX8_leave_X4_takeOut : GoodIn wsX8_leave wsX4_takeOut := goodIn_r _ [63, 20, 21, 45, 16, 17, 18, 14, 19, 22, 23, 24, 25, 64, 65, 66, 75, 76, 77, 78, 79, 80] (by decide +kernel) (by decide +kernel)
set_option maxRecDepth 20000 in
theorem gX8_leave_X4_takeOut : GoodIn wsX8_leave (wsV RX8 169 RX4 yX4_takeOut wsX4_takeOut) := goodIn_app (goodIn_of _ (by decide +kernel)) ggX8_leave_X4_takeOut
theorem dX8_leave_0 : decode cX8_leave 0 = .ok (.aload_n 0, 1) := by decide +kernel
theorem dX8_leave_1 : decode cX8_leave 1 = .ok (.getfield 10, 3) := by decide +kernel
theorem dX8_leave_4 : decode cX8_leave 4 = .ok (.iload_n 1, 1) := by decide +kernel
theorem dX8_leave_5 : decode cX8_leave 5 = .ok (.invokevirtual 95, 3) := by decide +kernel
theorem dX8_leave_8 : decode cX8_leave 8 = .ok (.ifCond .ne 5, 3) := by decide +kernel
theorem dX8_leave_11 : decode cX8_leave 11 = .ok (.iconst (-1), 1) := by decide +kernel
theorem dX8_leave_12 : decode cX8_leave 12 = .ok (.ireturn, 1) := by decide +kernel
theorem dX8_leave_13 : decode cX8_leave 13 = .ok (.aload_n 0, 1) := by decide +kernel
theorem dX8_leave_14 : decode cX8_leave 14 = .ok (.getfield 19, 3) := by decide +kernel
theorem dX8_leave_17 : decode cX8_leave 17 = .ok (.iload_n 1, 1) := by decide +kernel
theorem dX8_leave_18 : decode cX8_leave 18 = .ok (.invokevirtual 166, 3) := by decide +kernel
theorem dX8_leave_21 : decode cX8_leave 21 = .ok (.ifCond .ne 6, 3) := by decide +kernel
theorem dX8_leave_24 : decode cX8_leave 24 = .ok (.bipush (-2), 2) := by decide +kernel
theorem dX8_leave_26 : decode cX8_leave 26 = .ok (.ireturn, 1) := by decide +kernel
theorem dX8_leave_27 : decode cX8_leave 27 = .ok (.aload_n 0, 1) := by decide +kernel
theorem dX8_leave_28 : decode cX8_leave 28 = .ok (.getfield 35, 3) := by decide +kernel
theorem dX8_leave_31 : decode cX8_leave 31 = .ok (.aload_n 0, 1) := by decide +kernel
theorem dX8_leave_32 : decode cX8_leave 32 = .ok (.getfield 19, 3) := by decide +kernel
theorem dX8_leave_35 : decode cX8_leave 35 = .ok (.invokevirtual 151, 3) := by decide +kernel
theorem dX8_leave_38 : decode cX8_leave 38 = .ok (.aload_n 0, 1) := by decide +kernel
theorem dX8_leave_39 : decode cX8_leave 39 = .ok (.getfield 19, 3) := by decide +kernel
theorem dX8_leave_42 : decode cX8_leave 42 = .ok (.iload_n 1, 1) := by decide +kernel
theorem dX8_leave_43 : decode cX8_leave 43 = .ok (.iconst 2, 1) := by decide +kernel
theorem dX8_leave_44 : decode cX8_leave 44 = .ok (.invokevirtual 169, 3) := by decide +kernel
theorem dX8_leave_47 : decode cX8_leave 47 = .ok (.aload_n 0, 1) := by decide +kernel
theorem dX8_leave_48 : decode cX8_leave 48 = .ok (.getfield 19, 3) := by decide +kernel
theorem dX8_leave_51 : decode cX8_leave 51 = .ok (.getfield 137, 3) := by decide +kernel
theorem dX8_leave_54 : decode cX8_leave 54 = .ok (.ireturn, 1) := by decide +kernel
set_option maxRecDepth 20000 in
theorem ggX8_come_X1_isPerson : GoodIn wsX8_come wsX1_isPerson := goodIn_r _ [8, 9, 79, 80, 81, 82, 83] (by decide +kernel) (by decide +kernel)
set_option maxRecDepth 20000 in
theorem gX8_come_X1_isPerson : GoodIn wsX8_come (wsV RX8 95 RX1 yX1_isPerson wsX1_isPerson) := goodIn_app (goodIn_of _ (by decide +kernel)) ggX8_come_X1_isPerson
set_option maxRecDepth 20000 in
theorem ggX8_come_X4_isQueued : GoodIn wsX8_come wsX4_isQueued := goodIn_r _ [14, 15, 16, 17, 13, 18, 19, 20, 21, 22, 23, 24, 84, 85, 86, 87, 88, 89] (by decide +kernel) (by decide +kernel)
set_option maxRecDepth 20000 in
theorem gX8_come_X4_isQueued : GoodIn wsX8_come (wsV RX8 166 RX4 yX4_isQueued wsX4_isQueued) := goodIn_app (goodIn_of _ (by decide +kernel)) ggX8_come_X4_isQueued
set_option maxRecDepth 20000 in
theorem ggX8_come_X6_push : GoodIn wsX8_come wsX6_push := goodIn_r _ [29, 30, 31, 32, 33, 34, 28, 35, 36, 37, 38, 39, 40, 41, 42, 13, 43, 20, 44, 45, 46, 19, 47, 48, 49, 23, 50, 51, 52, 53, 54, 55, 56, 57, 58, 90, 91, 84, 85, 86, 87, 88, 89] (by decide +kernel) (by decide +kernel)
set_option maxRecDepth 20000 in
theorem gX8_come_X6_push : GoodIn wsX8_come (wsV RX8 151 RX6 yX6_push wsX6_push) := goodIn_app (goodIn_of _ (by decide +kernel)) ggX8_come_X6_push
set_option maxRecDepth 20000 in
theorem ggX8_come_X4_append : GoodIn wsX8_come wsX4_append := goodIn_r _ [62, 19, 63, 64, 65, 13, 66, 20, 44, 21, 22, 23, 24, 67, 68, 69, 84, 85, 86, 87, 88, 89] (by decide +kernel) (by decide +kernel)
set_option maxRecDepth 20000 in
theorem gX8_come_X4_append : GoodIn wsX8_come (wsV RX8 172 RX4 yX4_append wsX4_append) := goodIn_app (goodIn_of _ (by decide +kernel)) ggX8_come_X4_append
set_option maxRecDepth 20000 in
theorem ggX8_come_X4_placeOf : GoodIn wsX8_come wsX4_placeOf := goodIn_r _ [18, 19, 20, 21, 22, 23, 24, 84, 85, 86, 87, 88, 89] (by decide +kernel) (by decide +kernel)
set_option maxRecDepth 20000 in
theorem gX8_come_X4_placeOf : GoodIn wsX8_come (wsV RX8 118 RX4 yX4_placeOf wsX4_placeOf) := goodIn_app (goodIn_of _ (by decide +kernel)) ggX8_come_X4_placeOf
theorem dX8_come_0 : decode cX8_come 0 = .ok (.aload_n 0, 1) := by decide +kernel
theorem dX8_come_1 : decode cX8_come 1 = .ok (.getfield 10, 3) := by decide +kernel
theorem dX8_come_4 : decode cX8_come 4 = .ok (.iload_n 1, 1) := by decide +kernel
theorem dX8_come_5 : decode cX8_come 5 = .ok (.invokevirtual 95, 3) := by decide +kernel
theorem dX8_come_8 : decode cX8_come 8 = .ok (.ifCond .ne 5, 3) := by decide +kernel
theorem dX8_come_11 : decode cX8_come 11 = .ok (.iconst (-1), 1) := by decide +kernel
theorem dX8_come_12 : decode cX8_come 12 = .ok (.ireturn, 1) := by decide +kernel
theorem dX8_come_13 : decode cX8_come 13 = .ok (.aload_n 0, 1) := by decide +kernel
theorem dX8_come_14 : decode cX8_come 14 = .ok (.getfield 19, 3) := by decide +kernel
theorem dX8_come_17 : decode cX8_come 17 = .ok (.iload_n 1, 1) := by decide +kernel
theorem dX8_come_18 : decode cX8_come 18 = .ok (.invokevirtual 166, 3) := by decide +kernel
theorem dX8_come_21 : decode cX8_come 21 = .ok (.ifCond .eq 6, 3) := by decide +kernel
theorem dX8_come_24 : decode cX8_come 24 = .ok (.bipush (-2), 2) := by decide +kernel
theorem dX8_come_26 : decode cX8_come 26 = .ok (.ireturn, 1) := by decide +kernel
theorem dX8_come_27 : decode cX8_come 27 = .ok (.aload_n 0, 1) := by decide +kernel
theorem dX8_come_28 : decode cX8_come 28 = .ok (.getfield 35, 3) := by decide +kernel
theorem dX8_come_31 : decode cX8_come 31 = .ok (.aload_n 0, 1) := by decide +kernel
theorem dX8_come_32 : decode cX8_come 32 = .ok (.getfield 19, 3) := by decide +kernel
theorem dX8_come_35 : decode cX8_come 35 = .ok (.invokevirtual 151, 3) := by decide +kernel
theorem dX8_come_38 : decode cX8_come 38 = .ok (.aload_n 0, 1) := by decide +kernel
theorem dX8_come_39 : decode cX8_come 39 = .ok (.getfield 19, 3) := by decide +kernel
theorem dX8_come_42 : decode cX8_come 42 = .ok (.iload_n 1, 1) := by decide +kernel
theorem dX8_come_43 : decode cX8_come 43 = .ok (.invokevirtual 172, 3) := by decide +kernel
theorem dX8_come_46 : decode cX8_come 46 = .ok (.aload_n 0, 1) := by decide +kernel
theorem dX8_come_47 : decode cX8_come 47 = .ok (.getfield 19, 3) := by decide +kernel
theorem dX8_come_50 : decode cX8_come 50 = .ok (.iload_n 1, 1) := by decide +kernel
theorem dX8_come_51 : decode cX8_come 51 = .ok (.invokevirtual 118, 3) := by decide +kernel
theorem dX8_come_54 : decode cX8_come 54 = .ok (.ireturn, 1) := by decide +kernel
set_option maxRecDepth 20000 in
theorem ggX8_pay_X8_areTwo : GoodIn wsX8_pay wsX8_areTwo := goodIn_r _ [7, 8, 9, 10, 11, 12, 13, 14, 77, 78, 79, 80, 81, 82, 83, 84, 85, 86, 87, 88, 89] (by decide +kernel) (by decide +kernel)
set_option maxRecDepth 20000 in
theorem gX8_pay_X8_areTwo : GoodIn wsX8_pay (wsV RX8 129 RX8 yX8_areTwo wsX8_areTwo) := goodIn_app (goodIn_of _ (by decide +kernel)) ggX8_pay_X8_areTwo
set_option maxRecDepth 20000 in
theorem ggX8_pay_X4_payable : GoodIn wsX8_pay wsX4_payable := goodIn_r _ [19, 20, 21, 22, 23, 24, 25, 26, 27, 18, 28, 29, 30, 31, 32, 33, 90, 91, 92, 93, 94, 95] (by decide +kernel) (by decide +kernel)
set_option maxRecDepth 20000 in
theorem gX8_pay_X4_payable : GoodIn wsX8_pay (wsV RX8 175 RX4 yX4_payable wsX4_payable) := goodIn_app (goodIn_of _ (by decide +kernel)) ggX8_pay_X4_payable
set_option maxRecDepth 20000 in
theorem ggX8_pay_X6_push : GoodIn wsX8_pay wsX6_push := goodIn_r _ [38, 39, 40, 41, 42, 43, 37, 44, 45, 46, 47, 48, 49, 50, 51, 18, 52, 53, 54, 20, 29, 55, 56, 57, 58, 32, 59, 60, 22, 23, 24, 61, 62, 63, 64, 96, 97, 90, 91, 92, 93, 94, 95] (by decide +kernel) (by decide +kernel)
set_option maxRecDepth 20000 in
theorem gX8_pay_X6_push : GoodIn wsX8_pay (wsV RX8 151 RX6 yX6_push wsX6_push) := goodIn_app (goodIn_of _ (by decide +kernel)) ggX8_pay_X6_push
set_option maxRecDepth 20000 in
theorem ggX8_pay_X4_settle : GoodIn wsX8_pay wsX4_settle := goodIn_r _ [68, 20, 69, 16, 17, 18, 19, 21, 22, 23, 24, 25, 26, 27, 28, 29, 30, 31, 32, 33, 70, 71, 72, 73, 74, 75, 76, 90, 91, 92, 93, 94, 95] (by decide +kernel) (by decide +kernel)
set_option maxRecDepth 20000 in
theorem gX8_pay_X4_settle : GoodIn wsX8_pay (wsV RX8 178 RX4 yX4_settle wsX4_settle) := goodIn_app (goodIn_of _ (by decide +kernel)) ggX8_pay_X4_settle
theorem dX8_pay_0 : decode cX8_pay 0 = .ok (.aload_n 0, 1) := by decide +kernel
theorem dX8_pay_1 : decode cX8_pay 1 = .ok (.iload_n 1, 1) := by decide +kernel
theorem dX8_pay_2 : decode cX8_pay 2 = .ok (.iload_n 2, 1) := by decide +kernel
theorem dX8_pay_3 : decode cX8_pay 3 = .ok (.invokevirtual 129, 3) := by decide +kernel
theorem dX8_pay_6 : decode cX8_pay 6 = .ok (.ifCond .ne 5, 3) := by decide +kernel
theorem dX8_pay_9 : decode cX8_pay 9 = .ok (.iconst (-1), 1) := by decide +kernel
theorem dX8_pay_10 : decode cX8_pay 10 = .ok (.ireturn, 1) := by decide +kernel
theorem dX8_pay_11 : decode cX8_pay 11 = .ok (.aload_n 0, 1) := by decide +kernel
theorem dX8_pay_12 : decode cX8_pay 12 = .ok (.getfield 19, 3) := by decide +kernel
theorem dX8_pay_15 : decode cX8_pay 15 = .ok (.iload_n 1, 1) := by decide +kernel
theorem dX8_pay_16 : decode cX8_pay 16 = .ok (.iload_n 2, 1) := by decide +kernel
theorem dX8_pay_17 : decode cX8_pay 17 = .ok (.invokevirtual 175, 3) := by decide +kernel
theorem dX8_pay_20 : decode cX8_pay 20 = .ok (.istore_n 3, 1) := by decide +kernel
theorem dX8_pay_21 : decode cX8_pay 21 = .ok (.iload_n 3, 1) := by decide +kernel
theorem dX8_pay_22 : decode cX8_pay 22 = .ok (.ifCond .ne 6, 3) := by decide +kernel
theorem dX8_pay_25 : decode cX8_pay 25 = .ok (.bipush (-2), 2) := by decide +kernel
theorem dX8_pay_27 : decode cX8_pay 27 = .ok (.ireturn, 1) := by decide +kernel
theorem dX8_pay_28 : decode cX8_pay 28 = .ok (.aload_n 0, 1) := by decide +kernel
theorem dX8_pay_29 : decode cX8_pay 29 = .ok (.getfield 35, 3) := by decide +kernel
theorem dX8_pay_32 : decode cX8_pay 32 = .ok (.aload_n 0, 1) := by decide +kernel
theorem dX8_pay_33 : decode cX8_pay 33 = .ok (.getfield 19, 3) := by decide +kernel
theorem dX8_pay_36 : decode cX8_pay 36 = .ok (.invokevirtual 151, 3) := by decide +kernel
theorem dX8_pay_39 : decode cX8_pay 39 = .ok (.aload_n 0, 1) := by decide +kernel
theorem dX8_pay_40 : decode cX8_pay 40 = .ok (.getfield 19, 3) := by decide +kernel
theorem dX8_pay_43 : decode cX8_pay 43 = .ok (.iload_n 1, 1) := by decide +kernel
theorem dX8_pay_44 : decode cX8_pay 44 = .ok (.iload_n 2, 1) := by decide +kernel
theorem dX8_pay_45 : decode cX8_pay 45 = .ok (.invokevirtual 178, 3) := by decide +kernel
theorem dX8_pay_48 : decode cX8_pay 48 = .ok (.iload_n 3, 1) := by decide +kernel
theorem dX8_pay_49 : decode cX8_pay 49 = .ok (.ireturn, 1) := by decide +kernel
set_option maxRecDepth 20000 in
theorem ggX8_undo_X6_popInto : GoodIn wsX8_undo wsX6_popInto := goodIn_r _ [8, 9, 10, 11, 12, 7, 13, 14, 15, 16, 17, 18, 19, 20, 21, 22, 23, 24, 25, 26, 27, 28, 29, 30, 31, 32, 33, 34, 35, 36, 37, 46, 47, 48, 49, 50, 51, 52, 53] (by decide +kernel) (by decide +kernel)
set_option maxRecDepth 20000 in
theorem gX8_undo_X6_popInto : GoodIn wsX8_undo (wsV RX8 181 RX6 yX6_popInto wsX6_popInto) := goodIn_app (goodIn_of _ (by decide +kernel)) ggX8_undo_X6_popInto
theorem dX8_undo_0 : decode cX8_undo 0 = .ok (.aload_n 0, 1) := by decide +kernel
theorem dX8_undo_1 : decode cX8_undo 1 = .ok (.getfield 35, 3) := by decide +kernel
theorem dX8_undo_4 : decode cX8_undo 4 = .ok (.getfield 94, 3) := by decide +kernel
theorem dX8_undo_7 : decode cX8_undo 7 = .ok (.ifCond .ne 6, 3) := by decide +kernel
theorem dX8_undo_10 : decode cX8_undo 10 = .ok (.bipush (-2), 2) := by decide +kernel
theorem dX8_undo_12 : decode cX8_undo 12 = .ok (.ireturn, 1) := by decide +kernel
theorem dX8_undo_13 : decode cX8_undo 13 = .ok (.aload_n 0, 1) := by decide +kernel
theorem dX8_undo_14 : decode cX8_undo 14 = .ok (.getfield 35, 3) := by decide +kernel
theorem dX8_undo_17 : decode cX8_undo 17 = .ok (.aload_n 0, 1) := by decide +kernel
theorem dX8_undo_18 : decode cX8_undo 18 = .ok (.getfield 19, 3) := by decide +kernel
theorem dX8_undo_21 : decode cX8_undo 21 = .ok (.invokevirtual 181, 3) := by decide +kernel
theorem dX8_undo_24 : decode cX8_undo 24 = .ok (.aload_n 0, 1) := by decide +kernel
theorem dX8_undo_25 : decode cX8_undo 25 = .ok (.getfield 35, 3) := by decide +kernel
theorem dX8_undo_28 : decode cX8_undo 28 = .ok (.getfield 94, 3) := by decide +kernel
theorem dX8_undo_31 : decode cX8_undo 31 = .ok (.ireturn, 1) := by decide +kernel
set_option maxRecDepth 20000 in
theorem ggX8_behind_X1_isPerson : GoodIn wsX8_behind wsX1_isPerson := goodIn_r _ [8, 9, 111, 112, 113, 114, 115] (by decide +kernel) (by decide +kernel)
set_option maxRecDepth 20000 in
theorem gX8_behind_X1_isPerson : GoodIn wsX8_behind (wsV RX8 95 RX1 yX1_isPerson wsX1_isPerson) := goodIn_app (goodIn_of _ (by decide +kernel)) ggX8_behind_X1_isPerson
set_option maxRecDepth 20000 in
theorem ggX8_behind_X8_isNoPart : GoodIn wsX8_behind wsX8_isNoPart := goodIn_r _ [13] (by decide +kernel) (by decide +kernel)
set_option maxRecDepth 20000 in
theorem gX8_behind_X8_isNoPart : GoodIn wsX8_behind (va_wsS RX8 184 yX8_isNoPart wsX8_isNoPart) := goodIn_app (goodIn_of _ (by decide +kernel)) ggX8_behind_X8_isNoPart
set_option maxRecDepth 20000 in
theorem ggX8_behind_X2_sceneBehind : GoodIn wsX8_behind wsX2_sceneBehind := goodIn_r _ [18, 19, 20, 21, 22, 23, 24, 25, 26, 27, 28, 29, 30, 31, 32, 33, 34, 35, 36, 37, 38, 39, 40, 41, 42, 43, 44, 45, 46, 47, 48, 49, 50, 51, 52, 53, 54, 55, 56, 57, 58, 59, 60, 61, 62, 63, 64, 65, 66, 67, 68, 69, 70, 7, 71, 72, 73, 74, 75, 76, 77, 78, 79, 80, 81, 82, 83, 84, 85, 86, 87, 88, 89, 90, 91, 92, 93, 94, 95, 96, 97, 116, 117, 118, 119, 120, 121, 122, 123, 124, 125, 126, 127, 128, 129, 111, 112, 113, 114, 115] (by decide +kernel) (by decide +kernel)
set_option maxRecDepth 20000 in
theorem gX8_behind_X2_sceneBehind : GoodIn wsX8_behind (wsV RX8 187 RX2 yX2_sceneBehind wsX2_sceneBehind) := goodIn_app (goodIn_of _ (by decide +kernel)) ggX8_behind_X2_sceneBehind
set_option maxRecDepth 20000 in
theorem ggX8_behind_X4_placeOf : GoodIn wsX8_behind wsX4_placeOf := goodIn_r _ [97, 31, 27, 62, 63, 35, 64, 124, 125, 126, 127, 128, 129] (by decide +kernel) (by decide +kernel)
set_option maxRecDepth 20000 in
theorem gX8_behind_X4_placeOf : GoodIn wsX8_behind (wsV RX8 118 RX4 yX4_placeOf wsX4_placeOf) := goodIn_app (goodIn_of _ (by decide +kernel)) ggX8_behind_X4_placeOf
set_option maxRecDepth 20000 in
theorem ggX8_behind_X4_dueOf : GoodIn wsX8_behind wsX4_dueOf := goodIn_r _ [102, 79, 80, 81, 25, 82, 30, 62, 63, 35, 64, 124, 125, 126, 127, 128, 129] (by decide +kernel) (by decide +kernel)
set_option maxRecDepth 20000 in
theorem gX8_behind_X4_dueOf : GoodIn wsX8_behind (wsV RX8 126 RX4 yX4_dueOf wsX4_dueOf) := goodIn_app (goodIn_of _ (by decide +kernel)) ggX8_behind_X4_dueOf
theorem dX8_behind_0 : decode cX8_behind 0 = .ok (.iload_n 1, 1) := by decide +kernel
theorem dX8_behind_1 : decode cX8_behind 1 = .ok (.ifCond .lt 27, 3) := by decide +kernel
theorem dX8_behind_4 : decode cX8_behind 4 = .ok (.iload_n 1, 1) := by decide +kernel
theorem dX8_behind_5 : decode cX8_behind 5 = .ok (.bipush 40, 2) := by decide +kernel
theorem dX8_behind_7 : decode cX8_behind 7 = .ok (.if_icmp .gt 21, 3) := by decide +kernel
theorem dX8_behind_10 : decode cX8_behind 10 = .ok (.aload_n 0, 1) := by decide +kernel
theorem dX8_behind_11 : decode cX8_behind 11 = .ok (.getfield 10, 3) := by decide +kernel
theorem dX8_behind_14 : decode cX8_behind 14 = .ok (.iload_n 2, 1) := by decide +kernel
theorem dX8_behind_15 : decode cX8_behind 15 = .ok (.invokevirtual 95, 3) := by decide +kernel
theorem dX8_behind_18 : decode cX8_behind 18 = .ok (.ifCond .eq 10, 3) := by decide +kernel
theorem dX8_behind_21 : decode cX8_behind 21 = .ok (.iload_n 3, 1) := by decide +kernel
theorem dX8_behind_22 : decode cX8_behind 22 = .ok (.invokestatic 184, 3) := by decide +kernel
theorem dX8_behind_25 : decode cX8_behind 25 = .ok (.ifCond .eq 5, 3) := by decide +kernel
theorem dX8_behind_28 : decode cX8_behind 28 = .ok (.iconst (-1), 1) := by decide +kernel
theorem dX8_behind_29 : decode cX8_behind 29 = .ok (.ireturn, 1) := by decide +kernel
theorem dX8_behind_30 : decode cX8_behind 30 = .ok (.aload_n 0, 1) := by decide +kernel
theorem dX8_behind_31 : decode cX8_behind 31 = .ok (.getfield 47, 3) := by decide +kernel
theorem dX8_behind_34 : decode cX8_behind 34 = .ok (.iload_n 1, 1) := by decide +kernel
theorem dX8_behind_35 : decode cX8_behind 35 = .ok (.invokevirtual 187, 3) := by decide +kernel
theorem dX8_behind_38 : decode cX8_behind 38 = .ok (.astore 4, 2) := by decide +kernel
theorem dX8_behind_40 : decode cX8_behind 40 = .ok (.iload_n 3, 1) := by decide +kernel
theorem dX8_behind_41 : decode cX8_behind 41 = .ok (.ifCond .ne 12, 3) := by decide +kernel
theorem dX8_behind_44 : decode cX8_behind 44 = .ok (.aload 4, 2) := by decide +kernel
theorem dX8_behind_46 : decode cX8_behind 46 = .ok (.iload_n 2, 1) := by decide +kernel
theorem dX8_behind_47 : decode cX8_behind 47 = .ok (.invokevirtual 118, 3) := by decide +kernel
theorem dX8_behind_50 : decode cX8_behind 50 = .ok (.goto 12, 3) := by decide +kernel
theorem dX8_behind_53 : decode cX8_behind 53 = .ok (.ldc 125, 2) := by decide +kernel
theorem dX8_behind_55 : decode cX8_behind 55 = .ok (.aload 4, 2) := by decide +kernel
theorem dX8_behind_57 : decode cX8_behind 57 = .ok (.iload_n 2, 1) := by decide +kernel
theorem dX8_behind_58 : decode cX8_behind 58 = .ok (.invokevirtual 126, 3) := by decide +kernel
theorem dX8_behind_61 : decode cX8_behind 61 = .ok (.iadd, 1) := by decide +kernel
theorem dX8_behind_62 : decode cX8_behind 62 = .ok (.ireturn, 1) := by decide +kernel
set_option maxRecDepth 20000 in
theorem ggX8_served_X1_isPerson : GoodIn wsX8_served wsX1_isPerson := goodIn_r _ [8, 9, 110, 111, 112, 113, 114] (by decide +kernel) (by decide +kernel)
set_option maxRecDepth 20000 in
theorem gX8_served_X1_isPerson : GoodIn wsX8_served (wsV RX8 95 RX1 yX1_isPerson wsX1_isPerson) := goodIn_app (goodIn_of _ (by decide +kernel)) ggX8_served_X1_isPerson
set_option maxRecDepth 20000 in
theorem ggX8_served_X4_isQueued : GoodIn wsX8_served wsX4_isQueued := goodIn_r _ [14, 15, 16, 17, 13, 18, 19, 20, 21, 22, 23, 24, 115, 116, 117, 118, 119, 120] (by decide +kernel) (by decide +kernel)
set_option maxRecDepth 20000 in
theorem gX8_served_X4_isQueued : GoodIn wsX8_served (wsV RX8 166 RX4 yX4_isQueued wsX4_isQueued) := goodIn_app (goodIn_of _ (by decide +kernel)) ggX8_served_X4_isQueued
set_option maxRecDepth 20000 in
theorem ggX8_served_X2_waitOf : GoodIn wsX8_served wsX2_waitOf := goodIn_r _ [29, 30, 31, 32, 33, 34, 13, 35, 20, 36, 37, 38, 19, 39, 40, 41, 23, 42, 43, 44, 45, 46, 47, 48, 49, 50, 51, 52, 53, 28, 54, 55, 56, 57, 58, 59, 60, 61, 62, 63, 64, 65, 66, 67, 68, 21, 22, 24, 69, 70, 71, 72, 73, 74, 7, 75, 76, 77, 78, 79, 80, 81, 82, 83, 84, 85, 86, 87, 88, 89, 90, 91, 92, 93, 94, 95, 96, 97, 15, 16, 17, 18, 98, 99, 100, 101, 121, 122, 123, 124, 125, 126, 127, 128, 115, 116, 117, 118, 119, 120, 110, 111, 112, 113, 114] (by decide +kernel) (by decide +kernel)
set_option maxRecDepth 20000 in
theorem gX8_served_X2_waitOf : GoodIn wsX8_served (wsV RX8 191 RX2 yX2_waitOf wsX2_waitOf) := goodIn_app (goodIn_of _ (by decide +kernel)) ggX8_served_X2_waitOf
theorem dX8_served_0 : decode cX8_served 0 = .ok (.aload_n 0, 1) := by decide +kernel
theorem dX8_served_1 : decode cX8_served 1 = .ok (.getfield 10, 3) := by decide +kernel
theorem dX8_served_4 : decode cX8_served 4 = .ok (.iload_n 1, 1) := by decide +kernel
theorem dX8_served_5 : decode cX8_served 5 = .ok (.invokevirtual 95, 3) := by decide +kernel
theorem dX8_served_8 : decode cX8_served 8 = .ok (.ifCond .ne 5, 3) := by decide +kernel
theorem dX8_served_11 : decode cX8_served 11 = .ok (.iconst (-1), 1) := by decide +kernel
theorem dX8_served_12 : decode cX8_served 12 = .ok (.ireturn, 1) := by decide +kernel
theorem dX8_served_13 : decode cX8_served 13 = .ok (.aload_n 0, 1) := by decide +kernel
theorem dX8_served_14 : decode cX8_served 14 = .ok (.getfield 19, 3) := by decide +kernel
theorem dX8_served_17 : decode cX8_served 17 = .ok (.iload_n 1, 1) := by decide +kernel
theorem dX8_served_18 : decode cX8_served 18 = .ok (.invokevirtual 166, 3) := by decide +kernel
theorem dX8_served_21 : decode cX8_served 21 = .ok (.ifCond .ne 6, 3) := by decide +kernel
theorem dX8_served_24 : decode cX8_served 24 = .ok (.bipush (-2), 2) := by decide +kernel
theorem dX8_served_26 : decode cX8_served 26 = .ok (.ireturn, 1) := by decide +kernel
theorem dX8_served_27 : decode cX8_served 27 = .ok (.aload_n 0, 1) := by decide +kernel
theorem dX8_served_28 : decode cX8_served 28 = .ok (.getfield 47, 3) := by decide +kernel
theorem dX8_served_31 : decode cX8_served 31 = .ok (.iload_n 1, 1) := by decide +kernel
theorem dX8_served_32 : decode cX8_served 32 = .ok (.invokevirtual 191, 3) := by decide +kernel
theorem dX8_served_35 : decode cX8_served 35 = .ok (.ireturn, 1) := by decide +kernel
set_option maxRecDepth 20000 in
theorem ggX8_stand_X1_isPerson : GoodIn wsX8_stand wsX1_isPerson := goodIn_r _ [12, 13, 147, 148, 149, 150, 151] (by decide +kernel) (by decide +kernel)
set_option maxRecDepth 20000 in
theorem gX8_stand_X1_isPerson : GoodIn wsX8_stand (wsV RX8 95 RX1 yX1_isPerson wsX1_isPerson) := goodIn_app (goodIn_of _ (by decide +kernel)) ggX8_stand_X1_isPerson
set_option maxRecDepth 20000 in
theorem ggX8_stand_X8_isNoPart : GoodIn wsX8_stand wsX8_isNoPart := goodIn_r _ [17] (by decide +kernel) (by decide +kernel)
set_option maxRecDepth 20000 in
theorem gX8_stand_X8_isNoPart : GoodIn wsX8_stand (va_wsS RX8 184 yX8_isNoPart wsX8_isNoPart) := goodIn_app (goodIn_of _ (by decide +kernel)) ggX8_stand_X8_isNoPart
set_option maxRecDepth 20000 in
theorem ggX8_stand_X4_isQueued : GoodIn wsX8_stand wsX4_isQueued := goodIn_r _ [22, 23, 24, 25, 21, 26, 27, 28, 29, 30, 31, 32, 152, 153, 154, 155, 156, 157] (by decide +kernel) (by decide +kernel)
set_option maxRecDepth 20000 in
theorem gX8_stand_X4_isQueued : GoodIn wsX8_stand (wsV RX8 166 RX4 yX4_isQueued wsX4_isQueued) := goodIn_app (goodIn_of _ (by decide +kernel)) ggX8_stand_X4_isQueued
set_option maxRecDepth 20000 in
theorem ggX8_stand_X2_seekStand : GoodIn wsX8_stand wsX2_seekStand := goodIn_r _ [37, 38, 39, 40, 41, 42, 43, 44, 45, 21, 46, 28, 47, 48, 49, 27, 50, 51, 52, 31, 53, 54, 55, 56, 57, 58, 59, 60, 61, 62, 63, 64, 65, 23, 24, 25, 26, 29, 30, 32, 66, 67, 68, 69, 70, 71, 72, 73, 74, 75, 76, 77, 78, 79, 80, 81, 82, 83, 84, 85, 86, 87, 88, 89, 90, 91, 92, 93, 94, 95, 11, 96, 97, 98, 99, 100, 101, 102, 103, 104, 105, 106, 107, 108, 109, 110, 111, 112, 113, 114, 115, 116, 117, 118, 119, 120, 121, 122, 123, 36, 124, 125, 126, 127, 128, 129, 130, 139, 140, 141, 142, 143, 144, 145, 146, 152, 153, 154, 155, 156, 157, 147, 148, 149, 150, 151] (by decide +kernel) (by decide +kernel)
set_option maxRecDepth 20000 in
theorem gX8_stand_X2_seekStand : GoodIn wsX8_stand (wsV RX8 194 RX2 yX2_seekStand wsX2_seekStand) := goodIn_app (goodIn_of _ (by decide +kernel)) ggX8_stand_X2_seekStand
theorem dX8_stand_0 : decode cX8_stand 0 = .ok (.aload_n 0, 1) := by decide +kernel
theorem dX8_stand_1 : decode cX8_stand 1 = .ok (.getfield 10, 3) := by decide +kernel
theorem dX8_stand_4 : decode cX8_stand 4 = .ok (.iload_n 1, 1) := by decide +kernel
theorem dX8_stand_5 : decode cX8_stand 5 = .ok (.invokevirtual 95, 3) := by decide +kernel
theorem dX8_stand_8 : decode cX8_stand 8 = .ok (.ifCond .eq 21, 3) := by decide +kernel
theorem dX8_stand_11 : decode cX8_stand 11 = .ok (.iload_n 2, 1) := by decide +kernel
theorem dX8_stand_12 : decode cX8_stand 12 = .ok (.iconst 1, 1) := by decide +kernel
theorem dX8_stand_13 : decode cX8_stand 13 = .ok (.if_icmp .lt 16, 3) := by decide +kernel
theorem dX8_stand_16 : decode cX8_stand 16 = .ok (.iload_n 2, 1) := by decide +kernel
theorem dX8_stand_17 : decode cX8_stand 17 = .ok (.bipush 40, 2) := by decide +kernel
theorem dX8_stand_19 : decode cX8_stand 19 = .ok (.if_icmp .gt 10, 3) := by decide +kernel
theorem dX8_stand_22 : decode cX8_stand 22 = .ok (.iload_n 3, 1) := by decide +kernel
theorem dX8_stand_23 : decode cX8_stand 23 = .ok (.invokestatic 184, 3) := by decide +kernel
theorem dX8_stand_26 : decode cX8_stand 26 = .ok (.ifCond .eq 5, 3) := by decide +kernel
theorem dX8_stand_29 : decode cX8_stand 29 = .ok (.iconst (-1), 1) := by decide +kernel
theorem dX8_stand_30 : decode cX8_stand 30 = .ok (.ireturn, 1) := by decide +kernel
theorem dX8_stand_31 : decode cX8_stand 31 = .ok (.aload_n 0, 1) := by decide +kernel
theorem dX8_stand_32 : decode cX8_stand 32 = .ok (.getfield 19, 3) := by decide +kernel
theorem dX8_stand_35 : decode cX8_stand 35 = .ok (.iload_n 1, 1) := by decide +kernel
theorem dX8_stand_36 : decode cX8_stand 36 = .ok (.invokevirtual 166, 3) := by decide +kernel
theorem dX8_stand_39 : decode cX8_stand 39 = .ok (.ifCond .ne 6, 3) := by decide +kernel
theorem dX8_stand_42 : decode cX8_stand 42 = .ok (.bipush (-2), 2) := by decide +kernel
theorem dX8_stand_44 : decode cX8_stand 44 = .ok (.ireturn, 1) := by decide +kernel
theorem dX8_stand_45 : decode cX8_stand 45 = .ok (.aload_n 0, 1) := by decide +kernel
theorem dX8_stand_46 : decode cX8_stand 46 = .ok (.getfield 47, 3) := by decide +kernel
theorem dX8_stand_49 : decode cX8_stand 49 = .ok (.iload_n 1, 1) := by decide +kernel
theorem dX8_stand_50 : decode cX8_stand 50 = .ok (.iload_n 2, 1) := by decide +kernel
theorem dX8_stand_51 : decode cX8_stand 51 = .ok (.invokevirtual 194, 3) := by decide +kernel
theorem dX8_stand_54 : decode cX8_stand 54 = .ok (.aload_n 0, 1) := by decide +kernel
theorem dX8_stand_55 : decode cX8_stand 55 = .ok (.getfield 47, 3) := by decide +kernel
theorem dX8_stand_58 : decode cX8_stand 58 = .ok (.getfield 197, 3) := by decide +kernel
theorem dX8_stand_61 : decode cX8_stand 61 = .ok (.ifCond .ne 6, 3) := by decide +kernel
theorem dX8_stand_64 : decode cX8_stand 64 = .ok (.bipush (-4), 2) := by decide +kernel
theorem dX8_stand_66 : decode cX8_stand 66 = .ok (.ireturn, 1) := by decide +kernel
theorem dX8_stand_67 : decode cX8_stand 67 = .ok (.iload_n 3, 1) := by decide +kernel
theorem dX8_stand_68 : decode cX8_stand 68 = .ok (.ifCond .ne 13, 3) := by decide +kernel
theorem dX8_stand_71 : decode cX8_stand 71 = .ok (.aload_n 0, 1) := by decide +kernel
theorem dX8_stand_72 : decode cX8_stand 72 = .ok (.getfield 47, 3) := by decide +kernel
theorem dX8_stand_75 : decode cX8_stand 75 = .ok (.getfield 201, 3) := by decide +kernel
theorem dX8_stand_78 : decode cX8_stand 78 = .ok (.goto 13, 3) := by decide +kernel
theorem dX8_stand_81 : decode cX8_stand 81 = .ok (.ldc 125, 2) := by decide +kernel
theorem dX8_stand_83 : decode cX8_stand 83 = .ok (.aload_n 0, 1) := by decide +kernel
theorem dX8_stand_84 : decode cX8_stand 84 = .ok (.getfield 47, 3) := by decide +kernel
theorem dX8_stand_87 : decode cX8_stand 87 = .ok (.getfield 204, 3) := by decide +kernel
theorem dX8_stand_90 : decode cX8_stand 90 = .ok (.iadd, 1) := by decide +kernel
theorem dX8_stand_91 : decode cX8_stand 91 = .ok (.ireturn, 1) := by decide +kernel
set_option maxRecDepth 20000 in
theorem ggX8_haste_X1_isPerson : GoodIn wsX8_haste wsX1_isPerson := goodIn_r _ [11, 12, 149, 150, 151, 152, 153] (by decide +kernel) (by decide +kernel)
set_option maxRecDepth 20000 in
theorem gX8_haste_X1_isPerson : GoodIn wsX8_haste (wsV RX8 95 RX1 yX1_isPerson wsX1_isPerson) := goodIn_app (goodIn_of _ (by decide +kernel)) ggX8_haste_X1_isPerson
set_option maxRecDepth 20000 in
theorem ggX8_haste_X8_isNoPart : GoodIn wsX8_haste wsX8_isNoPart := goodIn_r _ [16] (by decide +kernel) (by decide +kernel)
set_option maxRecDepth 20000 in
theorem gX8_haste_X8_isNoPart : GoodIn wsX8_haste (va_wsS RX8 184 yX8_isNoPart wsX8_isNoPart) := goodIn_app (goodIn_of _ (by decide +kernel)) ggX8_haste_X8_isNoPart
set_option maxRecDepth 20000 in
theorem ggX8_haste_X4_isQueued : GoodIn wsX8_haste wsX4_isQueued := goodIn_r _ [21, 22, 23, 24, 20, 25, 26, 27, 28, 29, 30, 31, 154, 155, 156, 157, 158, 159] (by decide +kernel) (by decide +kernel)
set_option maxRecDepth 20000 in
theorem gX8_haste_X4_isQueued : GoodIn wsX8_haste (wsV RX8 166 RX4 yX4_isQueued wsX4_isQueued) := goodIn_app (goodIn_of _ (by decide +kernel)) ggX8_haste_X4_isQueued
set_option maxRecDepth 20000 in
theorem ggX8_haste_X2_seekHaste : GoodIn wsX8_haste wsX2_seekHaste := goodIn_r _ [36, 37, 38, 39, 40, 41, 42, 43, 44, 20, 45, 27, 46, 47, 48, 26, 49, 50, 51, 30, 52, 53, 54, 55, 56, 57, 58, 59, 60, 61, 62, 63, 35, 64, 65, 66, 67, 68, 69, 70, 71, 72, 73, 74, 75, 76, 77, 28, 29, 31, 78, 79, 80, 81, 82, 83, 10, 84, 85, 86, 87, 88, 89, 90, 91, 92, 93, 94, 95, 96, 97, 98, 99, 100, 101, 102, 103, 104, 105, 106, 22, 23, 24, 25, 107, 108, 109, 110, 111, 112, 113, 114, 115, 116, 117, 118, 119, 120, 121, 122, 123, 124, 125, 126, 127, 128, 129, 130, 131, 132, 141, 142, 143, 144, 145, 146, 147, 148, 149, 150, 151, 152, 153, 154, 155, 156, 157, 158, 159] (by decide +kernel) (by decide +kernel)
set_option maxRecDepth 20000 in
theorem gX8_haste_X2_seekHaste : GoodIn wsX8_haste (wsV RX8 207 RX2 yX2_seekHaste wsX2_seekHaste) := goodIn_app (goodIn_of _ (by decide +kernel)) ggX8_haste_X2_seekHaste
theorem dX8_haste_0 : decode cX8_haste 0 = .ok (.aload_n 0, 1) := by decide +kernel
theorem dX8_haste_1 : decode cX8_haste 1 = .ok (.getfield 10, 3) := by decide +kernel
theorem dX8_haste_4 : decode cX8_haste 4 = .ok (.iload_n 1, 1) := by decide +kernel
theorem dX8_haste_5 : decode cX8_haste 5 = .ok (.invokevirtual 95, 3) := by decide +kernel
theorem dX8_haste_8 : decode cX8_haste 8 = .ok (.ifCond .eq 10, 3) := by decide +kernel
theorem dX8_haste_11 : decode cX8_haste 11 = .ok (.iload_n 2, 1) := by decide +kernel
theorem dX8_haste_12 : decode cX8_haste 12 = .ok (.invokestatic 184, 3) := by decide +kernel
theorem dX8_haste_15 : decode cX8_haste 15 = .ok (.ifCond .eq 5, 3) := by decide +kernel
theorem dX8_haste_18 : decode cX8_haste 18 = .ok (.iconst (-1), 1) := by decide +kernel
theorem dX8_haste_19 : decode cX8_haste 19 = .ok (.ireturn, 1) := by decide +kernel
theorem dX8_haste_20 : decode cX8_haste 20 = .ok (.aload_n 0, 1) := by decide +kernel
theorem dX8_haste_21 : decode cX8_haste 21 = .ok (.getfield 19, 3) := by decide +kernel
theorem dX8_haste_24 : decode cX8_haste 24 = .ok (.iload_n 1, 1) := by decide +kernel
theorem dX8_haste_25 : decode cX8_haste 25 = .ok (.invokevirtual 166, 3) := by decide +kernel
theorem dX8_haste_28 : decode cX8_haste 28 = .ok (.ifCond .ne 6, 3) := by decide +kernel
theorem dX8_haste_31 : decode cX8_haste 31 = .ok (.bipush (-2), 2) := by decide +kernel
theorem dX8_haste_33 : decode cX8_haste 33 = .ok (.ireturn, 1) := by decide +kernel
theorem dX8_haste_34 : decode cX8_haste 34 = .ok (.aload_n 0, 1) := by decide +kernel
theorem dX8_haste_35 : decode cX8_haste 35 = .ok (.getfield 47, 3) := by decide +kernel
theorem dX8_haste_38 : decode cX8_haste 38 = .ok (.iload_n 1, 1) := by decide +kernel
theorem dX8_haste_39 : decode cX8_haste 39 = .ok (.invokevirtual 207, 3) := by decide +kernel
theorem dX8_haste_42 : decode cX8_haste 42 = .ok (.aload_n 0, 1) := by decide +kernel
theorem dX8_haste_43 : decode cX8_haste 43 = .ok (.getfield 47, 3) := by decide +kernel
theorem dX8_haste_46 : decode cX8_haste 46 = .ok (.getfield 197, 3) := by decide +kernel
theorem dX8_haste_49 : decode cX8_haste 49 = .ok (.ifCond .ne 6, 3) := by decide +kernel
theorem dX8_haste_52 : decode cX8_haste 52 = .ok (.bipush (-4), 2) := by decide +kernel
theorem dX8_haste_54 : decode cX8_haste 54 = .ok (.ireturn, 1) := by decide +kernel
theorem dX8_haste_55 : decode cX8_haste 55 = .ok (.iload_n 2, 1) := by decide +kernel
theorem dX8_haste_56 : decode cX8_haste 56 = .ok (.ifCond .ne 13, 3) := by decide +kernel
theorem dX8_haste_59 : decode cX8_haste 59 = .ok (.aload_n 0, 1) := by decide +kernel
theorem dX8_haste_60 : decode cX8_haste 60 = .ok (.getfield 47, 3) := by decide +kernel
theorem dX8_haste_63 : decode cX8_haste 63 = .ok (.getfield 201, 3) := by decide +kernel
theorem dX8_haste_66 : decode cX8_haste 66 = .ok (.goto 10, 3) := by decide +kernel
theorem dX8_haste_69 : decode cX8_haste 69 = .ok (.aload_n 0, 1) := by decide +kernel
theorem dX8_haste_70 : decode cX8_haste 70 = .ok (.getfield 47, 3) := by decide +kernel
theorem dX8_haste_73 : decode cX8_haste 73 = .ok (.getfield 204, 3) := by decide +kernel
theorem dX8_haste_76 : decode cX8_haste 76 = .ok (.ireturn, 1) := by decide +kernel
set_option maxRecDepth 20000 in
theorem ggX8_clear_X2_fewestPayments : GoodIn wsX8_clear wsX2_fewestPayments := goodIn_r _ [6, 7, 8, 9, 10, 11, 12, 13, 14, 15, 16, 17, 18, 19, 20, 21, 22, 23, 24, 25, 26, 27, 28, 29, 30, 31, 32, 5, 33, 34, 35, 36, 37, 46, 47, 48, 49, 50, 51, 52, 53, 54, 55, 56, 57, 58, 59, 60, 61, 62, 63, 64] (by decide +kernel) (by decide +kernel)
set_option maxRecDepth 20000 in
theorem gX8_clear_X2_fewestPayments : GoodIn wsX8_clear (wsV RX8 210 RX2 yX2_fewestPayments wsX2_fewestPayments) := goodIn_app (goodIn_of _ (by decide +kernel)) ggX8_clear_X2_fewestPayments
theorem dX8_clear_0 : decode cX8_clear 0 = .ok (.aload_n 0, 1) := by decide +kernel
theorem dX8_clear_1 : decode cX8_clear 1 = .ok (.getfield 47, 3) := by decide +kernel
theorem dX8_clear_4 : decode cX8_clear 4 = .ok (.invokevirtual 210, 3) := by decide +kernel
theorem dX8_clear_7 : decode cX8_clear 7 = .ok (.ireturn, 1) := by decide +kernel
set_option maxRecDepth 20000 in
theorem ggX8_miss_X8_isNoPart : GoodIn wsX8_miss wsX8_isNoPart := goodIn_r _ [9] (by decide +kernel) (by decide +kernel)
set_option maxRecDepth 20000 in
theorem gX8_miss_X8_isNoPart : GoodIn wsX8_miss (va_wsS RX8 184 yX8_isNoPart wsX8_isNoPart) := goodIn_app (goodIn_of _ (by decide +kernel)) ggX8_miss_X8_isNoPart
set_option maxRecDepth 20000 in
theorem ggX8_miss_X2_seekMiss : GoodIn wsX8_miss wsX2_seekMiss := goodIn_r _ [14, 15, 16, 17, 18, 19, 20, 21, 22, 23, 24, 25, 26, 27, 28, 29, 30, 31, 32, 33, 34, 35, 36, 37, 38, 39, 40, 41, 42, 43, 44, 45, 46, 47, 48, 49, 50, 51, 52, 53, 54, 55, 56, 57, 58, 59, 60, 61, 62, 63, 64, 65, 66, 67, 68, 69, 70, 71, 72, 73, 74, 75, 76, 77, 78, 79, 80, 81, 82, 83, 84, 85, 86, 87, 88, 89, 90, 91, 92, 93, 94, 95, 96, 97, 98, 99, 100, 101, 102, 103, 104, 13, 105, 106, 107, 108, 109, 110, 111, 112, 113, 114, 115, 116, 117, 118, 119, 120, 121, 122, 131, 132, 133, 134, 135, 136, 137, 138, 139, 140, 141, 142, 143, 144, 145, 146, 147, 148, 149] (by decide +kernel) (by decide +kernel)
set_option maxRecDepth 20000 in
theorem gX8_miss_X2_seekMiss : GoodIn wsX8_miss (wsV RX8 213 RX2 yX2_seekMiss wsX2_seekMiss) := goodIn_app (goodIn_of _ (by decide +kernel)) ggX8_miss_X2_seekMiss
theorem dX8_miss_0 : decode cX8_miss 0 = .ok (.iload_n 1, 1) := by decide +kernel
theorem dX8_miss_1 : decode cX8_miss 1 = .ok (.invokestatic 184, 3) := by decide +kernel
theorem dX8_miss_4 : decode cX8_miss 4 = .ok (.ifCond .eq 5, 3) := by decide +kernel
theorem dX8_miss_7 : decode cX8_miss 7 = .ok (.iconst (-1), 1) := by decide +kernel
theorem dX8_miss_8 : decode cX8_miss 8 = .ok (.ireturn, 1) := by decide +kernel
theorem dX8_miss_9 : decode cX8_miss 9 = .ok (.aload_n 0, 1) := by decide +kernel
theorem dX8_miss_10 : decode cX8_miss 10 = .ok (.getfield 47, 3) := by decide +kernel
theorem dX8_miss_13 : decode cX8_miss 13 = .ok (.invokevirtual 213, 3) := by decide +kernel
theorem dX8_miss_16 : decode cX8_miss 16 = .ok (.aload_n 0, 1) := by decide +kernel
theorem dX8_miss_17 : decode cX8_miss 17 = .ok (.getfield 47, 3) := by decide +kernel
theorem dX8_miss_20 : decode cX8_miss 20 = .ok (.getfield 197, 3) := by decide +kernel
theorem dX8_miss_23 : decode cX8_miss 23 = .ok (.ifCond .ne 6, 3) := by decide +kernel
theorem dX8_miss_26 : decode cX8_miss 26 = .ok (.bipush (-4), 2) := by decide +kernel
theorem dX8_miss_28 : decode cX8_miss 28 = .ok (.ireturn, 1) := by decide +kernel
theorem dX8_miss_29 : decode cX8_miss 29 = .ok (.iload_n 1, 1) := by decide +kernel
theorem dX8_miss_30 : decode cX8_miss 30 = .ok (.ifCond .ne 13, 3) := by decide +kernel
theorem dX8_miss_33 : decode cX8_miss 33 = .ok (.aload_n 0, 1) := by decide +kernel
theorem dX8_miss_34 : decode cX8_miss 34 = .ok (.getfield 47, 3) := by decide +kernel
theorem dX8_miss_37 : decode cX8_miss 37 = .ok (.getfield 201, 3) := by decide +kernel
theorem dX8_miss_40 : decode cX8_miss 40 = .ok (.goto 13, 3) := by decide +kernel
theorem dX8_miss_43 : decode cX8_miss 43 = .ok (.ldc 125, 2) := by decide +kernel
theorem dX8_miss_45 : decode cX8_miss 45 = .ok (.aload_n 0, 1) := by decide +kernel
theorem dX8_miss_46 : decode cX8_miss 46 = .ok (.getfield 47, 3) := by decide +kernel
theorem dX8_miss_49 : decode cX8_miss 49 = .ok (.getfield 204, 3) := by decide +kernel
theorem dX8_miss_52 : decode cX8_miss 52 = .ok (.iadd, 1) := by decide +kernel
theorem dX8_miss_53 : decode cX8_miss 53 = .ok (.ireturn, 1) := by decide +kernel
set_option maxRecDepth 20000 in
theorem ggX8_see_X1_isPerson : GoodIn wsX8_see wsX1_isPerson := goodIn_r _ [10, 11, 42, 43, 44, 45, 46] (by decide +kernel) (by decide +kernel)
set_option maxRecDepth 20000 in
theorem gX8_see_X1_isPerson : GoodIn wsX8_see (wsV RX8 95 RX1 yX1_isPerson wsX1_isPerson) := goodIn_app (goodIn_of _ (by decide +kernel)) ggX8_see_X1_isPerson
set_option maxRecDepth 20000 in
theorem ggX8_see_X7_add : GoodIn wsX8_see wsX7_add := goodIn_r _ [16, 17, 18, 19, 20, 21, 22, 23, 24, 33, 34, 35, 36, 37, 38, 39, 40, 41] (by decide +kernel) (by decide +kernel)
set_option maxRecDepth 20000 in
theorem gX8_see_X7_add : GoodIn wsX8_see (wsV RX8 217 RX7 yX7_add wsX7_add) := goodIn_app (goodIn_of _ (by decide +kernel)) ggX8_see_X7_add
theorem dX8_see_0 : decode cX8_see 0 = .ok (.aload_n 0, 1) := by decide +kernel
theorem dX8_see_1 : decode cX8_see 1 = .ok (.getfield 10, 3) := by decide +kernel
theorem dX8_see_4 : decode cX8_see 4 = .ok (.iload_n 1, 1) := by decide +kernel
theorem dX8_see_5 : decode cX8_see 5 = .ok (.invokevirtual 95, 3) := by decide +kernel
theorem dX8_see_8 : decode cX8_see 8 = .ok (.ifCond .eq 24, 3) := by decide +kernel
theorem dX8_see_11 : decode cX8_see 11 = .ok (.iload_n 2, 1) := by decide +kernel
theorem dX8_see_12 : decode cX8_see 12 = .ok (.iconst 1, 1) := by decide +kernel
theorem dX8_see_13 : decode cX8_see 13 = .ok (.if_icmp .lt 19, 3) := by decide +kernel
theorem dX8_see_16 : decode cX8_see 16 = .ok (.iload_n 2, 1) := by decide +kernel
theorem dX8_see_17 : decode cX8_see 17 = .ok (.bipush 20, 2) := by decide +kernel
theorem dX8_see_19 : decode cX8_see 19 = .ok (.if_icmp .gt 13, 3) := by decide +kernel
theorem dX8_see_22 : decode cX8_see 22 = .ok (.iload_n 3, 1) := by decide +kernel
theorem dX8_see_23 : decode cX8_see 23 = .ok (.ifCond .lt 9, 3) := by decide +kernel
theorem dX8_see_26 : decode cX8_see 26 = .ok (.iload_n 3, 1) := by decide +kernel
theorem dX8_see_27 : decode cX8_see 27 = .ok (.ldc 216, 2) := by decide +kernel
theorem dX8_see_29 : decode cX8_see 29 = .ok (.if_icmp .le 5, 3) := by decide +kernel
theorem dX8_see_32 : decode cX8_see 32 = .ok (.iconst (-1), 1) := by decide +kernel
theorem dX8_see_33 : decode cX8_see 33 = .ok (.ireturn, 1) := by decide +kernel
theorem dX8_see_34 : decode cX8_see 34 = .ok (.aload_n 0, 1) := by decide +kernel
theorem dX8_see_35 : decode cX8_see 35 = .ok (.getfield 54, 3) := by decide +kernel
theorem dX8_see_38 : decode cX8_see 38 = .ok (.getfield 93, 3) := by decide +kernel
theorem dX8_see_41 : decode cX8_see 41 = .ok (.bipush 6, 2) := by decide +kernel
theorem dX8_see_43 : decode cX8_see 43 = .ok (.if_icmp .lt 6, 3) := by decide +kernel
theorem dX8_see_46 : decode cX8_see 46 = .ok (.bipush (-3), 2) := by decide +kernel
theorem dX8_see_48 : decode cX8_see 48 = .ok (.ireturn, 1) := by decide +kernel
theorem dX8_see_49 : decode cX8_see 49 = .ok (.aload_n 0, 1) := by decide +kernel
theorem dX8_see_50 : decode cX8_see 50 = .ok (.getfield 54, 3) := by decide +kernel
theorem dX8_see_53 : decode cX8_see 53 = .ok (.iload_n 1, 1) := by decide +kernel
theorem dX8_see_54 : decode cX8_see 54 = .ok (.iload_n 2, 1) := by decide +kernel
theorem dX8_see_55 : decode cX8_see 55 = .ok (.iload_n 3, 1) := by decide +kernel
theorem dX8_see_56 : decode cX8_see 56 = .ok (.ldc 125, 2) := by decide +kernel
theorem dX8_see_58 : decode cX8_see 58 = .ok (.isub, 1) := by decide +kernel
theorem dX8_see_59 : decode cX8_see 59 = .ok (.invokevirtual 217, 3) := by decide +kernel
theorem dX8_see_62 : decode cX8_see 62 = .ok (.aload_n 0, 1) := by decide +kernel
theorem dX8_see_63 : decode cX8_see 63 = .ok (.getfield 54, 3) := by decide +kernel
theorem dX8_see_66 : decode cX8_see 66 = .ok (.getfield 93, 3) := by decide +kernel
theorem dX8_see_69 : decode cX8_see 69 = .ok (.ireturn, 1) := by decide +kernel
theorem dX8_forget_0 : decode cX8_forget 0 = .ok (.aload_n 0, 1) := by decide +kernel
theorem dX8_forget_1 : decode cX8_forget 1 = .ok (.getfield 54, 3) := by decide +kernel
theorem dX8_forget_4 : decode cX8_forget 4 = .ok (.getfield 93, 3) := by decide +kernel
theorem dX8_forget_7 : decode cX8_forget 7 = .ok (.istore_n 1, 1) := by decide +kernel
theorem dX8_forget_8 : decode cX8_forget 8 = .ok (.aload_n 0, 1) := by decide +kernel
theorem dX8_forget_9 : decode cX8_forget 9 = .ok (.getfield 54, 3) := by decide +kernel
theorem dX8_forget_12 : decode cX8_forget 12 = .ok (.iconst 0, 1) := by decide +kernel
theorem dX8_forget_13 : decode cX8_forget 13 = .ok (.putfield 93, 3) := by decide +kernel
theorem dX8_forget_16 : decode cX8_forget 16 = .ok (.iload_n 1, 1) := by decide +kernel
theorem dX8_forget_17 : decode cX8_forget 17 = .ok (.ireturn, 1) := by decide +kernel
set_option maxRecDepth 20000 in
theorem ggX8_orders_X7_countOrders : GoodIn wsX8_orders wsX7_countOrders := goodIn_r _ [9, 10, 11, 12, 13, 14, 15, 16, 17, 8, 18, 19, 20, 21, 22, 23, 24, 25, 26, 27, 28, 29, 30, 31, 32, 33, 34, 35, 36, 37, 38, 39, 40, 41, 42, 43, 44, 45, 46, 47, 48, 49, 50, 51, 52, 53, 54, 55, 56, 57, 58, 59, 60, 61, 62, 63, 64, 65, 66, 67, 68, 69, 70, 71, 72, 73, 74, 75, 76, 77, 78, 79, 80, 81, 82, 83, 84, 85, 86, 87, 88, 89, 90, 91, 92, 93, 94, 95, 96, 97, 98, 99, 100, 101, 102, 103, 104, 105, 106, 107, 108, 109, 110, 111, 112, 113, 114, 115, 116, 117, 118, 119, 120, 121, 122, 123, 124, 125, 126, 127, 128, 129, 130, 131, 132, 133, 149, 150, 151, 152, 153, 154, 155, 156, 157, 143, 144, 145, 146, 147, 148, 158, 159, 160, 161, 162] (by decide +kernel) (by decide +kernel)
set_option maxRecDepth 20000 in
theorem gX8_orders_X7_countOrders : GoodIn wsX8_orders (wsV RX8 220 RX7 yX7_countOrders wsX7_countOrders) := goodIn_app (goodIn_of _ (by decide +kernel)) ggX8_orders_X7_countOrders
set_option maxRecDepth 20000 in
theorem ggX8_orders_X3_at : GoodIn wsX8_orders wsX3_at := goodIn_r _ [34] (by decide +kernel) (by decide +kernel)
set_option maxRecDepth 20000 in
theorem gX8_orders_X3_at : GoodIn wsX8_orders (va_wsS RX8 103 yX3_at wsX3_at) := goodIn_app (goodIn_of _ (by decide +kernel)) ggX8_orders_X3_at
theorem dX8_orders_0 : decode cX8_orders 0 = .ok (.iload_n 1, 1) := by decide +kernel
theorem dX8_orders_1 : decode cX8_orders 1 = .ok (.iconst (-1), 1) := by decide +kernel
theorem dX8_orders_2 : decode cX8_orders 2 = .ok (.if_icmp .lt 9, 3) := by decide +kernel
theorem dX8_orders_5 : decode cX8_orders 5 = .ok (.iload_n 1, 1) := by decide +kernel
theorem dX8_orders_6 : decode cX8_orders 6 = .ok (.bipush 7, 2) := by decide +kernel
theorem dX8_orders_8 : decode cX8_orders 8 = .ok (.if_icmp .lt 5, 3) := by decide +kernel
theorem dX8_orders_11 : decode cX8_orders 11 = .ok (.iconst (-1), 1) := by decide +kernel
theorem dX8_orders_12 : decode cX8_orders 12 = .ok (.ireturn, 1) := by decide +kernel
theorem dX8_orders_13 : decode cX8_orders 13 = .ok (.iload_n 1, 1) := by decide +kernel
theorem dX8_orders_14 : decode cX8_orders 14 = .ok (.iconst (-1), 1) := by decide +kernel
theorem dX8_orders_15 : decode cX8_orders 15 = .ok (.if_icmp .ne 14, 3) := by decide +kernel
theorem dX8_orders_18 : decode cX8_orders 18 = .ok (.aload_n 0, 1) := by decide +kernel
theorem dX8_orders_19 : decode cX8_orders 19 = .ok (.getfield 54, 3) := by decide +kernel
theorem dX8_orders_22 : decode cX8_orders 22 = .ok (.sipush 5040, 3) := by decide +kernel
theorem dX8_orders_25 : decode cX8_orders 25 = .ok (.invokevirtual 220, 3) := by decide +kernel
theorem dX8_orders_28 : decode cX8_orders 28 = .ok (.ireturn, 1) := by decide +kernel
theorem dX8_orders_29 : decode cX8_orders 29 = .ok (.iload_n 1, 1) := by decide +kernel
theorem dX8_orders_30 : decode cX8_orders 30 = .ok (.aload_n 0, 1) := by decide +kernel
theorem dX8_orders_31 : decode cX8_orders 31 = .ok (.getfield 19, 3) := by decide +kernel
theorem dX8_orders_34 : decode cX8_orders 34 = .ok (.getfield 137, 3) := by decide +kernel
theorem dX8_orders_37 : decode cX8_orders 37 = .ok (.if_icmp .ge 14, 3) := by decide +kernel
theorem dX8_orders_40 : decode cX8_orders 40 = .ok (.aload_n 0, 1) := by decide +kernel
theorem dX8_orders_41 : decode cX8_orders 41 = .ok (.getfield 54, 3) := by decide +kernel
theorem dX8_orders_44 : decode cX8_orders 44 = .ok (.iconst 1, 1) := by decide +kernel
theorem dX8_orders_45 : decode cX8_orders 45 = .ok (.invokevirtual 220, 3) := by decide +kernel
theorem dX8_orders_48 : decode cX8_orders 48 = .ok (.ifCond .ne 6, 3) := by decide +kernel
theorem dX8_orders_51 : decode cX8_orders 51 = .ok (.bipush (-4), 2) := by decide +kernel
theorem dX8_orders_53 : decode cX8_orders 53 = .ok (.ireturn, 1) := by decide +kernel
theorem dX8_orders_54 : decode cX8_orders 54 = .ok (.aload_n 0, 1) := by decide +kernel
theorem dX8_orders_55 : decode cX8_orders 55 = .ok (.getfield 54, 3) := by decide +kernel
theorem dX8_orders_58 : decode cX8_orders 58 = .ok (.getfield 223, 3) := by decide +kernel
theorem dX8_orders_61 : decode cX8_orders 61 = .ok (.iload_n 1, 1) := by decide +kernel
theorem dX8_orders_62 : decode cX8_orders 62 = .ok (.invokestatic 103, 3) := by decide +kernel
theorem dX8_orders_65 : decode cX8_orders 65 = .ok (.ireturn, 1) := by decide +kernel
set_option maxRecDepth 20000 in
theorem ggX8_kinds_X1_isPerson : GoodIn wsX8_kinds wsX1_isPerson := goodIn_r _ [8, 9, 139, 140, 141, 142, 143] (by decide +kernel) (by decide +kernel)
set_option maxRecDepth 20000 in
theorem gX8_kinds_X1_isPerson : GoodIn wsX8_kinds (wsV RX8 95 RX1 yX1_isPerson wsX1_isPerson) := goodIn_app (goodIn_of _ (by decide +kernel)) ggX8_kinds_X1_isPerson
set_option maxRecDepth 20000 in
theorem ggX8_kinds_X4_isQueued : GoodIn wsX8_kinds wsX4_isQueued := goodIn_r _ [14, 15, 16, 17, 13, 18, 19, 20, 21, 22, 23, 24, 144, 145, 146, 147, 148, 149] (by decide +kernel) (by decide +kernel)
set_option maxRecDepth 20000 in
theorem gX8_kinds_X4_isQueued : GoodIn wsX8_kinds (wsV RX8 166 RX4 yX4_isQueued wsX4_isQueued) := goodIn_app (goodIn_of _ (by decide +kernel)) ggX8_kinds_X4_isQueued
set_option maxRecDepth 20000 in
theorem ggX8_kinds_X7_fittingKinds : GoodIn wsX8_kinds wsX7_fittingKinds := goodIn_r _ [29, 30, 31, 32, 33, 34, 35, 36, 37, 7, 38, 39, 40, 41, 9, 42, 43, 44, 23, 45, 46, 47, 48, 49, 50, 51, 52, 53, 54, 55, 56, 57, 58, 59, 13, 60, 20, 61, 62, 63, 19, 64, 65, 66, 67, 68, 28, 69, 70, 71, 72, 73, 74, 75, 76, 77, 78, 79, 80, 81, 82, 83, 84, 22, 24, 85, 86, 87, 88, 89, 90, 91, 92, 93, 94, 95, 21, 96, 97, 98, 99, 100, 101, 102, 103, 104, 105, 106, 107, 108, 109, 110, 111, 112, 113, 114, 115, 116, 117, 118, 119, 120, 121, 15, 16, 17, 18, 122, 123, 124, 125, 126, 127, 128, 129, 130, 150, 151, 152, 153, 154, 155, 156, 157, 158, 139, 140, 141, 142, 143, 144, 145, 146, 147, 148, 149] (by decide +kernel) (by decide +kernel)
set_option maxRecDepth 20000 in
theorem gX8_kinds_X7_fittingKinds : GoodIn wsX8_kinds (wsV RX8 226 RX7 yX7_fittingKinds wsX7_fittingKinds) := goodIn_app (goodIn_of _ (by decide +kernel)) ggX8_kinds_X7_fittingKinds
theorem dX8_kinds_0 : decode cX8_kinds 0 = .ok (.aload_n 0, 1) := by decide +kernel
theorem dX8_kinds_1 : decode cX8_kinds 1 = .ok (.getfield 10, 3) := by decide +kernel
theorem dX8_kinds_4 : decode cX8_kinds 4 = .ok (.iload_n 1, 1) := by decide +kernel
theorem dX8_kinds_5 : decode cX8_kinds 5 = .ok (.invokevirtual 95, 3) := by decide +kernel
theorem dX8_kinds_8 : decode cX8_kinds 8 = .ok (.ifCond .ne 5, 3) := by decide +kernel
theorem dX8_kinds_11 : decode cX8_kinds 11 = .ok (.iconst (-1), 1) := by decide +kernel
theorem dX8_kinds_12 : decode cX8_kinds 12 = .ok (.ireturn, 1) := by decide +kernel
theorem dX8_kinds_13 : decode cX8_kinds 13 = .ok (.aload_n 0, 1) := by decide +kernel
theorem dX8_kinds_14 : decode cX8_kinds 14 = .ok (.getfield 19, 3) := by decide +kernel
theorem dX8_kinds_17 : decode cX8_kinds 17 = .ok (.iload_n 1, 1) := by decide +kernel
theorem dX8_kinds_18 : decode cX8_kinds 18 = .ok (.invokevirtual 166, 3) := by decide +kernel
theorem dX8_kinds_21 : decode cX8_kinds 21 = .ok (.ifCond .ne 6, 3) := by decide +kernel
theorem dX8_kinds_24 : decode cX8_kinds 24 = .ok (.bipush (-2), 2) := by decide +kernel
theorem dX8_kinds_26 : decode cX8_kinds 26 = .ok (.ireturn, 1) := by decide +kernel
theorem dX8_kinds_27 : decode cX8_kinds 27 = .ok (.aload_n 0, 1) := by decide +kernel
theorem dX8_kinds_28 : decode cX8_kinds 28 = .ok (.getfield 54, 3) := by decide +kernel
theorem dX8_kinds_31 : decode cX8_kinds 31 = .ok (.iload_n 1, 1) := by decide +kernel
theorem dX8_kinds_32 : decode cX8_kinds 32 = .ok (.invokevirtual 226, 3) := by decide +kernel
theorem dX8_kinds_35 : decode cX8_kinds 35 = .ok (.ireturn, 1) := by decide +kernel
set_option maxRecDepth 20000 in
theorem ggX8_rain_X1_isPerson : GoodIn wsX8_rain wsX1_isPerson := goodIn_r _ [9, 10, 124, 125, 126, 127, 128] (by decide +kernel) (by decide +kernel)
set_option maxRecDepth 20000 in
theorem gX8_rain_X1_isPerson : GoodIn wsX8_rain (wsV RX8 95 RX1 yX1_isPerson wsX1_isPerson) := goodIn_app (goodIn_of _ (by decide +kernel)) ggX8_rain_X1_isPerson
set_option maxRecDepth 20000 in
theorem ggX8_rain_X8_isNoPart : GoodIn wsX8_rain wsX8_isNoPart := goodIn_r _ [14] (by decide +kernel) (by decide +kernel)
set_option maxRecDepth 20000 in
theorem gX8_rain_X8_isNoPart : GoodIn wsX8_rain (va_wsS RX8 184 yX8_isNoPart wsX8_isNoPart) := goodIn_app (goodIn_of _ (by decide +kernel)) ggX8_rain_X8_isNoPart
set_option maxRecDepth 20000 in
theorem ggX8_rain_X0_seekServed : GoodIn wsX8_rain wsX0_seekServed := goodIn_r _ [19, 20, 21, 22, 23, 18, 24, 25, 26, 27, 28, 29, 30, 31, 32, 33, 34, 35, 36, 37, 38, 39, 40, 41, 42, 43, 44, 45, 46, 47, 48, 49, 50, 51, 52, 53, 54, 55, 56, 57, 58, 59, 60, 61, 62, 63, 64, 65, 66, 67, 68, 69, 70, 71, 72, 73, 74, 75, 76, 8, 77, 78, 79, 80, 81, 82, 83, 84, 85, 86, 87, 88, 89, 90, 91, 92, 93, 94, 95, 96, 97, 98, 99, 100, 101, 102, 103, 104, 105, 106, 107, 108, 109, 110, 119, 120, 121, 122, 123, 129, 130, 131, 132, 133, 134, 124, 125, 126, 127, 128] (by decide +kernel) (by decide +kernel)
set_option maxRecDepth 20000 in
theorem gX8_rain_X0_seekServed : GoodIn wsX8_rain (wsV RX8 229 RX0 yX0_seekServed wsX0_seekServed) := goodIn_app (goodIn_of _ (by decide +kernel)) ggX8_rain_X0_seekServed
theorem dX8_rain_0 : decode cX8_rain 0 = .ok (.aload_n 0, 1) := by decide +kernel
theorem dX8_rain_1 : decode cX8_rain 1 = .ok (.getfield 10, 3) := by decide +kernel
theorem dX8_rain_4 : decode cX8_rain 4 = .ok (.iload_n 1, 1) := by decide +kernel
theorem dX8_rain_5 : decode cX8_rain 5 = .ok (.invokevirtual 95, 3) := by decide +kernel
theorem dX8_rain_8 : decode cX8_rain 8 = .ok (.ifCond .eq 31, 3) := by decide +kernel
theorem dX8_rain_11 : decode cX8_rain 11 = .ok (.iload_n 2, 1) := by decide +kernel
theorem dX8_rain_12 : decode cX8_rain 12 = .ok (.ifCond .lt 27, 3) := by decide +kernel
theorem dX8_rain_15 : decode cX8_rain 15 = .ok (.iload_n 2, 1) := by decide +kernel
theorem dX8_rain_16 : decode cX8_rain 16 = .ok (.bipush 8, 2) := by decide +kernel
theorem dX8_rain_18 : decode cX8_rain 18 = .ok (.if_icmp .gt 21, 3) := by decide +kernel
theorem dX8_rain_21 : decode cX8_rain 21 = .ok (.iload_n 3, 1) := by decide +kernel
theorem dX8_rain_22 : decode cX8_rain 22 = .ok (.ifCond .lt 17, 3) := by decide +kernel
theorem dX8_rain_25 : decode cX8_rain 25 = .ok (.iload_n 3, 1) := by decide +kernel
theorem dX8_rain_26 : decode cX8_rain 26 = .ok (.bipush 10, 2) := by decide +kernel
theorem dX8_rain_28 : decode cX8_rain 28 = .ok (.if_icmp .gt 11, 3) := by decide +kernel
theorem dX8_rain_31 : decode cX8_rain 31 = .ok (.iload 4, 2) := by decide +kernel
theorem dX8_rain_33 : decode cX8_rain 33 = .ok (.invokestatic 184, 3) := by decide +kernel
theorem dX8_rain_36 : decode cX8_rain 36 = .ok (.ifCond .eq 5, 3) := by decide +kernel
theorem dX8_rain_39 : decode cX8_rain 39 = .ok (.iconst (-1), 1) := by decide +kernel
theorem dX8_rain_40 : decode cX8_rain 40 = .ok (.ireturn, 1) := by decide +kernel
theorem dX8_rain_41 : decode cX8_rain 41 = .ok (.aload_n 0, 1) := by decide +kernel
theorem dX8_rain_42 : decode cX8_rain 42 = .ok (.getfield 61, 3) := by decide +kernel
theorem dX8_rain_45 : decode cX8_rain 45 = .ok (.iload_n 1, 1) := by decide +kernel
theorem dX8_rain_46 : decode cX8_rain 46 = .ok (.iload_n 2, 1) := by decide +kernel
theorem dX8_rain_47 : decode cX8_rain 47 = .ok (.iload_n 3, 1) := by decide +kernel
theorem dX8_rain_48 : decode cX8_rain 48 = .ok (.invokevirtual 229, 3) := by decide +kernel
theorem dX8_rain_51 : decode cX8_rain 51 = .ok (.iload 4, 2) := by decide +kernel
theorem dX8_rain_53 : decode cX8_rain 53 = .ok (.ifCond .ne 13, 3) := by decide +kernel
theorem dX8_rain_56 : decode cX8_rain 56 = .ok (.aload_n 0, 1) := by decide +kernel
theorem dX8_rain_57 : decode cX8_rain 57 = .ok (.getfield 61, 3) := by decide +kernel
theorem dX8_rain_60 : decode cX8_rain 60 = .ok (.getfield 232, 3) := by decide +kernel
theorem dX8_rain_63 : decode cX8_rain 63 = .ok (.goto 10, 3) := by decide +kernel
theorem dX8_rain_66 : decode cX8_rain 66 = .ok (.aload_n 0, 1) := by decide +kernel
theorem dX8_rain_67 : decode cX8_rain 67 = .ok (.getfield 61, 3) := by decide +kernel
theorem dX8_rain_70 : decode cX8_rain 70 = .ok (.getfield 235, 3) := by decide +kernel
theorem dX8_rain_73 : decode cX8_rain 73 = .ok (.ireturn, 1) := by decide +kernel
set_option maxRecDepth 20000 in
theorem ggX8_day_X8_isNoPart : GoodIn wsX8_day wsX8_isNoPart := goodIn_r _ [6] (by decide +kernel) (by decide +kernel)
set_option maxRecDepth 20000 in
theorem gX8_day_X8_isNoPart : GoodIn wsX8_day (va_wsS RX8 184 yX8_isNoPart wsX8_isNoPart) := goodIn_app (goodIn_of _ (by decide +kernel)) ggX8_day_X8_isNoPart
set_option maxRecDepth 20000 in
theorem ggX8_day_X0_sceneBehindDay : GoodIn wsX8_day wsX0_sceneBehindDay := goodIn_r _ [11, 12, 13, 14, 15, 16, 17, 18, 19, 20, 21, 22, 23, 24, 25, 26, 27, 28, 29, 30, 31, 32, 33, 34, 35, 36, 37, 38, 39, 10, 40, 41, 42, 43, 44, 45, 46, 47, 48, 49, 50, 51, 52, 53, 54, 55, 56, 57, 58, 59, 60, 61, 62, 63, 64, 65, 66, 67, 68, 69, 70, 71, 72, 73, 74, 75, 76, 77, 78, 79, 80, 81, 82, 83, 84, 85, 86, 87, 88, 89, 90, 91, 92, 93, 94, 95, 96, 97, 98, 99, 100, 101, 102, 103, 104, 105, 106, 107, 108, 109, 110, 111, 112, 113, 114, 115, 116, 117, 118, 119, 120, 121, 122, 123, 124, 125, 126, 127, 146, 147, 148, 149, 150, 140, 141, 142, 143, 144, 145, 151, 152, 153, 154, 155] (by decide +kernel) (by decide +kernel)
set_option maxRecDepth 20000 in
theorem gX8_day_X0_sceneBehindDay : GoodIn wsX8_day (wsV RX8 238 RX0 yX0_sceneBehindDay wsX0_sceneBehindDay) := goodIn_app (goodIn_of _ (by decide +kernel)) ggX8_day_X0_sceneBehindDay
set_option maxRecDepth 20000 in
theorem ggX8_day_X4_owedInAll : GoodIn wsX8_day wsX4_owedInAll := goodIn_r _ [131, 23, 140, 141, 142, 143, 144, 145] (by decide +kernel) (by decide +kernel)
set_option maxRecDepth 20000 in
theorem gX8_day_X4_owedInAll : GoodIn wsX8_day (wsV RX8 242 RX4 yX4_owedInAll wsX4_owedInAll) := goodIn_app (goodIn_of _ (by decide +kernel)) ggX8_day_X4_owedInAll
theorem dX8_day_0 : decode cX8_day 0 = .ok (.iload_n 1, 1) := by decide +kernel
theorem dX8_day_1 : decode cX8_day 1 = .ok (.ifCond .lt 28, 3) := by decide +kernel
theorem dX8_day_4 : decode cX8_day 4 = .ok (.iload_n 1, 1) := by decide +kernel
theorem dX8_day_5 : decode cX8_day 5 = .ok (.sipush 9999, 3) := by decide +kernel
theorem dX8_day_8 : decode cX8_day 8 = .ok (.if_icmp .gt 21, 3) := by decide +kernel
theorem dX8_day_11 : decode cX8_day 11 = .ok (.iload_n 2, 1) := by decide +kernel
theorem dX8_day_12 : decode cX8_day 12 = .ok (.iconst 1, 1) := by decide +kernel
theorem dX8_day_13 : decode cX8_day 13 = .ok (.if_icmp .lt 16, 3) := by decide +kernel
theorem dX8_day_16 : decode cX8_day 16 = .ok (.iload_n 2, 1) := by decide +kernel
theorem dX8_day_17 : decode cX8_day 17 = .ok (.bipush 60, 2) := by decide +kernel
theorem dX8_day_19 : decode cX8_day 19 = .ok (.if_icmp .gt 10, 3) := by decide +kernel
theorem dX8_day_22 : decode cX8_day 22 = .ok (.iload_n 3, 1) := by decide +kernel
theorem dX8_day_23 : decode cX8_day 23 = .ok (.invokestatic 184, 3) := by decide +kernel
theorem dX8_day_26 : decode cX8_day 26 = .ok (.ifCond .eq 5, 3) := by decide +kernel
theorem dX8_day_29 : decode cX8_day 29 = .ok (.iconst (-1), 1) := by decide +kernel
theorem dX8_day_30 : decode cX8_day 30 = .ok (.ireturn, 1) := by decide +kernel
theorem dX8_day_31 : decode cX8_day 31 = .ok (.aload_n 0, 1) := by decide +kernel
theorem dX8_day_32 : decode cX8_day 32 = .ok (.getfield 61, 3) := by decide +kernel
theorem dX8_day_35 : decode cX8_day 35 = .ok (.iload_n 1, 1) := by decide +kernel
theorem dX8_day_36 : decode cX8_day 36 = .ok (.iload_n 2, 1) := by decide +kernel
theorem dX8_day_37 : decode cX8_day 37 = .ok (.invokevirtual 238, 3) := by decide +kernel
theorem dX8_day_40 : decode cX8_day 40 = .ok (.astore 4, 2) := by decide +kernel
theorem dX8_day_42 : decode cX8_day 42 = .ok (.iload_n 3, 1) := by decide +kernel
theorem dX8_day_43 : decode cX8_day 43 = .ok (.ifCond .ne 11, 3) := by decide +kernel
theorem dX8_day_46 : decode cX8_day 46 = .ok (.aload 4, 2) := by decide +kernel
theorem dX8_day_48 : decode cX8_day 48 = .ok (.getfield 137, 3) := by decide +kernel
theorem dX8_day_51 : decode cX8_day 51 = .ok (.goto 8, 3) := by decide +kernel
theorem dX8_day_54 : decode cX8_day 54 = .ok (.aload 4, 2) := by decide +kernel
theorem dX8_day_56 : decode cX8_day 56 = .ok (.invokevirtual 242, 3) := by decide +kernel
theorem dX8_day_59 : decode cX8_day 59 = .ok (.ireturn, 1) := by decide +kernel
set_option maxRecDepth 20000 in
theorem ggX8_keep_X6_push : GoodIn wsX8_keep wsX6_push := goodIn_r _ [8, 9, 10, 11, 12, 13, 7, 14, 15, 16, 17, 18, 19, 20, 21, 22, 23, 24, 25, 26, 27, 28, 29, 30, 31, 32, 33, 34, 35, 36, 37, 38, 39, 40, 41, 50, 51, 52, 53, 54, 55, 56, 57] (by decide +kernel) (by decide +kernel)
set_option maxRecDepth 20000 in
theorem gX8_keep_X6_push : GoodIn wsX8_keep (wsV RX8 151 RX6 yX6_push wsX6_push) := goodIn_app (goodIn_of _ (by decide +kernel)) ggX8_keep_X6_push
theorem dX8_keep_0 : decode cX8_keep 0 = .ok (.aload_n 0, 1) := by decide +kernel
theorem dX8_keep_1 : decode cX8_keep 1 = .ok (.getfield 39, 3) := by decide +kernel
theorem dX8_keep_4 : decode cX8_keep 4 = .ok (.getfield 94, 3) := by decide +kernel
theorem dX8_keep_7 : decode cX8_keep 7 = .ok (.iconst 2, 1) := by decide +kernel
theorem dX8_keep_8 : decode cX8_keep 8 = .ok (.if_icmp .lt 6, 3) := by decide +kernel
theorem dX8_keep_11 : decode cX8_keep 11 = .ok (.bipush (-3), 2) := by decide +kernel
theorem dX8_keep_13 : decode cX8_keep 13 = .ok (.ireturn, 1) := by decide +kernel
theorem dX8_keep_14 : decode cX8_keep 14 = .ok (.aload_n 0, 1) := by decide +kernel
theorem dX8_keep_15 : decode cX8_keep 15 = .ok (.getfield 39, 3) := by decide +kernel
theorem dX8_keep_18 : decode cX8_keep 18 = .ok (.aload_n 0, 1) := by decide +kernel
theorem dX8_keep_19 : decode cX8_keep 19 = .ok (.getfield 19, 3) := by decide +kernel
theorem dX8_keep_22 : decode cX8_keep 22 = .ok (.invokevirtual 151, 3) := by decide +kernel
theorem dX8_keep_25 : decode cX8_keep 25 = .ok (.aload_n 0, 1) := by decide +kernel
theorem dX8_keep_26 : decode cX8_keep 26 = .ok (.getfield 39, 3) := by decide +kernel
theorem dX8_keep_29 : decode cX8_keep 29 = .ok (.getfield 94, 3) := by decide +kernel
theorem dX8_keep_32 : decode cX8_keep 32 = .ok (.ireturn, 1) := by decide +kernel
set_option maxRecDepth 20000 in
theorem ggX8_back_X6_popInto : GoodIn wsX8_back wsX6_popInto := goodIn_r _ [9, 10, 11, 12, 13, 8, 14, 15, 16, 17, 18, 19, 20, 21, 22, 23, 24, 25, 26, 27, 28, 29, 30, 31, 32, 33, 34, 35, 36, 37, 38, 47, 48, 49, 50, 51, 52, 53, 54] (by decide +kernel) (by decide +kernel)
set_option maxRecDepth 20000 in
theorem gX8_back_X6_popInto : GoodIn wsX8_back (wsV RX8 181 RX6 yX6_popInto wsX6_popInto) := goodIn_app (goodIn_of _ (by decide +kernel)) ggX8_back_X6_popInto
theorem dX8_back_0 : decode cX8_back 0 = .ok (.aload_n 0, 1) := by decide +kernel
theorem dX8_back_1 : decode cX8_back 1 = .ok (.getfield 39, 3) := by decide +kernel
theorem dX8_back_4 : decode cX8_back 4 = .ok (.getfield 94, 3) := by decide +kernel
theorem dX8_back_7 : decode cX8_back 7 = .ok (.ifCond .ne 6, 3) := by decide +kernel
theorem dX8_back_10 : decode cX8_back 10 = .ok (.bipush (-2), 2) := by decide +kernel
theorem dX8_back_12 : decode cX8_back 12 = .ok (.ireturn, 1) := by decide +kernel
theorem dX8_back_13 : decode cX8_back 13 = .ok (.aload_n 0, 1) := by decide +kernel
theorem dX8_back_14 : decode cX8_back 14 = .ok (.getfield 39, 3) := by decide +kernel
theorem dX8_back_17 : decode cX8_back 17 = .ok (.aload_n 0, 1) := by decide +kernel
theorem dX8_back_18 : decode cX8_back 18 = .ok (.getfield 19, 3) := by decide +kernel
theorem dX8_back_21 : decode cX8_back 21 = .ok (.invokevirtual 181, 3) := by decide +kernel
theorem dX8_back_24 : decode cX8_back 24 = .ok (.aload_n 0, 1) := by decide +kernel
theorem dX8_back_25 : decode cX8_back 25 = .ok (.getfield 35, 3) := by decide +kernel
theorem dX8_back_28 : decode cX8_back 28 = .ok (.iconst 0, 1) := by decide +kernel
theorem dX8_back_29 : decode cX8_back 29 = .ok (.putfield 94, 3) := by decide +kernel
theorem dX8_back_32 : decode cX8_back 32 = .ok (.aload_n 0, 1) := by decide +kernel
theorem dX8_back_33 : decode cX8_back 33 = .ok (.getfield 39, 3) := by decide +kernel
theorem dX8_back_36 : decode cX8_back 36 = .ok (.getfield 94, 3) := by decide +kernel
theorem dX8_back_39 : decode cX8_back 39 = .ok (.ireturn, 1) := by decide +kernel
set_option maxRecDepth 20000 in
theorem ggX8_count_X4_numberOf : GoodIn wsX8_count wsX4_numberOf := goodIn_r _ [18, 19, 20, 21, 22, 23, 24, 38, 39, 40, 41, 42, 43, 44, 45, 46, 47, 48] (by decide +kernel) (by decide +kernel)
set_option maxRecDepth 20000 in
theorem gX8_count_X4_numberOf : GoodIn wsX8_count (wsV RX8 248 RX4 yX4_numberOf wsX4_numberOf) := goodIn_app (goodIn_of _ (by decide +kernel)) ggX8_count_X4_numberOf
set_option maxRecDepth 20000 in
theorem ggX8_count_X4_owedInAll : GoodIn wsX8_count wsX4_owedInAll := goodIn_r _ [28, 29, 43, 44, 45, 46, 47, 48] (by decide +kernel) (by decide +kernel)
set_option maxRecDepth 20000 in
theorem gX8_count_X4_owedInAll : GoodIn wsX8_count (wsV RX8 242 RX4 yX4_owedInAll wsX4_owedInAll) := goodIn_app (goodIn_of _ (by decide +kernel)) ggX8_count_X4_owedInAll
theorem dX8_count_0 : decode cX8_count 0 = .ok (.iload_n 1, 1) := by decide +kernel
theorem dX8_count_1 : decode cX8_count 1 = .ok (.tableswitch 157 0 10 #[59, 67, 75, 83, 91, 104, 117, 125, 133, 141, 149], 59) := by decide +kernel
theorem dX8_count_60 : decode cX8_count 60 = .ok (.aload_n 0, 1) := by decide +kernel
theorem dX8_count_61 : decode cX8_count 61 = .ok (.getfield 10, 3) := by decide +kernel
theorem dX8_count_64 : decode cX8_count 64 = .ok (.getfield 90, 3) := by decide +kernel
theorem dX8_count_67 : decode cX8_count 67 = .ok (.ireturn, 1) := by decide +kernel
theorem dX8_count_68 : decode cX8_count 68 = .ok (.aload_n 0, 1) := by decide +kernel
theorem dX8_count_69 : decode cX8_count 69 = .ok (.getfield 10, 3) := by decide +kernel
theorem dX8_count_72 : decode cX8_count 72 = .ok (.getfield 245, 3) := by decide +kernel
theorem dX8_count_75 : decode cX8_count 75 = .ok (.ireturn, 1) := by decide +kernel
theorem dX8_count_76 : decode cX8_count 76 = .ok (.aload_n 0, 1) := by decide +kernel
theorem dX8_count_77 : decode cX8_count 77 = .ok (.getfield 19, 3) := by decide +kernel
theorem dX8_count_80 : decode cX8_count 80 = .ok (.getfield 148, 3) := by decide +kernel
theorem dX8_count_83 : decode cX8_count 83 = .ok (.ireturn, 1) := by decide +kernel
theorem dX8_count_84 : decode cX8_count 84 = .ok (.aload_n 0, 1) := by decide +kernel
theorem dX8_count_85 : decode cX8_count 85 = .ok (.getfield 19, 3) := by decide +kernel
theorem dX8_count_88 : decode cX8_count 88 = .ok (.getfield 137, 3) := by decide +kernel
theorem dX8_count_91 : decode cX8_count 91 = .ok (.ireturn, 1) := by decide +kernel
theorem dX8_count_92 : decode cX8_count 92 = .ok (.aload_n 0, 1) := by decide +kernel
theorem dX8_count_93 : decode cX8_count 93 = .ok (.getfield 19, 3) := by decide +kernel
theorem dX8_count_96 : decode cX8_count 96 = .ok (.aload_n 0, 1) := by decide +kernel
theorem dX8_count_97 : decode cX8_count 97 = .ok (.getfield 10, 3) := by decide +kernel
theorem dX8_count_100 : decode cX8_count 100 = .ok (.iconst 1, 1) := by decide +kernel
theorem dX8_count_101 : decode cX8_count 101 = .ok (.invokevirtual 248, 3) := by decide +kernel
theorem dX8_count_104 : decode cX8_count 104 = .ok (.ireturn, 1) := by decide +kernel
theorem dX8_count_105 : decode cX8_count 105 = .ok (.aload_n 0, 1) := by decide +kernel
theorem dX8_count_106 : decode cX8_count 106 = .ok (.getfield 19, 3) := by decide +kernel
theorem dX8_count_109 : decode cX8_count 109 = .ok (.aload_n 0, 1) := by decide +kernel
theorem dX8_count_110 : decode cX8_count 110 = .ok (.getfield 10, 3) := by decide +kernel
theorem dX8_count_113 : decode cX8_count 113 = .ok (.iconst 2, 1) := by decide +kernel
theorem dX8_count_114 : decode cX8_count 114 = .ok (.invokevirtual 248, 3) := by decide +kernel
theorem dX8_count_117 : decode cX8_count 117 = .ok (.ireturn, 1) := by decide +kernel
theorem dX8_count_118 : decode cX8_count 118 = .ok (.aload_n 0, 1) := by decide +kernel
theorem dX8_count_119 : decode cX8_count 119 = .ok (.getfield 19, 3) := by decide +kernel
theorem dX8_count_122 : decode cX8_count 122 = .ok (.invokevirtual 242, 3) := by decide +kernel
theorem dX8_count_125 : decode cX8_count 125 = .ok (.ireturn, 1) := by decide +kernel
theorem dX8_count_126 : decode cX8_count 126 = .ok (.aload_n 0, 1) := by decide +kernel
theorem dX8_count_127 : decode cX8_count 127 = .ok (.getfield 54, 3) := by decide +kernel
theorem dX8_count_130 : decode cX8_count 130 = .ok (.getfield 93, 3) := by decide +kernel
theorem dX8_count_133 : decode cX8_count 133 = .ok (.ireturn, 1) := by decide +kernel
theorem dX8_count_134 : decode cX8_count 134 = .ok (.aload_n 0, 1) := by decide +kernel
theorem dX8_count_135 : decode cX8_count 135 = .ok (.getfield 35, 3) := by decide +kernel
theorem dX8_count_138 : decode cX8_count 138 = .ok (.getfield 94, 3) := by decide +kernel
theorem dX8_count_141 : decode cX8_count 141 = .ok (.ireturn, 1) := by decide +kernel
theorem dX8_count_142 : decode cX8_count 142 = .ok (.aload_n 0, 1) := by decide +kernel
theorem dX8_count_143 : decode cX8_count 143 = .ok (.getfield 39, 3) := by decide +kernel
theorem dX8_count_146 : decode cX8_count 146 = .ok (.getfield 94, 3) := by decide +kernel
theorem dX8_count_149 : decode cX8_count 149 = .ok (.ireturn, 1) := by decide +kernel
theorem dX8_count_150 : decode cX8_count 150 = .ok (.aload_n 0, 1) := by decide +kernel
theorem dX8_count_151 : decode cX8_count 151 = .ok (.getfield 26, 3) := by decide +kernel
theorem dX8_count_154 : decode cX8_count 154 = .ok (.getfield 86, 3) := by decide +kernel
theorem dX8_count_157 : decode cX8_count 157 = .ok (.ireturn, 1) := by decide +kernel
theorem dX8_count_158 : decode cX8_count 158 = .ok (.iconst (-1), 1) := by decide +kernel
theorem dX8_count_159 : decode cX8_count 159 = .ok (.ireturn, 1) := by decide +kernel
set_option maxRecDepth 20000 in
theorem ggX8_takeScript_X1_copyFrom : GoodIn wsX8_takeScript wsX1_copyFrom := goodIn_r _ [10, 11, 12, 13, 14, 15, 16, 17, 18, 19, 20, 21, 22, 23, 24, 25, 26, 27, 54, 55, 56, 57, 58] (by decide +kernel) (by decide +kernel)
set_option maxRecDepth 20000 in
theorem gX8_takeScript_X1_copyFrom : GoodIn wsX8_takeScript (wsV RX8 252 RX1 yX1_copyFrom wsX1_copyFrom) := goodIn_app (goodIn_of _ (by decide +kernel)) ggX8_takeScript_X1_copyFrom
set_option maxRecDepth 20000 in
theorem ggX8_takeScript_X4_copyFrom : GoodIn wsX8_takeScript wsX4_copyFrom := goodIn_r _ [32, 33, 34, 35, 36, 37, 38, 39, 17, 18, 19, 20, 21, 22, 23, 24, 25, 26, 27, 59, 60, 61, 62, 63, 64] (by decide +kernel) (by decide +kernel)
set_option maxRecDepth 20000 in
theorem gX8_takeScript_X4_copyFrom : GoodIn wsX8_takeScript (wsV RX8 259 RX4 yX4_copyFrom wsX4_copyFrom) := goodIn_app (goodIn_of _ (by decide +kernel)) ggX8_takeScript_X4_copyFrom
theorem dX8_takeScript_0 : decode cX8_takeScript 0 = .ok (.aload_n 0, 1) := by decide +kernel
theorem dX8_takeScript_1 : decode cX8_takeScript 1 = .ok (.getfield 10, 3) := by decide +kernel
theorem dX8_takeScript_4 : decode cX8_takeScript 4 = .ok (.aload_n 0, 1) := by decide +kernel
theorem dX8_takeScript_5 : decode cX8_takeScript 5 = .ok (.getfield 26, 3) := by decide +kernel
theorem dX8_takeScript_8 : decode cX8_takeScript 8 = .ok (.getfield 89, 3) := by decide +kernel
theorem dX8_takeScript_11 : decode cX8_takeScript 11 = .ok (.invokevirtual 252, 3) := by decide +kernel
theorem dX8_takeScript_14 : decode cX8_takeScript 14 = .ok (.aload_n 0, 1) := by decide +kernel
theorem dX8_takeScript_15 : decode cX8_takeScript 15 = .ok (.getfield 19, 3) := by decide +kernel
theorem dX8_takeScript_18 : decode cX8_takeScript 18 = .ok (.aload_n 0, 1) := by decide +kernel
theorem dX8_takeScript_19 : decode cX8_takeScript 19 = .ok (.getfield 26, 3) := by decide +kernel
theorem dX8_takeScript_22 : decode cX8_takeScript 22 = .ok (.getfield 256, 3) := by decide +kernel
theorem dX8_takeScript_25 : decode cX8_takeScript 25 = .ok (.invokevirtual 259, 3) := by decide +kernel
theorem dX8_takeScript_28 : decode cX8_takeScript 28 = .ok (.return_, 1) := by decide +kernel
set_option maxRecDepth 20000 in
theorem ggX8_areTwo_X1_isPerson : GoodIn wsX8_areTwo wsX1_isPerson := goodIn_r _ [6, 7, 16, 17, 18, 19, 20] (by decide +kernel) (by decide +kernel)
set_option maxRecDepth 20000 in
theorem gX8_areTwo_X1_isPerson : GoodIn wsX8_areTwo (wsV RX8 95 RX1 yX1_isPerson wsX1_isPerson) := goodIn_app (goodIn_of _ (by decide +kernel)) ggX8_areTwo_X1_isPerson
theorem dX8_areTwo_0 : decode cX8_areTwo 0 = .ok (.aload_n 0, 1) := by decide +kernel
theorem dX8_areTwo_1 : decode cX8_areTwo 1 = .ok (.getfield 10, 3) := by decide +kernel
theorem dX8_areTwo_4 : decode cX8_areTwo 4 = .ok (.iload_n 1, 1) := by decide +kernel
theorem dX8_areTwo_5 : decode cX8_areTwo 5 = .ok (.invokevirtual 95, 3) := by decide +kernel
theorem dX8_areTwo_8 : decode cX8_areTwo 8 = .ok (.ifCond .eq 23, 3) := by decide +kernel
theorem dX8_areTwo_11 : decode cX8_areTwo 11 = .ok (.aload_n 0, 1) := by decide +kernel
theorem dX8_areTwo_12 : decode cX8_areTwo 12 = .ok (.getfield 10, 3) := by decide +kernel
theorem dX8_areTwo_15 : decode cX8_areTwo 15 = .ok (.iload_n 2, 1) := by decide +kernel
theorem dX8_areTwo_16 : decode cX8_areTwo 16 = .ok (.invokevirtual 95, 3) := by decide +kernel
theorem dX8_areTwo_19 : decode cX8_areTwo 19 = .ok (.ifCond .eq 12, 3) := by decide +kernel
theorem dX8_areTwo_22 : decode cX8_areTwo 22 = .ok (.iload_n 1, 1) := by decide +kernel
theorem dX8_areTwo_23 : decode cX8_areTwo 23 = .ok (.iload_n 2, 1) := by decide +kernel
theorem dX8_areTwo_24 : decode cX8_areTwo 24 = .ok (.if_icmp .eq 7, 3) := by decide +kernel
theorem dX8_areTwo_27 : decode cX8_areTwo 27 = .ok (.iconst 1, 1) := by decide +kernel
theorem dX8_areTwo_28 : decode cX8_areTwo 28 = .ok (.goto 4, 3) := by decide +kernel
theorem dX8_areTwo_31 : decode cX8_areTwo 31 = .ok (.iconst 0, 1) := by decide +kernel
theorem dX8_areTwo_32 : decode cX8_areTwo 32 = .ok (.ireturn, 1) := by decide +kernel
theorem dX8_isNoPart_0 : decode cX8_isNoPart 0 = .ok (.iload_n 0, 1) := by decide +kernel
theorem dX8_isNoPart_1 : decode cX8_isNoPart 1 = .ok (.ifCond .eq 12, 3) := by decide +kernel
theorem dX8_isNoPart_4 : decode cX8_isNoPart 4 = .ok (.iload_n 0, 1) := by decide +kernel
theorem dX8_isNoPart_5 : decode cX8_isNoPart 5 = .ok (.iconst 1, 1) := by decide +kernel
theorem dX8_isNoPart_6 : decode cX8_isNoPart 6 = .ok (.if_icmp .eq 7, 3) := by decide +kernel
theorem dX8_isNoPart_9 : decode cX8_isNoPart 9 = .ok (.iconst 1, 1) := by decide +kernel
theorem dX8_isNoPart_10 : decode cX8_isNoPart 10 = .ok (.goto 4, 3) := by decide +kernel
theorem dX8_isNoPart_13 : decode cX8_isNoPart 13 = .ok (.iconst 0, 1) := by decide +kernel
theorem dX8_isNoPart_14 : decode cX8_isNoPart 14 = .ok (.ireturn, 1) := by decide +kernel
set_option maxRecDepth 20000 in
theorem ggX9_init_X9_begins : GoodIn wsX9_init wsX9_begins := goodIn_r _ [21, 7, 8, 33, 34, 35, 36, 37, 38, 39, 40, 41, 42, 43, 44, 45, 46, 47, 48, 49] (by decide +kernel) (by decide +kernel)
set_option maxRecDepth 20000 in
theorem gX9_init_X9_begins : GoodIn wsX9_init (wsV RX9 46 RX9 yX9_begins wsX9_begins) := goodIn_app (goodIn_of _ (by decide +kernel)) ggX9_init_X9_begins
set_option maxRecDepth 20000 in
theorem ggX9_init_X9_stands : GoodIn wsX9_init wsX9_stands := goodIn_r _ [25, 7, 8, 33, 34, 35, 36, 37, 38, 39, 40, 41, 42, 43, 44, 45, 46, 47, 48, 49] (by decide +kernel) (by decide +kernel)
set_option maxRecDepth 20000 in
theorem gX9_init_X9_stands : GoodIn wsX9_init (wsV RX9 49 RX9 yX9_stands wsX9_stands) := goodIn_app (goodIn_of _ (by decide +kernel)) ggX9_init_X9_stands
set_option maxRecDepth 20000 in
theorem ggX9_init_X9_lays : GoodIn wsX9_init wsX9_lays := goodIn_r _ [29, 6, 7, 9, 8, 30, 31, 32, 33, 34, 35, 36, 37, 38, 39, 40, 41, 42, 43, 44, 45, 46, 47, 48, 49] (by decide +kernel) (by decide +kernel)
set_option maxRecDepth 20000 in
theorem gX9_init_X9_lays : GoodIn wsX9_init (wsV RX9 53 RX9 yX9_lays wsX9_lays) := goodIn_app (goodIn_of _ (by decide +kernel)) ggX9_init_X9_lays
theorem dX9_init_0 : decode cX9_init 0 = .ok (.aload_n 0, 1) := by decide +kernel
theorem dX9_init_1 : decode cX9_init 1 = .ok (.invokespecial 1, 3) := by decide +kernel
theorem dX9_init_4 : decode cX9_init 4 = .ok (.aload_n 0, 1) := by decide +kernel
theorem dX9_init_5 : decode cX9_init 5 = .ok (.sipush 200, 3) := by decide +kernel
theorem dX9_init_8 : decode cX9_init 8 = .ok (.newarray .int, 2) := by decide +kernel
theorem dX9_init_10 : decode cX9_init 10 = .ok (.putfield 7, 3) := by decide +kernel
theorem dX9_init_13 : decode cX9_init 13 = .ok (.aload_n 0, 1) := by decide +kernel
theorem dX9_init_14 : decode cX9_init 14 = .ok (.bipush 23, 2) := by decide +kernel
theorem dX9_init_16 : decode cX9_init 16 = .ok (.newarray .int, 2) := by decide +kernel
theorem dX9_init_18 : decode cX9_init 18 = .ok (.putfield 13, 3) := by decide +kernel
theorem dX9_init_21 : decode cX9_init 21 = .ok (.aload_n 0, 1) := by decide +kernel
theorem dX9_init_22 : decode cX9_init 22 = .ok (.bipush 23, 2) := by decide +kernel
theorem dX9_init_24 : decode cX9_init 24 = .ok (.newarray .int, 2) := by decide +kernel
theorem dX9_init_26 : decode cX9_init 26 = .ok (.putfield 16, 3) := by decide +kernel
theorem dX9_init_29 : decode cX9_init 29 = .ok (.aload_n 0, 1) := by decide +kernel
theorem dX9_init_30 : decode cX9_init 30 = .ok (.bipush 72, 2) := by decide +kernel
theorem dX9_init_32 : decode cX9_init 32 = .ok (.newarray .int, 2) := by decide +kernel
theorem dX9_init_34 : decode cX9_init 34 = .ok (.putfield 19, 3) := by decide +kernel
theorem dX9_init_37 : decode cX9_init 37 = .ok (.aload_n 0, 1) := by decide +kernel
theorem dX9_init_38 : decode cX9_init 38 = .ok (.bipush 72, 2) := by decide +kernel
theorem dX9_init_40 : decode cX9_init 40 = .ok (.newarray .int, 2) := by decide +kernel
theorem dX9_init_42 : decode cX9_init 42 = .ok (.putfield 22, 3) := by decide +kernel
theorem dX9_init_45 : decode cX9_init 45 = .ok (.aload_n 0, 1) := by decide +kernel
theorem dX9_init_46 : decode cX9_init 46 = .ok (.sipush 576, 3) := by decide +kernel
theorem dX9_init_49 : decode cX9_init 49 = .ok (.newarray .int, 2) := by decide +kernel
theorem dX9_init_51 : decode cX9_init 51 = .ok (.putfield 25, 3) := by decide +kernel
theorem dX9_init_54 : decode cX9_init 54 = .ok (.aload_n 0, 1) := by decide +kernel
theorem dX9_init_55 : decode cX9_init 55 = .ok (.sipush 144, 3) := by decide +kernel
theorem dX9_init_58 : decode cX9_init 58 = .ok (.newarray .int, 2) := by decide +kernel
theorem dX9_init_60 : decode cX9_init 60 = .ok (.putfield 28, 3) := by decide +kernel
theorem dX9_init_63 : decode cX9_init 63 = .ok (.aload_n 0, 1) := by decide +kernel
theorem dX9_init_64 : decode cX9_init 64 = .ok (.bipush 18, 2) := by decide +kernel
theorem dX9_init_66 : decode cX9_init 66 = .ok (.newarray .int, 2) := by decide +kernel
theorem dX9_init_68 : decode cX9_init 68 = .ok (.putfield 31, 3) := by decide +kernel
theorem dX9_init_71 : decode cX9_init 71 = .ok (.aload_n 0, 1) := by decide +kernel
theorem dX9_init_72 : decode cX9_init 72 = .ok (.bipush 7, 2) := by decide +kernel
theorem dX9_init_74 : decode cX9_init 74 = .ok (.newarray .int, 2) := by decide +kernel
theorem dX9_init_76 : decode cX9_init 76 = .ok (.putfield 34, 3) := by decide +kernel
theorem dX9_init_79 : decode cX9_init 79 = .ok (.aload_n 0, 1) := by decide +kernel
theorem dX9_init_80 : decode cX9_init 80 = .ok (.bipush 72, 2) := by decide +kernel
theorem dX9_init_82 : decode cX9_init 82 = .ok (.newarray .int, 2) := by decide +kernel
theorem dX9_init_84 : decode cX9_init 84 = .ok (.putfield 37, 3) := by decide +kernel
theorem dX9_init_87 : decode cX9_init 87 = .ok (.aload_n 0, 1) := by decide +kernel
theorem dX9_init_88 : decode cX9_init 88 = .ok (.sipush 128, 3) := by decide +kernel
theorem dX9_init_91 : decode cX9_init 91 = .ok (.newarray .int, 2) := by decide +kernel
theorem dX9_init_93 : decode cX9_init 93 = .ok (.putfield 40, 3) := by decide +kernel
theorem dX9_init_96 : decode cX9_init 96 = .ok (.aload_n 0, 1) := by decide +kernel
theorem dX9_init_97 : decode cX9_init 97 = .ok (.bipush 7, 2) := by decide +kernel
theorem dX9_init_99 : decode cX9_init 99 = .ok (.newarray .int, 2) := by decide +kernel
theorem dX9_init_101 : decode cX9_init 101 = .ok (.putfield 43, 3) := by decide +kernel
theorem dX9_init_104 : decode cX9_init 104 = .ok (.aload_n 0, 1) := by decide +kernel
theorem dX9_init_105 : decode cX9_init 105 = .ok (.invokevirtual 46, 3) := by decide +kernel
theorem dX9_init_108 : decode cX9_init 108 = .ok (.aload_n 0, 1) := by decide +kernel
theorem dX9_init_109 : decode cX9_init 109 = .ok (.iconst 0, 1) := by decide +kernel
theorem dX9_init_110 : decode cX9_init 110 = .ok (.iconst 5, 1) := by decide +kernel
theorem dX9_init_111 : decode cX9_init 111 = .ok (.iconst 3, 1) := by decide +kernel
theorem dX9_init_112 : decode cX9_init 112 = .ok (.bipush 20, 2) := by decide +kernel
theorem dX9_init_114 : decode cX9_init 114 = .ok (.invokevirtual 49, 3) := by decide +kernel
theorem dX9_init_117 : decode cX9_init 117 = .ok (.aload_n 0, 1) := by decide +kernel
theorem dX9_init_118 : decode cX9_init 118 = .ok (.iconst 1, 1) := by decide +kernel
theorem dX9_init_119 : decode cX9_init 119 = .ok (.bipush 9, 2) := by decide +kernel
theorem dX9_init_121 : decode cX9_init 121 = .ok (.iconst 2, 1) := by decide +kernel
theorem dX9_init_122 : decode cX9_init 122 = .ok (.iconst 4, 1) := by decide +kernel
theorem dX9_init_123 : decode cX9_init 123 = .ok (.invokevirtual 49, 3) := by decide +kernel
theorem dX9_init_126 : decode cX9_init 126 = .ok (.aload_n 0, 1) := by decide +kernel
theorem dX9_init_127 : decode cX9_init 127 = .ok (.iconst 2, 1) := by decide +kernel
theorem dX9_init_128 : decode cX9_init 128 = .ok (.bipush 7, 2) := by decide +kernel
theorem dX9_init_130 : decode cX9_init 130 = .ok (.iconst 2, 1) := by decide +kernel
theorem dX9_init_131 : decode cX9_init 131 = .ok (.bipush 30, 2) := by decide +kernel
theorem dX9_init_133 : decode cX9_init 133 = .ok (.invokevirtual 49, 3) := by decide +kernel
theorem dX9_init_136 : decode cX9_init 136 = .ok (.aload_n 0, 1) := by decide +kernel
theorem dX9_init_137 : decode cX9_init 137 = .ok (.iconst 3, 1) := by decide +kernel
theorem dX9_init_138 : decode cX9_init 138 = .ok (.bipush 12, 2) := by decide +kernel
theorem dX9_init_140 : decode cX9_init 140 = .ok (.iconst 4, 1) := by decide +kernel
theorem dX9_init_141 : decode cX9_init 141 = .ok (.bipush 15, 2) := by decide +kernel
theorem dX9_init_143 : decode cX9_init 143 = .ok (.invokevirtual 49, 3) := by decide +kernel
theorem dX9_init_146 : decode cX9_init 146 = .ok (.aload_n 0, 1) := by decide +kernel
theorem dX9_init_147 : decode cX9_init 147 = .ok (.iconst 0, 1) := by decide +kernel
theorem dX9_init_148 : decode cX9_init 148 = .ok (.iconst 3, 1) := by decide +kernel
theorem dX9_init_149 : decode cX9_init 149 = .ok (.iconst 1, 1) := by decide +kernel
theorem dX9_init_150 : decode cX9_init 150 = .ok (.bipush 9, 2) := by decide +kernel
theorem dX9_init_152 : decode cX9_init 152 = .ok (.invokevirtual 49, 3) := by decide +kernel
theorem dX9_init_155 : decode cX9_init 155 = .ok (.aload_n 0, 1) := by decide +kernel
theorem dX9_init_156 : decode cX9_init 156 = .ok (.iconst 2, 1) := by decide +kernel
theorem dX9_init_157 : decode cX9_init 157 = .ok (.bipush 15, 2) := by decide +kernel
theorem dX9_init_159 : decode cX9_init 159 = .ok (.iconst 5, 1) := by decide +kernel
theorem dX9_init_160 : decode cX9_init 160 = .ok (.bipush 60, 2) := by decide +kernel
theorem dX9_init_162 : decode cX9_init 162 = .ok (.invokevirtual 49, 3) := by decide +kernel
theorem dX9_init_165 : decode cX9_init 165 = .ok (.aload_n 0, 1) := by decide +kernel
theorem dX9_init_166 : decode cX9_init 166 = .ok (.getfield 16, 3) := by decide +kernel
theorem dX9_init_169 : decode cX9_init 169 = .ok (.iconst 1, 1) := by decide +kernel
theorem dX9_init_170 : decode cX9_init 170 = .ok (.iconst 4, 1) := by decide +kernel
theorem dX9_init_171 : decode cX9_init 171 = .ok (.iastore, 1) := by decide +kernel
theorem dX9_init_172 : decode cX9_init 172 = .ok (.aload_n 0, 1) := by decide +kernel
theorem dX9_init_173 : decode cX9_init 173 = .ok (.getfield 19, 3) := by decide +kernel
theorem dX9_init_176 : decode cX9_init 176 = .ok (.bipush 59, 2) := by decide +kernel
theorem dX9_init_178 : decode cX9_init 178 = .ok (.bipush 6, 2) := by decide +kernel
theorem dX9_init_180 : decode cX9_init 180 = .ok (.iastore, 1) := by decide +kernel
theorem dX9_init_181 : decode cX9_init 181 = .ok (.aload_n 0, 1) := by decide +kernel
theorem dX9_init_182 : decode cX9_init 182 = .ok (.getfield 19, 3) := by decide +kernel
theorem dX9_init_185 : decode cX9_init 185 = .ok (.bipush 37, 2) := by decide +kernel
theorem dX9_init_187 : decode cX9_init 187 = .ok (.iconst 3, 1) := by decide +kernel
theorem dX9_init_188 : decode cX9_init 188 = .ok (.iastore, 1) := by decide +kernel
theorem dX9_init_189 : decode cX9_init 189 = .ok (.aload_n 0, 1) := by decide +kernel
theorem dX9_init_190 : decode cX9_init 190 = .ok (.invokevirtual 53, 3) := by decide +kernel
theorem dX9_init_193 : decode cX9_init 193 = .ok (.return_, 1) := by decide +kernel
theorem dX9_in_0 : decode cX9_in 0 = .ok (.iload_n 0, 1) := by decide +kernel
theorem dX9_in_1 : decode cX9_in 1 = .ok (.iload_n 1, 1) := by decide +kernel
theorem dX9_in_2 : decode cX9_in 2 = .ok (.if_icmp .lt 12, 3) := by decide +kernel
theorem dX9_in_5 : decode cX9_in 5 = .ok (.iload_n 0, 1) := by decide +kernel
theorem dX9_in_6 : decode cX9_in 6 = .ok (.iload_n 2, 1) := by decide +kernel
theorem dX9_in_7 : decode cX9_in 7 = .ok (.if_icmp .gt 7, 3) := by decide +kernel
theorem dX9_in_10 : decode cX9_in 10 = .ok (.iconst 1, 1) := by decide +kernel
theorem dX9_in_11 : decode cX9_in 11 = .ok (.goto 4, 3) := by decide +kernel
theorem dX9_in_14 : decode cX9_in 14 = .ok (.iconst 0, 1) := by decide +kernel
theorem dX9_in_15 : decode cX9_in 15 = .ok (.ireturn, 1) := by decide +kernel
set_option maxRecDepth 20000 in
theorem ggX9_isOne_X9_in : GoodIn wsX9_isOne wsX9_in := goodIn_r _ [5] (by decide +kernel) (by decide +kernel)
set_option maxRecDepth 20000 in
theorem gX9_isOne_X9_in : GoodIn wsX9_isOne (va_wsS RX9 56 yX9_in wsX9_in) := goodIn_app (goodIn_of _ (by decide +kernel)) ggX9_isOne_X9_in
theorem dX9_isOne_0 : decode cX9_isOne 0 = .ok (.iload_n 1, 1) := by decide +kernel
theorem dX9_isOne_1 : decode cX9_isOne 1 = .ok (.iconst 0, 1) := by decide +kernel
theorem dX9_isOne_2 : decode cX9_isOne 2 = .ok (.aload_n 0, 1) := by decide +kernel
theorem dX9_isOne_3 : decode cX9_isOne 3 = .ok (.getfield 13, 3) := by decide +kernel
theorem dX9_isOne_6 : decode cX9_isOne 6 = .ok (.iconst 0, 1) := by decide +kernel
theorem dX9_isOne_7 : decode cX9_isOne 7 = .ok (.iaload, 1) := by decide +kernel
theorem dX9_isOne_8 : decode cX9_isOne 8 = .ok (.iconst 1, 1) := by decide +kernel
theorem dX9_isOne_9 : decode cX9_isOne 9 = .ok (.isub, 1) := by decide +kernel
theorem dX9_isOne_10 : decode cX9_isOne 10 = .ok (.invokestatic 56, 3) := by decide +kernel
theorem dX9_isOne_13 : decode cX9_isOne 13 = .ok (.ireturn, 1) := by decide +kernel
set_option maxRecDepth 20000 in
theorem ggX9_write_X9_in : GoodIn wsX9_write wsX9_in := goodIn_r _ [6] (by decide +kernel) (by decide +kernel)
set_option maxRecDepth 20000 in
theorem gX9_write_X9_in : GoodIn wsX9_write (va_wsS RX9 56 yX9_in wsX9_in) := goodIn_app (goodIn_of _ (by decide +kernel)) ggX9_write_X9_in
theorem dX9_write_0 : decode cX9_write 0 = .ok (.iload_n 1, 1) := by decide +kernel
theorem dX9_write_1 : decode cX9_write 1 = .ok (.bipush 32, 2) := by decide +kernel
theorem dX9_write_3 : decode cX9_write 3 = .ok (.bipush 126, 2) := by decide +kernel
theorem dX9_write_5 : decode cX9_write 5 = .ok (.invokestatic 56, 3) := by decide +kernel
theorem dX9_write_8 : decode cX9_write 8 = .ok (.ifCond .ne 5, 3) := by decide +kernel
theorem dX9_write_11 : decode cX9_write 11 = .ok (.iconst (-1), 1) := by decide +kernel
theorem dX9_write_12 : decode cX9_write 12 = .ok (.ireturn, 1) := by decide +kernel
theorem dX9_write_13 : decode cX9_write 13 = .ok (.aload_n 0, 1) := by decide +kernel
theorem dX9_write_14 : decode cX9_write 14 = .ok (.getfield 60, 3) := by decide +kernel
theorem dX9_write_17 : decode cX9_write 17 = .ok (.sipush 200, 3) := by decide +kernel
theorem dX9_write_20 : decode cX9_write 20 = .ok (.if_icmp .ne 6, 3) := by decide +kernel
theorem dX9_write_23 : decode cX9_write 23 = .ok (.bipush (-3), 2) := by decide +kernel
theorem dX9_write_25 : decode cX9_write 25 = .ok (.ireturn, 1) := by decide +kernel
theorem dX9_write_26 : decode cX9_write 26 = .ok (.aload_n 0, 1) := by decide +kernel
theorem dX9_write_27 : decode cX9_write 27 = .ok (.getfield 7, 3) := by decide +kernel
theorem dX9_write_30 : decode cX9_write 30 = .ok (.aload_n 0, 1) := by decide +kernel
theorem dX9_write_31 : decode cX9_write 31 = .ok (.getfield 60, 3) := by decide +kernel
theorem dX9_write_34 : decode cX9_write 34 = .ok (.iload_n 1, 1) := by decide +kernel
theorem dX9_write_35 : decode cX9_write 35 = .ok (.iastore, 1) := by decide +kernel
theorem dX9_write_36 : decode cX9_write 36 = .ok (.aload_n 0, 1) := by decide +kernel
theorem dX9_write_37 : decode cX9_write 37 = .ok (.dup, 1) := by decide +kernel
theorem dX9_write_38 : decode cX9_write 38 = .ok (.getfield 60, 3) := by decide +kernel
theorem dX9_write_41 : decode cX9_write 41 = .ok (.iconst 1, 1) := by decide +kernel
theorem dX9_write_42 : decode cX9_write 42 = .ok (.iadd, 1) := by decide +kernel
theorem dX9_write_43 : decode cX9_write 43 = .ok (.putfield 60, 3) := by decide +kernel
theorem dX9_write_46 : decode cX9_write 46 = .ok (.aload_n 0, 1) := by decide +kernel
theorem dX9_write_47 : decode cX9_write 47 = .ok (.getfield 60, 3) := by decide +kernel
theorem dX9_write_50 : decode cX9_write 50 = .ok (.ireturn, 1) := by decide +kernel
theorem dX9_wipe_0 : decode cX9_wipe 0 = .ok (.aload_n 0, 1) := by decide +kernel
theorem dX9_wipe_1 : decode cX9_wipe 1 = .ok (.getfield 60, 3) := by decide +kernel
theorem dX9_wipe_4 : decode cX9_wipe 4 = .ok (.istore_n 1, 1) := by decide +kernel
theorem dX9_wipe_5 : decode cX9_wipe 5 = .ok (.aload_n 0, 1) := by decide +kernel
theorem dX9_wipe_6 : decode cX9_wipe 6 = .ok (.iconst 0, 1) := by decide +kernel
theorem dX9_wipe_7 : decode cX9_wipe 7 = .ok (.putfield 60, 3) := by decide +kernel
theorem dX9_wipe_10 : decode cX9_wipe 10 = .ok (.iload_n 1, 1) := by decide +kernel
theorem dX9_wipe_11 : decode cX9_wipe 11 = .ok (.ireturn, 1) := by decide +kernel
theorem dX9_letterAt_0 : decode cX9_letterAt 0 = .ok (.iload_n 1, 1) := by decide +kernel
theorem dX9_letterAt_1 : decode cX9_letterAt 1 = .ok (.aload_n 0, 1) := by decide +kernel
theorem dX9_letterAt_2 : decode cX9_letterAt 2 = .ok (.getfield 60, 3) := by decide +kernel
theorem dX9_letterAt_5 : decode cX9_letterAt 5 = .ok (.if_icmp .ge 12, 3) := by decide +kernel
theorem dX9_letterAt_8 : decode cX9_letterAt 8 = .ok (.aload_n 0, 1) := by decide +kernel
theorem dX9_letterAt_9 : decode cX9_letterAt 9 = .ok (.getfield 7, 3) := by decide +kernel
theorem dX9_letterAt_12 : decode cX9_letterAt 12 = .ok (.iload_n 1, 1) := by decide +kernel
theorem dX9_letterAt_13 : decode cX9_letterAt 13 = .ok (.iaload, 1) := by decide +kernel
theorem dX9_letterAt_14 : decode cX9_letterAt 14 = .ok (.goto 4, 3) := by decide +kernel
theorem dX9_letterAt_17 : decode cX9_letterAt 17 = .ok (.iconst (-1), 1) := by decide +kernel
theorem dX9_letterAt_18 : decode cX9_letterAt 18 = .ok (.ireturn, 1) := by decide +kernel
set_option maxRecDepth 20000 in
theorem ggX9_isFigure_X9_in : GoodIn wsX9_isFigure wsX9_in := goodIn_r _ [4] (by decide +kernel) (by decide +kernel)
set_option maxRecDepth 20000 in
theorem gX9_isFigure_X9_in : GoodIn wsX9_isFigure (va_wsS RX9 56 yX9_in wsX9_in) := goodIn_app (goodIn_of _ (by decide +kernel)) ggX9_isFigure_X9_in
theorem dX9_isFigure_0 : decode cX9_isFigure 0 = .ok (.iload_n 0, 1) := by decide +kernel
theorem dX9_isFigure_1 : decode cX9_isFigure 1 = .ok (.bipush 48, 2) := by decide +kernel
theorem dX9_isFigure_3 : decode cX9_isFigure 3 = .ok (.bipush 57, 2) := by decide +kernel
theorem dX9_isFigure_5 : decode cX9_isFigure 5 = .ok (.invokestatic 56, 3) := by decide +kernel
theorem dX9_isFigure_8 : decode cX9_isFigure 8 = .ok (.ireturn, 1) := by decide +kernel
set_option maxRecDepth 20000 in
theorem ggX9_number_X9_letterAt : GoodIn wsX9_number wsX9_letterAt := goodIn_r _ [6, 7, 8, 15, 16, 17, 18, 19, 20, 21, 22, 23, 24, 25, 26, 27, 28, 29, 30, 31] (by decide +kernel) (by decide +kernel)
set_option maxRecDepth 20000 in
theorem gX9_number_X9_letterAt : GoodIn wsX9_number (wsV RX9 67 RX9 yX9_letterAt wsX9_letterAt) := goodIn_app (goodIn_of _ (by decide +kernel)) ggX9_number_X9_letterAt
set_option maxRecDepth 20000 in
theorem ggX9_number_X9_isFigure : GoodIn wsX9_number wsX9_isFigure := goodIn_r _ [11, 12, 13, 5, 14] (by decide +kernel) (by decide +kernel)
set_option maxRecDepth 20000 in
theorem gX9_number_X9_isFigure : GoodIn wsX9_number (va_wsS RX9 71 yX9_isFigure wsX9_isFigure) := goodIn_app (goodIn_of _ (by decide +kernel)) ggX9_number_X9_isFigure
set_option maxRecDepth 20000 in
theorem ggX9_number_X9_in : GoodIn wsX9_number wsX9_in := goodIn_r _ [14] (by decide +kernel) (by decide +kernel)
set_option maxRecDepth 20000 in
theorem gX9_number_X9_in : GoodIn wsX9_number (va_wsS RX9 56 yX9_in wsX9_in) := goodIn_app (goodIn_of _ (by decide +kernel)) ggX9_number_X9_in
theorem dX9_number_0 : decode cX9_number 0 = .ok (.aload_n 0, 1) := by decide +kernel
theorem dX9_number_1 : decode cX9_number 1 = .ok (.aload_n 0, 1) := by decide +kernel
theorem dX9_number_2 : decode cX9_number 2 = .ok (.getfield 64, 3) := by decide +kernel
theorem dX9_number_5 : decode cX9_number 5 = .ok (.invokevirtual 67, 3) := by decide +kernel
theorem dX9_number_8 : decode cX9_number 8 = .ok (.invokestatic 71, 3) := by decide +kernel
theorem dX9_number_11 : decode cX9_number 11 = .ok (.ifCond .ne 5, 3) := by decide +kernel
theorem dX9_number_14 : decode cX9_number 14 = .ok (.iconst (-1), 1) := by decide +kernel
theorem dX9_number_15 : decode cX9_number 15 = .ok (.ireturn, 1) := by decide +kernel
theorem dX9_number_16 : decode cX9_number 16 = .ok (.aload_n 0, 1) := by decide +kernel
theorem dX9_number_17 : decode cX9_number 17 = .ok (.aload_n 0, 1) := by decide +kernel
theorem dX9_number_18 : decode cX9_number 18 = .ok (.getfield 64, 3) := by decide +kernel
theorem dX9_number_21 : decode cX9_number 21 = .ok (.invokevirtual 67, 3) := by decide +kernel
theorem dX9_number_24 : decode cX9_number 24 = .ok (.bipush 48, 2) := by decide +kernel
theorem dX9_number_26 : decode cX9_number 26 = .ok (.isub, 1) := by decide +kernel
theorem dX9_number_27 : decode cX9_number 27 = .ok (.istore 4, 2) := by decide +kernel
theorem dX9_number_29 : decode cX9_number 29 = .ok (.aload_n 0, 1) := by decide +kernel
theorem dX9_number_30 : decode cX9_number 30 = .ok (.dup, 1) := by decide +kernel
theorem dX9_number_31 : decode cX9_number 31 = .ok (.getfield 64, 3) := by decide +kernel
theorem dX9_number_34 : decode cX9_number 34 = .ok (.iconst 1, 1) := by decide +kernel
theorem dX9_number_35 : decode cX9_number 35 = .ok (.iadd, 1) := by decide +kernel
theorem dX9_number_36 : decode cX9_number 36 = .ok (.putfield 64, 3) := by decide +kernel
theorem dX9_number_39 : decode cX9_number 39 = .ok (.aload_n 0, 1) := by decide +kernel
theorem dX9_number_40 : decode cX9_number 40 = .ok (.aload_n 0, 1) := by decide +kernel
theorem dX9_number_41 : decode cX9_number 41 = .ok (.getfield 64, 3) := by decide +kernel
theorem dX9_number_44 : decode cX9_number 44 = .ok (.invokevirtual 67, 3) := by decide +kernel
theorem dX9_number_47 : decode cX9_number 47 = .ok (.invokestatic 71, 3) := by decide +kernel
theorem dX9_number_50 : decode cX9_number 50 = .ok (.ifCond .eq 32, 3) := by decide +kernel
theorem dX9_number_53 : decode cX9_number 53 = .ok (.bipush 10, 2) := by decide +kernel
theorem dX9_number_55 : decode cX9_number 55 = .ok (.iload 4, 2) := by decide +kernel
theorem dX9_number_57 : decode cX9_number 57 = .ok (.imul, 1) := by decide +kernel
theorem dX9_number_58 : decode cX9_number 58 = .ok (.aload_n 0, 1) := by decide +kernel
theorem dX9_number_59 : decode cX9_number 59 = .ok (.aload_n 0, 1) := by decide +kernel
theorem dX9_number_60 : decode cX9_number 60 = .ok (.getfield 64, 3) := by decide +kernel
theorem dX9_number_63 : decode cX9_number 63 = .ok (.invokevirtual 67, 3) := by decide +kernel
theorem dX9_number_66 : decode cX9_number 66 = .ok (.iadd, 1) := by decide +kernel
theorem dX9_number_67 : decode cX9_number 67 = .ok (.bipush 48, 2) := by decide +kernel
theorem dX9_number_69 : decode cX9_number 69 = .ok (.isub, 1) := by decide +kernel
theorem dX9_number_70 : decode cX9_number 70 = .ok (.istore 4, 2) := by decide +kernel
theorem dX9_number_72 : decode cX9_number 72 = .ok (.aload_n 0, 1) := by decide +kernel
theorem dX9_number_73 : decode cX9_number 73 = .ok (.dup, 1) := by decide +kernel
theorem dX9_number_74 : decode cX9_number 74 = .ok (.getfield 64, 3) := by decide +kernel
theorem dX9_number_77 : decode cX9_number 77 = .ok (.iconst 1, 1) := by decide +kernel
theorem dX9_number_78 : decode cX9_number 78 = .ok (.iadd, 1) := by decide +kernel
theorem dX9_number_79 : decode cX9_number 79 = .ok (.putfield 64, 3) := by decide +kernel
theorem dX9_number_82 : decode cX9_number 82 = .ok (.iload 4, 2) := by decide +kernel
theorem dX9_number_84 : decode cX9_number 84 = .ok (.iload_n 1, 1) := by decide +kernel
theorem dX9_number_85 : decode cX9_number 85 = .ok (.iload_n 2, 1) := by decide +kernel
theorem dX9_number_86 : decode cX9_number 86 = .ok (.invokestatic 56, 3) := by decide +kernel
theorem dX9_number_89 : decode cX9_number 89 = .ok (.ifCond .eq 19, 3) := by decide +kernel
theorem dX9_number_92 : decode cX9_number 92 = .ok (.aload_n 0, 1) := by decide +kernel
theorem dX9_number_93 : decode cX9_number 93 = .ok (.aload_n 0, 1) := by decide +kernel
theorem dX9_number_94 : decode cX9_number 94 = .ok (.getfield 64, 3) := by decide +kernel
theorem dX9_number_97 : decode cX9_number 97 = .ok (.invokevirtual 67, 3) := by decide +kernel
theorem dX9_number_100 : decode cX9_number 100 = .ok (.iload_n 3, 1) := by decide +kernel
theorem dX9_number_101 : decode cX9_number 101 = .ok (.if_icmp .ne 7, 3) := by decide +kernel
theorem dX9_number_104 : decode cX9_number 104 = .ok (.iconst 1, 1) := by decide +kernel
theorem dX9_number_105 : decode cX9_number 105 = .ok (.goto 4, 3) := by decide +kernel
theorem dX9_number_108 : decode cX9_number 108 = .ok (.iconst 0, 1) := by decide +kernel
theorem dX9_number_109 : decode cX9_number 109 = .ok (.istore 5, 2) := by decide +kernel
theorem dX9_number_111 : decode cX9_number 111 = .ok (.aload_n 0, 1) := by decide +kernel
theorem dX9_number_112 : decode cX9_number 112 = .ok (.dup, 1) := by decide +kernel
theorem dX9_number_113 : decode cX9_number 113 = .ok (.getfield 64, 3) := by decide +kernel
theorem dX9_number_116 : decode cX9_number 116 = .ok (.iconst 1, 1) := by decide +kernel
theorem dX9_number_117 : decode cX9_number 117 = .ok (.iadd, 1) := by decide +kernel
theorem dX9_number_118 : decode cX9_number 118 = .ok (.putfield 64, 3) := by decide +kernel
theorem dX9_number_121 : decode cX9_number 121 = .ok (.iload 5, 2) := by decide +kernel
theorem dX9_number_123 : decode cX9_number 123 = .ok (.ifCond .eq 8, 3) := by decide +kernel
theorem dX9_number_126 : decode cX9_number 126 = .ok (.iload 4, 2) := by decide +kernel
theorem dX9_number_128 : decode cX9_number 128 = .ok (.goto 4, 3) := by decide +kernel
theorem dX9_number_131 : decode cX9_number 131 = .ok (.iconst (-1), 1) := by decide +kernel
theorem dX9_number_132 : decode cX9_number 132 = .ok (.ireturn, 1) := by decide +kernel
theorem dX9_begins_0 : decode cX9_begins 0 = .ok (.iconst 0, 1) := by decide +kernel
theorem dX9_begins_1 : decode cX9_begins 1 = .ok (.istore_n 1, 1) := by decide +kernel
theorem dX9_begins_2 : decode cX9_begins 2 = .ok (.iload_n 1, 1) := by decide +kernel
theorem dX9_begins_3 : decode cX9_begins 3 = .ok (.bipush 23, 2) := by decide +kernel
