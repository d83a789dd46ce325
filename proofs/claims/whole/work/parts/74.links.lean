/-! the law's links (written by wip/tools/gen_law.py) -/
/-- the law as a method of this walk, its name as the machine has it -/
abbrev jL (nm : String) : KJ := (⟨RL, nm, ""⟩, cL_law, wsL_law, 4, some .boolean, { frames := 9, cells := 600000, slots := 7302250, locals := 334 }, 117, 3112)
set_option maxRecDepth 20000 in
theorem mL_0 : Cond.classLink RL 7 RX8 ∈ wsL_law := List.mem_of_getElem? (i := 0) (by decide +kernel)
set_option maxRecDepth 20000 in
theorem mL_1 : Cond.instantiable RX8 8 ∈ wsL_law := List.mem_of_getElem? (i := 1) (by decide +kernel)
set_option maxRecDepth 20000 in
theorem mL_2 : Cond.initialized RX8 ∈ wsL_law := List.mem_of_getElem? (i := 2) (by decide +kernel)
set_option maxRecDepth 20000 in
theorem mL_3 : Cond.classLink RL 10 RX9 ∈ wsL_law := List.mem_of_getElem? (i := 3) (by decide +kernel)
set_option maxRecDepth 20000 in
theorem mL_4 : Cond.instantiable RX9 17 ∈ wsL_law := List.mem_of_getElem? (i := 4) (by decide +kernel)
set_option maxRecDepth 20000 in
theorem mL_5 : Cond.initialized RX9 ∈ wsL_law := List.mem_of_getElem? (i := 5) (by decide +kernel)
set_option maxRecDepth 20000 in
theorem mL_6 : Cond.methodLink RL 9 yX8_init ∈ wsL_law := List.mem_of_getElem? (i := 6) (by decide +kernel)
set_option maxRecDepth 20000 in
theorem mL_7 : Cond.instanceMethod yX8_init ∈ wsL_law := List.mem_of_getElem? (i := 7) (by decide +kernel)
set_option maxRecDepth 20000 in
theorem mL_267 : Cond.methodLink RL 12 yX9_init ∈ wsL_law := List.mem_of_getElem? (i := 267) (by decide +kernel)
set_option maxRecDepth 20000 in
theorem mL_268 : Cond.instanceMethod yX9_init ∈ wsL_law := List.mem_of_getElem? (i := 268) (by decide +kernel)
theorem vL_law_9 (nm : String) : KCI (jL nm) 9 jX8_init 0 := ⟨gL_law_X8_init, mL_2, mL_6, mL_7, rfl, rfl, ⟨⟨_, rfl⟩, ⟨by decide +kernel, by decide +kernel, by decide +kernel⟩, ⟨Nat.le_of_ble_eq_true rfl, Nat.le_of_ble_eq_true rfl⟩, rfl, rfl⟩⟩
theorem vL_law_12 (nm : String) : KCI (jL nm) 12 jX9_init 0 := ⟨gL_law_X9_init, mL_5, mL_267, mL_268, rfl, rfl, ⟨⟨_, rfl⟩, ⟨by decide +kernel, by decide +kernel, by decide +kernel⟩, ⟨Nat.le_of_ble_eq_true rfl, Nat.le_of_ble_eq_true rfl⟩, rfl, rfl⟩⟩
theorem nL_law_7 (nm : String) : KNw (jL nm) 7 RX8 TX8 8 := ⟨inlX8, mL_0, mL_1, mL_2⟩
theorem nL_law_10 (nm : String) : KNw (jL nm) 10 RX9 TX9 17 := ⟨inlX9, mL_3, mL_4, mL_5⟩
theorem vL_law_13 (nm : String) : KCV (jL nm) 13 jX8_write 1 := ⟨gL_law_X8_write, ⟨⟨_, rfl⟩, ⟨by decide +kernel, by decide +kernel, by decide +kernel⟩, ⟨Nat.le_of_ble_eq_true rfl, Nat.le_of_ble_eq_true rfl⟩, rfl, rfl⟩⟩
theorem vL_law_17 (nm : String) : KCV (jL nm) 17 jX9_write 1 := ⟨gL_law_X9_write, ⟨⟨_, rfl⟩, ⟨by decide +kernel, by decide +kernel, by decide +kernel⟩, ⟨Nat.le_of_ble_eq_true rfl, Nat.le_of_ble_eq_true rfl⟩, rfl, rfl⟩⟩
theorem vL_law_18 (nm : String) : KCV (jL nm) 18 jX8_wipe 0 := ⟨gL_law_X8_wipe, ⟨⟨_, rfl⟩, ⟨by decide +kernel, by decide +kernel, by decide +kernel⟩, ⟨Nat.le_of_ble_eq_true rfl, Nat.le_of_ble_eq_true rfl⟩, rfl, rfl⟩⟩
theorem vL_law_22 (nm : String) : KCV (jL nm) 22 jX9_wipe 0 := ⟨gL_law_X9_wipe, ⟨⟨_, rfl⟩, ⟨by decide +kernel, by decide +kernel, by decide +kernel⟩, ⟨Nat.le_of_ble_eq_true rfl, Nat.le_of_ble_eq_true rfl⟩, rfl, rfl⟩⟩
theorem vL_law_23 (nm : String) : KCV (jL nm) 23 jX8_fault 0 := ⟨gL_law_X8_fault, ⟨⟨_, rfl⟩, ⟨by decide +kernel, by decide +kernel, by decide +kernel⟩, ⟨Nat.le_of_ble_eq_true rfl, Nat.le_of_ble_eq_true rfl⟩, rfl, rfl⟩⟩
theorem vL_law_26 (nm : String) : KCV (jL nm) 26 jX9_fault 0 := ⟨gL_law_X9_fault, ⟨⟨_, rfl⟩, ⟨by decide +kernel, by decide +kernel, by decide +kernel⟩, ⟨Nat.le_of_ble_eq_true rfl, Nat.le_of_ble_eq_true rfl⟩, rfl, rfl⟩⟩
theorem vL_law_27 (nm : String) : KCV (jL nm) 27 jX8_lay 0 := ⟨gL_law_X8_lay, ⟨⟨_, rfl⟩, ⟨by decide +kernel, by decide +kernel, by decide +kernel⟩, ⟨Nat.le_of_ble_eq_true rfl, Nat.le_of_ble_eq_true rfl⟩, rfl, rfl⟩⟩
theorem vL_law_30 (nm : String) : KCV (jL nm) 30 jX9_lay 0 := ⟨gL_law_X9_lay, ⟨⟨_, rfl⟩, ⟨by decide +kernel, by decide +kernel, by decide +kernel⟩, ⟨Nat.le_of_ble_eq_true rfl, Nat.le_of_ble_eq_true rfl⟩, rfl, rfl⟩⟩
theorem vL_law_31 (nm : String) : KCV (jL nm) 31 jX8_person 2 := ⟨gL_law_X8_person, ⟨⟨_, rfl⟩, ⟨by decide +kernel, by decide +kernel, by decide +kernel⟩, ⟨Nat.le_of_ble_eq_true rfl, Nat.le_of_ble_eq_true rfl⟩, rfl, rfl⟩⟩
theorem vL_law_35 (nm : String) : KCV (jL nm) 35 jX9_person 2 := ⟨gL_law_X9_person, ⟨⟨_, rfl⟩, ⟨by decide +kernel, by decide +kernel, by decide +kernel⟩, ⟨Nat.le_of_ble_eq_true rfl, Nat.le_of_ble_eq_true rfl⟩, rfl, rfl⟩⟩
theorem vL_law_36 (nm : String) : KCV (jL nm) 36 jX8_owes 2 := ⟨gL_law_X8_owes, ⟨⟨_, rfl⟩, ⟨by decide +kernel, by decide +kernel, by decide +kernel⟩, ⟨Nat.le_of_ble_eq_true rfl, Nat.le_of_ble_eq_true rfl⟩, rfl, rfl⟩⟩
theorem vL_law_39 (nm : String) : KCV (jL nm) 39 jX9_owes 2 := ⟨gL_law_X9_owes, ⟨⟨_, rfl⟩, ⟨by decide +kernel, by decide +kernel, by decide +kernel⟩, ⟨Nat.le_of_ble_eq_true rfl, Nat.le_of_ble_eq_true rfl⟩, rfl, rfl⟩⟩
theorem vL_law_40 (nm : String) : KCV (jL nm) 40 jX8_place 1 := ⟨gL_law_X8_place, ⟨⟨_, rfl⟩, ⟨by decide +kernel, by decide +kernel, by decide +kernel⟩, ⟨Nat.le_of_ble_eq_true rfl, Nat.le_of_ble_eq_true rfl⟩, rfl, rfl⟩⟩
theorem vL_law_43 (nm : String) : KCV (jL nm) 43 jX9_place 1 := ⟨gL_law_X9_place, ⟨⟨_, rfl⟩, ⟨by decide +kernel, by decide +kernel, by decide +kernel⟩, ⟨Nat.le_of_ble_eq_true rfl, Nat.le_of_ble_eq_true rfl⟩, rfl, rfl⟩⟩
theorem vL_law_44 (nm : String) : KCV (jL nm) 44 jX8_would 1 := ⟨gL_law_X8_would, ⟨⟨_, rfl⟩, ⟨by decide +kernel, by decide +kernel, by decide +kernel⟩, ⟨Nat.le_of_ble_eq_true rfl, Nat.le_of_ble_eq_true rfl⟩, rfl, rfl⟩⟩
theorem vL_law_47 (nm : String) : KCV (jL nm) 47 jX9_would 1 := ⟨gL_law_X9_would, ⟨⟨_, rfl⟩, ⟨by decide +kernel, by decide +kernel, by decide +kernel⟩, ⟨Nat.le_of_ble_eq_true rfl, Nat.le_of_ble_eq_true rfl⟩, rfl, rfl⟩⟩
theorem vL_law_48 (nm : String) : KCV (jL nm) 48 jX8_pass 1 := ⟨gL_law_X8_pass, ⟨⟨_, rfl⟩, ⟨by decide +kernel, by decide +kernel, by decide +kernel⟩, ⟨Nat.le_of_ble_eq_true rfl, Nat.le_of_ble_eq_true rfl⟩, rfl, rfl⟩⟩
theorem vL_law_51 (nm : String) : KCV (jL nm) 51 jX9_pass 1 := ⟨gL_law_X9_pass, ⟨⟨_, rfl⟩, ⟨by decide +kernel, by decide +kernel, by decide +kernel⟩, ⟨Nat.le_of_ble_eq_true rfl, Nat.le_of_ble_eq_true rfl⟩, rfl, rfl⟩⟩
theorem vL_law_52 (nm : String) : KCV (jL nm) 52 jX8_let 2 := ⟨gL_law_X8_let, ⟨⟨_, rfl⟩, ⟨by decide +kernel, by decide +kernel, by decide +kernel⟩, ⟨Nat.le_of_ble_eq_true rfl, Nat.le_of_ble_eq_true rfl⟩, rfl, rfl⟩⟩
theorem vL_law_55 (nm : String) : KCV (jL nm) 55 jX9_let 2 := ⟨gL_law_X9_let, ⟨⟨_, rfl⟩, ⟨by decide +kernel, by decide +kernel, by decide +kernel⟩, ⟨Nat.le_of_ble_eq_true rfl, Nat.le_of_ble_eq_true rfl⟩, rfl, rfl⟩⟩
theorem vL_law_56 (nm : String) : KCV (jL nm) 56 jX8_leave 1 := ⟨gL_law_X8_leave, ⟨⟨_, rfl⟩, ⟨by decide +kernel, by decide +kernel, by decide +kernel⟩, ⟨Nat.le_of_ble_eq_true rfl, Nat.le_of_ble_eq_true rfl⟩, rfl, rfl⟩⟩
theorem vL_law_59 (nm : String) : KCV (jL nm) 59 jX9_leave 1 := ⟨gL_law_X9_leave, ⟨⟨_, rfl⟩, ⟨by decide +kernel, by decide +kernel, by decide +kernel⟩, ⟨Nat.le_of_ble_eq_true rfl, Nat.le_of_ble_eq_true rfl⟩, rfl, rfl⟩⟩
theorem vL_law_60 (nm : String) : KCV (jL nm) 60 jX8_come 1 := ⟨gL_law_X8_come, ⟨⟨_, rfl⟩, ⟨by decide +kernel, by decide +kernel, by decide +kernel⟩, ⟨Nat.le_of_ble_eq_true rfl, Nat.le_of_ble_eq_true rfl⟩, rfl, rfl⟩⟩
theorem vL_law_63 (nm : String) : KCV (jL nm) 63 jX9_come 1 := ⟨gL_law_X9_come, ⟨⟨_, rfl⟩, ⟨by decide +kernel, by decide +kernel, by decide +kernel⟩, ⟨Nat.le_of_ble_eq_true rfl, Nat.le_of_ble_eq_true rfl⟩, rfl, rfl⟩⟩
theorem vL_law_64 (nm : String) : KCV (jL nm) 64 jX8_pay 2 := ⟨gL_law_X8_pay, ⟨⟨_, rfl⟩, ⟨by decide +kernel, by decide +kernel, by decide +kernel⟩, ⟨Nat.le_of_ble_eq_true rfl, Nat.le_of_ble_eq_true rfl⟩, rfl, rfl⟩⟩
theorem vL_law_67 (nm : String) : KCV (jL nm) 67 jX9_pay 2 := ⟨gL_law_X9_pay, ⟨⟨_, rfl⟩, ⟨by decide +kernel, by decide +kernel, by decide +kernel⟩, ⟨Nat.le_of_ble_eq_true rfl, Nat.le_of_ble_eq_true rfl⟩, rfl, rfl⟩⟩
theorem vL_law_68 (nm : String) : KCV (jL nm) 68 jX8_undo 0 := ⟨gL_law_X8_undo, ⟨⟨_, rfl⟩, ⟨by decide +kernel, by decide +kernel, by decide +kernel⟩, ⟨Nat.le_of_ble_eq_true rfl, Nat.le_of_ble_eq_true rfl⟩, rfl, rfl⟩⟩
theorem vL_law_71 (nm : String) : KCV (jL nm) 71 jX9_undo 0 := ⟨gL_law_X9_undo, ⟨⟨_, rfl⟩, ⟨by decide +kernel, by decide +kernel, by decide +kernel⟩, ⟨Nat.le_of_ble_eq_true rfl, Nat.le_of_ble_eq_true rfl⟩, rfl, rfl⟩⟩
theorem vL_law_72 (nm : String) : KCV (jL nm) 72 jX8_behind 3 := ⟨gL_law_X8_behind, ⟨⟨_, rfl⟩, ⟨by decide +kernel, by decide +kernel, by decide +kernel⟩, ⟨Nat.le_of_ble_eq_true rfl, Nat.le_of_ble_eq_true rfl⟩, rfl, rfl⟩⟩
theorem vL_law_76 (nm : String) : KCV (jL nm) 76 jX9_behind 3 := ⟨gL_law_X9_behind, ⟨⟨_, rfl⟩, ⟨by decide +kernel, by decide +kernel, by decide +kernel⟩, ⟨Nat.le_of_ble_eq_true rfl, Nat.le_of_ble_eq_true rfl⟩, rfl, rfl⟩⟩
theorem vL_law_77 (nm : String) : KCV (jL nm) 77 jX8_served 1 := ⟨gL_law_X8_served, ⟨⟨_, rfl⟩, ⟨by decide +kernel, by decide +kernel, by decide +kernel⟩, ⟨Nat.le_of_ble_eq_true rfl, Nat.le_of_ble_eq_true rfl⟩, rfl, rfl⟩⟩
theorem vL_law_80 (nm : String) : KCV (jL nm) 80 jX9_served 1 := ⟨gL_law_X9_served, ⟨⟨_, rfl⟩, ⟨by decide +kernel, by decide +kernel, by decide +kernel⟩, ⟨Nat.le_of_ble_eq_true rfl, Nat.le_of_ble_eq_true rfl⟩, rfl, rfl⟩⟩
theorem vL_law_81 (nm : String) : KCV (jL nm) 81 jX8_stand 3 := ⟨gL_law_X8_stand, ⟨⟨_, rfl⟩, ⟨by decide +kernel, by decide +kernel, by decide +kernel⟩, ⟨Nat.le_of_ble_eq_true rfl, Nat.le_of_ble_eq_true rfl⟩, rfl, rfl⟩⟩
theorem vL_law_84 (nm : String) : KCV (jL nm) 84 jX9_stand 3 := ⟨gL_law_X9_stand, ⟨⟨_, rfl⟩, ⟨by decide +kernel, by decide +kernel, by decide +kernel⟩, ⟨Nat.le_of_ble_eq_true rfl, Nat.le_of_ble_eq_true rfl⟩, rfl, rfl⟩⟩
theorem vL_law_85 (nm : String) : KCV (jL nm) 85 jX8_haste 2 := ⟨gL_law_X8_haste, ⟨⟨_, rfl⟩, ⟨by decide +kernel, by decide +kernel, by decide +kernel⟩, ⟨Nat.le_of_ble_eq_true rfl, Nat.le_of_ble_eq_true rfl⟩, rfl, rfl⟩⟩
theorem vL_law_88 (nm : String) : KCV (jL nm) 88 jX9_haste 2 := ⟨gL_law_X9_haste, ⟨⟨_, rfl⟩, ⟨by decide +kernel, by decide +kernel, by decide +kernel⟩, ⟨Nat.le_of_ble_eq_true rfl, Nat.le_of_ble_eq_true rfl⟩, rfl, rfl⟩⟩
theorem vL_law_89 (nm : String) : KCV (jL nm) 89 jX8_clear 0 := ⟨gL_law_X8_clear, ⟨⟨_, rfl⟩, ⟨by decide +kernel, by decide +kernel, by decide +kernel⟩, ⟨Nat.le_of_ble_eq_true rfl, Nat.le_of_ble_eq_true rfl⟩, rfl, rfl⟩⟩
theorem vL_law_92 (nm : String) : KCV (jL nm) 92 jX9_clear 0 := ⟨gL_law_X9_clear, ⟨⟨_, rfl⟩, ⟨by decide +kernel, by decide +kernel, by decide +kernel⟩, ⟨Nat.le_of_ble_eq_true rfl, Nat.le_of_ble_eq_true rfl⟩, rfl, rfl⟩⟩
theorem vL_law_93 (nm : String) : KCV (jL nm) 93 jX8_miss 1 := ⟨gL_law_X8_miss, ⟨⟨_, rfl⟩, ⟨by decide +kernel, by decide +kernel, by decide +kernel⟩, ⟨Nat.le_of_ble_eq_true rfl, Nat.le_of_ble_eq_true rfl⟩, rfl, rfl⟩⟩
theorem vL_law_96 (nm : String) : KCV (jL nm) 96 jX9_miss 1 := ⟨gL_law_X9_miss, ⟨⟨_, rfl⟩, ⟨by decide +kernel, by decide +kernel, by decide +kernel⟩, ⟨Nat.le_of_ble_eq_true rfl, Nat.le_of_ble_eq_true rfl⟩, rfl, rfl⟩⟩
theorem vL_law_97 (nm : String) : KCV (jL nm) 97 jX8_see 3 := ⟨gL_law_X8_see, ⟨⟨_, rfl⟩, ⟨by decide +kernel, by decide +kernel, by decide +kernel⟩, ⟨Nat.le_of_ble_eq_true rfl, Nat.le_of_ble_eq_true rfl⟩, rfl, rfl⟩⟩
theorem vL_law_100 (nm : String) : KCV (jL nm) 100 jX9_see 3 := ⟨gL_law_X9_see, ⟨⟨_, rfl⟩, ⟨by decide +kernel, by decide +kernel, by decide +kernel⟩, ⟨Nat.le_of_ble_eq_true rfl, Nat.le_of_ble_eq_true rfl⟩, rfl, rfl⟩⟩
theorem vL_law_101 (nm : String) : KCV (jL nm) 101 jX8_forget 0 := ⟨gL_law_X8_forget, ⟨⟨_, rfl⟩, ⟨by decide +kernel, by decide +kernel, by decide +kernel⟩, ⟨Nat.le_of_ble_eq_true rfl, Nat.le_of_ble_eq_true rfl⟩, rfl, rfl⟩⟩
theorem vL_law_104 (nm : String) : KCV (jL nm) 104 jX9_forget 0 := ⟨gL_law_X9_forget, ⟨⟨_, rfl⟩, ⟨by decide +kernel, by decide +kernel, by decide +kernel⟩, ⟨Nat.le_of_ble_eq_true rfl, Nat.le_of_ble_eq_true rfl⟩, rfl, rfl⟩⟩
theorem vL_law_105 (nm : String) : KCV (jL nm) 105 jX8_orders 1 := ⟨gL_law_X8_orders, ⟨⟨_, rfl⟩, ⟨by decide +kernel, by decide +kernel, by decide +kernel⟩, ⟨Nat.le_of_ble_eq_true rfl, Nat.le_of_ble_eq_true rfl⟩, rfl, rfl⟩⟩
theorem vL_law_108 (nm : String) : KCV (jL nm) 108 jX9_orders 1 := ⟨gL_law_X9_orders, ⟨⟨_, rfl⟩, ⟨by decide +kernel, by decide +kernel, by decide +kernel⟩, ⟨Nat.le_of_ble_eq_true rfl, Nat.le_of_ble_eq_true rfl⟩, rfl, rfl⟩⟩
theorem vL_law_109 (nm : String) : KCV (jL nm) 109 jX8_kinds 1 := ⟨gL_law_X8_kinds, ⟨⟨_, rfl⟩, ⟨by decide +kernel, by decide +kernel, by decide +kernel⟩, ⟨Nat.le_of_ble_eq_true rfl, Nat.le_of_ble_eq_true rfl⟩, rfl, rfl⟩⟩
theorem vL_law_112 (nm : String) : KCV (jL nm) 112 jX9_kinds 1 := ⟨gL_law_X9_kinds, ⟨⟨_, rfl⟩, ⟨by decide +kernel, by decide +kernel, by decide +kernel⟩, ⟨Nat.le_of_ble_eq_true rfl, Nat.le_of_ble_eq_true rfl⟩, rfl, rfl⟩⟩
theorem vL_law_113 (nm : String) : KCV (jL nm) 113 jX8_rain 4 := ⟨gL_law_X8_rain, ⟨⟨_, rfl⟩, ⟨by decide +kernel, by decide +kernel, by decide +kernel⟩, ⟨Nat.le_of_ble_eq_true rfl, Nat.le_of_ble_eq_true rfl⟩, rfl, rfl⟩⟩
theorem vL_law_117 (nm : String) : KCV (jL nm) 117 jX9_rain 4 := ⟨gL_law_X9_rain, ⟨⟨_, rfl⟩, ⟨by decide +kernel, by decide +kernel, by decide +kernel⟩, ⟨Nat.le_of_ble_eq_true rfl, Nat.le_of_ble_eq_true rfl⟩, rfl, rfl⟩⟩
theorem vL_law_118 (nm : String) : KCV (jL nm) 118 jX8_day 3 := ⟨gL_law_X8_day, ⟨⟨_, rfl⟩, ⟨by decide +kernel, by decide +kernel, by decide +kernel⟩, ⟨Nat.le_of_ble_eq_true rfl, Nat.le_of_ble_eq_true rfl⟩, rfl, rfl⟩⟩
theorem vL_law_121 (nm : String) : KCV (jL nm) 121 jX9_day 3 := ⟨gL_law_X9_day, ⟨⟨_, rfl⟩, ⟨by decide +kernel, by decide +kernel, by decide +kernel⟩, ⟨Nat.le_of_ble_eq_true rfl, Nat.le_of_ble_eq_true rfl⟩, rfl, rfl⟩⟩
theorem vL_law_122 (nm : String) : KCV (jL nm) 122 jX8_keep 0 := ⟨gL_law_X8_keep, ⟨⟨_, rfl⟩, ⟨by decide +kernel, by decide +kernel, by decide +kernel⟩, ⟨Nat.le_of_ble_eq_true rfl, Nat.le_of_ble_eq_true rfl⟩, rfl, rfl⟩⟩
theorem vL_law_125 (nm : String) : KCV (jL nm) 125 jX9_keep 0 := ⟨gL_law_X9_keep, ⟨⟨_, rfl⟩, ⟨by decide +kernel, by decide +kernel, by decide +kernel⟩, ⟨Nat.le_of_ble_eq_true rfl, Nat.le_of_ble_eq_true rfl⟩, rfl, rfl⟩⟩
theorem vL_law_126 (nm : String) : KCV (jL nm) 126 jX8_back 0 := ⟨gL_law_X8_back, ⟨⟨_, rfl⟩, ⟨by decide +kernel, by decide +kernel, by decide +kernel⟩, ⟨Nat.le_of_ble_eq_true rfl, Nat.le_of_ble_eq_true rfl⟩, rfl, rfl⟩⟩
theorem vL_law_129 (nm : String) : KCV (jL nm) 129 jX9_back 0 := ⟨gL_law_X9_back, ⟨⟨_, rfl⟩, ⟨by decide +kernel, by decide +kernel, by decide +kernel⟩, ⟨Nat.le_of_ble_eq_true rfl, Nat.le_of_ble_eq_true rfl⟩, rfl, rfl⟩⟩
theorem vL_law_130 (nm : String) : KCV (jL nm) 130 jX8_count 1 := ⟨gL_law_X8_count, ⟨⟨_, rfl⟩, ⟨by decide +kernel, by decide +kernel, by decide +kernel⟩, ⟨Nat.le_of_ble_eq_true rfl, Nat.le_of_ble_eq_true rfl⟩, rfl, rfl⟩⟩
theorem vL_law_133 (nm : String) : KCV (jL nm) 133 jX9_count 1 := ⟨gL_law_X9_count, ⟨⟨_, rfl⟩, ⟨by decide +kernel, by decide +kernel, by decide +kernel⟩, ⟨Nat.le_of_ble_eq_true rfl, Nat.le_of_ble_eq_true rfl⟩, rfl, rfl⟩⟩
theorem QsM.fr {G : KG} {N a lo hi : Nat} {w w1 : WD} {S : St} (h : QsM G N w a S) (hE : Eqx w w1 lo hi) (hk : a + 104 ≤ lo ∨ hi ≤ a) : QsM G N w1 a S := by
  obtain ⟨h1, h2, h3, h4, h5, h6, h7, h8, h9⟩ := h
  exact ⟨Is.fr h1 hE (by omega), h2.fr hE (by omega), h3.fr hE (by omega), h4.fr hE (by omega), h5.fr hE (by omega), h6.fr hE (by omega), h7.fr hE (by omega), h8.fr hE (by omega), h9.fr hE (by omega)⟩
theorem RsM.mn {G : KG} {N N2 b : Nat} {w : WD} {S : St} {M : Mo} {oA : Option Mo} (h : RsM G N w b S M oA) (hN : N ≤ N2) : RsM G N2 w b S M oA := by
  obtain ⟨at_, tx, to_, dr, be, s, pa, im, nt, ah, sd, gr, ro, h1, h2⟩ := h
  exact ⟨at_, tx, to_, dr, be, s, pa, im, nt, ah, sd, gr, ro, h1.mn hN, h2⟩
theorem law_and (x : Int32) : ∃ k, k < 32 ∧ x &&& nI 31 = nI k := by
  refine ⟨(x &&& nI 31).toBitVec.toNat, ?_, ?_⟩
  · have h : (x &&& nI 31).toBitVec = x.toBitVec &&& (nI 31).toBitVec := Int32.toBitVec_and x (nI 31)
    rw [h, BitVec.toNat_and, show (nI 31).toBitVec.toNat = 31 by decide]
    exact Nat.lt_of_le_of_lt Nat.and_le_right (by decide)
  · apply Int32.toBitVec_inj.mp
    apply BitVec.eq_of_toNat_eq
    unfold nI
    rw [Int32.toBitVec_ofNat', BitVec.toNat_ofNat]
    exact (Nat.mod_eq_of_lt (BitVec.isLt _)).symm
theorem law_sub {n : Nat} (hn : n ≤ 2560) : (nI n - nI 5).toInt = (n : Int) - 5 := by
  rw [Int32.toInt_sub, nI_toInt (by omega), nI_toInt (by omega)]
  exact Int.bmod_eq_of_le (by omega) (by omega)
