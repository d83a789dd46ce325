/-! for each method its KJ, for each link its row (written by wip/tools/gen_packs.py) -/
abbrev jX4_init : KJ := (yX4_init, cX4_init, wsX4_init, 1, none, { frames := 1, cells := 4, slots := 70, locals := 12 }, 4, 70)
set_option maxRecDepth 20000 in
theorem pX4_init_9 : KFp jX4_init 9 3 0 (.array .int) := ⟨RX4, TX4, 6, rfl, by decide, (fun _ h => List.mem_cons_of_mem _ (List.mem_append_right _ h)), (List.mem_of_getElem? (i := 5) (by decide +kernel)), ⟨tyX4, tyX4_ok⟩, nmX4, by decide +kernel, Or.inr ⟨rfl, rfl, rfl⟩⟩
set_option maxRecDepth 20000 in
theorem pX4_init_15 : KFp jX4_init 15 3 1 (.array .int) := ⟨RX4, TX4, 6, rfl, by decide, (fun _ h => List.mem_cons_of_mem _ (List.mem_append_right _ h)), (List.mem_of_getElem? (i := 6) (by decide +kernel)), ⟨tyX4, tyX4_ok⟩, nmX4, by decide +kernel, Or.inr ⟨rfl, rfl, rfl⟩⟩
set_option maxRecDepth 20000 in
theorem pX4_init_18 : KFp jX4_init 18 3 2 (.array .int) := ⟨RX4, TX4, 6, rfl, by decide, (fun _ h => List.mem_cons_of_mem _ (List.mem_append_right _ h)), (List.mem_of_getElem? (i := 7) (by decide +kernel)), ⟨tyX4, tyX4_ok⟩, nmX4, by decide +kernel, Or.inr ⟨rfl, rfl, rfl⟩⟩
set_option maxRecDepth 20000 in
theorem pX4_init_21 : KFp jX4_init 21 3 3 (.array .int) := ⟨RX4, TX4, 6, rfl, by decide, (fun _ h => List.mem_cons_of_mem _ (List.mem_append_right _ h)), (List.mem_of_getElem? (i := 8) (by decide +kernel)), ⟨tyX4, tyX4_ok⟩, nmX4, by decide +kernel, Or.inr ⟨rfl, rfl, rfl⟩⟩
set_option maxRecDepth 20000 in
theorem oX4_init_3 : Cond.methodLink jX4_init.1.cls 3 objectInit ∈ jX4_init.2.2.1 ∧ Cond.instanceMethod objectInit ∈ jX4_init.2.2.1 ∧ Cond.code objectInit ⟨#[0xb1]⟩ 1 none ∈ jX4_init.2.2.1 := ⟨(List.mem_of_getElem? (i := 1) (by decide +kernel)), (List.mem_of_getElem? (i := 2) (by decide +kernel)), (List.mem_of_getElem? (i := 3) (by decide +kernel))⟩
abbrev jX0_init : KJ := (yX0_init, cX0_init, wsX0_init, 3, none, { frames := 2, cells := 5, slots := 76, locals := 32 }, 5, 76)
set_option maxRecDepth 20000 in
theorem pX0_init_10 : KFp jX0_init 10 0 4 (.object "KerbQueue$Scene") := ⟨RX0, TX0, 5, rfl, by decide, (fun _ h => List.mem_cons_of_mem _ (List.mem_append_right _ h)), (List.mem_of_getElem? (i := 7) (by decide +kernel)), ⟨tyX0, tyX0_ok⟩, nmX0, by decide +kernel, Or.inr ⟨rfl, rfl, rfl⟩⟩
set_option maxRecDepth 20000 in
theorem pX0_init_16 : KFp jX0_init 16 0 2 (.object "KerbQueue$Folk") := ⟨RX0, TX0, 5, rfl, by decide, (fun _ h => List.mem_cons_of_mem _ (List.mem_append_right _ h)), (List.mem_of_getElem? (i := 8) (by decide +kernel)), ⟨tyX0, tyX0_ok⟩, nmX0, by decide +kernel, Or.inr ⟨rfl, rfl, rfl⟩⟩
set_option maxRecDepth 20000 in
theorem pX0_init_20 : KFp jX0_init 20 0 3 (.object "KerbQueue$Scene") := ⟨RX0, TX0, 5, rfl, by decide, (fun _ h => List.mem_cons_of_mem _ (List.mem_append_right _ h)), (List.mem_of_getElem? (i := 9) (by decide +kernel)), ⟨tyX0, tyX0_ok⟩, nmX0, by decide +kernel, Or.inr ⟨rfl, rfl, rfl⟩⟩
set_option maxRecDepth 20000 in
theorem oX0_init_1 : Cond.methodLink jX0_init.1.cls 1 objectInit ∈ jX0_init.2.2.1 ∧ Cond.instanceMethod objectInit ∈ jX0_init.2.2.1 ∧ Cond.code objectInit ⟨#[0xb1]⟩ 1 none ∈ jX0_init.2.2.1 := ⟨(List.mem_of_getElem? (i := 1) (by decide +kernel)), (List.mem_of_getElem? (i := 2) (by decide +kernel)), (List.mem_of_getElem? (i := 3) (by decide +kernel))⟩
set_option maxRecDepth 20000 in
theorem vX0_init_9 : KCIN jX0_init 9 jX4_init 0 := ⟨gX0_init_X4_init_n9, (List.mem_of_getElem? (i := 6) (by decide +kernel)), show (RX0, 9, yX4_init) ∈ kqNest by decide +kernel, (List.mem_of_getElem? (i := 10) (by decide +kernel)), rfl, rfl, ⟨⟨_, rfl⟩, ⟨by decide +kernel, by decide +kernel, by decide +kernel⟩, ⟨by decide, by decide⟩, rfl, rfl⟩⟩
abbrev jX0_weightOf : KJ := (yX0_weightOf, cX0_weightOf, wsX0_weightOf, 5, (some .int), { frames := 0, cells := 0, slots := 0, locals := 0 }, 0, 0)
abbrev jX3_copy : KJ := (yX3_copy, cX3_copy, wsX3_copy, 2, none, { frames := 1, cells := 0, slots := 0, locals := 21 }, 0, 0)
set_option maxRecDepth 20000 in
theorem vX3_copy_7 : KMn jX3_copy 7 := ⟨(List.mem_of_getElem? (i := 1) (by decide +kernel)), (List.mem_of_getElem? (i := 2) (by decide +kernel)), (List.mem_of_getElem? (i := 3) (by decide +kernel)), (List.mem_of_getElem? (i := 4) (by decide +kernel)), Nat.le_of_ble_eq_true rfl⟩
set_option maxRecDepth 20000 in
theorem vX3_copy_13 : Cond.methodLink jX3_copy.1.cls 13 arraycopyName ∈ jX3_copy.2.2.1 ∧ Cond.native arraycopyName ∈ jX3_copy.2.2.1 ∧ Cond.static arraycopyName ∈ jX3_copy.2.2.1 ∧ Cond.initialized "java/lang/System" ∈ jX3_copy.2.2.1 := ⟨(List.mem_of_getElem? (i := 5) (by decide +kernel)), (List.mem_of_getElem? (i := 6) (by decide +kernel)), (List.mem_of_getElem? (i := 7) (by decide +kernel)), (List.mem_of_getElem? (i := 8) (by decide +kernel))⟩
abbrev jX4_copyFrom : KJ := (yX4_copyFrom, cX4_copyFrom, wsX4_copyFrom, 2, none, { frames := 2, cells := 0, slots := 0, locals := 42 }, 0, 0)
set_option maxRecDepth 20000 in
theorem fX4_copyFrom_9 : KF jX4_copyFrom 9 3 0 := ⟨RX4, TX4, 6, rfl, by decide, (fun _ h => List.mem_cons_of_mem _ (List.mem_append_right _ h)), (List.mem_of_getElem? (i := 1) (by decide +kernel))⟩
set_option maxRecDepth 20000 in
theorem fX4_copyFrom_15 : KF jX4_copyFrom 15 3 1 := ⟨RX4, TX4, 6, rfl, by decide, (fun _ h => List.mem_cons_of_mem _ (List.mem_append_right _ h)), (List.mem_of_getElem? (i := 2) (by decide +kernel))⟩
set_option maxRecDepth 20000 in
theorem fX4_copyFrom_18 : KF jX4_copyFrom 18 3 2 := ⟨RX4, TX4, 6, rfl, by decide, (fun _ h => List.mem_cons_of_mem _ (List.mem_append_right _ h)), (List.mem_of_getElem? (i := 3) (by decide +kernel))⟩
set_option maxRecDepth 20000 in
theorem fX4_copyFrom_21 : KF jX4_copyFrom 21 3 3 := ⟨RX4, TX4, 6, rfl, by decide, (fun _ h => List.mem_cons_of_mem _ (List.mem_append_right _ h)), (List.mem_of_getElem? (i := 4) (by decide +kernel))⟩
set_option maxRecDepth 20000 in
theorem fX4_copyFrom_24 : KF jX4_copyFrom 24 3 4 := ⟨RX4, TX4, 6, rfl, by decide, (fun _ h => List.mem_cons_of_mem _ (List.mem_append_right _ h)), (List.mem_of_getElem? (i := 5) (by decide +kernel))⟩
set_option maxRecDepth 20000 in
theorem pX4_copyFrom_24 : KFp jX4_copyFrom 24 3 4 .int := ⟨RX4, TX4, 6, rfl, by decide, (fun _ h => List.mem_cons_of_mem _ (List.mem_append_right _ h)), (List.mem_of_getElem? (i := 5) (by decide +kernel)), ⟨tyX4, tyX4_ok⟩, nmX4, by decide +kernel, Or.inl rfl⟩
set_option maxRecDepth 20000 in
theorem fX4_copyFrom_28 : KF jX4_copyFrom 28 3 5 := ⟨RX4, TX4, 6, rfl, by decide, (fun _ h => List.mem_cons_of_mem _ (List.mem_append_right _ h)), (List.mem_of_getElem? (i := 6) (by decide +kernel))⟩
set_option maxRecDepth 20000 in
theorem pX4_copyFrom_28 : KFp jX4_copyFrom 28 3 5 .int := ⟨RX4, TX4, 6, rfl, by decide, (fun _ h => List.mem_cons_of_mem _ (List.mem_append_right _ h)), (List.mem_of_getElem? (i := 6) (by decide +kernel)), ⟨tyX4, tyX4_ok⟩, nmX4, by decide +kernel, Or.inl rfl⟩
set_option maxRecDepth 20000 in
theorem vX4_copyFrom_31 : KCS jX4_copyFrom 31 jX3_copy 2 := ⟨gX4_copyFrom_X3_copy, ⟨⟨_, rfl⟩, ⟨by decide +kernel, by decide +kernel, by decide +kernel⟩, ⟨by decide, by decide⟩, rfl, rfl⟩⟩
abbrev jX3_at : KJ := (yX3_at, cX3_at, wsX3_at, 2, (some .int), { frames := 0, cells := 0, slots := 0, locals := 0 }, 0, 0)
abbrev jX3_isMultiple : KJ := (yX3_isMultiple, cX3_isMultiple, wsX3_isMultiple, 2, (some .boolean), { frames := 0, cells := 0, slots := 0, locals := 0 }, 0, 0)
abbrev jX1_gain : KJ := (yX1_gain, cX1_gain, wsX1_gain, 3, (some .int), { frames := 1, cells := 0, slots := 0, locals := 21 }, 0, 0)
set_option maxRecDepth 20000 in
theorem fX1_gain_15 : KF jX1_gain 15 1 1 := ⟨RX1, TX1, 5, rfl, by decide, (fun _ h => List.mem_cons_of_mem _ (List.mem_append_right _ h)), (List.mem_of_getElem? (i := 1) (by decide +kernel))⟩
set_option maxRecDepth 20000 in
theorem vX1_gain_38 : KCS jX1_gain 38 jX3_at 2 := ⟨gX1_gain_X3_at, ⟨⟨_, rfl⟩, ⟨by decide +kernel, by decide +kernel, by decide +kernel⟩, ⟨by decide, by decide⟩, rfl, rfl⟩⟩
abbrev jX4_wantsFor : KJ := (yX4_wantsFor, cX4_wantsFor, wsX4_wantsFor, 4, (some .boolean), { frames := 1, cells := 0, slots := 0, locals := 21 }, 0, 0)
set_option maxRecDepth 20000 in
theorem fX4_wantsFor_77 : KF jX4_wantsFor 77 1 0 := ⟨RX1, TX1, 5, rfl, by decide, (fun _ h => List.mem_cons_of_mem _ (List.mem_append_left _ (List.mem_append_right _ h))), (List.mem_of_getElem? (i := 1) (by decide +kernel))⟩
set_option maxRecDepth 20000 in
theorem fX4_wantsFor_18 : KF jX4_wantsFor 18 3 2 := ⟨RX4, TX4, 6, rfl, by decide, (fun _ h => List.mem_cons_of_mem _ (List.mem_append_right _ h)), (List.mem_of_getElem? (i := 2) (by decide +kernel))⟩
set_option maxRecDepth 20000 in
theorem vX4_wantsFor_37 : KCS jX4_wantsFor 37 jX3_at 2 := ⟨gX4_wantsFor_X3_at, ⟨⟨_, rfl⟩, ⟨by decide +kernel, by decide +kernel, by decide +kernel⟩, ⟨by decide, by decide⟩, rfl, rfl⟩⟩
abbrev jX4_debt : KJ := (yX4_debt, cX4_debt, wsX4_debt, 3, (some .int), { frames := 1, cells := 0, slots := 0, locals := 21 }, 0, 0)
set_option maxRecDepth 20000 in
theorem fX4_debt_21 : KF jX4_debt 21 3 3 := ⟨RX4, TX4, 6, rfl, by decide, (fun _ h => List.mem_cons_of_mem _ (List.mem_append_right _ h)), (List.mem_of_getElem? (i := 1) (by decide +kernel))⟩
set_option maxRecDepth 20000 in
theorem vX4_debt_37 : KCS jX4_debt 37 jX3_at 2 := ⟨gX4_debt_X3_at, ⟨⟨_, rfl⟩, ⟨by decide +kernel, by decide +kernel, by decide +kernel⟩, ⟨by decide, by decide⟩, rfl, rfl⟩⟩
abbrev jX3_put : KJ := (yX3_put, cX3_put, wsX3_put, 3, none, { frames := 0, cells := 0, slots := 0, locals := 0 }, 0, 0)
abbrev jX4_setDebt : KJ := (yX4_setDebt, cX4_setDebt, wsX4_setDebt, 4, none, { frames := 1, cells := 0, slots := 0, locals := 22 }, 0, 0)
set_option maxRecDepth 20000 in
theorem fX4_setDebt_21 : KF jX4_setDebt 21 3 3 := ⟨RX4, TX4, 6, rfl, by decide, (fun _ h => List.mem_cons_of_mem _ (List.mem_append_right _ h)), (List.mem_of_getElem? (i := 1) (by decide +kernel))⟩
set_option maxRecDepth 20000 in
theorem vX4_setDebt_50 : KCS jX4_setDebt 50 jX3_put 3 := ⟨gX4_setDebt_X3_put, ⟨⟨_, rfl⟩, ⟨by decide +kernel, by decide +kernel, by decide +kernel⟩, ⟨by decide, by decide⟩, rfl, rfl⟩⟩
abbrev jX4_pushAll : KJ := (yX4_pushAll, cX4_pushAll, wsX4_pushAll, 6, none, { frames := 2, cells := 0, slots := 0, locals := 45 }, 0, 0)
set_option maxRecDepth 20000 in
theorem fX4_pushAll_24 : KF jX4_pushAll 24 3 4 := ⟨RX4, TX4, 6, rfl, by decide, (fun _ h => List.mem_cons_of_mem _ (List.mem_append_left _ (List.mem_append_right _ h))), (List.mem_of_getElem? (i := 1) (by decide +kernel))⟩
set_option maxRecDepth 20000 in
theorem fX4_pushAll_9 : KF jX4_pushAll 9 3 0 := ⟨RX4, TX4, 6, rfl, by decide, (fun _ h => List.mem_cons_of_mem _ (List.mem_append_left _ (List.mem_append_right _ h))), (List.mem_of_getElem? (i := 2) (by decide +kernel))⟩
set_option maxRecDepth 20000 in
theorem fX4_pushAll_28 : KF jX4_pushAll 28 3 5 := ⟨RX4, TX4, 6, rfl, by decide, (fun _ h => List.mem_cons_of_mem _ (List.mem_append_left _ (List.mem_append_right _ h))), (List.mem_of_getElem? (i := 3) (by decide +kernel))⟩
set_option maxRecDepth 20000 in
theorem fX4_pushAll_95 : KF jX4_pushAll 95 1 2 := ⟨RX1, TX1, 5, rfl, by decide, (fun _ h => List.mem_cons_of_mem _ (List.mem_append_right _ h)), (List.mem_of_getElem? (i := 4) (by decide +kernel))⟩
set_option maxRecDepth 20000 in
theorem vX4_pushAll_37 : KCS jX4_pushAll 37 jX3_at 2 := ⟨gX4_pushAll_X3_at, ⟨⟨_, rfl⟩, ⟨by decide +kernel, by decide +kernel, by decide +kernel⟩, ⟨by decide, by decide⟩, rfl, rfl⟩⟩
set_option maxRecDepth 20000 in
theorem vX4_pushAll_91 : KCS jX4_pushAll 91 jX3_isMultiple 2 := ⟨gX4_pushAll_X3_isMultiple, ⟨⟨_, rfl⟩, ⟨by decide +kernel, by decide +kernel, by decide +kernel⟩, ⟨by decide, by decide⟩, rfl, rfl⟩⟩
set_option maxRecDepth 20000 in
theorem vX4_pushAll_98 : KCV jX4_pushAll 98 jX1_gain 2 := ⟨gX4_pushAll_X1_gain, ⟨⟨_, rfl⟩, ⟨by decide +kernel, by decide +kernel, by decide +kernel⟩, ⟨by decide, by decide⟩, rfl, rfl⟩⟩
set_option maxRecDepth 20000 in
theorem vX4_pushAll_101 : KCV jX4_pushAll 101 jX4_wantsFor 3 := ⟨gX4_pushAll_X4_wantsFor, ⟨⟨_, rfl⟩, ⟨by decide +kernel, by decide +kernel, by decide +kernel⟩, ⟨by decide, by decide⟩, rfl, rfl⟩⟩
set_option maxRecDepth 20000 in
theorem vX4_pushAll_54 : KCV jX4_pushAll 54 jX4_debt 2 := ⟨gX4_pushAll_X4_debt, ⟨⟨_, rfl⟩, ⟨by decide +kernel, by decide +kernel, by decide +kernel⟩, ⟨by decide, by decide⟩, rfl, rfl⟩⟩
set_option maxRecDepth 20000 in
theorem vX4_pushAll_105 : KMx jX4_pushAll 105 := ⟨(List.mem_of_getElem? (i := 5) (by decide +kernel)), (List.mem_of_getElem? (i := 6) (by decide +kernel)), (List.mem_of_getElem? (i := 7) (by decide +kernel)), (List.mem_of_getElem? (i := 8) (by decide +kernel)), Nat.le_of_ble_eq_true rfl⟩
set_option maxRecDepth 20000 in
theorem vX4_pushAll_73 : KCV jX4_pushAll 73 jX4_setDebt 3 := ⟨gX4_pushAll_X4_setDebt, ⟨⟨_, rfl⟩, ⟨by decide +kernel, by decide +kernel, by decide +kernel⟩, ⟨by decide, by decide⟩, rfl, rfl⟩⟩
abbrev jX4_placeOf : KJ := (yX4_placeOf, cX4_placeOf, wsX4_placeOf, 3, (some .int), { frames := 1, cells := 0, slots := 0, locals := 21 }, 0, 0)
set_option maxRecDepth 20000 in
theorem fX4_placeOf_24 : KF jX4_placeOf 24 3 4 := ⟨RX4, TX4, 6, rfl, by decide, (fun _ h => List.mem_cons_of_mem _ (List.mem_append_right _ h)), (List.mem_of_getElem? (i := 1) (by decide +kernel))⟩
set_option maxRecDepth 20000 in
theorem fX4_placeOf_9 : KF jX4_placeOf 9 3 0 := ⟨RX4, TX4, 6, rfl, by decide, (fun _ h => List.mem_cons_of_mem _ (List.mem_append_right _ h)), (List.mem_of_getElem? (i := 2) (by decide +kernel))⟩
set_option maxRecDepth 20000 in
theorem vX4_placeOf_37 : KCS jX4_placeOf 37 jX3_at 2 := ⟨gX4_placeOf_X3_at, ⟨⟨_, rfl⟩, ⟨by decide +kernel, by decide +kernel, by decide +kernel⟩, ⟨by decide, by decide⟩, rfl, rfl⟩⟩
abbrev jX4_takeOut : KJ := (yX4_takeOut, cX4_takeOut, wsX4_takeOut, 5, none, { frames := 2, cells := 0, slots := 0, locals := 43 }, 0, 0)
set_option maxRecDepth 20000 in
theorem fX4_takeOut_24 : KF jX4_takeOut 24 3 4 := ⟨RX4, TX4, 6, rfl, by decide, (fun _ h => List.mem_cons_of_mem _ (List.mem_append_right _ h)), (List.mem_of_getElem? (i := 1) (by decide +kernel))⟩
set_option maxRecDepth 20000 in
theorem pX4_takeOut_24 : KFp jX4_takeOut 24 3 4 .int := ⟨RX4, TX4, 6, rfl, by decide, (fun _ h => List.mem_cons_of_mem _ (List.mem_append_right _ h)), (List.mem_of_getElem? (i := 1) (by decide +kernel)), ⟨tyX4, tyX4_ok⟩, nmX4, by decide +kernel, Or.inl rfl⟩
set_option maxRecDepth 20000 in
theorem fX4_takeOut_9 : KF jX4_takeOut 9 3 0 := ⟨RX4, TX4, 6, rfl, by decide, (fun _ h => List.mem_cons_of_mem _ (List.mem_append_right _ h)), (List.mem_of_getElem? (i := 2) (by decide +kernel))⟩
set_option maxRecDepth 20000 in
theorem fX4_takeOut_15 : KF jX4_takeOut 15 3 1 := ⟨RX4, TX4, 6, rfl, by decide, (fun _ h => List.mem_cons_of_mem _ (List.mem_append_right _ h)), (List.mem_of_getElem? (i := 3) (by decide +kernel))⟩
set_option maxRecDepth 20000 in
theorem vX4_takeOut_41 : KCV jX4_takeOut 41 jX4_placeOf 1 := ⟨gX4_takeOut_X4_placeOf, ⟨⟨_, rfl⟩, ⟨by decide +kernel, by decide +kernel, by decide +kernel⟩, ⟨by decide, by decide⟩, rfl, rfl⟩⟩
set_option maxRecDepth 20000 in
theorem vX4_takeOut_37 : KCS jX4_takeOut 37 jX3_at 2 := ⟨gX4_takeOut_X3_at, ⟨⟨_, rfl⟩, ⟨by decide +kernel, by decide +kernel, by decide +kernel⟩, ⟨by decide, by decide⟩, rfl, rfl⟩⟩
set_option maxRecDepth 20000 in
theorem vX4_takeOut_50 : KCS jX4_takeOut 50 jX3_put 3 := ⟨gX4_takeOut_X3_put, ⟨⟨_, rfl⟩, ⟨by decide +kernel, by decide +kernel, by decide +kernel⟩, ⟨by decide, by decide⟩, rfl, rfl⟩⟩
abbrev jX4_runMinute : KJ := (yX4_runMinute, cX4_runMinute, wsX4_runMinute, 3, none, { frames := 3, cells := 0, slots := 0, locals := 70 }, 0, 0)
set_option maxRecDepth 20000 in
theorem fX4_runMinute_28 : KF jX4_runMinute 28 3 5 := ⟨RX4, TX4, 6, rfl, by decide, (fun _ h => List.mem_cons_of_mem _ (List.mem_append_left _ (List.mem_append_right _ h))), (List.mem_of_getElem? (i := 1) (by decide +kernel))⟩
set_option maxRecDepth 20000 in
theorem pX4_runMinute_28 : KFp jX4_runMinute 28 3 5 .int := ⟨RX4, TX4, 6, rfl, by decide, (fun _ h => List.mem_cons_of_mem _ (List.mem_append_left _ (List.mem_append_right _ h))), (List.mem_of_getElem? (i := 1) (by decide +kernel)), ⟨tyX4, tyX4_ok⟩, nmX4, by decide +kernel, Or.inl rfl⟩
set_option maxRecDepth 20000 in
theorem fX4_runMinute_24 : KF jX4_runMinute 24 3 4 := ⟨RX4, TX4, 6, rfl, by decide, (fun _ h => List.mem_cons_of_mem _ (List.mem_append_left _ (List.mem_append_right _ h))), (List.mem_of_getElem? (i := 2) (by decide +kernel))⟩
set_option maxRecDepth 20000 in
theorem fX4_runMinute_88 : KF jX4_runMinute 88 1 4 := ⟨RX1, TX1, 5, rfl, by decide, (fun _ h => List.mem_cons_of_mem _ (List.mem_append_right _ h)), (List.mem_of_getElem? (i := 3) (by decide +kernel))⟩
set_option maxRecDepth 20000 in
theorem fX4_runMinute_9 : KF jX4_runMinute 9 3 0 := ⟨RX4, TX4, 6, rfl, by decide, (fun _ h => List.mem_cons_of_mem _ (List.mem_append_left _ (List.mem_append_right _ h))), (List.mem_of_getElem? (i := 4) (by decide +kernel))⟩
set_option maxRecDepth 20000 in
theorem vX4_runMinute_84 : KCV jX4_runMinute 84 jX4_pushAll 1 := ⟨gX4_runMinute_X4_pushAll, ⟨⟨_, rfl⟩, ⟨by decide +kernel, by decide +kernel, by decide +kernel⟩, ⟨by decide, by decide⟩, rfl, rfl⟩⟩
set_option maxRecDepth 20000 in
theorem vX4_runMinute_91 : KCS jX4_runMinute 91 jX3_isMultiple 2 := ⟨gX4_runMinute_X3_isMultiple, ⟨⟨_, rfl⟩, ⟨by decide +kernel, by decide +kernel, by decide +kernel⟩, ⟨by decide, by decide⟩, rfl, rfl⟩⟩
set_option maxRecDepth 20000 in
theorem vX4_runMinute_37 : KCS jX4_runMinute 37 jX3_at 2 := ⟨gX4_runMinute_X3_at, ⟨⟨_, rfl⟩, ⟨by decide +kernel, by decide +kernel, by decide +kernel⟩, ⟨by decide, by decide⟩, rfl, rfl⟩⟩
set_option maxRecDepth 20000 in
theorem vX4_runMinute_62 : KCV jX4_runMinute 62 jX4_takeOut 2 := ⟨gX4_runMinute_X4_takeOut, ⟨⟨_, rfl⟩, ⟨by decide +kernel, by decide +kernel, by decide +kernel⟩, ⟨by decide, by decide⟩, rfl, rfl⟩⟩
abbrev jX4_isServed : KJ := (yX4_isServed, cX4_isServed, wsX4_isServed, 2, (some .boolean), { frames := 1, cells := 0, slots := 0, locals := 21 }, 0, 0)
set_option maxRecDepth 20000 in
theorem fX4_isServed_15 : KF jX4_isServed 15 3 1 := ⟨RX4, TX4, 6, rfl, by decide, (fun _ h => List.mem_cons_of_mem _ (List.mem_append_right _ h)), (List.mem_of_getElem? (i := 1) (by decide +kernel))⟩
set_option maxRecDepth 20000 in
theorem vX4_isServed_37 : KCS jX4_isServed 37 jX3_at 2 := ⟨gX4_isServed_X3_at, ⟨⟨_, rfl⟩, ⟨by decide +kernel, by decide +kernel, by decide +kernel⟩, ⟨by decide, by decide⟩, rfl, rfl⟩⟩
abbrev jX0_isServedBehind : KJ := (yX0_isServedBehind, cX0_isServedBehind, wsX0_isServedBehind, 5, (some .boolean), { frames := 4, cells := 0, slots := 0, locals := 92 }, 0, 0)
set_option maxRecDepth 20000 in
theorem fX0_isServedBehind_10 : KF jX0_isServedBehind 10 0 4 := ⟨RX0, TX0, 5, rfl, by decide, (fun _ h => List.mem_cons_of_mem _ (List.mem_append_left _ (List.mem_append_left _ (List.mem_append_right _ h)))), (List.mem_of_getElem? (i := 1) (by decide +kernel))⟩
set_option maxRecDepth 20000 in
theorem fX0_isServedBehind_20 : KF jX0_isServedBehind 20 0 3 := ⟨RX0, TX0, 5, rfl, by decide, (fun _ h => List.mem_cons_of_mem _ (List.mem_append_left _ (List.mem_append_left _ (List.mem_append_right _ h)))), (List.mem_of_getElem? (i := 2) (by decide +kernel))⟩
set_option maxRecDepth 20000 in
theorem fX0_isServedBehind_16 : KF jX0_isServedBehind 16 0 2 := ⟨RX0, TX0, 5, rfl, by decide, (fun _ h => List.mem_cons_of_mem _ (List.mem_append_left _ (List.mem_append_left _ (List.mem_append_right _ h)))), (List.mem_of_getElem? (i := 3) (by decide +kernel))⟩
set_option maxRecDepth 20000 in
theorem vX0_isServedBehind_42 : KCV jX0_isServedBehind 42 jX4_copyFrom 1 := ⟨gX0_isServedBehind_X4_copyFrom, ⟨⟨_, rfl⟩, ⟨by decide +kernel, by decide +kernel, by decide +kernel⟩, ⟨by decide, by decide⟩, rfl, rfl⟩⟩
set_option maxRecDepth 20000 in
theorem vX0_isServedBehind_46 : KCV jX0_isServedBehind 46 jX4_runMinute 2 := ⟨gX0_isServedBehind_X4_runMinute, ⟨⟨_, rfl⟩, ⟨by decide +kernel, by decide +kernel, by decide +kernel⟩, ⟨by decide, by decide⟩, rfl, rfl⟩⟩
set_option maxRecDepth 20000 in
theorem vX0_isServedBehind_50 : KCV jX0_isServedBehind 50 jX4_isServed 1 := ⟨gX0_isServedBehind_X4_isServed, ⟨⟨_, rfl⟩, ⟨by decide +kernel, by decide +kernel, by decide +kernel⟩, ⟨by decide, by decide⟩, rfl, rfl⟩⟩
abbrev jX0_commonDivisor : KJ := (yX0_commonDivisor, cX0_commonDivisor, wsX0_commonDivisor, 6, (some .int), { frames := 0, cells := 0, slots := 0, locals := 0 }, 0, 0)
abbrev jX0_seekServed : KJ := (yX0_seekServed, cX0_seekServed, wsX0_seekServed, 8, none, { frames := 5, cells := 0, slots := 0, locals := 116 }, 0, 0)
set_option maxRecDepth 20000 in
theorem pX0_seekServed_35 : KFp jX0_seekServed 35 0 0 .int := ⟨RX0, TX0, 5, rfl, by decide, (fun _ h => List.mem_cons_of_mem _ (List.mem_append_left _ (List.mem_append_left _ (List.mem_append_right _ h)))), (List.mem_of_getElem? (i := 1) (by decide +kernel)), ⟨tyX0, tyX0_ok⟩, nmX0, by decide +kernel, Or.inl rfl⟩
set_option maxRecDepth 20000 in
theorem pX0_seekServed_39 : KFp jX0_seekServed 39 0 1 .int := ⟨RX0, TX0, 5, rfl, by decide, (fun _ h => List.mem_cons_of_mem _ (List.mem_append_left _ (List.mem_append_left _ (List.mem_append_right _ h)))), (List.mem_of_getElem? (i := 2) (by decide +kernel)), ⟨tyX0, tyX0_ok⟩, nmX0, by decide +kernel, Or.inl rfl⟩
set_option maxRecDepth 20000 in
theorem vX0_seekServed_23 : KCS jX0_seekServed 23 jX0_weightOf 3 := ⟨gX0_seekServed_X0_weightOf, ⟨⟨_, rfl⟩, ⟨by decide +kernel, by decide +kernel, by decide +kernel⟩, ⟨by decide, by decide⟩, rfl, rfl⟩⟩
set_option maxRecDepth 20000 in
theorem vX0_seekServed_27 : KCV jX0_seekServed 27 jX0_isServedBehind 3 := ⟨gX0_seekServed_X0_isServedBehind, ⟨⟨_, rfl⟩, ⟨by decide +kernel, by decide +kernel, by decide +kernel⟩, ⟨by decide, by decide⟩, rfl, rfl⟩⟩
set_option maxRecDepth 20000 in
theorem vX0_seekServed_31 : KCS jX0_seekServed 31 jX0_commonDivisor 2 := ⟨gX0_seekServed_X0_commonDivisor, ⟨⟨_, rfl⟩, ⟨by decide +kernel, by decide +kernel, by decide +kernel⟩, ⟨by decide, by decide⟩, rfl, rfl⟩⟩
abbrev jX0_drawOf : KJ := (yX0_drawOf, cX0_drawOf, wsX0_drawOf, 4, (some .int), { frames := 0, cells := 0, slots := 0, locals := 0 }, 0, 0)
abbrev jX4_isQueued : KJ := (yX4_isQueued, cX4_isQueued, wsX4_isQueued, 2, (some .boolean), { frames := 2, cells := 0, slots := 0, locals := 43 }, 0, 0)
set_option maxRecDepth 20000 in
theorem vX4_isQueued_41 : KCV jX4_isQueued 41 jX4_placeOf 1 := ⟨gX4_isQueued_X4_placeOf, ⟨⟨_, rfl⟩, ⟨by decide +kernel, by decide +kernel, by decide +kernel⟩, ⟨by decide, by decide⟩, rfl, rfl⟩⟩
abbrev jX4_insert : KJ := (yX4_insert, cX4_insert, wsX4_insert, 4, none, { frames := 1, cells := 0, slots := 0, locals := 22 }, 0, 0)
set_option maxRecDepth 20000 in
theorem fX4_insert_24 : KF jX4_insert 24 3 4 := ⟨RX4, TX4, 6, rfl, by decide, (fun _ h => List.mem_cons_of_mem _ (List.mem_append_right _ h)), (List.mem_of_getElem? (i := 1) (by decide +kernel))⟩
set_option maxRecDepth 20000 in
theorem fX4_insert_9 : KF jX4_insert 9 3 0 := ⟨RX4, TX4, 6, rfl, by decide, (fun _ h => List.mem_cons_of_mem _ (List.mem_append_right _ h)), (List.mem_of_getElem? (i := 2) (by decide +kernel))⟩
set_option maxRecDepth 20000 in
theorem fX4_insert_15 : KF jX4_insert 15 3 1 := ⟨RX4, TX4, 6, rfl, by decide, (fun _ h => List.mem_cons_of_mem _ (List.mem_append_right _ h)), (List.mem_of_getElem? (i := 3) (by decide +kernel))⟩
set_option maxRecDepth 20000 in
theorem pX4_insert_24 : KFp jX4_insert 24 3 4 .int := ⟨RX4, TX4, 6, rfl, by decide, (fun _ h => List.mem_cons_of_mem _ (List.mem_append_right _ h)), (List.mem_of_getElem? (i := 1) (by decide +kernel)), ⟨tyX4, tyX4_ok⟩, nmX4, by decide +kernel, Or.inl rfl⟩
set_option maxRecDepth 20000 in
theorem vX4_insert_37 : KCS jX4_insert 37 jX3_at 2 := ⟨gX4_insert_X3_at, ⟨⟨_, rfl⟩, ⟨by decide +kernel, by decide +kernel, by decide +kernel⟩, ⟨by decide, by decide⟩, rfl, rfl⟩⟩
set_option maxRecDepth 20000 in
theorem vX4_insert_50 : KCS jX4_insert 50 jX3_put 3 := ⟨gX4_insert_X3_put, ⟨⟨_, rfl⟩, ⟨by decide +kernel, by decide +kernel, by decide +kernel⟩, ⟨by decide, by decide⟩, rfl, rfl⟩⟩
abbrev jX4_append : KJ := (yX4_append, cX4_append, wsX4_append, 2, none, { frames := 2, cells := 0, slots := 0, locals := 45 }, 0, 0)
set_option maxRecDepth 20000 in
theorem fX4_append_24 : KF jX4_append 24 3 4 := ⟨RX4, TX4, 6, rfl, by decide, (fun _ h => List.mem_cons_of_mem _ (List.mem_append_right _ h)), (List.mem_of_getElem? (i := 1) (by decide +kernel))⟩
set_option maxRecDepth 20000 in
theorem vX4_append_58 : KCV jX4_append 58 jX4_insert 2 := ⟨gX4_append_X4_insert, ⟨⟨_, rfl⟩, ⟨by decide +kernel, by decide +kernel, by decide +kernel⟩, ⟨by decide, by decide⟩, rfl, rfl⟩⟩
abbrev jX4_canLet : KJ := (yX4_canLet, cX4_canLet, wsX4_canLet, 4, (some .boolean), { frames := 2, cells := 0, slots := 0, locals := 43 }, 0, 0)
set_option maxRecDepth 20000 in
theorem vX4_canLet_41 : KCV jX4_canLet 41 jX4_placeOf 1 := ⟨gX4_canLet_X4_placeOf, ⟨⟨_, rfl⟩, ⟨by decide +kernel, by decide +kernel, by decide +kernel⟩, ⟨by decide, by decide⟩, rfl, rfl⟩⟩
abbrev jX4_letPast : KJ := (yX4_letPast, cX4_letPast, wsX4_letPast, 4, none, { frames := 3, cells := 0, slots := 0, locals := 67 }, 0, 0)
set_option maxRecDepth 20000 in
theorem vX4_letPast_41 : KCV jX4_letPast 41 jX4_placeOf 1 := ⟨gX4_letPast_X4_placeOf, ⟨⟨_, rfl⟩, ⟨by decide +kernel, by decide +kernel, by decide +kernel⟩, ⟨by decide, by decide⟩, rfl, rfl⟩⟩
set_option maxRecDepth 20000 in
theorem vX4_letPast_62 : KCV jX4_letPast 62 jX4_takeOut 2 := ⟨gX4_letPast_X4_takeOut, ⟨⟨_, rfl⟩, ⟨by decide +kernel, by decide +kernel, by decide +kernel⟩, ⟨by decide, by decide⟩, rfl, rfl⟩⟩
set_option maxRecDepth 20000 in
theorem vX4_letPast_58 : KCV jX4_letPast 58 jX4_insert 2 := ⟨gX4_letPast_X4_insert, ⟨⟨_, rfl⟩, ⟨by decide +kernel, by decide +kernel, by decide +kernel⟩, ⟨by decide, by decide⟩, rfl, rfl⟩⟩
abbrev jX4_payable : KJ := (yX4_payable, cX4_payable, wsX4_payable, 3, (some .int), { frames := 2, cells := 0, slots := 0, locals := 43 }, 0, 0)
set_option maxRecDepth 20000 in
theorem fX4_payable_18 : KF jX4_payable 18 3 2 := ⟨RX4, TX4, 6, rfl, by decide, (fun _ h => List.mem_cons_of_mem _ (List.mem_append_right _ h)), (List.mem_of_getElem? (i := 1) (by decide +kernel))⟩
set_option maxRecDepth 20000 in
theorem vX4_payable_54 : KCV jX4_payable 54 jX4_debt 2 := ⟨gX4_payable_X4_debt, ⟨⟨_, rfl⟩, ⟨by decide +kernel, by decide +kernel, by decide +kernel⟩, ⟨by decide, by decide⟩, rfl, rfl⟩⟩
set_option maxRecDepth 20000 in
theorem vX4_payable_37 : KCS jX4_payable 37 jX3_at 2 := ⟨gX4_payable_X3_at, ⟨⟨_, rfl⟩, ⟨by decide +kernel, by decide +kernel, by decide +kernel⟩, ⟨by decide, by decide⟩, rfl, rfl⟩⟩
set_option maxRecDepth 20000 in
theorem vX4_payable_65 : KMn jX4_payable 65 := ⟨(List.mem_of_getElem? (i := 2) (by decide +kernel)), (List.mem_of_getElem? (i := 3) (by decide +kernel)), (List.mem_of_getElem? (i := 4) (by decide +kernel)), (List.mem_of_getElem? (i := 5) (by decide +kernel)), Nat.le_of_ble_eq_true rfl⟩
abbrev jX4_settle : KJ := (yX4_settle, cX4_settle, wsX4_settle, 4, none, { frames := 3, cells := 0, slots := 0, locals := 65 }, 0, 0)
set_option maxRecDepth 20000 in
theorem fX4_settle_18 : KF jX4_settle 18 3 2 := ⟨RX4, TX4, 6, rfl, by decide, (fun _ h => List.mem_cons_of_mem _ (List.mem_append_right _ h)), (List.mem_of_getElem? (i := 1) (by decide +kernel))⟩
set_option maxRecDepth 20000 in
theorem vX4_settle_70 : KCV jX4_settle 70 jX4_payable 2 := ⟨gX4_settle_X4_payable, ⟨⟨_, rfl⟩, ⟨by decide +kernel, by decide +kernel, by decide +kernel⟩, ⟨by decide, by decide⟩, rfl, rfl⟩⟩
set_option maxRecDepth 20000 in
theorem vX4_settle_54 : KCV jX4_settle 54 jX4_debt 2 := ⟨gX4_settle_X4_debt, ⟨⟨_, rfl⟩, ⟨by decide +kernel, by decide +kernel, by decide +kernel⟩, ⟨by decide, by decide⟩, rfl, rfl⟩⟩
set_option maxRecDepth 20000 in
theorem vX4_settle_73 : KCV jX4_settle 73 jX4_setDebt 3 := ⟨gX4_settle_X4_setDebt, ⟨⟨_, rfl⟩, ⟨by decide +kernel, by decide +kernel, by decide +kernel⟩, ⟨by decide, by decide⟩, rfl, rfl⟩⟩
set_option maxRecDepth 20000 in
theorem vX4_settle_37 : KCS jX4_settle 37 jX3_at 2 := ⟨gX4_settle_X3_at, ⟨⟨_, rfl⟩, ⟨by decide +kernel, by decide +kernel, by decide +kernel⟩, ⟨by decide, by decide⟩, rfl, rfl⟩⟩
set_option maxRecDepth 20000 in
theorem vX4_settle_50 : KCS jX4_settle 50 jX3_put 3 := ⟨gX4_settle_X3_put, ⟨⟨_, rfl⟩, ⟨by decide +kernel, by decide +kernel, by decide +kernel⟩, ⟨by decide, by decide⟩, rfl, rfl⟩⟩
abbrev jX0_actByDraw : KJ := (yX0_actByDraw, cX0_actByDraw, wsX0_actByDraw, 4, none, { frames := 4, cells := 0, slots := 0, locals := 90 }, 0, 0)
set_option maxRecDepth 20000 in
theorem fX0_actByDraw_16 : KF jX0_actByDraw 16 0 2 := ⟨RX0, TX0, 5, rfl, by decide, (fun _ h => List.mem_cons_of_mem _ (List.mem_append_left _ (List.mem_append_left _ (List.mem_append_right _ h)))), (List.mem_of_getElem? (i := 1) (by decide +kernel))⟩
set_option maxRecDepth 20000 in
theorem fX0_actByDraw_67 : KF jX0_actByDraw 67 1 3 := ⟨RX1, TX1, 5, rfl, by decide, (fun _ h => List.mem_cons_of_mem _ (List.mem_append_left _ (List.mem_append_right _ h))), (List.mem_of_getElem? (i := 2) (by decide +kernel))⟩
set_option maxRecDepth 20000 in
theorem fX0_actByDraw_10 : KF jX0_actByDraw 10 0 4 := ⟨RX0, TX0, 5, rfl, by decide, (fun _ h => List.mem_cons_of_mem _ (List.mem_append_left _ (List.mem_append_left _ (List.mem_append_right _ h)))), (List.mem_of_getElem? (i := 3) (by decide +kernel))⟩
set_option maxRecDepth 20000 in
theorem vX0_actByDraw_72 : KCV jX0_actByDraw 72 jX4_isQueued 1 := ⟨gX0_actByDraw_X4_isQueued, ⟨⟨_, rfl⟩, ⟨by decide +kernel, by decide +kernel, by decide +kernel⟩, ⟨by decide, by decide⟩, rfl, rfl⟩⟩
set_option maxRecDepth 20000 in
theorem vX0_actByDraw_75 : KCV jX0_actByDraw 75 jX4_append 1 := ⟨gX0_actByDraw_X4_append, ⟨⟨_, rfl⟩, ⟨by decide +kernel, by decide +kernel, by decide +kernel⟩, ⟨by decide, by decide⟩, rfl, rfl⟩⟩
set_option maxRecDepth 20000 in
theorem vX0_actByDraw_78 : KCV jX0_actByDraw 78 jX4_canLet 2 := ⟨gX0_actByDraw_X4_canLet, ⟨⟨_, rfl⟩, ⟨by decide +kernel, by decide +kernel, by decide +kernel⟩, ⟨by decide, by decide⟩, rfl, rfl⟩⟩
set_option maxRecDepth 20000 in
theorem vX0_actByDraw_82 : KCV jX0_actByDraw 82 jX4_letPast 2 := ⟨gX0_actByDraw_X4_letPast, ⟨⟨_, rfl⟩, ⟨by decide +kernel, by decide +kernel, by decide +kernel⟩, ⟨by decide, by decide⟩, rfl, rfl⟩⟩
set_option maxRecDepth 20000 in
theorem vX0_actByDraw_86 : KCV jX0_actByDraw 86 jX4_settle 2 := ⟨gX0_actByDraw_X4_settle, ⟨⟨_, rfl⟩, ⟨by decide +kernel, by decide +kernel, by decide +kernel⟩, ⟨by decide, by decide⟩, rfl, rfl⟩⟩
abbrev jX0_sceneBehindDay : KJ := (yX0_sceneBehindDay, cX0_sceneBehindDay, wsX0_sceneBehindDay, 4, (some (.object "KerbQueue$Scene")), { frames := 5, cells := 0, slots := 0, locals := 113 }, 0, 0)
set_option maxRecDepth 20000 in
theorem fX0_sceneBehindDay_10 : KF jX0_sceneBehindDay 10 0 4 := ⟨RX0, TX0, 5, rfl, by decide, (fun _ h => List.mem_cons_of_mem _ (List.mem_append_left _ (List.mem_append_left _ (List.mem_append_right _ h)))), (List.mem_of_getElem? (i := 1) (by decide +kernel))⟩
set_option maxRecDepth 20000 in
theorem fX0_sceneBehindDay_20 : KF jX0_sceneBehindDay 20 0 3 := ⟨RX0, TX0, 5, rfl, by decide, (fun _ h => List.mem_cons_of_mem _ (List.mem_append_left _ (List.mem_append_left _ (List.mem_append_right _ h)))), (List.mem_of_getElem? (i := 2) (by decide +kernel))⟩
set_option maxRecDepth 20000 in
theorem fX0_sceneBehindDay_16 : KF jX0_sceneBehindDay 16 0 2 := ⟨RX0, TX0, 5, rfl, by decide, (fun _ h => List.mem_cons_of_mem _ (List.mem_append_left _ (List.mem_append_left _ (List.mem_append_right _ h)))), (List.mem_of_getElem? (i := 3) (by decide +kernel))⟩
set_option maxRecDepth 20000 in
theorem vX0_sceneBehindDay_42 : KCV jX0_sceneBehindDay 42 jX4_copyFrom 1 := ⟨gX0_sceneBehindDay_X4_copyFrom, ⟨⟨_, rfl⟩, ⟨by decide +kernel, by decide +kernel, by decide +kernel⟩, ⟨by decide, by decide⟩, rfl, rfl⟩⟩
set_option maxRecDepth 20000 in
theorem vX0_sceneBehindDay_54 : KCS jX0_sceneBehindDay 54 jX0_drawOf 2 := ⟨gX0_sceneBehindDay_X0_drawOf, ⟨⟨_, rfl⟩, ⟨by decide +kernel, by decide +kernel, by decide +kernel⟩, ⟨by decide, by decide⟩, rfl, rfl⟩⟩
set_option maxRecDepth 20000 in
theorem vX0_sceneBehindDay_57 : KCV jX0_sceneBehindDay 57 jX0_actByDraw 1 := ⟨gX0_sceneBehindDay_X0_actByDraw, ⟨⟨_, rfl⟩, ⟨by decide +kernel, by decide +kernel, by decide +kernel⟩, ⟨by decide, by decide⟩, rfl, rfl⟩⟩
set_option maxRecDepth 20000 in
theorem vX0_sceneBehindDay_46 : KCV jX0_sceneBehindDay 46 jX4_runMinute 2 := ⟨gX0_sceneBehindDay_X4_runMinute, ⟨⟨_, rfl⟩, ⟨by decide +kernel, by decide +kernel, by decide +kernel⟩, ⟨by decide, by decide⟩, rfl, rfl⟩⟩
abbrev jX1_init : KJ := (yX1_init, cX1_init, wsX1_init, 1, none, { frames := 1, cells := 3, slots := 21, locals := 12 }, 3, 21)
set_option maxRecDepth 20000 in
theorem pX1_init_9 : KFp jX1_init 9 1 0 (.array .int) := ⟨RX1, TX1, 5, rfl, by decide, (fun _ h => List.mem_cons_of_mem _ (List.mem_append_right _ h)), (List.mem_of_getElem? (i := 5) (by decide +kernel)), ⟨tyX1, tyX1_ok⟩, nmX1, by decide +kernel, Or.inr ⟨rfl, rfl, rfl⟩⟩
set_option maxRecDepth 20000 in
theorem pX1_init_15 : KFp jX1_init 15 1 1 (.array .int) := ⟨RX1, TX1, 5, rfl, by decide, (fun _ h => List.mem_cons_of_mem _ (List.mem_append_right _ h)), (List.mem_of_getElem? (i := 6) (by decide +kernel)), ⟨tyX1, tyX1_ok⟩, nmX1, by decide +kernel, Or.inr ⟨rfl, rfl, rfl⟩⟩
set_option maxRecDepth 20000 in
theorem pX1_init_18 : KFp jX1_init 18 1 2 (.array .int) := ⟨RX1, TX1, 5, rfl, by decide, (fun _ h => List.mem_cons_of_mem _ (List.mem_append_right _ h)), (List.mem_of_getElem? (i := 7) (by decide +kernel)), ⟨tyX1, tyX1_ok⟩, nmX1, by decide +kernel, Or.inr ⟨rfl, rfl, rfl⟩⟩
set_option maxRecDepth 20000 in
theorem oX1_init_3 : Cond.methodLink jX1_init.1.cls 3 objectInit ∈ jX1_init.2.2.1 ∧ Cond.instanceMethod objectInit ∈ jX1_init.2.2.1 ∧ Cond.code objectInit ⟨#[0xb1]⟩ 1 none ∈ jX1_init.2.2.1 := ⟨(List.mem_of_getElem? (i := 1) (by decide +kernel)), (List.mem_of_getElem? (i := 2) (by decide +kernel)), (List.mem_of_getElem? (i := 3) (by decide +kernel))⟩
abbrev jX1_empty : KJ := (yX1_empty, cX1_empty, wsX1_empty, 1, none, { frames := 0, cells := 0, slots := 0, locals := 0 }, 0, 0)
set_option maxRecDepth 20000 in
theorem pX1_empty_21 : KFp jX1_empty 21 1 3 .int := ⟨RX1, TX1, 5, rfl, by decide, (fun _ h => List.mem_cons_of_mem _ (List.mem_append_right _ h)), (List.mem_of_getElem? (i := 1) (by decide +kernel)), ⟨tyX1, tyX1_ok⟩, nmX1, by decide +kernel, Or.inl rfl⟩
set_option maxRecDepth 20000 in
theorem pX1_empty_25 : KFp jX1_empty 25 1 4 .int := ⟨RX1, TX1, 5, rfl, by decide, (fun _ h => List.mem_cons_of_mem _ (List.mem_append_right _ h)), (List.mem_of_getElem? (i := 2) (by decide +kernel)), ⟨tyX1, tyX1_ok⟩, nmX1, by decide +kernel, Or.inl rfl⟩
abbrev jX1_copyFrom : KJ := (yX1_copyFrom, cX1_copyFrom, wsX1_copyFrom, 2, none, { frames := 2, cells := 0, slots := 0, locals := 42 }, 0, 0)
set_option maxRecDepth 20000 in
theorem fX1_copyFrom_9 : KF jX1_copyFrom 9 1 0 := ⟨RX1, TX1, 5, rfl, by decide, (fun _ h => List.mem_cons_of_mem _ (List.mem_append_right _ h)), (List.mem_of_getElem? (i := 1) (by decide +kernel))⟩
set_option maxRecDepth 20000 in
theorem fX1_copyFrom_15 : KF jX1_copyFrom 15 1 1 := ⟨RX1, TX1, 5, rfl, by decide, (fun _ h => List.mem_cons_of_mem _ (List.mem_append_right _ h)), (List.mem_of_getElem? (i := 2) (by decide +kernel))⟩
set_option maxRecDepth 20000 in
theorem fX1_copyFrom_18 : KF jX1_copyFrom 18 1 2 := ⟨RX1, TX1, 5, rfl, by decide, (fun _ h => List.mem_cons_of_mem _ (List.mem_append_right _ h)), (List.mem_of_getElem? (i := 3) (by decide +kernel))⟩
set_option maxRecDepth 20000 in
theorem fX1_copyFrom_21 : KF jX1_copyFrom 21 1 3 := ⟨RX1, TX1, 5, rfl, by decide, (fun _ h => List.mem_cons_of_mem _ (List.mem_append_right _ h)), (List.mem_of_getElem? (i := 4) (by decide +kernel))⟩
set_option maxRecDepth 20000 in
theorem pX1_copyFrom_21 : KFp jX1_copyFrom 21 1 3 .int := ⟨RX1, TX1, 5, rfl, by decide, (fun _ h => List.mem_cons_of_mem _ (List.mem_append_right _ h)), (List.mem_of_getElem? (i := 4) (by decide +kernel)), ⟨tyX1, tyX1_ok⟩, nmX1, by decide +kernel, Or.inl rfl⟩
set_option maxRecDepth 20000 in
theorem fX1_copyFrom_25 : KF jX1_copyFrom 25 1 4 := ⟨RX1, TX1, 5, rfl, by decide, (fun _ h => List.mem_cons_of_mem _ (List.mem_append_right _ h)), (List.mem_of_getElem? (i := 5) (by decide +kernel))⟩
set_option maxRecDepth 20000 in
theorem pX1_copyFrom_25 : KFp jX1_copyFrom 25 1 4 .int := ⟨RX1, TX1, 5, rfl, by decide, (fun _ h => List.mem_cons_of_mem _ (List.mem_append_right _ h)), (List.mem_of_getElem? (i := 5) (by decide +kernel)), ⟨tyX1, tyX1_ok⟩, nmX1, by decide +kernel, Or.inl rfl⟩
set_option maxRecDepth 20000 in
theorem vX1_copyFrom_28 : KCS jX1_copyFrom 28 jX3_copy 2 := ⟨gX1_copyFrom_X3_copy, ⟨⟨_, rfl⟩, ⟨by decide +kernel, by decide +kernel, by decide +kernel⟩, ⟨by decide, by decide⟩, rfl, rfl⟩⟩
abbrev jX1_add : KJ := (yX1_add, cX1_add, wsX1_add, 4, none, { frames := 1, cells := 0, slots := 0, locals := 22 }, 0, 0)
set_option maxRecDepth 20000 in
theorem fX1_add_9 : KF jX1_add 9 1 0 := ⟨RX1, TX1, 5, rfl, by decide, (fun _ h => List.mem_cons_of_mem _ (List.mem_append_right _ h)), (List.mem_of_getElem? (i := 1) (by decide +kernel))⟩
set_option maxRecDepth 20000 in
theorem fX1_add_21 : KF jX1_add 21 1 3 := ⟨RX1, TX1, 5, rfl, by decide, (fun _ h => List.mem_cons_of_mem _ (List.mem_append_right _ h)), (List.mem_of_getElem? (i := 2) (by decide +kernel))⟩
set_option maxRecDepth 20000 in
theorem fX1_add_15 : KF jX1_add 15 1 1 := ⟨RX1, TX1, 5, rfl, by decide, (fun _ h => List.mem_cons_of_mem _ (List.mem_append_right _ h)), (List.mem_of_getElem? (i := 3) (by decide +kernel))⟩
set_option maxRecDepth 20000 in
theorem fX1_add_18 : KF jX1_add 18 1 2 := ⟨RX1, TX1, 5, rfl, by decide, (fun _ h => List.mem_cons_of_mem _ (List.mem_append_right _ h)), (List.mem_of_getElem? (i := 4) (by decide +kernel))⟩
set_option maxRecDepth 20000 in
theorem pX1_add_21 : KFp jX1_add 21 1 3 .int := ⟨RX1, TX1, 5, rfl, by decide, (fun _ h => List.mem_cons_of_mem _ (List.mem_append_right _ h)), (List.mem_of_getElem? (i := 2) (by decide +kernel)), ⟨tyX1, tyX1_ok⟩, nmX1, by decide +kernel, Or.inl rfl⟩
set_option maxRecDepth 20000 in
theorem vX1_add_34 : KCS jX1_add 34 jX3_put 3 := ⟨gX1_add_X3_put, ⟨⟨_, rfl⟩, ⟨by decide +kernel, by decide +kernel, by decide +kernel⟩, ⟨by decide, by decide⟩, rfl, rfl⟩⟩
abbrev jX1_isPerson : KJ := (yX1_isPerson, cX1_isPerson, wsX1_isPerson, 2, (some .boolean), { frames := 0, cells := 0, slots := 0, locals := 0 }, 0, 0)
set_option maxRecDepth 20000 in
theorem fX1_isPerson_21 : KF jX1_isPerson 21 1 3 := ⟨RX1, TX1, 5, rfl, by decide, (fun _ h => List.mem_cons_of_mem _ (List.mem_append_right _ h)), (List.mem_of_getElem? (i := 1) (by decide +kernel))⟩
abbrev jX2_init : KJ := (yX2_init, cX2_init, wsX2_init, 3, none, { frames := 2, cells := 7, slots := 332, locals := 32 }, 7, 332)
set_option maxRecDepth 20000 in
theorem pX2_init_12 : KFp jX2_init 12 2 5 (.object "KerbQueue$Scene") := ⟨RX2, TX2, 8, rfl, by decide, (fun _ h => List.mem_cons_of_mem _ (List.mem_append_right _ h)), (List.mem_of_getElem? (i := 7) (by decide +kernel)), ⟨tyX2, tyX2_ok⟩, nmX2, by decide +kernel, Or.inr ⟨rfl, rfl, rfl⟩⟩
set_option maxRecDepth 20000 in
theorem pX2_init_18 : KFp jX2_init 18 2 6 (.array .int) := ⟨RX2, TX2, 8, rfl, by decide, (fun _ h => List.mem_cons_of_mem _ (List.mem_append_right _ h)), (List.mem_of_getElem? (i := 9) (by decide +kernel)), ⟨tyX2, tyX2_ok⟩, nmX2, by decide +kernel, Or.inr ⟨rfl, rfl, rfl⟩⟩
set_option maxRecDepth 20000 in
theorem pX2_init_22 : KFp jX2_init 22 2 7 (.array .int) := ⟨RX2, TX2, 8, rfl, by decide, (fun _ h => List.mem_cons_of_mem _ (List.mem_append_right _ h)), (List.mem_of_getElem? (i := 10) (by decide +kernel)), ⟨tyX2, tyX2_ok⟩, nmX2, by decide +kernel, Or.inr ⟨rfl, rfl, rfl⟩⟩
set_option maxRecDepth 20000 in
theorem pX2_init_25 : KFp jX2_init 25 2 3 (.object "KerbQueue$Folk") := ⟨RX2, TX2, 8, rfl, by decide, (fun _ h => List.mem_cons_of_mem _ (List.mem_append_right _ h)), (List.mem_of_getElem? (i := 11) (by decide +kernel)), ⟨tyX2, tyX2_ok⟩, nmX2, by decide +kernel, Or.inr ⟨rfl, rfl, rfl⟩⟩
set_option maxRecDepth 20000 in
theorem pX2_init_29 : KFp jX2_init 29 2 4 (.object "KerbQueue$Scene") := ⟨RX2, TX2, 8, rfl, by decide, (fun _ h => List.mem_cons_of_mem _ (List.mem_append_right _ h)), (List.mem_of_getElem? (i := 12) (by decide +kernel)), ⟨tyX2, tyX2_ok⟩, nmX2, by decide +kernel, Or.inr ⟨rfl, rfl, rfl⟩⟩
set_option maxRecDepth 20000 in
theorem oX2_init_3 : Cond.methodLink jX2_init.1.cls 3 objectInit ∈ jX2_init.2.2.1 ∧ Cond.instanceMethod objectInit ∈ jX2_init.2.2.1 ∧ Cond.code objectInit ⟨#[0xb1]⟩ 1 none ∈ jX2_init.2.2.1 := ⟨(List.mem_of_getElem? (i := 1) (by decide +kernel)), (List.mem_of_getElem? (i := 2) (by decide +kernel)), (List.mem_of_getElem? (i := 3) (by decide +kernel))⟩
set_option maxRecDepth 20000 in
theorem vX2_init_11 : KCIN jX2_init 11 jX4_init 0 := ⟨gX2_init_X4_init_n11, (List.mem_of_getElem? (i := 6) (by decide +kernel)), show (RX2, 11, yX4_init) ∈ kqNest by decide +kernel, (List.mem_of_getElem? (i := 13) (by decide +kernel)), rfl, rfl, ⟨⟨_, rfl⟩, ⟨by decide +kernel, by decide +kernel, by decide +kernel⟩, ⟨by decide, by decide⟩, rfl, rfl⟩⟩
abbrev jX4_run : KJ := (yX4_run, cX4_run, wsX4_run, 4, none, { frames := 4, cells := 0, slots := 0, locals := 92 }, 0, 0)
set_option maxRecDepth 20000 in
theorem vX4_run_80 : KCV jX4_run 80 jX4_runMinute 2 := ⟨gX4_run_X4_runMinute, ⟨⟨_, rfl⟩, ⟨by decide +kernel, by decide +kernel, by decide +kernel⟩, ⟨by decide, by decide⟩, rfl, rfl⟩⟩
abbrev jX2_sceneBehind : KJ := (yX2_sceneBehind, cX2_sceneBehind, wsX2_sceneBehind, 2, (some (.object "KerbQueue$Scene")), { frames := 5, cells := 0, slots := 0, locals := 115 }, 0, 0)
set_option maxRecDepth 20000 in
theorem fX2_sceneBehind_12 : KF jX2_sceneBehind 12 2 5 := ⟨RX2, TX2, 8, rfl, by decide, (fun _ h => List.mem_cons_of_mem _ (List.mem_append_left _ (List.mem_append_left _ (List.mem_append_right _ h)))), (List.mem_of_getElem? (i := 1) (by decide +kernel))⟩
set_option maxRecDepth 20000 in
theorem fX2_sceneBehind_29 : KF jX2_sceneBehind 29 2 4 := ⟨RX2, TX2, 8, rfl, by decide, (fun _ h => List.mem_cons_of_mem _ (List.mem_append_left _ (List.mem_append_left _ (List.mem_append_right _ h)))), (List.mem_of_getElem? (i := 2) (by decide +kernel))⟩
set_option maxRecDepth 20000 in
theorem fX2_sceneBehind_25 : KF jX2_sceneBehind 25 2 3 := ⟨RX2, TX2, 8, rfl, by decide, (fun _ h => List.mem_cons_of_mem _ (List.mem_append_left _ (List.mem_append_left _ (List.mem_append_right _ h)))), (List.mem_of_getElem? (i := 3) (by decide +kernel))⟩
set_option maxRecDepth 20000 in
theorem vX2_sceneBehind_32 : KCV jX2_sceneBehind 32 jX4_copyFrom 1 := ⟨gX2_sceneBehind_X4_copyFrom, ⟨⟨_, rfl⟩, ⟨by decide +kernel, by decide +kernel, by decide +kernel⟩, ⟨by decide, by decide⟩, rfl, rfl⟩⟩
set_option maxRecDepth 20000 in
theorem vX2_sceneBehind_36 : KCV jX2_sceneBehind 36 jX4_run 2 := ⟨gX2_sceneBehind_X4_run, ⟨⟨_, rfl⟩, ⟨by decide +kernel, by decide +kernel, by decide +kernel⟩, ⟨by decide, by decide⟩, rfl, rfl⟩⟩
abbrev jX2_waitInTrialOf : KJ := (yX2_waitInTrialOf, cX2_waitInTrialOf, wsX2_waitInTrialOf, 3, (some .int), { frames := 4, cells := 0, slots := 0, locals := 92 }, 0, 0)
set_option maxRecDepth 20000 in
theorem fX2_waitInTrialOf_12 : KF jX2_waitInTrialOf 12 2 5 := ⟨RX2, TX2, 8, rfl, by decide, (fun _ h => List.mem_cons_of_mem _ (List.mem_append_left _ (List.mem_append_left _ (List.mem_append_right _ h)))), (List.mem_of_getElem? (i := 1) (by decide +kernel))⟩
set_option maxRecDepth 20000 in
theorem fX2_waitInTrialOf_25 : KF jX2_waitInTrialOf 25 2 3 := ⟨RX2, TX2, 8, rfl, by decide, (fun _ h => List.mem_cons_of_mem _ (List.mem_append_left _ (List.mem_append_left _ (List.mem_append_right _ h)))), (List.mem_of_getElem? (i := 2) (by decide +kernel))⟩
set_option maxRecDepth 20000 in
theorem vX2_waitInTrialOf_44 : KCV jX2_waitInTrialOf 44 jX4_runMinute 2 := ⟨gX2_waitInTrialOf_X4_runMinute, ⟨⟨_, rfl⟩, ⟨by decide +kernel, by decide +kernel, by decide +kernel⟩, ⟨by decide, by decide⟩, rfl, rfl⟩⟩
set_option maxRecDepth 20000 in
theorem vX2_waitInTrialOf_48 : KCV jX2_waitInTrialOf 48 jX4_isServed 1 := ⟨gX2_waitInTrialOf_X4_isServed, ⟨⟨_, rfl⟩, ⟨by decide +kernel, by decide +kernel, by decide +kernel⟩, ⟨by decide, by decide⟩, rfl, rfl⟩⟩
abbrev jX2_waitOf : KJ := (yX2_waitOf, cX2_waitOf, wsX2_waitOf, 2, (some .int), { frames := 5, cells := 0, slots := 0, locals := 114 }, 0, 0)
set_option maxRecDepth 20000 in
theorem fX2_waitOf_12 : KF jX2_waitOf 12 2 5 := ⟨RX2, TX2, 8, rfl, by decide, (fun _ h => List.mem_cons_of_mem _ (List.mem_append_left _ (List.mem_append_left _ (List.mem_append_right _ h)))), (List.mem_of_getElem? (i := 1) (by decide +kernel))⟩
set_option maxRecDepth 20000 in
theorem fX2_waitOf_29 : KF jX2_waitOf 29 2 4 := ⟨RX2, TX2, 8, rfl, by decide, (fun _ h => List.mem_cons_of_mem _ (List.mem_append_left _ (List.mem_append_left _ (List.mem_append_right _ h)))), (List.mem_of_getElem? (i := 2) (by decide +kernel))⟩
set_option maxRecDepth 20000 in
theorem vX2_waitOf_32 : KCV jX2_waitOf 32 jX4_copyFrom 1 := ⟨gX2_waitOf_X4_copyFrom, ⟨⟨_, rfl⟩, ⟨by decide +kernel, by decide +kernel, by decide +kernel⟩, ⟨by decide, by decide⟩, rfl, rfl⟩⟩
set_option maxRecDepth 20000 in
theorem vX2_waitOf_40 : KCV jX2_waitOf 40 jX2_waitInTrialOf 1 := ⟨gX2_waitOf_X2_waitInTrialOf, ⟨⟨_, rfl⟩, ⟨by decide +kernel, by decide +kernel, by decide +kernel⟩, ⟨by decide, by decide⟩, rfl, rfl⟩⟩
abbrev jX4_dueOf : KJ := (yX4_dueOf, cX4_dueOf, wsX4_dueOf, 4, (some .int), { frames := 2, cells := 0, slots := 0, locals := 43 }, 0, 0)
set_option maxRecDepth 20000 in
theorem vX4_dueOf_54 : KCV jX4_dueOf 54 jX4_debt 2 := ⟨gX4_dueOf_X4_debt, ⟨⟨_, rfl⟩, ⟨by decide +kernel, by decide +kernel, by decide +kernel⟩, ⟨by decide, by decide⟩, rfl, rfl⟩⟩
abbrev jX2_take : KJ := (yX2_take, cX2_take, wsX2_take, 3, none, { frames := 0, cells := 0, slots := 0, locals := 0 }, 0, 0)
set_option maxRecDepth 20000 in
theorem pX2_take_52 : KFp jX2_take 52 2 0 .boolean := ⟨RX2, TX2, 8, rfl, by decide, (fun _ h => List.mem_cons_of_mem _ (List.mem_append_right _ h)), (List.mem_of_getElem? (i := 1) (by decide +kernel)), ⟨tyX2, tyX2_ok⟩, nmX2, by decide +kernel, Or.inl rfl⟩
set_option maxRecDepth 20000 in
theorem pX2_take_109 : KFp jX2_take 109 2 1 .int := ⟨RX2, TX2, 8, rfl, by decide, (fun _ h => List.mem_cons_of_mem _ (List.mem_append_right _ h)), (List.mem_of_getElem? (i := 2) (by decide +kernel)), ⟨tyX2, tyX2_ok⟩, nmX2, by decide +kernel, Or.inl rfl⟩
set_option maxRecDepth 20000 in
theorem pX2_take_103 : KFp jX2_take 103 2 2 .int := ⟨RX2, TX2, 8, rfl, by decide, (fun _ h => List.mem_cons_of_mem _ (List.mem_append_right _ h)), (List.mem_of_getElem? (i := 3) (by decide +kernel)), ⟨tyX2, tyX2_ok⟩, nmX2, by decide +kernel, Or.inl rfl⟩
abbrev jX2_offerMost : KJ := (yX2_offerMost, cX2_offerMost, wsX2_offerMost, 3, none, { frames := 1, cells := 0, slots := 0, locals := 22 }, 0, 0)
set_option maxRecDepth 20000 in
theorem fX2_offerMost_52 : KF jX2_offerMost 52 2 0 := ⟨RX2, TX2, 8, rfl, by decide, (fun _ h => List.mem_cons_of_mem _ (List.mem_append_right _ h)), (List.mem_of_getElem? (i := 1) (by decide +kernel))⟩
set_option maxRecDepth 20000 in
theorem fX2_offerMost_103 : KF jX2_offerMost 103 2 2 := ⟨RX2, TX2, 8, rfl, by decide, (fun _ h => List.mem_cons_of_mem _ (List.mem_append_right _ h)), (List.mem_of_getElem? (i := 2) (by decide +kernel))⟩
set_option maxRecDepth 20000 in
theorem vX2_offerMost_106 : KCV jX2_offerMost 106 jX2_take 2 := ⟨gX2_offerMost_X2_take, ⟨⟨_, rfl⟩, ⟨by decide +kernel, by decide +kernel, by decide +kernel⟩, ⟨by decide, by decide⟩, rfl, rfl⟩⟩
abbrev jX2_seekStand : KJ := (yX2_seekStand, cX2_seekStand, wsX2_seekStand, 4, none, { frames := 5, cells := 0, slots := 0, locals := 115 }, 0, 0)
set_option maxRecDepth 20000 in
theorem pX2_seekStand_52 : KFp jX2_seekStand 52 2 0 .boolean := ⟨RX2, TX2, 8, rfl, by decide, (fun _ h => List.mem_cons_of_mem _ (List.mem_append_left _ (List.mem_append_left _ (List.mem_append_right _ h)))), (List.mem_of_getElem? (i := 1) (by decide +kernel)), ⟨tyX2, tyX2_ok⟩, nmX2, by decide +kernel, Or.inl rfl⟩
set_option maxRecDepth 20000 in
theorem fX2_seekStand_29 : KF jX2_seekStand 29 2 4 := ⟨RX2, TX2, 8, rfl, by decide, (fun _ h => List.mem_cons_of_mem _ (List.mem_append_left _ (List.mem_append_left _ (List.mem_append_right _ h)))), (List.mem_of_getElem? (i := 2) (by decide +kernel))⟩
set_option maxRecDepth 20000 in
theorem fX2_seekStand_56 : KF jX2_seekStand 56 3 4 := ⟨RX4, TX4, 6, rfl, by decide, (fun _ h => List.mem_cons_of_mem _ (List.mem_append_left _ (List.mem_append_right _ h))), (List.mem_of_getElem? (i := 3) (by decide +kernel))⟩
set_option maxRecDepth 20000 in
theorem fX2_seekStand_12 : KF jX2_seekStand 12 2 5 := ⟨RX2, TX2, 8, rfl, by decide, (fun _ h => List.mem_cons_of_mem _ (List.mem_append_left _ (List.mem_append_left _ (List.mem_append_right _ h)))), (List.mem_of_getElem? (i := 4) (by decide +kernel))⟩
set_option maxRecDepth 20000 in
theorem fX2_seekStand_25 : KF jX2_seekStand 25 2 3 := ⟨RX2, TX2, 8, rfl, by decide, (fun _ h => List.mem_cons_of_mem _ (List.mem_append_left _ (List.mem_append_left _ (List.mem_append_right _ h)))), (List.mem_of_getElem? (i := 5) (by decide +kernel))⟩
set_option maxRecDepth 20000 in
theorem vX2_seekStand_32 : KCV jX2_seekStand 32 jX4_copyFrom 1 := ⟨gX2_seekStand_X4_copyFrom, ⟨⟨_, rfl⟩, ⟨by decide +kernel, by decide +kernel, by decide +kernel⟩, ⟨by decide, by decide⟩, rfl, rfl⟩⟩
set_option maxRecDepth 20000 in
theorem vX2_seekStand_60 : KCV jX2_seekStand 60 jX4_takeOut 2 := ⟨gX2_seekStand_X4_takeOut, ⟨⟨_, rfl⟩, ⟨by decide +kernel, by decide +kernel, by decide +kernel⟩, ⟨by decide, by decide⟩, rfl, rfl⟩⟩
set_option maxRecDepth 20000 in
theorem vX2_seekStand_64 : KCV jX2_seekStand 64 jX4_insert 2 := ⟨gX2_seekStand_X4_insert, ⟨⟨_, rfl⟩, ⟨by decide +kernel, by decide +kernel, by decide +kernel⟩, ⟨by decide, by decide⟩, rfl, rfl⟩⟩
set_option maxRecDepth 20000 in
theorem vX2_seekStand_36 : KCV jX2_seekStand 36 jX4_run 2 := ⟨gX2_seekStand_X4_run, ⟨⟨_, rfl⟩, ⟨by decide +kernel, by decide +kernel, by decide +kernel⟩, ⟨by decide, by decide⟩, rfl, rfl⟩⟩
set_option maxRecDepth 20000 in
theorem vX2_seekStand_48 : KCV jX2_seekStand 48 jX4_isServed 1 := ⟨gX2_seekStand_X4_isServed, ⟨⟨_, rfl⟩, ⟨by decide +kernel, by decide +kernel, by decide +kernel⟩, ⟨by decide, by decide⟩, rfl, rfl⟩⟩
set_option maxRecDepth 20000 in
theorem vX2_seekStand_67 : KCV jX2_seekStand 67 jX4_dueOf 1 := ⟨gX2_seekStand_X4_dueOf, ⟨⟨_, rfl⟩, ⟨by decide +kernel, by decide +kernel, by decide +kernel⟩, ⟨by decide, by decide⟩, rfl, rfl⟩⟩
set_option maxRecDepth 20000 in
theorem vX2_seekStand_70 : KCV jX2_seekStand 70 jX2_offerMost 2 := ⟨gX2_seekStand_X2_offerMost, ⟨⟨_, rfl⟩, ⟨by decide +kernel, by decide +kernel, by decide +kernel⟩, ⟨by decide, by decide⟩, rfl, rfl⟩⟩
abbrev jX2_offerSoonest : KJ := (yX2_offerSoonest, cX2_offerSoonest, wsX2_offerSoonest, 3, none, { frames := 1, cells := 0, slots := 0, locals := 22 }, 0, 0)
set_option maxRecDepth 20000 in
theorem fX2_offerSoonest_52 : KF jX2_offerSoonest 52 2 0 := ⟨RX2, TX2, 8, rfl, by decide, (fun _ h => List.mem_cons_of_mem _ (List.mem_append_right _ h)), (List.mem_of_getElem? (i := 1) (by decide +kernel))⟩
set_option maxRecDepth 20000 in
theorem fX2_offerSoonest_103 : KF jX2_offerSoonest 103 2 2 := ⟨RX2, TX2, 8, rfl, by decide, (fun _ h => List.mem_cons_of_mem _ (List.mem_append_right _ h)), (List.mem_of_getElem? (i := 2) (by decide +kernel))⟩
set_option maxRecDepth 20000 in
theorem vX2_offerSoonest_106 : KCV jX2_offerSoonest 106 jX2_take 2 := ⟨gX2_offerSoonest_X2_take, ⟨⟨_, rfl⟩, ⟨by decide +kernel, by decide +kernel, by decide +kernel⟩, ⟨by decide, by decide⟩, rfl, rfl⟩⟩
abbrev jX2_seekHaste : KJ := (yX2_seekHaste, cX2_seekHaste, wsX2_seekHaste, 4, none, { frames := 5, cells := 0, slots := 0, locals := 114 }, 0, 0)
set_option maxRecDepth 20000 in
theorem pX2_seekHaste_52 : KFp jX2_seekHaste 52 2 0 .boolean := ⟨RX2, TX2, 8, rfl, by decide, (fun _ h => List.mem_cons_of_mem _ (List.mem_append_left _ (List.mem_append_left _ (List.mem_append_right _ h)))), (List.mem_of_getElem? (i := 1) (by decide +kernel)), ⟨tyX2, tyX2_ok⟩, nmX2, by decide +kernel, Or.inl rfl⟩
set_option maxRecDepth 20000 in
theorem fX2_seekHaste_12 : KF jX2_seekHaste 12 2 5 := ⟨RX2, TX2, 8, rfl, by decide, (fun _ h => List.mem_cons_of_mem _ (List.mem_append_left _ (List.mem_append_left _ (List.mem_append_right _ h)))), (List.mem_of_getElem? (i := 2) (by decide +kernel))⟩
set_option maxRecDepth 20000 in
theorem fX2_seekHaste_29 : KF jX2_seekHaste 29 2 4 := ⟨RX2, TX2, 8, rfl, by decide, (fun _ h => List.mem_cons_of_mem _ (List.mem_append_left _ (List.mem_append_left _ (List.mem_append_right _ h)))), (List.mem_of_getElem? (i := 3) (by decide +kernel))⟩
set_option maxRecDepth 20000 in
theorem fX2_seekHaste_25 : KF jX2_seekHaste 25 2 3 := ⟨RX2, TX2, 8, rfl, by decide, (fun _ h => List.mem_cons_of_mem _ (List.mem_append_left _ (List.mem_append_left _ (List.mem_append_right _ h)))), (List.mem_of_getElem? (i := 4) (by decide +kernel))⟩
set_option maxRecDepth 20000 in
theorem fX2_seekHaste_76 : KF jX2_seekHaste 76 1 3 := ⟨RX1, TX1, 5, rfl, by decide, (fun _ h => List.mem_cons_of_mem _ (List.mem_append_left _ (List.mem_append_right _ h))), (List.mem_of_getElem? (i := 5) (by decide +kernel))⟩
set_option maxRecDepth 20000 in
theorem vX2_seekHaste_32 : KCV jX2_seekHaste 32 jX4_copyFrom 1 := ⟨gX2_seekHaste_X4_copyFrom, ⟨⟨_, rfl⟩, ⟨by decide +kernel, by decide +kernel, by decide +kernel⟩, ⟨by decide, by decide⟩, rfl, rfl⟩⟩
set_option maxRecDepth 20000 in
theorem vX2_seekHaste_40 : KCV jX2_seekHaste 40 jX2_waitInTrialOf 1 := ⟨gX2_seekHaste_X2_waitInTrialOf, ⟨⟨_, rfl⟩, ⟨by decide +kernel, by decide +kernel, by decide +kernel⟩, ⟨by decide, by decide⟩, rfl, rfl⟩⟩
set_option maxRecDepth 20000 in
theorem vX2_seekHaste_73 : KCV jX2_seekHaste 73 jX2_offerSoonest 2 := ⟨gX2_seekHaste_X2_offerSoonest, ⟨⟨_, rfl⟩, ⟨by decide +kernel, by decide +kernel, by decide +kernel⟩, ⟨by decide, by decide⟩, rfl, rfl⟩⟩
set_option maxRecDepth 20000 in
theorem vX2_seekHaste_81 : KCV jX2_seekHaste 81 jX4_canLet 2 := ⟨gX2_seekHaste_X4_canLet, ⟨⟨_, rfl⟩, ⟨by decide +kernel, by decide +kernel, by decide +kernel⟩, ⟨by decide, by decide⟩, rfl, rfl⟩⟩
set_option maxRecDepth 20000 in
theorem vX2_seekHaste_85 : KCV jX2_seekHaste 85 jX4_letPast 2 := ⟨gX2_seekHaste_X4_letPast, ⟨⟨_, rfl⟩, ⟨by decide +kernel, by decide +kernel, by decide +kernel⟩, ⟨by decide, by decide⟩, rfl, rfl⟩⟩
abbrev jX2_duesInTrialOfOthers : KJ := (yX2_duesInTrialOfOthers, cX2_duesInTrialOfOthers, wsX2_duesInTrialOfOthers, 5, (some .int), { frames := 3, cells := 0, slots := 0, locals := 66 }, 0, 0)
set_option maxRecDepth 20000 in
theorem fX2_duesInTrialOfOthers_29 : KF jX2_duesInTrialOfOthers 29 2 4 := ⟨RX2, TX2, 8, rfl, by decide, (fun _ h => List.mem_cons_of_mem _ (List.mem_append_left _ (List.mem_append_right _ h))), (List.mem_of_getElem? (i := 1) (by decide +kernel))⟩
set_option maxRecDepth 20000 in
theorem fX2_duesInTrialOfOthers_56 : KF jX2_duesInTrialOfOthers 56 3 4 := ⟨RX4, TX4, 6, rfl, by decide, (fun _ h => List.mem_cons_of_mem _ (List.mem_append_right _ h)), (List.mem_of_getElem? (i := 2) (by decide +kernel))⟩
set_option maxRecDepth 20000 in
theorem fX2_duesInTrialOfOthers_94 : KF jX2_duesInTrialOfOthers 94 3 0 := ⟨RX4, TX4, 6, rfl, by decide, (fun _ h => List.mem_cons_of_mem _ (List.mem_append_right _ h)), (List.mem_of_getElem? (i := 3) (by decide +kernel))⟩
set_option maxRecDepth 20000 in
theorem fX2_duesInTrialOfOthers_12 : KF jX2_duesInTrialOfOthers 12 2 5 := ⟨RX2, TX2, 8, rfl, by decide, (fun _ h => List.mem_cons_of_mem _ (List.mem_append_left _ (List.mem_append_right _ h))), (List.mem_of_getElem? (i := 4) (by decide +kernel))⟩
set_option maxRecDepth 20000 in
theorem vX2_duesInTrialOfOthers_97 : KCS jX2_duesInTrialOfOthers 97 jX3_at 2 := ⟨gX2_duesInTrialOfOthers_X3_at, ⟨⟨_, rfl⟩, ⟨by decide +kernel, by decide +kernel, by decide +kernel⟩, ⟨by decide, by decide⟩, rfl, rfl⟩⟩
set_option maxRecDepth 20000 in
theorem vX2_duesInTrialOfOthers_67 : KCV jX2_duesInTrialOfOthers 67 jX4_dueOf 1 := ⟨gX2_duesInTrialOfOthers_X4_dueOf, ⟨⟨_, rfl⟩, ⟨by decide +kernel, by decide +kernel, by decide +kernel⟩, ⟨by decide, by decide⟩, rfl, rfl⟩⟩
abbrev jX2_seekMiss : KJ := (yX2_seekMiss, cX2_seekMiss, wsX2_seekMiss, 2, none, { frames := 5, cells := 0, slots := 0, locals := 115 }, 0, 0)
set_option maxRecDepth 20000 in
theorem pX2_seekMiss_52 : KFp jX2_seekMiss 52 2 0 .boolean := ⟨RX2, TX2, 8, rfl, by decide, (fun _ h => List.mem_cons_of_mem _ (List.mem_append_left _ (List.mem_append_left _ (List.mem_append_right _ h)))), (List.mem_of_getElem? (i := 1) (by decide +kernel)), ⟨tyX2, tyX2_ok⟩, nmX2, by decide +kernel, Or.inl rfl⟩
set_option maxRecDepth 20000 in
theorem fX2_seekMiss_25 : KF jX2_seekMiss 25 2 3 := ⟨RX2, TX2, 8, rfl, by decide, (fun _ h => List.mem_cons_of_mem _ (List.mem_append_left _ (List.mem_append_left _ (List.mem_append_right _ h)))), (List.mem_of_getElem? (i := 2) (by decide +kernel))⟩
set_option maxRecDepth 20000 in
theorem fX2_seekMiss_76 : KF jX2_seekMiss 76 1 3 := ⟨RX1, TX1, 5, rfl, by decide, (fun _ h => List.mem_cons_of_mem _ (List.mem_append_left _ (List.mem_append_right _ h))), (List.mem_of_getElem? (i := 3) (by decide +kernel))⟩
set_option maxRecDepth 20000 in
theorem fX2_seekMiss_29 : KF jX2_seekMiss 29 2 4 := ⟨RX2, TX2, 8, rfl, by decide, (fun _ h => List.mem_cons_of_mem _ (List.mem_append_left _ (List.mem_append_left _ (List.mem_append_right _ h)))), (List.mem_of_getElem? (i := 4) (by decide +kernel))⟩
set_option maxRecDepth 20000 in
theorem fX2_seekMiss_12 : KF jX2_seekMiss 12 2 5 := ⟨RX2, TX2, 8, rfl, by decide, (fun _ h => List.mem_cons_of_mem _ (List.mem_append_left _ (List.mem_append_left _ (List.mem_append_right _ h)))), (List.mem_of_getElem? (i := 5) (by decide +kernel))⟩
set_option maxRecDepth 20000 in
theorem vX2_seekMiss_88 : KCV jX2_seekMiss 88 jX4_isQueued 1 := ⟨gX2_seekMiss_X4_isQueued, ⟨⟨_, rfl⟩, ⟨by decide +kernel, by decide +kernel, by decide +kernel⟩, ⟨by decide, by decide⟩, rfl, rfl⟩⟩
set_option maxRecDepth 20000 in
theorem vX2_seekMiss_32 : KCV jX2_seekMiss 32 jX4_copyFrom 1 := ⟨gX2_seekMiss_X4_copyFrom, ⟨⟨_, rfl⟩, ⟨by decide +kernel, by decide +kernel, by decide +kernel⟩, ⟨by decide, by decide⟩, rfl, rfl⟩⟩
set_option maxRecDepth 20000 in
theorem vX2_seekMiss_60 : KCV jX2_seekMiss 60 jX4_takeOut 2 := ⟨gX2_seekMiss_X4_takeOut, ⟨⟨_, rfl⟩, ⟨by decide +kernel, by decide +kernel, by decide +kernel⟩, ⟨by decide, by decide⟩, rfl, rfl⟩⟩
set_option maxRecDepth 20000 in
theorem vX2_seekMiss_36 : KCV jX2_seekMiss 36 jX4_run 2 := ⟨gX2_seekMiss_X4_run, ⟨⟨_, rfl⟩, ⟨by decide +kernel, by decide +kernel, by decide +kernel⟩, ⟨by decide, by decide⟩, rfl, rfl⟩⟩
set_option maxRecDepth 20000 in
theorem vX2_seekMiss_91 : KCV jX2_seekMiss 91 jX2_duesInTrialOfOthers 1 := ⟨gX2_seekMiss_X2_duesInTrialOfOthers, ⟨⟨_, rfl⟩, ⟨by decide +kernel, by decide +kernel, by decide +kernel⟩, ⟨by decide, by decide⟩, rfl, rfl⟩⟩
set_option maxRecDepth 20000 in
theorem vX2_seekMiss_70 : KCV jX2_seekMiss 70 jX2_offerMost 2 := ⟨gX2_seekMiss_X2_offerMost, ⟨⟨_, rfl⟩, ⟨by decide +kernel, by decide +kernel, by decide +kernel⟩, ⟨by decide, by decide⟩, rfl, rfl⟩⟩
abbrev jX2_mostGroupsInParts : KJ := (yX2_mostGroupsInParts, cX2_mostGroupsInParts, wsX2_mostGroupsInParts, 4, (some .int), { frames := 1, cells := 0, slots := 0, locals := 21 }, 0, 0)
set_option maxRecDepth 20000 in
theorem fX2_mostGroupsInParts_25 : KF jX2_mostGroupsInParts 25 2 3 := ⟨RX2, TX2, 8, rfl, by decide, (fun _ h => List.mem_cons_of_mem _ (List.mem_append_left _ (List.mem_append_right _ h))), (List.mem_of_getElem? (i := 1) (by decide +kernel))⟩
set_option maxRecDepth 20000 in
theorem fX2_mostGroupsInParts_76 : KF jX2_mostGroupsInParts 76 1 3 := ⟨RX1, TX1, 5, rfl, by decide, (fun _ h => List.mem_cons_of_mem _ (List.mem_append_right _ h)), (List.mem_of_getElem? (i := 2) (by decide +kernel))⟩
set_option maxRecDepth 20000 in
theorem fX2_mostGroupsInParts_22 : KF jX2_mostGroupsInParts 22 2 7 := ⟨RX2, TX2, 8, rfl, by decide, (fun _ h => List.mem_cons_of_mem _ (List.mem_append_left _ (List.mem_append_right _ h))), (List.mem_of_getElem? (i := 3) (by decide +kernel))⟩
set_option maxRecDepth 20000 in
theorem vX2_mostGroupsInParts_97 : KCS jX2_mostGroupsInParts 97 jX3_at 2 := ⟨gX2_mostGroupsInParts_X3_at, ⟨⟨_, rfl⟩, ⟨by decide +kernel, by decide +kernel, by decide +kernel⟩, ⟨by decide, by decide⟩, rfl, rfl⟩⟩
set_option maxRecDepth 20000 in
theorem vX2_mostGroupsInParts_119 : KMx jX2_mostGroupsInParts 119 := ⟨(List.mem_of_getElem? (i := 4) (by decide +kernel)), (List.mem_of_getElem? (i := 5) (by decide +kernel)), (List.mem_of_getElem? (i := 6) (by decide +kernel)), (List.mem_of_getElem? (i := 7) (by decide +kernel)), Nat.le_of_ble_eq_true rfl⟩
abbrev jX2_fewestPayments : KJ := (yX2_fewestPayments, cX2_fewestPayments, wsX2_fewestPayments, 6, (some .int), { frames := 3, cells := 0, slots := 0, locals := 66 }, 0, 0)
set_option maxRecDepth 20000 in
theorem fX2_fewestPayments_25 : KF jX2_fewestPayments 25 2 3 := ⟨RX2, TX2, 8, rfl, by decide, (fun _ h => List.mem_cons_of_mem _ (List.mem_append_left _ (List.mem_append_left _ (List.mem_append_right _ h)))), (List.mem_of_getElem? (i := 1) (by decide +kernel))⟩
set_option maxRecDepth 20000 in
theorem fX2_fewestPayments_76 : KF jX2_fewestPayments 76 1 3 := ⟨RX1, TX1, 5, rfl, by decide, (fun _ h => List.mem_cons_of_mem _ (List.mem_append_left _ (List.mem_append_right _ h))), (List.mem_of_getElem? (i := 2) (by decide +kernel))⟩
set_option maxRecDepth 20000 in
theorem fX2_fewestPayments_29 : KF jX2_fewestPayments 29 2 4 := ⟨RX2, TX2, 8, rfl, by decide, (fun _ h => List.mem_cons_of_mem _ (List.mem_append_left _ (List.mem_append_left _ (List.mem_append_right _ h)))), (List.mem_of_getElem? (i := 3) (by decide +kernel))⟩
set_option maxRecDepth 20000 in
theorem fX2_fewestPayments_18 : KF jX2_fewestPayments 18 2 6 := ⟨RX2, TX2, 8, rfl, by decide, (fun _ h => List.mem_cons_of_mem _ (List.mem_append_left _ (List.mem_append_left _ (List.mem_append_right _ h)))), (List.mem_of_getElem? (i := 4) (by decide +kernel))⟩
set_option maxRecDepth 20000 in
theorem fX2_fewestPayments_22 : KF jX2_fewestPayments 22 2 7 := ⟨RX2, TX2, 8, rfl, by decide, (fun _ h => List.mem_cons_of_mem _ (List.mem_append_left _ (List.mem_append_left _ (List.mem_append_right _ h)))), (List.mem_of_getElem? (i := 5) (by decide +kernel))⟩
set_option maxRecDepth 20000 in
theorem vX2_fewestPayments_67 : KCV jX2_fewestPayments 67 jX4_dueOf 1 := ⟨gX2_fewestPayments_X4_dueOf, ⟨⟨_, rfl⟩, ⟨by decide +kernel, by decide +kernel, by decide +kernel⟩, ⟨by decide, by decide⟩, rfl, rfl⟩⟩
set_option maxRecDepth 20000 in
theorem vX2_fewestPayments_97 : KCS jX2_fewestPayments 97 jX3_at 2 := ⟨gX2_fewestPayments_X3_at, ⟨⟨_, rfl⟩, ⟨by decide +kernel, by decide +kernel, by decide +kernel⟩, ⟨by decide, by decide⟩, rfl, rfl⟩⟩
set_option maxRecDepth 20000 in
theorem vX2_fewestPayments_112 : KCS jX2_fewestPayments 112 jX3_put 3 := ⟨gX2_fewestPayments_X3_put, ⟨⟨_, rfl⟩, ⟨by decide +kernel, by decide +kernel, by decide +kernel⟩, ⟨by decide, by decide⟩, rfl, rfl⟩⟩
set_option maxRecDepth 20000 in
theorem vX2_fewestPayments_116 : KCV jX2_fewestPayments 116 jX2_mostGroupsInParts 1 := ⟨gX2_fewestPayments_X2_mostGroupsInParts, ⟨⟨_, rfl⟩, ⟨by decide +kernel, by decide +kernel, by decide +kernel⟩, ⟨by decide, by decide⟩, rfl, rfl⟩⟩
abbrev jX4_empty : KJ := (yX4_empty, cX4_empty, wsX4_empty, 2, none, { frames := 0, cells := 0, slots := 0, locals := 0 }, 0, 0)
set_option maxRecDepth 20000 in
theorem fX4_empty_21 : KF jX4_empty 21 3 3 := ⟨RX4, TX4, 6, rfl, by decide, (fun _ h => List.mem_cons_of_mem _ (List.mem_append_right _ h)), (List.mem_of_getElem? (i := 1) (by decide +kernel))⟩
set_option maxRecDepth 20000 in
theorem pX4_empty_24 : KFp jX4_empty 24 3 4 .int := ⟨RX4, TX4, 6, rfl, by decide, (fun _ h => List.mem_cons_of_mem _ (List.mem_append_right _ h)), (List.mem_of_getElem? (i := 2) (by decide +kernel)), ⟨tyX4, tyX4_ok⟩, nmX4, by decide +kernel, Or.inl rfl⟩
set_option maxRecDepth 20000 in
theorem pX4_empty_28 : KFp jX4_empty 28 3 5 .int := ⟨RX4, TX4, 6, rfl, by decide, (fun _ h => List.mem_cons_of_mem _ (List.mem_append_right _ h)), (List.mem_of_getElem? (i := 3) (by decide +kernel)), ⟨tyX4, tyX4_ok⟩, nmX4, by decide +kernel, Or.inl rfl⟩
abbrev jX4_numberOf : KJ := (yX4_numberOf, cX4_numberOf, wsX4_numberOf, 5, (some .int), { frames := 1, cells := 0, slots := 0, locals := 21 }, 0, 0)
set_option maxRecDepth 20000 in
theorem fX4_numberOf_45 : KF jX4_numberOf 45 1 3 := ⟨RX1, TX1, 5, rfl, by decide, (fun _ h => List.mem_cons_of_mem _ (List.mem_append_left _ (List.mem_append_right _ h))), (List.mem_of_getElem? (i := 1) (by decide +kernel))⟩
set_option maxRecDepth 20000 in
theorem fX4_numberOf_15 : KF jX4_numberOf 15 3 1 := ⟨RX4, TX4, 6, rfl, by decide, (fun _ h => List.mem_cons_of_mem _ (List.mem_append_right _ h)), (List.mem_of_getElem? (i := 2) (by decide +kernel))⟩
set_option maxRecDepth 20000 in
theorem vX4_numberOf_37 : KCS jX4_numberOf 37 jX3_at 2 := ⟨gX4_numberOf_X3_at, ⟨⟨_, rfl⟩, ⟨by decide +kernel, by decide +kernel, by decide +kernel⟩, ⟨by decide, by decide⟩, rfl, rfl⟩⟩
abbrev jX4_owedInAll : KJ := (yX4_owedInAll, cX4_owedInAll, wsX4_owedInAll, 3, (some .int), { frames := 0, cells := 0, slots := 0, locals := 0 }, 0, 0)
set_option maxRecDepth 20000 in
theorem fX4_owedInAll_21 : KF jX4_owedInAll 21 3 3 := ⟨RX4, TX4, 6, rfl, by decide, (fun _ h => List.mem_cons_of_mem _ (List.mem_append_right _ h)), (List.mem_of_getElem? (i := 1) (by decide +kernel))⟩
abbrev jX5_init : KJ := (yX5_init, cX5_init, wsX5_init, 1, none, { frames := 2, cells := 11, slots := 306, locals := 32 }, 11, 306)
set_option maxRecDepth 20000 in
theorem pX5_init_12 : KFp jX5_init 12 4 0 (.object "KerbQueue$Folk") := ⟨RX5, TX5, 6, rfl, by decide, (fun _ h => List.mem_cons_of_mem _ (List.mem_append_left _ (List.mem_append_right _ h))), (List.mem_of_getElem? (i := 7) (by decide +kernel)), ⟨tyX5, tyX5_ok⟩, nmX5, by decide +kernel, Or.inr ⟨rfl, rfl, rfl⟩⟩
set_option maxRecDepth 20000 in
theorem pX5_init_21 : KFp jX5_init 21 4 1 (.object "KerbQueue$Scene") := ⟨RX5, TX5, 6, rfl, by decide, (fun _ h => List.mem_cons_of_mem _ (List.mem_append_left _ (List.mem_append_right _ h))), (List.mem_of_getElem? (i := 11) (by decide +kernel)), ⟨tyX5, tyX5_ok⟩, nmX5, by decide +kernel, Or.inr ⟨rfl, rfl, rfl⟩⟩
set_option maxRecDepth 20000 in
theorem pX5_init_25 : KFp jX5_init 25 4 3 (.array .int) := ⟨RX5, TX5, 6, rfl, by decide, (fun _ h => List.mem_cons_of_mem _ (List.mem_append_left _ (List.mem_append_right _ h))), (List.mem_of_getElem? (i := 13) (by decide +kernel)), ⟨tyX5, tyX5_ok⟩, nmX5, by decide +kernel, Or.inr ⟨rfl, rfl, rfl⟩⟩
set_option maxRecDepth 20000 in
theorem pX5_init_29 : KFp jX5_init 29 4 4 (.array .int) := ⟨RX5, TX5, 6, rfl, by decide, (fun _ h => List.mem_cons_of_mem _ (List.mem_append_left _ (List.mem_append_right _ h))), (List.mem_of_getElem? (i := 14) (by decide +kernel)), ⟨tyX5, tyX5_ok⟩, nmX5, by decide +kernel, Or.inr ⟨rfl, rfl, rfl⟩⟩
set_option maxRecDepth 20000 in
theorem oX5_init_3 : Cond.methodLink jX5_init.1.cls 3 objectInit ∈ jX5_init.2.2.1 ∧ Cond.instanceMethod objectInit ∈ jX5_init.2.2.1 ∧ Cond.code objectInit ⟨#[0xb1]⟩ 1 none ∈ jX5_init.2.2.1 := ⟨(List.mem_of_getElem? (i := 1) (by decide +kernel)), (List.mem_of_getElem? (i := 2) (by decide +kernel)), (List.mem_of_getElem? (i := 3) (by decide +kernel))⟩
set_option maxRecDepth 20000 in
theorem vX5_init_11 : KCIN jX5_init 11 jX1_init 0 := ⟨gX5_init_X1_init_n11, (List.mem_of_getElem? (i := 6) (by decide +kernel)), show (RX5, 11, yX1_init) ∈ kqNest by decide +kernel, (List.mem_of_getElem? (i := 15) (by decide +kernel)), rfl, rfl, ⟨⟨_, rfl⟩, ⟨by decide +kernel, by decide +kernel, by decide +kernel⟩, ⟨by decide, by decide⟩, rfl, rfl⟩⟩
set_option maxRecDepth 20000 in
theorem vX5_init_20 : KCIN jX5_init 20 jX4_init 0 := ⟨gX5_init_X4_init_n20, (List.mem_of_getElem? (i := 10) (by decide +kernel)), show (RX5, 20, yX4_init) ∈ kqNest by decide +kernel, (List.mem_of_getElem? (i := 21) (by decide +kernel)), rfl, rfl, ⟨⟨_, rfl⟩, ⟨by decide +kernel, by decide +kernel, by decide +kernel⟩, ⟨by decide, by decide⟩, rfl, rfl⟩⟩
abbrev jX5_add : KJ := (yX5_add, cX5_add, wsX5_add, 2, none, { frames := 1, cells := 0, slots := 0, locals := 22 }, 0, 0)
set_option maxRecDepth 20000 in
theorem fX5_add_25 : KF jX5_add 25 4 3 := ⟨RX5, TX5, 6, rfl, by decide, (fun _ h => List.mem_cons_of_mem _ (List.mem_append_right _ h)), (List.mem_of_getElem? (i := 1) (by decide +kernel))⟩
set_option maxRecDepth 20000 in
theorem fX5_add_32 : KF jX5_add 32 4 2 := ⟨RX5, TX5, 6, rfl, by decide, (fun _ h => List.mem_cons_of_mem _ (List.mem_append_right _ h)), (List.mem_of_getElem? (i := 2) (by decide +kernel))⟩
set_option maxRecDepth 20000 in
theorem pX5_add_32 : KFp jX5_add 32 4 2 .int := ⟨RX5, TX5, 6, rfl, by decide, (fun _ h => List.mem_cons_of_mem _ (List.mem_append_right _ h)), (List.mem_of_getElem? (i := 2) (by decide +kernel)), ⟨tyX5, tyX5_ok⟩, nmX5, by decide +kernel, Or.inl rfl⟩
set_option maxRecDepth 20000 in
theorem vX5_add_36 : KCS jX5_add 36 jX3_put 3 := ⟨gX5_add_X3_put, ⟨⟨_, rfl⟩, ⟨by decide +kernel, by decide +kernel, by decide +kernel⟩, ⟨by decide, by decide⟩, rfl, rfl⟩⟩
abbrev jX5_letterAt : KJ := (yX5_letterAt, cX5_letterAt, wsX5_letterAt, 2, (some .int), { frames := 1, cells := 0, slots := 0, locals := 21 }, 0, 0)
set_option maxRecDepth 20000 in
theorem fX5_letterAt_32 : KF jX5_letterAt 32 4 2 := ⟨RX5, TX5, 6, rfl, by decide, (fun _ h => List.mem_cons_of_mem _ (List.mem_append_right _ h)), (List.mem_of_getElem? (i := 1) (by decide +kernel))⟩
set_option maxRecDepth 20000 in
theorem fX5_letterAt_25 : KF jX5_letterAt 25 4 3 := ⟨RX5, TX5, 6, rfl, by decide, (fun _ h => List.mem_cons_of_mem _ (List.mem_append_right _ h)), (List.mem_of_getElem? (i := 2) (by decide +kernel))⟩
set_option maxRecDepth 20000 in
theorem vX5_letterAt_76 : KCS jX5_letterAt 76 jX3_at 2 := ⟨gX5_letterAt_X3_at, ⟨⟨_, rfl⟩, ⟨by decide +kernel, by decide +kernel, by decide +kernel⟩, ⟨by decide, by decide⟩, rfl, rfl⟩⟩
abbrev jX5_isFigure : KJ := (yX5_isFigure, cX5_isFigure, wsX5_isFigure, 1, (some .boolean), { frames := 0, cells := 0, slots := 0, locals := 0 }, 0, 0)
abbrev jX5_readNumber : KJ := (yX5_readNumber, cX5_readNumber, wsX5_readNumber, 3, (some .boolean), { frames := 2, cells := 0, slots := 0, locals := 42 }, 0, 0)
set_option maxRecDepth 20000 in
theorem fX5_readNumber_46 : KF jX5_readNumber 46 4 5 := ⟨RX5, TX5, 6, rfl, by decide, (fun _ h => List.mem_cons_of_mem _ (List.mem_append_right _ h)), (List.mem_of_getElem? (i := 1) (by decide +kernel))⟩
set_option maxRecDepth 20000 in
theorem pX5_readNumber_46 : KFp jX5_readNumber 46 4 5 .int := ⟨RX5, TX5, 6, rfl, by decide, (fun _ h => List.mem_cons_of_mem _ (List.mem_append_right _ h)), (List.mem_of_getElem? (i := 1) (by decide +kernel)), ⟨tyX5, tyX5_ok⟩, nmX5, by decide +kernel, Or.inl rfl⟩
set_option maxRecDepth 20000 in
theorem fX5_readNumber_29 : KF jX5_readNumber 29 4 4 := ⟨RX5, TX5, 6, rfl, by decide, (fun _ h => List.mem_cons_of_mem _ (List.mem_append_right _ h)), (List.mem_of_getElem? (i := 2) (by decide +kernel))⟩
set_option maxRecDepth 20000 in
theorem vX5_readNumber_53 : KCV jX5_readNumber 53 jX5_letterAt 1 := ⟨gX5_readNumber_X5_letterAt, ⟨⟨_, rfl⟩, ⟨by decide +kernel, by decide +kernel, by decide +kernel⟩, ⟨by decide, by decide⟩, rfl, rfl⟩⟩
set_option maxRecDepth 20000 in
theorem vX5_readNumber_73 : KCS jX5_readNumber 73 jX5_isFigure 1 := ⟨gX5_readNumber_X5_isFigure, ⟨⟨_, rfl⟩, ⟨by decide +kernel, by decide +kernel, by decide +kernel⟩, ⟨by decide, by decide⟩, rfl, rfl⟩⟩
set_option maxRecDepth 20000 in
theorem vX5_readNumber_36 : KCS jX5_readNumber 36 jX3_put 3 := ⟨gX5_readNumber_X3_put, ⟨⟨_, rfl⟩, ⟨by decide +kernel, by decide +kernel, by decide +kernel⟩, ⟨by decide, by decide⟩, rfl, rfl⟩⟩
abbrev jX5_readNumbers : KJ := (yX5_readNumbers, cX5_readNumbers, wsX5_readNumbers, 3, (some .boolean), { frames := 3, cells := 0, slots := 0, locals := 64 }, 0, 0)
set_option maxRecDepth 20000 in
theorem fX5_readNumbers_46 : KF jX5_readNumbers 46 4 5 := ⟨RX5, TX5, 6, rfl, by decide, (fun _ h => List.mem_cons_of_mem _ (List.mem_append_right _ h)), (List.mem_of_getElem? (i := 1) (by decide +kernel))⟩
set_option maxRecDepth 20000 in
theorem pX5_readNumbers_46 : KFp jX5_readNumbers 46 4 5 .int := ⟨RX5, TX5, 6, rfl, by decide, (fun _ h => List.mem_cons_of_mem _ (List.mem_append_right _ h)), (List.mem_of_getElem? (i := 1) (by decide +kernel)), ⟨tyX5, tyX5_ok⟩, nmX5, by decide +kernel, Or.inl rfl⟩
set_option maxRecDepth 20000 in
theorem vX5_readNumbers_70 : KCV jX5_readNumbers 70 jX5_readNumber 1 := ⟨gX5_readNumbers_X5_readNumber, ⟨⟨_, rfl⟩, ⟨by decide +kernel, by decide +kernel, by decide +kernel⟩, ⟨by decide, by decide⟩, rfl, rfl⟩⟩
set_option maxRecDepth 20000 in
theorem vX5_readNumbers_53 : KCV jX5_readNumbers 53 jX5_letterAt 1 := ⟨gX5_readNumbers_X5_letterAt, ⟨⟨_, rfl⟩, ⟨by decide +kernel, by decide +kernel, by decide +kernel⟩, ⟨by decide, by decide⟩, rfl, rfl⟩⟩
abbrev jX5_tellPerson : KJ := (yX5_tellPerson, cX5_tellPerson, wsX5_tellPerson, 5, (some .boolean), { frames := 3, cells := 0, slots := 0, locals := 66 }, 0, 0)
set_option maxRecDepth 20000 in
theorem fX5_tellPerson_29 : KF jX5_tellPerson 29 4 4 := ⟨RX5, TX5, 6, rfl, by decide, (fun _ h => List.mem_cons_of_mem _ (List.mem_append_left _ (List.mem_append_left _ (List.mem_append_right _ h)))), (List.mem_of_getElem? (i := 1) (by decide +kernel))⟩
set_option maxRecDepth 20000 in
theorem fX5_tellPerson_12 : KF jX5_tellPerson 12 4 0 := ⟨RX5, TX5, 6, rfl, by decide, (fun _ h => List.mem_cons_of_mem _ (List.mem_append_left _ (List.mem_append_left _ (List.mem_append_right _ h)))), (List.mem_of_getElem? (i := 2) (by decide +kernel))⟩
set_option maxRecDepth 20000 in
theorem fX5_tellPerson_79 : KF jX5_tellPerson 79 1 3 := ⟨RX1, TX1, 5, rfl, by decide, (fun _ h => List.mem_cons_of_mem _ (List.mem_append_left _ (List.mem_append_right _ h))), (List.mem_of_getElem? (i := 3) (by decide +kernel))⟩
set_option maxRecDepth 20000 in
theorem fX5_tellPerson_21 : KF jX5_tellPerson 21 4 1 := ⟨RX5, TX5, 6, rfl, by decide, (fun _ h => List.mem_cons_of_mem _ (List.mem_append_left _ (List.mem_append_left _ (List.mem_append_right _ h)))), (List.mem_of_getElem? (i := 4) (by decide +kernel))⟩
set_option maxRecDepth 20000 in
theorem fX5_tellPerson_82 : KF jX5_tellPerson 82 3 2 := ⟨RX4, TX4, 6, rfl, by decide, (fun _ h => List.mem_cons_of_mem _ (List.mem_append_right _ h)), (List.mem_of_getElem? (i := 5) (by decide +kernel))⟩
set_option maxRecDepth 20000 in
theorem vX5_tellPerson_76 : KCS jX5_tellPerson 76 jX3_at 2 := ⟨gX5_tellPerson_X3_at, ⟨⟨_, rfl⟩, ⟨by decide +kernel, by decide +kernel, by decide +kernel⟩, ⟨by decide, by decide⟩, rfl, rfl⟩⟩
set_option maxRecDepth 20000 in
theorem vX5_tellPerson_36 : KCS jX5_tellPerson 36 jX3_put 3 := ⟨gX5_tellPerson_X3_put, ⟨⟨_, rfl⟩, ⟨by decide +kernel, by decide +kernel, by decide +kernel⟩, ⟨by decide, by decide⟩, rfl, rfl⟩⟩
set_option maxRecDepth 20000 in
theorem vX5_tellPerson_85 : KCV jX5_tellPerson 85 jX4_append 1 := ⟨gX5_tellPerson_X4_append, ⟨⟨_, rfl⟩, ⟨by decide +kernel, by decide +kernel, by decide +kernel⟩, ⟨by decide, by decide⟩, rfl, rfl⟩⟩
set_option maxRecDepth 20000 in
theorem vX5_tellPerson_89 : KCV jX5_tellPerson 89 jX1_add 3 := ⟨gX5_tellPerson_X1_add, ⟨⟨_, rfl⟩, ⟨by decide +kernel, by decide +kernel, by decide +kernel⟩, ⟨by decide, by decide⟩, rfl, rfl⟩⟩
abbrev jX5_tellServed : KJ := (yX5_tellServed, cX5_tellServed, wsX5_tellServed, 2, (some .boolean), { frames := 1, cells := 0, slots := 0, locals := 21 }, 0, 0)
set_option maxRecDepth 20000 in
theorem fX5_tellServed_29 : KF jX5_tellServed 29 4 4 := ⟨RX5, TX5, 6, rfl, by decide, (fun _ h => List.mem_cons_of_mem _ (List.mem_append_left _ (List.mem_append_right _ h))), (List.mem_of_getElem? (i := 1) (by decide +kernel))⟩
set_option maxRecDepth 20000 in
theorem fX5_tellServed_12 : KF jX5_tellServed 12 4 0 := ⟨RX5, TX5, 6, rfl, by decide, (fun _ h => List.mem_cons_of_mem _ (List.mem_append_left _ (List.mem_append_right _ h))), (List.mem_of_getElem? (i := 2) (by decide +kernel))⟩
set_option maxRecDepth 20000 in
theorem pX5_tellServed_93 : KFp jX5_tellServed 93 1 4 .int := ⟨RX1, TX1, 5, rfl, by decide, (fun _ h => List.mem_cons_of_mem _ (List.mem_append_right _ h)), (List.mem_of_getElem? (i := 3) (by decide +kernel)), ⟨tyX1, tyX1_ok⟩, nmX1, by decide +kernel, Or.inl rfl⟩
set_option maxRecDepth 20000 in
theorem vX5_tellServed_76 : KCS jX5_tellServed 76 jX3_at 2 := ⟨gX5_tellServed_X3_at, ⟨⟨_, rfl⟩, ⟨by decide +kernel, by decide +kernel, by decide +kernel⟩, ⟨by decide, by decide⟩, rfl, rfl⟩⟩
abbrev jX5_tellDebt : KJ := (yX5_tellDebt, cX5_tellDebt, wsX5_tellDebt, 4, (some .boolean), { frames := 2, cells := 0, slots := 0, locals := 45 }, 0, 0)
set_option maxRecDepth 20000 in
theorem fX5_tellDebt_29 : KF jX5_tellDebt 29 4 4 := ⟨RX5, TX5, 6, rfl, by decide, (fun _ h => List.mem_cons_of_mem _ (List.mem_append_left _ (List.mem_append_left _ (List.mem_append_right _ h)))), (List.mem_of_getElem? (i := 1) (by decide +kernel))⟩
set_option maxRecDepth 20000 in
theorem fX5_tellDebt_12 : KF jX5_tellDebt 12 4 0 := ⟨RX5, TX5, 6, rfl, by decide, (fun _ h => List.mem_cons_of_mem _ (List.mem_append_left _ (List.mem_append_left _ (List.mem_append_right _ h)))), (List.mem_of_getElem? (i := 2) (by decide +kernel))⟩
set_option maxRecDepth 20000 in
theorem fX5_tellDebt_21 : KF jX5_tellDebt 21 4 1 := ⟨RX5, TX5, 6, rfl, by decide, (fun _ h => List.mem_cons_of_mem _ (List.mem_append_left _ (List.mem_append_left _ (List.mem_append_right _ h)))), (List.mem_of_getElem? (i := 3) (by decide +kernel))⟩
set_option maxRecDepth 20000 in
theorem vX5_tellDebt_76 : KCS jX5_tellDebt 76 jX3_at 2 := ⟨gX5_tellDebt_X3_at, ⟨⟨_, rfl⟩, ⟨by decide +kernel, by decide +kernel, by decide +kernel⟩, ⟨by decide, by decide⟩, rfl, rfl⟩⟩
set_option maxRecDepth 20000 in
theorem vX5_tellDebt_96 : KCV jX5_tellDebt 96 jX1_isPerson 1 := ⟨gX5_tellDebt_X1_isPerson, ⟨⟨_, rfl⟩, ⟨by decide +kernel, by decide +kernel, by decide +kernel⟩, ⟨by decide, by decide⟩, rfl, rfl⟩⟩
set_option maxRecDepth 20000 in
theorem vX5_tellDebt_99 : KCV jX5_tellDebt 99 jX4_setDebt 3 := ⟨gX5_tellDebt_X4_setDebt, ⟨⟨_, rfl⟩, ⟨by decide +kernel, by decide +kernel, by decide +kernel⟩, ⟨by decide, by decide⟩, rfl, rfl⟩⟩
abbrev jX5_readItem : KJ := (yX5_readItem, cX5_readItem, wsX5_readItem, 2, (some .boolean), { frames := 4, cells := 0, slots := 0, locals := 90 }, 0, 0)
set_option maxRecDepth 20000 in
theorem fX5_readItem_46 : KF jX5_readItem 46 4 5 := ⟨RX5, TX5, 6, rfl, by decide, (fun _ h => List.mem_cons_of_mem _ (List.mem_append_left _ (List.mem_append_left _ (List.mem_append_right _ h)))), (List.mem_of_getElem? (i := 1) (by decide +kernel))⟩
set_option maxRecDepth 20000 in
theorem pX5_readItem_46 : KFp jX5_readItem 46 4 5 .int := ⟨RX5, TX5, 6, rfl, by decide, (fun _ h => List.mem_cons_of_mem _ (List.mem_append_left _ (List.mem_append_left _ (List.mem_append_right _ h)))), (List.mem_of_getElem? (i := 1) (by decide +kernel)), ⟨tyX5, tyX5_ok⟩, nmX5, by decide +kernel, Or.inl rfl⟩
set_option maxRecDepth 20000 in
theorem vX5_readItem_53 : KCV jX5_readItem 53 jX5_letterAt 1 := ⟨gX5_readItem_X5_letterAt, ⟨⟨_, rfl⟩, ⟨by decide +kernel, by decide +kernel, by decide +kernel⟩, ⟨by decide, by decide⟩, rfl, rfl⟩⟩
set_option maxRecDepth 20000 in
theorem vX5_readItem_57 : KCV jX5_readItem 57 jX5_readNumbers 1 := ⟨gX5_readItem_X5_readNumbers, ⟨⟨_, rfl⟩, ⟨by decide +kernel, by decide +kernel, by decide +kernel⟩, ⟨by decide, by decide⟩, rfl, rfl⟩⟩
set_option maxRecDepth 20000 in
theorem vX5_readItem_61 : KCV jX5_readItem 61 jX5_tellPerson 0 := ⟨gX5_readItem_X5_tellPerson, ⟨⟨_, rfl⟩, ⟨by decide +kernel, by decide +kernel, by decide +kernel⟩, ⟨by decide, by decide⟩, rfl, rfl⟩⟩
set_option maxRecDepth 20000 in
theorem vX5_readItem_64 : KCV jX5_readItem 64 jX5_tellServed 0 := ⟨gX5_readItem_X5_tellServed, ⟨⟨_, rfl⟩, ⟨by decide +kernel, by decide +kernel, by decide +kernel⟩, ⟨by decide, by decide⟩, rfl, rfl⟩⟩
set_option maxRecDepth 20000 in
theorem vX5_readItem_67 : KCV jX5_readItem 67 jX5_tellDebt 0 := ⟨gX5_readItem_X5_tellDebt, ⟨⟨_, rfl⟩, ⟨by decide +kernel, by decide +kernel, by decide +kernel⟩, ⟨by decide, by decide⟩, rfl, rfl⟩⟩
abbrev jX5_read : KJ := (yX5_read, cX5_read, wsX5_read, 3, (some .int), { frames := 5, cells := 0, slots := 0, locals := 111 }, 0, 0)
set_option maxRecDepth 20000 in
theorem fX5_read_12 : KF jX5_read 12 4 0 := ⟨RX5, TX5, 6, rfl, by decide, (fun _ h => List.mem_cons_of_mem _ (List.mem_append_left _ (List.mem_append_left _ (List.mem_append_right _ h)))), (List.mem_of_getElem? (i := 1) (by decide +kernel))⟩
set_option maxRecDepth 20000 in
theorem fX5_read_21 : KF jX5_read 21 4 1 := ⟨RX5, TX5, 6, rfl, by decide, (fun _ h => List.mem_cons_of_mem _ (List.mem_append_left _ (List.mem_append_left _ (List.mem_append_right _ h)))), (List.mem_of_getElem? (i := 2) (by decide +kernel))⟩
set_option maxRecDepth 20000 in
theorem pX5_read_46 : KFp jX5_read 46 4 5 .int := ⟨RX5, TX5, 6, rfl, by decide, (fun _ h => List.mem_cons_of_mem _ (List.mem_append_left _ (List.mem_append_left _ (List.mem_append_right _ h)))), (List.mem_of_getElem? (i := 3) (by decide +kernel)), ⟨tyX5, tyX5_ok⟩, nmX5, by decide +kernel, Or.inl rfl⟩
set_option maxRecDepth 20000 in
theorem fX5_read_46 : KF jX5_read 46 4 5 := ⟨RX5, TX5, 6, rfl, by decide, (fun _ h => List.mem_cons_of_mem _ (List.mem_append_left _ (List.mem_append_left _ (List.mem_append_right _ h)))), (List.mem_of_getElem? (i := 3) (by decide +kernel))⟩
set_option maxRecDepth 20000 in
theorem fX5_read_32 : KF jX5_read 32 4 2 := ⟨RX5, TX5, 6, rfl, by decide, (fun _ h => List.mem_cons_of_mem _ (List.mem_append_left _ (List.mem_append_left _ (List.mem_append_right _ h)))), (List.mem_of_getElem? (i := 4) (by decide +kernel))⟩
set_option maxRecDepth 20000 in
theorem vX5_read_42 : KCV jX5_read 42 jX1_empty 0 := ⟨gX5_read_X1_empty, ⟨⟨_, rfl⟩, ⟨by decide +kernel, by decide +kernel, by decide +kernel⟩, ⟨by decide, by decide⟩, rfl, rfl⟩⟩
set_option maxRecDepth 20000 in
theorem vX5_read_45 : KCV jX5_read 45 jX4_empty 0 := ⟨gX5_read_X4_empty, ⟨⟨_, rfl⟩, ⟨by decide +kernel, by decide +kernel, by decide +kernel⟩, ⟨by decide, by decide⟩, rfl, rfl⟩⟩
set_option maxRecDepth 20000 in
theorem vX5_read_49 : KCV jX5_read 49 jX5_readItem 0 := ⟨gX5_read_X5_readItem, ⟨⟨_, rfl⟩, ⟨by decide +kernel, by decide +kernel, by decide +kernel⟩, ⟨by decide, by decide⟩, rfl, rfl⟩⟩
abbrev jX6_init (n : Nat) : KJ := (yX6_init, cX6_init, wsX6_init, 3, none, { frames := 2, cells := 1 + 5 * n, slots := 77 * n, locals := 32 }, 1 + 5 * n, 77 * n)
set_option maxRecDepth 20000 in
theorem pX6_init_15 (n : Nat) : KFp (jX6_init n) 15 5 1 (.array (.object "KerbQueue$Scene")) := ⟨RX6, TX6, 2, rfl, by decide, (fun _ h => List.mem_cons_of_mem _ (List.mem_append_left _ (List.mem_append_right _ h))), (List.mem_of_getElem? (i := 9) rfl), ⟨tyX6, tyX6_ok⟩, nmX6, by decide +kernel, Or.inr ⟨rfl, rfl, rfl⟩⟩
set_option maxRecDepth 20000 in
theorem fX6_init_15 (n : Nat) : KF (jX6_init n) 15 5 1 := ⟨RX6, TX6, 2, rfl, by decide, (fun _ h => List.mem_cons_of_mem _ (List.mem_append_left _ (List.mem_append_right _ h))), (List.mem_of_getElem? (i := 9) rfl)⟩
set_option maxRecDepth 20000 in
theorem oX6_init_1 (n : Nat) : Cond.methodLink (jX6_init n).1.cls 1 objectInit ∈ (jX6_init n).2.2.1 ∧ Cond.instanceMethod objectInit ∈ (jX6_init n).2.2.1 ∧ Cond.code objectInit ⟨#[0xb1]⟩ 1 none ∈ (jX6_init n).2.2.1 := ⟨(List.mem_of_getElem? (i := 1) rfl), (List.mem_of_getElem? (i := 2) rfl), (List.mem_of_getElem? (i := 3) rfl)⟩
set_option maxRecDepth 20000 in
theorem vX6_init_7 (n : Nat) : KMx (jX6_init n) 7 := ⟨(List.mem_of_getElem? (i := 4) rfl), (List.mem_of_getElem? (i := 5) rfl), (List.mem_of_getElem? (i := 6) rfl), (List.mem_of_getElem? (i := 7) rfl), Nat.le_of_ble_eq_true rfl⟩
set_option maxRecDepth 20000 in
theorem vX6_init_21 (n : Nat) : KCIN (jX6_init n) 21 jX4_init 0 := ⟨gX6_init_X4_init_n21, (List.mem_of_getElem? (i := 11) rfl), show (RX6, 21, yX4_init) ∈ kqNest by decide +kernel, (List.mem_of_getElem? (i := 12) rfl), rfl, rfl, ⟨⟨_, rfl⟩, ⟨show yX4_init.cls ≠ _ by decide +kernel, show yX4_init.cls ≠ _ by decide +kernel, show (parseMethodDescriptor yX4_init.desc).map (fun d => d.parameters.length) = some 0 by decide +kernel⟩, ⟨Nat.le_of_ble_eq_true rfl, Nat.le_of_ble_eq_true rfl⟩, rfl, rfl⟩⟩
abbrev jX6_slotAt : KJ := (yX6_slotAt, cX6_slotAt, wsX6_slotAt, 2, (some (.object "KerbQueue$Scene")), { frames := 0, cells := 0, slots := 0, locals := 0 }, 0, 0)
set_option maxRecDepth 20000 in
theorem fX6_slotAt_15 : KF jX6_slotAt 15 5 1 := ⟨RX6, TX6, 2, rfl, by decide, (fun _ h => List.mem_cons_of_mem _ (List.mem_append_right _ h)), (List.mem_of_getElem? (i := 1) (by decide +kernel))⟩
abbrev jX6_turn : KJ := (yX6_turn, cX6_turn, wsX6_turn, 3, none, { frames := 1, cells := 0, slots := 0, locals := 21 }, 0, 0)
set_option maxRecDepth 20000 in
theorem fX6_turn_15 : KF jX6_turn 15 5 1 := ⟨RX6, TX6, 2, rfl, by decide, (fun _ h => List.mem_cons_of_mem _ (List.mem_append_right _ h)), (List.mem_of_getElem? (i := 1) (by decide +kernel))⟩
set_option maxRecDepth 20000 in
theorem vX6_turn_29 : KCV jX6_turn 29 jX6_slotAt 1 := ⟨gX6_turn_X6_slotAt, ⟨⟨_, rfl⟩, ⟨by decide +kernel, by decide +kernel, by decide +kernel⟩, ⟨by decide, by decide⟩, rfl, rfl⟩⟩
abbrev jX6_push : KJ := (yX6_push, cX6_push, wsX6_push, 3, none, { frames := 3, cells := 0, slots := 0, locals := 63 }, 0, 0)
set_option maxRecDepth 20000 in
theorem fX6_push_22 : KF jX6_push 22 5 0 := ⟨RX6, TX6, 2, rfl, by decide, (fun _ h => List.mem_cons_of_mem _ (List.mem_append_left _ (List.mem_append_right _ h))), (List.mem_of_getElem? (i := 1) (by decide +kernel))⟩
set_option maxRecDepth 20000 in
theorem fX6_push_15 : KF jX6_push 15 5 1 := ⟨RX6, TX6, 2, rfl, by decide, (fun _ h => List.mem_cons_of_mem _ (List.mem_append_left _ (List.mem_append_right _ h))), (List.mem_of_getElem? (i := 2) (by decide +kernel))⟩
set_option maxRecDepth 20000 in
theorem pX6_push_22 : KFp jX6_push 22 5 0 .int := ⟨RX6, TX6, 2, rfl, by decide, (fun _ h => List.mem_cons_of_mem _ (List.mem_append_left _ (List.mem_append_right _ h))), (List.mem_of_getElem? (i := 1) (by decide +kernel)), ⟨tyX6, tyX6_ok⟩, nmX6, by decide +kernel, Or.inl rfl⟩
set_option maxRecDepth 20000 in
theorem vX6_push_26 : KCV jX6_push 26 jX6_turn 0 := ⟨gX6_push_X6_turn, ⟨⟨_, rfl⟩, ⟨by decide +kernel, by decide +kernel, by decide +kernel⟩, ⟨by decide, by decide⟩, rfl, rfl⟩⟩
set_option maxRecDepth 20000 in
theorem vX6_push_29 : KCV jX6_push 29 jX6_slotAt 1 := ⟨gX6_push_X6_slotAt, ⟨⟨_, rfl⟩, ⟨by decide +kernel, by decide +kernel, by decide +kernel⟩, ⟨by decide, by decide⟩, rfl, rfl⟩⟩
set_option maxRecDepth 20000 in
theorem vX6_push_33 : KCV jX6_push 33 jX4_copyFrom 1 := ⟨gX6_push_X4_copyFrom, ⟨⟨_, rfl⟩, ⟨by decide +kernel, by decide +kernel, by decide +kernel⟩, ⟨by decide, by decide⟩, rfl, rfl⟩⟩
abbrev jX6_popInto : KJ := (yX6_popInto, cX6_popInto, wsX6_popInto, 3, none, { frames := 3, cells := 0, slots := 0, locals := 63 }, 0, 0)
set_option maxRecDepth 20000 in
theorem fX6_popInto_22 : KF jX6_popInto 22 5 0 := ⟨RX6, TX6, 2, rfl, by decide, (fun _ h => List.mem_cons_of_mem _ (List.mem_append_left _ (List.mem_append_right _ h))), (List.mem_of_getElem? (i := 1) (by decide +kernel))⟩
set_option maxRecDepth 20000 in
theorem pX6_popInto_22 : KFp jX6_popInto 22 5 0 .int := ⟨RX6, TX6, 2, rfl, by decide, (fun _ h => List.mem_cons_of_mem _ (List.mem_append_left _ (List.mem_append_right _ h))), (List.mem_of_getElem? (i := 1) (by decide +kernel)), ⟨tyX6, tyX6_ok⟩, nmX6, by decide +kernel, Or.inl rfl⟩
set_option maxRecDepth 20000 in
theorem vX6_popInto_29 : KCV jX6_popInto 29 jX6_slotAt 1 := ⟨gX6_popInto_X6_slotAt, ⟨⟨_, rfl⟩, ⟨by decide +kernel, by decide +kernel, by decide +kernel⟩, ⟨by decide, by decide⟩, rfl, rfl⟩⟩
set_option maxRecDepth 20000 in
theorem vX6_popInto_33 : KCV jX6_popInto 33 jX4_copyFrom 1 := ⟨gX6_popInto_X4_copyFrom, ⟨⟨_, rfl⟩, ⟨by decide +kernel, by decide +kernel, by decide +kernel⟩, ⟨by decide, by decide⟩, rfl, rfl⟩⟩
abbrev jX7_init : KJ := (yX7_init, cX7_init, wsX7_init, 3, none, { frames := 2, cells := 13, slots := 127, locals := 32 }, 13, 127)
set_option maxRecDepth 20000 in
theorem pX7_init_9 : KFp jX7_init 9 6 1 (.array .int) := ⟨RX7, TX7, 9, rfl, by decide, (fun _ h => List.mem_cons_of_mem _ (List.mem_append_left _ (List.mem_append_left _ (List.mem_append_right _ h)))), (List.mem_of_getElem? (i := 5) (by decide +kernel)), ⟨tyX7, tyX7_ok⟩, nmX7, by decide +kernel, Or.inr ⟨rfl, rfl, rfl⟩⟩
set_option maxRecDepth 20000 in
theorem pX7_init_15 : KFp jX7_init 15 6 2 (.array .int) := ⟨RX7, TX7, 9, rfl, by decide, (fun _ h => List.mem_cons_of_mem _ (List.mem_append_left _ (List.mem_append_left _ (List.mem_append_right _ h)))), (List.mem_of_getElem? (i := 6) (by decide +kernel)), ⟨tyX7, tyX7_ok⟩, nmX7, by decide +kernel, Or.inr ⟨rfl, rfl, rfl⟩⟩
set_option maxRecDepth 20000 in
theorem pX7_init_18 : KFp jX7_init 18 6 3 (.array .int) := ⟨RX7, TX7, 9, rfl, by decide, (fun _ h => List.mem_cons_of_mem _ (List.mem_append_left _ (List.mem_append_left _ (List.mem_append_right _ h)))), (List.mem_of_getElem? (i := 7) (by decide +kernel)), ⟨tyX7, tyX7_ok⟩, nmX7, by decide +kernel, Or.inr ⟨rfl, rfl, rfl⟩⟩
set_option maxRecDepth 20000 in
theorem pX7_init_21 : KFp jX7_init 21 6 4 (.array .int) := ⟨RX7, TX7, 9, rfl, by decide, (fun _ h => List.mem_cons_of_mem _ (List.mem_append_left _ (List.mem_append_left _ (List.mem_append_right _ h)))), (List.mem_of_getElem? (i := 8) (by decide +kernel)), ⟨tyX7, tyX7_ok⟩, nmX7, by decide +kernel, Or.inr ⟨rfl, rfl, rfl⟩⟩
set_option maxRecDepth 20000 in
theorem pX7_init_27 : KFp jX7_init 27 6 6 (.object "KerbQueue$Folk") := ⟨RX7, TX7, 9, rfl, by decide, (fun _ h => List.mem_cons_of_mem _ (List.mem_append_left _ (List.mem_append_left _ (List.mem_append_right _ h)))), (List.mem_of_getElem? (i := 12) (by decide +kernel)), ⟨tyX7, tyX7_ok⟩, nmX7, by decide +kernel, Or.inr ⟨rfl, rfl, rfl⟩⟩
set_option maxRecDepth 20000 in
theorem pX7_init_34 : KFp jX7_init 34 6 8 (.object "KerbQueue$Scene") := ⟨RX7, TX7, 9, rfl, by decide, (fun _ h => List.mem_cons_of_mem _ (List.mem_append_left _ (List.mem_append_left _ (List.mem_append_right _ h)))), (List.mem_of_getElem? (i := 16) (by decide +kernel)), ⟨tyX7, tyX7_ok⟩, nmX7, by decide +kernel, Or.inr ⟨rfl, rfl, rfl⟩⟩
set_option maxRecDepth 20000 in
theorem pX7_init_38 : KFp jX7_init 38 6 5 (.object "KerbQueue$Folk") := ⟨RX7, TX7, 9, rfl, by decide, (fun _ h => List.mem_cons_of_mem _ (List.mem_append_left _ (List.mem_append_left _ (List.mem_append_right _ h)))), (List.mem_of_getElem? (i := 17) (by decide +kernel)), ⟨tyX7, tyX7_ok⟩, nmX7, by decide +kernel, Or.inr ⟨rfl, rfl, rfl⟩⟩
set_option maxRecDepth 20000 in
theorem pX7_init_41 : KFp jX7_init 41 6 7 (.object "KerbQueue$Scene") := ⟨RX7, TX7, 9, rfl, by decide, (fun _ h => List.mem_cons_of_mem _ (List.mem_append_left _ (List.mem_append_left _ (List.mem_append_right _ h)))), (List.mem_of_getElem? (i := 18) (by decide +kernel)), ⟨tyX7, tyX7_ok⟩, nmX7, by decide +kernel, Or.inr ⟨rfl, rfl, rfl⟩⟩
set_option maxRecDepth 20000 in
theorem oX7_init_3 : Cond.methodLink jX7_init.1.cls 3 objectInit ∈ jX7_init.2.2.1 ∧ Cond.instanceMethod objectInit ∈ jX7_init.2.2.1 ∧ Cond.code objectInit ⟨#[0xb1]⟩ 1 none ∈ jX7_init.2.2.1 := ⟨(List.mem_of_getElem? (i := 1) (by decide +kernel)), (List.mem_of_getElem? (i := 2) (by decide +kernel)), (List.mem_of_getElem? (i := 3) (by decide +kernel))⟩
set_option maxRecDepth 20000 in
theorem vX7_init_26 : KCIN jX7_init 26 jX1_init 0 := ⟨gX7_init_X1_init_n26, (List.mem_of_getElem? (i := 11) (by decide +kernel)), show (RX7, 26, yX1_init) ∈ kqNest by decide +kernel, (List.mem_of_getElem? (i := 19) (by decide +kernel)), rfl, rfl, ⟨⟨_, rfl⟩, ⟨by decide +kernel, by decide +kernel, by decide +kernel⟩, ⟨by decide, by decide⟩, rfl, rfl⟩⟩
set_option maxRecDepth 20000 in
theorem vX7_init_33 : KCIN jX7_init 33 jX4_init 0 := ⟨gX7_init_X4_init_n33, (List.mem_of_getElem? (i := 15) (by decide +kernel)), show (RX7, 33, yX4_init) ∈ kqNest by decide +kernel, (List.mem_of_getElem? (i := 25) (by decide +kernel)), rfl, rfl, ⟨⟨_, rfl⟩, ⟨by decide +kernel, by decide +kernel, by decide +kernel⟩, ⟨by decide, by decide⟩, rfl, rfl⟩⟩
abbrev jX7_add : KJ := (yX7_add, cX7_add, wsX7_add, 4, none, { frames := 1, cells := 0, slots := 0, locals := 22 }, 0, 0)
set_option maxRecDepth 20000 in
theorem fX7_add_15 : KF jX7_add 15 6 2 := ⟨RX7, TX7, 9, rfl, by decide, (fun _ h => List.mem_cons_of_mem _ (List.mem_append_right _ h)), (List.mem_of_getElem? (i := 1) (by decide +kernel))⟩
set_option maxRecDepth 20000 in
theorem fX7_add_44 : KF jX7_add 44 6 0 := ⟨RX7, TX7, 9, rfl, by decide, (fun _ h => List.mem_cons_of_mem _ (List.mem_append_right _ h)), (List.mem_of_getElem? (i := 2) (by decide +kernel))⟩
set_option maxRecDepth 20000 in
theorem fX7_add_18 : KF jX7_add 18 6 3 := ⟨RX7, TX7, 9, rfl, by decide, (fun _ h => List.mem_cons_of_mem _ (List.mem_append_right _ h)), (List.mem_of_getElem? (i := 3) (by decide +kernel))⟩
set_option maxRecDepth 20000 in
theorem fX7_add_21 : KF jX7_add 21 6 4 := ⟨RX7, TX7, 9, rfl, by decide, (fun _ h => List.mem_cons_of_mem _ (List.mem_append_right _ h)), (List.mem_of_getElem? (i := 4) (by decide +kernel))⟩
set_option maxRecDepth 20000 in
theorem pX7_add_44 : KFp jX7_add 44 6 0 .int := ⟨RX7, TX7, 9, rfl, by decide, (fun _ h => List.mem_cons_of_mem _ (List.mem_append_right _ h)), (List.mem_of_getElem? (i := 2) (by decide +kernel)), ⟨tyX7, tyX7_ok⟩, nmX7, by decide +kernel, Or.inl rfl⟩
set_option maxRecDepth 20000 in
theorem vX7_add_48 : KCS jX7_add 48 jX3_put 3 := ⟨gX7_add_X3_put, ⟨⟨_, rfl⟩, ⟨by decide +kernel, by decide +kernel, by decide +kernel⟩, ⟨by decide, by decide⟩, rfl, rfl⟩⟩
abbrev jX7_startOrders : KJ := (yX7_startOrders, cX7_startOrders, wsX7_startOrders, 3, none, { frames := 3, cells := 0, slots := 0, locals := 64 }, 0, 0)
set_option maxRecDepth 20000 in
theorem fX7_startOrders_38 : KF jX7_startOrders 38 6 5 := ⟨RX7, TX7, 9, rfl, by decide, (fun _ h => List.mem_cons_of_mem _ (List.mem_append_left _ (List.mem_append_left _ (List.mem_append_right _ h)))), (List.mem_of_getElem? (i := 1) (by decide +kernel))⟩
set_option maxRecDepth 20000 in
theorem fX7_startOrders_82 : KF jX7_startOrders 82 1 3 := ⟨RX1, TX1, 5, rfl, by decide, (fun _ h => List.mem_cons_of_mem _ (List.mem_append_left _ (List.mem_append_right _ h))), (List.mem_of_getElem? (i := 2) (by decide +kernel))⟩
set_option maxRecDepth 20000 in
theorem fX7_startOrders_41 : KF jX7_startOrders 41 6 7 := ⟨RX7, TX7, 9, rfl, by decide, (fun _ h => List.mem_cons_of_mem _ (List.mem_append_left _ (List.mem_append_left _ (List.mem_append_right _ h)))), (List.mem_of_getElem? (i := 3) (by decide +kernel))⟩
set_option maxRecDepth 20000 in
theorem fX7_startOrders_9 : KF jX7_startOrders 9 6 1 := ⟨RX7, TX7, 9, rfl, by decide, (fun _ h => List.mem_cons_of_mem _ (List.mem_append_left _ (List.mem_append_left _ (List.mem_append_right _ h)))), (List.mem_of_getElem? (i := 4) (by decide +kernel))⟩
set_option maxRecDepth 20000 in
theorem vX7_startOrders_83 : KCV jX7_startOrders 83 jX4_isQueued 1 := ⟨gX7_startOrders_X4_isQueued, ⟨⟨_, rfl⟩, ⟨by decide +kernel, by decide +kernel, by decide +kernel⟩, ⟨by decide, by decide⟩, rfl, rfl⟩⟩
set_option maxRecDepth 20000 in
theorem vX7_startOrders_48 : KCS jX7_startOrders 48 jX3_put 3 := ⟨gX7_startOrders_X3_put, ⟨⟨_, rfl⟩, ⟨by decide +kernel, by decide +kernel, by decide +kernel⟩, ⟨by decide, by decide⟩, rfl, rfl⟩⟩
abbrev jX7_isOf : KJ := (yX7_isOf, cX7_isOf, wsX7_isOf, 3, (some .boolean), { frames := 1, cells := 0, slots := 0, locals := 21 }, 0, 0)
set_option maxRecDepth 20000 in
theorem fX7_isOf_15 : KF jX7_isOf 15 6 2 := ⟨RX7, TX7, 9, rfl, by decide, (fun _ h => List.mem_cons_of_mem _ (List.mem_append_right _ h)), (List.mem_of_getElem? (i := 1) (by decide +kernel))⟩
set_option maxRecDepth 20000 in
theorem vX7_isOf_90 : KCS jX7_isOf 90 jX3_at 2 := ⟨gX7_isOf_X3_at, ⟨⟨_, rfl⟩, ⟨by decide +kernel, by decide +kernel, by decide +kernel⟩, ⟨by decide, by decide⟩, rfl, rfl⟩⟩
abbrev jX7_lastMinute : KJ := (yX7_lastMinute, cX7_lastMinute, wsX7_lastMinute, 4, (some .int), { frames := 2, cells := 0, slots := 0, locals := 43 }, 0, 0)
set_option maxRecDepth 20000 in
theorem fX7_lastMinute_44 : KF jX7_lastMinute 44 6 0 := ⟨RX7, TX7, 9, rfl, by decide, (fun _ h => List.mem_cons_of_mem _ (List.mem_append_right _ h)), (List.mem_of_getElem? (i := 1) (by decide +kernel))⟩
set_option maxRecDepth 20000 in
theorem fX7_lastMinute_18 : KF jX7_lastMinute 18 6 3 := ⟨RX7, TX7, 9, rfl, by decide, (fun _ h => List.mem_cons_of_mem _ (List.mem_append_right _ h)), (List.mem_of_getElem? (i := 2) (by decide +kernel))⟩
set_option maxRecDepth 20000 in
theorem vX7_lastMinute_110 : KCV jX7_lastMinute 110 jX7_isOf 2 := ⟨gX7_lastMinute_X7_isOf, ⟨⟨_, rfl⟩, ⟨by decide +kernel, by decide +kernel, by decide +kernel⟩, ⟨by decide, by decide⟩, rfl, rfl⟩⟩
set_option maxRecDepth 20000 in
theorem vX7_lastMinute_90 : KCS jX7_lastMinute 90 jX3_at 2 := ⟨gX7_lastMinute_X3_at, ⟨⟨_, rfl⟩, ⟨by decide +kernel, by decide +kernel, by decide +kernel⟩, ⟨by decide, by decide⟩, rfl, rfl⟩⟩
set_option maxRecDepth 20000 in
theorem vX7_lastMinute_113 : KMx jX7_lastMinute 113 := ⟨(List.mem_of_getElem? (i := 3) (by decide +kernel)), (List.mem_of_getElem? (i := 4) (by decide +kernel)), (List.mem_of_getElem? (i := 5) (by decide +kernel)), (List.mem_of_getElem? (i := 6) (by decide +kernel)), Nat.le_of_ble_eq_true rfl⟩
abbrev jX7_agreesBehind : KJ := (yX7_agreesBehind, cX7_agreesBehind, wsX7_agreesBehind, 4, (some .boolean), { frames := 3, cells := 0, slots := 0, locals := 66 }, 0, 0)
set_option maxRecDepth 20000 in
theorem fX7_agreesBehind_44 : KF jX7_agreesBehind 44 6 0 := ⟨RX7, TX7, 9, rfl, by decide, (fun _ h => List.mem_cons_of_mem _ (List.mem_append_left _ (List.mem_append_right _ h))), (List.mem_of_getElem? (i := 1) (by decide +kernel))⟩
set_option maxRecDepth 20000 in
theorem fX7_agreesBehind_18 : KF jX7_agreesBehind 18 6 3 := ⟨RX7, TX7, 9, rfl, by decide, (fun _ h => List.mem_cons_of_mem _ (List.mem_append_left _ (List.mem_append_right _ h))), (List.mem_of_getElem? (i := 2) (by decide +kernel))⟩
set_option maxRecDepth 20000 in
theorem fX7_agreesBehind_34 : KF jX7_agreesBehind 34 6 8 := ⟨RX7, TX7, 9, rfl, by decide, (fun _ h => List.mem_cons_of_mem _ (List.mem_append_left _ (List.mem_append_right _ h))), (List.mem_of_getElem? (i := 3) (by decide +kernel))⟩
set_option maxRecDepth 20000 in
theorem fX7_agreesBehind_15 : KF jX7_agreesBehind 15 6 2 := ⟨RX7, TX7, 9, rfl, by decide, (fun _ h => List.mem_cons_of_mem _ (List.mem_append_left _ (List.mem_append_right _ h))), (List.mem_of_getElem? (i := 4) (by decide +kernel))⟩
set_option maxRecDepth 20000 in
theorem fX7_agreesBehind_21 : KF jX7_agreesBehind 21 6 4 := ⟨RX7, TX7, 9, rfl, by decide, (fun _ h => List.mem_cons_of_mem _ (List.mem_append_left _ (List.mem_append_right _ h))), (List.mem_of_getElem? (i := 5) (by decide +kernel))⟩
set_option maxRecDepth 20000 in
theorem vX7_agreesBehind_110 : KCV jX7_agreesBehind 110 jX7_isOf 2 := ⟨gX7_agreesBehind_X7_isOf, ⟨⟨_, rfl⟩, ⟨by decide +kernel, by decide +kernel, by decide +kernel⟩, ⟨by decide, by decide⟩, rfl, rfl⟩⟩
set_option maxRecDepth 20000 in
theorem vX7_agreesBehind_90 : KCS jX7_agreesBehind 90 jX3_at 2 := ⟨gX7_agreesBehind_X3_at, ⟨⟨_, rfl⟩, ⟨by decide +kernel, by decide +kernel, by decide +kernel⟩, ⟨by decide, by decide⟩, rfl, rfl⟩⟩
set_option maxRecDepth 20000 in
theorem vX7_agreesBehind_119 : KCV jX7_agreesBehind 119 jX4_dueOf 1 := ⟨gX7_agreesBehind_X4_dueOf, ⟨⟨_, rfl⟩, ⟨by decide +kernel, by decide +kernel, by decide +kernel⟩, ⟨by decide, by decide⟩, rfl, rfl⟩⟩
abbrev jX7_comesTrue : KJ := (yX7_comesTrue, cX7_comesTrue, wsX7_comesTrue, 5, (some .boolean), { frames := 4, cells := 0, slots := 0, locals := 92 }, 0, 0)
set_option maxRecDepth 20000 in
theorem fX7_comesTrue_34 : KF jX7_comesTrue 34 6 8 := ⟨RX7, TX7, 9, rfl, by decide, (fun _ h => List.mem_cons_of_mem _ (List.mem_append_left _ (List.mem_append_left _ (List.mem_append_right _ h)))), (List.mem_of_getElem? (i := 1) (by decide +kernel))⟩
set_option maxRecDepth 20000 in
theorem vX7_comesTrue_98 : KCV jX7_comesTrue 98 jX7_lastMinute 1 := ⟨gX7_comesTrue_X7_lastMinute, ⟨⟨_, rfl⟩, ⟨by decide +kernel, by decide +kernel, by decide +kernel⟩, ⟨by decide, by decide⟩, rfl, rfl⟩⟩
set_option maxRecDepth 20000 in
theorem vX7_comesTrue_102 : KCV jX7_comesTrue 102 jX4_runMinute 2 := ⟨gX7_comesTrue_X4_runMinute, ⟨⟨_, rfl⟩, ⟨by decide +kernel, by decide +kernel, by decide +kernel⟩, ⟨by decide, by decide⟩, rfl, rfl⟩⟩
set_option maxRecDepth 20000 in
theorem vX7_comesTrue_106 : KCV jX7_comesTrue 106 jX7_agreesBehind 2 := ⟨gX7_comesTrue_X7_agreesBehind, ⟨⟨_, rfl⟩, ⟨by decide +kernel, by decide +kernel, by decide +kernel⟩, ⟨by decide, by decide⟩, rfl, rfl⟩⟩
abbrev jX7_swap : KJ := (yX7_swap, cX7_swap, wsX7_swap, 4, none, { frames := 1, cells := 0, slots := 0, locals := 22 }, 0, 0)
set_option maxRecDepth 20000 in
theorem fX7_swap_9 : KF jX7_swap 9 6 1 := ⟨RX7, TX7, 9, rfl, by decide, (fun _ h => List.mem_cons_of_mem _ (List.mem_append_right _ h)), (List.mem_of_getElem? (i := 1) (by decide +kernel))⟩
set_option maxRecDepth 20000 in
theorem vX7_swap_90 : KCS jX7_swap 90 jX3_at 2 := ⟨gX7_swap_X3_at, ⟨⟨_, rfl⟩, ⟨by decide +kernel, by decide +kernel, by decide +kernel⟩, ⟨by decide, by decide⟩, rfl, rfl⟩⟩
set_option maxRecDepth 20000 in
theorem vX7_swap_48 : KCS jX7_swap 48 jX3_put 3 := ⟨gX7_swap_X3_put, ⟨⟨_, rfl⟩, ⟨by decide +kernel, by decide +kernel, by decide +kernel⟩, ⟨by decide, by decide⟩, rfl, rfl⟩⟩
abbrev jX7_nextOrder : KJ := (yX7_nextOrder, cX7_nextOrder, wsX7_nextOrder, 5, (some .boolean), { frames := 2, cells := 0, slots := 0, locals := 45 }, 0, 0)
set_option maxRecDepth 20000 in
theorem fX7_nextOrder_41 : KF jX7_nextOrder 41 6 7 := ⟨RX7, TX7, 9, rfl, by decide, (fun _ h => List.mem_cons_of_mem _ (List.mem_append_left _ (List.mem_append_right _ h))), (List.mem_of_getElem? (i := 1) (by decide +kernel))⟩
set_option maxRecDepth 20000 in
theorem fX7_nextOrder_87 : KF jX7_nextOrder 87 3 4 := ⟨RX4, TX4, 6, rfl, by decide, (fun _ h => List.mem_cons_of_mem _ (List.mem_append_right _ h)), (List.mem_of_getElem? (i := 2) (by decide +kernel))⟩
set_option maxRecDepth 20000 in
theorem fX7_nextOrder_9 : KF jX7_nextOrder 9 6 1 := ⟨RX7, TX7, 9, rfl, by decide, (fun _ h => List.mem_cons_of_mem _ (List.mem_append_left _ (List.mem_append_right _ h))), (List.mem_of_getElem? (i := 3) (by decide +kernel))⟩
set_option maxRecDepth 20000 in
theorem vX7_nextOrder_90 : KCS jX7_nextOrder 90 jX3_at 2 := ⟨gX7_nextOrder_X3_at, ⟨⟨_, rfl⟩, ⟨by decide +kernel, by decide +kernel, by decide +kernel⟩, ⟨by decide, by decide⟩, rfl, rfl⟩⟩
set_option maxRecDepth 20000 in
theorem vX7_nextOrder_94 : KCV jX7_nextOrder 94 jX7_swap 2 := ⟨gX7_nextOrder_X7_swap, ⟨⟨_, rfl⟩, ⟨by decide +kernel, by decide +kernel, by decide +kernel⟩, ⟨by decide, by decide⟩, rfl, rfl⟩⟩
abbrev jX7_countOrders : KJ := (yX7_countOrders, cX7_countOrders, wsX7_countOrders, 5, (some .int), { frames := 5, cells := 0, slots := 0, locals := 116 }, 0, 0)
set_option maxRecDepth 20000 in
theorem fX7_countOrders_34 : KF jX7_countOrders 34 6 8 := ⟨RX7, TX7, 9, rfl, by decide, (fun _ h => List.mem_cons_of_mem _ (List.mem_append_left _ (List.mem_append_left _ (List.mem_append_right _ h)))), (List.mem_of_getElem? (i := 1) (by decide +kernel))⟩
set_option maxRecDepth 20000 in
theorem fX7_countOrders_41 : KF jX7_countOrders 41 6 7 := ⟨RX7, TX7, 9, rfl, by decide, (fun _ h => List.mem_cons_of_mem _ (List.mem_append_left _ (List.mem_append_left _ (List.mem_append_right _ h)))), (List.mem_of_getElem? (i := 2) (by decide +kernel))⟩
set_option maxRecDepth 20000 in
theorem fX7_countOrders_9 : KF jX7_countOrders 9 6 1 := ⟨RX7, TX7, 9, rfl, by decide, (fun _ h => List.mem_cons_of_mem _ (List.mem_append_left _ (List.mem_append_left _ (List.mem_append_right _ h)))), (List.mem_of_getElem? (i := 3) (by decide +kernel))⟩
set_option maxRecDepth 20000 in
theorem fX7_countOrders_61 : KF jX7_countOrders 61 3 0 := ⟨RX4, TX4, 6, rfl, by decide, (fun _ h => List.mem_cons_of_mem _ (List.mem_append_left _ (List.mem_append_right _ h))), (List.mem_of_getElem? (i := 4) (by decide +kernel))⟩
set_option maxRecDepth 20000 in
theorem fX7_countOrders_38 : KF jX7_countOrders 38 6 5 := ⟨RX7, TX7, 9, rfl, by decide, (fun _ h => List.mem_cons_of_mem _ (List.mem_append_left _ (List.mem_append_left _ (List.mem_append_right _ h)))), (List.mem_of_getElem? (i := 5) (by decide +kernel))⟩
set_option maxRecDepth 20000 in
theorem vX7_countOrders_54 : KCV jX7_countOrders 54 jX7_startOrders 0 := ⟨gX7_countOrders_X7_startOrders, ⟨⟨_, rfl⟩, ⟨by decide +kernel, by decide +kernel, by decide +kernel⟩, ⟨by decide, by decide⟩, rfl, rfl⟩⟩
set_option maxRecDepth 20000 in
theorem vX7_countOrders_57 : KCV jX7_countOrders 57 jX4_copyFrom 1 := ⟨gX7_countOrders_X4_copyFrom, ⟨⟨_, rfl⟩, ⟨by decide +kernel, by decide +kernel, by decide +kernel⟩, ⟨by decide, by decide⟩, rfl, rfl⟩⟩
set_option maxRecDepth 20000 in
theorem vX7_countOrders_64 : KCS jX7_countOrders 64 jX3_copy 2 := ⟨gX7_countOrders_X3_copy, ⟨⟨_, rfl⟩, ⟨by decide +kernel, by decide +kernel, by decide +kernel⟩, ⟨by decide, by decide⟩, rfl, rfl⟩⟩
set_option maxRecDepth 20000 in
theorem vX7_countOrders_68 : KCV jX7_countOrders 68 jX7_comesTrue 2 := ⟨gX7_countOrders_X7_comesTrue, ⟨⟨_, rfl⟩, ⟨by decide +kernel, by decide +kernel, by decide +kernel⟩, ⟨by decide, by decide⟩, rfl, rfl⟩⟩
set_option maxRecDepth 20000 in
theorem vX7_countOrders_72 : KCV jX7_countOrders 72 jX7_nextOrder 0 := ⟨gX7_countOrders_X7_nextOrder, ⟨⟨_, rfl⟩, ⟨by decide +kernel, by decide +kernel, by decide +kernel⟩, ⟨by decide, by decide⟩, rfl, rfl⟩⟩
abbrev jX7_fittingKinds : KJ := (yX7_fittingKinds, cX7_fittingKinds, wsX7_fittingKinds, 4, (some .int), { frames := 5, cells := 0, slots := 0, locals := 116 }, 0, 0)
set_option maxRecDepth 20000 in
theorem fX7_fittingKinds_27 : KF jX7_fittingKinds 27 6 6 := ⟨RX7, TX7, 9, rfl, by decide, (fun _ h => List.mem_cons_of_mem _ (List.mem_append_left _ (List.mem_append_left _ (List.mem_append_right _ h)))), (List.mem_of_getElem? (i := 1) (by decide +kernel))⟩
set_option maxRecDepth 20000 in
theorem fX7_fittingKinds_38 : KF jX7_fittingKinds 38 6 5 := ⟨RX7, TX7, 9, rfl, by decide, (fun _ h => List.mem_cons_of_mem _ (List.mem_append_left _ (List.mem_append_left _ (List.mem_append_right _ h)))), (List.mem_of_getElem? (i := 2) (by decide +kernel))⟩
set_option maxRecDepth 20000 in
theorem fX7_fittingKinds_79 : KF jX7_fittingKinds 79 1 0 := ⟨RX1, TX1, 5, rfl, by decide, (fun _ h => List.mem_cons_of_mem _ (List.mem_append_left _ (List.mem_append_right _ h))), (List.mem_of_getElem? (i := 3) (by decide +kernel))⟩
set_option maxRecDepth 20000 in
theorem fX7_fittingKinds_34 : KF jX7_fittingKinds 34 6 8 := ⟨RX7, TX7, 9, rfl, by decide, (fun _ h => List.mem_cons_of_mem _ (List.mem_append_left _ (List.mem_append_left _ (List.mem_append_right _ h)))), (List.mem_of_getElem? (i := 4) (by decide +kernel))⟩
set_option maxRecDepth 20000 in
theorem fX7_fittingKinds_41 : KF jX7_fittingKinds 41 6 7 := ⟨RX7, TX7, 9, rfl, by decide, (fun _ h => List.mem_cons_of_mem _ (List.mem_append_left _ (List.mem_append_left _ (List.mem_append_right _ h)))), (List.mem_of_getElem? (i := 5) (by decide +kernel))⟩
set_option maxRecDepth 20000 in
theorem vX7_fittingKinds_76 : KCV jX7_fittingKinds 76 jX1_copyFrom 1 := ⟨gX7_fittingKinds_X1_copyFrom, ⟨⟨_, rfl⟩, ⟨by decide +kernel, by decide +kernel, by decide +kernel⟩, ⟨by decide, by decide⟩, rfl, rfl⟩⟩
set_option maxRecDepth 20000 in
theorem vX7_fittingKinds_48 : KCS jX7_fittingKinds 48 jX3_put 3 := ⟨gX7_fittingKinds_X3_put, ⟨⟨_, rfl⟩, ⟨by decide +kernel, by decide +kernel, by decide +kernel⟩, ⟨by decide, by decide⟩, rfl, rfl⟩⟩
set_option maxRecDepth 20000 in
theorem vX7_fittingKinds_57 : KCV jX7_fittingKinds 57 jX4_copyFrom 1 := ⟨gX7_fittingKinds_X4_copyFrom, ⟨⟨_, rfl⟩, ⟨by decide +kernel, by decide +kernel, by decide +kernel⟩, ⟨by decide, by decide⟩, rfl, rfl⟩⟩
set_option maxRecDepth 20000 in
theorem vX7_fittingKinds_68 : KCV jX7_fittingKinds 68 jX7_comesTrue 2 := ⟨gX7_fittingKinds_X7_comesTrue, ⟨⟨_, rfl⟩, ⟨by decide +kernel, by decide +kernel, by decide +kernel⟩, ⟨by decide, by decide⟩, rfl, rfl⟩⟩
abbrev jJ0_coder_7d493 : KJ := (yJ0_coder_7d493, cJ0_coder_7d493, wsJ0_coder_7d493, 1, (some .byte), { frames := 0, cells := 0, slots := 0, locals := 0 }, 0, 0)
abbrev jJ0_length_8abf5 : KJ := (yJ0_length_8abf5, cJ0_length_8abf5, wsJ0_length_8abf5, 1, (some .int), { frames := 1, cells := 0, slots := 0, locals := 20 }, 0, 0)
set_option maxRecDepth 20000 in
theorem vJ0_length_8abf5_335 : KCV jJ0_length_8abf5 335 jJ0_coder_7d493 0 := ⟨gJ0_length_8abf5_J0_coder_7d493, ⟨⟨_, rfl⟩, ⟨by decide +kernel, by decide +kernel, by decide +kernel⟩, ⟨by decide, by decide⟩, rfl, rfl⟩⟩
abbrev jJ0_isLatin1_aae02 : KJ := (yJ0_isLatin1_aae02, cJ0_isLatin1_aae02, wsJ0_isLatin1_aae02, 1, (some .boolean), { frames := 0, cells := 0, slots := 0, locals := 0 }, 0, 0)
abbrev jJ3_checkIndex_8e157 : KJ := (yJ3_checkIndex_8e157, cJ3_checkIndex_8e157, wsJ3_checkIndex_8e157, 3, (some .int), { frames := 0, cells := 0, slots := 0, locals := 0 }, 0, 0)
abbrev jJ0_checkIndex_df160 : KJ := (yJ0_checkIndex_df160, cJ0_checkIndex_df160, wsJ0_checkIndex_df160, 2, none, { frames := 1, cells := 0, slots := 0, locals := 22 }, 0, 0)
set_option maxRecDepth 20000 in
theorem vJ0_checkIndex_df160_1059 : KCS jJ0_checkIndex_df160 1059 jJ3_checkIndex_8e157 3 := ⟨gJ0_checkIndex_df160_J3_checkIndex_8e157, ⟨⟨_, rfl⟩, ⟨by decide +kernel, by decide +kernel, by decide +kernel⟩, ⟨by decide, by decide⟩, rfl, rfl⟩⟩
abbrev jJ1_charAt_3b067 : KJ := (yJ1_charAt_3b067, cJ1_charAt_3b067, wsJ1_charAt_3b067, 2, (some .char), { frames := 2, cells := 0, slots := 0, locals := 43 }, 0, 0)
set_option maxRecDepth 20000 in
theorem vJ1_charAt_3b067_9 : KCS jJ1_charAt_3b067 9 jJ0_checkIndex_df160 2 := ⟨gJ1_charAt_3b067_J0_checkIndex_df160, ⟨⟨_, rfl⟩, ⟨by decide +kernel, by decide +kernel, by decide +kernel⟩, ⟨by decide, by decide⟩, rfl, rfl⟩⟩
abbrev jJ2_length_9d52b : KJ := (yJ2_length_9d52b, cJ2_length_9d52b, wsJ2_length_9d52b, 1, (some .int), { frames := 0, cells := 0, slots := 0, locals := 0 }, 0, 0)
abbrev jJ2_checkIndex_2214a : KJ := (yJ2_checkIndex_2214a, cJ2_checkIndex_2214a, wsJ2_checkIndex_2214a, 2, none, { frames := 2, cells := 0, slots := 0, locals := 43 }, 0, 0)
set_option maxRecDepth 20000 in
theorem vJ2_checkIndex_2214a_48 : KCS jJ2_checkIndex_2214a 48 jJ2_length_9d52b 1 := ⟨gJ2_checkIndex_2214a_J2_length_9d52b, ⟨⟨_, rfl⟩, ⟨by decide +kernel, by decide +kernel, by decide +kernel⟩, ⟨by decide, by decide⟩, rfl, rfl⟩⟩
set_option maxRecDepth 20000 in
theorem vJ2_checkIndex_2214a_414 : KCS jJ2_checkIndex_2214a 414 jJ0_checkIndex_df160 2 := ⟨gJ2_checkIndex_2214a_J0_checkIndex_df160, ⟨⟨_, rfl⟩, ⟨by decide +kernel, by decide +kernel, by decide +kernel⟩, ⟨by decide, by decide⟩, rfl, rfl⟩⟩
abbrev jJ2_getChar_3b067 : KJ := (yJ2_getChar_3b067, cJ2_getChar_3b067, wsJ2_getChar_3b067, 2, (some .char), { frames := 1, cells := 0, slots := 0, locals := 20 }, 0, 0)
set_option maxRecDepth 20000 in
theorem vJ2_getChar_3b067_48 : KCS jJ2_getChar_3b067 48 jJ2_length_9d52b 1 := ⟨gJ2_getChar_3b067_J2_length_9d52b, ⟨⟨_, rfl⟩, ⟨by decide +kernel, by decide +kernel, by decide +kernel⟩, ⟨by decide, by decide⟩, rfl, rfl⟩⟩
abbrev jJ2_charAt_3b067 : KJ := (yJ2_charAt_3b067, cJ2_charAt_3b067, wsJ2_charAt_3b067, 2, (some .char), { frames := 3, cells := 0, slots := 0, locals := 64 }, 0, 0)
set_option maxRecDepth 20000 in
theorem vJ2_charAt_3b067_67 : KCS jJ2_charAt_3b067 67 jJ2_checkIndex_2214a 2 := ⟨gJ2_charAt_3b067_J2_checkIndex_2214a, ⟨⟨_, rfl⟩, ⟨by decide +kernel, by decide +kernel, by decide +kernel⟩, ⟨by decide, by decide⟩, rfl, rfl⟩⟩
set_option maxRecDepth 20000 in
theorem vJ2_charAt_3b067_71 : KCS jJ2_charAt_3b067 71 jJ2_getChar_3b067 2 := ⟨gJ2_charAt_3b067_J2_getChar_3b067, ⟨⟨_, rfl⟩, ⟨by decide +kernel, by decide +kernel, by decide +kernel⟩, ⟨by decide, by decide⟩, rfl, rfl⟩⟩
abbrev jJ0_charAt_5068e : KJ := (yJ0_charAt_5068e, cJ0_charAt_5068e, wsJ0_charAt_5068e, 2, (some .char), { frames := 4, cells := 0, slots := 0, locals := 85 }, 0, 0)
set_option maxRecDepth 20000 in
theorem vJ0_charAt_5068e_492 : KCV jJ0_charAt_5068e 492 jJ0_isLatin1_aae02 0 := ⟨gJ0_charAt_5068e_J0_isLatin1_aae02, ⟨⟨_, rfl⟩, ⟨by decide +kernel, by decide +kernel, by decide +kernel⟩, ⟨by decide, by decide⟩, rfl, rfl⟩⟩
set_option maxRecDepth 20000 in
theorem vJ0_charAt_5068e_495 : KCS jJ0_charAt_5068e 495 jJ1_charAt_3b067 2 := ⟨gJ0_charAt_5068e_J1_charAt_3b067, ⟨⟨_, rfl⟩, ⟨by decide +kernel, by decide +kernel, by decide +kernel⟩, ⟨by decide, by decide⟩, rfl, rfl⟩⟩
set_option maxRecDepth 20000 in
theorem vJ0_charAt_5068e_498 : KCS jJ0_charAt_5068e 498 jJ2_charAt_3b067 2 := ⟨gJ0_charAt_5068e_J2_charAt_3b067, ⟨⟨_, rfl⟩, ⟨by decide +kernel, by decide +kernel, by decide +kernel⟩, ⟨by decide, by decide⟩, rfl, rfl⟩⟩
abbrev jX8_takeScript : KJ := (yX8_takeScript, cX8_takeScript, wsX8_takeScript, 1, none, { frames := 3, cells := 0, slots := 0, locals := 63 }, 0, 0)
set_option maxRecDepth 20000 in
theorem fX8_takeScript_10 : KF jX8_takeScript 10 7 0 := ⟨RX8, TX8, 8, rfl, by decide, (fun _ h => List.mem_cons_of_mem _ (List.mem_append_left _ (List.mem_append_left _ (List.mem_append_left _ (List.mem_append_right _ h))))), (List.mem_of_getElem? (i := 1) (by decide +kernel))⟩
set_option maxRecDepth 20000 in
theorem fX8_takeScript_26 : KF jX8_takeScript 26 7 2 := ⟨RX8, TX8, 8, rfl, by decide, (fun _ h => List.mem_cons_of_mem _ (List.mem_append_left _ (List.mem_append_left _ (List.mem_append_left _ (List.mem_append_right _ h))))), (List.mem_of_getElem? (i := 2) (by decide +kernel))⟩
set_option maxRecDepth 20000 in
theorem fX8_takeScript_89 : KF jX8_takeScript 89 4 0 := ⟨RX5, TX5, 6, rfl, by decide, (fun _ h => List.mem_cons_of_mem _ (List.mem_append_left _ (List.mem_append_left _ (List.mem_append_right _ h)))), (List.mem_of_getElem? (i := 3) (by decide +kernel))⟩
set_option maxRecDepth 20000 in
theorem fX8_takeScript_19 : KF jX8_takeScript 19 7 1 := ⟨RX8, TX8, 8, rfl, by decide, (fun _ h => List.mem_cons_of_mem _ (List.mem_append_left _ (List.mem_append_left _ (List.mem_append_left _ (List.mem_append_right _ h))))), (List.mem_of_getElem? (i := 4) (by decide +kernel))⟩
set_option maxRecDepth 20000 in
theorem fX8_takeScript_256 : KF jX8_takeScript 256 4 1 := ⟨RX5, TX5, 6, rfl, by decide, (fun _ h => List.mem_cons_of_mem _ (List.mem_append_left _ (List.mem_append_left _ (List.mem_append_right _ h)))), (List.mem_of_getElem? (i := 5) (by decide +kernel))⟩
set_option maxRecDepth 20000 in
theorem vX8_takeScript_252 : KCV jX8_takeScript 252 jX1_copyFrom 1 := ⟨gX8_takeScript_X1_copyFrom, ⟨⟨_, rfl⟩, ⟨by decide +kernel, by decide +kernel, by decide +kernel⟩, ⟨by decide, by decide⟩, rfl, rfl⟩⟩
set_option maxRecDepth 20000 in
theorem vX8_takeScript_259 : KCV jX8_takeScript 259 jX4_copyFrom 1 := ⟨gX8_takeScript_X4_copyFrom, ⟨⟨_, rfl⟩, ⟨by decide +kernel, by decide +kernel, by decide +kernel⟩, ⟨by decide, by decide⟩, rfl, rfl⟩⟩
abbrev jX8_init : KJ := (yX8_init, cX8_init, wsX8_init, 2, none, { frames := 6, cells := 103, slots := 1745, locals := 133 }, 103, 1745)
set_option maxRecDepth 20000 in
theorem pX8_init_10 : KFp jX8_init 10 7 0 (.object "KerbQueue$Folk") := ⟨RX8, TX8, 8, rfl, by decide, (fun _ h => List.mem_cons_of_mem _ (List.mem_append_left _ (List.mem_append_left _ (List.mem_append_left _ (List.mem_append_left _ (List.mem_append_left _ (List.mem_append_left _ (List.mem_append_right _ h)))))))), (List.mem_of_getElem? (i := 7) (by decide +kernel)), ⟨tyX8, tyX8_ok⟩, nmX8, by decide +kernel, Or.inr ⟨rfl, rfl, rfl⟩⟩
set_option maxRecDepth 20000 in
theorem pX8_init_19 : KFp jX8_init 19 7 1 (.object "KerbQueue$Scene") := ⟨RX8, TX8, 8, rfl, by decide, (fun _ h => List.mem_cons_of_mem _ (List.mem_append_left _ (List.mem_append_left _ (List.mem_append_left _ (List.mem_append_left _ (List.mem_append_left _ (List.mem_append_left _ (List.mem_append_right _ h)))))))), (List.mem_of_getElem? (i := 11) (by decide +kernel)), ⟨tyX8, tyX8_ok⟩, nmX8, by decide +kernel, Or.inr ⟨rfl, rfl, rfl⟩⟩
set_option maxRecDepth 20000 in
theorem pX8_init_26 : KFp jX8_init 26 7 2 (.object "KerbQueue$Script") := ⟨RX8, TX8, 8, rfl, by decide, (fun _ h => List.mem_cons_of_mem _ (List.mem_append_left _ (List.mem_append_left _ (List.mem_append_left _ (List.mem_append_left _ (List.mem_append_left _ (List.mem_append_left _ (List.mem_append_right _ h)))))))), (List.mem_of_getElem? (i := 15) (by decide +kernel)), ⟨tyX8, tyX8_ok⟩, nmX8, by decide +kernel, Or.inr ⟨rfl, rfl, rfl⟩⟩
set_option maxRecDepth 20000 in
theorem pX8_init_35 : KFp jX8_init 35 7 3 (.object "KerbQueue$Shelf") := ⟨RX8, TX8, 8, rfl, by decide, (fun _ h => List.mem_cons_of_mem _ (List.mem_append_left _ (List.mem_append_left _ (List.mem_append_left _ (List.mem_append_left _ (List.mem_append_left _ (List.mem_append_left _ (List.mem_append_right _ h)))))))), (List.mem_of_getElem? (i := 19) (by decide +kernel)), ⟨tyX8, tyX8_ok⟩, nmX8, by decide +kernel, Or.inr ⟨rfl, rfl, rfl⟩⟩
set_option maxRecDepth 20000 in
theorem pX8_init_39 : KFp jX8_init 39 7 4 (.object "KerbQueue$Shelf") := ⟨RX8, TX8, 8, rfl, by decide, (fun _ h => List.mem_cons_of_mem _ (List.mem_append_left _ (List.mem_append_left _ (List.mem_append_left _ (List.mem_append_left _ (List.mem_append_left _ (List.mem_append_left _ (List.mem_append_right _ h)))))))), (List.mem_of_getElem? (i := 20) (by decide +kernel)), ⟨tyX8, tyX8_ok⟩, nmX8, by decide +kernel, Or.inr ⟨rfl, rfl, rfl⟩⟩
set_option maxRecDepth 20000 in
theorem fX8_init_10 : KF jX8_init 10 7 0 := ⟨RX8, TX8, 8, rfl, by decide, (fun _ h => List.mem_cons_of_mem _ (List.mem_append_left _ (List.mem_append_left _ (List.mem_append_left _ (List.mem_append_left _ (List.mem_append_left _ (List.mem_append_left _ (List.mem_append_right _ h)))))))), (List.mem_of_getElem? (i := 7) (by decide +kernel))⟩
set_option maxRecDepth 20000 in
theorem fX8_init_19 : KF jX8_init 19 7 1 := ⟨RX8, TX8, 8, rfl, by decide, (fun _ h => List.mem_cons_of_mem _ (List.mem_append_left _ (List.mem_append_left _ (List.mem_append_left _ (List.mem_append_left _ (List.mem_append_left _ (List.mem_append_left _ (List.mem_append_right _ h)))))))), (List.mem_of_getElem? (i := 11) (by decide +kernel))⟩
set_option maxRecDepth 20000 in
theorem pX8_init_47 : KFp jX8_init 47 7 5 (.object "KerbQueue$Foresight") := ⟨RX8, TX8, 8, rfl, by decide, (fun _ h => List.mem_cons_of_mem _ (List.mem_append_left _ (List.mem_append_left _ (List.mem_append_left _ (List.mem_append_left _ (List.mem_append_left _ (List.mem_append_left _ (List.mem_append_right _ h)))))))), (List.mem_of_getElem? (i := 24) (by decide +kernel)), ⟨tyX8, tyX8_ok⟩, nmX8, by decide +kernel, Or.inr ⟨rfl, rfl, rfl⟩⟩
set_option maxRecDepth 20000 in
theorem pX8_init_54 : KFp jX8_init 54 7 6 (.object "KerbQueue$Sightings") := ⟨RX8, TX8, 8, rfl, by decide, (fun _ h => List.mem_cons_of_mem _ (List.mem_append_left _ (List.mem_append_left _ (List.mem_append_left _ (List.mem_append_left _ (List.mem_append_left _ (List.mem_append_left _ (List.mem_append_right _ h)))))))), (List.mem_of_getElem? (i := 28) (by decide +kernel)), ⟨tyX8, tyX8_ok⟩, nmX8, by decide +kernel, Or.inr ⟨rfl, rfl, rfl⟩⟩
set_option maxRecDepth 20000 in
theorem pX8_init_61 : KFp jX8_init 61 7 7 (.object "KerbQueue$Chance") := ⟨RX8, TX8, 8, rfl, by decide, (fun _ h => List.mem_cons_of_mem _ (List.mem_append_left _ (List.mem_append_left _ (List.mem_append_left _ (List.mem_append_left _ (List.mem_append_left _ (List.mem_append_left _ (List.mem_append_right _ h)))))))), (List.mem_of_getElem? (i := 32) (by decide +kernel)), ⟨tyX8, tyX8_ok⟩, nmX8, by decide +kernel, Or.inr ⟨rfl, rfl, rfl⟩⟩
set_option maxRecDepth 20000 in
theorem fX8_init_26 : KF jX8_init 26 7 2 := ⟨RX8, TX8, 8, rfl, by decide, (fun _ h => List.mem_cons_of_mem _ (List.mem_append_left _ (List.mem_append_left _ (List.mem_append_left _ (List.mem_append_left _ (List.mem_append_left _ (List.mem_append_left _ (List.mem_append_right _ h)))))))), (List.mem_of_getElem? (i := 15) (by decide +kernel))⟩
set_option maxRecDepth 20000 in
theorem pX8_init_86 : KFp jX8_init 86 4 2 .int := ⟨RX5, TX5, 6, rfl, by decide, (fun _ h => List.mem_cons_of_mem _ (List.mem_append_left _ (List.mem_append_left _ (List.mem_append_left _ (List.mem_append_left _ (List.mem_append_right _ h)))))), (List.mem_of_getElem? (i := 33) (by decide +kernel)), ⟨tyX5, tyX5_ok⟩, nmX5, by decide +kernel, Or.inl rfl⟩
set_option maxRecDepth 20000 in
theorem oX8_init_1 : Cond.methodLink jX8_init.1.cls 1 objectInit ∈ jX8_init.2.2.1 ∧ Cond.instanceMethod objectInit ∈ jX8_init.2.2.1 ∧ Cond.code objectInit ⟨#[0xb1]⟩ 1 none ∈ jX8_init.2.2.1 := ⟨(List.mem_of_getElem? (i := 1) (by decide +kernel)), (List.mem_of_getElem? (i := 2) (by decide +kernel)), (List.mem_of_getElem? (i := 3) (by decide +kernel))⟩
set_option maxRecDepth 20000 in
theorem vX8_init_9 : KCIN jX8_init 9 jX1_init 0 := ⟨gX8_init_X1_init_n9, (List.mem_of_getElem? (i := 6) (by decide +kernel)), show (RX8, 9, yX1_init) ∈ kqNest by decide +kernel, (List.mem_of_getElem? (i := 34) (by decide +kernel)), rfl, rfl, ⟨⟨_, rfl⟩, ⟨by decide +kernel, by decide +kernel, by decide +kernel⟩, ⟨by decide, by decide⟩, rfl, rfl⟩⟩
set_option maxRecDepth 20000 in
theorem vX8_init_18 : KCIN jX8_init 18 jX4_init 0 := ⟨gX8_init_X4_init_n18, (List.mem_of_getElem? (i := 10) (by decide +kernel)), show (RX8, 18, yX4_init) ∈ kqNest by decide +kernel, (List.mem_of_getElem? (i := 41) (by decide +kernel)), rfl, rfl, ⟨⟨_, rfl⟩, ⟨by decide +kernel, by decide +kernel, by decide +kernel⟩, ⟨by decide, by decide⟩, rfl, rfl⟩⟩
set_option maxRecDepth 20000 in
theorem vX8_init_25 : KCIN jX8_init 25 jX5_init 0 := ⟨gX8_init_X5_init_n25, (List.mem_of_getElem? (i := 14) (by decide +kernel)), show (RX8, 25, yX5_init) ∈ kqNest by decide +kernel, (List.mem_of_getElem? (i := 48) (by decide +kernel)), rfl, rfl, ⟨⟨_, rfl⟩, ⟨by decide +kernel, by decide +kernel, by decide +kernel⟩, ⟨by decide, by decide⟩, rfl, rfl⟩⟩
set_option maxRecDepth 20000 in
theorem vX8_init_32 (n : Nat) : KCI jX8_init 32 (jX6_init n) 1 := ⟨ggX8_init_X6_init, (List.mem_of_getElem? (i := 18) rfl), (List.mem_of_getElem? (i := 57) rfl), (List.mem_of_getElem? (i := 58) rfl), rfl, rfl, ⟨⟨_, rfl⟩, ⟨show yX6_init.cls ≠ _ by decide +kernel, show yX6_init.cls ≠ _ by decide +kernel, show (parseMethodDescriptor yX6_init.desc).map (fun d => d.parameters.length) = some 1 by decide +kernel⟩, ⟨Nat.le_of_ble_eq_true rfl, Nat.le_of_ble_eq_true rfl⟩, rfl, rfl⟩⟩
set_option maxRecDepth 20000 in
theorem vX8_init_44 : KCI jX8_init 44 jX2_init 2 := ⟨ggX8_init_X2_init, (List.mem_of_getElem? (i := 23) (by decide +kernel)), (List.mem_of_getElem? (i := 67) (by decide +kernel)), (List.mem_of_getElem? (i := 68) (by decide +kernel)), rfl, rfl, ⟨⟨_, rfl⟩, ⟨by decide +kernel, by decide +kernel, by decide +kernel⟩, ⟨by decide, by decide⟩, rfl, rfl⟩⟩
set_option maxRecDepth 20000 in
theorem vX8_init_53 : KCI jX8_init 53 jX7_init 2 := ⟨ggX8_init_X7_init, (List.mem_of_getElem? (i := 27) (by decide +kernel)), (List.mem_of_getElem? (i := 77) (by decide +kernel)), (List.mem_of_getElem? (i := 78) (by decide +kernel)), rfl, rfl, ⟨⟨_, rfl⟩, ⟨by decide +kernel, by decide +kernel, by decide +kernel⟩, ⟨by decide, by decide⟩, rfl, rfl⟩⟩
set_option maxRecDepth 20000 in
theorem vX8_init_60 : KCI jX8_init 60 jX0_init 2 := ⟨ggX8_init_X0_init, (List.mem_of_getElem? (i := 31) (by decide +kernel)), (List.mem_of_getElem? (i := 91) (by decide +kernel)), (List.mem_of_getElem? (i := 92) (by decide +kernel)), rfl, rfl, ⟨⟨_, rfl⟩, ⟨by decide +kernel, by decide +kernel, by decide +kernel⟩, ⟨by decide, by decide⟩, rfl, rfl⟩⟩
set_option maxRecDepth 20000 in
theorem vX8_init_67 : KCV jX8_init 67 jJ0_length_8abf5 0 := ⟨gX8_init_J0_length_8abf5, ⟨⟨_, rfl⟩, ⟨by decide +kernel, by decide +kernel, by decide +kernel⟩, ⟨by decide, by decide⟩, rfl, rfl⟩⟩
set_option maxRecDepth 20000 in
theorem vX8_init_73 : KCV jX8_init 73 jJ0_charAt_5068e 1 := ⟨gX8_init_J0_charAt_5068e, ⟨⟨_, rfl⟩, ⟨by decide +kernel, by decide +kernel, by decide +kernel⟩, ⟨by decide, by decide⟩, rfl, rfl⟩⟩
set_option maxRecDepth 20000 in
theorem vX8_init_77 : KCV jX8_init 77 jX5_add 1 := ⟨gX8_init_X5_add, ⟨⟨_, rfl⟩, ⟨by decide +kernel, by decide +kernel, by decide +kernel⟩, ⟨by decide, by decide⟩, rfl, rfl⟩⟩
set_option maxRecDepth 20000 in
theorem vX8_init_80 : KCV jX8_init 80 jX5_read 0 := ⟨gX8_init_X5_read, ⟨⟨_, rfl⟩, ⟨by decide +kernel, by decide +kernel, by decide +kernel⟩, ⟨by decide, by decide⟩, rfl, rfl⟩⟩
set_option maxRecDepth 20000 in
theorem vX8_init_83 : KCV jX8_init 83 jX8_takeScript 0 := ⟨gX8_init_X8_takeScript, ⟨⟨_, rfl⟩, ⟨by decide +kernel, by decide +kernel, by decide +kernel⟩, ⟨by decide, by decide⟩, rfl, rfl⟩⟩
abbrev jX8_write : KJ := (yX8_write, cX8_write, wsX8_write, 2, (some .int), { frames := 2, cells := 0, slots := 0, locals := 43 }, 0, 0)
set_option maxRecDepth 20000 in
theorem fX8_write_26 : KF jX8_write 26 7 2 := ⟨RX8, TX8, 8, rfl, by decide, (fun _ h => List.mem_cons_of_mem _ (List.mem_append_left _ (List.mem_append_right _ h))), (List.mem_of_getElem? (i := 1) (by decide +kernel))⟩
set_option maxRecDepth 20000 in
theorem fX8_write_86 : KF jX8_write 86 4 2 := ⟨RX5, TX5, 6, rfl, by decide, (fun _ h => List.mem_cons_of_mem _ (List.mem_append_right _ h)), (List.mem_of_getElem? (i := 2) (by decide +kernel))⟩
set_option maxRecDepth 20000 in
theorem vX8_write_77 : KCV jX8_write 77 jX5_add 1 := ⟨gX8_write_X5_add, ⟨⟨_, rfl⟩, ⟨by decide +kernel, by decide +kernel, by decide +kernel⟩, ⟨by decide, by decide⟩, rfl, rfl⟩⟩
abbrev jX8_wipe : KJ := (yX8_wipe, cX8_wipe, wsX8_wipe, 2, (some .int), { frames := 0, cells := 0, slots := 0, locals := 0 }, 0, 0)
set_option maxRecDepth 20000 in
theorem fX8_wipe_26 : KF jX8_wipe 26 7 2 := ⟨RX8, TX8, 8, rfl, by decide, (fun _ h => List.mem_cons_of_mem _ (List.mem_append_left _ (List.mem_append_right _ h))), (List.mem_of_getElem? (i := 1) (by decide +kernel))⟩
set_option maxRecDepth 20000 in
theorem fX8_wipe_86 : KF jX8_wipe 86 4 2 := ⟨RX5, TX5, 6, rfl, by decide, (fun _ h => List.mem_cons_of_mem _ (List.mem_append_right _ h)), (List.mem_of_getElem? (i := 2) (by decide +kernel))⟩
set_option maxRecDepth 20000 in
theorem pX8_wipe_86 : KFp jX8_wipe 86 4 2 .int := ⟨RX5, TX5, 6, rfl, by decide, (fun _ h => List.mem_cons_of_mem _ (List.mem_append_right _ h)), (List.mem_of_getElem? (i := 2) (by decide +kernel)), ⟨tyX5, tyX5_ok⟩, nmX5, by decide +kernel, Or.inl rfl⟩
abbrev jX8_fault : KJ := (yX8_fault, cX8_fault, wsX8_fault, 1, (some .int), { frames := 6, cells := 0, slots := 0, locals := 133 }, 0, 0)
set_option maxRecDepth 20000 in
theorem fX8_fault_26 : KF jX8_fault 26 7 2 := ⟨RX8, TX8, 8, rfl, by decide, (fun _ h => List.mem_cons_of_mem _ (List.mem_append_left _ (List.mem_append_left _ (List.mem_append_left _ (List.mem_append_right _ h))))), (List.mem_of_getElem? (i := 1) (by decide +kernel))⟩
set_option maxRecDepth 20000 in
theorem vX8_fault_80 : KCV jX8_fault 80 jX5_read 0 := ⟨gX8_fault_X5_read, ⟨⟨_, rfl⟩, ⟨by decide +kernel, by decide +kernel, by decide +kernel⟩, ⟨by decide, by decide⟩, rfl, rfl⟩⟩
abbrev jX8_lay : KJ := (yX8_lay, cX8_lay, wsX8_lay, 1, (some .int), { frames := 6, cells := 0, slots := 0, locals := 133 }, 0, 0)
set_option maxRecDepth 20000 in
theorem fX8_lay_26 : KF jX8_lay 26 7 2 := ⟨RX8, TX8, 8, rfl, by decide, (fun _ h => List.mem_cons_of_mem _ (List.mem_append_left _ (List.mem_append_left _ (List.mem_append_left _ (List.mem_append_left _ (List.mem_append_left _ (List.mem_append_right _ h))))))), (List.mem_of_getElem? (i := 1) (by decide +kernel))⟩
set_option maxRecDepth 20000 in
theorem fX8_lay_89 : KF jX8_lay 89 4 0 := ⟨RX5, TX5, 6, rfl, by decide, (fun _ h => List.mem_cons_of_mem _ (List.mem_append_left _ (List.mem_append_left _ (List.mem_append_left _ (List.mem_append_left _ (List.mem_append_right _ h)))))), (List.mem_of_getElem? (i := 2) (by decide +kernel))⟩
set_option maxRecDepth 20000 in
theorem fX8_lay_90 : KF jX8_lay 90 1 3 := ⟨RX1, TX1, 5, rfl, by decide, (fun _ h => List.mem_cons_of_mem _ (List.mem_append_left _ (List.mem_append_left _ (List.mem_append_left _ (List.mem_append_right _ h))))), (List.mem_of_getElem? (i := 3) (by decide +kernel))⟩
set_option maxRecDepth 20000 in
theorem fX8_lay_54 : KF jX8_lay 54 7 6 := ⟨RX8, TX8, 8, rfl, by decide, (fun _ h => List.mem_cons_of_mem _ (List.mem_append_left _ (List.mem_append_left _ (List.mem_append_left _ (List.mem_append_left _ (List.mem_append_left _ (List.mem_append_right _ h))))))), (List.mem_of_getElem? (i := 4) (by decide +kernel))⟩
set_option maxRecDepth 20000 in
theorem pX8_lay_93 : KFp jX8_lay 93 6 0 .int := ⟨RX7, TX7, 9, rfl, by decide, (fun _ h => List.mem_cons_of_mem _ (List.mem_append_left _ (List.mem_append_left _ (List.mem_append_right _ h)))), (List.mem_of_getElem? (i := 5) (by decide +kernel)), ⟨tyX7, tyX7_ok⟩, nmX7, by decide +kernel, Or.inl rfl⟩
set_option maxRecDepth 20000 in
theorem fX8_lay_35 : KF jX8_lay 35 7 3 := ⟨RX8, TX8, 8, rfl, by decide, (fun _ h => List.mem_cons_of_mem _ (List.mem_append_left _ (List.mem_append_left _ (List.mem_append_left _ (List.mem_append_left _ (List.mem_append_left _ (List.mem_append_right _ h))))))), (List.mem_of_getElem? (i := 6) (by decide +kernel))⟩
set_option maxRecDepth 20000 in
theorem pX8_lay_94 : KFp jX8_lay 94 5 0 .int := ⟨RX6, TX6, 2, rfl, by decide, (fun _ h => List.mem_cons_of_mem _ (List.mem_append_left _ (List.mem_append_right _ h))), (List.mem_of_getElem? (i := 7) (by decide +kernel)), ⟨tyX6, tyX6_ok⟩, nmX6, by decide +kernel, Or.inl rfl⟩
set_option maxRecDepth 20000 in
theorem fX8_lay_39 : KF jX8_lay 39 7 4 := ⟨RX8, TX8, 8, rfl, by decide, (fun _ h => List.mem_cons_of_mem _ (List.mem_append_left _ (List.mem_append_left _ (List.mem_append_left _ (List.mem_append_left _ (List.mem_append_left _ (List.mem_append_right _ h))))))), (List.mem_of_getElem? (i := 8) (by decide +kernel))⟩
set_option maxRecDepth 20000 in
theorem fX8_lay_10 : KF jX8_lay 10 7 0 := ⟨RX8, TX8, 8, rfl, by decide, (fun _ h => List.mem_cons_of_mem _ (List.mem_append_left _ (List.mem_append_left _ (List.mem_append_left _ (List.mem_append_left _ (List.mem_append_left _ (List.mem_append_right _ h))))))), (List.mem_of_getElem? (i := 9) (by decide +kernel))⟩
set_option maxRecDepth 20000 in
theorem vX8_lay_80 : KCV jX8_lay 80 jX5_read 0 := ⟨gX8_lay_X5_read, ⟨⟨_, rfl⟩, ⟨by decide +kernel, by decide +kernel, by decide +kernel⟩, ⟨by decide, by decide⟩, rfl, rfl⟩⟩
set_option maxRecDepth 20000 in
theorem vX8_lay_83 : KCV jX8_lay 83 jX8_takeScript 0 := ⟨gX8_lay_X8_takeScript, ⟨⟨_, rfl⟩, ⟨by decide +kernel, by decide +kernel, by decide +kernel⟩, ⟨by decide, by decide⟩, rfl, rfl⟩⟩
abbrev jX8_person : KJ := (yX8_person, cX8_person, wsX8_person, 3, (some .int), { frames := 3, cells := 0, slots := 0, locals := 66 }, 0, 0)
set_option maxRecDepth 20000 in
theorem fX8_person_10 : KF jX8_person 10 7 0 := ⟨RX8, TX8, 8, rfl, by decide, (fun _ h => List.mem_cons_of_mem _ (List.mem_append_left _ (List.mem_append_left _ (List.mem_append_right _ h)))), (List.mem_of_getElem? (i := 1) (by decide +kernel))⟩
set_option maxRecDepth 20000 in
theorem fX8_person_99 : KF jX8_person 99 1 0 := ⟨RX1, TX1, 5, rfl, by decide, (fun _ h => List.mem_cons_of_mem _ (List.mem_append_left _ (List.mem_append_right _ h))), (List.mem_of_getElem? (i := 2) (by decide +kernel))⟩
set_option maxRecDepth 20000 in
theorem fX8_person_109 : KF jX8_person 109 1 1 := ⟨RX1, TX1, 5, rfl, by decide, (fun _ h => List.mem_cons_of_mem _ (List.mem_append_left _ (List.mem_append_right _ h))), (List.mem_of_getElem? (i := 3) (by decide +kernel))⟩
set_option maxRecDepth 20000 in
theorem fX8_person_112 : KF jX8_person 112 1 2 := ⟨RX1, TX1, 5, rfl, by decide, (fun _ h => List.mem_cons_of_mem _ (List.mem_append_left _ (List.mem_append_right _ h))), (List.mem_of_getElem? (i := 4) (by decide +kernel))⟩
set_option maxRecDepth 20000 in
theorem fX8_person_19 : KF jX8_person 19 7 1 := ⟨RX8, TX8, 8, rfl, by decide, (fun _ h => List.mem_cons_of_mem _ (List.mem_append_left _ (List.mem_append_left _ (List.mem_append_right _ h)))), (List.mem_of_getElem? (i := 5) (by decide +kernel))⟩
set_option maxRecDepth 20000 in
theorem fX8_person_115 : KF jX8_person 115 3 2 := ⟨RX4, TX4, 6, rfl, by decide, (fun _ h => List.mem_cons_of_mem _ (List.mem_append_right _ h)), (List.mem_of_getElem? (i := 6) (by decide +kernel))⟩
set_option maxRecDepth 20000 in
theorem fX8_person_122 : KF jX8_person 122 3 1 := ⟨RX4, TX4, 6, rfl, by decide, (fun _ h => List.mem_cons_of_mem _ (List.mem_append_right _ h)), (List.mem_of_getElem? (i := 7) (by decide +kernel))⟩
set_option maxRecDepth 20000 in
theorem vX8_person_95 : KCV jX8_person 95 jX1_isPerson 1 := ⟨gX8_person_X1_isPerson, ⟨⟨_, rfl⟩, ⟨by decide +kernel, by decide +kernel, by decide +kernel⟩, ⟨by decide, by decide⟩, rfl, rfl⟩⟩
set_option maxRecDepth 20000 in
theorem vX8_person_103 : KCS jX8_person 103 jX3_at 2 := ⟨gX8_person_X3_at, ⟨⟨_, rfl⟩, ⟨by decide +kernel, by decide +kernel, by decide +kernel⟩, ⟨by decide, by decide⟩, rfl, rfl⟩⟩
set_option maxRecDepth 20000 in
theorem vX8_person_118 : KCV jX8_person 118 jX4_placeOf 1 := ⟨gX8_person_X4_placeOf, ⟨⟨_, rfl⟩, ⟨by decide +kernel, by decide +kernel, by decide +kernel⟩, ⟨by decide, by decide⟩, rfl, rfl⟩⟩
set_option maxRecDepth 20000 in
theorem vX8_person_126 : KCV jX8_person 126 jX4_dueOf 1 := ⟨gX8_person_X4_dueOf, ⟨⟨_, rfl⟩, ⟨by decide +kernel, by decide +kernel, by decide +kernel⟩, ⟨by decide, by decide⟩, rfl, rfl⟩⟩
abbrev jX8_areTwo : KJ := (yX8_areTwo, cX8_areTwo, wsX8_areTwo, 3, (some .boolean), { frames := 1, cells := 0, slots := 0, locals := 21 }, 0, 0)
set_option maxRecDepth 20000 in
theorem fX8_areTwo_10 : KF jX8_areTwo 10 7 0 := ⟨RX8, TX8, 8, rfl, by decide, (fun _ h => List.mem_cons_of_mem _ (List.mem_append_left _ (List.mem_append_right _ h))), (List.mem_of_getElem? (i := 1) (by decide +kernel))⟩
set_option maxRecDepth 20000 in
theorem vX8_areTwo_95 : KCV jX8_areTwo 95 jX1_isPerson 1 := ⟨gX8_areTwo_X1_isPerson, ⟨⟨_, rfl⟩, ⟨by decide +kernel, by decide +kernel, by decide +kernel⟩, ⟨by decide, by decide⟩, rfl, rfl⟩⟩
abbrev jX8_owes : KJ := (yX8_owes, cX8_owes, wsX8_owes, 3, (some .int), { frames := 2, cells := 0, slots := 0, locals := 43 }, 0, 0)
set_option maxRecDepth 20000 in
theorem fX8_owes_19 : KF jX8_owes 19 7 1 := ⟨RX8, TX8, 8, rfl, by decide, (fun _ h => List.mem_cons_of_mem _ (List.mem_append_left _ (List.mem_append_left _ (List.mem_append_right _ h)))), (List.mem_of_getElem? (i := 1) (by decide +kernel))⟩
set_option maxRecDepth 20000 in
theorem vX8_owes_129 : KCV jX8_owes 129 jX8_areTwo 2 := ⟨gX8_owes_X8_areTwo, ⟨⟨_, rfl⟩, ⟨by decide +kernel, by decide +kernel, by decide +kernel⟩, ⟨by decide, by decide⟩, rfl, rfl⟩⟩
set_option maxRecDepth 20000 in
theorem vX8_owes_133 : KCV jX8_owes 133 jX4_debt 2 := ⟨gX8_owes_X4_debt, ⟨⟨_, rfl⟩, ⟨by decide +kernel, by decide +kernel, by decide +kernel⟩, ⟨by decide, by decide⟩, rfl, rfl⟩⟩
abbrev jX8_place : KJ := (yX8_place, cX8_place, wsX8_place, 2, (some .int), { frames := 1, cells := 0, slots := 0, locals := 21 }, 0, 0)
set_option maxRecDepth 20000 in
theorem fX8_place_19 : KF jX8_place 19 7 1 := ⟨RX8, TX8, 8, rfl, by decide, (fun _ h => List.mem_cons_of_mem _ (List.mem_append_left _ (List.mem_append_right _ h))), (List.mem_of_getElem? (i := 1) (by decide +kernel))⟩
set_option maxRecDepth 20000 in
theorem fX8_place_137 : KF jX8_place 137 3 4 := ⟨RX4, TX4, 6, rfl, by decide, (fun _ h => List.mem_cons_of_mem _ (List.mem_append_right _ h)), (List.mem_of_getElem? (i := 2) (by decide +kernel))⟩
set_option maxRecDepth 20000 in
theorem fX8_place_138 : KF jX8_place 138 3 0 := ⟨RX4, TX4, 6, rfl, by decide, (fun _ h => List.mem_cons_of_mem _ (List.mem_append_right _ h)), (List.mem_of_getElem? (i := 3) (by decide +kernel))⟩
set_option maxRecDepth 20000 in
theorem vX8_place_103 : KCS jX8_place 103 jX3_at 2 := ⟨gX8_place_X3_at, ⟨⟨_, rfl⟩, ⟨by decide +kernel, by decide +kernel, by decide +kernel⟩, ⟨by decide, by decide⟩, rfl, rfl⟩⟩
abbrev jX8_would : KJ := (yX8_would, cX8_would, wsX8_would, 4, (some .int), { frames := 2, cells := 0, slots := 0, locals := 44 }, 0, 0)
set_option maxRecDepth 20000 in
theorem fX8_would_10 : KF jX8_would 10 7 0 := ⟨RX8, TX8, 8, rfl, by decide, (fun _ h => List.mem_cons_of_mem _ (List.mem_append_left _ (List.mem_append_left _ (List.mem_append_right _ h)))), (List.mem_of_getElem? (i := 1) (by decide +kernel))⟩
set_option maxRecDepth 20000 in
theorem fX8_would_19 : KF jX8_would 19 7 1 := ⟨RX8, TX8, 8, rfl, by decide, (fun _ h => List.mem_cons_of_mem _ (List.mem_append_left _ (List.mem_append_left _ (List.mem_append_right _ h)))), (List.mem_of_getElem? (i := 2) (by decide +kernel))⟩
set_option maxRecDepth 20000 in
theorem fX8_would_138 : KF jX8_would 138 3 0 := ⟨RX4, TX4, 6, rfl, by decide, (fun _ h => List.mem_cons_of_mem _ (List.mem_append_left _ (List.mem_append_right _ h))), (List.mem_of_getElem? (i := 3) (by decide +kernel))⟩
set_option maxRecDepth 20000 in
theorem vX8_would_95 : KCV jX8_would 95 jX1_isPerson 1 := ⟨gX8_would_X1_isPerson, ⟨⟨_, rfl⟩, ⟨by decide +kernel, by decide +kernel, by decide +kernel⟩, ⟨by decide, by decide⟩, rfl, rfl⟩⟩
set_option maxRecDepth 20000 in
theorem vX8_would_118 : KCV jX8_would 118 jX4_placeOf 1 := ⟨gX8_would_X4_placeOf, ⟨⟨_, rfl⟩, ⟨by decide +kernel, by decide +kernel, by decide +kernel⟩, ⟨by decide, by decide⟩, rfl, rfl⟩⟩
set_option maxRecDepth 20000 in
theorem vX8_would_103 : KCS jX8_would 103 jX3_at 2 := ⟨gX8_would_X3_at, ⟨⟨_, rfl⟩, ⟨by decide +kernel, by decide +kernel, by decide +kernel⟩, ⟨by decide, by decide⟩, rfl, rfl⟩⟩
set_option maxRecDepth 20000 in
theorem vX8_would_141 : KCV jX8_would 141 jX1_gain 2 := ⟨gX8_would_X1_gain, ⟨⟨_, rfl⟩, ⟨by decide +kernel, by decide +kernel, by decide +kernel⟩, ⟨by decide, by decide⟩, rfl, rfl⟩⟩
set_option maxRecDepth 20000 in
theorem vX8_would_144 : KCV jX8_would 144 jX4_wantsFor 3 := ⟨gX8_would_X4_wantsFor, ⟨⟨_, rfl⟩, ⟨by decide +kernel, by decide +kernel, by decide +kernel⟩, ⟨by decide, by decide⟩, rfl, rfl⟩⟩
abbrev jX8_pass : KJ := (yX8_pass, cX8_pass, wsX8_pass, 2, (some .int), { frames := 5, cells := 0, slots := 0, locals := 115 }, 0, 0)
set_option maxRecDepth 20000 in
theorem fX8_pass_19 : KF jX8_pass 19 7 1 := ⟨RX8, TX8, 8, rfl, by decide, (fun _ h => List.mem_cons_of_mem _ (List.mem_append_left _ (List.mem_append_left _ (List.mem_append_left _ (List.mem_append_right _ h))))), (List.mem_of_getElem? (i := 1) (by decide +kernel))⟩
set_option maxRecDepth 20000 in
theorem fX8_pass_148 : KF jX8_pass 148 3 5 := ⟨RX4, TX4, 6, rfl, by decide, (fun _ h => List.mem_cons_of_mem _ (List.mem_append_left _ (List.mem_append_left _ (List.mem_append_right _ h)))), (List.mem_of_getElem? (i := 2) (by decide +kernel))⟩
set_option maxRecDepth 20000 in
theorem fX8_pass_35 : KF jX8_pass 35 7 3 := ⟨RX8, TX8, 8, rfl, by decide, (fun _ h => List.mem_cons_of_mem _ (List.mem_append_left _ (List.mem_append_left _ (List.mem_append_left _ (List.mem_append_right _ h))))), (List.mem_of_getElem? (i := 3) (by decide +kernel))⟩
set_option maxRecDepth 20000 in
theorem fX8_pass_10 : KF jX8_pass 10 7 0 := ⟨RX8, TX8, 8, rfl, by decide, (fun _ h => List.mem_cons_of_mem _ (List.mem_append_left _ (List.mem_append_left _ (List.mem_append_left _ (List.mem_append_right _ h))))), (List.mem_of_getElem? (i := 4) (by decide +kernel))⟩
set_option maxRecDepth 20000 in
theorem vX8_pass_151 : KCV jX8_pass 151 jX6_push 1 := ⟨gX8_pass_X6_push, ⟨⟨_, rfl⟩, ⟨by decide +kernel, by decide +kernel, by decide +kernel⟩, ⟨by decide, by decide⟩, rfl, rfl⟩⟩
set_option maxRecDepth 20000 in
theorem vX8_pass_155 : KCV jX8_pass 155 jX4_run 2 := ⟨gX8_pass_X4_run, ⟨⟨_, rfl⟩, ⟨by decide +kernel, by decide +kernel, by decide +kernel⟩, ⟨by decide, by decide⟩, rfl, rfl⟩⟩
abbrev jX8_let : KJ := (yX8_let, cX8_let, wsX8_let, 3, (some .int), { frames := 4, cells := 0, slots := 0, locals := 90 }, 0, 0)
set_option maxRecDepth 20000 in
theorem fX8_let_19 : KF jX8_let 19 7 1 := ⟨RX8, TX8, 8, rfl, by decide, (fun _ h => List.mem_cons_of_mem _ (List.mem_append_left _ (List.mem_append_left _ (List.mem_append_left _ (List.mem_append_right _ h))))), (List.mem_of_getElem? (i := 1) (by decide +kernel))⟩
set_option maxRecDepth 20000 in
theorem fX8_let_35 : KF jX8_let 35 7 3 := ⟨RX8, TX8, 8, rfl, by decide, (fun _ h => List.mem_cons_of_mem _ (List.mem_append_left _ (List.mem_append_left _ (List.mem_append_left _ (List.mem_append_right _ h))))), (List.mem_of_getElem? (i := 2) (by decide +kernel))⟩
set_option maxRecDepth 20000 in
theorem vX8_let_129 : KCV jX8_let 129 jX8_areTwo 2 := ⟨gX8_let_X8_areTwo, ⟨⟨_, rfl⟩, ⟨by decide +kernel, by decide +kernel, by decide +kernel⟩, ⟨by decide, by decide⟩, rfl, rfl⟩⟩
set_option maxRecDepth 20000 in
theorem vX8_let_159 : KCV jX8_let 159 jX4_canLet 2 := ⟨gX8_let_X4_canLet, ⟨⟨_, rfl⟩, ⟨by decide +kernel, by decide +kernel, by decide +kernel⟩, ⟨by decide, by decide⟩, rfl, rfl⟩⟩
set_option maxRecDepth 20000 in
theorem vX8_let_151 : KCV jX8_let 151 jX6_push 1 := ⟨gX8_let_X6_push, ⟨⟨_, rfl⟩, ⟨by decide +kernel, by decide +kernel, by decide +kernel⟩, ⟨by decide, by decide⟩, rfl, rfl⟩⟩
set_option maxRecDepth 20000 in
theorem vX8_let_162 : KCV jX8_let 162 jX4_letPast 2 := ⟨gX8_let_X4_letPast, ⟨⟨_, rfl⟩, ⟨by decide +kernel, by decide +kernel, by decide +kernel⟩, ⟨by decide, by decide⟩, rfl, rfl⟩⟩
set_option maxRecDepth 20000 in
theorem vX8_let_118 : KCV jX8_let 118 jX4_placeOf 1 := ⟨gX8_let_X4_placeOf, ⟨⟨_, rfl⟩, ⟨by decide +kernel, by decide +kernel, by decide +kernel⟩, ⟨by decide, by decide⟩, rfl, rfl⟩⟩
abbrev jX8_leave : KJ := (yX8_leave, cX8_leave, wsX8_leave, 2, (some .int), { frames := 4, cells := 0, slots := 0, locals := 85 }, 0, 0)
set_option maxRecDepth 20000 in
theorem fX8_leave_10 : KF jX8_leave 10 7 0 := ⟨RX8, TX8, 8, rfl, by decide, (fun _ h => List.mem_cons_of_mem _ (List.mem_append_left _ (List.mem_append_left _ (List.mem_append_left _ (List.mem_append_right _ h))))), (List.mem_of_getElem? (i := 1) (by decide +kernel))⟩
set_option maxRecDepth 20000 in
theorem fX8_leave_19 : KF jX8_leave 19 7 1 := ⟨RX8, TX8, 8, rfl, by decide, (fun _ h => List.mem_cons_of_mem _ (List.mem_append_left _ (List.mem_append_left _ (List.mem_append_left _ (List.mem_append_right _ h))))), (List.mem_of_getElem? (i := 2) (by decide +kernel))⟩
set_option maxRecDepth 20000 in
theorem fX8_leave_35 : KF jX8_leave 35 7 3 := ⟨RX8, TX8, 8, rfl, by decide, (fun _ h => List.mem_cons_of_mem _ (List.mem_append_left _ (List.mem_append_left _ (List.mem_append_left _ (List.mem_append_right _ h))))), (List.mem_of_getElem? (i := 3) (by decide +kernel))⟩
set_option maxRecDepth 20000 in
theorem fX8_leave_137 : KF jX8_leave 137 3 4 := ⟨RX4, TX4, 6, rfl, by decide, (fun _ h => List.mem_cons_of_mem _ (List.mem_append_left _ (List.mem_append_left _ (List.mem_append_right _ h)))), (List.mem_of_getElem? (i := 4) (by decide +kernel))⟩
set_option maxRecDepth 20000 in
theorem vX8_leave_95 : KCV jX8_leave 95 jX1_isPerson 1 := ⟨gX8_leave_X1_isPerson, ⟨⟨_, rfl⟩, ⟨by decide +kernel, by decide +kernel, by decide +kernel⟩, ⟨by decide, by decide⟩, rfl, rfl⟩⟩
set_option maxRecDepth 20000 in
theorem vX8_leave_166 : KCV jX8_leave 166 jX4_isQueued 1 := ⟨gX8_leave_X4_isQueued, ⟨⟨_, rfl⟩, ⟨by decide +kernel, by decide +kernel, by decide +kernel⟩, ⟨by decide, by decide⟩, rfl, rfl⟩⟩
set_option maxRecDepth 20000 in
theorem vX8_leave_151 : KCV jX8_leave 151 jX6_push 1 := ⟨gX8_leave_X6_push, ⟨⟨_, rfl⟩, ⟨by decide +kernel, by decide +kernel, by decide +kernel⟩, ⟨by decide, by decide⟩, rfl, rfl⟩⟩
set_option maxRecDepth 20000 in
theorem vX8_leave_169 : KCV jX8_leave 169 jX4_takeOut 2 := ⟨gX8_leave_X4_takeOut, ⟨⟨_, rfl⟩, ⟨by decide +kernel, by decide +kernel, by decide +kernel⟩, ⟨by decide, by decide⟩, rfl, rfl⟩⟩
abbrev jX8_come : KJ := (yX8_come, cX8_come, wsX8_come, 2, (some .int), { frames := 4, cells := 0, slots := 0, locals := 85 }, 0, 0)
set_option maxRecDepth 20000 in
theorem fX8_come_10 : KF jX8_come 10 7 0 := ⟨RX8, TX8, 8, rfl, by decide, (fun _ h => List.mem_cons_of_mem _ (List.mem_append_left _ (List.mem_append_left _ (List.mem_append_left _ (List.mem_append_right _ h))))), (List.mem_of_getElem? (i := 1) (by decide +kernel))⟩
set_option maxRecDepth 20000 in
theorem fX8_come_19 : KF jX8_come 19 7 1 := ⟨RX8, TX8, 8, rfl, by decide, (fun _ h => List.mem_cons_of_mem _ (List.mem_append_left _ (List.mem_append_left _ (List.mem_append_left _ (List.mem_append_right _ h))))), (List.mem_of_getElem? (i := 2) (by decide +kernel))⟩
set_option maxRecDepth 20000 in
theorem fX8_come_35 : KF jX8_come 35 7 3 := ⟨RX8, TX8, 8, rfl, by decide, (fun _ h => List.mem_cons_of_mem _ (List.mem_append_left _ (List.mem_append_left _ (List.mem_append_left _ (List.mem_append_right _ h))))), (List.mem_of_getElem? (i := 3) (by decide +kernel))⟩
set_option maxRecDepth 20000 in
theorem vX8_come_95 : KCV jX8_come 95 jX1_isPerson 1 := ⟨gX8_come_X1_isPerson, ⟨⟨_, rfl⟩, ⟨by decide +kernel, by decide +kernel, by decide +kernel⟩, ⟨by decide, by decide⟩, rfl, rfl⟩⟩
set_option maxRecDepth 20000 in
theorem vX8_come_166 : KCV jX8_come 166 jX4_isQueued 1 := ⟨gX8_come_X4_isQueued, ⟨⟨_, rfl⟩, ⟨by decide +kernel, by decide +kernel, by decide +kernel⟩, ⟨by decide, by decide⟩, rfl, rfl⟩⟩
set_option maxRecDepth 20000 in
theorem vX8_come_151 : KCV jX8_come 151 jX6_push 1 := ⟨gX8_come_X6_push, ⟨⟨_, rfl⟩, ⟨by decide +kernel, by decide +kernel, by decide +kernel⟩, ⟨by decide, by decide⟩, rfl, rfl⟩⟩
set_option maxRecDepth 20000 in
theorem vX8_come_172 : KCV jX8_come 172 jX4_append 1 := ⟨gX8_come_X4_append, ⟨⟨_, rfl⟩, ⟨by decide +kernel, by decide +kernel, by decide +kernel⟩, ⟨by decide, by decide⟩, rfl, rfl⟩⟩
set_option maxRecDepth 20000 in
theorem vX8_come_118 : KCV jX8_come 118 jX4_placeOf 1 := ⟨gX8_come_X4_placeOf, ⟨⟨_, rfl⟩, ⟨by decide +kernel, by decide +kernel, by decide +kernel⟩, ⟨by decide, by decide⟩, rfl, rfl⟩⟩
abbrev jX8_pay : KJ := (yX8_pay, cX8_pay, wsX8_pay, 4, (some .int), { frames := 4, cells := 0, slots := 0, locals := 88 }, 0, 0)
set_option maxRecDepth 20000 in
theorem fX8_pay_19 : KF jX8_pay 19 7 1 := ⟨RX8, TX8, 8, rfl, by decide, (fun _ h => List.mem_cons_of_mem _ (List.mem_append_left _ (List.mem_append_left _ (List.mem_append_left _ (List.mem_append_right _ h))))), (List.mem_of_getElem? (i := 1) (by decide +kernel))⟩
set_option maxRecDepth 20000 in
theorem fX8_pay_35 : KF jX8_pay 35 7 3 := ⟨RX8, TX8, 8, rfl, by decide, (fun _ h => List.mem_cons_of_mem _ (List.mem_append_left _ (List.mem_append_left _ (List.mem_append_left _ (List.mem_append_right _ h))))), (List.mem_of_getElem? (i := 2) (by decide +kernel))⟩
set_option maxRecDepth 20000 in
theorem vX8_pay_129 : KCV jX8_pay 129 jX8_areTwo 2 := ⟨gX8_pay_X8_areTwo, ⟨⟨_, rfl⟩, ⟨by decide +kernel, by decide +kernel, by decide +kernel⟩, ⟨by decide, by decide⟩, rfl, rfl⟩⟩
set_option maxRecDepth 20000 in
theorem vX8_pay_175 : KCV jX8_pay 175 jX4_payable 2 := ⟨gX8_pay_X4_payable, ⟨⟨_, rfl⟩, ⟨by decide +kernel, by decide +kernel, by decide +kernel⟩, ⟨by decide, by decide⟩, rfl, rfl⟩⟩
set_option maxRecDepth 20000 in
theorem vX8_pay_151 : KCV jX8_pay 151 jX6_push 1 := ⟨gX8_pay_X6_push, ⟨⟨_, rfl⟩, ⟨by decide +kernel, by decide +kernel, by decide +kernel⟩, ⟨by decide, by decide⟩, rfl, rfl⟩⟩
set_option maxRecDepth 20000 in
theorem vX8_pay_178 : KCV jX8_pay 178 jX4_settle 2 := ⟨gX8_pay_X4_settle, ⟨⟨_, rfl⟩, ⟨by decide +kernel, by decide +kernel, by decide +kernel⟩, ⟨by decide, by decide⟩, rfl, rfl⟩⟩
abbrev jX8_undo : KJ := (yX8_undo, cX8_undo, wsX8_undo, 1, (some .int), { frames := 4, cells := 0, slots := 0, locals := 85 }, 0, 0)
set_option maxRecDepth 20000 in
theorem fX8_undo_35 : KF jX8_undo 35 7 3 := ⟨RX8, TX8, 8, rfl, by decide, (fun _ h => List.mem_cons_of_mem _ (List.mem_append_left _ (List.mem_append_left _ (List.mem_append_right _ h)))), (List.mem_of_getElem? (i := 1) (by decide +kernel))⟩
set_option maxRecDepth 20000 in
theorem fX8_undo_94 : KF jX8_undo 94 5 0 := ⟨RX6, TX6, 2, rfl, by decide, (fun _ h => List.mem_cons_of_mem _ (List.mem_append_left _ (List.mem_append_right _ h))), (List.mem_of_getElem? (i := 2) (by decide +kernel))⟩
set_option maxRecDepth 20000 in
theorem fX8_undo_19 : KF jX8_undo 19 7 1 := ⟨RX8, TX8, 8, rfl, by decide, (fun _ h => List.mem_cons_of_mem _ (List.mem_append_left _ (List.mem_append_left _ (List.mem_append_right _ h)))), (List.mem_of_getElem? (i := 3) (by decide +kernel))⟩
set_option maxRecDepth 20000 in
theorem vX8_undo_181 : KCV jX8_undo 181 jX6_popInto 1 := ⟨gX8_undo_X6_popInto, ⟨⟨_, rfl⟩, ⟨by decide +kernel, by decide +kernel, by decide +kernel⟩, ⟨by decide, by decide⟩, rfl, rfl⟩⟩
abbrev jX8_isNoPart : KJ := (yX8_isNoPart, cX8_isNoPart, wsX8_isNoPart, 1, (some .boolean), { frames := 0, cells := 0, slots := 0, locals := 0 }, 0, 0)
abbrev jX8_behind : KJ := (yX8_behind, cX8_behind, wsX8_behind, 5, (some .int), { frames := 6, cells := 0, slots := 0, locals := 136 }, 0, 0)
set_option maxRecDepth 20000 in
theorem fX8_behind_10 : KF jX8_behind 10 7 0 := ⟨RX8, TX8, 8, rfl, by decide, (fun _ h => List.mem_cons_of_mem _ (List.mem_append_left _ (List.mem_append_left _ (List.mem_append_left _ (List.mem_append_right _ h))))), (List.mem_of_getElem? (i := 1) (by decide +kernel))⟩
set_option maxRecDepth 20000 in
theorem fX8_behind_47 : KF jX8_behind 47 7 5 := ⟨RX8, TX8, 8, rfl, by decide, (fun _ h => List.mem_cons_of_mem _ (List.mem_append_left _ (List.mem_append_left _ (List.mem_append_left _ (List.mem_append_right _ h))))), (List.mem_of_getElem? (i := 2) (by decide +kernel))⟩
set_option maxRecDepth 20000 in
theorem vX8_behind_95 : KCV jX8_behind 95 jX1_isPerson 1 := ⟨gX8_behind_X1_isPerson, ⟨⟨_, rfl⟩, ⟨by decide +kernel, by decide +kernel, by decide +kernel⟩, ⟨by decide, by decide⟩, rfl, rfl⟩⟩
set_option maxRecDepth 20000 in
theorem vX8_behind_184 : KCS jX8_behind 184 jX8_isNoPart 1 := ⟨gX8_behind_X8_isNoPart, ⟨⟨_, rfl⟩, ⟨by decide +kernel, by decide +kernel, by decide +kernel⟩, ⟨by decide, by decide⟩, rfl, rfl⟩⟩
set_option maxRecDepth 20000 in
theorem vX8_behind_187 : KCV jX8_behind 187 jX2_sceneBehind 1 := ⟨gX8_behind_X2_sceneBehind, ⟨⟨_, rfl⟩, ⟨by decide +kernel, by decide +kernel, by decide +kernel⟩, ⟨by decide, by decide⟩, rfl, rfl⟩⟩
set_option maxRecDepth 20000 in
theorem vX8_behind_118 : KCV jX8_behind 118 jX4_placeOf 1 := ⟨gX8_behind_X4_placeOf, ⟨⟨_, rfl⟩, ⟨by decide +kernel, by decide +kernel, by decide +kernel⟩, ⟨by decide, by decide⟩, rfl, rfl⟩⟩
set_option maxRecDepth 20000 in
theorem vX8_behind_126 : KCV jX8_behind 126 jX4_dueOf 1 := ⟨gX8_behind_X4_dueOf, ⟨⟨_, rfl⟩, ⟨by decide +kernel, by decide +kernel, by decide +kernel⟩, ⟨by decide, by decide⟩, rfl, rfl⟩⟩
abbrev jX8_served : KJ := (yX8_served, cX8_served, wsX8_served, 2, (some .int), { frames := 6, cells := 0, slots := 0, locals := 135 }, 0, 0)
set_option maxRecDepth 20000 in
theorem fX8_served_10 : KF jX8_served 10 7 0 := ⟨RX8, TX8, 8, rfl, by decide, (fun _ h => List.mem_cons_of_mem _ (List.mem_append_left _ (List.mem_append_left _ (List.mem_append_left _ (List.mem_append_right _ h))))), (List.mem_of_getElem? (i := 1) (by decide +kernel))⟩
set_option maxRecDepth 20000 in
theorem fX8_served_19 : KF jX8_served 19 7 1 := ⟨RX8, TX8, 8, rfl, by decide, (fun _ h => List.mem_cons_of_mem _ (List.mem_append_left _ (List.mem_append_left _ (List.mem_append_left _ (List.mem_append_right _ h))))), (List.mem_of_getElem? (i := 2) (by decide +kernel))⟩
set_option maxRecDepth 20000 in
theorem fX8_served_47 : KF jX8_served 47 7 5 := ⟨RX8, TX8, 8, rfl, by decide, (fun _ h => List.mem_cons_of_mem _ (List.mem_append_left _ (List.mem_append_left _ (List.mem_append_left _ (List.mem_append_right _ h))))), (List.mem_of_getElem? (i := 3) (by decide +kernel))⟩
set_option maxRecDepth 20000 in
theorem vX8_served_95 : KCV jX8_served 95 jX1_isPerson 1 := ⟨gX8_served_X1_isPerson, ⟨⟨_, rfl⟩, ⟨by decide +kernel, by decide +kernel, by decide +kernel⟩, ⟨by decide, by decide⟩, rfl, rfl⟩⟩
set_option maxRecDepth 20000 in
theorem vX8_served_166 : KCV jX8_served 166 jX4_isQueued 1 := ⟨gX8_served_X4_isQueued, ⟨⟨_, rfl⟩, ⟨by decide +kernel, by decide +kernel, by decide +kernel⟩, ⟨by decide, by decide⟩, rfl, rfl⟩⟩
set_option maxRecDepth 20000 in
theorem vX8_served_191 : KCV jX8_served 191 jX2_waitOf 1 := ⟨gX8_served_X2_waitOf, ⟨⟨_, rfl⟩, ⟨by decide +kernel, by decide +kernel, by decide +kernel⟩, ⟨by decide, by decide⟩, rfl, rfl⟩⟩
abbrev jX8_stand : KJ := (yX8_stand, cX8_stand, wsX8_stand, 4, (some .int), { frames := 6, cells := 0, slots := 0, locals := 138 }, 0, 0)
set_option maxRecDepth 20000 in
theorem fX8_stand_10 : KF jX8_stand 10 7 0 := ⟨RX8, TX8, 8, rfl, by decide, (fun _ h => List.mem_cons_of_mem _ (List.mem_append_left _ (List.mem_append_left _ (List.mem_append_left _ (List.mem_append_right _ h))))), (List.mem_of_getElem? (i := 1) (by decide +kernel))⟩
set_option maxRecDepth 20000 in
theorem fX8_stand_19 : KF jX8_stand 19 7 1 := ⟨RX8, TX8, 8, rfl, by decide, (fun _ h => List.mem_cons_of_mem _ (List.mem_append_left _ (List.mem_append_left _ (List.mem_append_left _ (List.mem_append_right _ h))))), (List.mem_of_getElem? (i := 2) (by decide +kernel))⟩
set_option maxRecDepth 20000 in
theorem fX8_stand_47 : KF jX8_stand 47 7 5 := ⟨RX8, TX8, 8, rfl, by decide, (fun _ h => List.mem_cons_of_mem _ (List.mem_append_left _ (List.mem_append_left _ (List.mem_append_left _ (List.mem_append_right _ h))))), (List.mem_of_getElem? (i := 3) (by decide +kernel))⟩
set_option maxRecDepth 20000 in
theorem fX8_stand_197 : KF jX8_stand 197 2 0 := ⟨RX2, TX2, 8, rfl, by decide, (fun _ h => List.mem_cons_of_mem _ (List.mem_append_left _ (List.mem_append_left _ (List.mem_append_right _ h)))), (List.mem_of_getElem? (i := 4) (by decide +kernel))⟩
set_option maxRecDepth 20000 in
theorem fX8_stand_201 : KF jX8_stand 201 2 1 := ⟨RX2, TX2, 8, rfl, by decide, (fun _ h => List.mem_cons_of_mem _ (List.mem_append_left _ (List.mem_append_left _ (List.mem_append_right _ h)))), (List.mem_of_getElem? (i := 5) (by decide +kernel))⟩
set_option maxRecDepth 20000 in
theorem fX8_stand_204 : KF jX8_stand 204 2 2 := ⟨RX2, TX2, 8, rfl, by decide, (fun _ h => List.mem_cons_of_mem _ (List.mem_append_left _ (List.mem_append_left _ (List.mem_append_right _ h)))), (List.mem_of_getElem? (i := 7) (by decide +kernel))⟩
set_option maxRecDepth 20000 in
theorem vX8_stand_95 : KCV jX8_stand 95 jX1_isPerson 1 := ⟨gX8_stand_X1_isPerson, ⟨⟨_, rfl⟩, ⟨by decide +kernel, by decide +kernel, by decide +kernel⟩, ⟨by decide, by decide⟩, rfl, rfl⟩⟩
set_option maxRecDepth 20000 in
theorem vX8_stand_184 : KCS jX8_stand 184 jX8_isNoPart 1 := ⟨gX8_stand_X8_isNoPart, ⟨⟨_, rfl⟩, ⟨by decide +kernel, by decide +kernel, by decide +kernel⟩, ⟨by decide, by decide⟩, rfl, rfl⟩⟩
set_option maxRecDepth 20000 in
theorem vX8_stand_166 : KCV jX8_stand 166 jX4_isQueued 1 := ⟨gX8_stand_X4_isQueued, ⟨⟨_, rfl⟩, ⟨by decide +kernel, by decide +kernel, by decide +kernel⟩, ⟨by decide, by decide⟩, rfl, rfl⟩⟩
set_option maxRecDepth 20000 in
theorem vX8_stand_194 : KCV jX8_stand 194 jX2_seekStand 2 := ⟨gX8_stand_X2_seekStand, ⟨⟨_, rfl⟩, ⟨by decide +kernel, by decide +kernel, by decide +kernel⟩, ⟨by decide, by decide⟩, rfl, rfl⟩⟩
abbrev jX8_haste : KJ := (yX8_haste, cX8_haste, wsX8_haste, 3, (some .int), { frames := 6, cells := 0, slots := 0, locals := 137 }, 0, 0)
set_option maxRecDepth 20000 in
theorem fX8_haste_10 : KF jX8_haste 10 7 0 := ⟨RX8, TX8, 8, rfl, by decide, (fun _ h => List.mem_cons_of_mem _ (List.mem_append_left _ (List.mem_append_left _ (List.mem_append_left _ (List.mem_append_right _ h))))), (List.mem_of_getElem? (i := 1) (by decide +kernel))⟩
set_option maxRecDepth 20000 in
theorem fX8_haste_19 : KF jX8_haste 19 7 1 := ⟨RX8, TX8, 8, rfl, by decide, (fun _ h => List.mem_cons_of_mem _ (List.mem_append_left _ (List.mem_append_left _ (List.mem_append_left _ (List.mem_append_right _ h))))), (List.mem_of_getElem? (i := 2) (by decide +kernel))⟩
set_option maxRecDepth 20000 in
theorem fX8_haste_47 : KF jX8_haste 47 7 5 := ⟨RX8, TX8, 8, rfl, by decide, (fun _ h => List.mem_cons_of_mem _ (List.mem_append_left _ (List.mem_append_left _ (List.mem_append_left _ (List.mem_append_right _ h))))), (List.mem_of_getElem? (i := 3) (by decide +kernel))⟩
set_option maxRecDepth 20000 in
theorem fX8_haste_197 : KF jX8_haste 197 2 0 := ⟨RX2, TX2, 8, rfl, by decide, (fun _ h => List.mem_cons_of_mem _ (List.mem_append_left _ (List.mem_append_left _ (List.mem_append_right _ h)))), (List.mem_of_getElem? (i := 4) (by decide +kernel))⟩
set_option maxRecDepth 20000 in
theorem fX8_haste_201 : KF jX8_haste 201 2 1 := ⟨RX2, TX2, 8, rfl, by decide, (fun _ h => List.mem_cons_of_mem _ (List.mem_append_left _ (List.mem_append_left _ (List.mem_append_right _ h)))), (List.mem_of_getElem? (i := 5) (by decide +kernel))⟩
set_option maxRecDepth 20000 in
theorem fX8_haste_204 : KF jX8_haste 204 2 2 := ⟨RX2, TX2, 8, rfl, by decide, (fun _ h => List.mem_cons_of_mem _ (List.mem_append_left _ (List.mem_append_left _ (List.mem_append_right _ h)))), (List.mem_of_getElem? (i := 6) (by decide +kernel))⟩
set_option maxRecDepth 20000 in
theorem vX8_haste_95 : KCV jX8_haste 95 jX1_isPerson 1 := ⟨gX8_haste_X1_isPerson, ⟨⟨_, rfl⟩, ⟨by decide +kernel, by decide +kernel, by decide +kernel⟩, ⟨by decide, by decide⟩, rfl, rfl⟩⟩
set_option maxRecDepth 20000 in
theorem vX8_haste_184 : KCS jX8_haste 184 jX8_isNoPart 1 := ⟨gX8_haste_X8_isNoPart, ⟨⟨_, rfl⟩, ⟨by decide +kernel, by decide +kernel, by decide +kernel⟩, ⟨by decide, by decide⟩, rfl, rfl⟩⟩
set_option maxRecDepth 20000 in
theorem vX8_haste_166 : KCV jX8_haste 166 jX4_isQueued 1 := ⟨gX8_haste_X4_isQueued, ⟨⟨_, rfl⟩, ⟨by decide +kernel, by decide +kernel, by decide +kernel⟩, ⟨by decide, by decide⟩, rfl, rfl⟩⟩
set_option maxRecDepth 20000 in
theorem vX8_haste_207 : KCV jX8_haste 207 jX2_seekHaste 1 := ⟨gX8_haste_X2_seekHaste, ⟨⟨_, rfl⟩, ⟨by decide +kernel, by decide +kernel, by decide +kernel⟩, ⟨by decide, by decide⟩, rfl, rfl⟩⟩
abbrev jX8_clear : KJ := (yX8_clear, cX8_clear, wsX8_clear, 1, (some .int), { frames := 4, cells := 0, slots := 0, locals := 91 }, 0, 0)
set_option maxRecDepth 20000 in
theorem fX8_clear_47 : KF jX8_clear 47 7 5 := ⟨RX8, TX8, 8, rfl, by decide, (fun _ h => List.mem_cons_of_mem _ (List.mem_append_left _ (List.mem_append_left _ (List.mem_append_left _ (List.mem_append_right _ h))))), (List.mem_of_getElem? (i := 1) (by decide +kernel))⟩
set_option maxRecDepth 20000 in
theorem vX8_clear_210 : KCV jX8_clear 210 jX2_fewestPayments 0 := ⟨gX8_clear_X2_fewestPayments, ⟨⟨_, rfl⟩, ⟨by decide +kernel, by decide +kernel, by decide +kernel⟩, ⟨by decide, by decide⟩, rfl, rfl⟩⟩
abbrev jX8_miss : KJ := (yX8_miss, cX8_miss, wsX8_miss, 2, (some .int), { frames := 6, cells := 0, slots := 0, locals := 136 }, 0, 0)
set_option maxRecDepth 20000 in
theorem fX8_miss_47 : KF jX8_miss 47 7 5 := ⟨RX8, TX8, 8, rfl, by decide, (fun _ h => List.mem_cons_of_mem _ (List.mem_append_left _ (List.mem_append_left _ (List.mem_append_left _ (List.mem_append_right _ h))))), (List.mem_of_getElem? (i := 1) (by decide +kernel))⟩
set_option maxRecDepth 20000 in
theorem fX8_miss_197 : KF jX8_miss 197 2 0 := ⟨RX2, TX2, 8, rfl, by decide, (fun _ h => List.mem_cons_of_mem _ (List.mem_append_left _ (List.mem_append_left _ (List.mem_append_right _ h)))), (List.mem_of_getElem? (i := 2) (by decide +kernel))⟩
set_option maxRecDepth 20000 in
theorem fX8_miss_201 : KF jX8_miss 201 2 1 := ⟨RX2, TX2, 8, rfl, by decide, (fun _ h => List.mem_cons_of_mem _ (List.mem_append_left _ (List.mem_append_left _ (List.mem_append_right _ h)))), (List.mem_of_getElem? (i := 3) (by decide +kernel))⟩
set_option maxRecDepth 20000 in
theorem fX8_miss_204 : KF jX8_miss 204 2 2 := ⟨RX2, TX2, 8, rfl, by decide, (fun _ h => List.mem_cons_of_mem _ (List.mem_append_left _ (List.mem_append_left _ (List.mem_append_right _ h)))), (List.mem_of_getElem? (i := 5) (by decide +kernel))⟩
set_option maxRecDepth 20000 in
theorem vX8_miss_184 : KCS jX8_miss 184 jX8_isNoPart 1 := ⟨gX8_miss_X8_isNoPart, ⟨⟨_, rfl⟩, ⟨by decide +kernel, by decide +kernel, by decide +kernel⟩, ⟨by decide, by decide⟩, rfl, rfl⟩⟩
set_option maxRecDepth 20000 in
theorem vX8_miss_213 : KCV jX8_miss 213 jX2_seekMiss 0 := ⟨gX8_miss_X2_seekMiss, ⟨⟨_, rfl⟩, ⟨by decide +kernel, by decide +kernel, by decide +kernel⟩, ⟨by decide, by decide⟩, rfl, rfl⟩⟩
abbrev jX8_see : KJ := (yX8_see, cX8_see, wsX8_see, 4, (some .int), { frames := 2, cells := 0, slots := 0, locals := 45 }, 0, 0)
set_option maxRecDepth 20000 in
theorem fX8_see_10 : KF jX8_see 10 7 0 := ⟨RX8, TX8, 8, rfl, by decide, (fun _ h => List.mem_cons_of_mem _ (List.mem_append_left _ (List.mem_append_left _ (List.mem_append_right _ h)))), (List.mem_of_getElem? (i := 1) (by decide +kernel))⟩
set_option maxRecDepth 20000 in
theorem fX8_see_54 : KF jX8_see 54 7 6 := ⟨RX8, TX8, 8, rfl, by decide, (fun _ h => List.mem_cons_of_mem _ (List.mem_append_left _ (List.mem_append_left _ (List.mem_append_right _ h)))), (List.mem_of_getElem? (i := 3) (by decide +kernel))⟩
set_option maxRecDepth 20000 in
theorem fX8_see_93 : KF jX8_see 93 6 0 := ⟨RX7, TX7, 9, rfl, by decide, (fun _ h => List.mem_cons_of_mem _ (List.mem_append_left _ (List.mem_append_right _ h))), (List.mem_of_getElem? (i := 4) (by decide +kernel))⟩
set_option maxRecDepth 20000 in
theorem vX8_see_95 : KCV jX8_see 95 jX1_isPerson 1 := ⟨gX8_see_X1_isPerson, ⟨⟨_, rfl⟩, ⟨by decide +kernel, by decide +kernel, by decide +kernel⟩, ⟨by decide, by decide⟩, rfl, rfl⟩⟩
set_option maxRecDepth 20000 in
theorem vX8_see_217 : KCV jX8_see 217 jX7_add 3 := ⟨gX8_see_X7_add, ⟨⟨_, rfl⟩, ⟨by decide +kernel, by decide +kernel, by decide +kernel⟩, ⟨by decide, by decide⟩, rfl, rfl⟩⟩
abbrev jX8_forget : KJ := (yX8_forget, cX8_forget, wsX8_forget, 2, (some .int), { frames := 0, cells := 0, slots := 0, locals := 0 }, 0, 0)
set_option maxRecDepth 20000 in
theorem fX8_forget_54 : KF jX8_forget 54 7 6 := ⟨RX8, TX8, 8, rfl, by decide, (fun _ h => List.mem_cons_of_mem _ (List.mem_append_left _ (List.mem_append_right _ h))), (List.mem_of_getElem? (i := 1) (by decide +kernel))⟩
set_option maxRecDepth 20000 in
theorem fX8_forget_93 : KF jX8_forget 93 6 0 := ⟨RX7, TX7, 9, rfl, by decide, (fun _ h => List.mem_cons_of_mem _ (List.mem_append_right _ h)), (List.mem_of_getElem? (i := 2) (by decide +kernel))⟩
set_option maxRecDepth 20000 in
theorem pX8_forget_93 : KFp jX8_forget 93 6 0 .int := ⟨RX7, TX7, 9, rfl, by decide, (fun _ h => List.mem_cons_of_mem _ (List.mem_append_right _ h)), (List.mem_of_getElem? (i := 2) (by decide +kernel)), ⟨tyX7, tyX7_ok⟩, nmX7, by decide +kernel, Or.inl rfl⟩
abbrev jX8_orders : KJ := (yX8_orders, cX8_orders, wsX8_orders, 2, (some .int), { frames := 6, cells := 0, slots := 0, locals := 140 }, 0, 0)
set_option maxRecDepth 20000 in
theorem fX8_orders_54 : KF jX8_orders 54 7 6 := ⟨RX8, TX8, 8, rfl, by decide, (fun _ h => List.mem_cons_of_mem _ (List.mem_append_left _ (List.mem_append_left _ (List.mem_append_left _ (List.mem_append_right _ h))))), (List.mem_of_getElem? (i := 1) (by decide +kernel))⟩
set_option maxRecDepth 20000 in
theorem fX8_orders_19 : KF jX8_orders 19 7 1 := ⟨RX8, TX8, 8, rfl, by decide, (fun _ h => List.mem_cons_of_mem _ (List.mem_append_left _ (List.mem_append_left _ (List.mem_append_left _ (List.mem_append_right _ h))))), (List.mem_of_getElem? (i := 2) (by decide +kernel))⟩
set_option maxRecDepth 20000 in
theorem fX8_orders_137 : KF jX8_orders 137 3 4 := ⟨RX4, TX4, 6, rfl, by decide, (fun _ h => List.mem_cons_of_mem _ (List.mem_append_left _ (List.mem_append_left _ (List.mem_append_right _ h)))), (List.mem_of_getElem? (i := 3) (by decide +kernel))⟩
set_option maxRecDepth 20000 in
theorem fX8_orders_223 : KF jX8_orders 223 6 1 := ⟨RX7, TX7, 9, rfl, by decide, (fun _ h => List.mem_cons_of_mem _ (List.mem_append_left _ (List.mem_append_right _ h))), (List.mem_of_getElem? (i := 4) (by decide +kernel))⟩
set_option maxRecDepth 20000 in
theorem vX8_orders_220 : KCV jX8_orders 220 jX7_countOrders 1 := ⟨gX8_orders_X7_countOrders, ⟨⟨_, rfl⟩, ⟨by decide +kernel, by decide +kernel, by decide +kernel⟩, ⟨by decide, by decide⟩, rfl, rfl⟩⟩
set_option maxRecDepth 20000 in
theorem vX8_orders_103 : KCS jX8_orders 103 jX3_at 2 := ⟨gX8_orders_X3_at, ⟨⟨_, rfl⟩, ⟨by decide +kernel, by decide +kernel, by decide +kernel⟩, ⟨by decide, by decide⟩, rfl, rfl⟩⟩
abbrev jX8_kinds : KJ := (yX8_kinds, cX8_kinds, wsX8_kinds, 2, (some .int), { frames := 6, cells := 0, slots := 0, locals := 139 }, 0, 0)
set_option maxRecDepth 20000 in
theorem fX8_kinds_10 : KF jX8_kinds 10 7 0 := ⟨RX8, TX8, 8, rfl, by decide, (fun _ h => List.mem_cons_of_mem _ (List.mem_append_left _ (List.mem_append_left _ (List.mem_append_left _ (List.mem_append_right _ h))))), (List.mem_of_getElem? (i := 1) (by decide +kernel))⟩
set_option maxRecDepth 20000 in
theorem fX8_kinds_19 : KF jX8_kinds 19 7 1 := ⟨RX8, TX8, 8, rfl, by decide, (fun _ h => List.mem_cons_of_mem _ (List.mem_append_left _ (List.mem_append_left _ (List.mem_append_left _ (List.mem_append_right _ h))))), (List.mem_of_getElem? (i := 2) (by decide +kernel))⟩
set_option maxRecDepth 20000 in
theorem fX8_kinds_54 : KF jX8_kinds 54 7 6 := ⟨RX8, TX8, 8, rfl, by decide, (fun _ h => List.mem_cons_of_mem _ (List.mem_append_left _ (List.mem_append_left _ (List.mem_append_left _ (List.mem_append_right _ h))))), (List.mem_of_getElem? (i := 3) (by decide +kernel))⟩
set_option maxRecDepth 20000 in
theorem vX8_kinds_95 : KCV jX8_kinds 95 jX1_isPerson 1 := ⟨gX8_kinds_X1_isPerson, ⟨⟨_, rfl⟩, ⟨by decide +kernel, by decide +kernel, by decide +kernel⟩, ⟨by decide, by decide⟩, rfl, rfl⟩⟩
set_option maxRecDepth 20000 in
theorem vX8_kinds_166 : KCV jX8_kinds 166 jX4_isQueued 1 := ⟨gX8_kinds_X4_isQueued, ⟨⟨_, rfl⟩, ⟨by decide +kernel, by decide +kernel, by decide +kernel⟩, ⟨by decide, by decide⟩, rfl, rfl⟩⟩
set_option maxRecDepth 20000 in
theorem vX8_kinds_226 : KCV jX8_kinds 226 jX7_fittingKinds 1 := ⟨gX8_kinds_X7_fittingKinds, ⟨⟨_, rfl⟩, ⟨by decide +kernel, by decide +kernel, by decide +kernel⟩, ⟨by decide, by decide⟩, rfl, rfl⟩⟩
abbrev jX8_rain : KJ := (yX8_rain, cX8_rain, wsX8_rain, 5, (some .int), { frames := 6, cells := 0, slots := 0, locals := 143 }, 0, 0)
set_option maxRecDepth 20000 in
theorem fX8_rain_10 : KF jX8_rain 10 7 0 := ⟨RX8, TX8, 8, rfl, by decide, (fun _ h => List.mem_cons_of_mem _ (List.mem_append_left _ (List.mem_append_left _ (List.mem_append_left _ (List.mem_append_right _ h))))), (List.mem_of_getElem? (i := 1) (by decide +kernel))⟩
set_option maxRecDepth 20000 in
theorem fX8_rain_61 : KF jX8_rain 61 7 7 := ⟨RX8, TX8, 8, rfl, by decide, (fun _ h => List.mem_cons_of_mem _ (List.mem_append_left _ (List.mem_append_left _ (List.mem_append_left _ (List.mem_append_right _ h))))), (List.mem_of_getElem? (i := 2) (by decide +kernel))⟩
set_option maxRecDepth 20000 in
theorem fX8_rain_232 : KF jX8_rain 232 0 0 := ⟨RX0, TX0, 5, rfl, by decide, (fun _ h => List.mem_cons_of_mem _ (List.mem_append_left _ (List.mem_append_left _ (List.mem_append_right _ h)))), (List.mem_of_getElem? (i := 3) (by decide +kernel))⟩
set_option maxRecDepth 20000 in
theorem fX8_rain_235 : KF jX8_rain 235 0 1 := ⟨RX0, TX0, 5, rfl, by decide, (fun _ h => List.mem_cons_of_mem _ (List.mem_append_left _ (List.mem_append_left _ (List.mem_append_right _ h)))), (List.mem_of_getElem? (i := 4) (by decide +kernel))⟩
set_option maxRecDepth 20000 in
theorem vX8_rain_95 : KCV jX8_rain 95 jX1_isPerson 1 := ⟨gX8_rain_X1_isPerson, ⟨⟨_, rfl⟩, ⟨by decide +kernel, by decide +kernel, by decide +kernel⟩, ⟨by decide, by decide⟩, rfl, rfl⟩⟩
set_option maxRecDepth 20000 in
theorem vX8_rain_184 : KCS jX8_rain 184 jX8_isNoPart 1 := ⟨gX8_rain_X8_isNoPart, ⟨⟨_, rfl⟩, ⟨by decide +kernel, by decide +kernel, by decide +kernel⟩, ⟨by decide, by decide⟩, rfl, rfl⟩⟩
set_option maxRecDepth 20000 in
theorem vX8_rain_229 : KCV jX8_rain 229 jX0_seekServed 3 := ⟨gX8_rain_X0_seekServed, ⟨⟨_, rfl⟩, ⟨by decide +kernel, by decide +kernel, by decide +kernel⟩, ⟨by decide, by decide⟩, rfl, rfl⟩⟩
abbrev jX8_day : KJ := (yX8_day, cX8_day, wsX8_day, 5, (some .int), { frames := 6, cells := 0, slots := 0, locals := 136 }, 0, 0)
set_option maxRecDepth 20000 in
theorem fX8_day_61 : KF jX8_day 61 7 7 := ⟨RX8, TX8, 8, rfl, by decide, (fun _ h => List.mem_cons_of_mem _ (List.mem_append_left _ (List.mem_append_left _ (List.mem_append_left _ (List.mem_append_right _ h))))), (List.mem_of_getElem? (i := 1) (by decide +kernel))⟩
set_option maxRecDepth 20000 in
theorem fX8_day_137 : KF jX8_day 137 3 4 := ⟨RX4, TX4, 6, rfl, by decide, (fun _ h => List.mem_cons_of_mem _ (List.mem_append_left _ (List.mem_append_left _ (List.mem_append_right _ h)))), (List.mem_of_getElem? (i := 2) (by decide +kernel))⟩
set_option maxRecDepth 20000 in
theorem vX8_day_184 : KCS jX8_day 184 jX8_isNoPart 1 := ⟨gX8_day_X8_isNoPart, ⟨⟨_, rfl⟩, ⟨by decide +kernel, by decide +kernel, by decide +kernel⟩, ⟨by decide, by decide⟩, rfl, rfl⟩⟩
set_option maxRecDepth 20000 in
theorem vX8_day_238 : KCV jX8_day 238 jX0_sceneBehindDay 2 := ⟨gX8_day_X0_sceneBehindDay, ⟨⟨_, rfl⟩, ⟨by decide +kernel, by decide +kernel, by decide +kernel⟩, ⟨by decide, by decide⟩, rfl, rfl⟩⟩
set_option maxRecDepth 20000 in
theorem vX8_day_242 : KCV jX8_day 242 jX4_owedInAll 0 := ⟨gX8_day_X4_owedInAll, ⟨⟨_, rfl⟩, ⟨by decide +kernel, by decide +kernel, by decide +kernel⟩, ⟨by decide, by decide⟩, rfl, rfl⟩⟩
abbrev jX8_keep : KJ := (yX8_keep, cX8_keep, wsX8_keep, 1, (some .int), { frames := 4, cells := 0, slots := 0, locals := 85 }, 0, 0)
set_option maxRecDepth 20000 in
theorem fX8_keep_39 : KF jX8_keep 39 7 4 := ⟨RX8, TX8, 8, rfl, by decide, (fun _ h => List.mem_cons_of_mem _ (List.mem_append_left _ (List.mem_append_left _ (List.mem_append_right _ h)))), (List.mem_of_getElem? (i := 1) (by decide +kernel))⟩
set_option maxRecDepth 20000 in
theorem fX8_keep_94 : KF jX8_keep 94 5 0 := ⟨RX6, TX6, 2, rfl, by decide, (fun _ h => List.mem_cons_of_mem _ (List.mem_append_left _ (List.mem_append_right _ h))), (List.mem_of_getElem? (i := 2) (by decide +kernel))⟩
set_option maxRecDepth 20000 in
theorem fX8_keep_19 : KF jX8_keep 19 7 1 := ⟨RX8, TX8, 8, rfl, by decide, (fun _ h => List.mem_cons_of_mem _ (List.mem_append_left _ (List.mem_append_left _ (List.mem_append_right _ h)))), (List.mem_of_getElem? (i := 3) (by decide +kernel))⟩
set_option maxRecDepth 20000 in
theorem vX8_keep_151 : KCV jX8_keep 151 jX6_push 1 := ⟨gX8_keep_X6_push, ⟨⟨_, rfl⟩, ⟨by decide +kernel, by decide +kernel, by decide +kernel⟩, ⟨by decide, by decide⟩, rfl, rfl⟩⟩
abbrev jX8_back : KJ := (yX8_back, cX8_back, wsX8_back, 1, (some .int), { frames := 4, cells := 0, slots := 0, locals := 85 }, 0, 0)
set_option maxRecDepth 20000 in
theorem fX8_back_39 : KF jX8_back 39 7 4 := ⟨RX8, TX8, 8, rfl, by decide, (fun _ h => List.mem_cons_of_mem _ (List.mem_append_left _ (List.mem_append_left _ (List.mem_append_right _ h)))), (List.mem_of_getElem? (i := 1) (by decide +kernel))⟩
set_option maxRecDepth 20000 in
theorem fX8_back_94 : KF jX8_back 94 5 0 := ⟨RX6, TX6, 2, rfl, by decide, (fun _ h => List.mem_cons_of_mem _ (List.mem_append_left _ (List.mem_append_right _ h))), (List.mem_of_getElem? (i := 2) (by decide +kernel))⟩
set_option maxRecDepth 20000 in
theorem fX8_back_19 : KF jX8_back 19 7 1 := ⟨RX8, TX8, 8, rfl, by decide, (fun _ h => List.mem_cons_of_mem _ (List.mem_append_left _ (List.mem_append_left _ (List.mem_append_right _ h)))), (List.mem_of_getElem? (i := 3) (by decide +kernel))⟩
set_option maxRecDepth 20000 in
theorem fX8_back_35 : KF jX8_back 35 7 3 := ⟨RX8, TX8, 8, rfl, by decide, (fun _ h => List.mem_cons_of_mem _ (List.mem_append_left _ (List.mem_append_left _ (List.mem_append_right _ h)))), (List.mem_of_getElem? (i := 4) (by decide +kernel))⟩
set_option maxRecDepth 20000 in
theorem pX8_back_94 : KFp jX8_back 94 5 0 .int := ⟨RX6, TX6, 2, rfl, by decide, (fun _ h => List.mem_cons_of_mem _ (List.mem_append_left _ (List.mem_append_right _ h))), (List.mem_of_getElem? (i := 2) (by decide +kernel)), ⟨tyX6, tyX6_ok⟩, nmX6, by decide +kernel, Or.inl rfl⟩
set_option maxRecDepth 20000 in
theorem vX8_back_181 : KCV jX8_back 181 jX6_popInto 1 := ⟨gX8_back_X6_popInto, ⟨⟨_, rfl⟩, ⟨by decide +kernel, by decide +kernel, by decide +kernel⟩, ⟨by decide, by decide⟩, rfl, rfl⟩⟩
abbrev jX8_count : KJ := (yX8_count, cX8_count, wsX8_count, 2, (some .int), { frames := 2, cells := 0, slots := 0, locals := 45 }, 0, 0)
set_option maxRecDepth 20000 in
theorem fX8_count_10 : KF jX8_count 10 7 0 := ⟨RX8, TX8, 8, rfl, by decide, (fun _ h => List.mem_cons_of_mem _ (List.mem_append_left _ (List.mem_append_left _ (List.mem_append_left _ (List.mem_append_left _ (List.mem_append_left _ (List.mem_append_right _ h))))))), (List.mem_of_getElem? (i := 1) (by decide +kernel))⟩
set_option maxRecDepth 20000 in
theorem fX8_count_90 : KF jX8_count 90 1 3 := ⟨RX1, TX1, 5, rfl, by decide, (fun _ h => List.mem_cons_of_mem _ (List.mem_append_left _ (List.mem_append_left _ (List.mem_append_left _ (List.mem_append_left _ (List.mem_append_right _ h)))))), (List.mem_of_getElem? (i := 2) (by decide +kernel))⟩
set_option maxRecDepth 20000 in
theorem fX8_count_245 : KF jX8_count 245 1 4 := ⟨RX1, TX1, 5, rfl, by decide, (fun _ h => List.mem_cons_of_mem _ (List.mem_append_left _ (List.mem_append_left _ (List.mem_append_left _ (List.mem_append_left _ (List.mem_append_right _ h)))))), (List.mem_of_getElem? (i := 3) (by decide +kernel))⟩
set_option maxRecDepth 20000 in
theorem fX8_count_19 : KF jX8_count 19 7 1 := ⟨RX8, TX8, 8, rfl, by decide, (fun _ h => List.mem_cons_of_mem _ (List.mem_append_left _ (List.mem_append_left _ (List.mem_append_left _ (List.mem_append_left _ (List.mem_append_left _ (List.mem_append_right _ h))))))), (List.mem_of_getElem? (i := 4) (by decide +kernel))⟩
set_option maxRecDepth 20000 in
theorem fX8_count_148 : KF jX8_count 148 3 5 := ⟨RX4, TX4, 6, rfl, by decide, (fun _ h => List.mem_cons_of_mem _ (List.mem_append_left _ (List.mem_append_left _ (List.mem_append_left _ (List.mem_append_right _ h))))), (List.mem_of_getElem? (i := 5) (by decide +kernel))⟩
set_option maxRecDepth 20000 in
theorem fX8_count_137 : KF jX8_count 137 3 4 := ⟨RX4, TX4, 6, rfl, by decide, (fun _ h => List.mem_cons_of_mem _ (List.mem_append_left _ (List.mem_append_left _ (List.mem_append_left _ (List.mem_append_right _ h))))), (List.mem_of_getElem? (i := 6) (by decide +kernel))⟩
set_option maxRecDepth 20000 in
theorem fX8_count_54 : KF jX8_count 54 7 6 := ⟨RX8, TX8, 8, rfl, by decide, (fun _ h => List.mem_cons_of_mem _ (List.mem_append_left _ (List.mem_append_left _ (List.mem_append_left _ (List.mem_append_left _ (List.mem_append_left _ (List.mem_append_right _ h))))))), (List.mem_of_getElem? (i := 7) (by decide +kernel))⟩
set_option maxRecDepth 20000 in
theorem fX8_count_93 : KF jX8_count 93 6 0 := ⟨RX7, TX7, 9, rfl, by decide, (fun _ h => List.mem_cons_of_mem _ (List.mem_append_left _ (List.mem_append_left _ (List.mem_append_right _ h)))), (List.mem_of_getElem? (i := 8) (by decide +kernel))⟩
set_option maxRecDepth 20000 in
theorem fX8_count_35 : KF jX8_count 35 7 3 := ⟨RX8, TX8, 8, rfl, by decide, (fun _ h => List.mem_cons_of_mem _ (List.mem_append_left _ (List.mem_append_left _ (List.mem_append_left _ (List.mem_append_left _ (List.mem_append_left _ (List.mem_append_right _ h))))))), (List.mem_of_getElem? (i := 9) (by decide +kernel))⟩
set_option maxRecDepth 20000 in
theorem fX8_count_94 : KF jX8_count 94 5 0 := ⟨RX6, TX6, 2, rfl, by decide, (fun _ h => List.mem_cons_of_mem _ (List.mem_append_left _ (List.mem_append_right _ h))), (List.mem_of_getElem? (i := 10) (by decide +kernel))⟩
set_option maxRecDepth 20000 in
theorem fX8_count_39 : KF jX8_count 39 7 4 := ⟨RX8, TX8, 8, rfl, by decide, (fun _ h => List.mem_cons_of_mem _ (List.mem_append_left _ (List.mem_append_left _ (List.mem_append_left _ (List.mem_append_left _ (List.mem_append_left _ (List.mem_append_right _ h))))))), (List.mem_of_getElem? (i := 11) (by decide +kernel))⟩
set_option maxRecDepth 20000 in
theorem fX8_count_26 : KF jX8_count 26 7 2 := ⟨RX8, TX8, 8, rfl, by decide, (fun _ h => List.mem_cons_of_mem _ (List.mem_append_left _ (List.mem_append_left _ (List.mem_append_left _ (List.mem_append_left _ (List.mem_append_left _ (List.mem_append_right _ h))))))), (List.mem_of_getElem? (i := 12) (by decide +kernel))⟩
set_option maxRecDepth 20000 in
theorem fX8_count_86 : KF jX8_count 86 4 2 := ⟨RX5, TX5, 6, rfl, by decide, (fun _ h => List.mem_cons_of_mem _ (List.mem_append_right _ h)), (List.mem_of_getElem? (i := 13) (by decide +kernel))⟩
set_option maxRecDepth 20000 in
theorem vX8_count_248 : KCV jX8_count 248 jX4_numberOf 2 := ⟨gX8_count_X4_numberOf, ⟨⟨_, rfl⟩, ⟨by decide +kernel, by decide +kernel, by decide +kernel⟩, ⟨by decide, by decide⟩, rfl, rfl⟩⟩
set_option maxRecDepth 20000 in
theorem vX8_count_242 : KCV jX8_count 242 jX4_owedInAll 0 := ⟨gX8_count_X4_owedInAll, ⟨⟨_, rfl⟩, ⟨by decide +kernel, by decide +kernel, by decide +kernel⟩, ⟨by decide, by decide⟩, rfl, rfl⟩⟩
abbrev jX9_begins : KJ := (yX9_begins, cX9_begins, wsX9_begins, 2, none, { frames := 0, cells := 0, slots := 0, locals := 0 }, 0, 0)
set_option maxRecDepth 20000 in
theorem fX9_begins_16 : KF jX9_begins 16 8 3 := ⟨RX9, TX9, 17, rfl, by decide, (fun _ h => List.mem_cons_of_mem _ (List.mem_append_right _ h)), (List.mem_of_getElem? (i := 1) (by decide +kernel))⟩
set_option maxRecDepth 20000 in
theorem fX9_begins_19 : KF jX9_begins 19 8 4 := ⟨RX9, TX9, 17, rfl, by decide, (fun _ h => List.mem_cons_of_mem _ (List.mem_append_right _ h)), (List.mem_of_getElem? (i := 2) (by decide +kernel))⟩
abbrev jX9_stands : KJ := (yX9_stands, cX9_stands, wsX9_stands, 6, none, { frames := 0, cells := 0, slots := 0, locals := 0 }, 0, 0)
set_option maxRecDepth 20000 in
theorem fX9_stands_16 : KF jX9_stands 16 8 3 := ⟨RX9, TX9, 17, rfl, by decide, (fun _ h => List.mem_cons_of_mem _ (List.mem_append_right _ h)), (List.mem_of_getElem? (i := 1) (by decide +kernel))⟩
set_option maxRecDepth 20000 in
theorem fX9_stands_19 : KF jX9_stands 19 8 4 := ⟨RX9, TX9, 17, rfl, by decide, (fun _ h => List.mem_cons_of_mem _ (List.mem_append_right _ h)), (List.mem_of_getElem? (i := 2) (by decide +kernel))⟩
abbrev jX9_lays : KJ := (yX9_lays, cX9_lays, wsX9_lays, 2, none, { frames := 0, cells := 0, slots := 0, locals := 0 }, 0, 0)
set_option maxRecDepth 20000 in
theorem fX9_lays_13 : KF jX9_lays 13 8 2 := ⟨RX9, TX9, 17, rfl, by decide, (fun _ h => List.mem_cons_of_mem _ (List.mem_append_right _ h)), (List.mem_of_getElem? (i := 1) (by decide +kernel))⟩
set_option maxRecDepth 20000 in
theorem fX9_lays_16 : KF jX9_lays 16 8 3 := ⟨RX9, TX9, 17, rfl, by decide, (fun _ h => List.mem_cons_of_mem _ (List.mem_append_right _ h)), (List.mem_of_getElem? (i := 2) (by decide +kernel))⟩
set_option maxRecDepth 20000 in
theorem fX9_lays_22 : KF jX9_lays 22 8 5 := ⟨RX9, TX9, 17, rfl, by decide, (fun _ h => List.mem_cons_of_mem _ (List.mem_append_right _ h)), (List.mem_of_getElem? (i := 3) (by decide +kernel))⟩
set_option maxRecDepth 20000 in
theorem fX9_lays_19 : KF jX9_lays 19 8 4 := ⟨RX9, TX9, 17, rfl, by decide, (fun _ h => List.mem_cons_of_mem _ (List.mem_append_right _ h)), (List.mem_of_getElem? (i := 4) (by decide +kernel))⟩
set_option maxRecDepth 20000 in
theorem pX9_lays_93 : KFp jX9_lays 93 8 7 .int := ⟨RX9, TX9, 17, rfl, by decide, (fun _ h => List.mem_cons_of_mem _ (List.mem_append_right _ h)), (List.mem_of_getElem? (i := 5) (by decide +kernel)), ⟨tyX9, tyX9_ok⟩, nmX9, by decide +kernel, Or.inl rfl⟩
set_option maxRecDepth 20000 in
theorem pX9_lays_96 : KFp jX9_lays 96 8 9 .int := ⟨RX9, TX9, 17, rfl, by decide, (fun _ h => List.mem_cons_of_mem _ (List.mem_append_right _ h)), (List.mem_of_getElem? (i := 6) (by decide +kernel)), ⟨tyX9, tyX9_ok⟩, nmX9, by decide +kernel, Or.inl rfl⟩
set_option maxRecDepth 20000 in
theorem pX9_lays_99 : KFp jX9_lays 99 8 11 .int := ⟨RX9, TX9, 17, rfl, by decide, (fun _ h => List.mem_cons_of_mem _ (List.mem_append_right _ h)), (List.mem_of_getElem? (i := 7) (by decide +kernel)), ⟨tyX9, tyX9_ok⟩, nmX9, by decide +kernel, Or.inl rfl⟩
abbrev jX9_init : KJ := (yX9_init, cX9_init, wsX9_init, 1, none, { frames := 1, cells := 12, slots := 1342, locals := 25 }, 12, 1342)
set_option maxRecDepth 20000 in
theorem pX9_init_7 : KFp jX9_init 7 8 0 (.array .int) := ⟨RX9, TX9, 17, rfl, by decide, (fun _ h => List.mem_cons_of_mem _ (List.mem_append_right _ h)), (List.mem_of_getElem? (i := 5) (by decide +kernel)), ⟨tyX9, tyX9_ok⟩, nmX9, by decide +kernel, Or.inr ⟨rfl, rfl, rfl⟩⟩
set_option maxRecDepth 20000 in
theorem pX9_init_13 : KFp jX9_init 13 8 2 (.array .int) := ⟨RX9, TX9, 17, rfl, by decide, (fun _ h => List.mem_cons_of_mem _ (List.mem_append_right _ h)), (List.mem_of_getElem? (i := 6) (by decide +kernel)), ⟨tyX9, tyX9_ok⟩, nmX9, by decide +kernel, Or.inr ⟨rfl, rfl, rfl⟩⟩
set_option maxRecDepth 20000 in
theorem pX9_init_16 : KFp jX9_init 16 8 3 (.array .int) := ⟨RX9, TX9, 17, rfl, by decide, (fun _ h => List.mem_cons_of_mem _ (List.mem_append_right _ h)), (List.mem_of_getElem? (i := 7) (by decide +kernel)), ⟨tyX9, tyX9_ok⟩, nmX9, by decide +kernel, Or.inr ⟨rfl, rfl, rfl⟩⟩
set_option maxRecDepth 20000 in
theorem pX9_init_19 : KFp jX9_init 19 8 4 (.array .int) := ⟨RX9, TX9, 17, rfl, by decide, (fun _ h => List.mem_cons_of_mem _ (List.mem_append_right _ h)), (List.mem_of_getElem? (i := 8) (by decide +kernel)), ⟨tyX9, tyX9_ok⟩, nmX9, by decide +kernel, Or.inr ⟨rfl, rfl, rfl⟩⟩
set_option maxRecDepth 20000 in
theorem pX9_init_22 : KFp jX9_init 22 8 5 (.array .int) := ⟨RX9, TX9, 17, rfl, by decide, (fun _ h => List.mem_cons_of_mem _ (List.mem_append_right _ h)), (List.mem_of_getElem? (i := 9) (by decide +kernel)), ⟨tyX9, tyX9_ok⟩, nmX9, by decide +kernel, Or.inr ⟨rfl, rfl, rfl⟩⟩
set_option maxRecDepth 20000 in
theorem pX9_init_25 : KFp jX9_init 25 8 6 (.array .int) := ⟨RX9, TX9, 17, rfl, by decide, (fun _ h => List.mem_cons_of_mem _ (List.mem_append_right _ h)), (List.mem_of_getElem? (i := 10) (by decide +kernel)), ⟨tyX9, tyX9_ok⟩, nmX9, by decide +kernel, Or.inr ⟨rfl, rfl, rfl⟩⟩
set_option maxRecDepth 20000 in
theorem pX9_init_28 : KFp jX9_init 28 8 8 (.array .int) := ⟨RX9, TX9, 17, rfl, by decide, (fun _ h => List.mem_cons_of_mem _ (List.mem_append_right _ h)), (List.mem_of_getElem? (i := 11) (by decide +kernel)), ⟨tyX9, tyX9_ok⟩, nmX9, by decide +kernel, Or.inr ⟨rfl, rfl, rfl⟩⟩
set_option maxRecDepth 20000 in
theorem pX9_init_31 : KFp jX9_init 31 8 10 (.array .int) := ⟨RX9, TX9, 17, rfl, by decide, (fun _ h => List.mem_cons_of_mem _ (List.mem_append_right _ h)), (List.mem_of_getElem? (i := 12) (by decide +kernel)), ⟨tyX9, tyX9_ok⟩, nmX9, by decide +kernel, Or.inr ⟨rfl, rfl, rfl⟩⟩
set_option maxRecDepth 20000 in
theorem pX9_init_34 : KFp jX9_init 34 8 13 (.array .int) := ⟨RX9, TX9, 17, rfl, by decide, (fun _ h => List.mem_cons_of_mem _ (List.mem_append_right _ h)), (List.mem_of_getElem? (i := 13) (by decide +kernel)), ⟨tyX9, tyX9_ok⟩, nmX9, by decide +kernel, Or.inr ⟨rfl, rfl, rfl⟩⟩
set_option maxRecDepth 20000 in
theorem pX9_init_37 : KFp jX9_init 37 8 14 (.array .int) := ⟨RX9, TX9, 17, rfl, by decide, (fun _ h => List.mem_cons_of_mem _ (List.mem_append_right _ h)), (List.mem_of_getElem? (i := 14) (by decide +kernel)), ⟨tyX9, tyX9_ok⟩, nmX9, by decide +kernel, Or.inr ⟨rfl, rfl, rfl⟩⟩
set_option maxRecDepth 20000 in
theorem pX9_init_40 : KFp jX9_init 40 8 15 (.array .int) := ⟨RX9, TX9, 17, rfl, by decide, (fun _ h => List.mem_cons_of_mem _ (List.mem_append_right _ h)), (List.mem_of_getElem? (i := 15) (by decide +kernel)), ⟨tyX9, tyX9_ok⟩, nmX9, by decide +kernel, Or.inr ⟨rfl, rfl, rfl⟩⟩
set_option maxRecDepth 20000 in
theorem pX9_init_43 : KFp jX9_init 43 8 16 (.array .int) := ⟨RX9, TX9, 17, rfl, by decide, (fun _ h => List.mem_cons_of_mem _ (List.mem_append_right _ h)), (List.mem_of_getElem? (i := 16) (by decide +kernel)), ⟨tyX9, tyX9_ok⟩, nmX9, by decide +kernel, Or.inr ⟨rfl, rfl, rfl⟩⟩
set_option maxRecDepth 20000 in
theorem fX9_init_16 : KF jX9_init 16 8 3 := ⟨RX9, TX9, 17, rfl, by decide, (fun _ h => List.mem_cons_of_mem _ (List.mem_append_right _ h)), (List.mem_of_getElem? (i := 7) (by decide +kernel))⟩
set_option maxRecDepth 20000 in
theorem fX9_init_19 : KF jX9_init 19 8 4 := ⟨RX9, TX9, 17, rfl, by decide, (fun _ h => List.mem_cons_of_mem _ (List.mem_append_right _ h)), (List.mem_of_getElem? (i := 8) (by decide +kernel))⟩
set_option maxRecDepth 20000 in
theorem oX9_init_1 : Cond.methodLink jX9_init.1.cls 1 objectInit ∈ jX9_init.2.2.1 ∧ Cond.instanceMethod objectInit ∈ jX9_init.2.2.1 ∧ Cond.code objectInit ⟨#[0xb1]⟩ 1 none ∈ jX9_init.2.2.1 := ⟨(List.mem_of_getElem? (i := 1) (by decide +kernel)), (List.mem_of_getElem? (i := 2) (by decide +kernel)), (List.mem_of_getElem? (i := 3) (by decide +kernel))⟩
set_option maxRecDepth 20000 in
theorem vX9_init_46 : KCV jX9_init 46 jX9_begins 0 := ⟨gX9_init_X9_begins, ⟨⟨_, rfl⟩, ⟨by decide +kernel, by decide +kernel, by decide +kernel⟩, ⟨by decide, by decide⟩, rfl, rfl⟩⟩
set_option maxRecDepth 20000 in
theorem vX9_init_49 : KCV jX9_init 49 jX9_stands 4 := ⟨gX9_init_X9_stands, ⟨⟨_, rfl⟩, ⟨by decide +kernel, by decide +kernel, by decide +kernel⟩, ⟨by decide, by decide⟩, rfl, rfl⟩⟩
set_option maxRecDepth 20000 in
theorem vX9_init_53 : KCV jX9_init 53 jX9_lays 0 := ⟨gX9_init_X9_lays, ⟨⟨_, rfl⟩, ⟨by decide +kernel, by decide +kernel, by decide +kernel⟩, ⟨by decide, by decide⟩, rfl, rfl⟩⟩
abbrev jX9_in : KJ := (yX9_in, cX9_in, wsX9_in, 3, (some .boolean), { frames := 0, cells := 0, slots := 0, locals := 0 }, 0, 0)
abbrev jX9_isOne : KJ := (yX9_isOne, cX9_isOne, wsX9_isOne, 2, (some .boolean), { frames := 1, cells := 0, slots := 0, locals := 22 }, 0, 0)
set_option maxRecDepth 20000 in
theorem fX9_isOne_13 : KF jX9_isOne 13 8 2 := ⟨RX9, TX9, 17, rfl, by decide, (fun _ h => List.mem_cons_of_mem _ (List.mem_append_right _ h)), (List.mem_of_getElem? (i := 1) (by decide +kernel))⟩
set_option maxRecDepth 20000 in
theorem vX9_isOne_56 : KCS jX9_isOne 56 jX9_in 3 := ⟨gX9_isOne_X9_in, ⟨⟨_, rfl⟩, ⟨by decide +kernel, by decide +kernel, by decide +kernel⟩, ⟨by decide, by decide⟩, rfl, rfl⟩⟩
abbrev jX9_write : KJ := (yX9_write, cX9_write, wsX9_write, 2, (some .int), { frames := 1, cells := 0, slots := 0, locals := 22 }, 0, 0)
set_option maxRecDepth 20000 in
theorem fX9_write_60 : KF jX9_write 60 8 1 := ⟨RX9, TX9, 17, rfl, by decide, (fun _ h => List.mem_cons_of_mem _ (List.mem_append_right _ h)), (List.mem_of_getElem? (i := 1) (by decide +kernel))⟩
set_option maxRecDepth 20000 in
theorem fX9_write_7 : KF jX9_write 7 8 0 := ⟨RX9, TX9, 17, rfl, by decide, (fun _ h => List.mem_cons_of_mem _ (List.mem_append_right _ h)), (List.mem_of_getElem? (i := 2) (by decide +kernel))⟩
set_option maxRecDepth 20000 in
theorem pX9_write_60 : KFp jX9_write 60 8 1 .int := ⟨RX9, TX9, 17, rfl, by decide, (fun _ h => List.mem_cons_of_mem _ (List.mem_append_right _ h)), (List.mem_of_getElem? (i := 1) (by decide +kernel)), ⟨tyX9, tyX9_ok⟩, nmX9, by decide +kernel, Or.inl rfl⟩
set_option maxRecDepth 20000 in
theorem vX9_write_56 : KCS jX9_write 56 jX9_in 3 := ⟨gX9_write_X9_in, ⟨⟨_, rfl⟩, ⟨by decide +kernel, by decide +kernel, by decide +kernel⟩, ⟨by decide, by decide⟩, rfl, rfl⟩⟩
abbrev jX9_wipe : KJ := (yX9_wipe, cX9_wipe, wsX9_wipe, 2, (some .int), { frames := 0, cells := 0, slots := 0, locals := 0 }, 0, 0)
set_option maxRecDepth 20000 in
theorem fX9_wipe_60 : KF jX9_wipe 60 8 1 := ⟨RX9, TX9, 17, rfl, by decide, (fun _ h => List.mem_cons_of_mem _ (List.mem_append_right _ h)), (List.mem_of_getElem? (i := 1) (by decide +kernel))⟩
set_option maxRecDepth 20000 in
theorem pX9_wipe_60 : KFp jX9_wipe 60 8 1 .int := ⟨RX9, TX9, 17, rfl, by decide, (fun _ h => List.mem_cons_of_mem _ (List.mem_append_right _ h)), (List.mem_of_getElem? (i := 1) (by decide +kernel)), ⟨tyX9, tyX9_ok⟩, nmX9, by decide +kernel, Or.inl rfl⟩
abbrev jX9_letterAt : KJ := (yX9_letterAt, cX9_letterAt, wsX9_letterAt, 2, (some .int), { frames := 0, cells := 0, slots := 0, locals := 0 }, 0, 0)
set_option maxRecDepth 20000 in
theorem fX9_letterAt_60 : KF jX9_letterAt 60 8 1 := ⟨RX9, TX9, 17, rfl, by decide, (fun _ h => List.mem_cons_of_mem _ (List.mem_append_right _ h)), (List.mem_of_getElem? (i := 1) (by decide +kernel))⟩
set_option maxRecDepth 20000 in
theorem fX9_letterAt_7 : KF jX9_letterAt 7 8 0 := ⟨RX9, TX9, 17, rfl, by decide, (fun _ h => List.mem_cons_of_mem _ (List.mem_append_right _ h)), (List.mem_of_getElem? (i := 2) (by decide +kernel))⟩
abbrev jX9_isFigure : KJ := (yX9_isFigure, cX9_isFigure, wsX9_isFigure, 1, (some .boolean), { frames := 1, cells := 0, slots := 0, locals := 22 }, 0, 0)
set_option maxRecDepth 20000 in
theorem vX9_isFigure_56 : KCS jX9_isFigure 56 jX9_in 3 := ⟨gX9_isFigure_X9_in, ⟨⟨_, rfl⟩, ⟨by decide +kernel, by decide +kernel, by decide +kernel⟩, ⟨by decide, by decide⟩, rfl, rfl⟩⟩
abbrev jX9_number : KJ := (yX9_number, cX9_number, wsX9_number, 6, (some .int), { frames := 2, cells := 0, slots := 0, locals := 42 }, 0, 0)
set_option maxRecDepth 20000 in
theorem fX9_number_64 : KF jX9_number 64 8 12 := ⟨RX9, TX9, 17, rfl, by decide, (fun _ h => List.mem_cons_of_mem _ (List.mem_append_right _ h)), (List.mem_of_getElem? (i := 1) (by decide +kernel))⟩
set_option maxRecDepth 20000 in
theorem pX9_number_64 : KFp jX9_number 64 8 12 .int := ⟨RX9, TX9, 17, rfl, by decide, (fun _ h => List.mem_cons_of_mem _ (List.mem_append_right _ h)), (List.mem_of_getElem? (i := 1) (by decide +kernel)), ⟨tyX9, tyX9_ok⟩, nmX9, by decide +kernel, Or.inl rfl⟩
set_option maxRecDepth 20000 in
theorem vX9_number_67 : KCV jX9_number 67 jX9_letterAt 1 := ⟨gX9_number_X9_letterAt, ⟨⟨_, rfl⟩, ⟨by decide +kernel, by decide +kernel, by decide +kernel⟩, ⟨by decide, by decide⟩, rfl, rfl⟩⟩
set_option maxRecDepth 20000 in
theorem vX9_number_71 : KCS jX9_number 71 jX9_isFigure 1 := ⟨gX9_number_X9_isFigure, ⟨⟨_, rfl⟩, ⟨by decide +kernel, by decide +kernel, by decide +kernel⟩, ⟨by decide, by decide⟩, rfl, rfl⟩⟩
set_option maxRecDepth 20000 in
theorem vX9_number_56 : KCS jX9_number 56 jX9_in 3 := ⟨gX9_number_X9_in, ⟨⟨_, rfl⟩, ⟨by decide +kernel, by decide +kernel, by decide +kernel⟩, ⟨by decide, by decide⟩, rfl, rfl⟩⟩
abbrev jX9_readsPerson : KJ := (yX9_readsPerson, cX9_readsPerson, wsX9_readsPerson, 5, (some .boolean), { frames := 3, cells := 0, slots := 0, locals := 67 }, 0, 0)
set_option maxRecDepth 20000 in
theorem fX9_readsPerson_16 : KF jX9_readsPerson 16 8 3 := ⟨RX9, TX9, 17, rfl, by decide, (fun _ h => List.mem_cons_of_mem _ (List.mem_append_right _ h)), (List.mem_of_getElem? (i := 1) (by decide +kernel))⟩
set_option maxRecDepth 20000 in
theorem vX9_readsPerson_75 : KCV jX9_readsPerson 75 jX9_number 3 := ⟨gX9_readsPerson_X9_number, ⟨⟨_, rfl⟩, ⟨by decide +kernel, by decide +kernel, by decide +kernel⟩, ⟨by decide, by decide⟩, rfl, rfl⟩⟩
set_option maxRecDepth 20000 in
theorem vX9_readsPerson_49 : KCV jX9_readsPerson 49 jX9_stands 4 := ⟨gX9_readsPerson_X9_stands, ⟨⟨_, rfl⟩, ⟨by decide +kernel, by decide +kernel, by decide +kernel⟩, ⟨by decide, by decide⟩, rfl, rfl⟩⟩
abbrev jX9_readsDebt : KJ := (yX9_readsDebt, cX9_readsDebt, wsX9_readsDebt, 4, (some .boolean), { frames := 3, cells := 0, slots := 0, locals := 67 }, 0, 0)
set_option maxRecDepth 20000 in
theorem fX9_readsDebt_16 : KF jX9_readsDebt 16 8 3 := ⟨RX9, TX9, 17, rfl, by decide, (fun _ h => List.mem_cons_of_mem _ (List.mem_append_right _ h)), (List.mem_of_getElem? (i := 1) (by decide +kernel))⟩
set_option maxRecDepth 20000 in
theorem fX9_readsDebt_19 : KF jX9_readsDebt 19 8 4 := ⟨RX9, TX9, 17, rfl, by decide, (fun _ h => List.mem_cons_of_mem _ (List.mem_append_right _ h)), (List.mem_of_getElem? (i := 2) (by decide +kernel))⟩
set_option maxRecDepth 20000 in
theorem vX9_readsDebt_75 : KCV jX9_readsDebt 75 jX9_number 3 := ⟨gX9_readsDebt_X9_number, ⟨⟨_, rfl⟩, ⟨by decide +kernel, by decide +kernel, by decide +kernel⟩, ⟨by decide, by decide⟩, rfl, rfl⟩⟩
abbrev jX9_readsEach : KJ := (yX9_readsEach, cX9_readsEach, wsX9_readsEach, 2, (some .boolean), { frames := 3, cells := 0, slots := 0, locals := 67 }, 0, 0)
set_option maxRecDepth 20000 in
theorem fX9_readsEach_16 : KF jX9_readsEach 16 8 3 := ⟨RX9, TX9, 17, rfl, by decide, (fun _ h => List.mem_cons_of_mem _ (List.mem_append_right _ h)), (List.mem_of_getElem? (i := 1) (by decide +kernel))⟩
set_option maxRecDepth 20000 in
theorem vX9_readsEach_75 : KCV jX9_readsEach 75 jX9_number 3 := ⟨gX9_readsEach_X9_number, ⟨⟨_, rfl⟩, ⟨by decide +kernel, by decide +kernel, by decide +kernel⟩, ⟨by decide, by decide⟩, rfl, rfl⟩⟩
abbrev jX9_readsAll : KJ := (yX9_readsAll, cX9_readsAll, wsX9_readsAll, 4, (some .int), { frames := 4, cells := 0, slots := 0, locals := 91 }, 0, 0)
set_option maxRecDepth 20000 in
theorem pX9_readsAll_64 : KFp jX9_readsAll 64 8 12 .int := ⟨RX9, TX9, 17, rfl, by decide, (fun _ h => List.mem_cons_of_mem _ (List.mem_append_right _ h)), (List.mem_of_getElem? (i := 1) (by decide +kernel)), ⟨tyX9, tyX9_ok⟩, nmX9, by decide +kernel, Or.inl rfl⟩
set_option maxRecDepth 20000 in
theorem fX9_readsAll_64 : KF jX9_readsAll 64 8 12 := ⟨RX9, TX9, 17, rfl, by decide, (fun _ h => List.mem_cons_of_mem _ (List.mem_append_right _ h)), (List.mem_of_getElem? (i := 1) (by decide +kernel))⟩
set_option maxRecDepth 20000 in
theorem fX9_readsAll_60 : KF jX9_readsAll 60 8 1 := ⟨RX9, TX9, 17, rfl, by decide, (fun _ h => List.mem_cons_of_mem _ (List.mem_append_right _ h)), (List.mem_of_getElem? (i := 2) (by decide +kernel))⟩
set_option maxRecDepth 20000 in
theorem fX9_readsAll_7 : KF jX9_readsAll 7 8 0 := ⟨RX9, TX9, 17, rfl, by decide, (fun _ h => List.mem_cons_of_mem _ (List.mem_append_right _ h)), (List.mem_of_getElem? (i := 3) (by decide +kernel))⟩
set_option maxRecDepth 20000 in
theorem vX9_readsAll_46 : KCV jX9_readsAll 46 jX9_begins 0 := ⟨gX9_readsAll_X9_begins, ⟨⟨_, rfl⟩, ⟨by decide +kernel, by decide +kernel, by decide +kernel⟩, ⟨by decide, by decide⟩, rfl, rfl⟩⟩
set_option maxRecDepth 20000 in
theorem vX9_readsAll_79 : KCV jX9_readsAll 79 jX9_readsPerson 0 := ⟨gX9_readsAll_X9_readsPerson, ⟨⟨_, rfl⟩, ⟨by decide +kernel, by decide +kernel, by decide +kernel⟩, ⟨by decide, by decide⟩, rfl, rfl⟩⟩
set_option maxRecDepth 20000 in
theorem vX9_readsAll_83 : KCV jX9_readsAll 83 jX9_readsEach 0 := ⟨gX9_readsAll_X9_readsEach, ⟨⟨_, rfl⟩, ⟨by decide +kernel, by decide +kernel, by decide +kernel⟩, ⟨by decide, by decide⟩, rfl, rfl⟩⟩
set_option maxRecDepth 20000 in
theorem vX9_readsAll_86 : KCV jX9_readsAll 86 jX9_readsDebt 0 := ⟨gX9_readsAll_X9_readsDebt, ⟨⟨_, rfl⟩, ⟨by decide +kernel, by decide +kernel, by decide +kernel⟩, ⟨by decide, by decide⟩, rfl, rfl⟩⟩
abbrev jX9_fault : KJ := (yX9_fault, cX9_fault, wsX9_fault, 1, (some .int), { frames := 5, cells := 0, slots := 0, locals := 114 }, 0, 0)
set_option maxRecDepth 20000 in
theorem vX9_fault_89 : KCV jX9_fault 89 jX9_readsAll 0 := ⟨gX9_fault_X9_readsAll, ⟨⟨_, rfl⟩, ⟨by decide +kernel, by decide +kernel, by decide +kernel⟩, ⟨by decide, by decide⟩, rfl, rfl⟩⟩
abbrev jX9_lay : KJ := (yX9_lay, cX9_lay, wsX9_lay, 1, (some .int), { frames := 5, cells := 0, slots := 0, locals := 114 }, 0, 0)
set_option maxRecDepth 20000 in
theorem fX9_lay_16 : KF jX9_lay 16 8 3 := ⟨RX9, TX9, 17, rfl, by decide, (fun _ h => List.mem_cons_of_mem _ (List.mem_append_right _ h)), (List.mem_of_getElem? (i := 1) (by decide +kernel))⟩
set_option maxRecDepth 20000 in
theorem fX9_lay_13 : KF jX9_lay 13 8 2 := ⟨RX9, TX9, 17, rfl, by decide, (fun _ h => List.mem_cons_of_mem _ (List.mem_append_right _ h)), (List.mem_of_getElem? (i := 2) (by decide +kernel))⟩
set_option maxRecDepth 20000 in
theorem vX9_lay_89 : KCV jX9_lay 89 jX9_readsAll 0 := ⟨gX9_lay_X9_readsAll, ⟨⟨_, rfl⟩, ⟨by decide +kernel, by decide +kernel, by decide +kernel⟩, ⟨by decide, by decide⟩, rfl, rfl⟩⟩
set_option maxRecDepth 20000 in
theorem vX9_lay_53 : KCV jX9_lay 53 jX9_lays 0 := ⟨gX9_lay_X9_lays, ⟨⟨_, rfl⟩, ⟨by decide +kernel, by decide +kernel, by decide +kernel⟩, ⟨by decide, by decide⟩, rfl, rfl⟩⟩
abbrev jX9_placeOf : KJ := (yX9_placeOf, cX9_placeOf, wsX9_placeOf, 4, (some .int), { frames := 0, cells := 0, slots := 0, locals := 0 }, 0, 0)
set_option maxRecDepth 20000 in
theorem fX9_placeOf_22 : KF jX9_placeOf 22 8 5 := ⟨RX9, TX9, 17, rfl, by decide, (fun _ h => List.mem_cons_of_mem _ (List.mem_append_right _ h)), (List.mem_of_getElem? (i := 1) (by decide +kernel))⟩
abbrev jX9_due : KJ := (yX9_due, cX9_due, wsX9_due, 4, (some .int), { frames := 0, cells := 0, slots := 0, locals := 0 }, 0, 0)
set_option maxRecDepth 20000 in
theorem fX9_due_22 : KF jX9_due 22 8 5 := ⟨RX9, TX9, 17, rfl, by decide, (fun _ h => List.mem_cons_of_mem _ (List.mem_append_right _ h)), (List.mem_of_getElem? (i := 1) (by decide +kernel))⟩
abbrev jX9_person : KJ := (yX9_person, cX9_person, wsX9_person, 3, (some .int), { frames := 2, cells := 0, slots := 0, locals := 43 }, 0, 0)
set_option maxRecDepth 20000 in
theorem fX9_person_13 : KF jX9_person 13 8 2 := ⟨RX9, TX9, 17, rfl, by decide, (fun _ h => List.mem_cons_of_mem _ (List.mem_append_right _ h)), (List.mem_of_getElem? (i := 1) (by decide +kernel))⟩
set_option maxRecDepth 20000 in
theorem fX9_person_22 : KF jX9_person 22 8 5 := ⟨RX9, TX9, 17, rfl, by decide, (fun _ h => List.mem_cons_of_mem _ (List.mem_append_right _ h)), (List.mem_of_getElem? (i := 2) (by decide +kernel))⟩
set_option maxRecDepth 20000 in
theorem vX9_person_102 : KCV jX9_person 102 jX9_isOne 1 := ⟨gX9_person_X9_isOne, ⟨⟨_, rfl⟩, ⟨by decide +kernel, by decide +kernel, by decide +kernel⟩, ⟨by decide, by decide⟩, rfl, rfl⟩⟩
set_option maxRecDepth 20000 in
theorem vX9_person_105 : KCV jX9_person 105 jX9_placeOf 1 := ⟨gX9_person_X9_placeOf, ⟨⟨_, rfl⟩, ⟨by decide +kernel, by decide +kernel, by decide +kernel⟩, ⟨by decide, by decide⟩, rfl, rfl⟩⟩
set_option maxRecDepth 20000 in
theorem vX9_person_108 : KCV jX9_person 108 jX9_due 1 := ⟨gX9_person_X9_due, ⟨⟨_, rfl⟩, ⟨by decide +kernel, by decide +kernel, by decide +kernel⟩, ⟨by decide, by decide⟩, rfl, rfl⟩⟩
abbrev jX9_owes : KJ := (yX9_owes, cX9_owes, wsX9_owes, 3, (some .int), { frames := 2, cells := 0, slots := 0, locals := 43 }, 0, 0)
set_option maxRecDepth 20000 in
theorem fX9_owes_22 : KF jX9_owes 22 8 5 := ⟨RX9, TX9, 17, rfl, by decide, (fun _ h => List.mem_cons_of_mem _ (List.mem_append_right _ h)), (List.mem_of_getElem? (i := 1) (by decide +kernel))⟩
set_option maxRecDepth 20000 in
theorem vX9_owes_102 : KCV jX9_owes 102 jX9_isOne 1 := ⟨gX9_owes_X9_isOne, ⟨⟨_, rfl⟩, ⟨by decide +kernel, by decide +kernel, by decide +kernel⟩, ⟨by decide, by decide⟩, rfl, rfl⟩⟩
abbrev jX9_place : KJ := (yX9_place, cX9_place, wsX9_place, 2, (some .int), { frames := 1, cells := 0, slots := 0, locals := 22 }, 0, 0)
set_option maxRecDepth 20000 in
theorem fX9_place_22 : KF jX9_place 22 8 5 := ⟨RX9, TX9, 17, rfl, by decide, (fun _ h => List.mem_cons_of_mem _ (List.mem_append_right _ h)), (List.mem_of_getElem? (i := 1) (by decide +kernel))⟩
set_option maxRecDepth 20000 in
theorem vX9_place_56 : KCS jX9_place 56 jX9_in 3 := ⟨gX9_place_X9_in, ⟨⟨_, rfl⟩, ⟨by decide +kernel, by decide +kernel, by decide +kernel⟩, ⟨by decide, by decide⟩, rfl, rfl⟩⟩
abbrev jX9_wouldAt : KJ := (yX9_wouldAt, cX9_wouldAt, wsX9_wouldAt, 4, (some .boolean), { frames := 0, cells := 0, slots := 0, locals := 0 }, 0, 0)
set_option maxRecDepth 20000 in
theorem fX9_wouldAt_22 : KF jX9_wouldAt 22 8 5 := ⟨RX9, TX9, 17, rfl, by decide, (fun _ h => List.mem_cons_of_mem _ (List.mem_append_right _ h)), (List.mem_of_getElem? (i := 1) (by decide +kernel))⟩
set_option maxRecDepth 20000 in
theorem fX9_wouldAt_13 : KF jX9_wouldAt 13 8 2 := ⟨RX9, TX9, 17, rfl, by decide, (fun _ h => List.mem_cons_of_mem _ (List.mem_append_right _ h)), (List.mem_of_getElem? (i := 2) (by decide +kernel))⟩
abbrev jX9_would : KJ := (yX9_would, cX9_would, wsX9_would, 3, (some .int), { frames := 2, cells := 0, slots := 0, locals := 43 }, 0, 0)
set_option maxRecDepth 20000 in
theorem vX9_would_102 : KCV jX9_would 102 jX9_isOne 1 := ⟨gX9_would_X9_isOne, ⟨⟨_, rfl⟩, ⟨by decide +kernel, by decide +kernel, by decide +kernel⟩, ⟨by decide, by decide⟩, rfl, rfl⟩⟩
set_option maxRecDepth 20000 in
theorem vX9_would_105 : KCV jX9_would 105 jX9_placeOf 1 := ⟨gX9_would_X9_placeOf, ⟨⟨_, rfl⟩, ⟨by decide +kernel, by decide +kernel, by decide +kernel⟩, ⟨by decide, by decide⟩, rfl, rfl⟩⟩
set_option maxRecDepth 20000 in
theorem vX9_would_112 : KCV jX9_would 112 jX9_wouldAt 1 := ⟨gX9_would_X9_wouldAt, ⟨⟨_, rfl⟩, ⟨by decide +kernel, by decide +kernel, by decide +kernel⟩, ⟨by decide, by decide⟩, rfl, rfl⟩⟩
abbrev jX9_keeps : KJ := (yX9_keeps, cX9_keeps, wsX9_keeps, 2, none, { frames := 0, cells := 0, slots := 0, locals := 0 }, 0, 0)
set_option maxRecDepth 20000 in
theorem fX9_keeps_93 : KF jX9_keeps 93 8 7 := ⟨RX9, TX9, 17, rfl, by decide, (fun _ h => List.mem_cons_of_mem _ (List.mem_append_right _ h)), (List.mem_of_getElem? (i := 1) (by decide +kernel))⟩
set_option maxRecDepth 20000 in
theorem fX9_keeps_25 : KF jX9_keeps 25 8 6 := ⟨RX9, TX9, 17, rfl, by decide, (fun _ h => List.mem_cons_of_mem _ (List.mem_append_right _ h)), (List.mem_of_getElem? (i := 2) (by decide +kernel))⟩
set_option maxRecDepth 20000 in
theorem pX9_keeps_93 : KFp jX9_keeps 93 8 7 .int := ⟨RX9, TX9, 17, rfl, by decide, (fun _ h => List.mem_cons_of_mem _ (List.mem_append_right _ h)), (List.mem_of_getElem? (i := 1) (by decide +kernel)), ⟨tyX9, tyX9_ok⟩, nmX9, by decide +kernel, Or.inl rfl⟩
set_option maxRecDepth 20000 in
theorem fX9_keeps_22 : KF jX9_keeps 22 8 5 := ⟨RX9, TX9, 17, rfl, by decide, (fun _ h => List.mem_cons_of_mem _ (List.mem_append_right _ h)), (List.mem_of_getElem? (i := 3) (by decide +kernel))⟩
abbrev jX9_goes : KJ := (yX9_goes, cX9_goes, wsX9_goes, 4, none, { frames := 0, cells := 0, slots := 0, locals := 0 }, 0, 0)
set_option maxRecDepth 20000 in
theorem fX9_goes_22 : KF jX9_goes 22 8 5 := ⟨RX9, TX9, 17, rfl, by decide, (fun _ h => List.mem_cons_of_mem _ (List.mem_append_right _ h)), (List.mem_of_getElem? (i := 1) (by decide +kernel))⟩
abbrev jX9_comes : KJ := (yX9_comes, cX9_comes, wsX9_comes, 4, none, { frames := 0, cells := 0, slots := 0, locals := 0 }, 0, 0)
set_option maxRecDepth 20000 in
theorem fX9_comes_22 : KF jX9_comes 22 8 5 := ⟨RX9, TX9, 17, rfl, by decide, (fun _ h => List.mem_cons_of_mem _ (List.mem_append_right _ h)), (List.mem_of_getElem? (i := 1) (by decide +kernel))⟩
abbrev jX9_passes : KJ := (yX9_passes, cX9_passes, wsX9_passes, 9, none, { frames := 1, cells := 0, slots := 0, locals := 23 }, 0, 0)
set_option maxRecDepth 20000 in
theorem fX9_passes_22 : KF jX9_passes 22 8 5 := ⟨RX9, TX9, 17, rfl, by decide, (fun _ h => List.mem_cons_of_mem _ (List.mem_append_right _ h)), (List.mem_of_getElem? (i := 1) (by decide +kernel))⟩
set_option maxRecDepth 20000 in
theorem fX9_passes_34 : KF jX9_passes 34 8 13 := ⟨RX9, TX9, 17, rfl, by decide, (fun _ h => List.mem_cons_of_mem _ (List.mem_append_right _ h)), (List.mem_of_getElem? (i := 2) (by decide +kernel))⟩
set_option maxRecDepth 20000 in
theorem fX9_passes_13 : KF jX9_passes 13 8 2 := ⟨RX9, TX9, 17, rfl, by decide, (fun _ h => List.mem_cons_of_mem _ (List.mem_append_right _ h)), (List.mem_of_getElem? (i := 3) (by decide +kernel))⟩
set_option maxRecDepth 20000 in
theorem vX9_passes_105 : KCV jX9_passes 105 jX9_placeOf 1 := ⟨gX9_passes_X9_placeOf, ⟨⟨_, rfl⟩, ⟨by decide +kernel, by decide +kernel, by decide +kernel⟩, ⟨by decide, by decide⟩, rfl, rfl⟩⟩
set_option maxRecDepth 20000 in
theorem vX9_passes_112 : KCV jX9_passes 112 jX9_wouldAt 1 := ⟨gX9_passes_X9_wouldAt, ⟨⟨_, rfl⟩, ⟨by decide +kernel, by decide +kernel, by decide +kernel⟩, ⟨by decide, by decide⟩, rfl, rfl⟩⟩
set_option maxRecDepth 20000 in
theorem vX9_passes_115 : KCV jX9_passes 115 jX9_goes 2 := ⟨gX9_passes_X9_goes, ⟨⟨_, rfl⟩, ⟨by decide +kernel, by decide +kernel, by decide +kernel⟩, ⟨by decide, by decide⟩, rfl, rfl⟩⟩
abbrev jX9_pass : KJ := (yX9_pass, cX9_pass, wsX9_pass, 3, (some .int), { frames := 2, cells := 0, slots := 0, locals := 51 }, 0, 0)
set_option maxRecDepth 20000 in
theorem fX9_pass_22 : KF jX9_pass 22 8 5 := ⟨RX9, TX9, 17, rfl, by decide, (fun _ h => List.mem_cons_of_mem _ (List.mem_append_right _ h)), (List.mem_of_getElem? (i := 1) (by decide +kernel))⟩
set_option maxRecDepth 20000 in
theorem vX9_pass_56 : KCS jX9_pass 56 jX9_in 3 := ⟨gX9_pass_X9_in, ⟨⟨_, rfl⟩, ⟨by decide +kernel, by decide +kernel, by decide +kernel⟩, ⟨by decide, by decide⟩, rfl, rfl⟩⟩
set_option maxRecDepth 20000 in
theorem vX9_pass_119 : KCV jX9_pass 119 jX9_keeps 0 := ⟨gX9_pass_X9_keeps, ⟨⟨_, rfl⟩, ⟨by decide +kernel, by decide +kernel, by decide +kernel⟩, ⟨by decide, by decide⟩, rfl, rfl⟩⟩
set_option maxRecDepth 20000 in
theorem vX9_pass_122 : KCV jX9_pass 122 jX9_passes 1 := ⟨gX9_pass_X9_passes, ⟨⟨_, rfl⟩, ⟨by decide +kernel, by decide +kernel, by decide +kernel⟩, ⟨by decide, by decide⟩, rfl, rfl⟩⟩
abbrev jX9_mayLet : KJ := (yX9_mayLet, cX9_mayLet, wsX9_mayLet, 3, (some .boolean), { frames := 1, cells := 0, slots := 0, locals := 23 }, 0, 0)
set_option maxRecDepth 20000 in
theorem vX9_mayLet_105 : KCV jX9_mayLet 105 jX9_placeOf 1 := ⟨gX9_mayLet_X9_placeOf, ⟨⟨_, rfl⟩, ⟨by decide +kernel, by decide +kernel, by decide +kernel⟩, ⟨by decide, by decide⟩, rfl, rfl⟩⟩
abbrev jX9_lets : KJ := (yX9_lets, cX9_lets, wsX9_lets, 3, none, { frames := 1, cells := 0, slots := 0, locals := 23 }, 0, 0)
set_option maxRecDepth 20000 in
theorem vX9_lets_105 : KCV jX9_lets 105 jX9_placeOf 1 := ⟨gX9_lets_X9_placeOf, ⟨⟨_, rfl⟩, ⟨by decide +kernel, by decide +kernel, by decide +kernel⟩, ⟨by decide, by decide⟩, rfl, rfl⟩⟩
set_option maxRecDepth 20000 in
theorem vX9_lets_115 : KCV jX9_lets 115 jX9_goes 2 := ⟨gX9_lets_X9_goes, ⟨⟨_, rfl⟩, ⟨by decide +kernel, by decide +kernel, by decide +kernel⟩, ⟨by decide, by decide⟩, rfl, rfl⟩⟩
set_option maxRecDepth 20000 in
theorem vX9_lets_126 : KCV jX9_lets 126 jX9_comes 2 := ⟨gX9_lets_X9_comes, ⟨⟨_, rfl⟩, ⟨by decide +kernel, by decide +kernel, by decide +kernel⟩, ⟨by decide, by decide⟩, rfl, rfl⟩⟩
abbrev jX9_let : KJ := (yX9_let, cX9_let, wsX9_let, 3, (some .int), { frames := 2, cells := 0, slots := 0, locals := 45 }, 0, 0)
set_option maxRecDepth 20000 in
theorem vX9_let_102 : KCV jX9_let 102 jX9_isOne 1 := ⟨gX9_let_X9_isOne, ⟨⟨_, rfl⟩, ⟨by decide +kernel, by decide +kernel, by decide +kernel⟩, ⟨by decide, by decide⟩, rfl, rfl⟩⟩
set_option maxRecDepth 20000 in
theorem vX9_let_129 : KCV jX9_let 129 jX9_mayLet 2 := ⟨gX9_let_X9_mayLet, ⟨⟨_, rfl⟩, ⟨by decide +kernel, by decide +kernel, by decide +kernel⟩, ⟨by decide, by decide⟩, rfl, rfl⟩⟩
set_option maxRecDepth 20000 in
theorem vX9_let_119 : KCV jX9_let 119 jX9_keeps 0 := ⟨gX9_let_X9_keeps, ⟨⟨_, rfl⟩, ⟨by decide +kernel, by decide +kernel, by decide +kernel⟩, ⟨by decide, by decide⟩, rfl, rfl⟩⟩
set_option maxRecDepth 20000 in
theorem vX9_let_133 : KCV jX9_let 133 jX9_lets 2 := ⟨gX9_let_X9_lets, ⟨⟨_, rfl⟩, ⟨by decide +kernel, by decide +kernel, by decide +kernel⟩, ⟨by decide, by decide⟩, rfl, rfl⟩⟩
set_option maxRecDepth 20000 in
theorem vX9_let_105 : KCV jX9_let 105 jX9_placeOf 1 := ⟨gX9_let_X9_placeOf, ⟨⟨_, rfl⟩, ⟨by decide +kernel, by decide +kernel, by decide +kernel⟩, ⟨by decide, by decide⟩, rfl, rfl⟩⟩
abbrev jX9_leave : KJ := (yX9_leave, cX9_leave, wsX9_leave, 2, (some .int), { frames := 2, cells := 0, slots := 0, locals := 43 }, 0, 0)
set_option maxRecDepth 20000 in
theorem fX9_leave_22 : KF jX9_leave 22 8 5 := ⟨RX9, TX9, 17, rfl, by decide, (fun _ h => List.mem_cons_of_mem _ (List.mem_append_right _ h)), (List.mem_of_getElem? (i := 1) (by decide +kernel))⟩
set_option maxRecDepth 20000 in
theorem vX9_leave_102 : KCV jX9_leave 102 jX9_isOne 1 := ⟨gX9_leave_X9_isOne, ⟨⟨_, rfl⟩, ⟨by decide +kernel, by decide +kernel, by decide +kernel⟩, ⟨by decide, by decide⟩, rfl, rfl⟩⟩
set_option maxRecDepth 20000 in
theorem vX9_leave_105 : KCV jX9_leave 105 jX9_placeOf 1 := ⟨gX9_leave_X9_placeOf, ⟨⟨_, rfl⟩, ⟨by decide +kernel, by decide +kernel, by decide +kernel⟩, ⟨by decide, by decide⟩, rfl, rfl⟩⟩
set_option maxRecDepth 20000 in
theorem vX9_leave_119 : KCV jX9_leave 119 jX9_keeps 0 := ⟨gX9_leave_X9_keeps, ⟨⟨_, rfl⟩, ⟨by decide +kernel, by decide +kernel, by decide +kernel⟩, ⟨by decide, by decide⟩, rfl, rfl⟩⟩
set_option maxRecDepth 20000 in
theorem vX9_leave_115 : KCV jX9_leave 115 jX9_goes 2 := ⟨gX9_leave_X9_goes, ⟨⟨_, rfl⟩, ⟨by decide +kernel, by decide +kernel, by decide +kernel⟩, ⟨by decide, by decide⟩, rfl, rfl⟩⟩
abbrev jX9_come : KJ := (yX9_come, cX9_come, wsX9_come, 2, (some .int), { frames := 2, cells := 0, slots := 0, locals := 43 }, 0, 0)
set_option maxRecDepth 20000 in
theorem fX9_come_22 : KF jX9_come 22 8 5 := ⟨RX9, TX9, 17, rfl, by decide, (fun _ h => List.mem_cons_of_mem _ (List.mem_append_right _ h)), (List.mem_of_getElem? (i := 1) (by decide +kernel))⟩
set_option maxRecDepth 20000 in
theorem vX9_come_102 : KCV jX9_come 102 jX9_isOne 1 := ⟨gX9_come_X9_isOne, ⟨⟨_, rfl⟩, ⟨by decide +kernel, by decide +kernel, by decide +kernel⟩, ⟨by decide, by decide⟩, rfl, rfl⟩⟩
set_option maxRecDepth 20000 in
theorem vX9_come_105 : KCV jX9_come 105 jX9_placeOf 1 := ⟨gX9_come_X9_placeOf, ⟨⟨_, rfl⟩, ⟨by decide +kernel, by decide +kernel, by decide +kernel⟩, ⟨by decide, by decide⟩, rfl, rfl⟩⟩
set_option maxRecDepth 20000 in
theorem vX9_come_119 : KCV jX9_come 119 jX9_keeps 0 := ⟨gX9_come_X9_keeps, ⟨⟨_, rfl⟩, ⟨by decide +kernel, by decide +kernel, by decide +kernel⟩, ⟨by decide, by decide⟩, rfl, rfl⟩⟩
set_option maxRecDepth 20000 in
theorem vX9_come_126 : KCV jX9_come 126 jX9_comes 2 := ⟨gX9_come_X9_comes, ⟨⟨_, rfl⟩, ⟨by decide +kernel, by decide +kernel, by decide +kernel⟩, ⟨by decide, by decide⟩, rfl, rfl⟩⟩
abbrev jX9_canPay : KJ := (yX9_canPay, cX9_canPay, wsX9_canPay, 4, (some .int), { frames := 0, cells := 0, slots := 0, locals := 0 }, 0, 0)
set_option maxRecDepth 20000 in
theorem fX9_canPay_22 : KF jX9_canPay 22 8 5 := ⟨RX9, TX9, 17, rfl, by decide, (fun _ h => List.mem_cons_of_mem _ (List.mem_append_right _ h)), (List.mem_of_getElem? (i := 1) (by decide +kernel))⟩
abbrev jX9_pays : KJ := (yX9_pays, cX9_pays, wsX9_pays, 4, none, { frames := 1, cells := 0, slots := 0, locals := 23 }, 0, 0)
set_option maxRecDepth 20000 in
theorem fX9_pays_22 : KF jX9_pays 22 8 5 := ⟨RX9, TX9, 17, rfl, by decide, (fun _ h => List.mem_cons_of_mem _ (List.mem_append_right _ h)), (List.mem_of_getElem? (i := 1) (by decide +kernel))⟩
set_option maxRecDepth 20000 in
theorem vX9_pays_136 : KCV jX9_pays 136 jX9_canPay 2 := ⟨gX9_pays_X9_canPay, ⟨⟨_, rfl⟩, ⟨by decide +kernel, by decide +kernel, by decide +kernel⟩, ⟨by decide, by decide⟩, rfl, rfl⟩⟩
abbrev jX9_pay : KJ := (yX9_pay, cX9_pay, wsX9_pay, 4, (some .int), { frames := 2, cells := 0, slots := 0, locals := 46 }, 0, 0)
set_option maxRecDepth 20000 in
theorem vX9_pay_102 : KCV jX9_pay 102 jX9_isOne 1 := ⟨gX9_pay_X9_isOne, ⟨⟨_, rfl⟩, ⟨by decide +kernel, by decide +kernel, by decide +kernel⟩, ⟨by decide, by decide⟩, rfl, rfl⟩⟩
set_option maxRecDepth 20000 in
theorem vX9_pay_136 : KCV jX9_pay 136 jX9_canPay 2 := ⟨gX9_pay_X9_canPay, ⟨⟨_, rfl⟩, ⟨by decide +kernel, by decide +kernel, by decide +kernel⟩, ⟨by decide, by decide⟩, rfl, rfl⟩⟩
set_option maxRecDepth 20000 in
theorem vX9_pay_119 : KCV jX9_pay 119 jX9_keeps 0 := ⟨gX9_pay_X9_keeps, ⟨⟨_, rfl⟩, ⟨by decide +kernel, by decide +kernel, by decide +kernel⟩, ⟨by decide, by decide⟩, rfl, rfl⟩⟩
set_option maxRecDepth 20000 in
theorem vX9_pay_140 : KCV jX9_pay 140 jX9_pays 2 := ⟨gX9_pay_X9_pays, ⟨⟨_, rfl⟩, ⟨by decide +kernel, by decide +kernel, by decide +kernel⟩, ⟨by decide, by decide⟩, rfl, rfl⟩⟩
abbrev jX9_undo : KJ := (yX9_undo, cX9_undo, wsX9_undo, 2, (some .int), { frames := 0, cells := 0, slots := 0, locals := 0 }, 0, 0)
set_option maxRecDepth 20000 in
theorem fX9_undo_93 : KF jX9_undo 93 8 7 := ⟨RX9, TX9, 17, rfl, by decide, (fun _ h => List.mem_cons_of_mem _ (List.mem_append_right _ h)), (List.mem_of_getElem? (i := 1) (by decide +kernel))⟩
set_option maxRecDepth 20000 in
theorem pX9_undo_93 : KFp jX9_undo 93 8 7 .int := ⟨RX9, TX9, 17, rfl, by decide, (fun _ h => List.mem_cons_of_mem _ (List.mem_append_right _ h)), (List.mem_of_getElem? (i := 1) (by decide +kernel)), ⟨tyX9, tyX9_ok⟩, nmX9, by decide +kernel, Or.inl rfl⟩
set_option maxRecDepth 20000 in
theorem fX9_undo_22 : KF jX9_undo 22 8 5 := ⟨RX9, TX9, 17, rfl, by decide, (fun _ h => List.mem_cons_of_mem _ (List.mem_append_right _ h)), (List.mem_of_getElem? (i := 2) (by decide +kernel))⟩
set_option maxRecDepth 20000 in
theorem fX9_undo_25 : KF jX9_undo 25 8 6 := ⟨RX9, TX9, 17, rfl, by decide, (fun _ h => List.mem_cons_of_mem _ (List.mem_append_right _ h)), (List.mem_of_getElem? (i := 3) (by decide +kernel))⟩
abbrev jX9_holds : KJ := (yX9_holds, cX9_holds, wsX9_holds, 2, none, { frames := 0, cells := 0, slots := 0, locals := 0 }, 0, 0)
set_option maxRecDepth 20000 in
theorem fX9_holds_37 : KF jX9_holds 37 8 14 := ⟨RX9, TX9, 17, rfl, by decide, (fun _ h => List.mem_cons_of_mem _ (List.mem_append_right _ h)), (List.mem_of_getElem? (i := 1) (by decide +kernel))⟩
set_option maxRecDepth 20000 in
theorem fX9_holds_22 : KF jX9_holds 22 8 5 := ⟨RX9, TX9, 17, rfl, by decide, (fun _ h => List.mem_cons_of_mem _ (List.mem_append_right _ h)), (List.mem_of_getElem? (i := 2) (by decide +kernel))⟩
abbrev jX9_backs : KJ := (yX9_backs, cX9_backs, wsX9_backs, 2, none, { frames := 0, cells := 0, slots := 0, locals := 0 }, 0, 0)
set_option maxRecDepth 20000 in
theorem fX9_backs_22 : KF jX9_backs 22 8 5 := ⟨RX9, TX9, 17, rfl, by decide, (fun _ h => List.mem_cons_of_mem _ (List.mem_append_right _ h)), (List.mem_of_getElem? (i := 1) (by decide +kernel))⟩
set_option maxRecDepth 20000 in
theorem fX9_backs_37 : KF jX9_backs 37 8 14 := ⟨RX9, TX9, 17, rfl, by decide, (fun _ h => List.mem_cons_of_mem _ (List.mem_append_right _ h)), (List.mem_of_getElem? (i := 2) (by decide +kernel))⟩
abbrev jX9_behind : KJ := (yX9_behind, cX9_behind, wsX9_behind, 5, (some .int), { frames := 2, cells := 0, slots := 0, locals := 51 }, 0, 0)
set_option maxRecDepth 20000 in
theorem vX9_behind_56 : KCS jX9_behind 56 jX9_in 3 := ⟨gX9_behind_X9_in, ⟨⟨_, rfl⟩, ⟨by decide +kernel, by decide +kernel, by decide +kernel⟩, ⟨by decide, by decide⟩, rfl, rfl⟩⟩
set_option maxRecDepth 20000 in
theorem vX9_behind_102 : KCV jX9_behind 102 jX9_isOne 1 := ⟨gX9_behind_X9_isOne, ⟨⟨_, rfl⟩, ⟨by decide +kernel, by decide +kernel, by decide +kernel⟩, ⟨by decide, by decide⟩, rfl, rfl⟩⟩
set_option maxRecDepth 20000 in
theorem vX9_behind_143 : KCV jX9_behind 143 jX9_holds 0 := ⟨gX9_behind_X9_holds, ⟨⟨_, rfl⟩, ⟨by decide +kernel, by decide +kernel, by decide +kernel⟩, ⟨by decide, by decide⟩, rfl, rfl⟩⟩
set_option maxRecDepth 20000 in
theorem vX9_behind_122 : KCV jX9_behind 122 jX9_passes 1 := ⟨gX9_behind_X9_passes, ⟨⟨_, rfl⟩, ⟨by decide +kernel, by decide +kernel, by decide +kernel⟩, ⟨by decide, by decide⟩, rfl, rfl⟩⟩
set_option maxRecDepth 20000 in
theorem vX9_behind_105 : KCV jX9_behind 105 jX9_placeOf 1 := ⟨gX9_behind_X9_placeOf, ⟨⟨_, rfl⟩, ⟨by decide +kernel, by decide +kernel, by decide +kernel⟩, ⟨by decide, by decide⟩, rfl, rfl⟩⟩
set_option maxRecDepth 20000 in
theorem vX9_behind_108 : KCV jX9_behind 108 jX9_due 1 := ⟨gX9_behind_X9_due, ⟨⟨_, rfl⟩, ⟨by decide +kernel, by decide +kernel, by decide +kernel⟩, ⟨by decide, by decide⟩, rfl, rfl⟩⟩
set_option maxRecDepth 20000 in
theorem vX9_behind_146 : KCV jX9_behind 146 jX9_backs 0 := ⟨gX9_behind_X9_backs, ⟨⟨_, rfl⟩, ⟨by decide +kernel, by decide +kernel, by decide +kernel⟩, ⟨by decide, by decide⟩, rfl, rfl⟩⟩
abbrev jX9_servedIn : KJ := (yX9_servedIn, cX9_servedIn, wsX9_servedIn, 3, (some .int), { frames := 2, cells := 0, slots := 0, locals := 51 }, 0, 0)
set_option maxRecDepth 20000 in
theorem fX9_servedIn_22 : KF jX9_servedIn 22 8 5 := ⟨RX9, TX9, 17, rfl, by decide, (fun _ h => List.mem_cons_of_mem _ (List.mem_append_right _ h)), (List.mem_of_getElem? (i := 1) (by decide +kernel))⟩
set_option maxRecDepth 20000 in
theorem vX9_servedIn_122 : KCV jX9_servedIn 122 jX9_passes 1 := ⟨gX9_servedIn_X9_passes, ⟨⟨_, rfl⟩, ⟨by decide +kernel, by decide +kernel, by decide +kernel⟩, ⟨by decide, by decide⟩, rfl, rfl⟩⟩
abbrev jX9_served : KJ := (yX9_served, cX9_served, wsX9_served, 3, (some .int), { frames := 3, cells := 0, slots := 0, locals := 73 }, 0, 0)
set_option maxRecDepth 20000 in
theorem vX9_served_102 : KCV jX9_served 102 jX9_isOne 1 := ⟨gX9_served_X9_isOne, ⟨⟨_, rfl⟩, ⟨by decide +kernel, by decide +kernel, by decide +kernel⟩, ⟨by decide, by decide⟩, rfl, rfl⟩⟩
set_option maxRecDepth 20000 in
theorem vX9_served_105 : KCV jX9_served 105 jX9_placeOf 1 := ⟨gX9_served_X9_placeOf, ⟨⟨_, rfl⟩, ⟨by decide +kernel, by decide +kernel, by decide +kernel⟩, ⟨by decide, by decide⟩, rfl, rfl⟩⟩
set_option maxRecDepth 20000 in
theorem vX9_served_143 : KCV jX9_served 143 jX9_holds 0 := ⟨gX9_served_X9_holds, ⟨⟨_, rfl⟩, ⟨by decide +kernel, by decide +kernel, by decide +kernel⟩, ⟨by decide, by decide⟩, rfl, rfl⟩⟩
set_option maxRecDepth 20000 in
theorem vX9_served_149 : KCV jX9_served 149 jX9_servedIn 1 := ⟨gX9_served_X9_servedIn, ⟨⟨_, rfl⟩, ⟨by decide +kernel, by decide +kernel, by decide +kernel⟩, ⟨by decide, by decide⟩, rfl, rfl⟩⟩
set_option maxRecDepth 20000 in
theorem vX9_served_146 : KCV jX9_served 146 jX9_backs 0 := ⟨gX9_served_X9_backs, ⟨⟨_, rfl⟩, ⟨by decide +kernel, by decide +kernel, by decide +kernel⟩, ⟨by decide, by decide⟩, rfl, rfl⟩⟩
abbrev jX9_stand : KJ := (yX9_stand, cX9_stand, wsX9_stand, 10, (some .int), { frames := 2, cells := 0, slots := 0, locals := 51 }, 0, 0)
set_option maxRecDepth 20000 in
theorem fX9_stand_22 : KF jX9_stand 22 8 5 := ⟨RX9, TX9, 17, rfl, by decide, (fun _ h => List.mem_cons_of_mem _ (List.mem_append_right _ h)), (List.mem_of_getElem? (i := 1) (by decide +kernel))⟩
set_option maxRecDepth 20000 in
theorem vX9_stand_102 : KCV jX9_stand 102 jX9_isOne 1 := ⟨gX9_stand_X9_isOne, ⟨⟨_, rfl⟩, ⟨by decide +kernel, by decide +kernel, by decide +kernel⟩, ⟨by decide, by decide⟩, rfl, rfl⟩⟩
set_option maxRecDepth 20000 in
theorem vX9_stand_56 : KCS jX9_stand 56 jX9_in 3 := ⟨gX9_stand_X9_in, ⟨⟨_, rfl⟩, ⟨by decide +kernel, by decide +kernel, by decide +kernel⟩, ⟨by decide, by decide⟩, rfl, rfl⟩⟩
set_option maxRecDepth 20000 in
theorem vX9_stand_105 : KCV jX9_stand 105 jX9_placeOf 1 := ⟨gX9_stand_X9_placeOf, ⟨⟨_, rfl⟩, ⟨by decide +kernel, by decide +kernel, by decide +kernel⟩, ⟨by decide, by decide⟩, rfl, rfl⟩⟩
set_option maxRecDepth 20000 in
theorem vX9_stand_143 : KCV jX9_stand 143 jX9_holds 0 := ⟨gX9_stand_X9_holds, ⟨⟨_, rfl⟩, ⟨by decide +kernel, by decide +kernel, by decide +kernel⟩, ⟨by decide, by decide⟩, rfl, rfl⟩⟩
set_option maxRecDepth 20000 in
theorem vX9_stand_115 : KCV jX9_stand 115 jX9_goes 2 := ⟨gX9_stand_X9_goes, ⟨⟨_, rfl⟩, ⟨by decide +kernel, by decide +kernel, by decide +kernel⟩, ⟨by decide, by decide⟩, rfl, rfl⟩⟩
set_option maxRecDepth 20000 in
theorem vX9_stand_126 : KCV jX9_stand 126 jX9_comes 2 := ⟨gX9_stand_X9_comes, ⟨⟨_, rfl⟩, ⟨by decide +kernel, by decide +kernel, by decide +kernel⟩, ⟨by decide, by decide⟩, rfl, rfl⟩⟩
set_option maxRecDepth 20000 in
theorem vX9_stand_122 : KCV jX9_stand 122 jX9_passes 1 := ⟨gX9_stand_X9_passes, ⟨⟨_, rfl⟩, ⟨by decide +kernel, by decide +kernel, by decide +kernel⟩, ⟨by decide, by decide⟩, rfl, rfl⟩⟩
set_option maxRecDepth 20000 in
theorem vX9_stand_108 : KCV jX9_stand 108 jX9_due 1 := ⟨gX9_stand_X9_due, ⟨⟨_, rfl⟩, ⟨by decide +kernel, by decide +kernel, by decide +kernel⟩, ⟨by decide, by decide⟩, rfl, rfl⟩⟩
set_option maxRecDepth 20000 in
theorem vX9_stand_146 : KCV jX9_stand 146 jX9_backs 0 := ⟨gX9_stand_X9_backs, ⟨⟨_, rfl⟩, ⟨by decide +kernel, by decide +kernel, by decide +kernel⟩, ⟨by decide, by decide⟩, rfl, rfl⟩⟩
abbrev jX9_haste : KJ := (yX9_haste, cX9_haste, wsX9_haste, 8, (some .int), { frames := 3, cells := 0, slots := 0, locals := 73 }, 0, 0)
set_option maxRecDepth 20000 in
theorem fX9_haste_13 : KF jX9_haste 13 8 2 := ⟨RX9, TX9, 17, rfl, by decide, (fun _ h => List.mem_cons_of_mem _ (List.mem_append_right _ h)), (List.mem_of_getElem? (i := 1) (by decide +kernel))⟩
set_option maxRecDepth 20000 in
theorem vX9_haste_102 : KCV jX9_haste 102 jX9_isOne 1 := ⟨gX9_haste_X9_isOne, ⟨⟨_, rfl⟩, ⟨by decide +kernel, by decide +kernel, by decide +kernel⟩, ⟨by decide, by decide⟩, rfl, rfl⟩⟩
set_option maxRecDepth 20000 in
theorem vX9_haste_56 : KCS jX9_haste 56 jX9_in 3 := ⟨gX9_haste_X9_in, ⟨⟨_, rfl⟩, ⟨by decide +kernel, by decide +kernel, by decide +kernel⟩, ⟨by decide, by decide⟩, rfl, rfl⟩⟩
set_option maxRecDepth 20000 in
theorem vX9_haste_105 : KCV jX9_haste 105 jX9_placeOf 1 := ⟨gX9_haste_X9_placeOf, ⟨⟨_, rfl⟩, ⟨by decide +kernel, by decide +kernel, by decide +kernel⟩, ⟨by decide, by decide⟩, rfl, rfl⟩⟩
set_option maxRecDepth 20000 in
theorem vX9_haste_143 : KCV jX9_haste 143 jX9_holds 0 := ⟨gX9_haste_X9_holds, ⟨⟨_, rfl⟩, ⟨by decide +kernel, by decide +kernel, by decide +kernel⟩, ⟨by decide, by decide⟩, rfl, rfl⟩⟩
set_option maxRecDepth 20000 in
theorem vX9_haste_149 : KCV jX9_haste 149 jX9_servedIn 1 := ⟨gX9_haste_X9_servedIn, ⟨⟨_, rfl⟩, ⟨by decide +kernel, by decide +kernel, by decide +kernel⟩, ⟨by decide, by decide⟩, rfl, rfl⟩⟩
set_option maxRecDepth 20000 in
theorem vX9_haste_146 : KCV jX9_haste 146 jX9_backs 0 := ⟨gX9_haste_X9_backs, ⟨⟨_, rfl⟩, ⟨by decide +kernel, by decide +kernel, by decide +kernel⟩, ⟨by decide, by decide⟩, rfl, rfl⟩⟩
set_option maxRecDepth 20000 in
theorem vX9_haste_129 : KCV jX9_haste 129 jX9_mayLet 2 := ⟨gX9_haste_X9_mayLet, ⟨⟨_, rfl⟩, ⟨by decide +kernel, by decide +kernel, by decide +kernel⟩, ⟨by decide, by decide⟩, rfl, rfl⟩⟩
set_option maxRecDepth 20000 in
theorem vX9_haste_133 : KCV jX9_haste 133 jX9_lets 2 := ⟨gX9_haste_X9_lets, ⟨⟨_, rfl⟩, ⟨by decide +kernel, by decide +kernel, by decide +kernel⟩, ⟨by decide, by decide⟩, rfl, rfl⟩⟩
abbrev jX9_clear : KJ := (yX9_clear, cX9_clear, wsX9_clear, 8, (some .int), { frames := 1, cells := 0, slots := 0, locals := 23 }, 0, 0)
set_option maxRecDepth 20000 in
theorem fX9_clear_13 : KF jX9_clear 13 8 2 := ⟨RX9, TX9, 17, rfl, by decide, (fun _ h => List.mem_cons_of_mem _ (List.mem_append_right _ h)), (List.mem_of_getElem? (i := 1) (by decide +kernel))⟩
set_option maxRecDepth 20000 in
theorem fX9_clear_40 : KF jX9_clear 40 8 15 := ⟨RX9, TX9, 17, rfl, by decide, (fun _ h => List.mem_cons_of_mem _ (List.mem_append_right _ h)), (List.mem_of_getElem? (i := 2) (by decide +kernel))⟩
set_option maxRecDepth 20000 in
theorem vX9_clear_108 : KCV jX9_clear 108 jX9_due 1 := ⟨gX9_clear_X9_due, ⟨⟨_, rfl⟩, ⟨by decide +kernel, by decide +kernel, by decide +kernel⟩, ⟨by decide, by decide⟩, rfl, rfl⟩⟩
abbrev jX9_miss : KJ := (yX9_miss, cX9_miss, wsX9_miss, 9, (some .int), { frames := 2, cells := 0, slots := 0, locals := 51 }, 0, 0)
set_option maxRecDepth 20000 in
theorem fX9_miss_22 : KF jX9_miss 22 8 5 := ⟨RX9, TX9, 17, rfl, by decide, (fun _ h => List.mem_cons_of_mem _ (List.mem_append_right _ h)), (List.mem_of_getElem? (i := 1) (by decide +kernel))⟩
set_option maxRecDepth 20000 in
theorem fX9_miss_13 : KF jX9_miss 13 8 2 := ⟨RX9, TX9, 17, rfl, by decide, (fun _ h => List.mem_cons_of_mem _ (List.mem_append_right _ h)), (List.mem_of_getElem? (i := 2) (by decide +kernel))⟩
set_option maxRecDepth 20000 in
theorem fX9_miss_37 : KF jX9_miss 37 8 14 := ⟨RX9, TX9, 17, rfl, by decide, (fun _ h => List.mem_cons_of_mem _ (List.mem_append_right _ h)), (List.mem_of_getElem? (i := 4) (by decide +kernel))⟩
set_option maxRecDepth 20000 in
theorem vX9_miss_56 : KCS jX9_miss 56 jX9_in 3 := ⟨gX9_miss_X9_in, ⟨⟨_, rfl⟩, ⟨by decide +kernel, by decide +kernel, by decide +kernel⟩, ⟨by decide, by decide⟩, rfl, rfl⟩⟩
set_option maxRecDepth 20000 in
theorem vX9_miss_143 : KCV jX9_miss 143 jX9_holds 0 := ⟨gX9_miss_X9_holds, ⟨⟨_, rfl⟩, ⟨by decide +kernel, by decide +kernel, by decide +kernel⟩, ⟨by decide, by decide⟩, rfl, rfl⟩⟩
set_option maxRecDepth 20000 in
theorem vX9_miss_105 : KCV jX9_miss 105 jX9_placeOf 1 := ⟨gX9_miss_X9_placeOf, ⟨⟨_, rfl⟩, ⟨by decide +kernel, by decide +kernel, by decide +kernel⟩, ⟨by decide, by decide⟩, rfl, rfl⟩⟩
set_option maxRecDepth 20000 in
theorem vX9_miss_115 : KCV jX9_miss 115 jX9_goes 2 := ⟨gX9_miss_X9_goes, ⟨⟨_, rfl⟩, ⟨by decide +kernel, by decide +kernel, by decide +kernel⟩, ⟨by decide, by decide⟩, rfl, rfl⟩⟩
set_option maxRecDepth 20000 in
theorem vX9_miss_122 : KCV jX9_miss 122 jX9_passes 1 := ⟨gX9_miss_X9_passes, ⟨⟨_, rfl⟩, ⟨by decide +kernel, by decide +kernel, by decide +kernel⟩, ⟨by decide, by decide⟩, rfl, rfl⟩⟩
set_option maxRecDepth 20000 in
theorem vX9_miss_108 : KCV jX9_miss 108 jX9_due 1 := ⟨gX9_miss_X9_due, ⟨⟨_, rfl⟩, ⟨by decide +kernel, by decide +kernel, by decide +kernel⟩, ⟨by decide, by decide⟩, rfl, rfl⟩⟩
set_option maxRecDepth 20000 in
theorem vX9_miss_146 : KCV jX9_miss 146 jX9_backs 0 := ⟨gX9_miss_X9_backs, ⟨⟨_, rfl⟩, ⟨by decide +kernel, by decide +kernel, by decide +kernel⟩, ⟨by decide, by decide⟩, rfl, rfl⟩⟩
abbrev jX9_see : KJ := (yX9_see, cX9_see, wsX9_see, 4, (some .int), { frames := 2, cells := 0, slots := 0, locals := 43 }, 0, 0)
set_option maxRecDepth 20000 in
theorem fX9_see_99 : KF jX9_see 99 8 11 := ⟨RX9, TX9, 17, rfl, by decide, (fun _ h => List.mem_cons_of_mem _ (List.mem_append_right _ h)), (List.mem_of_getElem? (i := 2) (by decide +kernel))⟩
set_option maxRecDepth 20000 in
theorem fX9_see_31 : KF jX9_see 31 8 10 := ⟨RX9, TX9, 17, rfl, by decide, (fun _ h => List.mem_cons_of_mem _ (List.mem_append_right _ h)), (List.mem_of_getElem? (i := 3) (by decide +kernel))⟩
set_option maxRecDepth 20000 in
theorem pX9_see_99 : KFp jX9_see 99 8 11 .int := ⟨RX9, TX9, 17, rfl, by decide, (fun _ h => List.mem_cons_of_mem _ (List.mem_append_right _ h)), (List.mem_of_getElem? (i := 2) (by decide +kernel)), ⟨tyX9, tyX9_ok⟩, nmX9, by decide +kernel, Or.inl rfl⟩
set_option maxRecDepth 20000 in
theorem vX9_see_102 : KCV jX9_see 102 jX9_isOne 1 := ⟨gX9_see_X9_isOne, ⟨⟨_, rfl⟩, ⟨by decide +kernel, by decide +kernel, by decide +kernel⟩, ⟨by decide, by decide⟩, rfl, rfl⟩⟩
set_option maxRecDepth 20000 in
theorem vX9_see_56 : KCS jX9_see 56 jX9_in 3 := ⟨gX9_see_X9_in, ⟨⟨_, rfl⟩, ⟨by decide +kernel, by decide +kernel, by decide +kernel⟩, ⟨by decide, by decide⟩, rfl, rfl⟩⟩
abbrev jX9_forget : KJ := (yX9_forget, cX9_forget, wsX9_forget, 2, (some .int), { frames := 0, cells := 0, slots := 0, locals := 0 }, 0, 0)
set_option maxRecDepth 20000 in
theorem fX9_forget_99 : KF jX9_forget 99 8 11 := ⟨RX9, TX9, 17, rfl, by decide, (fun _ h => List.mem_cons_of_mem _ (List.mem_append_right _ h)), (List.mem_of_getElem? (i := 1) (by decide +kernel))⟩
set_option maxRecDepth 20000 in
theorem pX9_forget_99 : KFp jX9_forget 99 8 11 .int := ⟨RX9, TX9, 17, rfl, by decide, (fun _ h => List.mem_cons_of_mem _ (List.mem_append_right _ h)), (List.mem_of_getElem? (i := 1) (by decide +kernel)), ⟨tyX9, tyX9_ok⟩, nmX9, by decide +kernel, Or.inl rfl⟩
abbrev jX9_isSo : KJ := (yX9_isSo, cX9_isSo, wsX9_isSo, 6, (some .boolean), { frames := 2, cells := 0, slots := 0, locals := 51 }, 0, 0)
set_option maxRecDepth 20000 in
theorem fX9_isSo_99 : KF jX9_isSo 99 8 11 := ⟨RX9, TX9, 17, rfl, by decide, (fun _ h => List.mem_cons_of_mem _ (List.mem_append_right _ h)), (List.mem_of_getElem? (i := 1) (by decide +kernel))⟩
set_option maxRecDepth 20000 in
theorem fX9_isSo_31 : KF jX9_isSo 31 8 10 := ⟨RX9, TX9, 17, rfl, by decide, (fun _ h => List.mem_cons_of_mem _ (List.mem_append_right _ h)), (List.mem_of_getElem? (i := 2) (by decide +kernel))⟩
set_option maxRecDepth 20000 in
theorem vX9_isSo_122 : KCV jX9_isSo 122 jX9_passes 1 := ⟨gX9_isSo_X9_passes, ⟨⟨_, rfl⟩, ⟨by decide +kernel, by decide +kernel, by decide +kernel⟩, ⟨by decide, by decide⟩, rfl, rfl⟩⟩
set_option maxRecDepth 20000 in
theorem vX9_isSo_108 : KCV jX9_isSo 108 jX9_due 1 := ⟨gX9_isSo_X9_due, ⟨⟨_, rfl⟩, ⟨by decide +kernel, by decide +kernel, by decide +kernel⟩, ⟨by decide, by decide⟩, rfl, rfl⟩⟩
abbrev jX9_next : KJ := (yX9_next, cX9_next, wsX9_next, 7, (some .boolean), { frames := 0, cells := 0, slots := 0, locals := 0 }, 0, 0)
set_option maxRecDepth 20000 in
theorem fX9_next_43 : KF jX9_next 43 8 16 := ⟨RX9, TX9, 17, rfl, by decide, (fun _ h => List.mem_cons_of_mem _ (List.mem_append_right _ h)), (List.mem_of_getElem? (i := 1) (by decide +kernel))⟩
abbrev jX9_orders : KJ := (yX9_orders, cX9_orders, wsX9_orders, 7, (some .int), { frames := 3, cells := 0, slots := 0, locals := 76 }, 0, 0)
set_option maxRecDepth 20000 in
theorem fX9_orders_13 : KF jX9_orders 13 8 2 := ⟨RX9, TX9, 17, rfl, by decide, (fun _ h => List.mem_cons_of_mem _ (List.mem_append_right _ h)), (List.mem_of_getElem? (i := 1) (by decide +kernel))⟩
set_option maxRecDepth 20000 in
theorem fX9_orders_22 : KF jX9_orders 22 8 5 := ⟨RX9, TX9, 17, rfl, by decide, (fun _ h => List.mem_cons_of_mem _ (List.mem_append_right _ h)), (List.mem_of_getElem? (i := 2) (by decide +kernel))⟩
set_option maxRecDepth 20000 in
theorem fX9_orders_43 : KF jX9_orders 43 8 16 := ⟨RX9, TX9, 17, rfl, by decide, (fun _ h => List.mem_cons_of_mem _ (List.mem_append_right _ h)), (List.mem_of_getElem? (i := 3) (by decide +kernel))⟩
set_option maxRecDepth 20000 in
theorem vX9_orders_56 : KCS jX9_orders 56 jX9_in 3 := ⟨gX9_orders_X9_in, ⟨⟨_, rfl⟩, ⟨by decide +kernel, by decide +kernel, by decide +kernel⟩, ⟨by decide, by decide⟩, rfl, rfl⟩⟩
set_option maxRecDepth 20000 in
theorem vX9_orders_143 : KCV jX9_orders 143 jX9_holds 0 := ⟨gX9_orders_X9_holds, ⟨⟨_, rfl⟩, ⟨by decide +kernel, by decide +kernel, by decide +kernel⟩, ⟨by decide, by decide⟩, rfl, rfl⟩⟩
set_option maxRecDepth 20000 in
theorem vX9_orders_153 : KCV jX9_orders 153 jX9_isSo 1 := ⟨gX9_orders_X9_isSo, ⟨⟨_, rfl⟩, ⟨by decide +kernel, by decide +kernel, by decide +kernel⟩, ⟨by decide, by decide⟩, rfl, rfl⟩⟩
set_option maxRecDepth 20000 in
theorem vX9_orders_146 : KCV jX9_orders 146 jX9_backs 0 := ⟨gX9_orders_X9_backs, ⟨⟨_, rfl⟩, ⟨by decide +kernel, by decide +kernel, by decide +kernel⟩, ⟨by decide, by decide⟩, rfl, rfl⟩⟩
set_option maxRecDepth 20000 in
theorem vX9_orders_156 : KCV jX9_orders 156 jX9_next 1 := ⟨gX9_orders_X9_next, ⟨⟨_, rfl⟩, ⟨by decide +kernel, by decide +kernel, by decide +kernel⟩, ⟨by decide, by decide⟩, rfl, rfl⟩⟩
abbrev jX9_kinds : KJ := (yX9_kinds, cX9_kinds, wsX9_kinds, 5, (some .int), { frames := 3, cells := 0, slots := 0, locals := 76 }, 0, 0)
set_option maxRecDepth 20000 in
theorem fX9_kinds_13 : KF jX9_kinds 13 8 2 := ⟨RX9, TX9, 17, rfl, by decide, (fun _ h => List.mem_cons_of_mem _ (List.mem_append_right _ h)), (List.mem_of_getElem? (i := 1) (by decide +kernel))⟩
set_option maxRecDepth 20000 in
theorem vX9_kinds_102 : KCV jX9_kinds 102 jX9_isOne 1 := ⟨gX9_kinds_X9_isOne, ⟨⟨_, rfl⟩, ⟨by decide +kernel, by decide +kernel, by decide +kernel⟩, ⟨by decide, by decide⟩, rfl, rfl⟩⟩
set_option maxRecDepth 20000 in
theorem vX9_kinds_105 : KCV jX9_kinds 105 jX9_placeOf 1 := ⟨gX9_kinds_X9_placeOf, ⟨⟨_, rfl⟩, ⟨by decide +kernel, by decide +kernel, by decide +kernel⟩, ⟨by decide, by decide⟩, rfl, rfl⟩⟩
set_option maxRecDepth 20000 in
theorem vX9_kinds_143 : KCV jX9_kinds 143 jX9_holds 0 := ⟨gX9_kinds_X9_holds, ⟨⟨_, rfl⟩, ⟨by decide +kernel, by decide +kernel, by decide +kernel⟩, ⟨by decide, by decide⟩, rfl, rfl⟩⟩
set_option maxRecDepth 20000 in
theorem vX9_kinds_153 : KCV jX9_kinds 153 jX9_isSo 1 := ⟨gX9_kinds_X9_isSo, ⟨⟨_, rfl⟩, ⟨by decide +kernel, by decide +kernel, by decide +kernel⟩, ⟨by decide, by decide⟩, rfl, rfl⟩⟩
set_option maxRecDepth 20000 in
theorem vX9_kinds_146 : KCV jX9_kinds 146 jX9_backs 0 := ⟨gX9_kinds_X9_backs, ⟨⟨_, rfl⟩, ⟨by decide +kernel, by decide +kernel, by decide +kernel⟩, ⟨by decide, by decide⟩, rfl, rfl⟩⟩
abbrev jX9_rain : KJ := (yX9_rain, cX9_rain, wsX9_rain, 11, (some .int), { frames := 2, cells := 0, slots := 0, locals := 51 }, 0, 0)
set_option maxRecDepth 20000 in
theorem fX9_rain_22 : KF jX9_rain 22 8 5 := ⟨RX9, TX9, 17, rfl, by decide, (fun _ h => List.mem_cons_of_mem _ (List.mem_append_right _ h)), (List.mem_of_getElem? (i := 1) (by decide +kernel))⟩
set_option maxRecDepth 20000 in
theorem vX9_rain_102 : KCV jX9_rain 102 jX9_isOne 1 := ⟨gX9_rain_X9_isOne, ⟨⟨_, rfl⟩, ⟨by decide +kernel, by decide +kernel, by decide +kernel⟩, ⟨by decide, by decide⟩, rfl, rfl⟩⟩
set_option maxRecDepth 20000 in
theorem vX9_rain_56 : KCS jX9_rain 56 jX9_in 3 := ⟨gX9_rain_X9_in, ⟨⟨_, rfl⟩, ⟨by decide +kernel, by decide +kernel, by decide +kernel⟩, ⟨by decide, by decide⟩, rfl, rfl⟩⟩
set_option maxRecDepth 20000 in
theorem vX9_rain_143 : KCV jX9_rain 143 jX9_holds 0 := ⟨gX9_rain_X9_holds, ⟨⟨_, rfl⟩, ⟨by decide +kernel, by decide +kernel, by decide +kernel⟩, ⟨by decide, by decide⟩, rfl, rfl⟩⟩
set_option maxRecDepth 20000 in
theorem vX9_rain_122 : KCV jX9_rain 122 jX9_passes 1 := ⟨gX9_rain_X9_passes, ⟨⟨_, rfl⟩, ⟨by decide +kernel, by decide +kernel, by decide +kernel⟩, ⟨by decide, by decide⟩, rfl, rfl⟩⟩
set_option maxRecDepth 20000 in
theorem vX9_rain_146 : KCV jX9_rain 146 jX9_backs 0 := ⟨gX9_rain_X9_backs, ⟨⟨_, rfl⟩, ⟨by decide +kernel, by decide +kernel, by decide +kernel⟩, ⟨by decide, by decide⟩, rfl, rfl⟩⟩
abbrev jX9_turn : KJ := (yX9_turn, cX9_turn, wsX9_turn, 5, none, { frames := 2, cells := 0, slots := 0, locals := 46 }, 0, 0)
set_option maxRecDepth 20000 in
theorem fX9_turn_13 : KF jX9_turn 13 8 2 := ⟨RX9, TX9, 17, rfl, by decide, (fun _ h => List.mem_cons_of_mem _ (List.mem_append_right _ h)), (List.mem_of_getElem? (i := 1) (by decide +kernel))⟩
set_option maxRecDepth 20000 in
theorem fX9_turn_22 : KF jX9_turn 22 8 5 := ⟨RX9, TX9, 17, rfl, by decide, (fun _ h => List.mem_cons_of_mem _ (List.mem_append_right _ h)), (List.mem_of_getElem? (i := 2) (by decide +kernel))⟩
set_option maxRecDepth 20000 in
theorem vX9_turn_105 : KCV jX9_turn 105 jX9_placeOf 1 := ⟨gX9_turn_X9_placeOf, ⟨⟨_, rfl⟩, ⟨by decide +kernel, by decide +kernel, by decide +kernel⟩, ⟨by decide, by decide⟩, rfl, rfl⟩⟩
set_option maxRecDepth 20000 in
theorem vX9_turn_126 : KCV jX9_turn 126 jX9_comes 2 := ⟨gX9_turn_X9_comes, ⟨⟨_, rfl⟩, ⟨by decide +kernel, by decide +kernel, by decide +kernel⟩, ⟨by decide, by decide⟩, rfl, rfl⟩⟩
set_option maxRecDepth 20000 in
theorem vX9_turn_129 : KCV jX9_turn 129 jX9_mayLet 2 := ⟨gX9_turn_X9_mayLet, ⟨⟨_, rfl⟩, ⟨by decide +kernel, by decide +kernel, by decide +kernel⟩, ⟨by decide, by decide⟩, rfl, rfl⟩⟩
set_option maxRecDepth 20000 in
theorem vX9_turn_133 : KCV jX9_turn 133 jX9_lets 2 := ⟨gX9_turn_X9_lets, ⟨⟨_, rfl⟩, ⟨by decide +kernel, by decide +kernel, by decide +kernel⟩, ⟨by decide, by decide⟩, rfl, rfl⟩⟩
set_option maxRecDepth 20000 in
theorem vX9_turn_140 : KCV jX9_turn 140 jX9_pays 2 := ⟨gX9_turn_X9_pays, ⟨⟨_, rfl⟩, ⟨by decide +kernel, by decide +kernel, by decide +kernel⟩, ⟨by decide, by decide⟩, rfl, rfl⟩⟩
abbrev jX9_owedInAll : KJ := (yX9_owedInAll, cX9_owedInAll, wsX9_owedInAll, 3, (some .int), { frames := 0, cells := 0, slots := 0, locals := 0 }, 0, 0)
set_option maxRecDepth 20000 in
theorem fX9_owedInAll_22 : KF jX9_owedInAll 22 8 5 := ⟨RX9, TX9, 17, rfl, by decide, (fun _ h => List.mem_cons_of_mem _ (List.mem_append_right _ h)), (List.mem_of_getElem? (i := 1) (by decide +kernel))⟩
abbrev jX9_day : KJ := (yX9_day, cX9_day, wsX9_day, 7, (some .int), { frames := 3, cells := 0, slots := 0, locals := 70 }, 0, 0)
set_option maxRecDepth 20000 in
theorem fX9_day_22 : KF jX9_day 22 8 5 := ⟨RX9, TX9, 17, rfl, by decide, (fun _ h => List.mem_cons_of_mem _ (List.mem_append_right _ h)), (List.mem_of_getElem? (i := 4) (by decide +kernel))⟩
set_option maxRecDepth 20000 in
theorem vX9_day_56 : KCS jX9_day 56 jX9_in 3 := ⟨gX9_day_X9_in, ⟨⟨_, rfl⟩, ⟨by decide +kernel, by decide +kernel, by decide +kernel⟩, ⟨by decide, by decide⟩, rfl, rfl⟩⟩
set_option maxRecDepth 20000 in
theorem vX9_day_143 : KCV jX9_day 143 jX9_holds 0 := ⟨gX9_day_X9_holds, ⟨⟨_, rfl⟩, ⟨by decide +kernel, by decide +kernel, by decide +kernel⟩, ⟨by decide, by decide⟩, rfl, rfl⟩⟩
set_option maxRecDepth 20000 in
theorem vX9_day_165 : KCV jX9_day 165 jX9_turn 1 := ⟨gX9_day_X9_turn, ⟨⟨_, rfl⟩, ⟨by decide +kernel, by decide +kernel, by decide +kernel⟩, ⟨by decide, by decide⟩, rfl, rfl⟩⟩
set_option maxRecDepth 20000 in
theorem vX9_day_122 : KCV jX9_day 122 jX9_passes 1 := ⟨gX9_day_X9_passes, ⟨⟨_, rfl⟩, ⟨by decide +kernel, by decide +kernel, by decide +kernel⟩, ⟨by decide, by decide⟩, rfl, rfl⟩⟩
set_option maxRecDepth 20000 in
theorem vX9_day_169 : KCV jX9_day 169 jX9_owedInAll 0 := ⟨gX9_day_X9_owedInAll, ⟨⟨_, rfl⟩, ⟨by decide +kernel, by decide +kernel, by decide +kernel⟩, ⟨by decide, by decide⟩, rfl, rfl⟩⟩
set_option maxRecDepth 20000 in
theorem vX9_day_146 : KCV jX9_day 146 jX9_backs 0 := ⟨gX9_day_X9_backs, ⟨⟨_, rfl⟩, ⟨by decide +kernel, by decide +kernel, by decide +kernel⟩, ⟨by decide, by decide⟩, rfl, rfl⟩⟩
abbrev jX9_keep : KJ := (yX9_keep, cX9_keep, wsX9_keep, 2, (some .int), { frames := 0, cells := 0, slots := 0, locals := 0 }, 0, 0)
set_option maxRecDepth 20000 in
theorem fX9_keep_96 : KF jX9_keep 96 8 9 := ⟨RX9, TX9, 17, rfl, by decide, (fun _ h => List.mem_cons_of_mem _ (List.mem_append_right _ h)), (List.mem_of_getElem? (i := 1) (by decide +kernel))⟩
set_option maxRecDepth 20000 in
theorem fX9_keep_28 : KF jX9_keep 28 8 8 := ⟨RX9, TX9, 17, rfl, by decide, (fun _ h => List.mem_cons_of_mem _ (List.mem_append_right _ h)), (List.mem_of_getElem? (i := 2) (by decide +kernel))⟩
set_option maxRecDepth 20000 in
theorem fX9_keep_22 : KF jX9_keep 22 8 5 := ⟨RX9, TX9, 17, rfl, by decide, (fun _ h => List.mem_cons_of_mem _ (List.mem_append_right _ h)), (List.mem_of_getElem? (i := 3) (by decide +kernel))⟩
set_option maxRecDepth 20000 in
theorem pX9_keep_96 : KFp jX9_keep 96 8 9 .int := ⟨RX9, TX9, 17, rfl, by decide, (fun _ h => List.mem_cons_of_mem _ (List.mem_append_right _ h)), (List.mem_of_getElem? (i := 1) (by decide +kernel)), ⟨tyX9, tyX9_ok⟩, nmX9, by decide +kernel, Or.inl rfl⟩
abbrev jX9_back : KJ := (yX9_back, cX9_back, wsX9_back, 2, (some .int), { frames := 0, cells := 0, slots := 0, locals := 0 }, 0, 0)
set_option maxRecDepth 20000 in
theorem fX9_back_96 : KF jX9_back 96 8 9 := ⟨RX9, TX9, 17, rfl, by decide, (fun _ h => List.mem_cons_of_mem _ (List.mem_append_right _ h)), (List.mem_of_getElem? (i := 1) (by decide +kernel))⟩
set_option maxRecDepth 20000 in
theorem pX9_back_96 : KFp jX9_back 96 8 9 .int := ⟨RX9, TX9, 17, rfl, by decide, (fun _ h => List.mem_cons_of_mem _ (List.mem_append_right _ h)), (List.mem_of_getElem? (i := 1) (by decide +kernel)), ⟨tyX9, tyX9_ok⟩, nmX9, by decide +kernel, Or.inl rfl⟩
set_option maxRecDepth 20000 in
theorem fX9_back_22 : KF jX9_back 22 8 5 := ⟨RX9, TX9, 17, rfl, by decide, (fun _ h => List.mem_cons_of_mem _ (List.mem_append_right _ h)), (List.mem_of_getElem? (i := 2) (by decide +kernel))⟩
set_option maxRecDepth 20000 in
theorem fX9_back_28 : KF jX9_back 28 8 8 := ⟨RX9, TX9, 17, rfl, by decide, (fun _ h => List.mem_cons_of_mem _ (List.mem_append_right _ h)), (List.mem_of_getElem? (i := 3) (by decide +kernel))⟩
set_option maxRecDepth 20000 in
theorem pX9_back_93 : KFp jX9_back 93 8 7 .int := ⟨RX9, TX9, 17, rfl, by decide, (fun _ h => List.mem_cons_of_mem _ (List.mem_append_right _ h)), (List.mem_of_getElem? (i := 4) (by decide +kernel)), ⟨tyX9, tyX9_ok⟩, nmX9, by decide +kernel, Or.inl rfl⟩
abbrev jX9_countOf : KJ := (yX9_countOf, cX9_countOf, wsX9_countOf, 4, (some .int), { frames := 0, cells := 0, slots := 0, locals := 0 }, 0, 0)
set_option maxRecDepth 20000 in
theorem fX9_countOf_13 : KF jX9_countOf 13 8 2 := ⟨RX9, TX9, 17, rfl, by decide, (fun _ h => List.mem_cons_of_mem _ (List.mem_append_right _ h)), (List.mem_of_getElem? (i := 1) (by decide +kernel))⟩
set_option maxRecDepth 20000 in
theorem fX9_countOf_22 : KF jX9_countOf 22 8 5 := ⟨RX9, TX9, 17, rfl, by decide, (fun _ h => List.mem_cons_of_mem _ (List.mem_append_right _ h)), (List.mem_of_getElem? (i := 2) (by decide +kernel))⟩
abbrev jX9_count : KJ := (yX9_count, cX9_count, wsX9_count, 2, (some .int), { frames := 1, cells := 0, slots := 0, locals := 23 }, 0, 0)
set_option maxRecDepth 20000 in
theorem fX9_count_13 : KF jX9_count 13 8 2 := ⟨RX9, TX9, 17, rfl, by decide, (fun _ h => List.mem_cons_of_mem _ (List.mem_append_right _ h)), (List.mem_of_getElem? (i := 1) (by decide +kernel))⟩
set_option maxRecDepth 20000 in
theorem fX9_count_22 : KF jX9_count 22 8 5 := ⟨RX9, TX9, 17, rfl, by decide, (fun _ h => List.mem_cons_of_mem _ (List.mem_append_right _ h)), (List.mem_of_getElem? (i := 2) (by decide +kernel))⟩
set_option maxRecDepth 20000 in
theorem fX9_count_99 : KF jX9_count 99 8 11 := ⟨RX9, TX9, 17, rfl, by decide, (fun _ h => List.mem_cons_of_mem _ (List.mem_append_right _ h)), (List.mem_of_getElem? (i := 3) (by decide +kernel))⟩
set_option maxRecDepth 20000 in
theorem fX9_count_93 : KF jX9_count 93 8 7 := ⟨RX9, TX9, 17, rfl, by decide, (fun _ h => List.mem_cons_of_mem _ (List.mem_append_right _ h)), (List.mem_of_getElem? (i := 4) (by decide +kernel))⟩
set_option maxRecDepth 20000 in
theorem fX9_count_96 : KF jX9_count 96 8 9 := ⟨RX9, TX9, 17, rfl, by decide, (fun _ h => List.mem_cons_of_mem _ (List.mem_append_right _ h)), (List.mem_of_getElem? (i := 5) (by decide +kernel))⟩
set_option maxRecDepth 20000 in
theorem fX9_count_60 : KF jX9_count 60 8 1 := ⟨RX9, TX9, 17, rfl, by decide, (fun _ h => List.mem_cons_of_mem _ (List.mem_append_right _ h)), (List.mem_of_getElem? (i := 6) (by decide +kernel))⟩
set_option maxRecDepth 20000 in
theorem vX9_count_172 : KCV jX9_count 172 jX9_countOf 1 := ⟨gX9_count_X9_countOf, ⟨⟨_, rfl⟩, ⟨by decide +kernel, by decide +kernel, by decide +kernel⟩, ⟨by decide, by decide⟩, rfl, rfl⟩⟩
set_option maxRecDepth 20000 in
theorem vX9_count_169 : KCV jX9_count 169 jX9_owedInAll 0 := ⟨gX9_count_X9_owedInAll, ⟨⟨_, rfl⟩, ⟨by decide +kernel, by decide +kernel, by decide +kernel⟩, ⟨by decide, by decide⟩, rfl, rfl⟩⟩
abbrev jJ9_max_7cf53 : KJ := (yJ9_max_7cf53, cJ9_max_7cf53, wsJ9_max_7cf53, 2, (some .int), { frames := 0, cells := 0, slots := 0, locals := 0 }, 0, 0)
abbrev jJ9_min_7cf53 : KJ := (yJ9_min_7cf53, cJ9_min_7cf53, wsJ9_min_7cf53, 2, (some .int), { frames := 0, cells := 0, slots := 0, locals := 0 }, 0, 0)
