/-! the makers' links (written by wip/tools/gen_new.py) -/
def KNw (J : KJ) (idx : Nat) (C : String) (T : u_T) (Nf : Nat) : Prop := (∀ w ∈ u_ws C T Nf, w ∈ J.2.2.1) ∧ (Cond.classLink J.1.cls idx C ∈ J.2.2.1 ∧ Cond.instantiable C Nf ∈ J.2.2.1 ∧ Cond.initialized C ∈ J.2.2.1)
set_option maxRecDepth 20000 in
theorem aX4_init : Cond.arrayClass .int ∈ jX4_init.2.2.1 := (List.mem_of_getElem? (i := 4) (by decide +kernel))
set_option maxRecDepth 20000 in
theorem nX0_init_7 : KNw jX0_init 7 RX4 TX4 6 := ⟨(fun _ h => List.mem_cons_of_mem _ (List.mem_append_left _ (List.mem_append_right _ h))), (List.mem_of_getElem? (i := 4) (by decide +kernel)), (List.mem_of_getElem? (i := 5) (by decide +kernel)), (List.mem_of_getElem? (i := 6) (by decide +kernel))⟩
set_option maxRecDepth 20000 in
theorem aX1_init : Cond.arrayClass .int ∈ jX1_init.2.2.1 := (List.mem_of_getElem? (i := 4) (by decide +kernel))
set_option maxRecDepth 20000 in
theorem nX2_init_9 : KNw jX2_init 9 RX4 TX4 6 := ⟨(fun _ h => List.mem_cons_of_mem _ (List.mem_append_left _ (List.mem_append_right _ h))), (List.mem_of_getElem? (i := 4) (by decide +kernel)), (List.mem_of_getElem? (i := 5) (by decide +kernel)), (List.mem_of_getElem? (i := 6) (by decide +kernel))⟩
set_option maxRecDepth 20000 in
theorem aX2_init : Cond.arrayClass .int ∈ jX2_init.2.2.1 := (List.mem_of_getElem? (i := 8) (by decide +kernel))
set_option maxRecDepth 20000 in
theorem nX5_init_9 : KNw jX5_init 9 RX1 TX1 5 := ⟨(fun _ h => List.mem_cons_of_mem _ (List.mem_append_left _ (List.mem_append_left _ (List.mem_append_right _ h)))), (List.mem_of_getElem? (i := 4) (by decide +kernel)), (List.mem_of_getElem? (i := 5) (by decide +kernel)), (List.mem_of_getElem? (i := 6) (by decide +kernel))⟩
set_option maxRecDepth 20000 in
theorem nX5_init_18 : KNw jX5_init 18 RX4 TX4 6 := ⟨(fun _ h => List.mem_cons_of_mem _ (List.mem_append_right _ h)), (List.mem_of_getElem? (i := 8) (by decide +kernel)), (List.mem_of_getElem? (i := 9) (by decide +kernel)), (List.mem_of_getElem? (i := 10) (by decide +kernel))⟩
set_option maxRecDepth 20000 in
theorem aX5_init : Cond.arrayClass .int ∈ jX5_init.2.2.1 := (List.mem_of_getElem? (i := 12) (by decide +kernel))
set_option maxRecDepth 20000 in
theorem qX6_init_13 (n : Nat) : Cond.classLink (jX6_init n).1.cls 13 "KerbQueue$Scene" ∈ (jX6_init n).2.2.1 := (List.mem_of_getElem? (i := 8) rfl)
set_option maxRecDepth 20000 in
theorem nX6_init_13 (n : Nat) : KNw (jX6_init n) 13 RX4 TX4 6 := ⟨(fun _ h => List.mem_cons_of_mem _ (List.mem_append_right _ h)), (List.mem_of_getElem? (i := 8) rfl), (List.mem_of_getElem? (i := 10) rfl), (List.mem_of_getElem? (i := 11) rfl)⟩
set_option maxRecDepth 20000 in
theorem aX7_init : Cond.arrayClass .int ∈ jX7_init.2.2.1 := (List.mem_of_getElem? (i := 4) (by decide +kernel))
set_option maxRecDepth 20000 in
theorem nX7_init_24 : KNw jX7_init 24 RX1 TX1 5 := ⟨(fun _ h => List.mem_cons_of_mem _ (List.mem_append_left _ (List.mem_append_right _ h))), (List.mem_of_getElem? (i := 9) (by decide +kernel)), (List.mem_of_getElem? (i := 10) (by decide +kernel)), (List.mem_of_getElem? (i := 11) (by decide +kernel))⟩
set_option maxRecDepth 20000 in
theorem nX7_init_31 : KNw jX7_init 31 RX4 TX4 6 := ⟨(fun _ h => List.mem_cons_of_mem _ (List.mem_append_right _ h)), (List.mem_of_getElem? (i := 13) (by decide +kernel)), (List.mem_of_getElem? (i := 14) (by decide +kernel)), (List.mem_of_getElem? (i := 15) (by decide +kernel))⟩
set_option maxRecDepth 20000 in
theorem nX8_init_7 : KNw jX8_init 7 RX1 TX1 5 := ⟨(fun _ h => List.mem_cons_of_mem _ (List.mem_append_left _ (List.mem_append_left _ (List.mem_append_left _ (List.mem_append_left _ (List.mem_append_left _ (List.mem_append_left _ (List.mem_append_left _ (List.mem_append_right _ h))))))))), (List.mem_of_getElem? (i := 4) (by decide +kernel)), (List.mem_of_getElem? (i := 5) (by decide +kernel)), (List.mem_of_getElem? (i := 6) (by decide +kernel))⟩
set_option maxRecDepth 20000 in
theorem nX8_init_16 : KNw jX8_init 16 RX4 TX4 6 := ⟨(fun _ h => List.mem_cons_of_mem _ (List.mem_append_left _ (List.mem_append_left _ (List.mem_append_left _ (List.mem_append_left _ (List.mem_append_left _ (List.mem_append_right _ h))))))), (List.mem_of_getElem? (i := 8) (by decide +kernel)), (List.mem_of_getElem? (i := 9) (by decide +kernel)), (List.mem_of_getElem? (i := 10) (by decide +kernel))⟩
set_option maxRecDepth 20000 in
theorem nX8_init_23 : KNw jX8_init 23 RX5 TX5 6 := ⟨(fun _ h => List.mem_cons_of_mem _ (List.mem_append_left _ (List.mem_append_left _ (List.mem_append_left _ (List.mem_append_left _ (List.mem_append_right _ h)))))), (List.mem_of_getElem? (i := 12) (by decide +kernel)), (List.mem_of_getElem? (i := 13) (by decide +kernel)), (List.mem_of_getElem? (i := 14) (by decide +kernel))⟩
set_option maxRecDepth 20000 in
theorem nX8_init_30 : KNw jX8_init 30 RX6 TX6 2 := ⟨(fun _ h => List.mem_cons_of_mem _ (List.mem_append_left _ (List.mem_append_left _ (List.mem_append_left _ (List.mem_append_right _ h))))), (List.mem_of_getElem? (i := 16) (by decide +kernel)), (List.mem_of_getElem? (i := 17) (by decide +kernel)), (List.mem_of_getElem? (i := 18) (by decide +kernel))⟩
set_option maxRecDepth 20000 in
theorem nX8_init_42 : KNw jX8_init 42 RX2 TX2 8 := ⟨(fun _ h => List.mem_cons_of_mem _ (List.mem_append_left _ (List.mem_append_left _ (List.mem_append_right _ h)))), (List.mem_of_getElem? (i := 21) (by decide +kernel)), (List.mem_of_getElem? (i := 22) (by decide +kernel)), (List.mem_of_getElem? (i := 23) (by decide +kernel))⟩
set_option maxRecDepth 20000 in
theorem nX8_init_51 : KNw jX8_init 51 RX7 TX7 9 := ⟨(fun _ h => List.mem_cons_of_mem _ (List.mem_append_left _ (List.mem_append_right _ h))), (List.mem_of_getElem? (i := 25) (by decide +kernel)), (List.mem_of_getElem? (i := 26) (by decide +kernel)), (List.mem_of_getElem? (i := 27) (by decide +kernel))⟩
set_option maxRecDepth 20000 in
theorem nX8_init_58 : KNw jX8_init 58 RX0 TX0 5 := ⟨(fun _ h => List.mem_cons_of_mem _ (List.mem_append_right _ h)), (List.mem_of_getElem? (i := 29) (by decide +kernel)), (List.mem_of_getElem? (i := 30) (by decide +kernel)), (List.mem_of_getElem? (i := 31) (by decide +kernel))⟩
set_option maxRecDepth 20000 in
theorem aX9_init : Cond.arrayClass .int ∈ jX9_init.2.2.1 := (List.mem_of_getElem? (i := 4) (by decide +kernel))
