/-! Rows -/
theorem c_X3_at {G : KG} {N : Nat} {w : WD} {a n k : Nat} {f : Nat → Int32} (ha : Is N w a (ia G n f)) (hk : k < n) (hn : n < 2 ^ 31) : KCon G jX3_at N w [rf G a, .int (nI k)] (fun r w1 => r = some (.int (f k)) ∧ w1 = w) := by
  refine KCon.of ([some (rf G a), some (.int (nI k))]) (by decide) rfl (by simp [Value.category]) (Nat.le_of_ble_eq_true rfl) rfl ?_
  refine k_iload_n 1 dX3_at_0 rfl rfl rfl ?_
  refine k_if_ltN 16 4 dX3_at_1 rfl rfl (by omega) (fun c => ?_) (fun c => ?_)
  · omega
  refine k_iload_n 5 dX3_at_4 rfl rfl rfl ?_
  refine k_aload_n 6 dX3_at_5 rfl rfl rfl ?_
  refine k_alen 7 dX3_at_6 rfl (by (repeat (refine Is.ne ?_ (by omega))); first | assumption | exact Is.up (by omega)) ?_
  refine k_icmp_geN 16 10 dX3_at_7 rfl rfl (by omega) (by omega) (fun c => ?_) (fun c => ?_)
  · omega
  refine k_aload_n 11 dX3_at_10 rfl rfl rfl ?_
  refine k_iload_n 12 dX3_at_11 rfl rfl rfl ?_
  refine k_ialdN 13 dX3_at_12 rfl (by (repeat (refine Is.ne ?_ (by omega))); first | assumption | exact Is.up (by omega)) (by omega) (by omega) ?_
  refine k_goto 17 dX3_at_13 rfl ?_
  refine k_iret dX3_at_17 rfl rfl (Nat.le_of_ble_eq_true rfl) ⟨rfl, rfl⟩
theorem c_X3_put {G : KG} {N : Nat} {w : WD} {a n k : Nat} {f : Nat → Int32} {x : Int32} (ha : Is N w a (ia G n f)) (hk : k < n) (hn : n < 2 ^ 31) : KCon G jX3_put N w [rf G a, .int (nI k), .int x] (fun r w1 => r = none ∧ w1 = va_up w a (ia G n (upd f k x))) := by
  refine KCon.of ([some (rf G a), some (.int (nI k)), some (.int x)]) (by decide) rfl (by simp [Value.category]) (Nat.le_of_ble_eq_true rfl) rfl ?_
  refine k_iload_n 1 dX3_put_0 rfl rfl rfl ?_
  refine k_if_ltN 14 4 dX3_put_1 rfl rfl (by omega) (fun c => ?_) (fun c => ?_)
  · omega
  refine k_iload_n 5 dX3_put_4 rfl rfl rfl ?_
  refine k_aload_n 6 dX3_put_5 rfl rfl rfl ?_
  refine k_alen 7 dX3_put_6 rfl (by (repeat (refine Is.ne ?_ (by omega))); first | assumption | exact Is.up (by omega)) ?_
  refine k_icmp_geN 14 10 dX3_put_7 rfl rfl (by omega) (by omega) (fun c => ?_) (fun c => ?_)
  · omega
  refine k_aload_n 11 dX3_put_10 rfl rfl rfl ?_
  refine k_iload_n 12 dX3_put_11 rfl rfl rfl ?_
  refine k_iload_n 13 dX3_put_12 rfl rfl rfl ?_
  refine k_iastN 14 dX3_put_13 rfl (by (repeat (refine Is.ne ?_ (by omega))); first | assumption | exact Is.up (by omega)) (by omega) (by omega) ?_
  refine k_vret dX3_put_14 rfl rfl (Nat.le_of_ble_eq_true rfl) ⟨rfl, rfl⟩
theorem c_X3_copy {G : KG} {N : Nat} {w : WD} {a b n : Nat} {f g : Nat → Int32} (ha : Is N w a (ia G n f)) (hb : Is N w b (ia G n g)) (hn : n < 1000) : KCon G jX3_copy N w [rf G a, rf G b] (fun r w1 => r = none ∧ w1 = va_up w b (ia G n (va_cpy f g 0 0 n))) := by
  refine KCon.of ([some (rf G a), some (rf G b)]) (by decide) rfl (by simp [Value.category]) (Nat.le_of_ble_eq_true rfl) rfl ?_
  refine k_aload_n 1 dX3_copy_0 rfl rfl rfl ?_
  refine k_iconst (nI 0) 2 dX3_copy_1 rfl kc_0 ?_
  refine k_aload_n 3 dX3_copy_2 rfl rfl rfl ?_
  refine k_iconst (nI 0) 4 dX3_copy_3 rfl kc_0 ?_
  refine k_aload_n 5 dX3_copy_4 rfl rfl rfl ?_
  refine k_alen 6 dX3_copy_5 rfl (by (repeat (refine Is.ne ?_ (by omega))); first | assumption | exact Is.up (by omega)) ?_
  refine k_aload_n 7 dX3_copy_6 rfl rfl rfl ?_
  refine k_alen 8 dX3_copy_7 rfl (by (repeat (refine Is.ne ?_ (by omega))); first | assumption | exact Is.up (by omega)) ?_
  refine k_min _ 11 dX3_copy_8 rfl vX3_copy_7 (Nat.le_of_ble_eq_true rfl) ⟨Nat.le_of_ble_eq_true rfl, Nat.le_of_ble_eq_true rfl⟩ (by simp : _ = nI n) ?_
  refine k_copy 14 dX3_copy_11 rfl vX3_copy_13 ha hb ⟨by omega, by omega⟩ ⟨by omega, by omega⟩ (by decide) (by decide) ?_
  refine k_vret dX3_copy_14 rfl rfl (Nat.le_of_ble_eq_true rfl) ⟨rfl, rfl⟩
theorem c_X3_isMultiple {G : KG} {N : Nat} {w : WD} {a b : Nat} (ha : a < 2 ^ 31) (h0 : 0 < b) (hb : b < 2 ^ 31) : KCon G jX3_isMultiple N w [.int (nI a), .int (nI b)] (fun r w1 => r = some (.int (bI (decide (a % b = 0)))) ∧ w1 = w) := by
  have hm : a % b < 2 ^ 31 := Nat.lt_of_lt_of_le (Nat.mod_lt _ h0) (by omega)
  refine KCon.of ([some (.int (nI a)), some (.int (nI b))]) (by decide) rfl (by simp [Value.category]) (Nat.le_of_ble_eq_true rfl) rfl ?_
  refine k_iload_n 1 dX3_isMultiple_0 rfl rfl rfl ?_
  refine k_if_leN 14 4 dX3_isMultiple_1 rfl rfl (by omega) (fun c => ?_) (fun c => ?_)
  · omega
  refine k_iload_n 5 dX3_isMultiple_4 rfl rfl rfl ?_
  refine k_iload_n 6 dX3_isMultiple_5 rfl rfl rfl ?_
  refine k_irem _ 7 dX3_isMultiple_6 rfl (nI_ne0 h0 hb) (pk_rem ha h0 hb) ?_
  refine k_if_neN 14 10 dX3_isMultiple_7 rfl rfl (by omega) (fun c => ?_) (fun c => ?_)
  · refine k_iconst (nI 0) 15 dX3_isMultiple_14 rfl kc_0 ?_
    refine k_zret dX3_isMultiple_15 rfl rfl rfl (Nat.le_of_ble_eq_true rfl) ⟨by simp [bI, c], rfl⟩
  · refine k_iconst (nI 1) 11 dX3_isMultiple_10 rfl kc_1 ?_
    refine k_goto 15 dX3_isMultiple_11 rfl ?_
    refine k_zret dX3_isMultiple_15 rfl rfl rfl (Nat.le_of_ble_eq_true rfl) ⟨by simp [bI, c], rfl⟩
