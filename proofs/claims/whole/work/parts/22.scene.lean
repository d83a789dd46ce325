/-! Scene: what is read -/
theorem c_X4_placeOf {G : KG} {N : Nat} {w : WD} {a n p : Nat} {M : Mo} (h : ScM G N w a n M) (hL : mL M ≤ 7) (hQ : ∀ k, k < mL M → mQ M k < 7) (hp : p < 7) : KCon G jX4_placeOf N w [rf G a, .int (nI p)] (fun r w1 => r = some (.int (pI (plc M p))) ∧ w1 = w) := by
  obtain ⟨l, wh, pu, db, ⟨h0, h1, h2, h3, h4⟩, hl, -⟩ := h
  refine KCon.of ([some (rf G a), some (.int (nI p)), none]) (by decide) rfl (by simp [Value.category]) (Nat.le_of_ble_eq_true rfl) rfl ?_
  refine k_iconst (nI 0) 1 dX4_placeOf_0 rfl kc_0 ?_
  refine k_istore_n _ 2 dX4_placeOf_1 rfl rfl (by decide) rfl rfl ?_
  have loop : ∀ d k, k + d = mL M → (∀ j, j < k → mQ M j ≠ p) → KRun G jX4_placeOf N (fun r w1 => r = some (.int (pI (plc M p))) ∧ w1 = w) 2 [some (rf G a), some (.int (nI p)), some (.int (nI k))] [] 0 0 w := by
    intro d
    induction d with
    | zero =>
      intro k hk hf
      refine k_iload_n 3 dX4_placeOf_2 rfl rfl rfl ?_
      refine k_aload_n 4 dX4_placeOf_3 rfl rfl rfl ?_
      refine k_get 7 dX4_placeOf_4 rfl fX4_placeOf_24 (by (repeat (refine Is.ne ?_ (by omega))); first | assumption | exact Is.up (by omega)) (by rfl) ?_
      refine k_icmp_geN 30 10 dX4_placeOf_7 rfl rfl (by omega) (by omega) (fun c => ?_) (fun c => ?_)
      · refine k_bipush (-4) 32 dX4_placeOf_30 rfl kbm_4 ?_
        refine k_iret dX4_placeOf_32 rfl rfl (Nat.le_of_ble_eq_true rfl) ⟨by rw [plc_none (fun j hj => hf j (by omega))]; rfl, rfl⟩
      · omega
    | succ d ih =>
      intro k hk hf
      refine k_iload_n 3 dX4_placeOf_2 rfl rfl rfl ?_
      refine k_aload_n 4 dX4_placeOf_3 rfl rfl rfl ?_
      refine k_get 7 dX4_placeOf_4 rfl fX4_placeOf_24 (by (repeat (refine Is.ne ?_ (by omega))); first | assumption | exact Is.up (by omega)) (by rfl) ?_
      refine k_icmp_geN 30 10 dX4_placeOf_7 rfl rfl (by omega) (by omega) (fun c => ?_) (fun c => ?_)
      · omega
      · refine k_aload_n 11 dX4_placeOf_10 rfl rfl rfl ?_
        refine k_get 14 dX4_placeOf_11 rfl fX4_placeOf_9 (by (repeat (refine Is.ne ?_ (by omega))); first | assumption | exact Is.up (by omega)) (by rfl) ?_
        refine k_iload_n 15 dX4_placeOf_14 rfl rfl rfl ?_
        refine k_S2 18 dX4_placeOf_15 rfl vX4_placeOf_37 (Nat.le_of_ble_eq_true rfl) rfl ⟨Nat.le_of_ble_eq_true rfl, Nat.le_of_ble_eq_true rfl⟩ (c_X3_at h1 (by omega) (by omega)) (fun r9 w9 h9 => ?_)
        obtain ⟨h8, h9⟩ := h9
        subst h8
        have h9 := h9.symm
        subst h9
        refine k_iload_n 19 dX4_placeOf_18 rfl rfl rfl ?_
        rw [hl k (by omega)]
        have := hQ k (by omega)
        refine k_icmp_neN 24 22 dX4_placeOf_19 rfl rfl (by omega) (by omega) (fun c => ?_) (fun c => ?_)
        · refine k_iinc _ _ 27 dX4_placeOf_24 rfl rfl (nI_inc _) (by decide) rfl rfl ?_
          refine k_goto 2 dX4_placeOf_27 rfl ?_
          refine ih (k + 1) (by omega) (fun j hj => ?_)
          by_cases e : j = k
          · subst e
            exact c
          · exact hf j (by omega)
        · refine k_iload_n 23 dX4_placeOf_22 rfl rfl rfl ?_
          refine k_iret dX4_placeOf_23 rfl rfl (Nat.le_of_ble_eq_true rfl) ⟨by rw [plc_first (by omega) c hf]; rfl, rfl⟩
  exact loop (mL M) 0 (by omega) (fun j hj => by omega)
theorem pI_some {k : Nat} (h : k < 1000) : ¬ pI (some k) = -4 := fun e => by
  have h1 := nI_pos (n := k) (by omega)
  rw [show nI k = -4 from e] at h1
  exact h1 (by decide)
theorem c_X4_isQueued {G : KG} {N : Nat} {w : WD} {a n p : Nat} {M : Mo} (h : ScM G N w a n M) (hL : mL M ≤ 7) (hQ : ∀ k, k < mL M → mQ M k < 7) (hp : p < 7) : KCon G jX4_isQueued N w [rf G a, .int (nI p)] (fun r w1 => r = some (.int (bI (plc M p).isSome)) ∧ w1 = w) := by
  have h9 := h
  obtain ⟨l, wh, pu, db, ⟨h0, -⟩, -⟩ := h9
  refine KCon.of ([some (rf G a), some (.int (nI p))]) (by decide) rfl (by simp [Value.category]) (Nat.le_of_ble_eq_true rfl) rfl ?_
  refine k_aload_n 1 dX4_isQueued_0 rfl rfl rfl ?_
  refine k_iload_n 2 dX4_isQueued_1 rfl rfl rfl ?_
  refine k_V1 (ci := 3) 5 dX4_isQueued_2 rfl vX4_isQueued_41 (by (repeat (refine Is.ne ?_ (by omega))); first | assumption | exact Is.up (by omega)) rfl rfl (Nat.le_of_ble_eq_true rfl) rfl ⟨Nat.le_of_ble_eq_true rfl, Nat.le_of_ble_eq_true rfl⟩ (c_X4_placeOf h hL hQ hp) (fun r9 w9 h9 => ?_)
  obtain ⟨h8, h9⟩ := h9
  subst h8
  have h9 := h9.symm
  subst h9
  refine k_bipush (-4) 7 dX4_isQueued_5 rfl kbm_4 ?_
  refine k_icmp_eq 14 10 dX4_isQueued_7 rfl rfl (fun c => ?_) (fun c => ?_)
  · refine k_iconst (nI 0) 15 dX4_isQueued_14 rfl kc_0 ?_
    refine k_zret dX4_isQueued_15 rfl rfl rfl (Nat.le_of_ble_eq_true rfl) ⟨?_, rfl⟩
    cases e : plc M p with
    | none => rfl
    | some k => rw [e] at c; exact absurd c (pI_some (by have := (plc_some e).1; omega))
  · refine k_iconst (nI 1) 11 dX4_isQueued_10 rfl kc_1 ?_
    refine k_goto 15 dX4_isQueued_11 rfl ?_
    refine k_zret dX4_isQueued_15 rfl rfl rfl (Nat.le_of_ble_eq_true rfl) ⟨?_, rfl⟩
    cases e : plc M p with
    | none => rw [e] at c; exact absurd rfl c
    | some k => rfl
theorem c_X4_isServed {G : KG} {N : Nat} {w : WD} {a n p : Nat} {M : Mo} (h : ScM G N w a n M) (hn : n ≤ 7) (hp : p < n) (hw : mW M p ≤ 2) : KCon G jX4_isServed N w [rf G a, .int (nI p)] (fun r w1 => r = some (.int (bI (decide (mW M p = 1)))) ∧ w1 = w) := by
  obtain ⟨l, wh, pu, db, ⟨h0, h1, h2, h3, h4⟩, -, hr, -⟩ := h
  refine KCon.of ([some (rf G a), some (.int (nI p))]) (by decide) rfl (by simp [Value.category]) (Nat.le_of_ble_eq_true rfl) rfl ?_
  refine k_aload_n 1 dX4_isServed_0 rfl rfl rfl ?_
  refine k_get 4 dX4_isServed_1 rfl fX4_isServed_15 (by (repeat (refine Is.ne ?_ (by omega))); first | assumption | exact Is.up (by omega)) (by rfl) ?_
  refine k_iload_n 5 dX4_isServed_4 rfl rfl rfl ?_
  refine k_S2 8 dX4_isServed_5 rfl vX4_isServed_37 (Nat.le_of_ble_eq_true rfl) rfl ⟨Nat.le_of_ble_eq_true rfl, Nat.le_of_ble_eq_true rfl⟩ (c_X3_at h2 (by omega) (by omega)) (fun r9 w9 h9 => ?_)
  obtain ⟨h8, h9⟩ := h9
  subst h8
  have h9 := h9.symm
  subst h9
  refine k_iconst (nI 1) 9 dX4_isServed_8 rfl kc_1 ?_
  rw [hr p hp]
  refine k_icmp_neN 16 12 dX4_isServed_9 rfl rfl (by omega) (by omega) (fun c => ?_) (fun c => ?_)
  · refine k_iconst (nI 0) 17 dX4_isServed_16 rfl kc_0 ?_
    refine k_zret dX4_isServed_17 rfl rfl rfl (Nat.le_of_ble_eq_true rfl) ⟨by simp [bI, c], rfl⟩
  · refine k_iconst (nI 1) 13 dX4_isServed_12 rfl kc_1 ?_
    refine k_goto 17 dX4_isServed_13 rfl ?_
    refine k_zret dX4_isServed_17 rfl rfl rfl (Nat.le_of_ble_eq_true rfl) ⟨by simp [bI, c], rfl⟩
theorem c_X4_debt {G : KG} {N : Nat} {w : WD} {a n p q : Nat} {M : Mo} (h : ScM G N w a n M) (hp : p < 7) (hq : q < 7) : KCon G jX4_debt N w [rf G a, .int (nI p), .int (nI q)] (fun r w1 => r = some (.int (nI (mD M (7 * p + q)))) ∧ w1 = w) := by
  obtain ⟨l, wh, pu, db, ⟨h0, h1, h2, h3, h4⟩, -, -, -, hd⟩ := h
  refine KCon.of ([some (rf G a), some (.int (nI p)), some (.int (nI q))]) (by decide) rfl (by simp [Value.category]) (Nat.le_of_ble_eq_true rfl) rfl ?_
  refine k_aload_n 1 dX4_debt_0 rfl rfl rfl ?_
  refine k_get 4 dX4_debt_1 rfl fX4_debt_21 (by (repeat (refine Is.ne ?_ (by omega))); first | assumption | exact Is.up (by omega)) (by rfl) ?_
  refine k_iload_n 5 dX4_debt_4 rfl rfl rfl ?_
  refine k_bipush (nI 7) 7 dX4_debt_5 rfl kb_7 ?_
  first | refine k_imulE _ 8 dX4_debt_7 rfl (pk_mul _ _) ?_ | refine k_imul 8 dX4_debt_7 rfl ?_
  refine k_iload_n 9 dX4_debt_8 rfl rfl rfl ?_
  first | refine k_iaddE _ 10 dX4_debt_9 rfl (nI_add _ _) ?_ | refine k_iadd 10 dX4_debt_9 rfl ?_
  refine k_S2 13 dX4_debt_10 rfl vX4_debt_37 (Nat.le_of_ble_eq_true rfl) rfl ⟨Nat.le_of_ble_eq_true rfl, Nat.le_of_ble_eq_true rfl⟩ (c_X3_at h4 (by omega) (by omega)) (fun r9 w9 h9 => ?_)
  obtain ⟨h8, h9⟩ := h9
  subst h8
  have h9 := h9.symm
  subst h9
  refine k_iret dX4_debt_13 rfl rfl (Nat.le_of_ble_eq_true rfl) ⟨by rw [hd _ (by omega), Nat.mul_comm], rfl⟩
theorem c_X4_dueOf {G : KG} {N : Nat} {w : WD} {a n p : Nat} {M : Mo} (h : ScM G N w a n M) (hp : p < 7) : KCon G jX4_dueOf N w [rf G a, .int (nI p)] (fun r w1 => r = some (.int (iZ (due M p))) ∧ w1 = w) := by
  have h9 := h
  obtain ⟨l, wh, pu, db, ⟨h0, -⟩, -⟩ := h9
  refine KCon.of ([some (rf G a), some (.int (nI p)), none, none]) (by decide) rfl (by simp [Value.category]) (Nat.le_of_ble_eq_true rfl) rfl ?_
  refine k_iconst (nI 0) 1 dX4_dueOf_0 rfl kc_0 ?_
  refine k_istore_n _ 2 dX4_dueOf_1 rfl rfl (by decide) rfl rfl ?_
  refine k_iconst (nI 0) 3 dX4_dueOf_2 rfl kc_0 ?_
  refine k_istore_n _ 4 dX4_dueOf_3 rfl rfl (by decide) rfl rfl ?_
  have loop : ∀ d q, q + d = 7 → KRun G jX4_dueOf N (fun r w1 => r = some (.int (iZ (due M p))) ∧ w1 = w) 4 [some (rf G a), some (.int (nI p)), some (.int (iZ (dzf (mD M) p q))), some (.int (nI q))] [] 0 0 w := by
    intro d
    induction d with
    | zero =>
      intro q hq
      refine k_iload_n 5 dX4_dueOf_4 rfl rfl rfl ?_
      refine k_bipush (nI 7) 7 dX4_dueOf_5 rfl kb_7 ?_
      refine k_icmp_geN 32 10 dX4_dueOf_7 rfl rfl (by omega) (by omega) (fun c => ?_) (fun c => ?_)
      · refine k_iload_n 33 dX4_dueOf_32 rfl rfl rfl ?_
        refine k_iret dX4_dueOf_33 rfl rfl (Nat.le_of_ble_eq_true rfl) ⟨by rw [show q = 7 by omega]; rfl, rfl⟩
      · omega
    | succ d ih =>
      intro q hq
      refine k_iload_n 5 dX4_dueOf_4 rfl rfl rfl ?_
      refine k_bipush (nI 7) 7 dX4_dueOf_5 rfl kb_7 ?_
      refine k_icmp_geN 32 10 dX4_dueOf_7 rfl rfl (by omega) (by omega) (fun c => ?_) (fun c => ?_)
      · omega
      · refine k_iload_n 11 dX4_dueOf_10 rfl rfl rfl ?_
        refine k_aload_n 12 dX4_dueOf_11 rfl rfl rfl ?_
        refine k_iload_n 13 dX4_dueOf_12 rfl rfl rfl ?_
        refine k_iload_n 14 dX4_dueOf_13 rfl rfl rfl ?_
        refine k_V2 (ci := 3) 17 dX4_dueOf_14 rfl vX4_dueOf_54 (by (repeat (refine Is.ne ?_ (by omega))); first | assumption | exact Is.up (by omega)) rfl rfl (Nat.le_of_ble_eq_true rfl) rfl ⟨Nat.le_of_ble_eq_true rfl, Nat.le_of_ble_eq_true rfl⟩ (c_X4_debt h (by omega) hp) (fun r9 w9 h9 => ?_)
        obtain ⟨h8, h9⟩ := h9
        subst h8
        have h9 := h9.symm
        subst h9
        refine k_aload_n 18 dX4_dueOf_17 rfl rfl rfl ?_
        refine k_iload_n 19 dX4_dueOf_18 rfl rfl rfl ?_
        refine k_iload_n 20 dX4_dueOf_19 rfl rfl rfl ?_
        refine k_V2 (ci := 3) 23 dX4_dueOf_20 rfl vX4_dueOf_54 (by (repeat (refine Is.ne ?_ (by omega))); first | assumption | exact Is.up (by omega)) rfl rfl (Nat.le_of_ble_eq_true rfl) rfl ⟨Nat.le_of_ble_eq_true rfl, Nat.le_of_ble_eq_true rfl⟩ (c_X4_debt h hp (by omega)) (fun r9 w9 h9 => ?_)
        obtain ⟨h8, h9⟩ := h9
        subst h8
        have h9 := h9.symm
        subst h9
        refine k_isubE (iZ ((mD M (7 * q + p) : Int) - (mD M (7 * p + q) : Int))) 24 dX4_dueOf_23 rfl (by rw [← iZ_nat, ← iZ_nat, iZ_sub]) ?_
        refine k_iaddE _ 25 dX4_dueOf_24 rfl (iZ_add _ _) ?_
        refine k_istore_n _ 26 dX4_dueOf_25 rfl rfl (by decide) rfl rfl ?_
        refine k_iinc _ _ 29 dX4_dueOf_26 rfl rfl (nI_inc _) (by decide) rfl rfl ?_
        refine k_goto 4 dX4_dueOf_29 rfl ?_
        exact ih (q + 1) (by omega)
  exact loop 7 0 (by omega)
theorem c_X4_owedInAll {G : KG} {N : Nat} {w : WD} {a n : Nat} {M : Mo} (h : ScM G N w a n M) : KCon G jX4_owedInAll N w [rf G a] (fun r w1 => r = some (.int (nI (owf (mD M) 49))) ∧ w1 = w) := by
  obtain ⟨l, wh, pu, db, ⟨h0, h1, h2, h3, h4⟩, -, -, -, hd⟩ := h
  refine KCon.of ([some (rf G a), none, none]) (by decide) rfl (by simp [Value.category]) (Nat.le_of_ble_eq_true rfl) rfl ?_
  refine k_iconst (nI 0) 1 dX4_owedInAll_0 rfl kc_0 ?_
  refine k_istore_n _ 2 dX4_owedInAll_1 rfl rfl (by decide) rfl rfl ?_
  refine k_iconst (nI 0) 3 dX4_owedInAll_2 rfl kc_0 ?_
  refine k_istore_n _ 4 dX4_owedInAll_3 rfl rfl (by decide) rfl rfl ?_
  have loop : ∀ d i, i + d = 49 → KRun G jX4_owedInAll N (fun r w1 => r = some (.int (nI (owf (mD M) 49))) ∧ w1 = w) 4 [some (rf G a), some (.int (nI (owf (mD M) i))), some (.int (nI i))] [] 0 0 w := by
    intro d
    induction d with
    | zero =>
      intro i hi
      refine k_iload_n 5 dX4_owedInAll_4 rfl rfl rfl ?_
      refine k_aload_n 6 dX4_owedInAll_5 rfl rfl rfl ?_
      refine k_get 9 dX4_owedInAll_6 rfl fX4_owedInAll_21 (by (repeat (refine Is.ne ?_ (by omega))); first | assumption | exact Is.up (by omega)) (by rfl) ?_
      refine k_alen 10 dX4_owedInAll_9 rfl (by (repeat (refine Is.ne ?_ (by omega))); first | assumption | exact Is.up (by omega)) ?_
      refine k_icmp_geN 28 13 dX4_owedInAll_10 rfl rfl (by omega) (by omega) (fun c => ?_) (fun c => ?_)
      · refine k_iload_n 29 dX4_owedInAll_28 rfl rfl rfl ?_
        refine k_iret dX4_owedInAll_29 rfl rfl (Nat.le_of_ble_eq_true rfl) ⟨by rw [show i = 49 by omega], rfl⟩
      · omega
    | succ d ih =>
      intro i hi
      refine k_iload_n 5 dX4_owedInAll_4 rfl rfl rfl ?_
      refine k_aload_n 6 dX4_owedInAll_5 rfl rfl rfl ?_
      refine k_get 9 dX4_owedInAll_6 rfl fX4_owedInAll_21 (by (repeat (refine Is.ne ?_ (by omega))); first | assumption | exact Is.up (by omega)) (by rfl) ?_
      refine k_alen 10 dX4_owedInAll_9 rfl (by (repeat (refine Is.ne ?_ (by omega))); first | assumption | exact Is.up (by omega)) ?_
      refine k_icmp_geN 28 13 dX4_owedInAll_10 rfl rfl (by omega) (by omega) (fun c => ?_) (fun c => ?_)
      · omega
      · refine k_iload_n 14 dX4_owedInAll_13 rfl rfl rfl ?_
        refine k_aload_n 15 dX4_owedInAll_14 rfl rfl rfl ?_
        refine k_get 18 dX4_owedInAll_15 rfl fX4_owedInAll_21 (by (repeat (refine Is.ne ?_ (by omega))); first | assumption | exact Is.up (by omega)) (by rfl) ?_
        refine k_iload_n 19 dX4_owedInAll_18 rfl rfl rfl ?_
        refine k_ialdN 20 dX4_owedInAll_19 rfl (by (repeat (refine Is.ne ?_ (by omega))); first | assumption | exact Is.up (by omega)) (by omega) (by omega) ?_
        rw [hd i (by omega)]
        first | refine k_iaddE _ 21 dX4_owedInAll_20 rfl (nI_add _ _) ?_ | refine k_iadd 21 dX4_owedInAll_20 rfl ?_
        refine k_istore_n _ 22 dX4_owedInAll_21 rfl rfl (by decide) rfl rfl ?_
        refine k_iinc _ _ 25 dX4_owedInAll_22 rfl rfl (nI_inc _) (by decide) rfl rfl ?_
        refine k_goto 4 dX4_owedInAll_25 rfl ?_
        exact ih (i + 1) (by omega)
  exact loop 49 0 (by omega)
def cnt (f : Nat → Nat) (v : Nat) : Nat → Nat
  | 0 => 0
  | n + 1 => cnt f v n + if f n = v then 1 else 0
theorem c_X4_numberOf {G : KG} {N : Nat} {w : WD} {a b n v : Nat} {M : Mo} {F : Fo} (h : ScM G N w a n M) (hF : FkM G N w b F) (hn : n = oN F) (hn7 : n ≤ 7) (hw : ∀ p, p < n → mW M p ≤ 2) (hv : v ≤ 2) : KCon G jX4_numberOf N w [rf G a, rf G b, .int (nI v)] (fun r w1 => r = some (.int (nI (cnt (mW M) v n))) ∧ w1 = w) := by
  obtain ⟨l, wh, pu, db, ⟨h0, h1, h2, h3, h4⟩, -, hr, -⟩ := h
  obtain ⟨kd, wo, pe, ⟨g0, g1, g2, g3⟩, -⟩ := hF
  subst hn
  refine KCon.of ([some (rf G a), some (rf G b), some (.int (nI v)), none, none]) (by decide) rfl (by simp [Value.category]) (Nat.le_of_ble_eq_true rfl) rfl ?_
  refine k_iconst (nI 0) 1 dX4_numberOf_0 rfl kc_0 ?_
  refine k_istore_n _ 2 dX4_numberOf_1 rfl rfl (by decide) rfl rfl ?_
  refine k_iconst (nI 0) 3 dX4_numberOf_2 rfl kc_0 ?_
  refine k_istore _ 5 dX4_numberOf_3 rfl (by decide) rfl rfl ?_
  have loop : ∀ d i, i + d = oN F → KRun G jX4_numberOf N (fun r w1 => r = some (.int (nI (cnt (mW M) v (oN F)))) ∧ w1 = w) 5 [some (rf G a), some (rf G b), some (.int (nI v)), some (.int (nI (cnt (mW M) v i))), some (.int (nI i))] [] 0 0 w := by
    intro d
    induction d with
    | zero =>
      intro i hi
      refine k_iload 7 dX4_numberOf_5 rfl rfl ?_
      refine k_aload_n 8 dX4_numberOf_7 rfl rfl rfl ?_
      refine k_get 11 dX4_numberOf_8 rfl fX4_numberOf_45 (by (repeat (refine Is.ne ?_ (by omega))); first | assumption | exact Is.up (by omega)) (by rfl) ?_
      refine k_icmp_geN 36 14 dX4_numberOf_11 rfl rfl (by omega) (by omega) (fun c => ?_) (fun c => ?_)
      · refine k_iload_n 37 dX4_numberOf_36 rfl rfl rfl ?_
        refine k_iret dX4_numberOf_37 rfl rfl (Nat.le_of_ble_eq_true rfl) ⟨by rw [show i = oN F by omega], rfl⟩
      · omega
    | succ d ih =>
      intro i hi
      have := hw i (by omega)
      refine k_iload 7 dX4_numberOf_5 rfl rfl ?_
      refine k_aload_n 8 dX4_numberOf_7 rfl rfl rfl ?_
      refine k_get 11 dX4_numberOf_8 rfl fX4_numberOf_45 (by (repeat (refine Is.ne ?_ (by omega))); first | assumption | exact Is.up (by omega)) (by rfl) ?_
      refine k_icmp_geN 36 14 dX4_numberOf_11 rfl rfl (by omega) (by omega) (fun c => ?_) (fun c => ?_)
      · omega
      · refine k_aload_n 15 dX4_numberOf_14 rfl rfl rfl ?_
        refine k_get 18 dX4_numberOf_15 rfl fX4_numberOf_15 (by (repeat (refine Is.ne ?_ (by omega))); first | assumption | exact Is.up (by omega)) (by rfl) ?_
        refine k_iload 20 dX4_numberOf_18 rfl rfl ?_
        refine k_S2 23 dX4_numberOf_20 rfl vX4_numberOf_37 (Nat.le_of_ble_eq_true rfl) rfl ⟨Nat.le_of_ble_eq_true rfl, Nat.le_of_ble_eq_true rfl⟩ (c_X3_at h2 (by omega) (by omega)) (fun r9 w9 h9 => ?_)
        obtain ⟨h8, h9⟩ := h9
        subst h8
        have h9 := h9.symm
        subst h9
        refine k_iload_n 24 dX4_numberOf_23 rfl rfl rfl ?_
        rw [hr i (by omega)]
        refine k_icmp_neN 30 27 dX4_numberOf_24 rfl rfl (by omega) (by omega) (fun c => ?_) (fun c => ?_)
        · refine k_iinc _ _ 33 dX4_numberOf_30 rfl rfl (nI_inc _) (by decide) rfl rfl ?_
          refine k_goto 5 dX4_numberOf_33 rfl ?_
          have := ih (i + 1) (by omega)
          simp only [cnt, if_neg c, Nat.add_zero] at this
          exact this
        · refine k_iinc _ _ 30 dX4_numberOf_27 rfl rfl (nI_inc _) (by decide) rfl rfl ?_
          refine k_iinc _ _ 33 dX4_numberOf_30 rfl rfl (nI_inc _) (by decide) rfl rfl ?_
          refine k_goto 5 dX4_numberOf_33 rfl ?_
          have := ih (i + 1) (by omega)
          simp only [cnt, if_pos c] at this
          exact this
  exact loop (oN F) 0 (by omega)
theorem c_X4_canLet {G : KG} {N : Nat} {w : WD} {a n p q : Nat} {M : Mo} (h : ScM G N w a n M) (hL : mL M ≤ 7) (hQ : ∀ k, k < mL M → mQ M k < 7) (hp : p < 7) (hq : q < 7) : KCon G jX4_canLet N w [rf G a, .int (nI p), .int (nI q)] (fun r w1 => r = some (.int (bI (mayl M p q))) ∧ w1 = w) := by
  have h9 := h
  obtain ⟨l, wh, pu, db, ⟨h0, -⟩, -⟩ := h9
  refine KCon.of ([some (rf G a), some (.int (nI p)), some (.int (nI q)), none]) (by decide) rfl (by simp [Value.category]) (Nat.le_of_ble_eq_true rfl) rfl ?_
  refine k_aload_n 1 dX4_canLet_0 rfl rfl rfl ?_
  refine k_iload_n 2 dX4_canLet_1 rfl rfl rfl ?_
  refine k_V1 (ci := 3) 5 dX4_canLet_2 rfl vX4_canLet_41 (by (repeat (refine Is.ne ?_ (by omega))); first | assumption | exact Is.up (by omega)) rfl rfl (Nat.le_of_ble_eq_true rfl) rfl ⟨Nat.le_of_ble_eq_true rfl, Nat.le_of_ble_eq_true rfl⟩ (c_X4_placeOf h hL hQ hp) (fun r9 w9 h9 => ?_)
  obtain ⟨h8, h9⟩ := h9
  subst h8
  have h9 := h9.symm
  subst h9
  refine k_istore_n _ 6 dX4_canLet_5 rfl rfl (by decide) rfl rfl ?_
  refine k_iload_n 7 dX4_canLet_6 rfl rfl rfl ?_
  refine k_bipush (-4) 9 dX4_canLet_7 rfl kbm_4 ?_
  cases e : plc M p with
  | none =>
    refine k_icmp_eq 25 12 dX4_canLet_9 rfl rfl (fun c => ?_) (fun c => ?_)
    · refine k_iconst (nI 0) 26 dX4_canLet_25 rfl kc_0 ?_
      refine k_zret dX4_canLet_26 rfl rfl rfl (Nat.le_of_ble_eq_true rfl) ⟨by simp [mayl, e, bI], rfl⟩
    · exact absurd rfl c
  | some i =>
    have hi := (plc_some e).1
    refine k_icmp_eq 25 12 dX4_canLet_9 rfl rfl (fun c => ?_) (fun c => ?_)
    · exact absurd c (pI_some (by omega))
    · refine k_aload_n 13 dX4_canLet_12 rfl rfl rfl ?_
      refine k_iload_n 14 dX4_canLet_13 rfl rfl rfl ?_
      refine k_V1 (ci := 3) 17 dX4_canLet_14 rfl vX4_canLet_41 (by (repeat (refine Is.ne ?_ (by omega))); first | assumption | exact Is.up (by omega)) rfl rfl (Nat.le_of_ble_eq_true rfl) rfl ⟨Nat.le_of_ble_eq_true rfl, Nat.le_of_ble_eq_true rfl⟩ (c_X4_placeOf h hL hQ hq) (fun r9 w9 h9 => ?_)
      obtain ⟨h8, h9⟩ := h9
      subst h8
      have h9 := h9.symm
      subst h9
      refine k_iload_n 18 dX4_canLet_17 rfl rfl rfl ?_
      cases e2 : plc M q with
      | none =>
        refine k_icmp_le 25 21 dX4_canLet_18 rfl rfl (fun c => ?_) (fun c => ?_)
        · refine k_iconst (nI 0) 26 dX4_canLet_25 rfl kc_0 ?_
          refine k_zret dX4_canLet_26 rfl rfl rfl (Nat.le_of_ble_eq_true rfl) ⟨by simp [mayl, e, e2, bI], rfl⟩
        · exact absurd (show (-4 : Int32) ≤ nI i from Int32.le_trans (by decide) (nI_pos' (n := i) (by omega))) c
      | some j =>
        have hj := (plc_some e2).1
        refine k_icmp_leN 25 21 dX4_canLet_18 rfl rfl (by omega) (by omega) (fun c => ?_) (fun c => ?_)
        · refine k_iconst (nI 0) 26 dX4_canLet_25 rfl kc_0 ?_
          refine k_zret dX4_canLet_26 rfl rfl rfl (Nat.le_of_ble_eq_true rfl) ⟨by simp [mayl, e, e2, bI, Nat.not_lt.mpr c], rfl⟩
        · refine k_iconst (nI 1) 22 dX4_canLet_21 rfl kc_1 ?_
          refine k_goto 26 dX4_canLet_22 rfl ?_
          refine k_zret dX4_canLet_26 rfl rfl rfl (Nat.le_of_ble_eq_true rfl) ⟨by simp [mayl, e, e2, bI, c], rfl⟩
