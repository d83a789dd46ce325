/-! Scene: what is written -/
theorem c_X4_insertR {G : KG} {N : Nat} {w : WD} {a p k L g : Nat} {l wh pu db : Nat → Int32} (h : ScR G N w a l wh pu db L g) (hL : L < 7) (hk : k ≤ L) (hp : p < 7) : KCon G jX4_insert N w [rf G a, .int (nI p), .int (nI k)] (fun r w1 => r = none ∧ (∃ l1 : Nat → Int32, ScR G N w1 a l1 (upd wh p (nI 0)) pu db (L + 1) g ∧ ∀ j, j ≤ L → l1 j = if j < k then l j else if j = k then nI p else l (j - 1)) ∧ Eqx w w1 a (a + 5)) := by
  obtain ⟨h0, h1, h2, h3, h4⟩ := h
  have hN := h4.1
  refine KCon.of ([some (rf G a), some (.int (nI p)), some (.int (nI k)), none]) (by decide) rfl (by simp [Value.category]) (Nat.le_of_ble_eq_true rfl) rfl ?_
  refine k_aload_n 1 dX4_insert_0 rfl rfl rfl ?_
  refine k_get 4 dX4_insert_1 rfl fX4_insert_24 (by (repeat (refine Is.ne ?_ (by omega))); first | assumption | exact Is.up (by omega)) (by rfl) ?_
  refine k_istore_n _ 5 dX4_insert_4 rfl rfl (by decide) rfl rfl ?_
  have loop : ∀ d i (w1 : WD) (f : Nat → Int32), k + d = i → i ≤ L → ScR G N w1 a f wh pu db L g → Eqx w w1 a (a + 5) → (∀ j, j ≤ L → f j = if i < j then l (j - 1) else l j) → KRun G jX4_insert N (fun r w1 => r = none ∧ (∃ l1 : Nat → Int32, ScR G N w1 a l1 (upd wh p (nI 0)) pu db (L + 1) g ∧ ∀ j, j ≤ L → l1 j = if j < k then l j else if j = k then nI p else l (j - 1)) ∧ Eqx w w1 a (a + 5)) 5 [some (rf G a), some (.int (nI p)), some (.int (nI k)), some (.int (nI i))] [] 0 0 w1 := by
    intro d
    induction d with
    | zero =>
      intro i w1 f hi hiL ⟨g0, g1, g2, g3, g4⟩ hE hf
      refine k_iload_n 6 dX4_insert_5 rfl rfl rfl ?_
      refine k_iload_n 7 dX4_insert_6 rfl rfl rfl ?_
      refine k_icmp_leN 34 10 dX4_insert_7 rfl rfl (by omega) (by omega) (fun c => ?_) (fun c => ?_)
      · refine k_aload_n 35 dX4_insert_34 rfl rfl rfl ?_
        refine k_get 38 dX4_insert_35 rfl fX4_insert_9 (by (repeat (refine Is.ne ?_ (by omega))); first | assumption | exact Is.up (by omega)) (by rfl) ?_
        refine k_iload_n 39 dX4_insert_38 rfl rfl rfl ?_
        refine k_iload_n 40 dX4_insert_39 rfl rfl rfl ?_
        refine k_S3 43 dX4_insert_40 rfl vX4_insert_50 (Nat.le_of_ble_eq_true rfl) rfl ⟨Nat.le_of_ble_eq_true rfl, Nat.le_of_ble_eq_true rfl⟩ (c_X3_put (by (repeat (refine Is.ne ?_ (by omega))); first | assumption | exact Is.up (by omega)) (by omega) (by omega)) (fun r9 w9 h9 => ?_)
        obtain ⟨h8, h9⟩ := h9
        subst h8
        have h9 := h9.symm
        subst h9
        refine k_aload_n 44 dX4_insert_43 rfl rfl rfl ?_
        refine k_get 47 dX4_insert_44 rfl fX4_insert_15 (by (repeat (refine Is.ne ?_ (by omega))); first | assumption | exact Is.up (by omega)) (by rfl) ?_
        refine k_iload_n 48 dX4_insert_47 rfl rfl rfl ?_
        refine k_iconst (nI 0) 49 dX4_insert_48 rfl kc_0 ?_
        refine k_S3 52 dX4_insert_49 rfl vX4_insert_50 (Nat.le_of_ble_eq_true rfl) rfl ⟨Nat.le_of_ble_eq_true rfl, Nat.le_of_ble_eq_true rfl⟩ (c_X3_put (by (repeat (refine Is.ne ?_ (by omega))); first | assumption | exact Is.up (by omega)) (by omega) (by omega)) (fun r9 w9 h9 => ?_)
        obtain ⟨h8, h9⟩ := h9
        subst h8
        have h9 := h9.symm
        subst h9
        refine k_aload_n 53 dX4_insert_52 rfl rfl rfl ?_
        refine k_dup 54 dX4_insert_53 rfl rfl ?_
        refine k_get 57 dX4_insert_54 rfl fX4_insert_24 (by (repeat (refine Is.ne ?_ (by omega))); first | assumption | exact Is.up (by omega)) (by rfl) ?_
        refine k_iconst (nI 1) 58 dX4_insert_57 rfl kc_1 ?_
        first | refine k_iaddE _ 59 dX4_insert_58 rfl (nI_add _ _) ?_ | refine k_iadd 59 dX4_insert_58 rfl ?_
        refine k_put 62 dX4_insert_59 rfl pX4_insert_24 (by (repeat (refine Is.ne ?_ (by omega))); first | assumption | exact Is.up (by omega)) (Nat.le_of_ble_eq_true rfl) rfl rfl ?_
        refine k_vret dX4_insert_62 rfl rfl (Nat.le_of_ble_eq_true rfl) ⟨rfl, ⟨upd f k (nI p), ⟨(by (repeat (refine Is.ne ?_ (by omega))); first | assumption | exact Is.up (by omega)), (by (repeat (refine Is.ne ?_ (by omega))); first | assumption | exact Is.up (by omega)), (by (repeat (refine Is.ne ?_ (by omega))); first | assumption | exact Is.up (by omega)), (by (repeat (refine Is.ne ?_ (by omega))); first | assumption | exact Is.up (by omega)), (by (repeat (refine Is.ne ?_ (by omega))); first | assumption | exact Is.up (by omega))⟩, fun j hj => ?_⟩, (by (repeat (refine Eqx.up ?_ (by omega) (by omega))); first | exact Eqx.rf | assumption)⟩
        by_cases e : j = k
        · subst e
          rw [upd_s]
          simp
        · rw [upd_n _ _ e, hf j hj]
          by_cases e2 : j < k
          · rw [if_neg (by omega), if_pos e2]
          · rw [if_pos (by omega), if_neg e2, if_neg e]
      · omega
    | succ d ih =>
      intro i w1 f hi hiL ⟨g0, g1, g2, g3, g4⟩ hE hf
      obtain ⟨i, rfl⟩ : ∃ z, i = z + 1 := ⟨i - 1, by omega⟩
      refine k_iload_n 6 dX4_insert_5 rfl rfl rfl ?_
      refine k_iload_n 7 dX4_insert_6 rfl rfl rfl ?_
      refine k_icmp_leN 34 10 dX4_insert_7 rfl rfl (by omega) (by omega) (fun c => ?_) (fun c => ?_)
      · omega
      · refine k_aload_n 11 dX4_insert_10 rfl rfl rfl ?_
        refine k_get 14 dX4_insert_11 rfl fX4_insert_9 (by (repeat (refine Is.ne ?_ (by omega))); first | assumption | exact Is.up (by omega)) (by rfl) ?_
        refine k_iload_n 15 dX4_insert_14 rfl rfl rfl ?_
        refine k_aload_n 16 dX4_insert_15 rfl rfl rfl ?_
        refine k_get 19 dX4_insert_16 rfl fX4_insert_9 (by (repeat (refine Is.ne ?_ (by omega))); first | assumption | exact Is.up (by omega)) (by rfl) ?_
        refine k_iload_n 20 dX4_insert_19 rfl rfl rfl ?_
        refine k_iconst (nI 1) 21 dX4_insert_20 rfl kc_1 ?_
        first | refine k_isubE _ 22 dX4_insert_21 rfl (pk_sub (by omega)) ?_ | refine k_isub 22 dX4_insert_21 rfl ?_
        refine k_S2 25 dX4_insert_22 rfl vX4_insert_37 (Nat.le_of_ble_eq_true rfl) rfl ⟨Nat.le_of_ble_eq_true rfl, Nat.le_of_ble_eq_true rfl⟩ (c_X3_at (by (repeat (refine Is.ne ?_ (by omega))); first | assumption | exact Is.up (by omega)) (by omega) (by omega)) (fun r9 w9 h9 => ?_)
        obtain ⟨h8, h9⟩ := h9
        subst h8
        have h9 := h9.symm
        subst h9
        refine k_S3 28 dX4_insert_25 rfl vX4_insert_50 (Nat.le_of_ble_eq_true rfl) rfl ⟨Nat.le_of_ble_eq_true rfl, Nat.le_of_ble_eq_true rfl⟩ (c_X3_put (by (repeat (refine Is.ne ?_ (by omega))); first | assumption | exact Is.up (by omega)) (by omega) (by omega)) (fun r9 w9 h9 => ?_)
        obtain ⟨h8, h9⟩ := h9
        subst h8
        have h9 := h9.symm
        subst h9
        refine k_iinc _ _ 31 dX4_insert_28 rfl rfl (nI_dec _) (by decide) rfl rfl ?_
        refine k_goto 5 dX4_insert_31 rfl ?_
        refine ih i _ (upd f (i + 1) (f (i + 1 - 1))) (by omega) (by omega) ?_ ?_ (fun j hj => ?_)
        · exact ⟨(by (repeat (refine Is.ne ?_ (by omega))); first | assumption | exact Is.up (by omega)), (by (repeat (refine Is.ne ?_ (by omega))); first | assumption | exact Is.up (by omega)), (by (repeat (refine Is.ne ?_ (by omega))); first | assumption | exact Is.up (by omega)), (by (repeat (refine Is.ne ?_ (by omega))); first | assumption | exact Is.up (by omega)), (by (repeat (refine Is.ne ?_ (by omega))); first | assumption | exact Is.up (by omega))⟩
        · exact (by (repeat (refine Eqx.up ?_ (by omega) (by omega))); first | exact Eqx.rf | assumption)
        by_cases e : j = i + 1
        · subst e
          rw [upd_s, hf _ (by omega), if_neg (by omega), if_pos (by omega)]
        · rw [upd_n _ _ e, hf j hj]
          by_cases e2 : i + 1 < j
          · rw [if_pos e2, if_pos (by omega)]
          · rw [if_neg e2, if_neg (by omega)]
  exact loop (L - k) L w l (by omega) (by omega) ⟨h0, h1, h2, h3, h4⟩ Eqx.rf (fun j hj => by rw [if_neg (by omega)])
theorem c_X4_insert {G : KG} {N : Nat} {w : WD} {a n p k : Nat} {M : Mo} (h : ScM G N w a n M) (hL : mL M < 7) (hk : k ≤ mL M) (hp : p < 7) (hn : n ≤ 7) : KCon G jX4_insert N w [rf G a, .int (nI p), .int (nI k)] (fun r w1 => r = none ∧ ScM G N w1 a n (ins M p k) ∧ Eqx w w1 a (a + 5)) := by
  obtain ⟨l, wh, pu, db, hR, hl, hw, hu, hd⟩ := h
  refine KCon.imp (c_X4_insertR hR hL hk hp) (fun r w1 ⟨e, ⟨l1, hR1, hl1⟩, hE⟩ => ⟨e, ⟨l1, _, _, _, hR1, fun j hj => ?_, fun q hq => ?_, hu, hd⟩, hE⟩)
  · have hj : j < mL M + 1 := hj
    rw [hl1 j (by omega)]
    show _ = nI (if j < k then mQ M j else if j = k then p else mQ M (j - 1))
    by_cases e1 : j < k
    · rw [if_pos e1, if_pos e1, hl j (by omega)]
    · rw [if_neg e1, if_neg e1]
      by_cases e2 : j = k
      · rw [if_pos e2, if_pos e2]
      · rw [if_neg e2, if_neg e2, hl (j - 1) (by omega)]
  · show upd wh p (nI 0) q = nI (sf (mW M) p 0 q)
    by_cases e : q = p
    · subst e
      rw [upd_s, sf_s]
    · rw [upd_n _ _ e, sf_n _ _ e, hw q hq]
theorem c_X4_append {G : KG} {N : Nat} {w : WD} {a n p : Nat} {M : Mo} (h : ScM G N w a n M) (hL : mL M < 7) (hp : p < 7) (hn : n ≤ 7) : KCon G jX4_append N w [rf G a, .int (nI p)] (fun r w1 => r = none ∧ ScM G N w1 a n (ins M p (mL M)) ∧ Eqx w w1 a (a + 5)) := by
  have h9 := h
  obtain ⟨l, wh, pu, db, ⟨h0, -⟩, -⟩ := h9
  refine KCon.of ([some (rf G a), some (.int (nI p))]) (by decide) rfl (by simp [Value.category]) (Nat.le_of_ble_eq_true rfl) rfl ?_
  refine k_aload_n 1 dX4_append_0 rfl rfl rfl ?_
  refine k_iload_n 2 dX4_append_1 rfl rfl rfl ?_
  refine k_aload_n 3 dX4_append_2 rfl rfl rfl ?_
  refine k_get 6 dX4_append_3 rfl fX4_append_24 (by (repeat (refine Is.ne ?_ (by omega))); first | assumption | exact Is.up (by omega)) (by rfl) ?_
  refine k_V2 (ci := 3) 9 dX4_append_6 rfl vX4_append_58 (by (repeat (refine Is.ne ?_ (by omega))); first | assumption | exact Is.up (by omega)) rfl rfl (Nat.le_of_ble_eq_true rfl) rfl ⟨Nat.le_of_ble_eq_true rfl, Nat.le_of_ble_eq_true rfl⟩ (c_X4_insert h hL (Nat.le_refl _) hp hn) (fun r1 w1 h1 => ?_)
  obtain ⟨rfl, h1⟩ := h1
  refine k_vret dX4_append_9 rfl rfl (Nat.le_of_ble_eq_true rfl) ⟨rfl, h1⟩
theorem c_X4_takeOut {G : KG} {N : Nat} {w : WD} {a n p k st : Nat} {M : Mo} (h : ScM G N w a n M) (hO : mOK n M) (hk : k < mL M) (hp : mQ M k = p) : KCon G jX4_takeOut N w [rf G a, .int (nI p), .int (nI st)] (fun r w1 => r = none ∧ ScM G N w1 a n (rem M k st) ∧ Eqx w w1 a (a + 5)) := by
  have h9 := h
  have hL := ok_l7 hO
  have hQ := ok_q7 hO
  have hpn := hO.2.2.1 k hk
  have hn7 := hO.2.1
  obtain ⟨l, wh, pu, db, ⟨h0, h1, h2, h3, h4⟩, hl, hw, hu, hd⟩ := h9
  have hN := h4.1
  refine KCon.of ([some (rf G a), some (.int (nI p)), some (.int (nI st)), none, none]) (by decide) rfl (by simp [Value.category]) (Nat.le_of_ble_eq_true rfl) rfl ?_
  refine k_aload_n 1 dX4_takeOut_0 rfl rfl rfl ?_
  refine k_iload_n 2 dX4_takeOut_1 rfl rfl rfl ?_
  refine k_V1 (ci := 3) 5 dX4_takeOut_2 rfl vX4_takeOut_41 (by (repeat (refine Is.ne ?_ (by omega))); first | assumption | exact Is.up (by omega)) rfl rfl (Nat.le_of_ble_eq_true rfl) rfl ⟨Nat.le_of_ble_eq_true rfl, Nat.le_of_ble_eq_true rfl⟩ (c_X4_placeOf h hL hQ (by omega)) (fun r9 w9 h9 => ?_)
  obtain ⟨h8, h9⟩ := h9
  subst h8
  have h9 := h9.symm
  subst h9
  refine k_istore_n _ 6 dX4_takeOut_5 rfl rfl (by decide) rfl rfl ?_
  refine k_iload_n 7 dX4_takeOut_6 rfl rfl rfl ?_
  refine k_bipush (-4) 9 dX4_takeOut_7 rfl kbm_4 ?_
  rw [ok_plc hO hk hp]
  refine k_icmp_ne 13 12 dX4_takeOut_9 rfl rfl (fun c => ?_) (fun c => ?_)
  · refine k_aload_n 14 dX4_takeOut_13 rfl rfl rfl ?_
    refine k_dup 15 dX4_takeOut_14 rfl rfl ?_
    refine k_get 18 dX4_takeOut_15 rfl fX4_takeOut_24 (by (repeat (refine Is.ne ?_ (by omega))); first | assumption | exact Is.up (by omega)) (by rfl) ?_
    refine k_iconst (nI 1) 19 dX4_takeOut_18 rfl kc_1 ?_
    first | refine k_isubE _ 20 dX4_takeOut_19 rfl (pk_sub (by omega)) ?_ | refine k_isub 20 dX4_takeOut_19 rfl ?_
    refine k_put 23 dX4_takeOut_20 rfl pX4_takeOut_24 (by (repeat (refine Is.ne ?_ (by omega))); first | assumption | exact Is.up (by omega)) (Nat.le_of_ble_eq_true rfl) rfl rfl ?_
    refine k_iload_n 24 dX4_takeOut_23 rfl rfl rfl ?_
    refine k_istore _ 26 dX4_takeOut_24 rfl (by decide) rfl rfl ?_
    have loop : ∀ d i (w1 : WD) (f : Nat → Int32), i + d = mL M - 1 → k ≤ i → ScR G N w1 a f wh pu db (mL M - 1) (mG M) → Eqx w w1 a (a + 5) → (∀ j, j < 7 → f j = if k ≤ j ∧ j < i then l (j + 1) else l j) → KRun G jX4_takeOut N (fun r w1 => r = none ∧ ScM G N w1 a n (rem M k st) ∧ Eqx w w1 a (a + 5)) 26 [some (rf G a), some (.int (nI p)), some (.int (nI st)), some (.int (nI k)), some (.int (nI i))] [] 0 0 w1 := by
      intro d
      induction d with
      | zero =>
        intro i w1 f hi hki ⟨g0, g1, g2, g3, g4⟩ hE hf
        refine k_iload 28 dX4_takeOut_26 rfl rfl ?_
        refine k_aload_n 29 dX4_takeOut_28 rfl rfl rfl ?_
        refine k_get 32 dX4_takeOut_29 rfl fX4_takeOut_24 (by (repeat (refine Is.ne ?_ (by omega))); first | assumption | exact Is.up (by omega)) (by rfl) ?_
        refine k_icmp_geN 61 35 dX4_takeOut_32 rfl rfl (by omega) (by omega) (fun c => ?_) (fun c => ?_)
        · refine k_aload_n 62 dX4_takeOut_61 rfl rfl rfl ?_
          refine k_get 65 dX4_takeOut_62 rfl fX4_takeOut_15 (by (repeat (refine Is.ne ?_ (by omega))); first | assumption | exact Is.up (by omega)) (by rfl) ?_
          refine k_iload_n 66 dX4_takeOut_65 rfl rfl rfl ?_
          refine k_iload_n 67 dX4_takeOut_66 rfl rfl rfl ?_
          refine k_S3 70 dX4_takeOut_67 rfl vX4_takeOut_50 (Nat.le_of_ble_eq_true rfl) rfl ⟨Nat.le_of_ble_eq_true rfl, Nat.le_of_ble_eq_true rfl⟩ (c_X3_put (by (repeat (refine Is.ne ?_ (by omega))); first | assumption | exact Is.up (by omega)) (by omega) (by omega)) (fun r9 w9 h9 => ?_)
          obtain ⟨h8, h9⟩ := h9
          subst h8
          have h9 := h9.symm
          subst h9
          refine k_vret dX4_takeOut_70 rfl rfl (Nat.le_of_ble_eq_true rfl) ⟨rfl, ⟨f, _, _, _, ⟨(by (repeat (refine Is.ne ?_ (by omega))); first | assumption | exact Is.up (by omega)), (by (repeat (refine Is.ne ?_ (by omega))); first | assumption | exact Is.up (by omega)), (by (repeat (refine Is.ne ?_ (by omega))); first | assumption | exact Is.up (by omega)), (by (repeat (refine Is.ne ?_ (by omega))); first | assumption | exact Is.up (by omega)), (by (repeat (refine Is.ne ?_ (by omega))); first | assumption | exact Is.up (by omega))⟩, fun j hj => ?_, fun q hq => ?_, hu, hd⟩, (by (repeat (refine Eqx.up ?_ (by omega) (by omega))); first | exact Eqx.rf | assumption)⟩
          · have hj : j < mL M - 1 := hj
            rw [hf j (by omega)]
            show _ = nI (if j < k then mQ M j else mQ M (j + 1))
            by_cases e : j < k
            · rw [if_neg (by omega), if_pos e, hl j (by omega)]
            · rw [if_pos (by omega), if_neg e, hl (j + 1) (by omega)]
          · show upd wh p (nI st) q = nI (sf (mW M) (mQ M k) st q)
            rw [hp]
            by_cases e : q = p
            · subst e
              rw [upd_s, sf_s]
            · rw [upd_n _ _ e, sf_n _ _ e, hw q hq]
        · omega
      | succ d ih =>
        intro i w1 f hi hki ⟨g0, g1, g2, g3, g4⟩ hE hf
        refine k_iload 28 dX4_takeOut_26 rfl rfl ?_
        refine k_aload_n 29 dX4_takeOut_28 rfl rfl rfl ?_
        refine k_get 32 dX4_takeOut_29 rfl fX4_takeOut_24 (by (repeat (refine Is.ne ?_ (by omega))); first | assumption | exact Is.up (by omega)) (by rfl) ?_
        refine k_icmp_geN 61 35 dX4_takeOut_32 rfl rfl (by omega) (by omega) (fun c => ?_) (fun c => ?_)
        · omega
        · refine k_aload_n 36 dX4_takeOut_35 rfl rfl rfl ?_
          refine k_get 39 dX4_takeOut_36 rfl fX4_takeOut_9 (by (repeat (refine Is.ne ?_ (by omega))); first | assumption | exact Is.up (by omega)) (by rfl) ?_
          refine k_iload 41 dX4_takeOut_39 rfl rfl ?_
          refine k_aload_n 42 dX4_takeOut_41 rfl rfl rfl ?_
          refine k_get 45 dX4_takeOut_42 rfl fX4_takeOut_9 (by (repeat (refine Is.ne ?_ (by omega))); first | assumption | exact Is.up (by omega)) (by rfl) ?_
          refine k_iload 47 dX4_takeOut_45 rfl rfl ?_
          refine k_iconst (nI 1) 48 dX4_takeOut_47 rfl kc_1 ?_
          first | refine k_iaddE _ 49 dX4_takeOut_48 rfl (nI_add _ _) ?_ | refine k_iadd 49 dX4_takeOut_48 rfl ?_
          refine k_S2 52 dX4_takeOut_49 rfl vX4_takeOut_37 (Nat.le_of_ble_eq_true rfl) rfl ⟨Nat.le_of_ble_eq_true rfl, Nat.le_of_ble_eq_true rfl⟩ (c_X3_at (by (repeat (refine Is.ne ?_ (by omega))); first | assumption | exact Is.up (by omega)) (by omega) (by omega)) (fun r9 w9 h9 => ?_)
          obtain ⟨h8, h9⟩ := h9
          subst h8
          have h9 := h9.symm
          subst h9
          refine k_S3 55 dX4_takeOut_52 rfl vX4_takeOut_50 (Nat.le_of_ble_eq_true rfl) rfl ⟨Nat.le_of_ble_eq_true rfl, Nat.le_of_ble_eq_true rfl⟩ (c_X3_put (by (repeat (refine Is.ne ?_ (by omega))); first | assumption | exact Is.up (by omega)) (by omega) (by omega)) (fun r9 w9 h9 => ?_)
          obtain ⟨h8, h9⟩ := h9
          subst h8
          have h9 := h9.symm
          subst h9
          refine k_iinc _ _ 58 dX4_takeOut_55 rfl rfl (nI_inc _) (by decide) rfl rfl ?_
          refine k_goto 26 dX4_takeOut_58 rfl ?_
          refine ih (i + 1) _ (upd f i (f (i + 1))) (by omega) (by omega) ?_ ?_ (fun j hj => ?_)
          · exact ⟨(by (repeat (refine Is.ne ?_ (by omega))); first | assumption | exact Is.up (by omega)), (by (repeat (refine Is.ne ?_ (by omega))); first | assumption | exact Is.up (by omega)), (by (repeat (refine Is.ne ?_ (by omega))); first | assumption | exact Is.up (by omega)), (by (repeat (refine Is.ne ?_ (by omega))); first | assumption | exact Is.up (by omega)), (by (repeat (refine Is.ne ?_ (by omega))); first | assumption | exact Is.up (by omega))⟩
          · exact (by (repeat (refine Eqx.up ?_ (by omega) (by omega))); first | exact Eqx.rf | assumption)
          by_cases e : j = i
          · subst e
            rw [upd_s, hf _ (by omega), if_neg (by omega), if_pos (by omega)]
          · rw [upd_n _ _ e, hf j hj]
            by_cases e2 : k ≤ j ∧ j < i
            · rw [if_pos e2, if_pos (by omega)]
            · rw [if_neg e2, if_neg (by omega)]
    refine loop (mL M - 1 - k) k _ l (by omega) (by omega) ?_ ?_ (fun j hj => by rw [if_neg (by omega)])
    · exact ⟨(by (repeat (refine Is.ne ?_ (by omega))); first | assumption | exact Is.up (by omega)), (by (repeat (refine Is.ne ?_ (by omega))); first | assumption | exact Is.up (by omega)), (by (repeat (refine Is.ne ?_ (by omega))); first | assumption | exact Is.up (by omega)), (by (repeat (refine Is.ne ?_ (by omega))); first | assumption | exact Is.up (by omega)), (by (repeat (refine Is.ne ?_ (by omega))); first | assumption | exact Is.up (by omega))⟩
    · exact (by (repeat (refine Eqx.up ?_ (by omega) (by omega))); first | exact Eqx.rf | assumption)
  · exact absurd c (fun z => z (pI_some (by omega)))
