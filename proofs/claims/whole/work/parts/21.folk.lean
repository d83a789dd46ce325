/-! Folk -/
theorem c_X1_isPerson {G : KG} {N : Nat} {w : WD} {a : Nat} {x : Int32} {F : Fo} (h : FkM G N w a F) (hn : oN F ≤ 7) : KCon G jX1_isPerson N w [rf G a, .int x] (fun r w1 => (∃ p, p < oN F ∧ x = nI p ∧ r = some (.int (nI 1)) ∧ w1 = w) ∨ ((∀ p, p < oN F → x ≠ nI p) ∧ r = some (.int (nI 0)) ∧ w1 = w)) := by
  obtain ⟨kd, wo, pe, ⟨h0, h1, h2, h3⟩, hr⟩ := h
  refine KCon.of ([some (rf G a), some (.int x)]) (by decide) rfl (by simp [Value.category]) (Nat.le_of_ble_eq_true rfl) rfl ?_
  rcases pk_ix x (n := oN F) (by omega) with c0 | c0 | ⟨p, hp, rfl⟩
  · refine k_iload_n 1 dX1_isPerson_0 rfl rfl rfl ?_
    refine k_if_lt 16 4 dX1_isPerson_1 rfl rfl (fun c => ?_) (fun c => ?_)
    · refine k_iconst (nI 0) 17 dX1_isPerson_16 rfl kc_0 ?_
      refine k_zret dX1_isPerson_17 rfl rfl rfl (Nat.le_of_ble_eq_true rfl) (Or.inr ⟨fun p hp e => absurd c0 (by rw [e]; exact nI_pos (by omega)), rfl, rfl⟩)
    · exact absurd c0 c
  · refine k_iload_n 1 dX1_isPerson_0 rfl rfl rfl ?_
    refine k_if_lt 16 4 dX1_isPerson_1 rfl rfl (fun c => ?_) (fun c => ?_)
    · refine k_iconst (nI 0) 17 dX1_isPerson_16 rfl kc_0 ?_
      refine k_zret dX1_isPerson_17 rfl rfl rfl (Nat.le_of_ble_eq_true rfl) (Or.inr ⟨fun p hp e => absurd c (by rw [e]; exact nI_pos (by omega)), rfl, rfl⟩)
    · refine k_iload_n 5 dX1_isPerson_4 rfl rfl rfl ?_
      refine k_aload_n 6 dX1_isPerson_5 rfl rfl rfl ?_
      refine k_get 9 dX1_isPerson_6 rfl fX1_isPerson_21 (by (repeat (refine Is.ne ?_ (by omega))); first | assumption | exact Is.up (by omega)) (by rfl) ?_
      refine k_icmp_ge 16 12 dX1_isPerson_9 rfl rfl (fun c => ?_) (fun c => ?_)
      · refine k_iconst (nI 0) 17 dX1_isPerson_16 rfl kc_0 ?_
        refine k_zret dX1_isPerson_17 rfl rfl rfl (Nat.le_of_ble_eq_true rfl) (Or.inr ⟨fun p hp e => absurd c0 (by rw [e]; exact nI_ge hp (by omega)), rfl, rfl⟩)
      · exact absurd c0 (by assumption)
  · refine k_iload_n 1 dX1_isPerson_0 rfl rfl rfl ?_
    refine k_if_ltN 16 4 dX1_isPerson_1 rfl rfl (by omega) (fun c => ?_) (fun c => ?_)
    · omega
    · refine k_iload_n 5 dX1_isPerson_4 rfl rfl rfl ?_
      refine k_aload_n 6 dX1_isPerson_5 rfl rfl rfl ?_
      refine k_get 9 dX1_isPerson_6 rfl fX1_isPerson_21 (by (repeat (refine Is.ne ?_ (by omega))); first | assumption | exact Is.up (by omega)) (by rfl) ?_
      refine k_icmp_geN 16 12 dX1_isPerson_9 rfl rfl (by omega) (by omega) (fun c => ?_) (fun c => ?_)
      · omega
      · refine k_iconst (nI 1) 13 dX1_isPerson_12 rfl kc_1 ?_
        refine k_goto 17 dX1_isPerson_13 rfl ?_
        refine k_zret dX1_isPerson_17 rfl rfl rfl (Nat.le_of_ble_eq_true rfl) (Or.inl ⟨p, hp, rfl, rfl, rfl⟩)
theorem c_X1_gain {G : KG} {N : Nat} {w : WD} {a p q : Nat} {F : Fo} (h : FkM G N w a F) (hn : oN F ≤ 7) (hp : p < oN F) (hq : q < oN F) : KCon G jX1_gain N w [rf G a, .int (nI p), .int (nI q)] (fun r w1 => r = some (.int (nI (oW F p) - nI (oW F q))) ∧ w1 = w) := by
  obtain ⟨kd, wo, pe, ⟨h0, h1, h2, h3⟩, hr⟩ := h
  refine KCon.of ([some (rf G a), some (.int (nI p)), some (.int (nI q))]) (by decide) rfl (by simp [Value.category]) (Nat.le_of_ble_eq_true rfl) rfl ?_
  refine k_aload_n 1 dX1_gain_0 rfl rfl rfl ?_
  refine k_get 4 dX1_gain_1 rfl fX1_gain_15 (by (repeat (refine Is.ne ?_ (by omega))); first | assumption | exact Is.up (by omega)) (by rfl) ?_
  refine k_iload_n 5 dX1_gain_4 rfl rfl rfl ?_
  refine k_S2 8 dX1_gain_5 rfl vX1_gain_38 (Nat.le_of_ble_eq_true rfl) rfl ⟨Nat.le_of_ble_eq_true rfl, Nat.le_of_ble_eq_true rfl⟩ (c_X3_at h2 (by omega) (by omega)) (fun r9 w9 h9 => ?_)
  obtain ⟨h8, h9⟩ := h9
  subst h8
  have h9 := h9.symm
  subst h9
  refine k_aload_n 9 dX1_gain_8 rfl rfl rfl ?_
  refine k_get 12 dX1_gain_9 rfl fX1_gain_15 (by (repeat (refine Is.ne ?_ (by omega))); first | assumption | exact Is.up (by omega)) (by rfl) ?_
  refine k_iload_n 13 dX1_gain_12 rfl rfl rfl ?_
  refine k_S2 16 dX1_gain_13 rfl vX1_gain_38 (Nat.le_of_ble_eq_true rfl) rfl ⟨Nat.le_of_ble_eq_true rfl, Nat.le_of_ble_eq_true rfl⟩ (c_X3_at h2 (by omega) (by omega)) (fun r9 w9 h9 => ?_)
  obtain ⟨h8, h9⟩ := h9
  subst h8
  have h9 := h9.symm
  subst h9
  refine k_isub 17 dX1_gain_16 rfl ?_
  refine k_iret dX1_gain_17 rfl rfl (Nat.le_of_ble_eq_true rfl) ⟨by rw [(hr p hp).2.1, (hr q hq).2.1], rfl⟩
theorem c_X1_empty {G : KG} {N : Nat} {w : WD} {a : Nat} {kd wo pe : Nat → Int32} {num se : Nat} (h : FkR G N w a kd wo pe num se) : KCon G jX1_empty N w [rf G a] (fun r w1 => r = none ∧ FkR G N w1 a kd wo pe 0 3 ∧ Eqx w w1 a (a + 4)) := by
  obtain ⟨h0, h1, h2, h3⟩ := h
  have hN := h3.1
  refine KCon.of ([some (rf G a)]) (by decide) rfl (by simp [Value.category]) (Nat.le_of_ble_eq_true rfl) rfl ?_
  refine k_aload_n 1 dX1_empty_0 rfl rfl rfl ?_
  refine k_iconst (nI 0) 2 dX1_empty_1 rfl kc_0 ?_
  refine k_put 5 dX1_empty_2 rfl pX1_empty_21 (by (repeat (refine Is.ne ?_ (by omega))); first | assumption | exact Is.up (by omega)) (Nat.le_of_ble_eq_true rfl) rfl rfl ?_
  refine k_aload_n 6 dX1_empty_5 rfl rfl rfl ?_
  refine k_iconst (nI 3) 7 dX1_empty_6 rfl kc_3 ?_
  refine k_put 10 dX1_empty_7 rfl pX1_empty_25 (by (repeat (refine Is.ne ?_ (by omega))); first | assumption | exact Is.up (by omega)) (Nat.le_of_ble_eq_true rfl) rfl rfl ?_
  refine k_vret dX1_empty_10 rfl rfl (Nat.le_of_ble_eq_true rfl) ⟨rfl, ⟨Is.up (by omega), (by (repeat (refine Is.ne ?_ (by omega))); first | assumption | exact Is.up (by omega)), (by (repeat (refine Is.ne ?_ (by omega))); first | assumption | exact Is.up (by omega)), (by (repeat (refine Is.ne ?_ (by omega))); first | assumption | exact Is.up (by omega))⟩, (by (repeat (refine Eqx.up ?_ (by omega) (by omega))); first | exact Eqx.rf | assumption)⟩
theorem c_X1_copyFrom {G : KG} {N : Nat} {w : WD} {a b : Nat} {kd wo pe : Nat → Int32} {num se : Nat} {F : Fo} (h : FkR G N w a kd wo pe num se) (hb : FkM G N w b F) (hab : a + 4 ≤ b ∨ b + 4 ≤ a) (hn : oN F ≤ 7) : KCon G jX1_copyFrom N w [rf G a, rf G b] (fun r w1 => r = none ∧ FkM G N w1 a F ∧ Eqx w w1 a (a + 4)) := by
  obtain ⟨h0, h1, h2, h3⟩ := h
  obtain ⟨kd1, wo1, pe1, ⟨g0, g1, g2, g3⟩, hr⟩ := hb
  have hN := h3.1
  have hN2 := g3.1
  refine KCon.of ([some (rf G a), some (rf G b)]) (by decide) rfl (by simp [Value.category]) (Nat.le_of_ble_eq_true rfl) rfl ?_
  refine k_aload_n 1 dX1_copyFrom_0 rfl rfl rfl ?_
  refine k_get 4 dX1_copyFrom_1 rfl fX1_copyFrom_9 (by (repeat (refine Is.ne ?_ (by omega))); first | assumption | exact Is.up (by omega)) (by rfl) ?_
  refine k_aload_n 5 dX1_copyFrom_4 rfl rfl rfl ?_
  refine k_get 8 dX1_copyFrom_5 rfl fX1_copyFrom_9 (by (repeat (refine Is.ne ?_ (by omega))); first | assumption | exact Is.up (by omega)) (by rfl) ?_
  refine k_S2 11 dX1_copyFrom_8 rfl vX1_copyFrom_28 (Nat.le_of_ble_eq_true rfl) rfl ⟨Nat.le_of_ble_eq_true rfl, Nat.le_of_ble_eq_true rfl⟩ (c_X3_copy (by (repeat (refine Is.ne ?_ (by omega))); first | assumption | exact Is.up (by omega)) (by (repeat (refine Is.ne ?_ (by omega))); first | assumption | exact Is.up (by omega)) (by omega)) (fun r9 w9 h9 => ?_)
  obtain ⟨h8, h9⟩ := h9
  subst h8
  have h9 := h9.symm
  subst h9
  refine k_aload_n 12 dX1_copyFrom_11 rfl rfl rfl ?_
  refine k_get 15 dX1_copyFrom_12 rfl fX1_copyFrom_15 (by (repeat (refine Is.ne ?_ (by omega))); first | assumption | exact Is.up (by omega)) (by rfl) ?_
  refine k_aload_n 16 dX1_copyFrom_15 rfl rfl rfl ?_
  refine k_get 19 dX1_copyFrom_16 rfl fX1_copyFrom_15 (by (repeat (refine Is.ne ?_ (by omega))); first | assumption | exact Is.up (by omega)) (by rfl) ?_
  refine k_S2 22 dX1_copyFrom_19 rfl vX1_copyFrom_28 (Nat.le_of_ble_eq_true rfl) rfl ⟨Nat.le_of_ble_eq_true rfl, Nat.le_of_ble_eq_true rfl⟩ (c_X3_copy (by (repeat (refine Is.ne ?_ (by omega))); first | assumption | exact Is.up (by omega)) (by (repeat (refine Is.ne ?_ (by omega))); first | assumption | exact Is.up (by omega)) (by omega)) (fun r9 w9 h9 => ?_)
  obtain ⟨h8, h9⟩ := h9
  subst h8
  have h9 := h9.symm
  subst h9
  refine k_aload_n 23 dX1_copyFrom_22 rfl rfl rfl ?_
  refine k_get 26 dX1_copyFrom_23 rfl fX1_copyFrom_18 (by (repeat (refine Is.ne ?_ (by omega))); first | assumption | exact Is.up (by omega)) (by rfl) ?_
  refine k_aload_n 27 dX1_copyFrom_26 rfl rfl rfl ?_
  refine k_get 30 dX1_copyFrom_27 rfl fX1_copyFrom_18 (by (repeat (refine Is.ne ?_ (by omega))); first | assumption | exact Is.up (by omega)) (by rfl) ?_
  refine k_S2 33 dX1_copyFrom_30 rfl vX1_copyFrom_28 (Nat.le_of_ble_eq_true rfl) rfl ⟨Nat.le_of_ble_eq_true rfl, Nat.le_of_ble_eq_true rfl⟩ (c_X3_copy (by (repeat (refine Is.ne ?_ (by omega))); first | assumption | exact Is.up (by omega)) (by (repeat (refine Is.ne ?_ (by omega))); first | assumption | exact Is.up (by omega)) (by omega)) (fun r9 w9 h9 => ?_)
  obtain ⟨h8, h9⟩ := h9
  subst h8
  have h9 := h9.symm
  subst h9
  refine k_aload_n 34 dX1_copyFrom_33 rfl rfl rfl ?_
  refine k_aload_n 35 dX1_copyFrom_34 rfl rfl rfl ?_
  refine k_get 38 dX1_copyFrom_35 rfl fX1_copyFrom_21 (by (repeat (refine Is.ne ?_ (by omega))); first | assumption | exact Is.up (by omega)) (by rfl) ?_
  refine k_put 41 dX1_copyFrom_38 rfl pX1_copyFrom_21 (by (repeat (refine Is.ne ?_ (by omega))); first | assumption | exact Is.up (by omega)) (Nat.le_of_ble_eq_true rfl) rfl rfl ?_
  refine k_aload_n 42 dX1_copyFrom_41 rfl rfl rfl ?_
  refine k_aload_n 43 dX1_copyFrom_42 rfl rfl rfl ?_
  refine k_get 46 dX1_copyFrom_43 rfl fX1_copyFrom_25 (by (repeat (refine Is.ne ?_ (by omega))); first | assumption | exact Is.up (by omega)) (by rfl) ?_
  refine k_put 49 dX1_copyFrom_46 rfl pX1_copyFrom_25 (by (repeat (refine Is.ne ?_ (by omega))); first | assumption | exact Is.up (by omega)) (Nat.le_of_ble_eq_true rfl) rfl rfl ?_
  refine k_vret dX1_copyFrom_49 rfl rfl (Nat.le_of_ble_eq_true rfl) ⟨rfl, ⟨_, _, _, ⟨(by (repeat (refine Is.ne ?_ (by omega))); first | assumption | exact Is.up (by omega)), (by (repeat (refine Is.ne ?_ (by omega))); first | assumption | exact Is.up (by omega)), (by (repeat (refine Is.ne ?_ (by omega))); first | assumption | exact Is.up (by omega)), (by (repeat (refine Is.ne ?_ (by omega))); first | assumption | exact Is.up (by omega))⟩, fun p hp => ?_⟩, ?_⟩
  · rw [cpy0 _ _ (by omega), cpy0 _ _ (by omega), cpy0 _ _ (by omega)]
    exact hr p hp
  · exact (by (repeat (refine Eqx.up ?_ (by omega) (by omega))); first | exact Eqx.rf | assumption)
theorem c_X1_add {G : KG} {N : Nat} {w : WD} {a x y z : Nat} {F : Fo} (h : FkM G N w a F) (hn : oN F < 7) : KCon G jX1_add N w [rf G a, .int (nI x), .int (nI y), .int (nI z)] (fun r w1 => r = none ∧ FkM G N w1 a (oN F + 1, oS F, sf (oK F) (oN F) x, sf (oW F) (oN F) y, sf (oT F) (oN F) z) ∧ Eqx w w1 a (a + 4)) := by
  obtain ⟨kd, wo, pe, ⟨h0, h1, h2, h3⟩, hr⟩ := h
  have hN := h3.1
  refine KCon.of ([some (rf G a), some (.int (nI x)), some (.int (nI y)), some (.int (nI z))]) (by decide) rfl (by simp [Value.category]) (Nat.le_of_ble_eq_true rfl) rfl ?_
  refine k_aload_n 1 dX1_add_0 rfl rfl rfl ?_
  refine k_get 4 dX1_add_1 rfl fX1_add_9 (by (repeat (refine Is.ne ?_ (by omega))); first | assumption | exact Is.up (by omega)) (by rfl) ?_
  refine k_aload_n 5 dX1_add_4 rfl rfl rfl ?_
  refine k_get 8 dX1_add_5 rfl fX1_add_21 (by (repeat (refine Is.ne ?_ (by omega))); first | assumption | exact Is.up (by omega)) (by rfl) ?_
  refine k_iload_n 9 dX1_add_8 rfl rfl rfl ?_
  refine k_S3 12 dX1_add_9 rfl vX1_add_34 (Nat.le_of_ble_eq_true rfl) rfl ⟨Nat.le_of_ble_eq_true rfl, Nat.le_of_ble_eq_true rfl⟩ (c_X3_put (by (repeat (refine Is.ne ?_ (by omega))); first | assumption | exact Is.up (by omega)) (by omega) (by omega)) (fun r9 w9 h9 => ?_)
  obtain ⟨h8, h9⟩ := h9
  subst h8
  have h9 := h9.symm
  subst h9
  refine k_aload_n 13 dX1_add_12 rfl rfl rfl ?_
  refine k_get 16 dX1_add_13 rfl fX1_add_15 (by (repeat (refine Is.ne ?_ (by omega))); first | assumption | exact Is.up (by omega)) (by rfl) ?_
  refine k_aload_n 17 dX1_add_16 rfl rfl rfl ?_
  refine k_get 20 dX1_add_17 rfl fX1_add_21 (by (repeat (refine Is.ne ?_ (by omega))); first | assumption | exact Is.up (by omega)) (by rfl) ?_
  refine k_iload_n 21 dX1_add_20 rfl rfl rfl ?_
  refine k_S3 24 dX1_add_21 rfl vX1_add_34 (Nat.le_of_ble_eq_true rfl) rfl ⟨Nat.le_of_ble_eq_true rfl, Nat.le_of_ble_eq_true rfl⟩ (c_X3_put (by (repeat (refine Is.ne ?_ (by omega))); first | assumption | exact Is.up (by omega)) (by omega) (by omega)) (fun r9 w9 h9 => ?_)
  obtain ⟨h8, h9⟩ := h9
  subst h8
  have h9 := h9.symm
  subst h9
  refine k_aload_n 25 dX1_add_24 rfl rfl rfl ?_
  refine k_get 28 dX1_add_25 rfl fX1_add_18 (by (repeat (refine Is.ne ?_ (by omega))); first | assumption | exact Is.up (by omega)) (by rfl) ?_
  refine k_aload_n 29 dX1_add_28 rfl rfl rfl ?_
  refine k_get 32 dX1_add_29 rfl fX1_add_21 (by (repeat (refine Is.ne ?_ (by omega))); first | assumption | exact Is.up (by omega)) (by rfl) ?_
  refine k_iload_n 33 dX1_add_32 rfl rfl rfl ?_
  refine k_S3 36 dX1_add_33 rfl vX1_add_34 (Nat.le_of_ble_eq_true rfl) rfl ⟨Nat.le_of_ble_eq_true rfl, Nat.le_of_ble_eq_true rfl⟩ (c_X3_put (by (repeat (refine Is.ne ?_ (by omega))); first | assumption | exact Is.up (by omega)) (by omega) (by omega)) (fun r9 w9 h9 => ?_)
  obtain ⟨h8, h9⟩ := h9
  subst h8
  have h9 := h9.symm
  subst h9
  refine k_aload_n 37 dX1_add_36 rfl rfl rfl ?_
  refine k_dup 38 dX1_add_37 rfl rfl ?_
  refine k_get 41 dX1_add_38 rfl fX1_add_21 (by (repeat (refine Is.ne ?_ (by omega))); first | assumption | exact Is.up (by omega)) (by rfl) ?_
  refine k_iconst (nI 1) 42 dX1_add_41 rfl kc_1 ?_
  first | refine k_iaddE _ 43 dX1_add_42 rfl (nI_add _ _) ?_ | refine k_iadd 43 dX1_add_42 rfl ?_
  refine k_put 46 dX1_add_43 rfl pX1_add_21 (by (repeat (refine Is.ne ?_ (by omega))); first | assumption | exact Is.up (by omega)) (Nat.le_of_ble_eq_true rfl) rfl rfl ?_
  refine k_vret dX1_add_46 rfl rfl (Nat.le_of_ble_eq_true rfl) ⟨rfl, ⟨_, _, _, ⟨(by (repeat (refine Is.ne ?_ (by omega))); first | assumption | exact Is.up (by omega)), (by (repeat (refine Is.ne ?_ (by omega))); first | assumption | exact Is.up (by omega)), (by (repeat (refine Is.ne ?_ (by omega))); first | assumption | exact Is.up (by omega)), (by (repeat (refine Is.ne ?_ (by omega))); first | assumption | exact Is.up (by omega))⟩, fun p hp => ?_⟩, ?_⟩
  · by_cases e : p = oN F
    · subst e
      simp [upd, sf, oK, oW, oT]
    · have := hr p (by simp [oN] at hp e ⊢; omega)
      simp only [upd, oK, oW, oT, sf, if_neg e] at this ⊢
      exact this
  · exact (by (repeat (refine Eqx.up ?_ (by omega) (by omega))); first | exact Eqx.rf | assumption)
