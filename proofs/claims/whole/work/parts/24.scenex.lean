/-! Scene: debts, pushes, minutes -/
theorem c_X4_setDebt {G : KG} {N : Nat} {w : WD} {a n p q v : Nat} {M : Mo} (h : ScM G N w a n M) (hp : p < 7) (hq : q < 7) : KCon G jX4_setDebt N w [rf G a, .int (nI p), .int (nI q), .int (nI v)] (fun r w1 => r = none ∧ ScM G N w1 a n (sD M (7 * p + q) v) ∧ Eqx w w1 a (a + 5)) := by
  obtain ⟨l, wh, pu, db, ⟨h0, h1, h2, h3, h4⟩, hl, hw, hu, hd⟩ := h
  have hN := h4.1
  refine KCon.of ([some (rf G a), some (.int (nI p)), some (.int (nI q)), some (.int (nI v))]) (by decide) rfl (by simp [Value.category]) (Nat.le_of_ble_eq_true rfl) rfl ?_
  refine k_aload_n 1 dX4_setDebt_0 rfl rfl rfl ?_
  refine k_get 4 dX4_setDebt_1 rfl fX4_setDebt_21 (by (repeat (refine Is.ne ?_ (by omega))); first | assumption | exact Is.up (by omega)) (by rfl) ?_
  refine k_iload_n 5 dX4_setDebt_4 rfl rfl rfl ?_
  refine k_bipush (nI 7) 7 dX4_setDebt_5 rfl kb_7 ?_
  first | refine k_imulE _ 8 dX4_setDebt_7 rfl (pk_mul _ _) ?_ | refine k_imul 8 dX4_setDebt_7 rfl ?_
  refine k_iload_n 9 dX4_setDebt_8 rfl rfl rfl ?_
  first | refine k_iaddE _ 10 dX4_setDebt_9 rfl (nI_add _ _) ?_ | refine k_iadd 10 dX4_setDebt_9 rfl ?_
  refine k_iload_n 11 dX4_setDebt_10 rfl rfl rfl ?_
  refine k_S3 14 dX4_setDebt_11 rfl vX4_setDebt_50 (Nat.le_of_ble_eq_true rfl) rfl ⟨Nat.le_of_ble_eq_true rfl, Nat.le_of_ble_eq_true rfl⟩ (c_X3_put h4 (by omega) (by omega)) (fun r9 w9 h9 => ?_)
  obtain ⟨h8, h9⟩ := h9
  subst h8
  have h9 := h9.symm
  subst h9
  refine k_vret dX4_setDebt_14 rfl rfl (Nat.le_of_ble_eq_true rfl) ⟨rfl, ⟨l, wh, pu, _, ⟨(by (repeat (refine Is.ne ?_ (by omega))); first | assumption | exact Is.up (by omega)), (by (repeat (refine Is.ne ?_ (by omega))); first | assumption | exact Is.up (by omega)), (by (repeat (refine Is.ne ?_ (by omega))); first | assumption | exact Is.up (by omega)), (by (repeat (refine Is.ne ?_ (by omega))); first | assumption | exact Is.up (by omega)), (by (repeat (refine Is.ne ?_ (by omega))); first | assumption | exact Is.up (by omega))⟩, hl, hw, hu, ?_⟩, (by (repeat (refine Eqx.up ?_ (by omega) (by omega))); first | exact Eqx.rf | assumption)⟩
  rw [Nat.mul_comm p 7]
  exact upd_nI hd _ _
theorem c_X4_payable {G : KG} {N : Nat} {w : WD} {a n p q : Nat} {M : Mo} (h : ScM G N w a n M) (hO : mOK n M) (hp : p < n) (hq : q < n) : KCon G jX4_payable N w [rf G a, .int (nI p), .int (nI q)] (fun r w1 => r = some (.int (nI (pyb M p q))) ∧ w1 = w) := by
  have h9 := h
  have hn7 := hO.2.1
  obtain ⟨l, wh, pu, db, ⟨h0, h1, h2, h3, h4⟩, hl, hw, hu, hd⟩ := h9
  have hb1 := ok_d hO (i := 7 * p + q) (by omega)
  have hb2 := ok_p hO (p := p) (by omega)
  refine KCon.of ([some (rf G a), some (.int (nI p)), some (.int (nI q))]) (by decide) rfl (by simp [Value.category]) (Nat.le_of_ble_eq_true rfl) rfl ?_
  refine k_aload_n 1 dX4_payable_0 rfl rfl rfl ?_
  refine k_iload_n 2 dX4_payable_1 rfl rfl rfl ?_
  refine k_iload_n 3 dX4_payable_2 rfl rfl rfl ?_
  refine k_V2 (ci := 3) 6 dX4_payable_3 rfl vX4_payable_54 (by (repeat (refine Is.ne ?_ (by omega))); first | assumption | exact Is.up (by omega)) rfl rfl (Nat.le_of_ble_eq_true rfl) rfl ⟨Nat.le_of_ble_eq_true rfl, Nat.le_of_ble_eq_true rfl⟩ (c_X4_debt h (by omega) (by omega)) (fun r9 w9 h9 => ?_)
  obtain ⟨h8, h9⟩ := h9
  subst h8
  have h9 := h9.symm
  subst h9
  refine k_aload_n 7 dX4_payable_6 rfl rfl rfl ?_
  refine k_get 10 dX4_payable_7 rfl fX4_payable_18 (by (repeat (refine Is.ne ?_ (by omega))); first | assumption | exact Is.up (by omega)) (by rfl) ?_
  refine k_iload_n 11 dX4_payable_10 rfl rfl rfl ?_
  refine k_S2 14 dX4_payable_11 rfl vX4_payable_37 (Nat.le_of_ble_eq_true rfl) rfl ⟨Nat.le_of_ble_eq_true rfl, Nat.le_of_ble_eq_true rfl⟩ (c_X3_at h3 (by omega) (by omega)) (fun r9 w9 h9 => ?_)
  obtain ⟨h8, h9⟩ := h9
  subst h8
  have h9 := h9.symm
  subst h9
  rw [hu p hp]
  refine k_min _ 17 dX4_payable_14 rfl vX4_payable_65 (Nat.le_of_ble_eq_true rfl) ⟨Nat.le_of_ble_eq_true rfl, Nat.le_of_ble_eq_true rfl⟩ (nI_min (by omega) (by omega)) ?_
  refine k_iret dX4_payable_17 rfl rfl (Nat.le_of_ble_eq_true rfl) ⟨rfl, rfl⟩
theorem c_X4_settle {G : KG} {N : Nat} {w : WD} {a n p q : Nat} {M : Mo} (h : ScM G N w a n M) (hO : mOK n M) (hp : p < n) (hq : q < n) : KCon G jX4_settle N w [rf G a, .int (nI p), .int (nI q)] (fun r w1 => r = none ∧ ScM G N w1 a n (setl M p q) ∧ Eqx w w1 a (a + 5)) := by
  have h9 := h
  have hn7 := hO.2.1
  have hm1 : pyb M p q ≤ mD M (7 * p + q) := Nat.min_le_left _ _
  have hm2 : pyb M p q ≤ mP M p := Nat.min_le_right _ _
  obtain ⟨l, wh, pu, db, ⟨h0, h1, h2, h3, h4⟩, hl, hw, hu, hd⟩ := h9
  refine KCon.of ([some (rf G a), some (.int (nI p)), some (.int (nI q)), none]) (by decide) rfl (by simp [Value.category]) (Nat.le_of_ble_eq_true rfl) rfl ?_
  refine k_aload_n 1 dX4_settle_0 rfl rfl rfl ?_
  refine k_iload_n 2 dX4_settle_1 rfl rfl rfl ?_
  refine k_iload_n 3 dX4_settle_2 rfl rfl rfl ?_
  refine k_V2 (ci := 3) 6 dX4_settle_3 rfl vX4_settle_70 (by (repeat (refine Is.ne ?_ (by omega))); first | assumption | exact Is.up (by omega)) rfl rfl (Nat.le_of_ble_eq_true rfl) rfl ⟨Nat.le_of_ble_eq_true rfl, Nat.le_of_ble_eq_true rfl⟩ (c_X4_payable h hO hp hq) (fun r9 w9 h9 => ?_)
  obtain ⟨h8, h9⟩ := h9
  subst h8
  have h9 := h9.symm
  subst h9
  refine k_istore_n _ 7 dX4_settle_6 rfl rfl (by decide) rfl rfl ?_
  refine k_aload_n 8 dX4_settle_7 rfl rfl rfl ?_
  refine k_iload_n 9 dX4_settle_8 rfl rfl rfl ?_
  refine k_iload_n 10 dX4_settle_9 rfl rfl rfl ?_
  refine k_aload_n 11 dX4_settle_10 rfl rfl rfl ?_
  refine k_iload_n 12 dX4_settle_11 rfl rfl rfl ?_
  refine k_iload_n 13 dX4_settle_12 rfl rfl rfl ?_
  refine k_V2 (ci := 3) 16 dX4_settle_13 rfl vX4_settle_54 (by (repeat (refine Is.ne ?_ (by omega))); first | assumption | exact Is.up (by omega)) rfl rfl (Nat.le_of_ble_eq_true rfl) rfl ⟨Nat.le_of_ble_eq_true rfl, Nat.le_of_ble_eq_true rfl⟩ (c_X4_debt h (by omega) (by omega)) (fun r9 w9 h9 => ?_)
  obtain ⟨h8, h9⟩ := h9
  subst h8
  have h9 := h9.symm
  subst h9
  refine k_iload_n 17 dX4_settle_16 rfl rfl rfl ?_
  first | refine k_isubE _ 18 dX4_settle_17 rfl (pk_sub (by omega)) ?_ | refine k_isub 18 dX4_settle_17 rfl ?_
  refine k_V3 (ci := 3) 21 dX4_settle_18 rfl vX4_settle_73 (by (repeat (refine Is.ne ?_ (by omega))); first | assumption | exact Is.up (by omega)) rfl rfl (Nat.le_of_ble_eq_true rfl) rfl ⟨Nat.le_of_ble_eq_true rfl, Nat.le_of_ble_eq_true rfl⟩ (c_X4_setDebt h (by omega) (by omega)) (fun r1 w1 g1 => ?_)
  obtain ⟨rfl, ⟨l1, wh1, pu1, db1, ⟨e0, e1, e2, e3, e4⟩, el, ew, eu, ed⟩, hE⟩ := g1
  have hN := e4.1
  have eu : ∀ r, r < n → pu1 r = nI (mP M r) := eu
  refine k_aload_n 22 dX4_settle_21 rfl rfl rfl ?_
  refine k_get 25 dX4_settle_22 rfl fX4_settle_18 (by (repeat (refine Is.ne ?_ (by omega))); first | assumption | exact Is.up (by omega)) (by rfl) ?_
  refine k_iload_n 26 dX4_settle_25 rfl rfl rfl ?_
  refine k_aload_n 27 dX4_settle_26 rfl rfl rfl ?_
  refine k_get 30 dX4_settle_27 rfl fX4_settle_18 (by (repeat (refine Is.ne ?_ (by omega))); first | assumption | exact Is.up (by omega)) (by rfl) ?_
  refine k_iload_n 31 dX4_settle_30 rfl rfl rfl ?_
  refine k_S2 34 dX4_settle_31 rfl vX4_settle_37 (Nat.le_of_ble_eq_true rfl) rfl ⟨Nat.le_of_ble_eq_true rfl, Nat.le_of_ble_eq_true rfl⟩ (c_X3_at e3 (by omega) (by omega)) (fun r9 w9 h9 => ?_)
  obtain ⟨h8, h9⟩ := h9
  subst h8
  have h9 := h9.symm
  subst h9
  refine k_iload_n 35 dX4_settle_34 rfl rfl rfl ?_
  rw [eu p hp]
  first | refine k_isubE _ 36 dX4_settle_35 rfl (pk_sub (by omega)) ?_ | refine k_isub 36 dX4_settle_35 rfl ?_
  refine k_S3 39 dX4_settle_36 rfl vX4_settle_50 (Nat.le_of_ble_eq_true rfl) rfl ⟨Nat.le_of_ble_eq_true rfl, Nat.le_of_ble_eq_true rfl⟩ (c_X3_put e3 (by omega) (by omega)) (fun r9 w9 h9 => ?_)
  obtain ⟨h8, h9⟩ := h9
  subst h8
  have h9 := h9.symm
  subst h9
  refine k_aload_n 40 dX4_settle_39 rfl rfl rfl ?_
  refine k_get 43 dX4_settle_40 rfl fX4_settle_18 (by (repeat (refine Is.ne ?_ (by omega))); first | assumption | exact Is.up (by omega)) (by rfl) ?_
  refine k_iload_n 44 dX4_settle_43 rfl rfl rfl ?_
  refine k_aload_n 45 dX4_settle_44 rfl rfl rfl ?_
  refine k_get 48 dX4_settle_45 rfl fX4_settle_18 (by (repeat (refine Is.ne ?_ (by omega))); first | assumption | exact Is.up (by omega)) (by rfl) ?_
  refine k_iload_n 49 dX4_settle_48 rfl rfl rfl ?_
  refine k_S2 52 dX4_settle_49 rfl vX4_settle_37 (Nat.le_of_ble_eq_true rfl) rfl ⟨Nat.le_of_ble_eq_true rfl, Nat.le_of_ble_eq_true rfl⟩ (c_X3_at (by (repeat (refine Is.ne ?_ (by omega))); first | assumption | exact Is.up (by omega)) (by omega) (by omega)) (fun r9 w9 h9 => ?_)
  obtain ⟨h8, h9⟩ := h9
  subst h8
  have h9 := h9.symm
  subst h9
  refine k_iload_n 53 dX4_settle_52 rfl rfl rfl ?_
  rw [upd_nI eu p (mP M p - pyb M p q) q hq]
  first | refine k_iaddE _ 54 dX4_settle_53 rfl (nI_add _ _) ?_ | refine k_iadd 54 dX4_settle_53 rfl ?_
  refine k_S3 57 dX4_settle_54 rfl vX4_settle_50 (Nat.le_of_ble_eq_true rfl) rfl ⟨Nat.le_of_ble_eq_true rfl, Nat.le_of_ble_eq_true rfl⟩ (c_X3_put (by (repeat (refine Is.ne ?_ (by omega))); first | assumption | exact Is.up (by omega)) (by omega) (by omega)) (fun r9 w9 h9 => ?_)
  obtain ⟨h8, h9⟩ := h9
  subst h8
  have h9 := h9.symm
  subst h9
  refine k_vret dX4_settle_57 rfl rfl (Nat.le_of_ble_eq_true rfl) ⟨rfl, ⟨l1, wh1, _, db1, ⟨(by (repeat (refine Is.ne ?_ (by omega))); first | assumption | exact Is.up (by omega)), (by (repeat (refine Is.ne ?_ (by omega))); first | assumption | exact Is.up (by omega)), (by (repeat (refine Is.ne ?_ (by omega))); first | assumption | exact Is.up (by omega)), (by (repeat (refine Is.ne ?_ (by omega))); first | assumption | exact Is.up (by omega)), (by (repeat (refine Is.ne ?_ (by omega))); first | assumption | exact Is.up (by omega))⟩, el, ew, ?_, ed⟩, (by (repeat (refine Eqx.up ?_ (by omega) (by omega))); first | exact Eqx.rf | assumption)⟩
  exact upd_nI (upd_nI eu p (mP M p - pyb M p q)) q _
theorem c_X4_wantsFor {G : KG} {N : Nat} {w : WD} {a b n p o : Nat} {M : Mo} {F : Fo} (h : ScM G N w a n M) (hF : FkM G N w b F) (hO : mOK' n M) (hK : oOK F) (hn : n = oN F) (hp : p < n) (ho : o < n) : KCon G jX4_wantsFor N w [rf G a, rf G b, .int (nI p), .int (nI (oW F p) - nI (oW F o))] (fun r w1 => r = some (.int (bI (wnt F M p o))) ∧ w1 = w) := by
  have hn7 := hO.2.1
  obtain ⟨l, wh, pu, db, ⟨h0, h1, h2, h3, h4⟩, hl, hw, hu, hd⟩ := h
  obtain ⟨kd, wo, pe, ⟨f0, f1, f2, f3⟩, hr⟩ := hF
  subst hn
  obtain ⟨k1, k2, -, -⟩ := hK.2.2 p hp
  obtain ⟨-, k4, -, -⟩ := hK.2.2 o ho
  have hb2 := ok_p' hO (p := p) (by omega)
  have hg := gain_le (x := oW F p) (y := oW F o) (by omega) (by omega)
  refine KCon.of ([some (rf G a), some (rf G b), some (.int (nI p)), some (.int (nI (oW F p) - nI (oW F o)))]) (by decide) rfl (by simp [Value.category]) (Nat.le_of_ble_eq_true rfl) rfl ?_
  refine k_aload_n 1 dX4_wantsFor_0 rfl rfl rfl ?_
  refine k_get 4 dX4_wantsFor_1 rfl fX4_wantsFor_77 (by (repeat (refine Is.ne ?_ (by omega))); first | assumption | exact Is.up (by omega)) (by rfl) ?_
  refine k_iload_n 5 dX4_wantsFor_4 rfl rfl rfl ?_
  refine k_S2 8 dX4_wantsFor_5 rfl vX4_wantsFor_37 (Nat.le_of_ble_eq_true rfl) rfl ⟨Nat.le_of_ble_eq_true rfl, Nat.le_of_ble_eq_true rfl⟩ (c_X3_at f1 (by omega) (by omega)) (fun r9 w9 h9 => ?_)
  obtain ⟨h8, h9⟩ := h9
  subst h8
  have h9 := h9.symm
  subst h9
  rw [(hr p hp).1]
  have h4 : oK F p = 0 ∨ oK F p = 1 ∨ oK F p = 2 ∨ oK F p = 3 := by omega
  rcases h4 with e | e | e | e
  · rw [e]
    refine k_tableIn (off := 32) 40 dX4_wantsFor_8 (by decide) (by decide) (by decide +kernel) rfl ?_
    refine k_iload_n 41 dX4_wantsFor_40 rfl rfl rfl ?_
    refine k_if_le 48 44 dX4_wantsFor_41 rfl rfl (fun c => ?_) (fun c => ?_)
    · refine k_iconst (nI 0) 49 dX4_wantsFor_48 rfl kc_0 ?_
      refine k_zret dX4_wantsFor_49 rfl rfl rfl (Nat.le_of_ble_eq_true rfl) ⟨by simp [wnt, e, bI, Nat.not_lt.mpr (hg.mp c)], rfl⟩
    · refine k_iconst (nI 1) 45 dX4_wantsFor_44 rfl kc_1 ?_
      refine k_goto 49 dX4_wantsFor_45 rfl ?_
      refine k_zret dX4_wantsFor_49 rfl rfl rfl (Nat.le_of_ble_eq_true rfl) ⟨by simp [wnt, e, bI, Nat.not_le.mp (fun z => c (hg.mpr z))], rfl⟩
  · rw [e]
    refine k_tableIn (off := 66) 74 dX4_wantsFor_8 (by decide) (by decide) (by decide +kernel) rfl ?_
    refine k_iconst (nI 0) 75 dX4_wantsFor_74 rfl kc_0 ?_
    refine k_zret dX4_wantsFor_75 rfl rfl rfl (Nat.le_of_ble_eq_true rfl) ⟨by simp [wnt, e, bI], rfl⟩
  · rw [e]
    refine k_tableIn (off := 42) 50 dX4_wantsFor_8 (by decide) (by decide) (by decide +kernel) rfl ?_
    refine k_iconst (nI 1) 51 dX4_wantsFor_50 rfl kc_1 ?_
    refine k_zret dX4_wantsFor_51 rfl rfl rfl (Nat.le_of_ble_eq_true rfl) ⟨by simp [wnt, e, bI], rfl⟩
  · rw [e]
    refine k_tableIn (off := 44) 52 dX4_wantsFor_8 (by decide) (by decide) (by decide +kernel) rfl ?_
    refine k_iload_n 53 dX4_wantsFor_52 rfl rfl rfl ?_
    refine k_if_le 72 56 dX4_wantsFor_53 rfl rfl (fun c => ?_) (fun c => ?_)
    · refine k_iconst (nI 0) 73 dX4_wantsFor_72 rfl kc_0 ?_
      refine k_zret dX4_wantsFor_73 rfl rfl rfl (Nat.le_of_ble_eq_true rfl) ⟨by simp [wnt, e, bI, Nat.not_lt.mpr (hg.mp c)], rfl⟩
    · have hlt := Nat.not_le.mp (fun z => c (hg.mpr z))
      rw [pk_sub (by omega)]
      refine k_aload_n 57 dX4_wantsFor_56 rfl rfl rfl ?_
      refine k_get 60 dX4_wantsFor_57 rfl fX4_wantsFor_18 (by (repeat (refine Is.ne ?_ (by omega))); first | assumption | exact Is.up (by omega)) (by rfl) ?_
      refine k_iload_n 61 dX4_wantsFor_60 rfl rfl rfl ?_
      refine k_S2 64 dX4_wantsFor_61 rfl vX4_wantsFor_37 (Nat.le_of_ble_eq_true rfl) rfl ⟨Nat.le_of_ble_eq_true rfl, Nat.le_of_ble_eq_true rfl⟩ (c_X3_at h3 (by omega) (by omega)) (fun r9 w9 h9 => ?_)
      obtain ⟨h8, h9⟩ := h9
      subst h8
      have h9 := h9.symm
      subst h9
      refine k_iload_n 65 dX4_wantsFor_64 rfl rfl rfl ?_
      rw [hu p hp]
      refine k_icmp_ltN 72 68 dX4_wantsFor_65 rfl rfl (by omega) (by omega) (fun c => ?_) (fun c => ?_)
      · refine k_iconst (nI 0) 73 dX4_wantsFor_72 rfl kc_0 ?_
        refine k_zret dX4_wantsFor_73 rfl rfl rfl (Nat.le_of_ble_eq_true rfl) ⟨by simp [wnt, e, bI, hlt]; omega, rfl⟩
      · refine k_iconst (nI 1) 69 dX4_wantsFor_68 rfl kc_1 ?_
        refine k_goto 73 dX4_wantsFor_69 rfl ?_
        refine k_zret dX4_wantsFor_73 rfl rfl rfl (Nat.le_of_ble_eq_true rfl) ⟨by simp [wnt, e, bI, hlt]; omega, rfl⟩
theorem c_X4_pushAll {G : KG} {N : Nat} {w : WD} {a b n : Nat} {M : Mo} {F : Fo} (h : ScM G N w a n M) (hF : FkM G N w b F) (hab : a + 5 ≤ b ∨ b + 4 ≤ a) (hO : mOK n M) (hK : oOK F) (hn : n = oN F) (hG : mG M + 200 < 2000) : KCon G jX4_pushAll N w [rf G a, rf G b] (fun r w1 => r = none ∧ ScM G N w1 a n (pal F (mG M) M (mL M - 1)) ∧ Eqx w w1 a (a + 5)) := by
  have hn7 := hO.2.1
  have hL7 := ok_l7 hO
  have hO2 : mOK' n M := ⟨hO.1, hO.2.1, hO.2.2.1, hO.2.2.2.1, hO.2.2.2.2.1, hO.2.2.2.2.2.2.1, hO.2.2.2.2.2.2.2.1⟩
  refine KCon.of ([some (rf G a), some (rf G b), none, none, none, none]) (by decide) rfl (by simp [Value.category]) (Nat.le_of_ble_eq_true rfl) rfl ?_
  refine k_iconst (nI 1) 1 dX4_pushAll_0 rfl kc_1 ?_
  refine k_istore_n _ 2 dX4_pushAll_1 rfl rfl (by decide) rfl rfl ?_
  have loop : ∀ d k (w1 : WD), (k + d = mL M ∨ (d = 0 ∧ mL M ≤ k ∧ k = 1)) → 1 ≤ k → ScM G N w1 a n (pal F (mG M) M (k - 1)) → Eqx w w1 a (a + 5) → KRun G jX4_pushAll N (fun r w1 => r = none ∧ ScM G N w1 a n (pal F (mG M) M (mL M - 1)) ∧ Eqx w w1 a (a + 5)) 2 [some (rf G a), some (rf G b), some (.int (nI k)), none, none, none] [] 0 0 w1 := by
    intro d
    induction d with
    | zero =>
      intro k w1 hk hk1 hS hE
      have hk2 : mL M ≤ k := by omega
      have e1 : pal F (mG M) M (k - 1) = pal F (mG M) M (mL M - 1) := by
        congr 1
        omega
      have hS2 := hS
      obtain ⟨l, wh, pu, db, ⟨g0, g1, g2, g3, g4⟩, -⟩ := hS2
      rw [(pal_L F (mG M) M (k - 1)).1, (pal_L F (mG M) M (k - 1)).2.1] at g0
      refine k_iload_n 3 dX4_pushAll_2 rfl rfl rfl ?_
      refine k_aload_n 4 dX4_pushAll_3 rfl rfl rfl ?_
      refine k_get 7 dX4_pushAll_4 rfl fX4_pushAll_24 (by (repeat (refine Is.ne ?_ (by omega))); first | assumption | exact Is.up (by omega)) (by rfl) ?_
      refine k_icmp_geN 118 10 dX4_pushAll_7 rfl rfl (by omega) (by omega) (fun c => ?_) (fun c => ?_)
      · refine k_vret dX4_pushAll_118 rfl rfl (Nat.le_of_ble_eq_true rfl) ⟨rfl, e1 ▸ hS, hE⟩
      · omega
    | succ d ih =>
      intro k w1 hk hk1 hS hE
      have hk2 : k < mL M := by omega
      have hF1 := hF.fr hE (by omega)
      obtain ⟨hOk, hOw⟩ := ok_pal (g := mG M) hO2 hK hn (k - 1) (by omega)
      obtain ⟨pl1, pl2, pl3, pl4⟩ := pal_L F (mG M) M (k - 1)
      have hnext : pal F (mG M) M k = pst F (mG M) (pal F (mG M) M (k - 1)) k := by
        obtain ⟨j, rfl⟩ : ∃ z, k = z + 1 := ⟨k - 1, by omega⟩
        rfl
      have hO3 : mOK' n (pal F (mG M) M (k - 1)) := hOk
      obtain ⟨Mk, hMk⟩ : ∃ z, z = pal F (mG M) M (k - 1) := ⟨_, rfl⟩
      rw [← hMk] at hS hO3 pl1 pl2 hnext
      have hS2 := hS
      obtain ⟨l, wh, pu, db, ⟨g0, g1, g2, g3, g4⟩, hl, hw, hu, hd⟩ := hS2
      have hF2 := hF1
      obtain ⟨kd, wo, pe, ⟨f0, f1, f2, f3⟩, hr⟩ := hF2
      have hN := g4.1
      have hp := hO3.2.2.1 k (by omega)
      have ho := hO3.2.2.1 (k - 1) (by omega)
      obtain ⟨-, hwp, ht1, ht2⟩ := hK.2.2 (mQ Mk k) (by omega)
      obtain ⟨-, hwo, -, -⟩ := hK.2.2 (mQ Mk (k - 1)) (by omega)
      refine k_iload_n 3 dX4_pushAll_2 rfl rfl rfl ?_
      refine k_aload_n 4 dX4_pushAll_3 rfl rfl rfl ?_
      refine k_get 7 dX4_pushAll_4 rfl fX4_pushAll_24 (by (repeat (refine Is.ne ?_ (by omega))); first | assumption | exact Is.up (by omega)) (by rfl) ?_
      refine k_icmp_geN 118 10 dX4_pushAll_7 rfl rfl (by omega) (by omega) (fun c => ?_) (fun c => ?_)
      · omega
      refine k_iload_n 11 dX4_pushAll_10 rfl rfl rfl ?_
      refine k_aload_n 12 dX4_pushAll_11 rfl rfl rfl ?_
      refine k_get 15 dX4_pushAll_12 rfl fX4_pushAll_9 (by (repeat (refine Is.ne ?_ (by omega))); first | assumption | exact Is.up (by omega)) (by rfl) ?_
      refine k_alen 16 dX4_pushAll_15 rfl (by (repeat (refine Is.ne ?_ (by omega))); first | assumption | exact Is.up (by omega)) ?_
      refine k_icmp_geN 118 19 dX4_pushAll_16 rfl rfl (by omega) (by omega) (fun c => ?_) (fun c => ?_)
      · omega
      refine k_aload_n 20 dX4_pushAll_19 rfl rfl rfl ?_
      refine k_get 23 dX4_pushAll_20 rfl fX4_pushAll_9 (by (repeat (refine Is.ne ?_ (by omega))); first | assumption | exact Is.up (by omega)) (by rfl) ?_
      refine k_iload_n 24 dX4_pushAll_23 rfl rfl rfl ?_
      refine k_ialdN 25 dX4_pushAll_24 rfl (by (repeat (refine Is.ne ?_ (by omega))); first | assumption | exact Is.up (by omega)) (by omega) (by omega) ?_
      rw [hl k (by omega)]
      refine k_istore_n _ 26 dX4_pushAll_25 rfl rfl (by decide) rfl rfl ?_
      refine k_aload_n 27 dX4_pushAll_26 rfl rfl rfl ?_
      refine k_get 30 dX4_pushAll_27 rfl fX4_pushAll_28 (by (repeat (refine Is.ne ?_ (by omega))); first | assumption | exact Is.up (by omega)) (by rfl) ?_
      refine k_aload_n 31 dX4_pushAll_30 rfl rfl rfl ?_
      refine k_get 34 dX4_pushAll_31 rfl fX4_pushAll_95 (by (repeat (refine Is.ne ?_ (by omega))); first | assumption | exact Is.up (by omega)) (by rfl) ?_
      refine k_iload_n 35 dX4_pushAll_34 rfl rfl rfl ?_
      refine k_S2 38 dX4_pushAll_35 rfl vX4_pushAll_37 (Nat.le_of_ble_eq_true rfl) rfl ⟨Nat.le_of_ble_eq_true rfl, Nat.le_of_ble_eq_true rfl⟩ (c_X3_at f3 (by omega) (by omega)) (fun r9 w9 h9 => ?_)
      obtain ⟨h8, h9⟩ := h9
      subst h8
      have h9 := h9.symm
      subst h9
      rw [(hr _ (by omega)).2.2, pl2]
      refine k_S2 41 dX4_pushAll_38 rfl vX4_pushAll_91 (Nat.le_of_ble_eq_true rfl) rfl ⟨Nat.le_of_ble_eq_true rfl, Nat.le_of_ble_eq_true rfl⟩ (c_X3_isMultiple (by omega) (by omega) (by omega)) (fun r9 w9 h9 => ?_)
      obtain ⟨h8, h9⟩ := h9
      subst h8
      have h9 := h9.symm
      subst h9
      refine k_if_eqB 112 44 dX4_pushAll_41 rfl rfl (fun c9 => ?_) (fun c9 => ?_)
      · have e : pst F (mG M) Mk k = Mk := by
          unfold pst
          rw [if_neg (fun z => by simp [z.1] at c9)]
        refine k_iinc _ _ 115 dX4_pushAll_112 rfl rfl (nI_inc _) (by decide) rfl rfl ?_
        refine k_goto 2 dX4_pushAll_115 rfl ?_
        refine k_loc [some (rf G a), some (rf G b), some (.int (nI (k + 1))), none, none, none] ⟨rfl, rfl, rfl, trivial⟩ rfl ?_
        exact ih (k + 1) w1 (by omega) (by omega) (by rw [Nat.add_sub_cancel, hnext, e]; exact hS) hE
      · refine k_aload_n 45 dX4_pushAll_44 rfl rfl rfl ?_
        refine k_get 48 dX4_pushAll_45 rfl fX4_pushAll_9 (by (repeat (refine Is.ne ?_ (by omega))); first | assumption | exact Is.up (by omega)) (by rfl) ?_
        refine k_iload_n 49 dX4_pushAll_48 rfl rfl rfl ?_
        refine k_iconst (nI 1) 50 dX4_pushAll_49 rfl kc_1 ?_
        first | refine k_isubE _ 51 dX4_pushAll_50 rfl (pk_sub (by omega)) ?_ | refine k_isub 51 dX4_pushAll_50 rfl ?_
        refine k_ialdN 52 dX4_pushAll_51 rfl (by (repeat (refine Is.ne ?_ (by omega))); first | assumption | exact Is.up (by omega)) (by omega) (by omega) ?_
        rw [hl (k - 1) (by omega)]
        refine k_istore _ 54 dX4_pushAll_52 rfl (by decide) rfl rfl ?_
        refine k_aload_n 55 dX4_pushAll_54 rfl rfl rfl ?_
        refine k_iload_n 56 dX4_pushAll_55 rfl rfl rfl ?_
        refine k_iload 58 dX4_pushAll_56 rfl rfl ?_
        refine k_V2 (ci := 1) 61 dX4_pushAll_58 rfl vX4_pushAll_98 (by (repeat (refine Is.ne ?_ (by omega))); first | assumption | exact Is.up (by omega)) rfl rfl (Nat.le_of_ble_eq_true rfl) rfl ⟨Nat.le_of_ble_eq_true rfl, Nat.le_of_ble_eq_true rfl⟩ (c_X1_gain hF1 (by omega) (by omega) (by omega)) (fun r9 w9 h9 => ?_)
        obtain ⟨h8, h9⟩ := h9
        subst h8
        have h9 := h9.symm
        subst h9
        refine k_istore _ 63 dX4_pushAll_61 rfl (by decide) rfl rfl ?_
        refine k_aload_n 64 dX4_pushAll_63 rfl rfl rfl ?_
        refine k_aload_n 65 dX4_pushAll_64 rfl rfl rfl ?_
        refine k_iload_n 66 dX4_pushAll_65 rfl rfl rfl ?_
        refine k_iload 68 dX4_pushAll_66 rfl rfl ?_
        refine k_V3 (ci := 3) 71 dX4_pushAll_68 rfl vX4_pushAll_101 (by (repeat (refine Is.ne ?_ (by omega))); first | assumption | exact Is.up (by omega)) rfl rfl (Nat.le_of_ble_eq_true rfl) rfl ⟨Nat.le_of_ble_eq_true rfl, Nat.le_of_ble_eq_true rfl⟩ (c_X4_wantsFor hS hF1 hO3 hK hn hp ho) (fun r9 w9 h9 => ?_)
        obtain ⟨h8, h9⟩ := h9
        subst h8
        have h9 := h9.symm
        subst h9
        refine k_if_eqB 112 74 dX4_pushAll_71 rfl rfl (fun c8 => ?_) (fun c8 => ?_)
        · have e : pst F (mG M) Mk k = Mk := by
            unfold pst
            rw [if_neg (fun z => by simp [z.2] at c8)]
          refine k_iinc _ _ 115 dX4_pushAll_112 rfl rfl (nI_inc _) (by decide) rfl rfl ?_
          refine k_goto 2 dX4_pushAll_115 rfl ?_
          refine k_loc [some (rf G a), some (rf G b), some (.int (nI (k + 1))), none, none, none] ⟨rfl, rfl, rfl, trivial⟩ rfl ?_
          exact ih (k + 1) w1 (by omega) (by omega) (by rw [Nat.add_sub_cancel, hnext, e]; exact hS) hE
        · refine k_aload_n 75 dX4_pushAll_74 rfl rfl rfl ?_
          refine k_get 78 dX4_pushAll_75 rfl fX4_pushAll_9 (by (repeat (refine Is.ne ?_ (by omega))); first | assumption | exact Is.up (by omega)) (by rfl) ?_
          refine k_iload_n 79 dX4_pushAll_78 rfl rfl rfl ?_
          refine k_iconst (nI 1) 80 dX4_pushAll_79 rfl kc_1 ?_
          first | refine k_isubE _ 81 dX4_pushAll_80 rfl (pk_sub (by omega)) ?_ | refine k_isub 81 dX4_pushAll_80 rfl ?_
          refine k_iload_n 82 dX4_pushAll_81 rfl rfl rfl ?_
          refine k_iastN 83 dX4_pushAll_82 rfl (by (repeat (refine Is.ne ?_ (by omega))); first | assumption | exact Is.up (by omega)) (by omega) (by omega) ?_
          refine k_aload_n 84 dX4_pushAll_83 rfl rfl rfl ?_
          refine k_get 87 dX4_pushAll_84 rfl fX4_pushAll_9 (by (repeat (refine Is.ne ?_ (by omega))); first | assumption | exact Is.up (by omega)) (by rfl) ?_
          refine k_iload_n 88 dX4_pushAll_87 rfl rfl rfl ?_
          refine k_iload 90 dX4_pushAll_88 rfl rfl ?_
          refine k_iastN 91 dX4_pushAll_90 rfl (by (repeat (refine Is.ne ?_ (by omega))); first | assumption | exact Is.up (by omega)) (by omega) (by omega) ?_
          refine k_nm (fun w2 hw2 => ?_)
          have hS3 : ScM G N w2 a n (mG Mk, mL Mk, sf (sf (mQ Mk) (k - 1) (mQ Mk k)) k (mQ Mk (k - 1)), mW Mk, mP Mk, mD Mk) := by
            rw [hw2]
            exact ⟨_, wh, pu, db, ⟨(by (repeat (refine Is.ne ?_ (by omega))); first | assumption | exact Is.up (by omega)), (by (repeat (refine Is.ne ?_ (by omega))); first | assumption | exact Is.up (by omega)), (by (repeat (refine Is.ne ?_ (by omega))); first | assumption | exact Is.up (by omega)), (by (repeat (refine Is.ne ?_ (by omega))); first | assumption | exact Is.up (by omega)), (by (repeat (refine Is.ne ?_ (by omega))); first | assumption | exact Is.up (by omega))⟩, upd_nI (upd_nI hl _ _) _ _, hw, hu, hd⟩
          have hE3 : Eqx w1 w2 a (a + 5) := by
            rw [hw2]
            exact (by (repeat (refine Eqx.up ?_ (by omega) (by omega))); first | exact Eqx.rf | assumption)
          have hS5 := hS3
          obtain ⟨l2, wh2, pu2, db2, ⟨s0, s1, s2, s3, s4⟩, -⟩ := hS5
          refine k_aload_n 92 dX4_pushAll_91 rfl rfl rfl ?_
          refine k_iload_n 93 dX4_pushAll_92 rfl rfl rfl ?_
          refine k_iload 95 dX4_pushAll_93 rfl rfl ?_
          refine k_aload_n 96 dX4_pushAll_95 rfl rfl rfl ?_
          refine k_iload_n 97 dX4_pushAll_96 rfl rfl rfl ?_
          refine k_iload 99 dX4_pushAll_97 rfl rfl ?_
          refine k_V2 (ci := 3) 102 dX4_pushAll_99 rfl vX4_pushAll_54 (by (repeat (refine Is.ne ?_ (by omega))); first | assumption | exact Is.up (by omega)) rfl rfl (Nat.le_of_ble_eq_true rfl) rfl ⟨Nat.le_of_ble_eq_true rfl, Nat.le_of_ble_eq_true rfl⟩ (c_X4_debt hS3 (by omega) (by omega)) (fun r9 w9 h9 => ?_)
          obtain ⟨h8, h9⟩ := h9
          subst h8
          have h9 := h9.symm
          subst h9
          refine k_iconst (nI 0) 103 dX4_pushAll_102 rfl kc_0 ?_
          refine k_iload 105 dX4_pushAll_103 rfl rfl ?_
          refine k_max _ 108 dX4_pushAll_105 rfl vX4_pushAll_105 (Nat.le_of_ble_eq_true rfl) ⟨Nat.le_of_ble_eq_true rfl, Nat.le_of_ble_eq_true rfl⟩ (gain_max (by omega) (by omega)) ?_
          first | refine k_iaddE _ 109 dX4_pushAll_108 rfl (nI_add _ _) ?_ | refine k_iadd 109 dX4_pushAll_108 rfl ?_
          refine k_V3 (ci := 3) 112 dX4_pushAll_109 rfl vX4_pushAll_73 (by (repeat (refine Is.ne ?_ (by omega))); first | assumption | exact Is.up (by omega)) rfl rfl (Nat.le_of_ble_eq_true rfl) rfl ⟨Nat.le_of_ble_eq_true rfl, Nat.le_of_ble_eq_true rfl⟩ (c_X4_setDebt hS3 (by omega) (by omega)) (fun r5 w3 x5 => ?_)
          obtain ⟨rfl, hS4, hE4⟩ := x5
          have e : pst F (mG M) Mk k = sD (mG Mk, mL Mk, sf (sf (mQ Mk) (k - 1) (mQ Mk k)) k (mQ Mk (k - 1)), mW Mk, mP Mk, mD Mk) (7 * mQ Mk k + mQ Mk (k - 1)) (mD Mk (7 * mQ Mk k + mQ Mk (k - 1)) + (oW F (mQ Mk k) - oW F (mQ Mk (k - 1)))) := by
            unfold pst
            rw [if_pos ⟨of_decide_eq_true c9, c8⟩]
            rfl
          refine k_iinc _ _ 115 dX4_pushAll_112 rfl rfl (nI_inc _) (by decide) rfl rfl ?_
          refine k_goto 2 dX4_pushAll_115 rfl ?_
          refine k_loc [some (rf G a), some (rf G b), some (.int (nI (k + 1))), none, none, none] ⟨rfl, rfl, rfl, trivial⟩ rfl ?_
          exact ih (k + 1) w3 (by omega) (by omega) (by rw [Nat.add_sub_cancel, hnext, e]; exact hS4) (hE.tr (hE3.tr hE4))
  exact loop (mL M - 1) 1 w (by omega) (by omega) (show ScM G N w a n (pal F (mG M) M (1 - 1)) from h) Eqx.rf
theorem c_X4_runMinute {G : KG} {N : Nat} {w : WD} {a b n : Nat} {M : Mo} {F : Fo} {pb : Bool} (h : ScM G N w a n M) (hF : FkM G N w b F) (hab : a + 5 ≤ b ∨ b + 4 ≤ a) (hO : mOK n M) (hK : oOK F) (hn : n = oN F) (hG : mG M + 300 < 2000) : KCon G jX4_runMinute N w [rf G a, rf G b, .int (bI pb)] (fun r w1 => r = none ∧ ScM G N w1 a n (mnt F pb M) ∧ Eqx w w1 a (a + 5)) := by
  have hn7 := hO.2.1
  have hL7 := ok_l7 hO
  have h9 := h
  obtain ⟨l, wh, pu, db, ⟨h0, h1, h2, h3, h4⟩, hl, hw, hu, hd⟩ := h9
  have hN := h4.1
  refine KCon.of ([some (rf G a), some (rf G b), some (.int (bI pb))]) (by decide) rfl (by simp [Value.category]) (Nat.le_of_ble_eq_true rfl) rfl ?_
  refine k_aload_n 1 dX4_runMinute_0 rfl rfl rfl ?_
  refine k_dup 2 dX4_runMinute_1 rfl rfl ?_
  refine k_get 5 dX4_runMinute_2 rfl fX4_runMinute_28 (by (repeat (refine Is.ne ?_ (by omega))); first | assumption | exact Is.up (by omega)) (by rfl) ?_
  refine k_iconst (nI 1) 6 dX4_runMinute_5 rfl kc_1 ?_
  first | refine k_iaddE _ 7 dX4_runMinute_6 rfl (nI_add _ _) ?_ | refine k_iadd 7 dX4_runMinute_6 rfl ?_
  refine k_put 10 dX4_runMinute_7 rfl pX4_runMinute_28 (by (repeat (refine Is.ne ?_ (by omega))); first | assumption | exact Is.up (by omega)) (Nat.le_of_ble_eq_true rfl) rfl rfl ?_
  refine k_nm (fun w1 hw1 => ?_)
  have hS1 : ScM G N w1 a n (mG M + 1, M.2) := by
    rw [hw1]
    exact ⟨l, wh, pu, db, ⟨(by (repeat (refine Is.ne ?_ (by omega))); first | assumption | exact Is.up (by omega)), (by (repeat (refine Is.ne ?_ (by omega))); first | assumption | exact Is.up (by omega)), (by (repeat (refine Is.ne ?_ (by omega))); first | assumption | exact Is.up (by omega)), (by (repeat (refine Is.ne ?_ (by omega))); first | assumption | exact Is.up (by omega)), (by (repeat (refine Is.ne ?_ (by omega))); first | assumption | exact Is.up (by omega))⟩, hl, hw, hu, hd⟩
  have hE1 : Eqx w w1 a (a + 5) := by
    rw [hw1]
    exact (by (repeat (refine Eqx.up ?_ (by omega) (by omega))); first | exact Eqx.rf | assumption)
  clear hw1
  have hO1 := ok_tick hO (by omega)
  have hF1 := hF.fr hE1 (by omega)
  have tail : ∀ (w2 : WD) (M1 : Mo), ScM G N w2 a n M1 → Eqx w w2 a (a + 5) → mOK n M1 → mL M1 = mL M → mG M1 = mG M + 1 → (if pb = true then pal F (mG M + 1) (mG M + 1, M.2) (mL M - 1) else (mG M + 1, M.2)) = M1 → KRun G jX4_runMinute N (fun r w1 => r = none ∧ ScM G N w1 a n (mnt F pb M) ∧ Eqx w w1 a (a + 5)) 19 [some (rf G a), some (rf G b), some (.int (bI pb))] [] 0 0 w2 := by
    intro w2 M1 hS2 hE2 hO2 hL2 hG2 hM1
    have hm : mnt F pb M = if 0 < mL M ∧ (mG M + 1) % oS F = 0 then rem M1 0 1 else M1 := by
      rw [← hM1]
      rfl
    have hS3 := hS2
    obtain ⟨l2, wh2, pu2, db2, ⟨s0, s1, s2, s3, s4⟩, sl, sw, su, sd⟩ := hS3
    have hF2 := hF.fr hE2 (by omega)
    obtain ⟨kd, wo, pe, ⟨f0, f1, f2, f3⟩, hr⟩ := hF2
    have hs1 := hK.2.1
    refine k_aload_n 20 dX4_runMinute_19 rfl rfl rfl ?_
    refine k_get 23 dX4_runMinute_20 rfl fX4_runMinute_24 (by (repeat (refine Is.ne ?_ (by omega))); first | assumption | exact Is.up (by omega)) (by rfl) ?_
    refine k_if_leN 53 26 dX4_runMinute_23 rfl rfl (by omega) (fun c => ?_) (fun c => ?_)
    · refine k_vret dX4_runMinute_53 rfl rfl (Nat.le_of_ble_eq_true rfl) ⟨rfl, by rw [hm, if_neg (by omega)]; exact hS2, hE2⟩
    · refine k_aload_n 27 dX4_runMinute_26 rfl rfl rfl ?_
      refine k_get 30 dX4_runMinute_27 rfl fX4_runMinute_28 (by (repeat (refine Is.ne ?_ (by omega))); first | assumption | exact Is.up (by omega)) (by rfl) ?_
      refine k_aload_n 31 dX4_runMinute_30 rfl rfl rfl ?_
      refine k_get 34 dX4_runMinute_31 rfl fX4_runMinute_88 (by (repeat (refine Is.ne ?_ (by omega))); first | assumption | exact Is.up (by omega)) (by rfl) ?_
      refine k_S2 37 dX4_runMinute_34 rfl vX4_runMinute_91 (Nat.le_of_ble_eq_true rfl) rfl ⟨Nat.le_of_ble_eq_true rfl, Nat.le_of_ble_eq_true rfl⟩ (c_X3_isMultiple (by omega) (by omega) (by omega)) (fun r9 w9 h9 => ?_)
      obtain ⟨h8, h9⟩ := h9
      subst h8
      have h9 := h9.symm
      subst h9
      refine k_if_eqB 53 40 dX4_runMinute_37 rfl rfl (fun c9 => ?_) (fun c9 => ?_)
      · have c8 := of_decide_eq_false c9
        rw [hG2] at c8
        refine k_vret dX4_runMinute_53 rfl rfl (Nat.le_of_ble_eq_true rfl) ⟨rfl, by rw [hm, if_neg (fun z => c8 z.2)]; exact hS2, hE2⟩
      · have c8 := of_decide_eq_true c9
        rw [hG2] at c8
        refine k_aload_n 41 dX4_runMinute_40 rfl rfl rfl ?_
        refine k_aload_n 42 dX4_runMinute_41 rfl rfl rfl ?_
        refine k_get 45 dX4_runMinute_42 rfl fX4_runMinute_9 (by (repeat (refine Is.ne ?_ (by omega))); first | assumption | exact Is.up (by omega)) (by rfl) ?_
        refine k_iconst (nI 0) 46 dX4_runMinute_45 rfl kc_0 ?_
        refine k_S2 49 dX4_runMinute_46 rfl vX4_runMinute_37 (Nat.le_of_ble_eq_true rfl) rfl ⟨Nat.le_of_ble_eq_true rfl, Nat.le_of_ble_eq_true rfl⟩ (c_X3_at s1 (by omega) (by omega)) (fun r9 w9 h9 => ?_)
        obtain ⟨h8, h9⟩ := h9
        subst h8
        have h9 := h9.symm
        subst h9
        rw [sl 0 (by omega)]
        refine k_iconst (nI 1) 50 dX4_runMinute_49 rfl kc_1 ?_
        refine k_V2 (ci := 3) 53 dX4_runMinute_50 rfl vX4_runMinute_62 (by (repeat (refine Is.ne ?_ (by omega))); first | assumption | exact Is.up (by omega)) rfl rfl (Nat.le_of_ble_eq_true rfl) rfl ⟨Nat.le_of_ble_eq_true rfl, Nat.le_of_ble_eq_true rfl⟩ (c_X4_takeOut hS2 hO2 (k := 0) (by omega) rfl) (fun r3 w3 x3 => ?_)
        obtain ⟨rfl, hS4, hE4⟩ := x3
        refine k_vret dX4_runMinute_53 rfl rfl (Nat.le_of_ble_eq_true rfl) ⟨rfl, by rw [hm, if_pos ⟨by omega, c8⟩]; exact hS4, hE2.tr hE4⟩
  have hS0 := hS1
  obtain ⟨l2, wh2, pu2, db2, ⟨s0, s1, s2, s3, s4⟩, -⟩ := hS0
  refine k_iload_n 11 dX4_runMinute_10 rfl rfl rfl ?_
  refine k_if_eqB 19 14 dX4_runMinute_11 rfl rfl (fun c9 => ?_) (fun c9 => ?_)
  · exact tail w1 _ hS1 hE1 hO1 rfl rfl (by rw [if_neg (by simp [c9])])
  · refine k_aload_n 15 dX4_runMinute_14 rfl rfl rfl ?_
    refine k_aload_n 16 dX4_runMinute_15 rfl rfl rfl ?_
    refine k_V1 (ci := 3) 19 dX4_runMinute_16 rfl vX4_runMinute_84 (by (repeat (refine Is.ne ?_ (by omega))); first | assumption | exact Is.up (by omega)) rfl rfl (Nat.le_of_ble_eq_true rfl) rfl ⟨Nat.le_of_ble_eq_true rfl, Nat.le_of_ble_eq_true rfl⟩ (c_X4_pushAll hS1 hF1 hab hO1 hK hn (show mG M + 1 + 200 < 2000 by omega)) (fun r2 w2 x2 => ?_)
    obtain ⟨rfl, hS2, hE2⟩ := x2
    have hO2 : mOK' n (mG M + 1, M.2) := ⟨hO1.1, hO1.2.1, hO1.2.2.1, hO1.2.2.2.1, hO1.2.2.2.2.1, hO1.2.2.2.2.2.2.1, hO1.2.2.2.2.2.2.2.1⟩
    obtain ⟨hOk, hOw⟩ := ok_pal (g := mG M + 1) hO2 hK hn (mL M - 1) (by show mL M - 1 < mL M ∨ _; omega)
    obtain ⟨pl1, pl2, pl3, pl4⟩ := pal_L F (mG M + 1) (mG M + 1, M.2) (mL M - 1)
    have hOw : owf (mD (pal F (mG M + 1) (mG M + 1, M.2) (mL M - 1))) 49 ≤ owf (mD M) 49 + 20 * (mL M - 1) := hOw
    have h6 := hO.2.2.2.2.2.1
    refine tail w2 _ hS2 (hE1.tr hE2) ⟨hOk.1, hOk.2.1, hOk.2.2.1, hOk.2.2.2.1, hOk.2.2.2.2.1, ?_, hOk.2.2.2.2.2.1, hOk.2.2.2.2.2.2, ?_⟩ pl1 pl2 (by rw [if_pos c9]; rfl)
    · rw [show mG (pal F (mG (mG M + 1, M.2)) (mG M + 1, M.2) (mL (mG M + 1, M.2) - 1)) = mG M + 1 from pl2]
      show owf (mD (pal F (mG M + 1) (mG M + 1, M.2) (mL M - 1))) 49 ≤ _
      omega
    · rw [show mG (pal F (mG (mG M + 1, M.2)) (mG M + 1, M.2) (mL (mG M + 1, M.2) - 1)) = mG M + 1 from pl2]
      omega
theorem c_X4_run {G : KG} {N : Nat} {w : WD} {a b n m : Nat} {M : Mo} {F : Fo} (h : ScM G N w a n M) (hF : FkM G N w b F) (hab : a + 5 ≤ b ∨ b + 4 ≤ a) (hO : mOK n M) (hK : oOK F) (hn : n = oN F) (hG : mG M + m + 300 < 2000) : KCon G jX4_run N w [rf G a, rf G b, .int (nI m)] (fun r w1 => r = none ∧ ScM G N w1 a n (mns F M m) ∧ Eqx w w1 a (a + 5)) := by
  refine KCon.of ([some (rf G a), some (rf G b), some (.int (nI m)), none]) (by decide) rfl (by simp [Value.category]) (Nat.le_of_ble_eq_true rfl) rfl ?_
  refine k_iconst (nI 0) 1 dX4_run_0 rfl kc_0 ?_
  refine k_istore_n _ 2 dX4_run_1 rfl rfl (by decide) rfl rfl ?_
  have loop : ∀ d i (w1 : WD), i + d = m → ScM G N w1 a n (mns F M i) → Eqx w w1 a (a + 5) → KRun G jX4_run N (fun r w1 => r = none ∧ ScM G N w1 a n (mns F M m) ∧ Eqx w w1 a (a + 5)) 2 [some (rf G a), some (rf G b), some (.int (nI m)), some (.int (nI i))] [] 0 0 w1 := by
    intro d
    induction d with
    | zero =>
      intro i w1 hi hS hE
      refine k_iload_n 3 dX4_run_2 rfl rfl rfl ?_
      refine k_iload_n 4 dX4_run_3 rfl rfl rfl ?_
      refine k_icmp_geN 19 7 dX4_run_4 rfl rfl (by omega) (by omega) (fun c => ?_) (fun c => ?_)
      · refine k_vret dX4_run_19 rfl rfl (Nat.le_of_ble_eq_true rfl) ⟨rfl, by rw [show m = i by omega]; exact hS, hE⟩
      · omega
    | succ d ih =>
      intro i w1 hi hS hE
      obtain ⟨hOi, hGi⟩ := ok_mns hO hK hn i (by omega)
      have hF1 := hF.fr hE (by omega)
      have hS2 := hS
      obtain ⟨l2, wh2, pu2, db2, ⟨s0, s1, s2, s3, s4⟩, -⟩ := hS2
      refine k_iload_n 3 dX4_run_2 rfl rfl rfl ?_
      refine k_iload_n 4 dX4_run_3 rfl rfl rfl ?_
      refine k_icmp_geN 19 7 dX4_run_4 rfl rfl (by omega) (by omega) (fun c => ?_) (fun c => ?_)
      · omega
      · refine k_aload_n 8 dX4_run_7 rfl rfl rfl ?_
        refine k_aload_n 9 dX4_run_8 rfl rfl rfl ?_
        refine k_iconst (nI 1) 10 dX4_run_9 rfl kc_1 ?_
        refine k_V2 (ci := 3) 13 dX4_run_10 rfl vX4_run_80 (by (repeat (refine Is.ne ?_ (by omega))); first | assumption | exact Is.up (by omega)) rfl rfl (Nat.le_of_ble_eq_true rfl) rfl ⟨Nat.le_of_ble_eq_true rfl, Nat.le_of_ble_eq_true rfl⟩ (c_X4_runMinute (pb := true) hS hF1 hab hOi hK hn (by omega)) (fun r2 w2 x2 => ?_)
        obtain ⟨rfl, hS3, hE3⟩ := x2
        refine k_iinc _ _ 16 dX4_run_13 rfl rfl (nI_inc _) (by decide) rfl rfl ?_
        refine k_goto 2 dX4_run_16 rfl ?_
        exact ih (i + 1) w2 (by omega) hS3 (hE.tr hE3)
  exact loop m 0 w (by omega) h Eqx.rf
theorem c_X4_letPast {G : KG} {N : Nat} {w : WD} {a n p q : Nat} {M : Mo} (h : ScM G N w a n M) (hO : mOK n M) (hl : mayl M p q = true) : KCon G jX4_letPast N w [rf G a, .int (nI p), .int (nI q)] (fun r w1 => r = none ∧ ScM G N w1 a n (letp M p q) ∧ Eqx w w1 a (a + 5)) := by
  have hn7 := hO.2.1
  have hL7 := ok_l7 hO
  have hQ := ok_q7 hO
  unfold mayl at hl
  cases e1 : plc M p with
  | none => rw [e1] at hl; exact absurd hl (by simp)
  | some i =>
    cases e2 : plc M q with
    | none => rw [e1, e2] at hl; exact absurd hl (by simp)
    | some j =>
      rw [e1, e2] at hl
      have hij : i < j := by simpa using hl
      obtain ⟨hi1, hi2⟩ := plc_some e1
      obtain ⟨hj1, hj2⟩ := plc_some e2
      have hp7 := hQ i hi1
      have hq7 := hQ j hj1
      have e3 : letp M p q = ins (rem M j 2) q i := by
        unfold letp
        rw [e1, e2]
      have h9 := h
      obtain ⟨l, wh, pu, db, ⟨h0, h1, h2, h3, h4⟩, -⟩ := h9
      refine KCon.of ([some (rf G a), some (.int (nI p)), some (.int (nI q)), none]) (by decide) rfl (by simp [Value.category]) (Nat.le_of_ble_eq_true rfl) rfl ?_
      refine k_aload_n 1 dX4_letPast_0 rfl rfl rfl ?_
      refine k_iload_n 2 dX4_letPast_1 rfl rfl rfl ?_
      refine k_V1 (ci := 3) 5 dX4_letPast_2 rfl vX4_letPast_41 (by (repeat (refine Is.ne ?_ (by omega))); first | assumption | exact Is.up (by omega)) rfl rfl (Nat.le_of_ble_eq_true rfl) rfl ⟨Nat.le_of_ble_eq_true rfl, Nat.le_of_ble_eq_true rfl⟩ (c_X4_placeOf h hL7 hQ (by omega)) (fun r9 w9 h9 => ?_)
      obtain ⟨h8, h9⟩ := h9
      subst h8
      have h9 := h9.symm
      subst h9
      rw [e1]
      refine k_tp (.int (nI i)) rfl ?_
      refine k_istore_n _ 6 dX4_letPast_5 rfl rfl (by decide) rfl rfl ?_
      refine k_aload_n 7 dX4_letPast_6 rfl rfl rfl ?_
      refine k_iload_n 8 dX4_letPast_7 rfl rfl rfl ?_
      refine k_iconst (nI 2) 9 dX4_letPast_8 rfl kc_2 ?_
      refine k_V2 (ci := 3) 12 dX4_letPast_9 rfl vX4_letPast_62 (by (repeat (refine Is.ne ?_ (by omega))); first | assumption | exact Is.up (by omega)) rfl rfl (Nat.le_of_ble_eq_true rfl) rfl ⟨Nat.le_of_ble_eq_true rfl, Nat.le_of_ble_eq_true rfl⟩ (c_X4_takeOut h hO hj1 hj2) (fun r2 w2 x2 => ?_)
      obtain ⟨rfl, hS3, hE3⟩ := x2
      have hS4 := hS3
      obtain ⟨l2, wh2, pu2, db2, ⟨s0, s1, s2, s3, s4⟩, -⟩ := hS4
      refine k_aload_n 13 dX4_letPast_12 rfl rfl rfl ?_
      refine k_iload_n 14 dX4_letPast_13 rfl rfl rfl ?_
      refine k_iload_n 15 dX4_letPast_14 rfl rfl rfl ?_
      refine k_V2 (ci := 3) 18 dX4_letPast_15 rfl vX4_letPast_58 (by (repeat (refine Is.ne ?_ (by omega))); first | assumption | exact Is.up (by omega)) rfl rfl (Nat.le_of_ble_eq_true rfl) rfl ⟨Nat.le_of_ble_eq_true rfl, Nat.le_of_ble_eq_true rfl⟩ (c_X4_insert hS3 (show mL M - 1 < 7 by omega) (show i ≤ mL M - 1 by omega) (by omega) hn7) (fun r3 w3 x3 => ?_)
      obtain ⟨rfl, hS5, hE5⟩ := x3
      refine k_vret dX4_letPast_18 rfl rfl (Nat.le_of_ble_eq_true rfl) ⟨rfl, e3 ▸ hS5, hE3.tr hE5⟩
theorem c_X4_copyFrom {G : KG} {N : Nat} {w : WD} {a b n L g : Nat} {l wh pu db : Nat → Int32} {M : Mo} (h : ScR G N w a l wh pu db L g) (hb : ScM G N w b n M) (hab : a + 5 ≤ b ∨ b + 5 ≤ a) (hn : n ≤ 7) (hL : mL M ≤ 7) : KCon G jX4_copyFrom N w [rf G a, rf G b] (fun r w1 => r = none ∧ ScM G N w1 a n M ∧ Eqx w w1 a (a + 5)) := by
  obtain ⟨h0, h1, h2, h3, h4⟩ := h
  obtain ⟨l1, wh1, pu1, db1, ⟨g0, g1, g2, g3, g4⟩, gl, gw, gu, gd⟩ := hb
  have hN := h4.1
  have hN2 := g4.1
  refine KCon.of ([some (rf G a), some (rf G b)]) (by decide) rfl (by simp [Value.category]) (Nat.le_of_ble_eq_true rfl) rfl ?_
  refine k_aload_n 1 dX4_copyFrom_0 rfl rfl rfl ?_
  refine k_get 4 dX4_copyFrom_1 rfl fX4_copyFrom_9 (by (repeat (refine Is.ne ?_ (by omega))); first | assumption | exact Is.up (by omega)) (by rfl) ?_
  refine k_aload_n 5 dX4_copyFrom_4 rfl rfl rfl ?_
  refine k_get 8 dX4_copyFrom_5 rfl fX4_copyFrom_9 (by (repeat (refine Is.ne ?_ (by omega))); first | assumption | exact Is.up (by omega)) (by rfl) ?_
  refine k_S2 11 dX4_copyFrom_8 rfl vX4_copyFrom_31 (Nat.le_of_ble_eq_true rfl) rfl ⟨Nat.le_of_ble_eq_true rfl, Nat.le_of_ble_eq_true rfl⟩ (c_X3_copy (by (repeat (refine Is.ne ?_ (by omega))); first | assumption | exact Is.up (by omega)) (by (repeat (refine Is.ne ?_ (by omega))); first | assumption | exact Is.up (by omega)) (by omega)) (fun r9 w9 h9 => ?_)
  obtain ⟨h8, h9⟩ := h9
  subst h8
  have h9 := h9.symm
  subst h9
  refine k_aload_n 12 dX4_copyFrom_11 rfl rfl rfl ?_
  refine k_get 15 dX4_copyFrom_12 rfl fX4_copyFrom_15 (by (repeat (refine Is.ne ?_ (by omega))); first | assumption | exact Is.up (by omega)) (by rfl) ?_
  refine k_aload_n 16 dX4_copyFrom_15 rfl rfl rfl ?_
  refine k_get 19 dX4_copyFrom_16 rfl fX4_copyFrom_15 (by (repeat (refine Is.ne ?_ (by omega))); first | assumption | exact Is.up (by omega)) (by rfl) ?_
  refine k_S2 22 dX4_copyFrom_19 rfl vX4_copyFrom_31 (Nat.le_of_ble_eq_true rfl) rfl ⟨Nat.le_of_ble_eq_true rfl, Nat.le_of_ble_eq_true rfl⟩ (c_X3_copy (by (repeat (refine Is.ne ?_ (by omega))); first | assumption | exact Is.up (by omega)) (by (repeat (refine Is.ne ?_ (by omega))); first | assumption | exact Is.up (by omega)) (by omega)) (fun r9 w9 h9 => ?_)
  obtain ⟨h8, h9⟩ := h9
  subst h8
  have h9 := h9.symm
  subst h9
  refine k_aload_n 23 dX4_copyFrom_22 rfl rfl rfl ?_
  refine k_get 26 dX4_copyFrom_23 rfl fX4_copyFrom_18 (by (repeat (refine Is.ne ?_ (by omega))); first | assumption | exact Is.up (by omega)) (by rfl) ?_
  refine k_aload_n 27 dX4_copyFrom_26 rfl rfl rfl ?_
  refine k_get 30 dX4_copyFrom_27 rfl fX4_copyFrom_18 (by (repeat (refine Is.ne ?_ (by omega))); first | assumption | exact Is.up (by omega)) (by rfl) ?_
  refine k_S2 33 dX4_copyFrom_30 rfl vX4_copyFrom_31 (Nat.le_of_ble_eq_true rfl) rfl ⟨Nat.le_of_ble_eq_true rfl, Nat.le_of_ble_eq_true rfl⟩ (c_X3_copy (by (repeat (refine Is.ne ?_ (by omega))); first | assumption | exact Is.up (by omega)) (by (repeat (refine Is.ne ?_ (by omega))); first | assumption | exact Is.up (by omega)) (by omega)) (fun r9 w9 h9 => ?_)
  obtain ⟨h8, h9⟩ := h9
  subst h8
  have h9 := h9.symm
  subst h9
  refine k_aload_n 34 dX4_copyFrom_33 rfl rfl rfl ?_
  refine k_get 37 dX4_copyFrom_34 rfl fX4_copyFrom_21 (by (repeat (refine Is.ne ?_ (by omega))); first | assumption | exact Is.up (by omega)) (by rfl) ?_
  refine k_aload_n 38 dX4_copyFrom_37 rfl rfl rfl ?_
  refine k_get 41 dX4_copyFrom_38 rfl fX4_copyFrom_21 (by (repeat (refine Is.ne ?_ (by omega))); first | assumption | exact Is.up (by omega)) (by rfl) ?_
  refine k_S2 44 dX4_copyFrom_41 rfl vX4_copyFrom_31 (Nat.le_of_ble_eq_true rfl) rfl ⟨Nat.le_of_ble_eq_true rfl, Nat.le_of_ble_eq_true rfl⟩ (c_X3_copy (by (repeat (refine Is.ne ?_ (by omega))); first | assumption | exact Is.up (by omega)) (by (repeat (refine Is.ne ?_ (by omega))); first | assumption | exact Is.up (by omega)) (by omega)) (fun r9 w9 h9 => ?_)
  obtain ⟨h8, h9⟩ := h9
  subst h8
  have h9 := h9.symm
  subst h9
  refine k_aload_n 45 dX4_copyFrom_44 rfl rfl rfl ?_
  refine k_aload_n 46 dX4_copyFrom_45 rfl rfl rfl ?_
  refine k_get 49 dX4_copyFrom_46 rfl fX4_copyFrom_24 (by (repeat (refine Is.ne ?_ (by omega))); first | assumption | exact Is.up (by omega)) (by rfl) ?_
  refine k_put 52 dX4_copyFrom_49 rfl pX4_copyFrom_24 (by (repeat (refine Is.ne ?_ (by omega))); first | assumption | exact Is.up (by omega)) (Nat.le_of_ble_eq_true rfl) rfl rfl ?_
  refine k_aload_n 53 dX4_copyFrom_52 rfl rfl rfl ?_
  refine k_aload_n 54 dX4_copyFrom_53 rfl rfl rfl ?_
  refine k_get 57 dX4_copyFrom_54 rfl fX4_copyFrom_28 (by (repeat (refine Is.ne ?_ (by omega))); first | assumption | exact Is.up (by omega)) (by rfl) ?_
  refine k_put 60 dX4_copyFrom_57 rfl pX4_copyFrom_28 (by (repeat (refine Is.ne ?_ (by omega))); first | assumption | exact Is.up (by omega)) (Nat.le_of_ble_eq_true rfl) rfl rfl ?_
  refine k_vret dX4_copyFrom_60 rfl rfl (Nat.le_of_ble_eq_true rfl) ⟨rfl, ⟨_, _, _, _, ⟨(by (repeat (refine Is.ne ?_ (by omega))); first | assumption | exact Is.up (by omega)), (by (repeat (refine Is.ne ?_ (by omega))); first | assumption | exact Is.up (by omega)), (by (repeat (refine Is.ne ?_ (by omega))); first | assumption | exact Is.up (by omega)), (by (repeat (refine Is.ne ?_ (by omega))); first | assumption | exact Is.up (by omega)), (by (repeat (refine Is.ne ?_ (by omega))); first | assumption | exact Is.up (by omega))⟩, fun k hk => ?_, fun p hp => ?_, fun p hp => ?_, fun i hi => ?_⟩, (by (repeat (refine Eqx.up ?_ (by omega) (by omega))); first | exact Eqx.rf | assumption)⟩
  · rw [cpy0 _ _ (by omega)]
    exact gl k hk
  · rw [cpy0 _ _ (by omega)]
    exact gw p hp
  · rw [cpy0 _ _ (by omega)]
    exact gu p hp
  · rw [cpy0 _ _ (by omega)]
    exact gd i hi
theorem c_X4_empty {G : KG} {N : Nat} {w : WD} {a L g : Nat} {l wh pu db : Nat → Int32} (h : ScR G N w a l wh pu db L g) : KCon G jX4_empty N w [rf G a] (fun r w1 => r = none ∧ (∃ db1 : Nat → Int32, ScR G N w1 a l wh pu db1 0 0 ∧ ∀ i, i < 49 → db1 i = nI 0) ∧ Eqx w w1 a (a + 5)) := by
  refine KCon.of ([some (rf G a), none]) (by decide) rfl (by simp [Value.category]) (Nat.le_of_ble_eq_true rfl) rfl ?_
  refine k_iconst (nI 0) 1 dX4_empty_0 rfl kc_0 ?_
  refine k_istore_n _ 2 dX4_empty_1 rfl rfl (by decide) rfl rfl ?_
  have loop : ∀ d i (w1 : WD) (f : Nat → Int32), i + d = 49 → ScR G N w1 a l wh pu f L g → Eqx w w1 a (a + 5) → (∀ j, j < i → f j = nI 0) → KRun G jX4_empty N (fun r w1 => r = none ∧ (∃ db1 : Nat → Int32, ScR G N w1 a l wh pu db1 0 0 ∧ ∀ i, i < 49 → db1 i = nI 0) ∧ Eqx w w1 a (a + 5)) 2 [some (rf G a), some (.int (nI i))] [] 0 0 w1 := by
    intro d
    induction d with
    | zero =>
      intro i w1 f hi ⟨g0, g1, g2, g3, g4⟩ hE hf
      have hN := g4.1
      refine k_iload_n 3 dX4_empty_2 rfl rfl rfl ?_
      refine k_aload_n 4 dX4_empty_3 rfl rfl rfl ?_
      refine k_get 7 dX4_empty_4 rfl fX4_empty_21 (by (repeat (refine Is.ne ?_ (by omega))); first | assumption | exact Is.up (by omega)) (by rfl) ?_
      refine k_alen 8 dX4_empty_7 rfl (by (repeat (refine Is.ne ?_ (by omega))); first | assumption | exact Is.up (by omega)) ?_
      refine k_icmp_geN 24 11 dX4_empty_8 rfl rfl (by omega) (by omega) (fun c => ?_) (fun c => ?_)
      · refine k_aload_n 25 dX4_empty_24 rfl rfl rfl ?_
        refine k_iconst (nI 0) 26 dX4_empty_25 rfl kc_0 ?_
        refine k_put 29 dX4_empty_26 rfl pX4_empty_24 (by (repeat (refine Is.ne ?_ (by omega))); first | assumption | exact Is.up (by omega)) (Nat.le_of_ble_eq_true rfl) rfl rfl ?_
        refine k_aload_n 30 dX4_empty_29 rfl rfl rfl ?_
        refine k_iconst (nI 0) 31 dX4_empty_30 rfl kc_0 ?_
        refine k_put 34 dX4_empty_31 rfl pX4_empty_28 (by (repeat (refine Is.ne ?_ (by omega))); first | assumption | exact Is.up (by omega)) (Nat.le_of_ble_eq_true rfl) rfl rfl ?_
        refine k_vret dX4_empty_34 rfl rfl (Nat.le_of_ble_eq_true rfl) ⟨rfl, ⟨f, ⟨(by (repeat (refine Is.ne ?_ (by omega))); first | assumption | exact Is.up (by omega)), (by (repeat (refine Is.ne ?_ (by omega))); first | assumption | exact Is.up (by omega)), (by (repeat (refine Is.ne ?_ (by omega))); first | assumption | exact Is.up (by omega)), (by (repeat (refine Is.ne ?_ (by omega))); first | assumption | exact Is.up (by omega)), (by (repeat (refine Is.ne ?_ (by omega))); first | assumption | exact Is.up (by omega))⟩, fun j hj => hf j (by omega)⟩, (by (repeat (refine Eqx.up ?_ (by omega) (by omega))); first | exact Eqx.rf | assumption)⟩
      · omega
    | succ d ih =>
      intro i w1 f hi ⟨g0, g1, g2, g3, g4⟩ hE hf
      have hN := g4.1
      refine k_iload_n 3 dX4_empty_2 rfl rfl rfl ?_
      refine k_aload_n 4 dX4_empty_3 rfl rfl rfl ?_
      refine k_get 7 dX4_empty_4 rfl fX4_empty_21 (by (repeat (refine Is.ne ?_ (by omega))); first | assumption | exact Is.up (by omega)) (by rfl) ?_
      refine k_alen 8 dX4_empty_7 rfl (by (repeat (refine Is.ne ?_ (by omega))); first | assumption | exact Is.up (by omega)) ?_
      refine k_icmp_geN 24 11 dX4_empty_8 rfl rfl (by omega) (by omega) (fun c => ?_) (fun c => ?_)
      · omega
      · refine k_aload_n 12 dX4_empty_11 rfl rfl rfl ?_
        refine k_get 15 dX4_empty_12 rfl fX4_empty_21 (by (repeat (refine Is.ne ?_ (by omega))); first | assumption | exact Is.up (by omega)) (by rfl) ?_
        refine k_iload_n 16 dX4_empty_15 rfl rfl rfl ?_
        refine k_iconst (nI 0) 17 dX4_empty_16 rfl kc_0 ?_
        refine k_iastN 18 dX4_empty_17 rfl (by (repeat (refine Is.ne ?_ (by omega))); first | assumption | exact Is.up (by omega)) (by omega) (by omega) ?_
        refine k_iinc _ _ 21 dX4_empty_18 rfl rfl (nI_inc _) (by decide) rfl rfl ?_
        refine k_goto 2 dX4_empty_21 rfl ?_
        refine ih (i + 1) _ (upd f i (nI 0)) (by omega) ?_ ?_ (fun j hj => ?_)
        · exact ⟨(by (repeat (refine Is.ne ?_ (by omega))); first | assumption | exact Is.up (by omega)), (by (repeat (refine Is.ne ?_ (by omega))); first | assumption | exact Is.up (by omega)), (by (repeat (refine Is.ne ?_ (by omega))); first | assumption | exact Is.up (by omega)), (by (repeat (refine Is.ne ?_ (by omega))); first | assumption | exact Is.up (by omega)), (by (repeat (refine Is.ne ?_ (by omega))); first | assumption | exact Is.up (by omega))⟩
        · exact (by (repeat (refine Eqx.up ?_ (by omega) (by omega))); first | exact Eqx.rf | assumption)
        by_cases e : j = i
        · subst e
          rw [upd_s]
        · rw [upd_n _ _ e]
          exact hf j (by omega)
  exact loop 49 0 w db (by omega) h Eqx.rf (fun j hj => by omega)
