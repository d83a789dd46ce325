/-! public methods: what was seen -/
theorem QsI.up {G : KG} {N a fo b m m2 : Nat} {w w1 : WD} {K K2 : Nat → Nt} (h : QsI G N w a fo b m K) (h1 : Is N w1 a (SiX G a fo b m2)) (h2 : SiK G N w1 a m2 K2) (h3 : w1 (a + 1) = w (a + 1)) (hE : Eqx w w1 a (a + 5)) : QsI G N w1 a fo b m2 K2 := by
  obtain ⟨g1, ⟨od, g2⟩, g3, g4, g5⟩ := h
  exact ⟨h1, ⟨od, g2.1, by rw [h3]; exact g2.2⟩, h2, g4.fr hE (by omega), g5.fr hE (by omega)⟩
theorem c_X8_see {G : KG} {N : Nat} {w : WD} {a : Nat} {x y z : Int32} {S : St} (h : QsM G N w a S) (hO : sOK S) : KCon G jX8_see N w [rf G a, .int x, .int y, .int z] (QpO G N w a (a_see S x y z)) := by
  have h9 := h
  obtain ⟨hQ, hF, hM, hS, hP, hK, hf, hi, hc⟩ := h9
  obtain ⟨o1, o2, ⟨o3, o4⟩, o5, o6, o7, o8, o9, -⟩ := hO
  have hn7 := o1.1
  have f0 := hF.ob
  have s0 := hM.ob
  have p0 := hP.ob
  have k0 := hK.ob
  obtain ⟨i0, i1, i2, i3, i4⟩ := id hi
  refine KCon.of ([some (rf G a), some (.int x), some (.int y), some (.int z)]) (by decide) rfl (by simp [Value.category]) (Nat.le_of_ble_eq_true rfl) rfl ?_
  have bad : a_see S x y z = (-1, S) → KRun G jX8_see N (QpO G N w a (a_see S x y z)) 32 [some (rf G a), some (.int x), some (.int y), some (.int z)] [] 0 0 w := by
    intro ea
    rw [ea]
    refine k_iconst (-1) 33 dX8_see_32 rfl km_1 ?_
    refine k_iret dX8_see_33 rfl rfl (Nat.le_of_ble_eq_true rfl) ⟨rfl, h, Eqx.rf⟩
  refine k_aload_n 1 dX8_see_0 rfl rfl rfl ?_
  refine k_get 4 dX8_see_1 rfl fX8_see_10 (by (repeat (refine Is.ne ?_ (by omega))); first | assumption | exact Is.up (by omega)) (by rfl) ?_
  refine k_iload_n 5 dX8_see_4 rfl rfl rfl ?_
  refine k_V1 (ci := 1) 8 dX8_see_5 rfl vX8_see_95 (by (repeat (refine Is.ne ?_ (by omega))); first | assumption | exact Is.up (by omega)) rfl rfl (Nat.le_of_ble_eq_true rfl) rfl ⟨Nat.le_of_ble_eq_true rfl, Nat.le_of_ble_eq_true rfl⟩ (c_prs hF hn7) (fun r9 w9 h9 => ?_)
  obtain ⟨h8, h9⟩ := h9
  subst h8
  have h9 := h9.symm
  subst h9
  rcases prs_c hn7 x with ⟨p, hp, rfl, e⟩ | ⟨hno, e⟩
  · rw [e]
    refine k_if_eqB 32 11 dX8_see_8 rfl rfl (fun c9 => absurd c9 (by simp)) (fun c9 => ?_)
    rcases rgn_c 1 20 y with ⟨n, n1, n2, rfl, e2⟩ | ⟨hy, e2⟩
    · refine k_iload_n 12 dX8_see_11 rfl rfl rfl ?_
      refine k_iconst (nI 1) 13 dX8_see_12 rfl kc_1 ?_
      refine k_icmp_ltN 32 16 dX8_see_13 rfl rfl (by omega) (by omega) (fun c => ?_) (fun c => ?_)
      · omega
      refine k_iload_n 17 dX8_see_16 rfl rfl rfl ?_
      refine k_bipush (nI 20) 19 dX8_see_17 rfl kb_20 ?_
      refine k_icmp_gtN 32 22 dX8_see_19 rfl rfl (by omega) (by omega) (fun c => ?_) (fun c => ?_)
      · omega
      rcases rgn_c 0 400000 z with ⟨v, v1, v2, rfl, e3⟩ | ⟨hz, e3⟩
      · refine k_iload_n 23 dX8_see_22 rfl rfl rfl ?_
        refine k_if_ltN 32 26 dX8_see_23 rfl rfl (by omega) (fun c => ?_) (fun c => ?_)
        · omega
        refine k_iload_n 27 dX8_see_26 rfl rfl rfl ?_
        refine k_ldc ((nI 400000)) 29 dX8_see_27 rfl (by decide +kernel) ?_
        refine k_icmp_leN 34 32 dX8_see_29 rfl rfl (by omega) (by omega) (fun c => ?_) (fun c => by omega)
        refine k_aload_n 35 dX8_see_34 rfl rfl rfl ?_
        refine k_get 38 dX8_see_35 rfl fX8_see_54 (by (repeat (refine Is.ne ?_ (by omega))); first | assumption | exact Is.up (by omega)) (by rfl) ?_
        refine k_get 41 dX8_see_38 rfl fX8_see_93 (by (repeat (refine Is.ne ?_ (by omega))); first | assumption | exact Is.up (by omega)) (by rfl) ?_
        refine k_bipush (nI 6) 43 dX8_see_41 rfl kb_6 ?_
        refine k_icmp_ltN 49 46 dX8_see_43 rfl rfl (by omega) (by omega) (fun c => ?_) (fun c => ?_)
        · have ea : a_see S (nI p) (nI n) (nI v) = (nI (qm S + 1), (qF S, qM S, qP S, qK S, qm S + 1, (fun i => if i = qm S then (p, n, v) else qN S i), qt S, qT S)) := by
            unfold a_see
            rw [e, e2, e3]
            dsimp only
            rw [if_neg (by omega)]
          rw [ea]
          refine k_aload_n 50 dX8_see_49 rfl rfl rfl ?_
          refine k_get 53 dX8_see_50 rfl fX8_see_54 (by (repeat (refine Is.ne ?_ (by omega))); first | assumption | exact Is.up (by omega)) (by rfl) ?_
          refine k_iload_n 54 dX8_see_53 rfl rfl rfl ?_
          refine k_iload_n 55 dX8_see_54 rfl rfl rfl ?_
          refine k_iload_n 56 dX8_see_55 rfl rfl rfl ?_
          refine k_ldc ((iZ 200000)) 58 dX8_see_56 rfl (by decide +kernel) ?_
          refine k_isubE (iZ ((v : Int) - 200000)) 59 dX8_see_58 rfl (by rw [← iZ_nat, iZ_sub]) ?_
          refine k_V3 (ci := 6) 62 dX8_see_59 rfl vX8_see_217 (by (repeat (refine Is.ne ?_ (by omega))); first | assumption | exact Is.up (by omega)) rfl rfl (Nat.le_of_ble_eq_true rfl) rfl ⟨Nat.le_of_ble_eq_true rfl, Nat.le_of_ble_eq_true rfl⟩ (c_X7_add i0 i2 (by omega) (by omega) n1 n2 v2) (fun r1 w1 x1 => ?_)
          obtain ⟨rfl, j0, j2, j3, hE1⟩ := x1
          have hQ1 := hQ.fr hE1 (by omega)
          have hF1 := hF.fr hE1 (by omega)
          have hM1 := hM.fr hE1 (by omega)
          have hS1 := hS.fr hE1 (by omega)
          have hP1 := hP.fr hE1 (by omega)
          have hK1 := hK.fr hE1 (by omega)
          have hf1 := hf.fr hE1 (by omega)
          have hc1 := hc.fr hE1 (by omega)
          refine k_aload_n 63 dX8_see_62 rfl rfl rfl ?_
          refine k_get 66 dX8_see_63 rfl fX8_see_54 (by (repeat (refine Is.ne ?_ (by omega))); first | assumption | exact Is.up (by omega)) (by rfl) ?_
          refine k_get 69 dX8_see_66 rfl fX8_see_93 (by (repeat (refine Is.ne ?_ (by omega))); first | assumption | exact Is.up (by omega)) (by rfl) ?_
          refine k_iret dX8_see_69 rfl rfl (Nat.le_of_ble_eq_true rfl) ⟨rfl, ⟨hQ1, hF1, hM1, hS1, hP1, hK1, hf1, hi.up j0 j2 j3 hE1, hc1⟩, hE1.wd (by omega) (by omega)⟩
        · have ea : a_see S (nI p) (nI n) (nI v) = (-3, S) := by
            unfold a_see
            rw [e, e2, e3]
            dsimp only
            rw [if_pos (by omega)]
          rw [ea]
          refine k_bipush (-3) 48 dX8_see_46 rfl kbm_3 ?_
          refine k_iret dX8_see_48 rfl rfl (Nat.le_of_ble_eq_true rfl) ⟨rfl, h, Eqx.rf⟩
      · have bad := bad (by unfold a_see; rw [e, e2, e3])
        refine k_iload_n 23 dX8_see_22 rfl rfl rfl ?_
        refine k_if_lt 32 26 dX8_see_23 rfl rfl (fun c => ?_) (fun c => ?_)
        · exact bad
        · have c1 : ¬ z.toInt < 0 := fun q => c (lt0I.mpr q)
          refine k_iload_n 27 dX8_see_26 rfl rfl rfl ?_
          refine k_ldc ((nI 400000)) 29 dX8_see_27 rfl (by decide +kernel) ?_
          refine k_icmp_le 34 32 dX8_see_29 rfl rfl (fun c => ?_) (fun c => ?_)
          · have c2 := (leI (x := z) (k := 400000) (by omega)).mp c
            omega
          · exact bad
    · have bad := bad (by unfold a_see; rw [e, e2])
      refine k_iload_n 12 dX8_see_11 rfl rfl rfl ?_
      refine k_iconst (nI 1) 13 dX8_see_12 rfl kc_1 ?_
      refine k_icmp_lt 32 16 dX8_see_13 rfl rfl (fun c => ?_) (fun c => ?_)
      · exact bad
      · have c1 : ¬ y.toInt < 1 := fun z => c ((ltI (k := 1) (by omega)).mpr z)
        refine k_iload_n 17 dX8_see_16 rfl rfl rfl ?_
        refine k_bipush (nI 20) 19 dX8_see_17 rfl kb_20 ?_
        refine k_icmp_gt 32 22 dX8_see_19 rfl rfl (fun c => ?_) (fun c => ?_)
        · exact bad
        · have c2 : ¬ 20 < y.toInt := fun z => c ((gtI (by omega)).mpr z)
          omega
  · rw [e]
    refine k_if_eqB 32 11 dX8_see_8 rfl rfl (fun c9 => ?_) (fun c9 => absurd c9 (by simp))
    exact bad (by unfold a_see; rw [e])
theorem c_X8_forget {G : KG} {N : Nat} {w : WD} {a : Nat} {S : St} (h : QsM G N w a S) : KCon G jX8_forget N w [rf G a] (QpO G N w a (a_forget S)) := by
  obtain ⟨hQ, hF, hM, hS, hP, hK, hf, hi, hc⟩ := h
  obtain ⟨i0, i1, ⟨ps, mi, du, k1, k2, k3, -⟩, i3, i4⟩ := id hi
  have hN := k3.1
  refine KCon.of ([some (rf G a), none]) (by decide) rfl (by simp [Value.category]) (Nat.le_of_ble_eq_true rfl) rfl ?_
  refine k_aload_n 1 dX8_forget_0 rfl rfl rfl ?_
  refine k_get 4 dX8_forget_1 rfl fX8_forget_54 (by (repeat (refine Is.ne ?_ (by omega))); first | assumption | exact Is.up (by omega)) (by rfl) ?_
  refine k_get 7 dX8_forget_4 rfl fX8_forget_93 (by (repeat (refine Is.ne ?_ (by omega))); first | assumption | exact Is.up (by omega)) (by rfl) ?_
  refine k_istore_n _ 8 dX8_forget_7 rfl rfl (by decide) rfl rfl ?_
  refine k_aload_n 9 dX8_forget_8 rfl rfl rfl ?_
  refine k_get 12 dX8_forget_9 rfl fX8_forget_54 (by (repeat (refine Is.ne ?_ (by omega))); first | assumption | exact Is.up (by omega)) (by rfl) ?_
  refine k_iconst (nI 0) 13 dX8_forget_12 rfl kc_0 ?_
  refine k_put 16 dX8_forget_13 rfl pX8_forget_93 (by (repeat (refine Is.ne ?_ (by omega))); first | assumption | exact Is.up (by omega)) (Nat.le_of_ble_eq_true rfl) rfl rfl ?_
  refine k_nm (fun w1 hw1 => ?_)
  have hE1 : Eqx w w1 (a + 84) (a + 85) := by
    rw [hw1]
    exact (by (repeat (refine Eqx.up ?_ (by omega) (by omega))); first | exact Eqx.rf | assumption)
  have j0 : Is N w1 (a + 84) (SiX G (a + 84) (a + 1) (a + 5) 0) := by
    rw [hw1]
    exact (by (repeat (refine Is.ne ?_ (by omega))); first | assumption | exact Is.up (by omega))
  clear hw1
  have hQ1 := hQ.fr hE1 (by omega)
  have hF1 := hF.fr hE1 (by omega)
  have hM1 := hM.fr hE1 (by omega)
  have hS1 := hS.fr hE1 (by omega)
  have hP1 := hP.fr hE1 (by omega)
  have hK1 := hK.fr hE1 (by omega)
  have hf1 := hf.fr hE1 (by omega)
  have hc1 := hc.fr hE1 (by omega)
  refine k_iload_n 17 dX8_forget_16 rfl rfl rfl ?_
  refine k_iret dX8_forget_17 rfl rfl (Nat.le_of_ble_eq_true rfl) ⟨rfl, ⟨hQ1, hF1, hM1, hS1, hP1, hK1, hf1, hi.up j0 ⟨ps, mi, du, k1.fr hE1 (by omega), k2.fr hE1 (by omega), k3.fr hE1 (by omega), fun i hi => absurd hi (Nat.not_lt_zero i)⟩ (hE1 _ (by omega)) (hE1.wd (by omega) (by omega)), hc1⟩, hE1.wd (by omega) (by omega)⟩
theorem corS_b (S : St) (e : Nat) : (corS S e).1 ≤ 5040 := by
  have := cor_le (soP (qN S) (qm S) (qF S) (qM S)) (mL (qM S)) e 5040 (sof (qM S) (oN (qF S))).2 0
  rw [Nat.zero_add] at this
  exact this
theorem c_X8_orders {G : KG} {N : Nat} {w : WD} {a : Nat} {x : Int32} {S : St} (h : QsM G N w a S) (hO : sOK S) : KCon G jX8_orders N w [rf G a, .int x] (QpO G N w a (a_orders S x)) := by
  have h9 := h
  obtain ⟨hQ, hF, hM, hS, hP, hK, hf, hi, hc⟩ := h9
  obtain ⟨o1, o2, ⟨o3, o4⟩, o5, o6, o7, o8, o9, -⟩ := hO
  have hn7 := o1.1
  have hL7 := ok_l7 o3
  have f0 := hF.ob
  have s0 := hM.ob
  have p0 := hP.ob
  have k0 := hK.ob
  obtain ⟨i0, i1, i2, i3, i4⟩ := id hi
  refine KCon.of ([some (rf G a), some (.int x)]) (by decide) rfl (by simp [Value.category]) (Nat.le_of_ble_eq_true rfl) rfl ?_
  have fin : ∀ (w1 : WD), (∃ od, Is N w1 (a + 84 + 1) (ia G 7 od)) → SiP G N w1 (a + 84) (qm S) (qN S) → TrG G N w1 (a + 84 + 9) → Eqx w w1 (a + 84 + 1) (a + 84 + 14) → QsM G N w1 a S := by
    intro w1 g1 g2 g3 hE1
    have hQ1 := hQ.fr hE1 (by omega)
    have hF1 := hF.fr hE1 (by omega)
    have hM1 := hM.fr hE1 (by omega)
    have hS1 := hS.fr hE1 (by omega)
    have hP1 := hP.fr hE1 (by omega)
    have hK1 := hK.fr hE1 (by omega)
    have hf1 := hf.fr hE1 (by omega)
    have hc1 := hc.fr hE1 (by omega)
    exact ⟨hQ1, hF1, hM1, hS1, hP1, hK1, hf1, ⟨i0.fr hE1 (by omega), g1, g2.1, g2.2, g3⟩, hc1⟩
  have bad : ∀ x : Int32, a_orders S x = (-1, S) → KRun G jX8_orders N (QpO G N w a (a_orders S x)) 11 [some (rf G a), some (.int x)] [] 0 0 w := by
    intro x ea
    rw [ea]
    refine k_iconst (-1) 12 dX8_orders_11 rfl km_1 ?_
    refine k_iret dX8_orders_12 rfl rfl (Nat.le_of_ble_eq_true rfl) ⟨rfl, h, Eqx.rf⟩
  rcases rgn_c 0 6 x with ⟨k, k1, k2, rfl, e⟩ | ⟨hx, e⟩
  · have hk1 : ¬ nI k = -1 := nI_n1 (by omega)
    refine k_iload_n 1 dX8_orders_0 rfl rfl rfl ?_
    refine k_iconst (-1) 2 dX8_orders_1 rfl km_1 ?_
    refine k_icmp_lt 11 5 dX8_orders_2 rfl rfl (fun c => ?_) (fun c => ?_)
    · exact absurd c (by rw [Int32.lt_iff_toInt_lt, nI_toInt (by omega), show (-1 : Int32).toInt = -1 from rfl]; omega)
    refine k_iload_n 6 dX8_orders_5 rfl rfl rfl ?_
    refine k_bipush (nI 7) 8 dX8_orders_6 rfl kb_7 ?_
    refine k_icmp_ltN 13 11 dX8_orders_8 rfl rfl (by omega) (by omega) (fun c => ?_) (fun c => ?_)
    rotate_left
    · omega
    refine k_iload_n 14 dX8_orders_13 rfl rfl rfl ?_
    refine k_iconst (-1) 15 dX8_orders_14 rfl km_1 ?_
    refine k_icmp_ne 29 18 dX8_orders_15 rfl rfl (fun c => ?_) (fun c => ?_)
    rotate_left
    · exact absurd (Classical.not_not.mp c) hk1
    refine k_iload_n 30 dX8_orders_29 rfl rfl rfl ?_
    refine k_aload_n 31 dX8_orders_30 rfl rfl rfl ?_
    refine k_get 34 dX8_orders_31 rfl fX8_orders_19 (by (repeat (refine Is.ne ?_ (by omega))); first | assumption | exact Is.up (by omega)) (by rfl) ?_
    refine k_get 37 dX8_orders_34 rfl fX8_orders_137 (by (repeat (refine Is.ne ?_ (by omega))); first | assumption | exact Is.up (by omega)) (by rfl) ?_
    refine k_icmp_geN 51 40 dX8_orders_37 rfl rfl (by omega) (by omega) (fun c => ?_) (fun c => ?_)
    · have ea : a_orders S (nI k) = (-4, S) := by
        unfold a_orders
        rw [e, if_neg hk1]
        dsimp only
        rw [if_neg (by omega)]
      rw [ea]
      refine k_bipush (-4) 53 dX8_orders_51 rfl kbm_4 ?_
      refine k_iret dX8_orders_53 rfl rfl (Nat.le_of_ble_eq_true rfl) ⟨rfl, h, Eqx.rf⟩
    · refine k_aload_n 41 dX8_orders_40 rfl rfl rfl ?_
      refine k_get 44 dX8_orders_41 rfl fX8_orders_54 (by (repeat (refine Is.ne ?_ (by omega))); first | assumption | exact Is.up (by omega)) (by rfl) ?_
      refine k_iconst (nI 1) 45 dX8_orders_44 rfl kc_1 ?_
      refine k_V1 (ci := 6) 48 dX8_orders_45 rfl vX8_orders_220 (by (repeat (refine Is.ne ?_ (by omega))); first | assumption | exact Is.up (by omega)) rfl rfl (Nat.le_of_ble_eq_true rfl) rfl ⟨Nat.le_of_ble_eq_true rfl, Nat.le_of_ble_eq_true rfl⟩ (c_X7_countOrders (e := 1) i0 ⟨i2, i3⟩ hF (by omega) hM (by omega) i4 i1 o3 o1 rfl o9 (by omega) (by omega)) (fun r1 w1 x1 => ?_)
      obtain ⟨rfl, ⟨od, d1, d2⟩, g2, g3, hE1⟩ := x1
      have hcb := corS_b S 1
      have hR := fin w1 ⟨od, d1⟩ g2 g3 hE1
      refine k_tp (.int (nI (corS S 1).1)) rfl ?_
      refine k_if_neN 54 51 dX8_orders_48 rfl rfl (by omega) (fun c => ?_) (fun c => ?_)
      · have ea : a_orders S (nI k) = (nI ((corS S 1).2 k), S) := by
          unfold a_orders
          rw [e, if_neg hk1]
          dsimp only
          rw [if_pos (by omega), if_neg (by omega)]
        rw [ea]
        have i01 := i0.fr hE1 (by omega)
        have hQ1 := hQ.fr hE1 (by omega)
        refine k_aload_n 55 dX8_orders_54 rfl rfl rfl ?_
        refine k_get 58 dX8_orders_55 rfl fX8_orders_54 (by (repeat (refine Is.ne ?_ (by omega))); first | assumption | exact Is.up (by omega)) (by rfl) ?_
        refine k_get 61 dX8_orders_58 rfl fX8_orders_223 (by (repeat (refine Is.ne ?_ (by omega))); first | assumption | exact Is.up (by omega)) (by rfl) ?_
        refine k_iload_n 62 dX8_orders_61 rfl rfl rfl ?_
        refine k_S2 65 dX8_orders_62 rfl vX8_orders_103 (Nat.le_of_ble_eq_true rfl) rfl ⟨Nat.le_of_ble_eq_true rfl, Nat.le_of_ble_eq_true rfl⟩ (c_X3_at d1 (by omega) (by omega)) (fun r9 w9 h9 => ?_)
        obtain ⟨h8, h9⟩ := h9
        subst h8
        have h9 := h9.symm
        subst h9
        rw [d2 k (by omega)]
        refine k_iret dX8_orders_65 rfl rfl (Nat.le_of_ble_eq_true rfl) ⟨rfl, hR, hE1.wd (by omega) (by omega)⟩
      · have ea : a_orders S (nI k) = (-4, S) := by
          unfold a_orders
          rw [e, if_neg hk1]
          dsimp only
          rw [if_pos (by omega), if_pos (by omega)]
        rw [ea]
        refine k_bipush (-4) 53 dX8_orders_51 rfl kbm_4 ?_
        refine k_iret dX8_orders_53 rfl rfl (Nat.le_of_ble_eq_true rfl) ⟨rfl, hR, hE1.wd (by omega) (by omega)⟩
  · by_cases hx1 : x = -1
    · subst hx1
      have ea : a_orders S (-1) = (nI (corS S 5040).1, S) := by
        unfold a_orders
        rw [if_pos rfl]
      rw [ea]
      refine k_iload_n 1 dX8_orders_0 rfl rfl rfl ?_
      refine k_iconst (-1) 2 dX8_orders_1 rfl km_1 ?_
      refine k_icmp_lt 11 5 dX8_orders_2 rfl rfl (fun c => ?_) (fun c => ?_)
      · exact absurd c (by decide)
      refine k_iload_n 6 dX8_orders_5 rfl rfl rfl ?_
      refine k_bipush (nI 7) 8 dX8_orders_6 rfl kb_7 ?_
      refine k_icmp_lt 13 11 dX8_orders_8 rfl rfl (fun c => ?_) (fun c => ?_)
      rotate_left
      · exact absurd (show (-1 : Int32) < nI 7 by decide) c
      refine k_iload_n 14 dX8_orders_13 rfl rfl rfl ?_
      refine k_iconst (-1) 15 dX8_orders_14 rfl km_1 ?_
      refine k_icmp_ne 29 18 dX8_orders_15 rfl rfl (fun c => ?_) (fun c => ?_)
      · exact absurd rfl c
      refine k_aload_n 19 dX8_orders_18 rfl rfl rfl ?_
      refine k_get 22 dX8_orders_19 rfl fX8_orders_54 (by (repeat (refine Is.ne ?_ (by omega))); first | assumption | exact Is.up (by omega)) (by rfl) ?_
      refine k_sipush (nI 5040) 25 dX8_orders_22 rfl ks_5040 ?_
      refine k_V1 (ci := 6) 28 dX8_orders_25 rfl vX8_orders_220 (by (repeat (refine Is.ne ?_ (by omega))); first | assumption | exact Is.up (by omega)) rfl rfl (Nat.le_of_ble_eq_true rfl) rfl ⟨Nat.le_of_ble_eq_true rfl, Nat.le_of_ble_eq_true rfl⟩ (c_X7_countOrders (e := 5040) i0 ⟨i2, i3⟩ hF (by omega) hM (by omega) i4 i1 o3 o1 rfl o9 (by omega) (by omega)) (fun r1 w1 x1 => ?_)
      obtain ⟨rfl, ⟨od, d1, d2⟩, g2, g3, hE1⟩ := x1
      have hR := fin w1 ⟨od, d1⟩ g2 g3 hE1
      refine k_iret dX8_orders_28 rfl rfl (Nat.le_of_ble_eq_true rfl) ⟨rfl, hR, hE1.wd (by omega) (by omega)⟩
    · have bad := bad x (by unfold a_orders; rw [e, if_neg hx1])
      have hm1 : x.toInt ≠ -1 := fun z => hx1 (Int32.toInt_inj.mp z)
      refine k_iload_n 1 dX8_orders_0 rfl rfl rfl ?_
      refine k_iconst (-1) 2 dX8_orders_1 rfl km_1 ?_
      refine k_icmp_lt 11 5 dX8_orders_2 rfl rfl (fun c => ?_) (fun c => ?_)
      · exact bad
      · have c1 : ¬ x.toInt < -1 := fun z => c (by rw [Int32.lt_iff_toInt_lt, show (-1 : Int32).toInt = -1 from rfl]; exact z)
        refine k_iload_n 6 dX8_orders_5 rfl rfl rfl ?_
        refine k_bipush (nI 7) 8 dX8_orders_6 rfl kb_7 ?_
        refine k_icmp_lt 13 11 dX8_orders_8 rfl rfl (fun c => ?_) (fun c => ?_)
        · have c2 := (ltI (x := x) (k := 7) (by omega)).mp c
          omega
        · exact bad
theorem c_X8_kinds {G : KG} {N : Nat} {w : WD} {a : Nat} {x : Int32} {S : St} (h : QsM G N w a S) (hO : sOK S) : KCon G jX8_kinds N w [rf G a, .int x] (QpO G N w a (a_kinds S x)) := by
  have h9 := h
  obtain ⟨hQ, hF, hM, hS, hP, hK, hf, hi, hc⟩ := h9
  obtain ⟨o1, o2, ⟨o3, o4⟩, o5, o6, o7, o8, o9, -⟩ := hO
  have hn7 := o1.1
  have hL7 := ok_l7 o3
  have hQ7 := ok_q7 o3
  have f0 := hF.ob
  have s0 := hM.ob
  have p0 := hP.ob
  have k0 := hK.ob
  obtain ⟨i0, i1, i2, i3, i4⟩ := id hi
  refine KCon.of ([some (rf G a), some (.int x)]) (by decide) rfl (by simp [Value.category]) (Nat.le_of_ble_eq_true rfl) rfl ?_
  refine k_aload_n 1 dX8_kinds_0 rfl rfl rfl ?_
  refine k_get 4 dX8_kinds_1 rfl fX8_kinds_10 (by (repeat (refine Is.ne ?_ (by omega))); first | assumption | exact Is.up (by omega)) (by rfl) ?_
  refine k_iload_n 5 dX8_kinds_4 rfl rfl rfl ?_
  refine k_V1 (ci := 1) 8 dX8_kinds_5 rfl vX8_kinds_95 (by (repeat (refine Is.ne ?_ (by omega))); first | assumption | exact Is.up (by omega)) rfl rfl (Nat.le_of_ble_eq_true rfl) rfl ⟨Nat.le_of_ble_eq_true rfl, Nat.le_of_ble_eq_true rfl⟩ (c_prs hF hn7) (fun r9 w9 h9 => ?_)
  obtain ⟨h8, h9⟩ := h9
  subst h8
  have h9 := h9.symm
  subst h9
  rcases prs_c hn7 x with ⟨p, hp, rfl, e⟩ | ⟨hno, e⟩
  · rw [e]
    refine k_if_neB 13 11 dX8_kinds_8 rfl rfl (fun c9 => ?_) (fun c9 => absurd c9 (by simp))
    refine k_aload_n 14 dX8_kinds_13 rfl rfl rfl ?_
    refine k_get 17 dX8_kinds_14 rfl fX8_kinds_19 (by (repeat (refine Is.ne ?_ (by omega))); first | assumption | exact Is.up (by omega)) (by rfl) ?_
    refine k_iload_n 18 dX8_kinds_17 rfl rfl rfl ?_
    refine k_V1 (ci := 3) 21 dX8_kinds_18 rfl vX8_kinds_166 (by (repeat (refine Is.ne ?_ (by omega))); first | assumption | exact Is.up (by omega)) rfl rfl (Nat.le_of_ble_eq_true rfl) rfl ⟨Nat.le_of_ble_eq_true rfl, Nat.le_of_ble_eq_true rfl⟩ (c_X4_isQueued hM hL7 hQ7 (by omega)) (fun r9 w9 h9 => ?_)
    obtain ⟨h8, h9⟩ := h9
    subst h8
    have h9 := h9.symm
    subst h9
    refine k_if_neB 27 24 dX8_kinds_21 rfl rfl (fun c9 => ?_) (fun c9 => ?_)
    · have ea : a_kinds S (nI p) = (nI (fkd (qN S) (qm S) (qF S) (qM S) p 4), S) := by
        unfold a_kinds
        rw [e]
        dsimp only
        rw [if_pos c9]
      rw [ea]
      refine k_aload_n 28 dX8_kinds_27 rfl rfl rfl ?_
      refine k_get 31 dX8_kinds_28 rfl fX8_kinds_54 (by (repeat (refine Is.ne ?_ (by omega))); first | assumption | exact Is.up (by omega)) (by rfl) ?_
      refine k_iload_n 32 dX8_kinds_31 rfl rfl rfl ?_
      refine k_V1 (ci := 6) 35 dX8_kinds_32 rfl vX8_kinds_226 (by (repeat (refine Is.ne ?_ (by omega))); first | assumption | exact Is.up (by omega)) rfl rfl (Nat.le_of_ble_eq_true rfl) rfl ⟨Nat.le_of_ble_eq_true rfl, Nat.le_of_ble_eq_true rfl⟩ (c_X7_fittingKinds i0 i2 hF (by omega) hM (by omega) i3 i4 o3 o1 rfl hp o9 (by omega)) (fun r1 w1 x1 => ?_)
      obtain ⟨rfl, hG1, hT1, hE1⟩ := x1
      have hQ1 := hQ.fr hE1 (by omega)
      have hF1 := hF.fr hE1 (by omega)
      have hM1 := hM.fr hE1 (by omega)
      have hS1 := hS.fr hE1 (by omega)
      have hP1 := hP.fr hE1 (by omega)
      have hK1 := hK.fr hE1 (by omega)
      have hf1 := hf.fr hE1 (by omega)
      have hc1 := hc.fr hE1 (by omega)
      obtain ⟨od, i1⟩ := i1
      refine k_iret dX8_kinds_35 rfl rfl (Nat.le_of_ble_eq_true rfl) ⟨rfl, ⟨hQ1, hF1, hM1, hS1, hP1, hK1, hf1, ⟨i0.fr hE1 (by omega), ⟨od, i1.fr hE1 (by omega)⟩, i2.fr hE1 (by omega), hG1, hT1⟩, hc1⟩, hE1.wd (by omega) (by omega)⟩
    · have ea : a_kinds S (nI p) = (-2, S) := by
        unfold a_kinds
        rw [e]
        dsimp only
        rw [if_neg (by rw [c9]; simp)]
      rw [ea]
      refine k_bipush (-2) 26 dX8_kinds_24 rfl kbm_2 ?_
      refine k_iret dX8_kinds_26 rfl rfl (Nat.le_of_ble_eq_true rfl) ⟨rfl, h, Eqx.rf⟩
  · rw [e]
    have ea : a_kinds S x = (-1, S) := by
      unfold a_kinds
      rw [e]
    rw [ea]
    refine k_if_neB 13 11 dX8_kinds_8 rfl rfl (fun c9 => absurd c9 (by simp)) (fun c9 => ?_)
    refine k_iconst (-1) 12 dX8_kinds_11 rfl km_1 ?_
    refine k_iret dX8_kinds_12 rfl rfl (Nat.le_of_ble_eq_true rfl) ⟨rfl, h, Eqx.rf⟩
