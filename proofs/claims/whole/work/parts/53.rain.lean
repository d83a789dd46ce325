/-! public methods: rain, days -/
theorem c_X8_rain {G : KG} {N : Nat} {w : WD} {a : Nat} {x y z v : Int32} {S : St} (h : QsM G N w a S) (hO : sOK S) : KCon G jX8_rain N w [rf G a, .int x, .int y, .int z, .int v] (QpO G N w a (a_rain S x y z v)) := by
  have h9 := h
  obtain ⟨hQ, hF, hM, hS, hP, hK, hf, hi, hc⟩ := h9
  obtain ⟨o1, o2, ⟨o3, o4⟩, -⟩ := hO
  have hn7 := o1.1
  have f0 := hF.ob
  have s0 := hM.ob
  have p0 := hP.ob
  have k0 := hK.ob
  obtain ⟨cx, cy, c0, ct⟩ := id hc
  refine KCon.of ([some (rf G a), some (.int x), some (.int y), some (.int z), some (.int v)]) (by decide) rfl (by simp [Value.category]) (Nat.le_of_ble_eq_true rfl) rfl ?_
  have bad : a_rain S x y z v = (-1, S) → KRun G jX8_rain N (QpO G N w a (a_rain S x y z v)) 39 [some (rf G a), some (.int x), some (.int y), some (.int z), some (.int v)] [] 0 0 w := by
    intro ea
    rw [ea]
    refine k_iconst (-1) 40 dX8_rain_39 rfl km_1 ?_
    refine k_iret dX8_rain_40 rfl rfl (Nat.le_of_ble_eq_true rfl) ⟨rfl, h, Eqx.rf⟩
  refine k_aload_n 1 dX8_rain_0 rfl rfl rfl ?_
  refine k_get 4 dX8_rain_1 rfl fX8_rain_10 (by (repeat (refine Is.ne ?_ (by omega))); first | assumption | exact Is.up (by omega)) (by rfl) ?_
  refine k_iload_n 5 dX8_rain_4 rfl rfl rfl ?_
  refine k_V1 (ci := 1) 8 dX8_rain_5 rfl vX8_rain_95 (by (repeat (refine Is.ne ?_ (by omega))); first | assumption | exact Is.up (by omega)) rfl rfl (Nat.le_of_ble_eq_true rfl) rfl ⟨Nat.le_of_ble_eq_true rfl, Nat.le_of_ble_eq_true rfl⟩ (c_prs hF hn7) (fun r9 w9 h9 => ?_)
  obtain ⟨h8, h9⟩ := h9
  subst h8
  have h9 := h9.symm
  subst h9
  rcases prs_c hn7 x with ⟨p, hp, rfl, e⟩ | ⟨hno, e⟩
  · rw [e]
    refine k_if_eqB 39 11 dX8_rain_8 rfl rfl (fun c9 => absurd c9 (by simp)) (fun c9 => ?_)
    rcases rgn_c 0 8 y with ⟨n, n1, n2, rfl, e2⟩ | ⟨hy, e2⟩
    · refine k_iload_n 12 dX8_rain_11 rfl rfl rfl ?_
      refine k_if_ltN 39 15 dX8_rain_12 rfl rfl (by omega) (fun c => ?_) (fun c => ?_)
      · omega
      refine k_iload_n 16 dX8_rain_15 rfl rfl rfl ?_
      refine k_bipush (nI 8) 18 dX8_rain_16 rfl kb_8 ?_
      refine k_icmp_gtN 39 21 dX8_rain_18 rfl rfl (by omega) (by omega) (fun c => ?_) (fun c => ?_)
      · omega
      rcases rgn_c 0 10 z with ⟨t, t1, t2, rfl, e3⟩ | ⟨hz, e3⟩
      · refine k_iload_n 22 dX8_rain_21 rfl rfl rfl ?_
        refine k_if_ltN 39 25 dX8_rain_22 rfl rfl (by omega) (fun c => ?_) (fun c => ?_)
        · omega
        refine k_iload_n 26 dX8_rain_25 rfl rfl rfl ?_
        refine k_bipush (nI 10) 28 dX8_rain_26 rfl kb_10 ?_
        refine k_icmp_gtN 39 31 dX8_rain_28 rfl rfl (by omega) (by omega) (fun c => ?_) (fun c => ?_)
        · omega
        refine k_iload 33 dX8_rain_31 rfl rfl ?_
        refine k_S1 36 dX8_rain_33 rfl vX8_rain_184 (Nat.le_of_ble_eq_true rfl) rfl ⟨Nat.le_of_ble_eq_true rfl, Nat.le_of_ble_eq_true rfl⟩ (c_X8_isNoPart) (fun r9 w9 h9 => ?_)
        obtain ⟨h8, h9⟩ := h9
        subst h8
        have h9 := h9.symm
        subst h9
        rcases rgn_c 0 1 v with ⟨u, v1, v2, rfl, e4⟩ | ⟨hv, e4⟩
        · rw [e4]
          refine k_if_eqB 41 39 dX8_rain_36 rfl rfl (fun c9 => ?_) (fun c9 => absurd c9 (by simp))
          refine k_aload_n 42 dX8_rain_41 rfl rfl rfl ?_
          refine k_get 45 dX8_rain_42 rfl fX8_rain_61 (by (repeat (refine Is.ne ?_ (by omega))); first | assumption | exact Is.up (by omega)) (by rfl) ?_
          refine k_iload_n 46 dX8_rain_45 rfl rfl rfl ?_
          refine k_iload_n 47 dX8_rain_46 rfl rfl rfl ?_
          refine k_iload_n 48 dX8_rain_47 rfl rfl rfl ?_
          refine k_V3 (ci := 0) 51 dX8_rain_48 rfl vX8_rain_229 (by (repeat (refine Is.ne ?_ (by omega))); first | assumption | exact Is.up (by omega)) rfl rfl (Nat.le_of_ble_eq_true rfl) rfl ⟨Nat.le_of_ble_eq_true rfl, Nat.le_of_ble_eq_true rfl⟩ (c_X0_seekServed c0 hF (by omega) hM (by omega) ct o3 o1 rfl hp (by omega) t2 (by omega)) (fun r1 w1 x1 => ?_)
          obtain ⟨rfl, j0, jt, hE1⟩ := x1
          have hQ1 := hQ.fr hE1 (by omega)
          have hF1 := hF.fr hE1 (by omega)
          have hM1 := hM.fr hE1 (by omega)
          have hS1 := hS.fr hE1 (by omega)
          have hP1 := hP.fr hE1 (by omega)
          have hK1 := hK.fr hE1 (by omega)
          have hf1 := hf.fr hE1 (by omega)
          have hi1 := hi.fr hE1 (by omega)
          have hR : QsM G N w1 a S := ⟨hQ1, hF1, hM1, hS1, hP1, hK1, hf1, hi1, ⟨_, _, j0, jt⟩⟩
          refine k_iload 53 dX8_rain_51 rfl rfl ?_
          refine k_if_neN 66 56 dX8_rain_53 rfl rfl (by omega) (fun c => ?_) (fun c => ?_)
          · have ea : a_rain S (nI p) (nI n) (nI t) (nI u) = (nI (10 ^ n / Nat.gcd (10 ^ n) (hit (qF S) (qM S) p n t (2 ^ n))), S) := by
              unfold a_rain
              rw [e, e2, e3, e4]
              dsimp only
              rw [if_neg (by omega)]
            rw [ea]
            refine k_aload_n 67 dX8_rain_66 rfl rfl rfl ?_
            refine k_get 70 dX8_rain_67 rfl fX8_rain_61 (by (repeat (refine Is.ne ?_ (by omega))); first | assumption | exact Is.up (by omega)) (by rfl) ?_
            refine k_get 73 dX8_rain_70 rfl fX8_rain_235 (by (repeat (refine Is.ne ?_ (by omega))); first | assumption | exact Is.up (by omega)) (by rfl) ?_
            refine k_iret dX8_rain_73 rfl rfl (Nat.le_of_ble_eq_true rfl) ⟨rfl, hR, hE1.wd (by omega) (by omega)⟩
          · have ea : a_rain S (nI p) (nI n) (nI t) (nI u) = (nI (hit (qF S) (qM S) p n t (2 ^ n) / Nat.gcd (10 ^ n) (hit (qF S) (qM S) p n t (2 ^ n))), S) := by
              unfold a_rain
              rw [e, e2, e3, e4]
              dsimp only
              rw [if_pos (by omega)]
            rw [ea]
            refine k_aload_n 57 dX8_rain_56 rfl rfl rfl ?_
            refine k_get 60 dX8_rain_57 rfl fX8_rain_61 (by (repeat (refine Is.ne ?_ (by omega))); first | assumption | exact Is.up (by omega)) (by rfl) ?_
            refine k_get 63 dX8_rain_60 rfl fX8_rain_232 (by (repeat (refine Is.ne ?_ (by omega))); first | assumption | exact Is.up (by omega)) (by rfl) ?_
            refine k_goto 73 dX8_rain_63 rfl ?_
            refine k_iret dX8_rain_73 rfl rfl (Nat.le_of_ble_eq_true rfl) ⟨rfl, hR, hE1.wd (by omega) (by omega)⟩
        · rw [e4]
          refine k_if_eqB 41 39 dX8_rain_36 rfl rfl (fun c9 => absurd c9 (by simp)) (fun c9 => ?_)
          exact bad (by unfold a_rain; rw [e, e2, e3, e4])
      · have bad := bad (by unfold a_rain; rw [e, e2, e3])
        refine k_iload_n 22 dX8_rain_21 rfl rfl rfl ?_
        refine k_if_lt 39 25 dX8_rain_22 rfl rfl (fun c => ?_) (fun c => ?_)
        · exact bad
        · have c1 : ¬ z.toInt < 0 := fun q => c (lt0I.mpr q)
          refine k_iload_n 26 dX8_rain_25 rfl rfl rfl ?_
          refine k_bipush (nI 10) 28 dX8_rain_26 rfl kb_10 ?_
          refine k_icmp_gt 39 31 dX8_rain_28 rfl rfl (fun c => ?_) (fun c => ?_)
          · exact bad
          · have c2 : ¬ 10 < z.toInt := fun q => c ((gtI (by omega)).mpr q)
            omega
    · have bad := bad (by unfold a_rain; rw [e, e2])
      refine k_iload_n 12 dX8_rain_11 rfl rfl rfl ?_
      refine k_if_lt 39 15 dX8_rain_12 rfl rfl (fun c => ?_) (fun c => ?_)
      · exact bad
      · have c1 : ¬ y.toInt < 0 := fun q => c (lt0I.mpr q)
        refine k_iload_n 16 dX8_rain_15 rfl rfl rfl ?_
        refine k_bipush (nI 8) 18 dX8_rain_16 rfl kb_8 ?_
        refine k_icmp_gt 39 21 dX8_rain_18 rfl rfl (fun c => ?_) (fun c => ?_)
        · exact bad
        · have c2 : ¬ 8 < y.toInt := fun q => c ((gtI (by omega)).mpr q)
          omega
  · rw [e]
    refine k_if_eqB 39 11 dX8_rain_8 rfl rfl (fun c9 => ?_) (fun c9 => absurd c9 (by simp))
    exact bad (by unfold a_rain; rw [e])
theorem c_X8_day {G : KG} {N : Nat} {w : WD} {a : Nat} {x y z : Int32} {S : St} (h : QsM G N w a S) (hO : sOK S) : KCon G jX8_day N w [rf G a, .int x, .int y, .int z] (QpO G N w a (a_day S x y z)) := by
  have h9 := h
  obtain ⟨hQ, hF, hM, hS, hP, hK, hf, hi, hc⟩ := h9
  obtain ⟨o1, o2, ⟨o3, o4⟩, -⟩ := hO
  have hn7 := o1.1
  have f0 := hF.ob
  have s0 := hM.ob
  have p0 := hP.ob
  have k0 := hK.ob
  obtain ⟨cx, cy, c0, ct⟩ := id hc
  refine KCon.of ([some (rf G a), some (.int x), some (.int y), some (.int z), none]) (by decide) rfl (by simp [Value.category]) (Nat.le_of_ble_eq_true rfl) rfl ?_
  have bad : a_day S x y z = (-1, S) → KRun G jX8_day N (QpO G N w a (a_day S x y z)) 29 [some (rf G a), some (.int x), some (.int y), some (.int z), none] [] 0 0 w := by
    intro ea
    rw [ea]
    refine k_iconst (-1) 30 dX8_day_29 rfl km_1 ?_
    refine k_iret dX8_day_30 rfl rfl (Nat.le_of_ble_eq_true rfl) ⟨rfl, h, Eqx.rf⟩
  rcases rgn_c 0 9999 x with ⟨d, d1, d2, rfl, e⟩ | ⟨hx, e⟩
  · refine k_iload_n 1 dX8_day_0 rfl rfl rfl ?_
    refine k_if_ltN 29 4 dX8_day_1 rfl rfl (by omega) (fun c => ?_) (fun c => ?_)
    · omega
    refine k_iload_n 5 dX8_day_4 rfl rfl rfl ?_
    refine k_sipush (nI 9999) 8 dX8_day_5 rfl ks_9999 ?_
    refine k_icmp_gtN 29 11 dX8_day_8 rfl rfl (by omega) (by omega) (fun c => ?_) (fun c => ?_)
    · omega
    rcases rgn_c 1 60 y with ⟨n, n1, n2, rfl, e2⟩ | ⟨hy, e2⟩
    · refine k_iload_n 12 dX8_day_11 rfl rfl rfl ?_
      refine k_iconst (nI 1) 13 dX8_day_12 rfl kc_1 ?_
      refine k_icmp_ltN 29 16 dX8_day_13 rfl rfl (by omega) (by omega) (fun c => ?_) (fun c => ?_)
      · omega
      refine k_iload_n 17 dX8_day_16 rfl rfl rfl ?_
      refine k_bipush (nI 60) 19 dX8_day_17 rfl kb_60 ?_
      refine k_icmp_gtN 29 22 dX8_day_19 rfl rfl (by omega) (by omega) (fun c => ?_) (fun c => ?_)
      · omega
      refine k_iload_n 23 dX8_day_22 rfl rfl rfl ?_
      refine k_S1 26 dX8_day_23 rfl vX8_day_184 (Nat.le_of_ble_eq_true rfl) rfl ⟨Nat.le_of_ble_eq_true rfl, Nat.le_of_ble_eq_true rfl⟩ (c_X8_isNoPart) (fun r9 w9 h9 => ?_)
      obtain ⟨h8, h9⟩ := h9
      subst h8
      have h9 := h9.symm
      subst h9
      rcases rgn_c 0 1 z with ⟨u, v1, v2, rfl, e3⟩ | ⟨hz, e3⟩
      · rw [e3]
        refine k_if_eqB 31 29 dX8_day_26 rfl rfl (fun c9 => ?_) (fun c9 => absurd c9 (by simp))
        refine k_aload_n 32 dX8_day_31 rfl rfl rfl ?_
        refine k_get 35 dX8_day_32 rfl fX8_day_61 (by (repeat (refine Is.ne ?_ (by omega))); first | assumption | exact Is.up (by omega)) (by rfl) ?_
        refine k_iload_n 36 dX8_day_35 rfl rfl rfl ?_
        refine k_iload_n 37 dX8_day_36 rfl rfl rfl ?_
        refine k_V2 (ci := 0) 40 dX8_day_37 rfl vX8_day_238 (by (repeat (refine Is.ne ?_ (by omega))); first | assumption | exact Is.up (by omega)) rfl rfl (Nat.le_of_ble_eq_true rfl) rfl ⟨Nat.le_of_ble_eq_true rfl, Nat.le_of_ble_eq_true rfl⟩ (c_X0_sceneBehindDay c0 hF (by omega) hM (by omega) ct o3 o1 rfl o2 d2 n2 (by omega)) (fun r1 w1 x1 => ?_)
        obtain ⟨rfl, hT1, hE1⟩ := x1
        refine k_astore [some (rf G a), some (.int (nI d)), some (.int (nI n)), some (.int (nI u)), some (rf G (a + 98 + 1))] 42 dX8_day_40 rfl ?_ rfl rfl ?_
        · decide
        have hQ1 := hQ.fr hE1 (by omega)
        have hF1 := hF.fr hE1 (by omega)
        have hM1 := hM.fr hE1 (by omega)
        have hS1 := hS.fr hE1 (by omega)
        have hP1 := hP.fr hE1 (by omega)
        have hK1 := hK.fr hE1 (by omega)
        have hf1 := hf.fr hE1 (by omega)
        have hi1 := hi.fr hE1 (by omega)
        have t0 := hT1.ob
        have hR : QsM G N w1 a S := ⟨hQ1, hF1, hM1, hS1, hP1, hK1, hf1, hi1, ⟨_, _, c0.eqx hE1 (by omega), hT1.g⟩⟩
        refine k_iload_n 43 dX8_day_42 rfl rfl rfl ?_
        refine k_if_neN 54 46 dX8_day_43 rfl rfl (by omega) (fun c => ?_) (fun c => ?_)
        · have ea : a_day S (nI d) (nI n) (nI u) = (nI (owf (mD (dyM (qF S) (qM S) d n)) 49), S) := by
            unfold a_day
            rw [e, e2, e3]
            dsimp only
            rw [if_neg (by omega)]
          rw [ea]
          refine k_aload 56 dX8_day_54 rfl rfl ?_
          refine k_V0 (ci := 3) 59 dX8_day_56 rfl vX8_day_242 (by (repeat (refine Is.ne ?_ (by omega))); first | assumption | exact Is.up (by omega)) rfl rfl (Nat.le_of_ble_eq_true rfl) rfl ⟨Nat.le_of_ble_eq_true rfl, Nat.le_of_ble_eq_true rfl⟩ (c_X4_owedInAll hT1) (fun r9 w9 h9 => ?_)
          obtain ⟨h8, h9⟩ := h9
          subst h8
          have h9 := h9.symm
          subst h9
          refine k_iret dX8_day_59 rfl rfl (Nat.le_of_ble_eq_true rfl) ⟨rfl, hR, hE1.wd (by omega) (by omega)⟩
        · have ea : a_day S (nI d) (nI n) (nI u) = (nI (mL (dyM (qF S) (qM S) d n)), S) := by
            unfold a_day
            rw [e, e2, e3]
            dsimp only
            rw [if_pos (by omega)]
          rw [ea]
          refine k_aload 48 dX8_day_46 rfl rfl ?_
          refine k_get 51 dX8_day_48 rfl fX8_day_137 (by (repeat (refine Is.ne ?_ (by omega))); first | assumption | exact Is.up (by omega)) (by rfl) ?_
          refine k_goto 59 dX8_day_51 rfl ?_
          refine k_iret dX8_day_59 rfl rfl (Nat.le_of_ble_eq_true rfl) ⟨rfl, hR, hE1.wd (by omega) (by omega)⟩
      · rw [e3]
        refine k_if_eqB 31 29 dX8_day_26 rfl rfl (fun c9 => absurd c9 (by simp)) (fun c9 => ?_)
        exact bad (by unfold a_day; rw [e, e2, e3])
    · have bad := bad (by unfold a_day; rw [e, e2])
      refine k_iload_n 12 dX8_day_11 rfl rfl rfl ?_
      refine k_iconst (nI 1) 13 dX8_day_12 rfl kc_1 ?_
      refine k_icmp_lt 29 16 dX8_day_13 rfl rfl (fun c => ?_) (fun c => ?_)
      · exact bad
      · have c1 : ¬ y.toInt < 1 := fun q => c ((ltI (k := 1) (by omega)).mpr q)
        refine k_iload_n 17 dX8_day_16 rfl rfl rfl ?_
        refine k_bipush (nI 60) 19 dX8_day_17 rfl kb_60 ?_
        refine k_icmp_gt 29 22 dX8_day_19 rfl rfl (fun c => ?_) (fun c => ?_)
        · exact bad
        · have c2 : ¬ 60 < y.toInt := fun q => c ((gtI (by omega)).mpr q)
          omega
  · have bad := bad (by unfold a_day; rw [e])
    refine k_iload_n 1 dX8_day_0 rfl rfl rfl ?_
    refine k_if_lt 29 4 dX8_day_1 rfl rfl (fun c => ?_) (fun c => ?_)
    · exact bad
    · have c1 : ¬ x.toInt < 0 := fun q => c (lt0I.mpr q)
      refine k_iload_n 5 dX8_day_4 rfl rfl rfl ?_
      refine k_sipush (nI 9999) 8 dX8_day_5 rfl ks_9999 ?_
      refine k_icmp_gt 29 11 dX8_day_8 rfl rfl (fun c => ?_) (fun c => ?_)
      · exact bad
      · have c2 : ¬ 9999 < x.toInt := fun q => c ((gtI (by omega)).mpr q)
        omega
