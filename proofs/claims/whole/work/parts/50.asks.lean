/-! public methods: what comes, what is best -/
theorem gtI {x : Int32} {k : Nat} (hk : k < 2 ^ 31) : nI k < x ↔ (k : Int) < x.toInt := by rw [Int32.lt_iff_toInt_lt, nI_toInt hk]
theorem c_X8_behind {G : KG} {N : Nat} {w : WD} {a : Nat} {x y z : Int32} {S : St} (h : QsM G N w a S) (hO : sOK S) : KCon G jX8_behind N w [rf G a, .int x, .int y, .int z] (QpO G N w a (a_behind S x y z)) := by
  have h9 := h
  obtain ⟨hQ, hF, hM, hS, hP, hK, hf, hi, hc⟩ := h9
  obtain ⟨o1, o2, ⟨o3, o4⟩, -⟩ := hO
  have hn7 := o1.1
  have f0 := hF.ob
  have s0 := hM.ob
  have p0 := hP.ob
  have k0 := hK.ob
  obtain ⟨u1, u2, u3, q0, qt_, qc⟩ := id hf
  refine KCon.of ([some (rf G a), some (.int x), some (.int y), some (.int z), none]) (by decide) rfl (by simp [Value.category]) (Nat.le_of_ble_eq_true rfl) rfl ?_
  have bad : a_behind S x y z = (-1, S) → KRun G jX8_behind N (QpO G N w a (a_behind S x y z)) 28 [some (rf G a), some (.int x), some (.int y), some (.int z), none] [] 0 0 w := by
    intro ea
    rw [ea]
    refine k_iconst (-1) 29 dX8_behind_28 rfl km_1 ?_
    refine k_iret dX8_behind_29 rfl rfl (Nat.le_of_ble_eq_true rfl) ⟨rfl, h, Eqx.rf⟩
  rcases rgn_c 0 40 x with ⟨n, n1, n2, rfl, e⟩ | ⟨hx, e⟩
  · refine k_iload_n 1 dX8_behind_0 rfl rfl rfl ?_
    refine k_if_ltN 28 4 dX8_behind_1 rfl rfl (by omega) (fun c => ?_) (fun c => ?_)
    · omega
    refine k_iload_n 5 dX8_behind_4 rfl rfl rfl ?_
    refine k_bipush (nI 40) 7 dX8_behind_5 rfl kb_40 ?_
    refine k_icmp_gtN 28 10 dX8_behind_7 rfl rfl (by omega) (by omega) (fun c => ?_) (fun c => ?_)
    · omega
    refine k_aload_n 11 dX8_behind_10 rfl rfl rfl ?_
    refine k_get 14 dX8_behind_11 rfl fX8_behind_10 (by (repeat (refine Is.ne ?_ (by omega))); first | assumption | exact Is.up (by omega)) (by rfl) ?_
    refine k_iload_n 15 dX8_behind_14 rfl rfl rfl ?_
    refine k_V1 (ci := 1) 18 dX8_behind_15 rfl vX8_behind_95 (by (repeat (refine Is.ne ?_ (by omega))); first | assumption | exact Is.up (by omega)) rfl rfl (Nat.le_of_ble_eq_true rfl) rfl ⟨Nat.le_of_ble_eq_true rfl, Nat.le_of_ble_eq_true rfl⟩ (c_prs hF hn7) (fun r9 w9 h9 => ?_)
    obtain ⟨h8, h9⟩ := h9
    subst h8
    have h9 := h9.symm
    subst h9
    rcases prs_c hn7 y with ⟨p, hp, rfl, e2⟩ | ⟨hno, e2⟩
    · rw [e2]
      refine k_if_eqB 28 21 dX8_behind_18 rfl rfl (fun c9 => absurd c9 (by simp)) (fun c9 => ?_)
      refine k_iload_n 22 dX8_behind_21 rfl rfl rfl ?_
      refine k_S1 25 dX8_behind_22 rfl vX8_behind_184 (Nat.le_of_ble_eq_true rfl) rfl ⟨Nat.le_of_ble_eq_true rfl, Nat.le_of_ble_eq_true rfl⟩ (c_X8_isNoPart) (fun r9 w9 h9 => ?_)
      obtain ⟨h8, h9⟩ := h9
      subst h8
      have h9 := h9.symm
      subst h9
      rcases rgn_c 0 1 z with ⟨u, v1, v2, rfl, e3⟩ | ⟨hz, e3⟩
      · rw [e3]
        refine k_if_eqB 30 28 dX8_behind_25 rfl rfl (fun c9 => ?_) (fun c9 => absurd c9 (by simp))
        obtain ⟨om, hg⟩ := ok_mns (i := n) o3 o1 rfl (by omega)
        refine k_aload_n 31 dX8_behind_30 rfl rfl rfl ?_
        refine k_get 34 dX8_behind_31 rfl fX8_behind_47 (by (repeat (refine Is.ne ?_ (by omega))); first | assumption | exact Is.up (by omega)) (by rfl) ?_
        refine k_iload_n 35 dX8_behind_34 rfl rfl rfl ?_
        refine k_V1 (ci := 2) 38 dX8_behind_35 rfl vX8_behind_187 (by (repeat (refine Is.ne ?_ (by omega))); first | assumption | exact Is.up (by omega)) rfl rfl (Nat.le_of_ble_eq_true rfl) rfl ⟨Nat.le_of_ble_eq_true rfl, Nat.le_of_ble_eq_true rfl⟩ (c_X2_sceneBehind q0 hF (by omega) hM (by omega) qt_ o3 o1 rfl (by omega)) (fun r1 w1 x1 => ?_)
        obtain ⟨rfl, hT1, hE1⟩ := x1
        refine k_astore [some (rf G a), some (.int (nI n)), some (.int (nI p)), some (.int (nI u)), some (rf G (a + 76 + 1))] 40 dX8_behind_38 rfl ?_ rfl rfl ?_
        · decide
        have hQ1 := hQ.fr hE1 (by omega)
        have hF1 := hF.fr hE1 (by omega)
        have hM1 := hM.fr hE1 (by omega)
        have hS1 := hS.fr hE1 (by omega)
        have hP1 := hP.fr hE1 (by omega)
        have hK1 := hK.fr hE1 (by omega)
        have hi1 := hi.fr hE1 (by omega)
        have hc1 := hc.fr hE1 (by omega)
        have t0 := hT1.ob
        have hR : QsM G N w1 a S := ⟨hQ1, hF1, hM1, hS1, hP1, hK1, ⟨u1, u2, u3, q0.eqx hE1 (by omega), hT1.g, qc.fr hE1 (by omega)⟩, hi1, hc1⟩
        refine k_iload_n 41 dX8_behind_40 rfl rfl rfl ?_
        refine k_if_neN 53 44 dX8_behind_41 rfl rfl (by omega) (fun c => ?_) (fun c => ?_)
        · have ea : a_behind S (nI n) (nI p) (nI u) = (iZ (200000 + due (mns (qF S) (qM S) n) p), S) := by
            unfold a_behind
            rw [e, e2, e3]
            dsimp only
            rw [if_neg (by omega)]
          rw [ea]
          refine k_ldc ((iZ 200000)) 55 dX8_behind_53 rfl (by decide +kernel) ?_
          refine k_aload 57 dX8_behind_55 rfl rfl ?_
          refine k_iload_n 58 dX8_behind_57 rfl rfl rfl ?_
          refine k_V1 (ci := 3) 61 dX8_behind_58 rfl vX8_behind_126 (by (repeat (refine Is.ne ?_ (by omega))); first | assumption | exact Is.up (by omega)) rfl rfl (Nat.le_of_ble_eq_true rfl) rfl ⟨Nat.le_of_ble_eq_true rfl, Nat.le_of_ble_eq_true rfl⟩ (c_X4_dueOf hT1 (by omega)) (fun r9 w9 h9 => ?_)
          obtain ⟨h8, h9⟩ := h9
          subst h8
          have h9 := h9.symm
          subst h9
          refine k_iaddE _ 62 dX8_behind_61 rfl (iZ_add _ _) ?_
          refine k_iret dX8_behind_62 rfl rfl (Nat.le_of_ble_eq_true rfl) ⟨rfl, hR, hE1.wd (by omega) (by omega)⟩
        · have ea : a_behind S (nI n) (nI p) (nI u) = (pI (plc (mns (qF S) (qM S) n) p), S) := by
            unfold a_behind
            rw [e, e2, e3]
            dsimp only
            rw [if_pos (by omega)]
          rw [ea]
          refine k_aload 46 dX8_behind_44 rfl rfl ?_
          refine k_iload_n 47 dX8_behind_46 rfl rfl rfl ?_
          refine k_V1 (ci := 3) 50 dX8_behind_47 rfl vX8_behind_118 (by (repeat (refine Is.ne ?_ (by omega))); first | assumption | exact Is.up (by omega)) rfl rfl (Nat.le_of_ble_eq_true rfl) rfl ⟨Nat.le_of_ble_eq_true rfl, Nat.le_of_ble_eq_true rfl⟩ (c_X4_placeOf hT1 (ok_l7 om) (ok_q7 om) (by omega)) (fun r9 w9 h9 => ?_)
          obtain ⟨h8, h9⟩ := h9
          subst h8
          have h9 := h9.symm
          subst h9
          refine k_goto 62 dX8_behind_50 rfl ?_
          refine k_iret dX8_behind_62 rfl rfl (Nat.le_of_ble_eq_true rfl) ⟨rfl, hR, hE1.wd (by omega) (by omega)⟩
      · rw [e3]
        refine k_if_eqB 30 28 dX8_behind_25 rfl rfl (fun c9 => absurd c9 (by simp)) (fun c9 => ?_)
        exact bad (by unfold a_behind; rw [e, e2, e3])
    · rw [e2]
      refine k_if_eqB 28 21 dX8_behind_18 rfl rfl (fun c9 => ?_) (fun c9 => absurd c9 (by simp))
      exact bad (by unfold a_behind; rw [e, e2])
  · have bad := bad (by unfold a_behind; rw [e])
    refine k_iload_n 1 dX8_behind_0 rfl rfl rfl ?_
    refine k_if_lt 28 4 dX8_behind_1 rfl rfl (fun c => ?_) (fun c => ?_)
    · exact bad
    · have c1 : ¬ x.toInt < 0 := fun z => c (lt0I.mpr z)
      refine k_iload_n 5 dX8_behind_4 rfl rfl rfl ?_
      refine k_bipush (nI 40) 7 dX8_behind_5 rfl kb_40 ?_
      refine k_icmp_gt 28 10 dX8_behind_7 rfl rfl (fun c => ?_) (fun c => ?_)
      · exact bad
      · have c2 : ¬ 40 < x.toInt := fun z => c ((gtI (by omega)).mpr z)
        omega
theorem c_X8_served {G : KG} {N : Nat} {w : WD} {a : Nat} {x : Int32} {S : St} (h : QsM G N w a S) (hO : sOK S) : KCon G jX8_served N w [rf G a, .int x] (QpO G N w a (a_served S x)) := by
  have h9 := h
  obtain ⟨hQ, hF, hM, hS, hP, hK, hf, hi, hc⟩ := h9
  obtain ⟨o1, o2, ⟨o3, o4⟩, -⟩ := hO
  have hn7 := o1.1
  have hL7 := ok_l7 o3
  have hQ7 := ok_q7 o3
  have f0 := hF.ob
  have s0 := hM.ob
  have p0 := hP.ob
  have k0 := hK.ob
  obtain ⟨u1, u2, u3, q0, qt_, qc⟩ := id hf
  refine KCon.of ([some (rf G a), some (.int x)]) (by decide) rfl (by simp [Value.category]) (Nat.le_of_ble_eq_true rfl) rfl ?_
  refine k_aload_n 1 dX8_served_0 rfl rfl rfl ?_
  refine k_get 4 dX8_served_1 rfl fX8_served_10 (by (repeat (refine Is.ne ?_ (by omega))); first | assumption | exact Is.up (by omega)) (by rfl) ?_
  refine k_iload_n 5 dX8_served_4 rfl rfl rfl ?_
  refine k_V1 (ci := 1) 8 dX8_served_5 rfl vX8_served_95 (by (repeat (refine Is.ne ?_ (by omega))); first | assumption | exact Is.up (by omega)) rfl rfl (Nat.le_of_ble_eq_true rfl) rfl ⟨Nat.le_of_ble_eq_true rfl, Nat.le_of_ble_eq_true rfl⟩ (c_prs hF hn7) (fun r9 w9 h9 => ?_)
  obtain ⟨h8, h9⟩ := h9
  subst h8
  have h9 := h9.symm
  subst h9
  rcases prs_c hn7 x with ⟨p, hp, rfl, e⟩ | ⟨hno, e⟩
  · rw [e]
    refine k_if_neB 13 11 dX8_served_8 rfl rfl (fun c9 => ?_) (fun c9 => absurd c9 (by simp))
    refine k_aload_n 14 dX8_served_13 rfl rfl rfl ?_
    refine k_get 17 dX8_served_14 rfl fX8_served_19 (by (repeat (refine Is.ne ?_ (by omega))); first | assumption | exact Is.up (by omega)) (by rfl) ?_
    refine k_iload_n 18 dX8_served_17 rfl rfl rfl ?_
    refine k_V1 (ci := 3) 21 dX8_served_18 rfl vX8_served_166 (by (repeat (refine Is.ne ?_ (by omega))); first | assumption | exact Is.up (by omega)) rfl rfl (Nat.le_of_ble_eq_true rfl) rfl ⟨Nat.le_of_ble_eq_true rfl, Nat.le_of_ble_eq_true rfl⟩ (c_X4_isQueued hM hL7 hQ7 (by omega)) (fun r9 w9 h9 => ?_)
    obtain ⟨h8, h9⟩ := h9
    subst h8
    have h9 := h9.symm
    subst h9
    refine k_if_neB 27 24 dX8_served_21 rfl rfl (fun c9 => ?_) (fun c9 => ?_)
    · have ea : a_served S (nI p) = (wI (wtn (qF S) (qM S) p), S) := by
        unfold a_served
        rw [e]
        dsimp only
        rw [if_pos c9]
      rw [ea]
      refine k_aload_n 28 dX8_served_27 rfl rfl rfl ?_
      refine k_get 31 dX8_served_28 rfl fX8_served_47 (by (repeat (refine Is.ne ?_ (by omega))); first | assumption | exact Is.up (by omega)) (by rfl) ?_
      refine k_iload_n 32 dX8_served_31 rfl rfl rfl ?_
      refine k_V1 (ci := 2) 35 dX8_served_32 rfl vX8_served_191 (by (repeat (refine Is.ne ?_ (by omega))); first | assumption | exact Is.up (by omega)) rfl rfl (Nat.le_of_ble_eq_true rfl) rfl ⟨Nat.le_of_ble_eq_true rfl, Nat.le_of_ble_eq_true rfl⟩ (c_X2_waitOf q0 hF (by omega) hM (by omega) qt_ o3 o1 rfl hp (by omega)) (fun r1 w1 x1 => ?_)
      obtain ⟨rfl, hT1, hE1⟩ := x1
      have hQ1 := hQ.fr hE1 (by omega)
      have hF1 := hF.fr hE1 (by omega)
      have hM1 := hM.fr hE1 (by omega)
      have hS1 := hS.fr hE1 (by omega)
      have hP1 := hP.fr hE1 (by omega)
      have hK1 := hK.fr hE1 (by omega)
      have hi1 := hi.fr hE1 (by omega)
      have hc1 := hc.fr hE1 (by omega)
      refine k_iret dX8_served_35 rfl rfl (Nat.le_of_ble_eq_true rfl) ⟨rfl, ⟨hQ1, hF1, hM1, hS1, hP1, hK1, ⟨u1, u2, u3, q0.eqx hE1 (by omega), hT1, qc.fr hE1 (by omega)⟩, hi1, hc1⟩, hE1.wd (by omega) (by omega)⟩
    · have ea : a_served S (nI p) = (-2, S) := by
        unfold a_served
        rw [e]
        dsimp only
        rw [if_neg (by rw [c9]; simp)]
      rw [ea]
      refine k_bipush (-2) 26 dX8_served_24 rfl kbm_2 ?_
      refine k_iret dX8_served_26 rfl rfl (Nat.le_of_ble_eq_true rfl) ⟨rfl, h, Eqx.rf⟩
  · rw [e]
    have ea : a_served S x = (-1, S) := by
      unfold a_served
      rw [e]
    rw [ea]
    refine k_if_neB 13 11 dX8_served_8 rfl rfl (fun c9 => absurd c9 (by simp)) (fun c9 => ?_)
    refine k_iconst (-1) 12 dX8_served_11 rfl km_1 ?_
    refine k_iret dX8_served_12 rfl rfl (Nat.le_of_ble_eq_true rfl) ⟨rfl, h, Eqx.rf⟩
theorem c_X8_stand {G : KG} {N : Nat} {w : WD} {a : Nat} {x y z : Int32} {S : St} (h : QsM G N w a S) (hO : sOK S) : KCon G jX8_stand N w [rf G a, .int x, .int y, .int z] (QpO G N w a (a_stand S x y z)) := by
  have h9 := h
  obtain ⟨hQ, hF, hM, hS, hP, hK, hf, hi, hc⟩ := h9
  obtain ⟨o1, o2, ⟨o3, o4⟩, -⟩ := hO
  have hn7 := o1.1
  have hL7 := ok_l7 o3
  have hQ7 := ok_q7 o3
  have f0 := hF.ob
  have s0 := hM.ob
  have p0 := hP.ob
  have k0 := hK.ob
  obtain ⟨u1, u2, u3, q0, qt_, qc⟩ := id hf
  refine KCon.of ([some (rf G a), some (.int x), some (.int y), some (.int z)]) (by decide) rfl (by simp [Value.category]) (Nat.le_of_ble_eq_true rfl) rfl ?_
  have bad : a_stand S x y z = (-1, S) → KRun G jX8_stand N (QpO G N w a (a_stand S x y z)) 29 [some (rf G a), some (.int x), some (.int y), some (.int z)] [] 0 0 w := by
    intro ea
    rw [ea]
    refine k_iconst (-1) 30 dX8_stand_29 rfl km_1 ?_
    refine k_iret dX8_stand_30 rfl rfl (Nat.le_of_ble_eq_true rfl) ⟨rfl, h, Eqx.rf⟩
  refine k_aload_n 1 dX8_stand_0 rfl rfl rfl ?_
  refine k_get 4 dX8_stand_1 rfl fX8_stand_10 (by (repeat (refine Is.ne ?_ (by omega))); first | assumption | exact Is.up (by omega)) (by rfl) ?_
  refine k_iload_n 5 dX8_stand_4 rfl rfl rfl ?_
  refine k_V1 (ci := 1) 8 dX8_stand_5 rfl vX8_stand_95 (by (repeat (refine Is.ne ?_ (by omega))); first | assumption | exact Is.up (by omega)) rfl rfl (Nat.le_of_ble_eq_true rfl) rfl ⟨Nat.le_of_ble_eq_true rfl, Nat.le_of_ble_eq_true rfl⟩ (c_prs hF hn7) (fun r9 w9 h9 => ?_)
  obtain ⟨h8, h9⟩ := h9
  subst h8
  have h9 := h9.symm
  subst h9
  rcases prs_c hn7 x with ⟨p, hp, rfl, e⟩ | ⟨hno, e⟩
  · rw [e]
    refine k_if_eqB 29 11 dX8_stand_8 rfl rfl (fun c9 => absurd c9 (by simp)) (fun c9 => ?_)
    rcases rgn_c 1 40 y with ⟨n, n1, n2, rfl, e2⟩ | ⟨hy, e2⟩
    · refine k_iload_n 12 dX8_stand_11 rfl rfl rfl ?_
      refine k_iconst (nI 1) 13 dX8_stand_12 rfl kc_1 ?_
      refine k_icmp_ltN 29 16 dX8_stand_13 rfl rfl (by omega) (by omega) (fun c => ?_) (fun c => ?_)
      · omega
      refine k_iload_n 17 dX8_stand_16 rfl rfl rfl ?_
      refine k_bipush (nI 40) 19 dX8_stand_17 rfl kb_40 ?_
      refine k_icmp_gtN 29 22 dX8_stand_19 rfl rfl (by omega) (by omega) (fun c => ?_) (fun c => ?_)
      · omega
      refine k_iload_n 23 dX8_stand_22 rfl rfl rfl ?_
      refine k_S1 26 dX8_stand_23 rfl vX8_stand_184 (Nat.le_of_ble_eq_true rfl) rfl ⟨Nat.le_of_ble_eq_true rfl, Nat.le_of_ble_eq_true rfl⟩ (c_X8_isNoPart) (fun r9 w9 h9 => ?_)
      obtain ⟨h8, h9⟩ := h9
      subst h8
      have h9 := h9.symm
      subst h9
      rcases rgn_c 0 1 z with ⟨u, v1, v2, rfl, e3⟩ | ⟨hz, e3⟩
      · rw [e3]
        refine k_if_eqB 31 29 dX8_stand_26 rfl rfl (fun c9 => ?_) (fun c9 => absurd c9 (by simp))
        refine k_aload_n 32 dX8_stand_31 rfl rfl rfl ?_
        refine k_get 35 dX8_stand_32 rfl fX8_stand_19 (by (repeat (refine Is.ne ?_ (by omega))); first | assumption | exact Is.up (by omega)) (by rfl) ?_
        refine k_iload_n 36 dX8_stand_35 rfl rfl rfl ?_
        refine k_V1 (ci := 3) 39 dX8_stand_36 rfl vX8_stand_166 (by (repeat (refine Is.ne ?_ (by omega))); first | assumption | exact Is.up (by omega)) rfl rfl (Nat.le_of_ble_eq_true rfl) rfl ⟨Nat.le_of_ble_eq_true rfl, Nat.le_of_ble_eq_true rfl⟩ (c_X4_isQueued hM hL7 hQ7 (by omega)) (fun r9 w9 h9 => ?_)
        obtain ⟨h8, h9⟩ := h9
        subst h8
        have h9 := h9.symm
        subst h9
        cases e4 : plc (qM S) p with
        | none =>
          refine k_if_neB (b := false) 45 42 dX8_stand_39 rfl rfl (fun c9 => absurd c9 (by simp)) (fun c9 => ?_)
          have ea : a_stand S (nI p) (nI n) (nI u) = (-2, S) := by
            unfold a_stand
            rw [e, e2, e3]
            dsimp only
            rw [e4]
            rfl
          rw [ea]
          refine k_bipush (-2) 44 dX8_stand_42 rfl kbm_2 ?_
          refine k_iret dX8_stand_44 rfl rfl (Nat.le_of_ble_eq_true rfl) ⟨rfl, h, Eqx.rf⟩
        | some j =>
          refine k_if_neB (b := true) 45 42 dX8_stand_39 rfl rfl (fun c9 => ?_) (fun c9 => absurd c9 (by simp))
          refine k_aload_n 46 dX8_stand_45 rfl rfl rfl ?_
          refine k_get 49 dX8_stand_46 rfl fX8_stand_47 (by (repeat (refine Is.ne ?_ (by omega))); first | assumption | exact Is.up (by omega)) (by rfl) ?_
          refine k_iload_n 50 dX8_stand_49 rfl rfl rfl ?_
          refine k_iload_n 51 dX8_stand_50 rfl rfl rfl ?_
          refine k_V2 (ci := 2) 54 dX8_stand_51 rfl vX8_stand_194 (by (repeat (refine Is.ne ?_ (by omega))); first | assumption | exact Is.up (by omega)) rfl rfl (Nat.le_of_ble_eq_true rfl) rfl ⟨Nat.le_of_ble_eq_true rfl, Nat.le_of_ble_eq_true rfl⟩ (c_X2_seekStand q0 hF (by omega) hM (by omega) qt_ o3 o1 rfl hp e4 (by omega)) (fun r1 w1 x1 => ?_)
          obtain ⟨rfl, ⟨ch, va, b0, b1⟩, hT1, hE1⟩ := x1
          have hQ1 := hQ.fr hE1 (by omega)
          have hF1 := hF.fr hE1 (by omega)
          have hM1 := hM.fr hE1 (by omega)
          have hS1 := hS.fr hE1 (by omega)
          have hP1 := hP.fr hE1 (by omega)
          have hK1 := hK.fr hE1 (by omega)
          have hi1 := hi.fr hE1 (by omega)
          have hc1 := hc.fr hE1 (by omega)
          have hR : QsM G N w1 a S := ⟨hQ1, hF1, hM1, hS1, hP1, hK1, ⟨_, _, _, b0, hT1, qc.fr hE1 (by omega)⟩, hi1, hc1⟩
          cases e5 : std (qF S) (qM S) p n (mL (qM S)) with
          | none =>
            rw [e5] at b0
            have ea : a_stand S (nI p) (nI n) (nI u) = (-4, S) := by
              unfold a_stand
              rw [e, e2, e3]
              dsimp only
              rw [e4, if_pos (show (some j : Option Nat).isSome = true from rfl), e5]
            rw [ea]
            refine k_aload_n 55 dX8_stand_54 rfl rfl rfl ?_
            refine k_get 58 dX8_stand_55 rfl fX8_stand_47 (by (repeat (refine Is.ne ?_ (by omega))); first | assumption | exact Is.up (by omega)) (by rfl) ?_
            refine k_get 61 dX8_stand_58 rfl fX8_stand_197 (by (repeat (refine Is.ne ?_ (by omega))); first | assumption | exact Is.up (by omega)) (by rfl) ?_
            refine k_if_neB (b := false) 67 64 dX8_stand_61 rfl rfl (fun c9 => absurd c9 (by simp)) (fun c9 => ?_)
            refine k_bipush (-4) 66 dX8_stand_64 rfl kbm_4 ?_
            refine k_iret dX8_stand_66 rfl rfl (Nat.le_of_ble_eq_true rfl) ⟨rfl, hR, hE1.wd (by omega) (by omega)⟩
          | some kv =>
            obtain ⟨k, v⟩ := kv
            obtain ⟨rfl, rfl, -, -⟩ := b1 _ e5
            rw [e5] at b0
            refine k_aload_n 55 dX8_stand_54 rfl rfl rfl ?_
            refine k_get 58 dX8_stand_55 rfl fX8_stand_47 (by (repeat (refine Is.ne ?_ (by omega))); first | assumption | exact Is.up (by omega)) (by rfl) ?_
            refine k_get 61 dX8_stand_58 rfl fX8_stand_197 (by (repeat (refine Is.ne ?_ (by omega))); first | assumption | exact Is.up (by omega)) (by rfl) ?_
            refine k_if_neB (b := true) 67 64 dX8_stand_61 rfl rfl (fun c9 => ?_) (fun c9 => absurd c9 (by simp))
            refine k_iload_n 68 dX8_stand_67 rfl rfl rfl ?_
            refine k_if_neN 81 71 dX8_stand_68 rfl rfl (by omega) (fun c => ?_) (fun c => ?_)
            · have ea : a_stand S (nI p) (nI n) (nI u) = (iZ (200000 + v), S) := by
                unfold a_stand
                rw [e, e2, e3]
                dsimp only
                rw [e4, if_pos (show (some j : Option Nat).isSome = true from rfl), e5]
                dsimp only
                rw [if_neg (by omega)]
              rw [ea]
              refine k_ldc ((iZ 200000)) 83 dX8_stand_81 rfl (by decide +kernel) ?_
              refine k_aload_n 84 dX8_stand_83 rfl rfl rfl ?_
              refine k_get 87 dX8_stand_84 rfl fX8_stand_47 (by (repeat (refine Is.ne ?_ (by omega))); first | assumption | exact Is.up (by omega)) (by rfl) ?_
              refine k_get 90 dX8_stand_87 rfl fX8_stand_204 (by (repeat (refine Is.ne ?_ (by omega))); first | assumption | exact Is.up (by omega)) (by rfl) ?_
              refine k_iaddE _ 91 dX8_stand_90 rfl (iZ_add _ _) ?_
              refine k_iret dX8_stand_91 rfl rfl (Nat.le_of_ble_eq_true rfl) ⟨rfl, hR, hE1.wd (by omega) (by omega)⟩
            · have ea : a_stand S (nI p) (nI n) (nI u) = (nI k, S) := by
                unfold a_stand
                rw [e, e2, e3]
                dsimp only
                rw [e4, if_pos (show (some j : Option Nat).isSome = true from rfl), e5]
                dsimp only
                rw [if_pos (by omega)]
              rw [ea]
              refine k_aload_n 72 dX8_stand_71 rfl rfl rfl ?_
              refine k_get 75 dX8_stand_72 rfl fX8_stand_47 (by (repeat (refine Is.ne ?_ (by omega))); first | assumption | exact Is.up (by omega)) (by rfl) ?_
              refine k_get 78 dX8_stand_75 rfl fX8_stand_201 (by (repeat (refine Is.ne ?_ (by omega))); first | assumption | exact Is.up (by omega)) (by rfl) ?_
              refine k_goto 91 dX8_stand_78 rfl ?_
              refine k_iret dX8_stand_91 rfl rfl (Nat.le_of_ble_eq_true rfl) ⟨rfl, hR, hE1.wd (by omega) (by omega)⟩
      · rw [e3]
        refine k_if_eqB 31 29 dX8_stand_26 rfl rfl (fun c9 => absurd c9 (by simp)) (fun c9 => ?_)
        exact bad (by unfold a_stand; rw [e, e2, e3])
    · have bad := bad (by unfold a_stand; rw [e, e2])
      refine k_iload_n 12 dX8_stand_11 rfl rfl rfl ?_
      refine k_iconst (nI 1) 13 dX8_stand_12 rfl kc_1 ?_
      refine k_icmp_lt 29 16 dX8_stand_13 rfl rfl (fun c => ?_) (fun c => ?_)
      · exact bad
      · have c1 : ¬ y.toInt < 1 := fun z => c ((ltI (k := 1) (by omega)).mpr z)
        refine k_iload_n 17 dX8_stand_16 rfl rfl rfl ?_
        refine k_bipush (nI 40) 19 dX8_stand_17 rfl kb_40 ?_
        refine k_icmp_gt 29 22 dX8_stand_19 rfl rfl (fun c => ?_) (fun c => ?_)
        · exact bad
        · have c2 : ¬ 40 < y.toInt := fun z => c ((gtI (by omega)).mpr z)
          omega
  · rw [e]
    refine k_if_eqB 29 11 dX8_stand_8 rfl rfl (fun c9 => ?_) (fun c9 => absurd c9 (by simp))
    exact bad (by unfold a_stand; rw [e])
