/-! public methods: haste, clear, miss -/
theorem c_X8_haste {G : KG} {N : Nat} {w : WD} {a : Nat} {x y : Int32} {S : St} (h : QsM G N w a S) (hO : sOK S) : KCon G jX8_haste N w [rf G a, .int x, .int y] (QpO G N w a (a_haste S x y)) := by
  have h9 := h
  obtain ⟨hQ, hF, hM, hS, hP, hK, hf, hi, hc⟩ := h9
  obtain ⟨o1, o2, ⟨o3, o4⟩, -⟩ := hO
  have hn7 := o1.1
  have hL7 := ok_l7 o3
  have hQ7 := ok_q7 o3
  have f0 := hF.ob
  have s0 := hM.ob
  have p0 := hP.ob
  have k0 := hK.ob
  obtain ⟨u1, u2, u3, q0, qt_, qc⟩ := id hf
  refine KCon.of ([some (rf G a), some (.int x), some (.int y)]) (by decide) rfl (by simp [Value.category]) (Nat.le_of_ble_eq_true rfl) rfl ?_
  have bad : a_haste S x y = (-1, S) → KRun G jX8_haste N (QpO G N w a (a_haste S x y)) 18 [some (rf G a), some (.int x), some (.int y)] [] 0 0 w := by
    intro ea
    rw [ea]
    refine k_iconst (-1) 19 dX8_haste_18 rfl km_1 ?_
    refine k_iret dX8_haste_19 rfl rfl (Nat.le_of_ble_eq_true rfl) ⟨rfl, h, Eqx.rf⟩
  refine k_aload_n 1 dX8_haste_0 rfl rfl rfl ?_
  refine k_get 4 dX8_haste_1 rfl fX8_haste_10 (by (repeat (refine Is.ne ?_ (by omega))); first | assumption | exact Is.up (by omega)) (by rfl) ?_
  refine k_iload_n 5 dX8_haste_4 rfl rfl rfl ?_
  refine k_V1 (ci := 1) 8 dX8_haste_5 rfl vX8_haste_95 (by (repeat (refine Is.ne ?_ (by omega))); first | assumption | exact Is.up (by omega)) rfl rfl (Nat.le_of_ble_eq_true rfl) rfl ⟨Nat.le_of_ble_eq_true rfl, Nat.le_of_ble_eq_true rfl⟩ (c_prs hF hn7) (fun r9 w9 h9 => ?_)
  obtain ⟨h8, h9⟩ := h9
  subst h8
  have h9 := h9.symm
  subst h9
  rcases prs_c hn7 x with ⟨p, hp, rfl, e⟩ | ⟨hno, e⟩
  · rw [e]
    refine k_if_eqB 18 11 dX8_haste_8 rfl rfl (fun c9 => absurd c9 (by simp)) (fun c9 => ?_)
    refine k_iload_n 12 dX8_haste_11 rfl rfl rfl ?_
    refine k_S1 15 dX8_haste_12 rfl vX8_haste_184 (Nat.le_of_ble_eq_true rfl) rfl ⟨Nat.le_of_ble_eq_true rfl, Nat.le_of_ble_eq_true rfl⟩ (c_X8_isNoPart) (fun r9 w9 h9 => ?_)
    obtain ⟨h8, h9⟩ := h9
    subst h8
    have h9 := h9.symm
    subst h9
    rcases rgn_c 0 1 y with ⟨u, v1, v2, rfl, e3⟩ | ⟨hz, e3⟩
    · rw [e3]
      refine k_if_eqB 20 18 dX8_haste_15 rfl rfl (fun c9 => ?_) (fun c9 => absurd c9 (by simp))
      refine k_aload_n 21 dX8_haste_20 rfl rfl rfl ?_
      refine k_get 24 dX8_haste_21 rfl fX8_haste_19 (by (repeat (refine Is.ne ?_ (by omega))); first | assumption | exact Is.up (by omega)) (by rfl) ?_
      refine k_iload_n 25 dX8_haste_24 rfl rfl rfl ?_
      refine k_V1 (ci := 3) 28 dX8_haste_25 rfl vX8_haste_166 (by (repeat (refine Is.ne ?_ (by omega))); first | assumption | exact Is.up (by omega)) rfl rfl (Nat.le_of_ble_eq_true rfl) rfl ⟨Nat.le_of_ble_eq_true rfl, Nat.le_of_ble_eq_true rfl⟩ (c_X4_isQueued hM hL7 hQ7 (by omega)) (fun r9 w9 h9 => ?_)
      obtain ⟨h8, h9⟩ := h9
      subst h8
      have h9 := h9.symm
      subst h9
      cases e4 : plc (qM S) p with
      | none =>
        refine k_if_neB (b := false) 34 31 dX8_haste_28 rfl rfl (fun c9 => absurd c9 (by simp)) (fun c9 => ?_)
        have ea : a_haste S (nI p) (nI u) = (-2, S) := by
          unfold a_haste
          rw [e, e3]
          dsimp only
          rw [e4]
          rfl
        rw [ea]
        refine k_bipush (-2) 33 dX8_haste_31 rfl kbm_2 ?_
        refine k_iret dX8_haste_33 rfl rfl (Nat.le_of_ble_eq_true rfl) ⟨rfl, h, Eqx.rf⟩
      | some j =>
        refine k_if_neB (b := true) 34 31 dX8_haste_28 rfl rfl (fun c9 => ?_) (fun c9 => absurd c9 (by simp))
        refine k_aload_n 35 dX8_haste_34 rfl rfl rfl ?_
        refine k_get 38 dX8_haste_35 rfl fX8_haste_47 (by (repeat (refine Is.ne ?_ (by omega))); first | assumption | exact Is.up (by omega)) (by rfl) ?_
        refine k_iload_n 39 dX8_haste_38 rfl rfl rfl ?_
        refine k_V1 (ci := 2) 42 dX8_haste_39 rfl vX8_haste_207 (by (repeat (refine Is.ne ?_ (by omega))); first | assumption | exact Is.up (by omega)) rfl rfl (Nat.le_of_ble_eq_true rfl) rfl ⟨Nat.le_of_ble_eq_true rfl, Nat.le_of_ble_eq_true rfl⟩ (c_X2_seekHaste q0 hF (by omega) hM (by omega) qt_ o3 o1 rfl hp (by omega)) (fun r1 w1 x1 => ?_)
        obtain ⟨rfl, ⟨ch, va, b0, b1⟩, hT1, hE1⟩ := x1
        have hQ1 := hQ.fr hE1 (by omega)
        have hF1 := hF.fr hE1 (by omega)
        have hM1 := hM.fr hE1 (by omega)
        have hS1 := hS.fr hE1 (by omega)
        have hP1 := hP.fr hE1 (by omega)
        have hK1 := hK.fr hE1 (by omega)
        have hi1 := hi.fr hE1 (by omega)
        have hc1 := hc.fr hE1 (by omega)
        have hR : QsM G N w1 a S := ⟨hQ1, hF1, hM1, hS1, hP1, hK1, ⟨_, _, _, b0, hT1, qc.fr hE1 (by omega)⟩, hi1, hc1⟩
        cases e5 : hso (qF S) (qM S) p (oN (qF S)) with
        | none =>
          rw [e5] at b0
          have ea : a_haste S (nI p) (nI u) = (-4, S) := by
            unfold a_haste
            rw [e, e3]
            dsimp only
            rw [e4, if_pos (show (some j : Option Nat).isSome = true from rfl), e5]
          rw [ea]
          refine k_aload_n 43 dX8_haste_42 rfl rfl rfl ?_
          refine k_get 46 dX8_haste_43 rfl fX8_haste_47 (by (repeat (refine Is.ne ?_ (by omega))); first | assumption | exact Is.up (by omega)) (by rfl) ?_
          refine k_get 49 dX8_haste_46 rfl fX8_haste_197 (by (repeat (refine Is.ne ?_ (by omega))); first | assumption | exact Is.up (by omega)) (by rfl) ?_
          refine k_if_neB (b := false) 55 52 dX8_haste_49 rfl rfl (fun c9 => absurd c9 (by simp)) (fun c9 => ?_)
          refine k_bipush (-4) 54 dX8_haste_52 rfl kbm_4 ?_
          refine k_iret dX8_haste_54 rfl rfl (Nat.le_of_ble_eq_true rfl) ⟨rfl, hR, hE1.wd (by omega) (by omega)⟩
        | some kv =>
          obtain ⟨k, v⟩ := kv
          obtain ⟨rfl, rfl, -, -⟩ := b1 _ e5
          rw [e5] at b0
          refine k_aload_n 43 dX8_haste_42 rfl rfl rfl ?_
          refine k_get 46 dX8_haste_43 rfl fX8_haste_47 (by (repeat (refine Is.ne ?_ (by omega))); first | assumption | exact Is.up (by omega)) (by rfl) ?_
          refine k_get 49 dX8_haste_46 rfl fX8_haste_197 (by (repeat (refine Is.ne ?_ (by omega))); first | assumption | exact Is.up (by omega)) (by rfl) ?_
          refine k_if_neB (b := true) 55 52 dX8_haste_49 rfl rfl (fun c9 => ?_) (fun c9 => absurd c9 (by simp))
          refine k_iload_n 56 dX8_haste_55 rfl rfl rfl ?_
          refine k_if_neN 69 59 dX8_haste_56 rfl rfl (by omega) (fun c => ?_) (fun c => ?_)
          · have ea : a_haste S (nI p) (nI u) = (iZ v, S) := by
              unfold a_haste
              rw [e, e3]
              dsimp only
              rw [e4, if_pos (show (some j : Option Nat).isSome = true from rfl), e5]
              dsimp only
              rw [if_neg (by omega)]
            rw [ea]
            refine k_aload_n 70 dX8_haste_69 rfl rfl rfl ?_
            refine k_get 73 dX8_haste_70 rfl fX8_haste_47 (by (repeat (refine Is.ne ?_ (by omega))); first | assumption | exact Is.up (by omega)) (by rfl) ?_
            refine k_get 76 dX8_haste_73 rfl fX8_haste_204 (by (repeat (refine Is.ne ?_ (by omega))); first | assumption | exact Is.up (by omega)) (by rfl) ?_
            refine k_iret dX8_haste_76 rfl rfl (Nat.le_of_ble_eq_true rfl) ⟨rfl, hR, hE1.wd (by omega) (by omega)⟩
          · have ea : a_haste S (nI p) (nI u) = (nI k, S) := by
              unfold a_haste
              rw [e, e3]
              dsimp only
              rw [e4, if_pos (show (some j : Option Nat).isSome = true from rfl), e5]
              dsimp only
              rw [if_pos (by omega)]
            rw [ea]
            refine k_aload_n 60 dX8_haste_59 rfl rfl rfl ?_
            refine k_get 63 dX8_haste_60 rfl fX8_haste_47 (by (repeat (refine Is.ne ?_ (by omega))); first | assumption | exact Is.up (by omega)) (by rfl) ?_
            refine k_get 66 dX8_haste_63 rfl fX8_haste_201 (by (repeat (refine Is.ne ?_ (by omega))); first | assumption | exact Is.up (by omega)) (by rfl) ?_
            refine k_goto 76 dX8_haste_66 rfl ?_
            refine k_iret dX8_haste_76 rfl rfl (Nat.le_of_ble_eq_true rfl) ⟨rfl, hR, hE1.wd (by omega) (by omega)⟩
    · rw [e3]
      refine k_if_eqB 20 18 dX8_haste_15 rfl rfl (fun c9 => absurd c9 (by simp)) (fun c9 => ?_)
      exact bad (by unfold a_haste; rw [e, e3])
  · rw [e]
    refine k_if_eqB 18 11 dX8_haste_8 rfl rfl (fun c9 => ?_) (fun c9 => absurd c9 (by simp))
    exact bad (by unfold a_haste; rw [e])
theorem c_X8_clear {G : KG} {N : Nat} {w : WD} {a : Nat} {S : St} (h : QsM G N w a S) (hO : sOK S) : KCon G jX8_clear N w [rf G a] (QpO G N w a (a_clear S)) := by
  have h9 := h
  obtain ⟨hQ, hF, hM, hS, hP, hK, hf, hi, hc⟩ := h9
  obtain ⟨o1, o2, ⟨o3, o4⟩, -⟩ := hO
  obtain ⟨u1, u2, u3, q0, qt_, qc⟩ := id hf
  refine KCon.of ([some (rf G a)]) (by decide) rfl (by simp [Value.category]) (Nat.le_of_ble_eq_true rfl) rfl ?_
  refine k_aload_n 1 dX8_clear_0 rfl rfl rfl ?_
  refine k_get 4 dX8_clear_1 rfl fX8_clear_47 (by (repeat (refine Is.ne ?_ (by omega))); first | assumption | exact Is.up (by omega)) (by rfl) ?_
  refine k_V0 (ci := 2) 7 dX8_clear_4 rfl vX8_clear_210 (by (repeat (refine Is.ne ?_ (by omega))); first | assumption | exact Is.up (by omega)) rfl rfl (Nat.le_of_ble_eq_true rfl) rfl ⟨Nat.le_of_ble_eq_true rfl, Nat.le_of_ble_eq_true rfl⟩ (c_X2_fewestPayments q0 hF (by omega) hM (by omega) qc o3 rfl) (fun r1 w1 x1 => ?_)
  obtain ⟨rfl, hC1, hE1⟩ := x1
  have hQ1 := hQ.fr hE1 (by omega)
  have hF1 := hF.fr hE1 (by omega)
  have hM1 := hM.fr hE1 (by omega)
  have hS1 := hS.fr hE1 (by omega)
  have hP1 := hP.fr hE1 (by omega)
  have hK1 := hK.fr hE1 (by omega)
  have hi1 := hi.fr hE1 (by omega)
  have hc1 := hc.fr hE1 (by omega)
  refine k_iret dX8_clear_7 rfl rfl (Nat.le_of_ble_eq_true rfl) ⟨rfl, ⟨hQ1, hF1, hM1, hS1, hP1, hK1, ⟨_, _, _, q0.eqx hE1 (by omega), qt_.fr hE1 (by omega), hC1⟩, hi1, hc1⟩, hE1.wd (by omega) (by omega)⟩
theorem c_X8_miss {G : KG} {N : Nat} {w : WD} {a : Nat} {y : Int32} {S : St} (h : QsM G N w a S) (hO : sOK S) : KCon G jX8_miss N w [rf G a, .int y] (QpO G N w a (a_miss S y)) := by
  have h9 := h
  obtain ⟨hQ, hF, hM, hS, hP, hK, hf, hi, hc⟩ := h9
  obtain ⟨o1, o2, ⟨o3, o4⟩, -⟩ := hO
  obtain ⟨u1, u2, u3, q0, qt_, qc⟩ := id hf
  refine KCon.of ([some (rf G a), some (.int y)]) (by decide) rfl (by simp [Value.category]) (Nat.le_of_ble_eq_true rfl) rfl ?_
  refine k_iload_n 1 dX8_miss_0 rfl rfl rfl ?_
  refine k_S1 4 dX8_miss_1 rfl vX8_miss_184 (Nat.le_of_ble_eq_true rfl) rfl ⟨Nat.le_of_ble_eq_true rfl, Nat.le_of_ble_eq_true rfl⟩ (c_X8_isNoPart) (fun r9 w9 h9 => ?_)
  obtain ⟨h8, h9⟩ := h9
  subst h8
  have h9 := h9.symm
  subst h9
  rcases rgn_c 0 1 y with ⟨u, v1, v2, rfl, e3⟩ | ⟨hz, e3⟩
  · rw [e3]
    refine k_if_eqB 9 7 dX8_miss_4 rfl rfl (fun c9 => ?_) (fun c9 => absurd c9 (by simp))
    refine k_aload_n 10 dX8_miss_9 rfl rfl rfl ?_
    refine k_get 13 dX8_miss_10 rfl fX8_miss_47 (by (repeat (refine Is.ne ?_ (by omega))); first | assumption | exact Is.up (by omega)) (by rfl) ?_
    refine k_V0 (ci := 2) 16 dX8_miss_13 rfl vX8_miss_213 (by (repeat (refine Is.ne ?_ (by omega))); first | assumption | exact Is.up (by omega)) rfl rfl (Nat.le_of_ble_eq_true rfl) rfl ⟨Nat.le_of_ble_eq_true rfl, Nat.le_of_ble_eq_true rfl⟩ (c_X2_seekMiss q0 hF (by omega) hM (by omega) qt_ o3 o1 rfl (by omega)) (fun r1 w1 x1 => ?_)
    obtain ⟨rfl, ⟨ch, va, b0, b1⟩, hT1, hE1⟩ := x1
    have hQ1 := hQ.fr hE1 (by omega)
    have hF1 := hF.fr hE1 (by omega)
    have hM1 := hM.fr hE1 (by omega)
    have hS1 := hS.fr hE1 (by omega)
    have hP1 := hP.fr hE1 (by omega)
    have hK1 := hK.fr hE1 (by omega)
    have hi1 := hi.fr hE1 (by omega)
    have hc1 := hc.fr hE1 (by omega)
    have hR : QsM G N w1 a S := ⟨hQ1, hF1, hM1, hS1, hP1, hK1, ⟨_, _, _, b0, hT1, qc.fr hE1 (by omega)⟩, hi1, hc1⟩
    cases e5 : msd (qF S) (qM S) (oN (qF S)) with
    | none =>
      rw [e5] at b0
      have ea : a_miss S (nI u) = (-4, S) := by
        unfold a_miss
        rw [e3]
        dsimp only
        rw [e5]
      rw [ea]
      refine k_aload_n 17 dX8_miss_16 rfl rfl rfl ?_
      refine k_get 20 dX8_miss_17 rfl fX8_miss_47 (by (repeat (refine Is.ne ?_ (by omega))); first | assumption | exact Is.up (by omega)) (by rfl) ?_
      refine k_get 23 dX8_miss_20 rfl fX8_miss_197 (by (repeat (refine Is.ne ?_ (by omega))); first | assumption | exact Is.up (by omega)) (by rfl) ?_
      refine k_if_neB (b := false) 29 26 dX8_miss_23 rfl rfl (fun c9 => absurd c9 (by simp)) (fun c9 => ?_)
      refine k_bipush (-4) 28 dX8_miss_26 rfl kbm_4 ?_
      refine k_iret dX8_miss_28 rfl rfl (Nat.le_of_ble_eq_true rfl) ⟨rfl, hR, hE1.wd (by omega) (by omega)⟩
    | some kv =>
      obtain ⟨k, v⟩ := kv
      obtain ⟨rfl, rfl, -, -⟩ := b1 _ e5
      rw [e5] at b0
      refine k_aload_n 17 dX8_miss_16 rfl rfl rfl ?_
      refine k_get 20 dX8_miss_17 rfl fX8_miss_47 (by (repeat (refine Is.ne ?_ (by omega))); first | assumption | exact Is.up (by omega)) (by rfl) ?_
      refine k_get 23 dX8_miss_20 rfl fX8_miss_197 (by (repeat (refine Is.ne ?_ (by omega))); first | assumption | exact Is.up (by omega)) (by rfl) ?_
      refine k_if_neB (b := true) 29 26 dX8_miss_23 rfl rfl (fun c9 => ?_) (fun c9 => absurd c9 (by simp))
      refine k_iload_n 30 dX8_miss_29 rfl rfl rfl ?_
      refine k_if_neN 43 33 dX8_miss_30 rfl rfl (by omega) (fun c => ?_) (fun c => ?_)
      · have ea : a_miss S (nI u) = (iZ (200000 + v), S) := by
          unfold a_miss
          rw [e3]
          dsimp only
          rw [e5]
          dsimp only
          rw [if_neg (by omega)]
        rw [ea]
        refine k_ldc ((iZ 200000)) 45 dX8_miss_43 rfl (by decide +kernel) ?_
        refine k_aload_n 46 dX8_miss_45 rfl rfl rfl ?_
        refine k_get 49 dX8_miss_46 rfl fX8_miss_47 (by (repeat (refine Is.ne ?_ (by omega))); first | assumption | exact Is.up (by omega)) (by rfl) ?_
        refine k_get 52 dX8_miss_49 rfl fX8_miss_204 (by (repeat (refine Is.ne ?_ (by omega))); first | assumption | exact Is.up (by omega)) (by rfl) ?_
        refine k_iaddE _ 53 dX8_miss_52 rfl (iZ_add _ _) ?_
        refine k_iret dX8_miss_53 rfl rfl (Nat.le_of_ble_eq_true rfl) ⟨rfl, hR, hE1.wd (by omega) (by omega)⟩
      · have ea : a_miss S (nI u) = (nI k, S) := by
          unfold a_miss
          rw [e3]
          dsimp only
          rw [e5]
          dsimp only
          rw [if_pos (by omega)]
        rw [ea]
        refine k_aload_n 34 dX8_miss_33 rfl rfl rfl ?_
        refine k_get 37 dX8_miss_34 rfl fX8_miss_47 (by (repeat (refine Is.ne ?_ (by omega))); first | assumption | exact Is.up (by omega)) (by rfl) ?_
        refine k_get 40 dX8_miss_37 rfl fX8_miss_201 (by (repeat (refine Is.ne ?_ (by omega))); first | assumption | exact Is.up (by omega)) (by rfl) ?_
        refine k_goto 53 dX8_miss_40 rfl ?_
        refine k_iret dX8_miss_53 rfl rfl (Nat.le_of_ble_eq_true rfl) ⟨rfl, hR, hE1.wd (by omega) (by omega)⟩
  · rw [e3]
    refine k_if_eqB 9 7 dX8_miss_4 rfl rfl (fun c9 => absurd c9 (by simp)) (fun c9 => ?_)
    have ea : a_miss S y = (-1, S) := by
      unfold a_miss
      rw [e3]
    rw [ea]
    refine k_iconst (-1) 8 dX8_miss_7 rfl km_1 ?_
    refine k_iret dX8_miss_8 rfl rfl (Nat.le_of_ble_eq_true rfl) ⟨rfl, h, Eqx.rf⟩
