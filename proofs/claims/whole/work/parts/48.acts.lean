/-! public methods: acts -/
theorem Qs_setN {G : KG} {N a : Nat} {w w1 w2 : WD} {S : St} {M1 : Mo} (h : QsM G N w a S) (hP1 : ShM G N w1 (a + 22) 8 (oN (qF S)) (pshM 8 (qP S) (qM S))) (hE1 : Eqx w w1 (a + 22) (a + 22 + 2 + 5 * 8)) (hM2 : ScM G N w2 (a + 5) (oN (qF S)) M1) (hE2 : Eqx w1 w2 (a + 5) (a + 5 + 5)) : QsM G N w2 a (setN S M1) ∧ Eqx w w2 a (a + 104) := by
  obtain ⟨hQ, hF, hM, hS, hP, hK, hf, hi, hc⟩ := h
  have hQ1 := hQ.fr hE1 (by omega)
  have hF1 := hF.fr hE1 (by omega)
  have hS1 := hS.fr hE1 (by omega)
  have hK1 := hK.fr hE1 (by omega)
  have hf1 := hf.fr hE1 (by omega)
  have hi1 := hi.fr hE1 (by omega)
  have hc1 := hc.fr hE1 (by omega)
  have hQ2 := hQ1.fr hE2 (by omega)
  have hF2 := hF1.fr hE2 (by omega)
  have hS2 := hS1.fr hE2 (by omega)
  have hP2 := hP1.fr hE2 (by omega)
  have hK2 := hK1.fr hE2 (by omega)
  have hf2 := hf1.fr hE2 (by omega)
  have hi2 := hi1.fr hE2 (by omega)
  have hc2 := hc1.fr hE2 (by omega)
  exact ⟨⟨hQ2, hF2, hM2, hS2, hP2, hK2, hf2, hi2, hc2⟩, (hE1.wd (by omega) (by omega)).tr (hE2.wd (by omega) (by omega))⟩
theorem c_X8_pass {G : KG} {N : Nat} {w : WD} {a : Nat} {x : Int32} {S : St} (h : QsM G N w a S) (hO : sOK S) : KCon G jX8_pass N w [rf G a, .int x] (QpO G N w a (a_pass S x)) := by
  have h9 := h
  obtain ⟨hQ, hF, hM, hS, hP, hK, hf, hi, hc⟩ := h9
  obtain ⟨o1, o2, ⟨o3, o4⟩, -⟩ := hO
  have hn7 := o1.1
  have hL7 := ok_l7 o3
  have f0 := hF.ob
  have s0 := hM.ob
  have p0 := hP.ob
  have k0 := hK.ob
  refine KCon.of ([some (rf G a), some (.int x)]) (by decide) rfl (by simp [Value.category]) (Nat.le_of_ble_eq_true rfl) rfl ?_
  rcases rgn_c 1 24 x with ⟨k, k1, k2, rfl, e⟩ | ⟨hx, e⟩
  · refine k_iload_n 1 dX8_pass_0 rfl rfl rfl ?_
    refine k_iconst (nI 1) 2 dX8_pass_1 rfl kc_1 ?_
    refine k_icmp_ltN 11 5 dX8_pass_2 rfl rfl (by omega) (by omega) (fun c => ?_) (fun c => ?_)
    · omega
    refine k_iload_n 6 dX8_pass_5 rfl rfl rfl ?_
    refine k_bipush (nI 24) 8 dX8_pass_6 rfl kb_24 ?_
    refine k_icmp_leN 13 11 dX8_pass_8 rfl rfl (by omega) (by omega) (fun c => ?_) (fun c => ?_)
    rotate_left
    · omega
    refine k_aload_n 14 dX8_pass_13 rfl rfl rfl ?_
    refine k_get 17 dX8_pass_14 rfl fX8_pass_19 (by (repeat (refine Is.ne ?_ (by omega))); first | assumption | exact Is.up (by omega)) (by rfl) ?_
    refine k_get 20 dX8_pass_17 rfl fX8_pass_148 (by (repeat (refine Is.ne ?_ (by omega))); first | assumption | exact Is.up (by omega)) (by rfl) ?_
    refine k_iload_n 21 dX8_pass_20 rfl rfl rfl ?_
    first | refine k_iaddE _ 22 dX8_pass_21 rfl (nI_add _ _) ?_ | refine k_iadd 22 dX8_pass_21 rfl ?_
    refine k_sipush (nI 999) 25 dX8_pass_22 rfl ks_999 ?_
    refine k_icmp_leN 31 28 dX8_pass_25 rfl rfl (by omega) (by omega) (fun c => ?_) (fun c => ?_)
    rotate_left
    · have ea : a_pass S (nI k) = (-2, S) := by
        unfold a_pass
        rw [e]
        dsimp only
        rw [if_pos (by omega)]
      rw [ea]
      refine k_bipush (-2) 30 dX8_pass_28 rfl kbm_2 ?_
      refine k_iret dX8_pass_30 rfl rfl (Nat.le_of_ble_eq_true rfl) ⟨rfl, h, Eqx.rf⟩
    · have ea : a_pass S (nI k) = (nI (mG (qM S) + k), setN S (mns (qF S) (qM S) k)) := by
        unfold a_pass
        rw [e]
        dsimp only
        rw [if_neg (by omega)]
      rw [ea]
      obtain ⟨-, hg⟩ := ok_mns (i := k) o3 o1 rfl (by omega)
      refine k_aload_n 32 dX8_pass_31 rfl rfl rfl ?_
      refine k_get 35 dX8_pass_32 rfl fX8_pass_35 (by (repeat (refine Is.ne ?_ (by omega))); first | assumption | exact Is.up (by omega)) (by rfl) ?_
      refine k_aload_n 36 dX8_pass_35 rfl rfl rfl ?_
      refine k_get 39 dX8_pass_36 rfl fX8_pass_19 (by (repeat (refine Is.ne ?_ (by omega))); first | assumption | exact Is.up (by omega)) (by rfl) ?_
      refine k_V1 (ci := 5) 42 dX8_pass_39 rfl vX8_pass_151 (by (repeat (refine Is.ne ?_ (by omega))); first | assumption | exact Is.up (by omega)) rfl rfl (Nat.le_of_ble_eq_true rfl) rfl ⟨Nat.le_of_ble_eq_true rfl, Nat.le_of_ble_eq_true rfl⟩ (c_X6_push hP hM (by omega) (by omega) (by omega) hn7 hL7) (fun r1 w1 x1 => ?_)
      obtain ⟨rfl, hP1, hE1⟩ := x1
      have hQ1 := hQ.fr hE1 (by omega)
      have hF1 := hF.fr hE1 (by omega)
      have hM1 := hM.fr hE1 (by omega)
      have hS1 := hS.fr hE1 (by omega)
      have hK1 := hK.fr hE1 (by omega)
      have hf1 := hf.fr hE1 (by omega)
      have hi1 := hi.fr hE1 (by omega)
      have hc1 := hc.fr hE1 (by omega)
      have f01 := hF1.ob
      have s01 := hM1.ob
      have p01 := hP1.ob
      have k01 := hK1.ob
      refine k_aload_n 43 dX8_pass_42 rfl rfl rfl ?_
      refine k_get 46 dX8_pass_43 rfl fX8_pass_19 (by (repeat (refine Is.ne ?_ (by omega))); first | assumption | exact Is.up (by omega)) (by rfl) ?_
      refine k_aload_n 47 dX8_pass_46 rfl rfl rfl ?_
      refine k_get 50 dX8_pass_47 rfl fX8_pass_10 (by (repeat (refine Is.ne ?_ (by omega))); first | assumption | exact Is.up (by omega)) (by rfl) ?_
      refine k_iload_n 51 dX8_pass_50 rfl rfl rfl ?_
      refine k_V2 (ci := 3) 54 dX8_pass_51 rfl vX8_pass_155 (by (repeat (refine Is.ne ?_ (by omega))); first | assumption | exact Is.up (by omega)) rfl rfl (Nat.le_of_ble_eq_true rfl) rfl ⟨Nat.le_of_ble_eq_true rfl, Nat.le_of_ble_eq_true rfl⟩ (c_X4_run hM1 hF1 (by omega) o3 o1 rfl (by omega)) (fun r2 w2 x2 => ?_)
      obtain ⟨rfl, hM2, hE2⟩ := x2
      obtain ⟨hR, hE⟩ := Qs_setN h hP1 hE1 hM2 hE2
      have s2 := hM2.ob
      rw [hg] at s2
      have hQ2 := hR.1
      refine k_aload_n 55 dX8_pass_54 rfl rfl rfl ?_
      refine k_get 58 dX8_pass_55 rfl fX8_pass_19 (by (repeat (refine Is.ne ?_ (by omega))); first | assumption | exact Is.up (by omega)) (by rfl) ?_
      refine k_get 61 dX8_pass_58 rfl fX8_pass_148 (by (repeat (refine Is.ne ?_ (by omega))); first | assumption | exact Is.up (by omega)) (by rfl) ?_
      refine k_iret dX8_pass_61 rfl rfl (Nat.le_of_ble_eq_true rfl) ⟨rfl, hR, hE⟩
  · have ea : a_pass S x = (-1, S) := by
      unfold a_pass
      rw [e]
    rw [ea]
    have bad : KRun G jX8_pass N (QpO G N w a (-1, S)) 11 [some (rf G a), some (.int x)] [] 0 0 w := by
      refine k_iconst (-1) 12 dX8_pass_11 rfl km_1 ?_
      refine k_iret dX8_pass_12 rfl rfl (Nat.le_of_ble_eq_true rfl) ⟨rfl, h, Eqx.rf⟩
    refine k_iload_n 1 dX8_pass_0 rfl rfl rfl ?_
    refine k_iconst (nI 1) 2 dX8_pass_1 rfl kc_1 ?_
    refine k_icmp_lt 11 5 dX8_pass_2 rfl rfl (fun c => ?_) (fun c => ?_)
    · exact bad
    · have c1 : ¬ x.toInt < 1 := fun z => c ((ltI (k := 1) (by omega)).mpr z)
      refine k_iload_n 6 dX8_pass_5 rfl rfl rfl ?_
      refine k_bipush (nI 24) 8 dX8_pass_6 rfl kb_24 ?_
      refine k_icmp_le 13 11 dX8_pass_8 rfl rfl (fun c => ?_) (fun c => ?_)
      · have c2 := (leI (x := x) (k := 24) (by omega)).mp c
        omega
      · exact bad
theorem c_X8_let {G : KG} {N : Nat} {w : WD} {a : Nat} {x y : Int32} {S : St} (h : QsM G N w a S) (hO : sOK S) : KCon G jX8_let N w [rf G a, .int x, .int y] (QpO G N w a (a_let S x y)) := by
  have h9 := h
  obtain ⟨hQ, hF, hM, hS, hP, hK, hf, hi, hc⟩ := h9
  obtain ⟨o1, o2, ⟨o3, o4⟩, -⟩ := hO
  have hn7 := o1.1
  have hL7 := ok_l7 o3
  have hQ7 := ok_q7 o3
  have f0 := hF.ob
  have s0 := hM.ob
  have p0 := hP.ob
  have k0 := hK.ob
  refine KCon.of ([some (rf G a), some (.int x), some (.int y)]) (by decide) rfl (by simp [Value.category]) (Nat.le_of_ble_eq_true rfl) rfl ?_
  refine k_aload_n 1 dX8_let_0 rfl rfl rfl ?_
  refine k_iload_n 2 dX8_let_1 rfl rfl rfl ?_
  refine k_iload_n 3 dX8_let_2 rfl rfl rfl ?_
  refine k_V2 (ci := 7) 6 dX8_let_3 rfl vX8_let_129 (by (repeat (refine Is.ne ?_ (by omega))); first | assumption | exact Is.up (by omega)) rfl rfl (Nat.le_of_ble_eq_true rfl) rfl ⟨Nat.le_of_ble_eq_true rfl, Nat.le_of_ble_eq_true rfl⟩ (c_X8_areTwo h hn7) (fun r9 w9 h9 => ?_)
  obtain ⟨h8, h9⟩ := h9
  subst h8
  have h9 := h9.symm
  subst h9
  rcases two_c hn7 x y with ⟨p, q, hp, hq, hpq, rfl, rfl, e⟩ | e
  · rw [e]
    refine k_if_neB 11 9 dX8_let_6 rfl rfl (fun c9 => ?_) (fun c9 => absurd c9 (by simp))
    refine k_aload_n 12 dX8_let_11 rfl rfl rfl ?_
    refine k_get 15 dX8_let_12 rfl fX8_let_19 (by (repeat (refine Is.ne ?_ (by omega))); first | assumption | exact Is.up (by omega)) (by rfl) ?_
    refine k_iload_n 16 dX8_let_15 rfl rfl rfl ?_
    refine k_iload_n 17 dX8_let_16 rfl rfl rfl ?_
    refine k_V2 (ci := 3) 20 dX8_let_17 rfl vX8_let_159 (by (repeat (refine Is.ne ?_ (by omega))); first | assumption | exact Is.up (by omega)) rfl rfl (Nat.le_of_ble_eq_true rfl) rfl ⟨Nat.le_of_ble_eq_true rfl, Nat.le_of_ble_eq_true rfl⟩ (c_X4_canLet hM hL7 hQ7 (by omega) (by omega)) (fun r9 w9 h9 => ?_)
    obtain ⟨h8, h9⟩ := h9
    subst h8
    have h9 := h9.symm
    subst h9
    refine k_if_neB 26 23 dX8_let_20 rfl rfl (fun c9 => ?_) (fun c9 => ?_)
    · have ea : a_let S (nI p) (nI q) = (pI (plc (letp (qM S) p q) q), setN S (letp (qM S) p q)) := by
        unfold a_let
        rw [e]
        dsimp only
        rw [if_pos c9]
      rw [ea]
      have ol := ok_letp o3 c9
      refine k_aload_n 27 dX8_let_26 rfl rfl rfl ?_
      refine k_get 30 dX8_let_27 rfl fX8_let_35 (by (repeat (refine Is.ne ?_ (by omega))); first | assumption | exact Is.up (by omega)) (by rfl) ?_
      refine k_aload_n 31 dX8_let_30 rfl rfl rfl ?_
      refine k_get 34 dX8_let_31 rfl fX8_let_19 (by (repeat (refine Is.ne ?_ (by omega))); first | assumption | exact Is.up (by omega)) (by rfl) ?_
      refine k_V1 (ci := 5) 37 dX8_let_34 rfl vX8_let_151 (by (repeat (refine Is.ne ?_ (by omega))); first | assumption | exact Is.up (by omega)) rfl rfl (Nat.le_of_ble_eq_true rfl) rfl ⟨Nat.le_of_ble_eq_true rfl, Nat.le_of_ble_eq_true rfl⟩ (c_X6_push hP hM (by omega) (by omega) (by omega) hn7 hL7) (fun r1 w1 x1 => ?_)
      obtain ⟨rfl, hP1, hE1⟩ := x1
      have hQ1 := hQ.fr hE1 (by omega)
      have hF1 := hF.fr hE1 (by omega)
      have hM1 := hM.fr hE1 (by omega)
      have hS1 := hS.fr hE1 (by omega)
      have hK1 := hK.fr hE1 (by omega)
      have hf1 := hf.fr hE1 (by omega)
      have hi1 := hi.fr hE1 (by omega)
      have hc1 := hc.fr hE1 (by omega)
      have f01 := hF1.ob
      have s01 := hM1.ob
      have p01 := hP1.ob
      have k01 := hK1.ob
      refine k_aload_n 38 dX8_let_37 rfl rfl rfl ?_
      refine k_get 41 dX8_let_38 rfl fX8_let_19 (by (repeat (refine Is.ne ?_ (by omega))); first | assumption | exact Is.up (by omega)) (by rfl) ?_
      refine k_iload_n 42 dX8_let_41 rfl rfl rfl ?_
      refine k_iload_n 43 dX8_let_42 rfl rfl rfl ?_
      refine k_V2 (ci := 3) 46 dX8_let_43 rfl vX8_let_162 (by (repeat (refine Is.ne ?_ (by omega))); first | assumption | exact Is.up (by omega)) rfl rfl (Nat.le_of_ble_eq_true rfl) rfl ⟨Nat.le_of_ble_eq_true rfl, Nat.le_of_ble_eq_true rfl⟩ (c_X4_letPast hM1 o3 c9) (fun r2 w2 x2 => ?_)
      obtain ⟨rfl, hM2, hE2⟩ := x2
      obtain ⟨hR, hE⟩ := Qs_setN h hP1 hE1 hM2 hE2
      have s2 := hM2.ob
      have hQ2 := hR.1
      refine k_aload_n 47 dX8_let_46 rfl rfl rfl ?_
      refine k_get 50 dX8_let_47 rfl fX8_let_19 (by (repeat (refine Is.ne ?_ (by omega))); first | assumption | exact Is.up (by omega)) (by rfl) ?_
      refine k_iload_n 51 dX8_let_50 rfl rfl rfl ?_
      refine k_V1 (ci := 3) 54 dX8_let_51 rfl vX8_let_118 (by (repeat (refine Is.ne ?_ (by omega))); first | assumption | exact Is.up (by omega)) rfl rfl (Nat.le_of_ble_eq_true rfl) rfl ⟨Nat.le_of_ble_eq_true rfl, Nat.le_of_ble_eq_true rfl⟩ (c_X4_placeOf hM2 (ok_l7 ol) (ok_q7 ol) (by omega)) (fun r9 w9 h9 => ?_)
      obtain ⟨h8, h9⟩ := h9
      subst h8
      have h9 := h9.symm
      subst h9
      refine k_iret dX8_let_54 rfl rfl (Nat.le_of_ble_eq_true rfl) ⟨rfl, hR, hE⟩
    · have ea : a_let S (nI p) (nI q) = (-2, S) := by
        unfold a_let
        rw [e]
        dsimp only
        rw [c9]
        rfl
      rw [ea]
      refine k_bipush (-2) 25 dX8_let_23 rfl kbm_2 ?_
      refine k_iret dX8_let_25 rfl rfl (Nat.le_of_ble_eq_true rfl) ⟨rfl, h, Eqx.rf⟩
  · have ea : a_let S x y = (-1, S) := by
      unfold a_let
      rw [e]
    rw [ea, e]
    refine k_if_neB 11 9 dX8_let_6 rfl rfl (fun c9 => absurd c9 (by simp)) (fun c9 => ?_)
    refine k_iconst (-1) 10 dX8_let_9 rfl km_1 ?_
    refine k_iret dX8_let_10 rfl rfl (Nat.le_of_ble_eq_true rfl) ⟨rfl, h, Eqx.rf⟩
theorem c_X8_leave {G : KG} {N : Nat} {w : WD} {a : Nat} {x : Int32} {S : St} (h : QsM G N w a S) (hO : sOK S) : KCon G jX8_leave N w [rf G a, .int x] (QpO G N w a (a_leave S x)) := by
  have h9 := h
  obtain ⟨hQ, hF, hM, hS, hP, hK, hf, hi, hc⟩ := h9
  obtain ⟨o1, o2, ⟨o3, o4⟩, -⟩ := hO
  have hn7 := o1.1
  have hL7 := ok_l7 o3
  have hQ7 := ok_q7 o3
  have f0 := hF.ob
  have s0 := hM.ob
  have p0 := hP.ob
  have k0 := hK.ob
  refine KCon.of ([some (rf G a), some (.int x)]) (by decide) rfl (by simp [Value.category]) (Nat.le_of_ble_eq_true rfl) rfl ?_
  refine k_aload_n 1 dX8_leave_0 rfl rfl rfl ?_
  refine k_get 4 dX8_leave_1 rfl fX8_leave_10 (by (repeat (refine Is.ne ?_ (by omega))); first | assumption | exact Is.up (by omega)) (by rfl) ?_
  refine k_iload_n 5 dX8_leave_4 rfl rfl rfl ?_
  refine k_V1 (ci := 1) 8 dX8_leave_5 rfl vX8_leave_95 (by (repeat (refine Is.ne ?_ (by omega))); first | assumption | exact Is.up (by omega)) rfl rfl (Nat.le_of_ble_eq_true rfl) rfl ⟨Nat.le_of_ble_eq_true rfl, Nat.le_of_ble_eq_true rfl⟩ (c_prs hF hn7) (fun r9 w9 h9 => ?_)
  obtain ⟨h8, h9⟩ := h9
  subst h8
  have h9 := h9.symm
  subst h9
  rcases prs_c hn7 x with ⟨p, hp, rfl, e⟩ | ⟨hno, e⟩
  · rw [e]
    refine k_if_neB 13 11 dX8_leave_8 rfl rfl (fun c9 => ?_) (fun c9 => absurd c9 (by simp))
    refine k_aload_n 14 dX8_leave_13 rfl rfl rfl ?_
    refine k_get 17 dX8_leave_14 rfl fX8_leave_19 (by (repeat (refine Is.ne ?_ (by omega))); first | assumption | exact Is.up (by omega)) (by rfl) ?_
    refine k_iload_n 18 dX8_leave_17 rfl rfl rfl ?_
    refine k_V1 (ci := 3) 21 dX8_leave_18 rfl vX8_leave_166 (by (repeat (refine Is.ne ?_ (by omega))); first | assumption | exact Is.up (by omega)) rfl rfl (Nat.le_of_ble_eq_true rfl) rfl ⟨Nat.le_of_ble_eq_true rfl, Nat.le_of_ble_eq_true rfl⟩ (c_X4_isQueued hM hL7 hQ7 (by omega)) (fun r9 w9 h9 => ?_)
    obtain ⟨h8, h9⟩ := h9
    subst h8
    have h9 := h9.symm
    subst h9
    cases e2 : plc (qM S) p with
    | none =>
      refine k_if_neB (b := false) 27 24 dX8_leave_21 rfl rfl (fun c9 => absurd c9 (by simp)) (fun c9 => ?_)
      have ea : a_leave S (nI p) = (-2, S) := by
        unfold a_leave
        rw [e]
        dsimp only
        rw [e2]
      rw [ea]
      refine k_bipush (-2) 26 dX8_leave_24 rfl kbm_2 ?_
      refine k_iret dX8_leave_26 rfl rfl (Nat.le_of_ble_eq_true rfl) ⟨rfl, h, Eqx.rf⟩
    | some k =>
      refine k_if_neB (b := true) 27 24 dX8_leave_21 rfl rfl (fun c9 => ?_) (fun c9 => absurd c9 (by simp))
      have ea : a_leave S (nI p) = (nI (mL (rem (qM S) k 2)), setN S (rem (qM S) k 2)) := by
        unfold a_leave
        rw [e]
        dsimp only
        rw [e2]
      rw [ea]
      obtain ⟨hk, hkq⟩ := plc_some e2
      refine k_aload_n 28 dX8_leave_27 rfl rfl rfl ?_
      refine k_get 31 dX8_leave_28 rfl fX8_leave_35 (by (repeat (refine Is.ne ?_ (by omega))); first | assumption | exact Is.up (by omega)) (by rfl) ?_
      refine k_aload_n 32 dX8_leave_31 rfl rfl rfl ?_
      refine k_get 35 dX8_leave_32 rfl fX8_leave_19 (by (repeat (refine Is.ne ?_ (by omega))); first | assumption | exact Is.up (by omega)) (by rfl) ?_
      refine k_V1 (ci := 5) 38 dX8_leave_35 rfl vX8_leave_151 (by (repeat (refine Is.ne ?_ (by omega))); first | assumption | exact Is.up (by omega)) rfl rfl (Nat.le_of_ble_eq_true rfl) rfl ⟨Nat.le_of_ble_eq_true rfl, Nat.le_of_ble_eq_true rfl⟩ (c_X6_push hP hM (by omega) (by omega) (by omega) hn7 hL7) (fun r1 w1 x1 => ?_)
      obtain ⟨rfl, hP1, hE1⟩ := x1
      have hQ1 := hQ.fr hE1 (by omega)
      have hF1 := hF.fr hE1 (by omega)
      have hM1 := hM.fr hE1 (by omega)
      have hS1 := hS.fr hE1 (by omega)
      have hK1 := hK.fr hE1 (by omega)
      have hf1 := hf.fr hE1 (by omega)
      have hi1 := hi.fr hE1 (by omega)
      have hc1 := hc.fr hE1 (by omega)
      have f01 := hF1.ob
      have s01 := hM1.ob
      have p01 := hP1.ob
      have k01 := hK1.ob
      refine k_aload_n 39 dX8_leave_38 rfl rfl rfl ?_
      refine k_get 42 dX8_leave_39 rfl fX8_leave_19 (by (repeat (refine Is.ne ?_ (by omega))); first | assumption | exact Is.up (by omega)) (by rfl) ?_
      refine k_iload_n 43 dX8_leave_42 rfl rfl rfl ?_
      refine k_iconst (nI 2) 44 dX8_leave_43 rfl kc_2 ?_
      refine k_V2 (ci := 3) 47 dX8_leave_44 rfl vX8_leave_169 (by (repeat (refine Is.ne ?_ (by omega))); first | assumption | exact Is.up (by omega)) rfl rfl (Nat.le_of_ble_eq_true rfl) rfl ⟨Nat.le_of_ble_eq_true rfl, Nat.le_of_ble_eq_true rfl⟩ (c_X4_takeOut (st := 2) hM1 o3 hk hkq) (fun r2 w2 x2 => ?_)
      obtain ⟨rfl, hM2, hE2⟩ := x2
      obtain ⟨hR, hE⟩ := Qs_setN h hP1 hE1 hM2 hE2
      have s2 := hM2.ob
      have hQ2 := hR.1
      refine k_aload_n 48 dX8_leave_47 rfl rfl rfl ?_
      refine k_get 51 dX8_leave_48 rfl fX8_leave_19 (by (repeat (refine Is.ne ?_ (by omega))); first | assumption | exact Is.up (by omega)) (by rfl) ?_
      refine k_get 54 dX8_leave_51 rfl fX8_leave_137 (by (repeat (refine Is.ne ?_ (by omega))); first | assumption | exact Is.up (by omega)) (by rfl) ?_
      refine k_iret dX8_leave_54 rfl rfl (Nat.le_of_ble_eq_true rfl) ⟨rfl, hR, hE⟩
  · rw [e]
    have ea : a_leave S x = (-1, S) := by
      unfold a_leave
      rw [e]
    rw [ea]
    refine k_if_neB 13 11 dX8_leave_8 rfl rfl (fun c9 => absurd c9 (by simp)) (fun c9 => ?_)
    refine k_iconst (-1) 12 dX8_leave_11 rfl km_1 ?_
    refine k_iret dX8_leave_12 rfl rfl (Nat.le_of_ble_eq_true rfl) ⟨rfl, h, Eqx.rf⟩
theorem c_X8_come {G : KG} {N : Nat} {w : WD} {a : Nat} {x : Int32} {S : St} (h : QsM G N w a S) (hO : sOK S) : KCon G jX8_come N w [rf G a, .int x] (QpO G N w a (a_come S x)) := by
  have h9 := h
  obtain ⟨hQ, hF, hM, hS, hP, hK, hf, hi, hc⟩ := h9
  obtain ⟨o1, o2, ⟨o3, o4⟩, -⟩ := hO
  have hn7 := o1.1
  have hL7 := ok_l7 o3
  have hQ7 := ok_q7 o3
  have f0 := hF.ob
  have s0 := hM.ob
  have p0 := hP.ob
  have k0 := hK.ob
  refine KCon.of ([some (rf G a), some (.int x)]) (by decide) rfl (by simp [Value.category]) (Nat.le_of_ble_eq_true rfl) rfl ?_
  refine k_aload_n 1 dX8_come_0 rfl rfl rfl ?_
  refine k_get 4 dX8_come_1 rfl fX8_come_10 (by (repeat (refine Is.ne ?_ (by omega))); first | assumption | exact Is.up (by omega)) (by rfl) ?_
  refine k_iload_n 5 dX8_come_4 rfl rfl rfl ?_
  refine k_V1 (ci := 1) 8 dX8_come_5 rfl vX8_come_95 (by (repeat (refine Is.ne ?_ (by omega))); first | assumption | exact Is.up (by omega)) rfl rfl (Nat.le_of_ble_eq_true rfl) rfl ⟨Nat.le_of_ble_eq_true rfl, Nat.le_of_ble_eq_true rfl⟩ (c_prs hF hn7) (fun r9 w9 h9 => ?_)
  obtain ⟨h8, h9⟩ := h9
  subst h8
  have h9 := h9.symm
  subst h9
  rcases prs_c hn7 x with ⟨p, hp, rfl, e⟩ | ⟨hno, e⟩
  · rw [e]
    refine k_if_neB 13 11 dX8_come_8 rfl rfl (fun c9 => ?_) (fun c9 => absurd c9 (by simp))
    refine k_aload_n 14 dX8_come_13 rfl rfl rfl ?_
    refine k_get 17 dX8_come_14 rfl fX8_come_19 (by (repeat (refine Is.ne ?_ (by omega))); first | assumption | exact Is.up (by omega)) (by rfl) ?_
    refine k_iload_n 18 dX8_come_17 rfl rfl rfl ?_
    refine k_V1 (ci := 3) 21 dX8_come_18 rfl vX8_come_166 (by (repeat (refine Is.ne ?_ (by omega))); first | assumption | exact Is.up (by omega)) rfl rfl (Nat.le_of_ble_eq_true rfl) rfl ⟨Nat.le_of_ble_eq_true rfl, Nat.le_of_ble_eq_true rfl⟩ (c_X4_isQueued hM hL7 hQ7 (by omega)) (fun r9 w9 h9 => ?_)
    obtain ⟨h8, h9⟩ := h9
    subst h8
    have h9 := h9.symm
    subst h9
    cases e2 : plc (qM S) p with
    | some k =>
      refine k_if_eqB (b := true) 27 24 dX8_come_21 rfl rfl (fun c9 => absurd c9 (by simp)) (fun c9 => ?_)
      have ea : a_come S (nI p) = (-2, S) := by
        unfold a_come
        rw [e]
        dsimp only
        rw [e2]
      rw [ea]
      refine k_bipush (-2) 26 dX8_come_24 rfl kbm_2 ?_
      refine k_iret dX8_come_26 rfl rfl (Nat.le_of_ble_eq_true rfl) ⟨rfl, h, Eqx.rf⟩
    | none =>
      refine k_if_eqB (b := false) 27 24 dX8_come_21 rfl rfl (fun c9 => ?_) (fun c9 => absurd c9 (by simp))
      have ea : a_come S (nI p) = (pI (plc (ins (qM S) p (mL (qM S))) p), setN S (ins (qM S) p (mL (qM S)))) := by
        unfold a_come
        rw [e]
        dsimp only
        rw [e2]
      rw [ea]
      have hfull := ok_full o3 hp (plc_no e2)
      have oi := ok_ins (k := mL (qM S)) o3 hp (plc_no e2) (Nat.le_refl _)
      refine k_aload_n 28 dX8_come_27 rfl rfl rfl ?_
      refine k_get 31 dX8_come_28 rfl fX8_come_35 (by (repeat (refine Is.ne ?_ (by omega))); first | assumption | exact Is.up (by omega)) (by rfl) ?_
      refine k_aload_n 32 dX8_come_31 rfl rfl rfl ?_
      refine k_get 35 dX8_come_32 rfl fX8_come_19 (by (repeat (refine Is.ne ?_ (by omega))); first | assumption | exact Is.up (by omega)) (by rfl) ?_
      refine k_V1 (ci := 5) 38 dX8_come_35 rfl vX8_come_151 (by (repeat (refine Is.ne ?_ (by omega))); first | assumption | exact Is.up (by omega)) rfl rfl (Nat.le_of_ble_eq_true rfl) rfl ⟨Nat.le_of_ble_eq_true rfl, Nat.le_of_ble_eq_true rfl⟩ (c_X6_push hP hM (by omega) (by omega) (by omega) hn7 hL7) (fun r1 w1 x1 => ?_)
      obtain ⟨rfl, hP1, hE1⟩ := x1
      have hQ1 := hQ.fr hE1 (by omega)
      have hF1 := hF.fr hE1 (by omega)
      have hM1 := hM.fr hE1 (by omega)
      have hS1 := hS.fr hE1 (by omega)
      have hK1 := hK.fr hE1 (by omega)
      have hf1 := hf.fr hE1 (by omega)
      have hi1 := hi.fr hE1 (by omega)
      have hc1 := hc.fr hE1 (by omega)
      have f01 := hF1.ob
      have s01 := hM1.ob
      have p01 := hP1.ob
      have k01 := hK1.ob
      refine k_aload_n 39 dX8_come_38 rfl rfl rfl ?_
      refine k_get 42 dX8_come_39 rfl fX8_come_19 (by (repeat (refine Is.ne ?_ (by omega))); first | assumption | exact Is.up (by omega)) (by rfl) ?_
      refine k_iload_n 43 dX8_come_42 rfl rfl rfl ?_
      refine k_V1 (ci := 3) 46 dX8_come_43 rfl vX8_come_172 (by (repeat (refine Is.ne ?_ (by omega))); first | assumption | exact Is.up (by omega)) rfl rfl (Nat.le_of_ble_eq_true rfl) rfl ⟨Nat.le_of_ble_eq_true rfl, Nat.le_of_ble_eq_true rfl⟩ (c_X4_append hM1 (by omega) (by omega) hn7) (fun r2 w2 x2 => ?_)
      obtain ⟨rfl, hM2, hE2⟩ := x2
      obtain ⟨hR, hE⟩ := Qs_setN h hP1 hE1 hM2 hE2
      have s2 := hM2.ob
      have hQ2 := hR.1
      refine k_aload_n 47 dX8_come_46 rfl rfl rfl ?_
      refine k_get 50 dX8_come_47 rfl fX8_come_19 (by (repeat (refine Is.ne ?_ (by omega))); first | assumption | exact Is.up (by omega)) (by rfl) ?_
      refine k_iload_n 51 dX8_come_50 rfl rfl rfl ?_
      refine k_V1 (ci := 3) 54 dX8_come_51 rfl vX8_come_118 (by (repeat (refine Is.ne ?_ (by omega))); first | assumption | exact Is.up (by omega)) rfl rfl (Nat.le_of_ble_eq_true rfl) rfl ⟨Nat.le_of_ble_eq_true rfl, Nat.le_of_ble_eq_true rfl⟩ (c_X4_placeOf hM2 (ok_l7 oi) (ok_q7 oi) (by omega)) (fun r9 w9 h9 => ?_)
      obtain ⟨h8, h9⟩ := h9
      subst h8
      have h9 := h9.symm
      subst h9
      refine k_iret dX8_come_54 rfl rfl (Nat.le_of_ble_eq_true rfl) ⟨rfl, hR, hE⟩
  · rw [e]
    have ea : a_come S x = (-1, S) := by
      unfold a_come
      rw [e]
    rw [ea]
    refine k_if_neB 13 11 dX8_come_8 rfl rfl (fun c9 => absurd c9 (by simp)) (fun c9 => ?_)
    refine k_iconst (-1) 12 dX8_come_11 rfl km_1 ?_
    refine k_iret dX8_come_12 rfl rfl (Nat.le_of_ble_eq_true rfl) ⟨rfl, h, Eqx.rf⟩
theorem c_X8_pay {G : KG} {N : Nat} {w : WD} {a : Nat} {x y : Int32} {S : St} (h : QsM G N w a S) (hO : sOK S) : KCon G jX8_pay N w [rf G a, .int x, .int y] (QpO G N w a (a_pay S x y)) := by
  have h9 := h
  obtain ⟨hQ, hF, hM, hS, hP, hK, hf, hi, hc⟩ := h9
  obtain ⟨o1, o2, ⟨o3, o4⟩, -⟩ := hO
  have hn7 := o1.1
  have hL7 := ok_l7 o3
  have f0 := hF.ob
  have s0 := hM.ob
  have p0 := hP.ob
  have k0 := hK.ob
  refine KCon.of ([some (rf G a), some (.int x), some (.int y), none]) (by decide) rfl (by simp [Value.category]) (Nat.le_of_ble_eq_true rfl) rfl ?_
  refine k_aload_n 1 dX8_pay_0 rfl rfl rfl ?_
  refine k_iload_n 2 dX8_pay_1 rfl rfl rfl ?_
  refine k_iload_n 3 dX8_pay_2 rfl rfl rfl ?_
  refine k_V2 (ci := 7) 6 dX8_pay_3 rfl vX8_pay_129 (by (repeat (refine Is.ne ?_ (by omega))); first | assumption | exact Is.up (by omega)) rfl rfl (Nat.le_of_ble_eq_true rfl) rfl ⟨Nat.le_of_ble_eq_true rfl, Nat.le_of_ble_eq_true rfl⟩ (c_X8_areTwo h hn7) (fun r9 w9 h9 => ?_)
  obtain ⟨h8, h9⟩ := h9
  subst h8
  have h9 := h9.symm
  subst h9
  rcases two_c hn7 x y with ⟨p, q, hp, hq, hpq, rfl, rfl, e⟩ | e
  · rw [e]
    refine k_if_neB 11 9 dX8_pay_6 rfl rfl (fun c9 => ?_) (fun c9 => absurd c9 (by simp))
    have hpb : pyb (qM S) p q ≤ 420 := by
      have := ok_p o3 (p := p) (by omega)
      unfold pyb
      exact Nat.le_trans (Nat.min_le_right _ _) this
    refine k_aload_n 12 dX8_pay_11 rfl rfl rfl ?_
    refine k_get 15 dX8_pay_12 rfl fX8_pay_19 (by (repeat (refine Is.ne ?_ (by omega))); first | assumption | exact Is.up (by omega)) (by rfl) ?_
    refine k_iload_n 16 dX8_pay_15 rfl rfl rfl ?_
    refine k_iload_n 17 dX8_pay_16 rfl rfl rfl ?_
    refine k_V2 (ci := 3) 20 dX8_pay_17 rfl vX8_pay_175 (by (repeat (refine Is.ne ?_ (by omega))); first | assumption | exact Is.up (by omega)) rfl rfl (Nat.le_of_ble_eq_true rfl) rfl ⟨Nat.le_of_ble_eq_true rfl, Nat.le_of_ble_eq_true rfl⟩ (c_X4_payable hM o3 hp hq) (fun r9 w9 h9 => ?_)
    obtain ⟨h8, h9⟩ := h9
    subst h8
    have h9 := h9.symm
    subst h9
    refine k_istore_n _ 21 dX8_pay_20 rfl rfl (by decide) rfl rfl ?_
    refine k_iload_n 22 dX8_pay_21 rfl rfl rfl ?_
    refine k_if_neN 28 25 dX8_pay_22 rfl rfl (by omega) (fun c => ?_) (fun c => ?_)
    · have ea : a_pay S (nI p) (nI q) = (nI (pyb (qM S) p q), setN S (setl (qM S) p q)) := by
        unfold a_pay
        rw [e]
        dsimp only
        rw [if_neg (by omega)]
      rw [ea]
      refine k_aload_n 29 dX8_pay_28 rfl rfl rfl ?_
      refine k_get 32 dX8_pay_29 rfl fX8_pay_35 (by (repeat (refine Is.ne ?_ (by omega))); first | assumption | exact Is.up (by omega)) (by rfl) ?_
      refine k_aload_n 33 dX8_pay_32 rfl rfl rfl ?_
      refine k_get 36 dX8_pay_33 rfl fX8_pay_19 (by (repeat (refine Is.ne ?_ (by omega))); first | assumption | exact Is.up (by omega)) (by rfl) ?_
      refine k_V1 (ci := 5) 39 dX8_pay_36 rfl vX8_pay_151 (by (repeat (refine Is.ne ?_ (by omega))); first | assumption | exact Is.up (by omega)) rfl rfl (Nat.le_of_ble_eq_true rfl) rfl ⟨Nat.le_of_ble_eq_true rfl, Nat.le_of_ble_eq_true rfl⟩ (c_X6_push hP hM (by omega) (by omega) (by omega) hn7 hL7) (fun r1 w1 x1 => ?_)
      obtain ⟨rfl, hP1, hE1⟩ := x1
      have hQ1 := hQ.fr hE1 (by omega)
      have hF1 := hF.fr hE1 (by omega)
      have hM1 := hM.fr hE1 (by omega)
      have hS1 := hS.fr hE1 (by omega)
      have hK1 := hK.fr hE1 (by omega)
      have hf1 := hf.fr hE1 (by omega)
      have hi1 := hi.fr hE1 (by omega)
      have hc1 := hc.fr hE1 (by omega)
      have f01 := hF1.ob
      have s01 := hM1.ob
      have p01 := hP1.ob
      have k01 := hK1.ob
      refine k_aload_n 40 dX8_pay_39 rfl rfl rfl ?_
      refine k_get 43 dX8_pay_40 rfl fX8_pay_19 (by (repeat (refine Is.ne ?_ (by omega))); first | assumption | exact Is.up (by omega)) (by rfl) ?_
      refine k_iload_n 44 dX8_pay_43 rfl rfl rfl ?_
      refine k_iload_n 45 dX8_pay_44 rfl rfl rfl ?_
      refine k_V2 (ci := 3) 48 dX8_pay_45 rfl vX8_pay_178 (by (repeat (refine Is.ne ?_ (by omega))); first | assumption | exact Is.up (by omega)) rfl rfl (Nat.le_of_ble_eq_true rfl) rfl ⟨Nat.le_of_ble_eq_true rfl, Nat.le_of_ble_eq_true rfl⟩ (c_X4_settle hM1 o3 hp hq) (fun r2 w2 x2 => ?_)
      refine k_iload_n 49 dX8_pay_48 rfl rfl rfl ?_
      obtain ⟨rfl, hM2, hE2⟩ := x2
      obtain ⟨hR, hE⟩ := Qs_setN h hP1 hE1 hM2 hE2
      refine k_iret dX8_pay_49 rfl rfl (Nat.le_of_ble_eq_true rfl) ⟨rfl, hR, hE⟩
    · have ea : a_pay S (nI p) (nI q) = (-2, S) := by
        unfold a_pay
        rw [e]
        dsimp only
        rw [if_pos (by omega)]
      rw [ea]
      refine k_bipush (-2) 27 dX8_pay_25 rfl kbm_2 ?_
      refine k_iret dX8_pay_27 rfl rfl (Nat.le_of_ble_eq_true rfl) ⟨rfl, h, Eqx.rf⟩
  · have ea : a_pay S x y = (-1, S) := by
      unfold a_pay
      rw [e]
    rw [ea, e]
    refine k_if_neB 11 9 dX8_pay_6 rfl rfl (fun c9 => absurd c9 (by simp)) (fun c9 => ?_)
    refine k_iconst (-1) 10 dX8_pay_9 rfl km_1 ?_
    refine k_iret dX8_pay_10 rfl rfl (Nat.le_of_ble_eq_true rfl) ⟨rfl, h, Eqx.rf⟩
