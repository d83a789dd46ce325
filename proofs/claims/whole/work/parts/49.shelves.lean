/-! public methods: undo, keep, back, count -/
theorem c_X8_undo {G : KG} {N : Nat} {w : WD} {a : Nat} {S : St} (h : QsM G N w a S) (hO : sOK S) : KCon G jX8_undo N w [rf G a] (QpO G N w a (a_undo S)) := by
  have h9 := h
  obtain ⟨hQ, hF, hM, hS, hP, hK, hf, hi, hc⟩ := h9
  obtain ⟨o1, o2, ⟨o3, o4⟩, o5, o6, -⟩ := hO
  have hn7 := o1.1
  have f0 := hF.ob
  have s0 := hM.ob
  have p0 := hP.ob
  have k0 := hK.ob
  refine KCon.of ([some (rf G a)]) (by decide) rfl (by simp [Value.category]) (Nat.le_of_ble_eq_true rfl) rfl ?_
  rcases List.eq_nil_or_concat (qP S) with e | ⟨L, M1, e⟩
  · have ea : a_undo S = (-2, S) := by
      unfold a_undo
      rw [e]
      rfl
    rw [ea]
    rw [e] at p0
    refine k_aload_n 1 dX8_undo_0 rfl rfl rfl ?_
    refine k_get 4 dX8_undo_1 rfl fX8_undo_35 (by (repeat (refine Is.ne ?_ (by omega))); first | assumption | exact Is.up (by omega)) (by rfl) ?_
    refine k_get 7 dX8_undo_4 rfl fX8_undo_94 (by (repeat (refine Is.ne ?_ (by omega))); first | assumption | exact Is.up (by omega)) (by rfl) ?_
    refine k_if_neN (a := 0) 13 10 dX8_undo_7 rfl rfl (by omega) (fun c => by omega) (fun c => ?_)
    refine k_bipush (-2) 12 dX8_undo_10 rfl kbm_2 ?_
    refine k_iret dX8_undo_12 rfl rfl (Nat.le_of_ble_eq_true rfl) ⟨rfl, h, Eqx.rf⟩
  · have e : qP S = L ++ [M1] := by rw [e]; simp
    have ea : a_undo S = (nI L.length, (qF S, M1, L, qK S, qm S, qN S, qt S, qT S)) := by
      unfold a_undo
      rw [e]
      simp
    rw [ea]
    obtain ⟨oM, -⟩ := o5 M1 (by rw [e]; simp)
    have hlen : (qP S).length = L.length + 1 := by rw [e]; simp
    obtain ⟨l, wh, pu, db, hR, -⟩ := id hM
    rw [hlen] at p0
    rw [e] at hP
    refine k_aload_n 1 dX8_undo_0 rfl rfl rfl ?_
    refine k_get 4 dX8_undo_1 rfl fX8_undo_35 (by (repeat (refine Is.ne ?_ (by omega))); first | assumption | exact Is.up (by omega)) (by rfl) ?_
    refine k_get 7 dX8_undo_4 rfl fX8_undo_94 (by (repeat (refine Is.ne ?_ (by omega))); first | assumption | exact Is.up (by omega)) (by rfl) ?_
    refine k_if_neN 13 10 dX8_undo_7 rfl rfl (by omega) (fun c => ?_) (fun c => by omega)
    refine k_aload_n 14 dX8_undo_13 rfl rfl rfl ?_
    refine k_get 17 dX8_undo_14 rfl fX8_undo_35 (by (repeat (refine Is.ne ?_ (by omega))); first | assumption | exact Is.up (by omega)) (by rfl) ?_
    refine k_aload_n 18 dX8_undo_17 rfl rfl rfl ?_
    refine k_get 21 dX8_undo_18 rfl fX8_undo_19 (by (repeat (refine Is.ne ?_ (by omega))); first | assumption | exact Is.up (by omega)) (by rfl) ?_
    refine k_V1 (ci := 5) 24 dX8_undo_21 rfl vX8_undo_181 (by (repeat (refine Is.ne ?_ (by omega))); first | assumption | exact Is.up (by omega)) rfl rfl (Nat.le_of_ble_eq_true rfl) rfl ⟨Nat.le_of_ble_eq_true rfl, Nat.le_of_ble_eq_true rfl⟩ (c_X6_popInto hP hR (by omega) (by omega) hn7 (ok_l7 oM)) (fun r1 w1 x1 => ?_)
    obtain ⟨rfl, hP1, hM1, hne⟩ := x1
    have hEm : Eqx w (fun k => if k < a + 10 then w1 k else w k) (a + 5) (a + 10) := fun k hk => by
      dsimp only
      split
      · exact hne k (by omega) (by omega)
      · rfl
    have hE1 : Eqx (fun k => if k < a + 10 then w1 k else w k) w1 (a + 22) (a + 23) := fun k hk => by
      dsimp only
      split
      · rfl
      · exact hne k (by omega) (by omega)
    have hQm := hQ.fr hEm (by omega)
    have hFm := hF.fr hEm (by omega)
    have hSm := hS.fr hEm (by omega)
    have hKm := hK.fr hEm (by omega)
    have hfm := hf.fr hEm (by omega)
    have him := hi.fr hEm (by omega)
    have hcm := hc.fr hEm (by omega)
    have hQ1 := hQm.fr hE1 (by omega)
    have hF1 := hFm.fr hE1 (by omega)
    have hS1 := hSm.fr hE1 (by omega)
    have hK1 := hKm.fr hE1 (by omega)
    have hf1 := hfm.fr hE1 (by omega)
    have hi1 := him.fr hE1 (by omega)
    have hc1 := hcm.fr hE1 (by omega)
    have p1 := hP1.ob
    refine k_aload_n 25 dX8_undo_24 rfl rfl rfl ?_
    refine k_get 28 dX8_undo_25 rfl fX8_undo_35 (by (repeat (refine Is.ne ?_ (by omega))); first | assumption | exact Is.up (by omega)) (by rfl) ?_
    refine k_get 31 dX8_undo_28 rfl fX8_undo_94 (by (repeat (refine Is.ne ?_ (by omega))); first | assumption | exact Is.up (by omega)) (by rfl) ?_
    refine k_iret dX8_undo_31 rfl rfl (Nat.le_of_ble_eq_true rfl) ⟨rfl, ⟨hQ1, hF1, hM1, hS1, hP1, hK1, hf1, hi1, hc1⟩, (hEm.wd (by omega) (by omega)).tr (hE1.wd (by omega) (by omega))⟩
theorem c_X8_keep {G : KG} {N : Nat} {w : WD} {a : Nat} {S : St} (h : QsM G N w a S) (hO : sOK S) : KCon G jX8_keep N w [rf G a] (QpO G N w a (a_keep S)) := by
  have h9 := h
  obtain ⟨hQ, hF, hM, hS, hP, hK, hf, hi, hc⟩ := h9
  obtain ⟨o1, o2, ⟨o3, o4⟩, o5, o6, o7, o8, -⟩ := hO
  have hn7 := o1.1
  have hL7 := ok_l7 o3
  have f0 := hF.ob
  have s0 := hM.ob
  have p0 := hP.ob
  have k0 := hK.ob
  refine KCon.of ([some (rf G a)]) (by decide) rfl (by simp [Value.category]) (Nat.le_of_ble_eq_true rfl) rfl ?_
  refine k_aload_n 1 dX8_keep_0 rfl rfl rfl ?_
  refine k_get 4 dX8_keep_1 rfl fX8_keep_39 (by (repeat (refine Is.ne ?_ (by omega))); first | assumption | exact Is.up (by omega)) (by rfl) ?_
  refine k_get 7 dX8_keep_4 rfl fX8_keep_94 (by (repeat (refine Is.ne ?_ (by omega))); first | assumption | exact Is.up (by omega)) (by rfl) ?_
  refine k_iconst (nI 2) 8 dX8_keep_7 rfl kc_2 ?_
  refine k_icmp_ltN 14 11 dX8_keep_8 rfl rfl (by omega) (by omega) (fun c => ?_) (fun c => ?_)
  · have ea : a_keep S = (nI ((qK S).length + 1), (qF S, qM S, qP S, qK S ++ [qM S], qm S, qN S, qt S, qT S)) := by
      unfold a_keep
      rw [if_neg (by omega)]
    rw [ea]
    refine k_aload_n 15 dX8_keep_14 rfl rfl rfl ?_
    refine k_get 18 dX8_keep_15 rfl fX8_keep_39 (by (repeat (refine Is.ne ?_ (by omega))); first | assumption | exact Is.up (by omega)) (by rfl) ?_
    refine k_aload_n 19 dX8_keep_18 rfl rfl rfl ?_
    refine k_get 22 dX8_keep_19 rfl fX8_keep_19 (by (repeat (refine Is.ne ?_ (by omega))); first | assumption | exact Is.up (by omega)) (by rfl) ?_
    refine k_V1 (ci := 5) 25 dX8_keep_22 rfl vX8_keep_151 (by (repeat (refine Is.ne ?_ (by omega))); first | assumption | exact Is.up (by omega)) rfl rfl (Nat.le_of_ble_eq_true rfl) rfl ⟨Nat.le_of_ble_eq_true rfl, Nat.le_of_ble_eq_true rfl⟩ (c_X6_push hK hM (by omega) (by omega) (by omega) hn7 hL7) (fun r1 w1 x1 => ?_)
    obtain ⟨rfl, hK1, hE1⟩ := x1
    have e2 : pshM 2 (qK S) (qM S) = qK S ++ [qM S] := by
      unfold pshM
      rw [if_neg (by omega)]
    rw [e2] at hK1
    have hQ1 := hQ.fr hE1 (by omega)
    have hF1 := hF.fr hE1 (by omega)
    have hM1 := hM.fr hE1 (by omega)
    have hS1 := hS.fr hE1 (by omega)
    have hP1 := hP.fr hE1 (by omega)
    have hf1 := hf.fr hE1 (by omega)
    have hi1 := hi.fr hE1 (by omega)
    have hc1 := hc.fr hE1 (by omega)
    have k1 := hK1.ob
    have e3 : (qK S ++ [qM S]).length = (qK S).length + 1 := by simp
    rw [e3] at k1
    refine k_aload_n 26 dX8_keep_25 rfl rfl rfl ?_
    refine k_get 29 dX8_keep_26 rfl fX8_keep_39 (by (repeat (refine Is.ne ?_ (by omega))); first | assumption | exact Is.up (by omega)) (by rfl) ?_
    refine k_get 32 dX8_keep_29 rfl fX8_keep_94 (by (repeat (refine Is.ne ?_ (by omega))); first | assumption | exact Is.up (by omega)) (by rfl) ?_
    refine k_iret dX8_keep_32 rfl rfl (Nat.le_of_ble_eq_true rfl) ⟨rfl, ⟨hQ1, hF1, hM1, hS1, hP1, hK1, hf1, hi1, hc1⟩, hE1.wd (by omega) (by omega)⟩
  · have ea : a_keep S = (-3, S) := by
      unfold a_keep
      rw [if_pos (by omega)]
    rw [ea]
    refine k_bipush (-3) 13 dX8_keep_11 rfl kbm_3 ?_
    refine k_iret dX8_keep_13 rfl rfl (Nat.le_of_ble_eq_true rfl) ⟨rfl, h, Eqx.rf⟩
theorem c_X8_back {G : KG} {N : Nat} {w : WD} {a : Nat} {S : St} (h : QsM G N w a S) (hO : sOK S) : KCon G jX8_back N w [rf G a] (QpO G N w a (a_back S)) := by
  have h9 := h
  obtain ⟨hQ, hF, hM, hS, hP, hK, hf, hi, hc⟩ := h9
  obtain ⟨o1, o2, ⟨o3, o4⟩, o5, o6, o7, o8, -⟩ := hO
  have hn7 := o1.1
  have f0 := hF.ob
  have s0 := hM.ob
  have p0 := hP.ob
  have k0 := hK.ob
  refine KCon.of ([some (rf G a)]) (by decide) rfl (by simp [Value.category]) (Nat.le_of_ble_eq_true rfl) rfl ?_
  rcases List.eq_nil_or_concat (qK S) with e | ⟨L, M1, e⟩
  · have ea : a_back S = (-2, S) := by
      unfold a_back
      rw [e]
      rfl
    rw [ea]
    rw [e] at k0
    refine k_aload_n 1 dX8_back_0 rfl rfl rfl ?_
    refine k_get 4 dX8_back_1 rfl fX8_back_39 (by (repeat (refine Is.ne ?_ (by omega))); first | assumption | exact Is.up (by omega)) (by rfl) ?_
    refine k_get 7 dX8_back_4 rfl fX8_back_94 (by (repeat (refine Is.ne ?_ (by omega))); first | assumption | exact Is.up (by omega)) (by rfl) ?_
    refine k_if_neN (a := 0) 13 10 dX8_back_7 rfl rfl (by omega) (fun c => by omega) (fun c => ?_)
    refine k_bipush (-2) 12 dX8_back_10 rfl kbm_2 ?_
    refine k_iret dX8_back_12 rfl rfl (Nat.le_of_ble_eq_true rfl) ⟨rfl, h, Eqx.rf⟩
  · have e : qK S = L ++ [M1] := by rw [e]; simp
    have ea : a_back S = (nI L.length, (qF S, M1, [], L, qm S, qN S, qt S, qT S)) := by
      unfold a_back
      rw [e]
      simp
    rw [ea]
    obtain ⟨oM, -⟩ := o7 M1 (by rw [e]; simp)
    have hlen : (qK S).length = L.length + 1 := by rw [e]; simp
    obtain ⟨l, wh, pu, db, hR, -⟩ := id hM
    rw [hlen] at k0
    rw [e] at hK
    refine k_aload_n 1 dX8_back_0 rfl rfl rfl ?_
    refine k_get 4 dX8_back_1 rfl fX8_back_39 (by (repeat (refine Is.ne ?_ (by omega))); first | assumption | exact Is.up (by omega)) (by rfl) ?_
    refine k_get 7 dX8_back_4 rfl fX8_back_94 (by (repeat (refine Is.ne ?_ (by omega))); first | assumption | exact Is.up (by omega)) (by rfl) ?_
    refine k_if_neN 13 10 dX8_back_7 rfl rfl (by omega) (fun c => ?_) (fun c => by omega)
    refine k_aload_n 14 dX8_back_13 rfl rfl rfl ?_
    refine k_get 17 dX8_back_14 rfl fX8_back_39 (by (repeat (refine Is.ne ?_ (by omega))); first | assumption | exact Is.up (by omega)) (by rfl) ?_
    refine k_aload_n 18 dX8_back_17 rfl rfl rfl ?_
    refine k_get 21 dX8_back_18 rfl fX8_back_19 (by (repeat (refine Is.ne ?_ (by omega))); first | assumption | exact Is.up (by omega)) (by rfl) ?_
    refine k_V1 (ci := 5) 24 dX8_back_21 rfl vX8_back_181 (by (repeat (refine Is.ne ?_ (by omega))); first | assumption | exact Is.up (by omega)) rfl rfl (Nat.le_of_ble_eq_true rfl) rfl ⟨Nat.le_of_ble_eq_true rfl, Nat.le_of_ble_eq_true rfl⟩ (c_X6_popInto hK hR (by omega) (by omega) hn7 (ok_l7 oM)) (fun r1 w1 x1 => ?_)
    obtain ⟨rfl, hK1, hM1, hne⟩ := x1
    have hEm : Eqx w (fun k => if k < a + 10 then w1 k else w k) (a + 5) (a + 10) := fun k hk => by
      dsimp only
      split
      · exact hne k (by omega) (by omega)
      · rfl
    have hE1 : Eqx (fun k => if k < a + 10 then w1 k else w k) w1 (a + 64) (a + 65) := fun k hk => by
      dsimp only
      split
      · rfl
      · exact hne k (by omega) (by omega)
    have hQm := hQ.fr hEm (by omega)
    have hFm := hF.fr hEm (by omega)
    have hSm := hS.fr hEm (by omega)
    have hPm := hP.fr hEm (by omega)
    have hfm := hf.fr hEm (by omega)
    have him := hi.fr hEm (by omega)
    have hcm := hc.fr hEm (by omega)
    have hQ1 := hQm.fr hE1 (by omega)
    have hF1 := hFm.fr hE1 (by omega)
    have hS1 := hSm.fr hE1 (by omega)
    have hP1 := hPm.fr hE1 (by omega)
    have hf1 := hfm.fr hE1 (by omega)
    have hi1 := him.fr hE1 (by omega)
    have hc1 := hcm.fr hE1 (by omega)
    have k1 := hK1.ob
    have p1 := hP1.ob
    have hN := p1.1
    refine k_aload_n 25 dX8_back_24 rfl rfl rfl ?_
    refine k_get 28 dX8_back_25 rfl fX8_back_35 (by (repeat (refine Is.ne ?_ (by omega))); first | assumption | exact Is.up (by omega)) (by rfl) ?_
    refine k_iconst (nI 0) 29 dX8_back_28 rfl kc_0 ?_
    refine k_put 32 dX8_back_29 rfl pX8_back_94 (by (repeat (refine Is.ne ?_ (by omega))); first | assumption | exact Is.up (by omega)) (Nat.le_of_ble_eq_true rfl) rfl rfl ?_
    refine k_nm (fun w2 hw2 => ?_)
    have hE2 : Eqx w1 w2 (a + 22) (a + 23) := by
      rw [hw2]
      exact (by (repeat (refine Eqx.up ?_ (by omega) (by omega))); first | exact Eqx.rf | assumption)
    have p2 : Is N w2 (a + 22) (ob 5 [.int (nI 0), rf G (a + 22 + 1)]) := by
      rw [hw2]
      exact (by (repeat (refine Is.ne ?_ (by omega))); first | assumption | exact Is.up (by omega))
    clear hw2
    have hQ2 := hQ1.fr hE2 (by omega)
    have hF2 := hF1.fr hE2 (by omega)
    have hM2 := hM1.fr hE2 (by omega)
    have hS2 := hS1.fr hE2 (by omega)
    have hK2 := hK1.fr hE2 (by omega)
    have hf2 := hf1.fr hE2 (by omega)
    have hi2 := hi1.fr hE2 (by omega)
    have hc2 := hc1.fr hE2 (by omega)
    have hP2 : ShM G N w2 (a + 22) 8 (oN (qF S)) [] := by
      obtain ⟨loc, f, ⟨q0, q1, q2, q3⟩, -, -⟩ := hP1
      refine ⟨loc, f, ⟨p2, q1.eqx hE2 (by omega), fun i hi => ?_, q3⟩, Nat.zero_le _, fun i hi => absurd hi (Nat.not_lt_zero i)⟩
      obtain ⟨g1, ⟨j, hj, e⟩, l, wh, pu, db, len, gone, g3⟩ := q2 i hi
      exact ⟨g1, ⟨j, hj, e⟩, l, wh, pu, db, len, gone, g3.fr (fun k _ _ => hE2 k (by omega))⟩
    have k2 := hK2.ob
    refine k_aload_n 33 dX8_back_32 rfl rfl rfl ?_
    refine k_get 36 dX8_back_33 rfl fX8_back_39 (by (repeat (refine Is.ne ?_ (by omega))); first | assumption | exact Is.up (by omega)) (by rfl) ?_
    refine k_get 39 dX8_back_36 rfl fX8_back_94 (by (repeat (refine Is.ne ?_ (by omega))); first | assumption | exact Is.up (by omega)) (by rfl) ?_
    refine k_iret dX8_back_39 rfl rfl (Nat.le_of_ble_eq_true rfl) ⟨rfl, ⟨hQ2, hF2, hM2, hS2, hP2, hK2, hf2, hi2, hc2⟩, (hEm.wd (by omega) (by omega)).tr ((hE1.wd (by omega) (by omega)).tr (hE2.wd (by omega) (by omega)))⟩
theorem c_X8_count {G : KG} {N : Nat} {w : WD} {a : Nat} {x : Int32} {S : St} (h : QsM G N w a S) (hO : sOK S) : KCon G jX8_count N w [rf G a, .int x] (QpO G N w a (a_count S x)) := by
  have h9 := h
  obtain ⟨hQ, hF, hM, hS, hP, hK, hf, hi, hc⟩ := h9
  obtain ⟨o1, o2, ⟨o3, o4⟩, -⟩ := hO
  have hn7 := o1.1
  have f0 := hF.ob
  have s0 := hM.ob
  have p0 := hP.ob
  have k0 := hK.ob
  have i0 := hi.1
  obtain ⟨at_, nums, hScr, hsF, hsM⟩ := hS
  have z0 := hScr.1
  refine KCon.of ([some (rf G a), some (.int x)]) (by decide) rfl (by simp [Value.category]) (Nat.le_of_ble_eq_true rfl) rfl ?_
  rcases rgn_c 0 10 x with ⟨k, k1, k2, rfl, e⟩ | ⟨hx, e⟩
  · have ea : ∀ v : Int32, (if k = 0 then nI (oN (qF S)) else if k = 1 then nI (oS (qF S)) else if k = 2 then nI (mG (qM S)) else if k = 3 then nI (mL (qM S)) else if k = 4 then nI (cnt (mW (qM S)) 1 (oN (qF S))) else if k = 5 then nI (cnt (mW (qM S)) 2 (oN (qF S))) else if k = 6 then nI (owf (mD (qM S)) 49) else if k = 7 then nI (qm S) else if k = 8 then nI (qP S).length else if k = 9 then nI (qK S).length else nI (qt S)) = v → a_count S (nI k) = (v, S) := by
      intro v hv
      unfold a_count
      rw [e]
      dsimp only
      rw [hv]
    have hk : k = 0 ∨ k = 1 ∨ k = 2 ∨ k = 3 ∨ k = 4 ∨ k = 5 ∨ k = 6 ∨ k = 7 ∨ k = 8 ∨ k = 9 ∨ k = 10 := by omega
    rcases hk with rfl | rfl | rfl | rfl | rfl | rfl | rfl | rfl | rfl | rfl | rfl
    · rw [ea _ rfl]
      refine k_iload_n 1 dX8_count_0 rfl rfl rfl ?_
      refine k_tableIn (off := 59) 60 dX8_count_1 (by decide) (by decide) (by decide +kernel) rfl ?_
      refine k_aload_n 61 dX8_count_60 rfl rfl rfl ?_
      refine k_get 64 dX8_count_61 rfl fX8_count_10 (by (repeat (refine Is.ne ?_ (by omega))); first | assumption | exact Is.up (by omega)) (by rfl) ?_
      refine k_get 67 dX8_count_64 rfl fX8_count_90 (by (repeat (refine Is.ne ?_ (by omega))); first | assumption | exact Is.up (by omega)) (by rfl) ?_
      refine k_iret dX8_count_67 rfl rfl (Nat.le_of_ble_eq_true rfl) ⟨rfl, h, Eqx.rf⟩
    · rw [ea _ rfl]
      refine k_iload_n 1 dX8_count_0 rfl rfl rfl ?_
      refine k_tableIn (off := 67) 68 dX8_count_1 (by decide) (by decide) (by decide +kernel) rfl ?_
      refine k_aload_n 69 dX8_count_68 rfl rfl rfl ?_
      refine k_get 72 dX8_count_69 rfl fX8_count_10 (by (repeat (refine Is.ne ?_ (by omega))); first | assumption | exact Is.up (by omega)) (by rfl) ?_
      refine k_get 75 dX8_count_72 rfl fX8_count_245 (by (repeat (refine Is.ne ?_ (by omega))); first | assumption | exact Is.up (by omega)) (by rfl) ?_
      refine k_iret dX8_count_75 rfl rfl (Nat.le_of_ble_eq_true rfl) ⟨rfl, h, Eqx.rf⟩
    · rw [ea _ rfl]
      refine k_iload_n 1 dX8_count_0 rfl rfl rfl ?_
      refine k_tableIn (off := 75) 76 dX8_count_1 (by decide) (by decide) (by decide +kernel) rfl ?_
      refine k_aload_n 77 dX8_count_76 rfl rfl rfl ?_
      refine k_get 80 dX8_count_77 rfl fX8_count_19 (by (repeat (refine Is.ne ?_ (by omega))); first | assumption | exact Is.up (by omega)) (by rfl) ?_
      refine k_get 83 dX8_count_80 rfl fX8_count_148 (by (repeat (refine Is.ne ?_ (by omega))); first | assumption | exact Is.up (by omega)) (by rfl) ?_
      refine k_iret dX8_count_83 rfl rfl (Nat.le_of_ble_eq_true rfl) ⟨rfl, h, Eqx.rf⟩
    · rw [ea _ rfl]
      refine k_iload_n 1 dX8_count_0 rfl rfl rfl ?_
      refine k_tableIn (off := 83) 84 dX8_count_1 (by decide) (by decide) (by decide +kernel) rfl ?_
      refine k_aload_n 85 dX8_count_84 rfl rfl rfl ?_
      refine k_get 88 dX8_count_85 rfl fX8_count_19 (by (repeat (refine Is.ne ?_ (by omega))); first | assumption | exact Is.up (by omega)) (by rfl) ?_
      refine k_get 91 dX8_count_88 rfl fX8_count_137 (by (repeat (refine Is.ne ?_ (by omega))); first | assumption | exact Is.up (by omega)) (by rfl) ?_
      refine k_iret dX8_count_91 rfl rfl (Nat.le_of_ble_eq_true rfl) ⟨rfl, h, Eqx.rf⟩
    · rw [ea _ rfl]
      refine k_iload_n 1 dX8_count_0 rfl rfl rfl ?_
      refine k_tableIn (off := 91) 92 dX8_count_1 (by decide) (by decide) (by decide +kernel) rfl ?_
      refine k_aload_n 93 dX8_count_92 rfl rfl rfl ?_
      refine k_get 96 dX8_count_93 rfl fX8_count_19 (by (repeat (refine Is.ne ?_ (by omega))); first | assumption | exact Is.up (by omega)) (by rfl) ?_
      refine k_aload_n 97 dX8_count_96 rfl rfl rfl ?_
      refine k_get 100 dX8_count_97 rfl fX8_count_10 (by (repeat (refine Is.ne ?_ (by omega))); first | assumption | exact Is.up (by omega)) (by rfl) ?_
      refine k_iconst (nI 1) 101 dX8_count_100 rfl kc_1 ?_
      refine k_V2 (ci := 3) 104 dX8_count_101 rfl vX8_count_248 (by (repeat (refine Is.ne ?_ (by omega))); first | assumption | exact Is.up (by omega)) rfl rfl (Nat.le_of_ble_eq_true rfl) rfl ⟨Nat.le_of_ble_eq_true rfl, Nat.le_of_ble_eq_true rfl⟩ (c_X4_numberOf hM hF rfl hn7 (fun p hp => (o3.2.2.2.2.1 p hp).1) (show 1 ≤ 2 by omega)) (fun r9 w9 h9 => ?_)
      obtain ⟨h8, h9⟩ := h9
      subst h8
      have h9 := h9.symm
      subst h9
      refine k_iret dX8_count_104 rfl rfl (Nat.le_of_ble_eq_true rfl) ⟨rfl, h, Eqx.rf⟩
    · rw [ea _ rfl]
      refine k_iload_n 1 dX8_count_0 rfl rfl rfl ?_
      refine k_tableIn (off := 104) 105 dX8_count_1 (by decide) (by decide) (by decide +kernel) rfl ?_
      refine k_aload_n 106 dX8_count_105 rfl rfl rfl ?_
      refine k_get 109 dX8_count_106 rfl fX8_count_19 (by (repeat (refine Is.ne ?_ (by omega))); first | assumption | exact Is.up (by omega)) (by rfl) ?_
      refine k_aload_n 110 dX8_count_109 rfl rfl rfl ?_
      refine k_get 113 dX8_count_110 rfl fX8_count_10 (by (repeat (refine Is.ne ?_ (by omega))); first | assumption | exact Is.up (by omega)) (by rfl) ?_
      refine k_iconst (nI 2) 114 dX8_count_113 rfl kc_2 ?_
      refine k_V2 (ci := 3) 117 dX8_count_114 rfl vX8_count_248 (by (repeat (refine Is.ne ?_ (by omega))); first | assumption | exact Is.up (by omega)) rfl rfl (Nat.le_of_ble_eq_true rfl) rfl ⟨Nat.le_of_ble_eq_true rfl, Nat.le_of_ble_eq_true rfl⟩ (c_X4_numberOf hM hF rfl hn7 (fun p hp => (o3.2.2.2.2.1 p hp).1) (show 2 ≤ 2 by omega)) (fun r9 w9 h9 => ?_)
      obtain ⟨h8, h9⟩ := h9
      subst h8
      have h9 := h9.symm
      subst h9
      refine k_iret dX8_count_117 rfl rfl (Nat.le_of_ble_eq_true rfl) ⟨rfl, h, Eqx.rf⟩
    · rw [ea _ rfl]
      refine k_iload_n 1 dX8_count_0 rfl rfl rfl ?_
      refine k_tableIn (off := 117) 118 dX8_count_1 (by decide) (by decide) (by decide +kernel) rfl ?_
      refine k_aload_n 119 dX8_count_118 rfl rfl rfl ?_
      refine k_get 122 dX8_count_119 rfl fX8_count_19 (by (repeat (refine Is.ne ?_ (by omega))); first | assumption | exact Is.up (by omega)) (by rfl) ?_
      refine k_V0 (ci := 3) 125 dX8_count_122 rfl vX8_count_242 (by (repeat (refine Is.ne ?_ (by omega))); first | assumption | exact Is.up (by omega)) rfl rfl (Nat.le_of_ble_eq_true rfl) rfl ⟨Nat.le_of_ble_eq_true rfl, Nat.le_of_ble_eq_true rfl⟩ (c_X4_owedInAll hM) (fun r9 w9 h9 => ?_)
      obtain ⟨h8, h9⟩ := h9
      subst h8
      have h9 := h9.symm
      subst h9
      refine k_iret dX8_count_125 rfl rfl (Nat.le_of_ble_eq_true rfl) ⟨rfl, h, Eqx.rf⟩
    · rw [ea _ rfl]
      refine k_iload_n 1 dX8_count_0 rfl rfl rfl ?_
      refine k_tableIn (off := 125) 126 dX8_count_1 (by decide) (by decide) (by decide +kernel) rfl ?_
      refine k_aload_n 127 dX8_count_126 rfl rfl rfl ?_
      refine k_get 130 dX8_count_127 rfl fX8_count_54 (by (repeat (refine Is.ne ?_ (by omega))); first | assumption | exact Is.up (by omega)) (by rfl) ?_
      refine k_get 133 dX8_count_130 rfl fX8_count_93 (by (repeat (refine Is.ne ?_ (by omega))); first | assumption | exact Is.up (by omega)) (by rfl) ?_
      refine k_iret dX8_count_133 rfl rfl (Nat.le_of_ble_eq_true rfl) ⟨rfl, h, Eqx.rf⟩
    · rw [ea _ rfl]
      refine k_iload_n 1 dX8_count_0 rfl rfl rfl ?_
      refine k_tableIn (off := 133) 134 dX8_count_1 (by decide) (by decide) (by decide +kernel) rfl ?_
      refine k_aload_n 135 dX8_count_134 rfl rfl rfl ?_
      refine k_get 138 dX8_count_135 rfl fX8_count_35 (by (repeat (refine Is.ne ?_ (by omega))); first | assumption | exact Is.up (by omega)) (by rfl) ?_
      refine k_get 141 dX8_count_138 rfl fX8_count_94 (by (repeat (refine Is.ne ?_ (by omega))); first | assumption | exact Is.up (by omega)) (by rfl) ?_
      refine k_iret dX8_count_141 rfl rfl (Nat.le_of_ble_eq_true rfl) ⟨rfl, h, Eqx.rf⟩
    · rw [ea _ rfl]
      refine k_iload_n 1 dX8_count_0 rfl rfl rfl ?_
      refine k_tableIn (off := 141) 142 dX8_count_1 (by decide) (by decide) (by decide +kernel) rfl ?_
      refine k_aload_n 143 dX8_count_142 rfl rfl rfl ?_
      refine k_get 146 dX8_count_143 rfl fX8_count_39 (by (repeat (refine Is.ne ?_ (by omega))); first | assumption | exact Is.up (by omega)) (by rfl) ?_
      refine k_get 149 dX8_count_146 rfl fX8_count_94 (by (repeat (refine Is.ne ?_ (by omega))); first | assumption | exact Is.up (by omega)) (by rfl) ?_
      refine k_iret dX8_count_149 rfl rfl (Nat.le_of_ble_eq_true rfl) ⟨rfl, h, Eqx.rf⟩
    · rw [ea _ rfl]
      refine k_iload_n 1 dX8_count_0 rfl rfl rfl ?_
      refine k_tableIn (off := 149) 150 dX8_count_1 (by decide) (by decide) (by decide +kernel) rfl ?_
      refine k_aload_n 151 dX8_count_150 rfl rfl rfl ?_
      refine k_get 154 dX8_count_151 rfl fX8_count_26 (by (repeat (refine Is.ne ?_ (by omega))); first | assumption | exact Is.up (by omega)) (by rfl) ?_
      refine k_get 157 dX8_count_154 rfl fX8_count_86 (by (repeat (refine Is.ne ?_ (by omega))); first | assumption | exact Is.up (by omega)) (by rfl) ?_
      refine k_iret dX8_count_157 rfl rfl (Nat.le_of_ble_eq_true rfl) ⟨rfl, h, Eqx.rf⟩
  · have ea : a_count S x = (-1, S) := by
      unfold a_count
      rw [e]
    rw [ea]
    refine k_iload_n 1 dX8_count_0 rfl rfl rfl ?_
    refine k_tableOut 158 dX8_count_1 (by omega) rfl ?_
    refine k_iconst (-1) 159 dX8_count_158 rfl km_1 ?_
    refine k_iret dX8_count_159 rfl rfl (Nat.le_of_ble_eq_true rfl) ⟨rfl, h, Eqx.rf⟩
