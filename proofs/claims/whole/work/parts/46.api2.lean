/-! public methods: lay, what is asked of persons -/
theorem rda_in {T : Nat → Nat} {t : Nat} : ∀ (f : Nat) (S : Fo × Mo) (i j : Nat), rda T t f S i = .inr j → j < t := by
  intro f
  induction f with
  | zero => intro S i j h; cases h
  | succ f ih =>
    intro S i j h
    simp only [rda] at h
    split at h
    · next hi =>
      cases e : itm T t S i with
      | none => rw [e] at h; cases h; exact hi
      | some x => rw [e] at h; exact ih _ _ _ h
    · cases h
theorem c_X8_takeScript {G : KG} {N : Nat} {w : WD} {a : Nat} {x4 x5 x6 x7 x8 : Value} {at_ t : Nat} {F1 : Fo} {M1 : Mo} (hQ : Is N w a (ob 7 [rf G (a + 1), rf G (a + 5), rf G (a + 10), x4, x5, x6, x7, x8])) (hz : Is N w (a + 10) (ob 4 [rf G (a + 10 + 1), rf G (a + 10 + 5), .int (nI t), rf G (a + 10 + 10), rf G (a + 10 + 11), .int (nI at_)])) (hF : FkG G N w (a + 1)) (hM : TrG G N w (a + 5)) (hF1 : FkM G N w (a + 10 + 1) F1) (hM1 : ScM G N w (a + 10 + 5) (oN F1) M1) (hp : pOK (F1, M1)) : KCon G jX8_takeScript N w [rf G a] (fun r w1 => r = none ∧ FkM G N w1 (a + 1) F1 ∧ ScM G N w1 (a + 5) (oN F1) M1 ∧ Eqx w w1 (a + 1) (a + 10)) := by
  obtain ⟨kd, wo, pe, num, se, hf⟩ := hF
  obtain ⟨l, wh, pu, db, len, gone, hm⟩ := hM
  have f0 := hf.1
  have s0 := hm.1
  have hn7 : oN F1 ≤ 7 := hp.1.1
  have hL : mL M1 = oN F1 := hp.2.1
  refine KCon.of ([some (rf G a)]) (by decide) rfl (by simp [Value.category]) (Nat.le_of_ble_eq_true rfl) rfl ?_
  refine k_aload_n 1 dX8_takeScript_0 rfl rfl rfl ?_
  refine k_get 4 dX8_takeScript_1 rfl fX8_takeScript_10 (by (repeat (refine Is.ne ?_ (by omega))); first | assumption | exact Is.up (by omega)) (by rfl) ?_
  refine k_aload_n 5 dX8_takeScript_4 rfl rfl rfl ?_
  refine k_get 8 dX8_takeScript_5 rfl fX8_takeScript_26 (by (repeat (refine Is.ne ?_ (by omega))); first | assumption | exact Is.up (by omega)) (by rfl) ?_
  refine k_get 11 dX8_takeScript_8 rfl fX8_takeScript_89 (by (repeat (refine Is.ne ?_ (by omega))); first | assumption | exact Is.up (by omega)) (by rfl) ?_
  refine k_V1 (ci := 1) 14 dX8_takeScript_11 rfl vX8_takeScript_252 (by (repeat (refine Is.ne ?_ (by omega))); first | assumption | exact Is.up (by omega)) rfl rfl (Nat.le_of_ble_eq_true rfl) rfl ⟨Nat.le_of_ble_eq_true rfl, Nat.le_of_ble_eq_true rfl⟩ (c_X1_copyFrom hf hF1 (by omega) hn7) (fun r1 w1 y1 => ?_)
  obtain ⟨rfl, hF2, hE1⟩ := y1
  have hQ1 := hQ.fr hE1 (by omega)
  have hz1 := hz.fr hE1 (by omega)
  have hM2 := hM1.fr hE1 (by omega)
  have hm1 : ScR G N w1 (a + 5) l wh pu db len gone := hm.fr (fun k _ _ => hE1 k (by omega))
  have s1 := hm1.1
  refine k_aload_n 15 dX8_takeScript_14 rfl rfl rfl ?_
  refine k_get 18 dX8_takeScript_15 rfl fX8_takeScript_19 (by (repeat (refine Is.ne ?_ (by omega))); first | assumption | exact Is.up (by omega)) (by rfl) ?_
  refine k_aload_n 19 dX8_takeScript_18 rfl rfl rfl ?_
  refine k_get 22 dX8_takeScript_19 rfl fX8_takeScript_26 (by (repeat (refine Is.ne ?_ (by omega))); first | assumption | exact Is.up (by omega)) (by rfl) ?_
  refine k_get 25 dX8_takeScript_22 rfl fX8_takeScript_256 (by (repeat (refine Is.ne ?_ (by omega))); first | assumption | exact Is.up (by omega)) (by rfl) ?_
  refine k_V1 (ci := 3) 28 dX8_takeScript_25 rfl vX8_takeScript_259 (by (repeat (refine Is.ne ?_ (by omega))); first | assumption | exact Is.up (by omega)) rfl rfl (Nat.le_of_ble_eq_true rfl) rfl ⟨Nat.le_of_ble_eq_true rfl, Nat.le_of_ble_eq_true rfl⟩ (c_X4_copyFrom hm1 hM2 (by omega) hn7 (by omega)) (fun r2 w2 y2 => ?_)
  obtain ⟨rfl, hM3, hE2⟩ := y2
  refine k_vret dX8_takeScript_28 rfl rfl (Nat.le_of_ble_eq_true rfl) ⟨rfl, hF2.fr hE2 (by omega), hM3, (hE1.wd (by omega) (by omega)).tr (hE2.wd (by omega) (by omega))⟩
theorem c_X8_lay {G : KG} {N : Nat} {w : WD} {a : Nat} {S : St} (h : QsM G N w a S) : KCon G jX8_lay N w [rf G a] (QpO G N w a (a_lay S)) := by
  obtain ⟨hQ, hF, hM, hS, hP, hK, hf, hi, hc⟩ := h
  obtain ⟨at_, nums, hScr, ⟨kd, wo, pe, num, se, hsF⟩, ⟨l, wh, pu, db, len, gone, hsM⟩⟩ := hS
  have z0 := hScr.1
  refine KCon.of ([some (rf G a)]) (by decide) rfl (by simp [Value.category]) (Nat.le_of_ble_eq_true rfl) rfl ?_
  refine k_aload_n 1 dX8_lay_0 rfl rfl rfl ?_
  refine k_get 4 dX8_lay_1 rfl fX8_lay_26 (by (repeat (refine Is.ne ?_ (by omega))); first | assumption | exact Is.up (by omega)) (by rfl) ?_
  refine k_V0 (ci := 4) 7 dX8_lay_4 rfl vX8_lay_80 (by (repeat (refine Is.ne ?_ (by omega))); first | assumption | exact Is.up (by omega)) rfl rfl (Nat.le_of_ble_eq_true rfl) rfl ⟨Nat.le_of_ble_eq_true rfl, Nat.le_of_ble_eq_true rfl⟩ (c_X5_read hScr hsF hsM) (fun r1 w1 x1 => ?_)
  obtain ⟨rfl, X, j, nums1, hpX, hX, h1, h2, h3, hE1⟩ := x1
  have hQ1 := hQ.fr hE1 (by omega)
  have z1 := h1.1
  have y1 := h2.ob
  have hF1 := hF.fr hE1 (by omega)
  have hM1 := hM.fr hE1 (by omega)
  have hP1 := hP.fr hE1 (by omega)
  have hK1 := hK.fr hE1 (by omega)
  have hf1 := hf.fr hE1 (by omega)
  have hi1 := hi.fr hE1 (by omega)
  have hc1 := hc.fr hE1 (by omega)
  have no : a_lay S = (-2, S) → KRun G jX8_lay N (QpO G N w a (a_lay S)) 25 [some (rf G a)] [] 0 0 w1 := by
    intro e
    rw [e]
    refine k_bipush (-2) 27 dX8_lay_25 rfl kbm_2 ?_
    refine k_iret dX8_lay_27 rfl rfl (Nat.le_of_ble_eq_true rfl) ⟨rfl, ⟨hQ1, hF1, hM1, ⟨j, nums1, h1, h2.g, h3.g⟩, hP1, hK1, hf1, hi1, hc1⟩, hE1.wd (by omega) (by omega)⟩
  refine k_bipush (-4) 9 dX8_lay_7 rfl kbm_4 ?_
  cases e : rdT (qT S) (qt S) with
  | inr i =>
    have hit : i < qt S := rda_in _ _ _ _ e
    have ht := hScr.2.2.2.1
    refine k_icmp_ne 25 12 dX8_lay_9 rfl rfl (fun c => ?_) (fun c => ?_)
    · exact no (by unfold a_lay; rw [e])
    · exact absurd (Classical.not_not.mp c) (pI_some (k := i) (by omega))
  | inl Y =>
    have hXY := hX Y e
    subst hXY
    have hX7 : oN X.1 ≤ 7 := hpX.1.1
    refine k_icmp_ne 25 12 dX8_lay_9 rfl rfl (fun c => ?_) (fun c => ?_)
    · exact absurd rfl c
    · refine k_aload_n 13 dX8_lay_12 rfl rfl rfl ?_
      refine k_get 16 dX8_lay_13 rfl fX8_lay_26 (by (repeat (refine Is.ne ?_ (by omega))); first | assumption | exact Is.up (by omega)) (by rfl) ?_
      refine k_get 19 dX8_lay_16 rfl fX8_lay_89 (by (repeat (refine Is.ne ?_ (by omega))); first | assumption | exact Is.up (by omega)) (by rfl) ?_
      refine k_get 22 dX8_lay_19 rfl fX8_lay_90 (by (repeat (refine Is.ne ?_ (by omega))); first | assumption | exact Is.up (by omega)) (by rfl) ?_
      refine k_if_neN 28 25 dX8_lay_22 rfl rfl (by omega) (fun c => ?_) (fun c => ?_)
      rotate_left
      · exact no (by unfold a_lay; rw [e]; dsimp only; rw [if_pos (by omega)])
      · have ea : a_lay S = (nI (oN X.1), (X.1, X.2, [], [], 0, qN S, qt S, qT S)) := by
          unfold a_lay
          rw [e]
          dsimp only
          rw [if_neg (by omega)]
        rw [ea]
        refine k_aload_n 29 dX8_lay_28 rfl rfl rfl ?_
        refine k_V0 (ci := 7) 32 dX8_lay_29 rfl vX8_lay_83 (by (repeat (refine Is.ne ?_ (by omega))); first | assumption | exact Is.up (by omega)) rfl rfl (Nat.le_of_ble_eq_true rfl) rfl ⟨Nat.le_of_ble_eq_true rfl, Nat.le_of_ble_eq_true rfl⟩ (c_X8_takeScript hQ1 z1 hF1.g hM1.g h2 h3 hpX) (fun r2 w2 x2 => ?_)
        obtain ⟨rfl, g1, g2, hE2⟩ := x2
        have hQ2 := hQ1.fr hE2 (by omega)
        have hP2 := hP1.fr hE2 (by omega)
        have hK2 := hK1.fr hE2 (by omega)
        have hf2 := hf1.fr hE2 (by omega)
        have hi2 := hi1.fr hE2 (by omega)
        have hc2 := hc1.fr hE2 (by omega)
        have hS2 : QsS G N w2 (a + 10) (qt S) (qT S) := QsS.fr ⟨j, nums1, h1, h2.g, h3.g⟩ hE2 (by omega)
        have p0 := hP2.ob
        have k0 := hK2.ob
        obtain ⟨i0, io, ik, ig, ih⟩ := hi2
        have hN := i0.1
        have f0 := g1.ob
        obtain ⟨ps, mi, du, ik1, ik2, ik3, -⟩ := ik
        refine k_aload_n 33 dX8_lay_32 rfl rfl rfl ?_
        refine k_get 36 dX8_lay_33 rfl fX8_lay_54 (by (repeat (refine Is.ne ?_ (by omega))); first | assumption | exact Is.up (by omega)) (by rfl) ?_
        refine k_iconst (nI 0) 37 dX8_lay_36 rfl kc_0 ?_
        refine k_put 40 dX8_lay_37 rfl pX8_lay_93 (by (repeat (refine Is.ne ?_ (by omega))); first | assumption | exact Is.up (by omega)) (Nat.le_of_ble_eq_true rfl) rfl rfl ?_
        refine k_aload_n 41 dX8_lay_40 rfl rfl rfl ?_
        refine k_get 44 dX8_lay_41 rfl fX8_lay_35 (by (repeat (refine Is.ne ?_ (by omega))); first | assumption | exact Is.up (by omega)) (by rfl) ?_
        refine k_iconst (nI 0) 45 dX8_lay_44 rfl kc_0 ?_
        refine k_put 48 dX8_lay_45 rfl pX8_lay_94 (by (repeat (refine Is.ne ?_ (by omega))); first | assumption | exact Is.up (by omega)) (Nat.le_of_ble_eq_true rfl) rfl rfl ?_
        refine k_aload_n 49 dX8_lay_48 rfl rfl rfl ?_
        refine k_get 52 dX8_lay_49 rfl fX8_lay_39 (by (repeat (refine Is.ne ?_ (by omega))); first | assumption | exact Is.up (by omega)) (by rfl) ?_
        refine k_iconst (nI 0) 53 dX8_lay_52 rfl kc_0 ?_
        refine k_put 56 dX8_lay_53 rfl pX8_lay_94 (by (repeat (refine Is.ne ?_ (by omega))); first | assumption | exact Is.up (by omega)) (Nat.le_of_ble_eq_true rfl) rfl rfl ?_
        refine k_nm (fun w3 hw3 => ?_)
        have hne : ∀ k, k ≠ a + 84 → k ≠ a + 22 → k ≠ a + 64 → w3 k = w2 k := fun k n1 n2 n3 => by
          rw [hw3, va_up_ne _ _ n3, va_up_ne _ _ n2, va_up_ne _ _ n1]
        have hi3 : Is N w3 (a + 84) (SiX G (a + 84) (a + 1) (a + 5) 0) := by
          rw [hw3]
          exact (by (repeat (refine Is.ne ?_ (by omega))); first | assumption | exact Is.up (by omega))
        have hp3 : Is N w3 (a + 22) (ob 5 [.int (nI 0), rf G (a + 22 + 1)]) := by
          rw [hw3]
          exact (by (repeat (refine Is.ne ?_ (by omega))); first | assumption | exact Is.up (by omega))
        have hk3 : Is N w3 (a + 64) (ob 5 [.int (nI 0), rf G (a + 64 + 1)]) := by
          rw [hw3]
          exact (by (repeat (refine Is.ne ?_ (by omega))); first | assumption | exact Is.up (by omega))
        clear hw3
        have hA : Eqx w2 w3 (a + 22) (a + 104) := fun k hk => hne k (by omega) (by omega) (by omega)
        have hf3 : QsF G N w3 (a + 76) (a + 1) (a + 5) := by
          obtain ⟨x, ch, va, q1, ⟨l, wh, pu, db, len, gone, q2⟩, sm, gr, q3, q4, q5⟩ := hf2
          exact ⟨x, ch, va, ⟨q1.1, by rw [hne _ (by omega) (by omega) (by omega)]; exact q1.2⟩, ⟨l, wh, pu, db, len, gone, q2.fr (fun k _ _ => hne k (by omega) (by omega) (by omega))⟩, sm, gr, ⟨q3.1, by rw [hne _ (by omega) (by omega) (by omega)]; exact q3.2⟩, ⟨q4.1, by rw [hne _ (by omega) (by omega) (by omega)]; exact q4.2⟩, q5⟩
        have hc3 : QsC G N w3 (a + 98) (a + 1) (a + 5) := by
          obtain ⟨x, y, q1, ⟨l, wh, pu, db, len, gone, q2⟩⟩ := hc2
          exact ⟨x, y, ⟨q1.1, by rw [hne _ (by omega) (by omega) (by omega)]; exact q1.2⟩, ⟨l, wh, pu, db, len, gone, q2.fr (fun k _ _ => hne k (by omega) (by omega) (by omega))⟩⟩
        have hP3 : ShM G N w3 (a + 22) 8 (oN X.1) [] := by
          obtain ⟨loc, f, ⟨q0, q1, q2, q3⟩, -, -⟩ := hP2
          refine ⟨loc, f, ⟨hp3, ⟨q1.1, by rw [hne _ (by omega) (by omega) (by omega)]; exact q1.2⟩, fun i hi => ?_, q3⟩, Nat.zero_le _, fun i hi => absurd hi (Nat.not_lt_zero i)⟩
          obtain ⟨k1, ⟨j, hj, e⟩, l, wh, pu, db, len, gone, k3⟩ := q2 i hi
          exact ⟨k1, ⟨j, hj, e⟩, l, wh, pu, db, len, gone, k3.fr (fun k _ _ => hne k (by omega) (by omega) (by omega))⟩
        have hK3 : ShM G N w3 (a + 64) 2 (oN X.1) [] := by
          obtain ⟨loc, f, ⟨q0, q1, q2, q3⟩, -, -⟩ := hK2
          refine ⟨loc, f, ⟨hk3, ⟨q1.1, by rw [hne _ (by omega) (by omega) (by omega)]; exact q1.2⟩, fun i hi => ?_, q3⟩, Nat.zero_le _, fun i hi => absurd hi (Nat.not_lt_zero i)⟩
          obtain ⟨k1, ⟨j, hj, e⟩, l, wh, pu, db, len, gone, k3⟩ := q2 i hi
          exact ⟨k1, ⟨j, hj, e⟩, l, wh, pu, db, len, gone, k3.fr (fun k _ _ => hne k (by omega) (by omega) (by omega))⟩
        have hI3 : QsI G N w3 (a + 84) (a + 1) (a + 5) 0 (qN S) := by
          obtain ⟨od, io⟩ := io
          obtain ⟨kd, wo, pe, num, se, ig⟩ := ig
          obtain ⟨l, wh, pu, db, len, gone, ih⟩ := ih
          exact ⟨hi3, ⟨od, ⟨io.1, by rw [hne _ (by omega) (by omega) (by omega)]; exact io.2⟩⟩, ⟨ps, mi, du, ⟨ik1.1, by rw [hne _ (by omega) (by omega) (by omega)]; exact ik1.2⟩, ⟨ik2.1, by rw [hne _ (by omega) (by omega) (by omega)]; exact ik2.2⟩, ⟨ik3.1, by rw [hne _ (by omega) (by omega) (by omega)]; exact ik3.2⟩, fun i hi => absurd hi (Nat.not_lt_zero i)⟩, ⟨kd, wo, pe, num, se, ig.fr (fun k _ _ => hne k (by omega) (by omega) (by omega))⟩, ⟨l, wh, pu, db, len, gone, ih.fr (fun k _ _ => hne k (by omega) (by omega) (by omega))⟩⟩
        have hQ3 := hQ2.fr hA (by omega)
        have g3 := g1.fr hA (by omega)
        have f3 := g3.ob
        refine k_aload_n 57 dX8_lay_56 rfl rfl rfl ?_
        refine k_get 60 dX8_lay_57 rfl fX8_lay_10 (by (repeat (refine Is.ne ?_ (by omega))); first | assumption | exact Is.up (by omega)) (by rfl) ?_
        refine k_get 63 dX8_lay_60 rfl fX8_lay_90 (by (repeat (refine Is.ne ?_ (by omega))); first | assumption | exact Is.up (by omega)) (by rfl) ?_
        refine k_iret dX8_lay_63 rfl rfl (Nat.le_of_ble_eq_true rfl) ⟨rfl, ⟨hQ3, g3, g2.fr hA (by omega), hS2.fr hA (by omega), hP3, hK3, hf3, hI3, hc3⟩, (hE1.wd (by omega) (by omega)).tr ((hE2.wd (by omega) (by omega)).tr (hA.wd (by omega) (by omega)))⟩
