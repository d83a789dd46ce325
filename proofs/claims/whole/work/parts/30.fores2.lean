/-! Foresight: where to stand, whom to let past, whom to miss -/
theorem c_X2_duesInTrialOfOthers {G : KG} {N : Nat} {w : WD} {a fo b n p : Nat} {x y z : Value} {M M1 : Mo} (h : Is N w a (FsX G a fo b x y z)) (hT : ScM G N w (a + 1) n M1) (hb : ScM G N w b n M) (hO : mOK n M) (hp : p < 7) : KCon G jX2_duesInTrialOfOthers N w [rf G a, .int (nI p)] (fun r w1 => r = some (.int (iZ (msm M1 M p (mL M)))) ∧ w1 = w) := by
  have hn7 := hO.2.1
  have hL7 := ok_l7 hO
  have hQ := ok_q7 hO
  obtain ⟨l, wh, pu, db, ⟨b0, b1, b2, b3, b4⟩, bl, -⟩ := id hb
  obtain ⟨l2, wh2, pu2, db2, ⟨t0, -⟩, -⟩ := id hT
  refine KCon.of ([some (rf G a), some (.int (nI p)), none, none, none]) (by decide) rfl (by simp [Value.category]) (Nat.le_of_ble_eq_true rfl) rfl ?_
  refine k_iconst (nI 0) 1 dX2_duesInTrialOfOthers_0 rfl kc_0 ?_
  refine k_istore_n _ 2 dX2_duesInTrialOfOthers_1 rfl rfl (by decide) rfl rfl ?_
  refine k_iconst (nI 0) 3 dX2_duesInTrialOfOthers_2 rfl kc_0 ?_
  refine k_istore_n _ 4 dX2_duesInTrialOfOthers_3 rfl rfl (by decide) rfl rfl ?_
  have loop : ∀ d k, k + d = mL M → KRun G jX2_duesInTrialOfOthers N (fun r w1 => r = some (.int (iZ (msm M1 M p (mL M)))) ∧ w1 = w) 4 [some (rf G a), some (.int (nI p)), some (.int (iZ (msm M1 M p k))), some (.int (nI k)), none] [] 0 0 w := by
    intro d
    induction d with
    | zero =>
      intro k hk
      refine k_iload_n 5 dX2_duesInTrialOfOthers_4 rfl rfl rfl ?_
      refine k_aload_n 6 dX2_duesInTrialOfOthers_5 rfl rfl rfl ?_
      refine k_get 9 dX2_duesInTrialOfOthers_6 rfl fX2_duesInTrialOfOthers_29 (by (repeat (refine Is.ne ?_ (by omega))); first | assumption | exact Is.up (by omega)) (by rfl) ?_
      refine k_get 12 dX2_duesInTrialOfOthers_9 rfl fX2_duesInTrialOfOthers_56 (by (repeat (refine Is.ne ?_ (by omega))); first | assumption | exact Is.up (by omega)) (by rfl) ?_
      refine k_icmp_geN 52 15 dX2_duesInTrialOfOthers_12 rfl rfl (by omega) (by omega) (fun c => ?_) (fun c => ?_)
      · refine k_iload_n 53 dX2_duesInTrialOfOthers_52 rfl rfl rfl ?_
        refine k_iret dX2_duesInTrialOfOthers_53 rfl rfl (Nat.le_of_ble_eq_true rfl) ⟨by rw [show k = mL M by omega], rfl⟩
      · omega
    | succ d ih =>
      intro k hk
      have hq := hQ k (by omega)
      refine k_iload_n 5 dX2_duesInTrialOfOthers_4 rfl rfl rfl ?_
      refine k_aload_n 6 dX2_duesInTrialOfOthers_5 rfl rfl rfl ?_
      refine k_get 9 dX2_duesInTrialOfOthers_6 rfl fX2_duesInTrialOfOthers_29 (by (repeat (refine Is.ne ?_ (by omega))); first | assumption | exact Is.up (by omega)) (by rfl) ?_
      refine k_get 12 dX2_duesInTrialOfOthers_9 rfl fX2_duesInTrialOfOthers_56 (by (repeat (refine Is.ne ?_ (by omega))); first | assumption | exact Is.up (by omega)) (by rfl) ?_
      refine k_icmp_geN 52 15 dX2_duesInTrialOfOthers_12 rfl rfl (by omega) (by omega) (fun c => ?_) (fun c => ?_)
      · omega
      refine k_aload_n 16 dX2_duesInTrialOfOthers_15 rfl rfl rfl ?_
      refine k_get 19 dX2_duesInTrialOfOthers_16 rfl fX2_duesInTrialOfOthers_29 (by (repeat (refine Is.ne ?_ (by omega))); first | assumption | exact Is.up (by omega)) (by rfl) ?_
      refine k_get 22 dX2_duesInTrialOfOthers_19 rfl fX2_duesInTrialOfOthers_94 (by (repeat (refine Is.ne ?_ (by omega))); first | assumption | exact Is.up (by omega)) (by rfl) ?_
      refine k_iload_n 23 dX2_duesInTrialOfOthers_22 rfl rfl rfl ?_
      refine k_S2 26 dX2_duesInTrialOfOthers_23 rfl vX2_duesInTrialOfOthers_97 (Nat.le_of_ble_eq_true rfl) rfl ⟨Nat.le_of_ble_eq_true rfl, Nat.le_of_ble_eq_true rfl⟩ (c_X3_at b1 (by omega) (by omega)) (fun r9 w9 h9 => ?_)
      obtain ⟨h8, h9⟩ := h9
      subst h8
      have h9 := h9.symm
      subst h9
      rw [bl k (by omega)]
      refine k_istore _ 28 dX2_duesInTrialOfOthers_26 rfl (by decide) rfl rfl ?_
      refine k_iload 30 dX2_duesInTrialOfOthers_28 rfl rfl ?_
      refine k_iload_n 31 dX2_duesInTrialOfOthers_30 rfl rfl rfl ?_
      refine k_icmp_eqN 46 34 dX2_duesInTrialOfOthers_31 rfl rfl (by omega) (by omega) (fun c => ?_) (fun c => ?_)
      · refine k_iinc _ _ 49 dX2_duesInTrialOfOthers_46 rfl rfl (nI_inc _) (by decide) rfl rfl ?_
        refine k_goto 4 dX2_duesInTrialOfOthers_49 rfl ?_
        refine k_loc [some (rf G a), some (.int (nI p)), some (.int (iZ (msm M1 M p (k + 1)))), some (.int (nI (k + 1))), none] ⟨rfl, rfl, ?_, rfl, trivial⟩ rfl ?_
        · show _ = some (Value.int (iZ (msm M1 M p k + if mQ M k = p then 0 else due M1 (mQ M k))))
          rw [if_pos c, Int.add_zero]
        · exact ih (k + 1) (by omega)
      · refine k_iload_n 35 dX2_duesInTrialOfOthers_34 rfl rfl rfl ?_
        refine k_aload_n 36 dX2_duesInTrialOfOthers_35 rfl rfl rfl ?_
        refine k_get 39 dX2_duesInTrialOfOthers_36 rfl fX2_duesInTrialOfOthers_12 (by (repeat (refine Is.ne ?_ (by omega))); first | assumption | exact Is.up (by omega)) (by rfl) ?_
        refine k_iload 41 dX2_duesInTrialOfOthers_39 rfl rfl ?_
        refine k_V1 (ci := 3) 44 dX2_duesInTrialOfOthers_41 rfl vX2_duesInTrialOfOthers_67 (by (repeat (refine Is.ne ?_ (by omega))); first | assumption | exact Is.up (by omega)) rfl rfl (Nat.le_of_ble_eq_true rfl) rfl ⟨Nat.le_of_ble_eq_true rfl, Nat.le_of_ble_eq_true rfl⟩ (c_X4_dueOf hT hq) (fun r9 w9 h9 => ?_)
        obtain ⟨h8, h9⟩ := h9
        subst h8
        have h9 := h9.symm
        subst h9
        refine k_iaddE _ 45 dX2_duesInTrialOfOthers_44 rfl (iZ_add _ _) ?_
        refine k_istore_n _ 46 dX2_duesInTrialOfOthers_45 rfl rfl (by decide) rfl rfl ?_
        refine k_iinc _ _ 49 dX2_duesInTrialOfOthers_46 rfl rfl (nI_inc _) (by decide) rfl rfl ?_
        refine k_goto 4 dX2_duesInTrialOfOthers_49 rfl ?_
        refine k_loc [some (rf G a), some (.int (nI p)), some (.int (iZ (msm M1 M p (k + 1)))), some (.int (nI (k + 1))), none] ⟨rfl, rfl, ?_, rfl, trivial⟩ rfl ?_
        · show _ = some (Value.int (iZ (msm M1 M p k + if mQ M k = p then 0 else due M1 (mQ M k))))
          rw [if_neg c]
        · exact ih (k + 1) (by omega)
  exact loop (mL M) 0 (by omega)
theorem msm_b {n : Nat} {M1 M : Mo} {p : Nat} (h1 : mOK n M1) (h : mOK n M) : ∀ k, k ≤ mL M → -(242520 * (k : Int)) ≤ msm M1 M p k ∧ msm M1 M p k ≤ 242520 * k := by
  intro k
  induction k with
  | zero => intro _; simp [msm]
  | succ k ih =>
    intro hk
    have h2 := ih (by omega)
    simp only [msm]
    split
    · omega
    · have := ok_due h1 (ok_q7 h k (by omega))
      omega
theorem c_X2_seekStand {G : KG} {N : Nat} {w : WD} {a fo b n p m j : Nat} {x : Value} {ch va : Int32} {M : Mo} {F : Fo} (h : Is N w a (FsX G a fo b x (.int ch) (.int va))) (hF : FkM G N w fo F) (hca : fo + 4 ≤ a) (hb : ScM G N w b n M) (hba : b + 5 ≤ a) (ht : TrG G N w (a + 1)) (hO : mOK n M) (hK : oOK F) (hn : n = oN F) (hp : p < n) (hj : plc M p = some j) (hG : mG M + m + 400 < 2000) : KCon G jX2_seekStand N w [rf G a, .int (nI p), .int (nI m)] (fun r w1 => r = none ∧ FsB G N w1 a fo b (std F M p m (mL M)) ∧ TrG G N w1 (a + 1) ∧ Eqx w w1 a (a + 6)) := by
  have hn7 := hO.2.1
  have hL7 := ok_l7 hO
  obtain ⟨hj1, hj2⟩ := plc_some hj
  have hN := h.1
  -- whatever choice and value were
  refine KCon.of ([some (rf G a), some (.int (nI p)), some (.int (nI m)), none]) (by decide) rfl (by simp [Value.category]) (Nat.le_of_ble_eq_true rfl) rfl ?_
  refine k_aload_n 1 dX2_seekStand_0 rfl rfl rfl ?_
  refine k_iconst (nI 0) 2 dX2_seekStand_1 rfl kc_0 ?_
  refine k_put 5 dX2_seekStand_2 rfl pX2_seekStand_52 (by (repeat (refine Is.ne ?_ (by omega))); first | assumption | exact Is.up (by omega)) (Nat.le_of_ble_eq_true rfl) rfl rfl ?_
  refine k_iconst (nI 0) 6 dX2_seekStand_5 rfl kc_0 ?_
  refine k_istore_n _ 7 dX2_seekStand_6 rfl rfl (by decide) rfl rfl ?_
  refine k_nm (fun w0 hw0 => ?_)
  have hB0 : FsB G N w0 a fo b none := by
    rw [hw0]
    exact ⟨ch, va, (by (repeat (refine Is.ne ?_ (by omega))); first | assumption | exact Is.up (by omega)), fun x e => by cases e⟩
  have hE0 : Eqx w w0 a (a + 1) := by
    rw [hw0]
    exact (by (repeat (refine Eqx.up ?_ (by omega) (by omega))); first | exact Eqx.rf | assumption)
  clear hw0
  have loop : ∀ d k (w1 : WD), k + d = mL M → FsB G N w1 a fo b (std F M p m k) → TrG G N w1 (a + 1) → Eqx w w1 a (a + 6) → KRun G jX2_seekStand N (fun r w1 => r = none ∧ FsB G N w1 a fo b (std F M p m (mL M)) ∧ TrG G N w1 (a + 1) ∧ Eqx w w1 a (a + 6)) 7 [some (rf G a), some (.int (nI p)), some (.int (nI m)), some (.int (nI k))] [] 0 0 w1 := by
    intro d
    induction d with
    | zero =>
      intro k w1 hk hB hT hE
      have hb1 := hb.fr hE (by omega)
      obtain ⟨l, wh, pu, db, ⟨b0, b1, b2, b3, b4⟩, -⟩ := id hb1
      obtain ⟨ch, va, h1, -⟩ := id hB
      refine k_iload_n 8 dX2_seekStand_7 rfl rfl rfl ?_
      refine k_aload_n 9 dX2_seekStand_8 rfl rfl rfl ?_
      refine k_get 12 dX2_seekStand_9 rfl fX2_seekStand_29 (by (repeat (refine Is.ne ?_ (by omega))); first | assumption | exact Is.up (by omega)) (by rfl) ?_
      refine k_get 15 dX2_seekStand_12 rfl fX2_seekStand_56 (by (repeat (refine Is.ne ?_ (by omega))); first | assumption | exact Is.up (by omega)) (by rfl) ?_
      refine k_icmp_geN 89 18 dX2_seekStand_15 rfl rfl (by omega) (by omega) (fun c => ?_) (fun c => ?_)
      · refine k_vret dX2_seekStand_89 rfl rfl (Nat.le_of_ble_eq_true rfl) ⟨rfl, by rw [show mL M = k by omega]; exact hB, hT, hE⟩
      · omega
    | succ d ih =>
      intro k w1 hk hB hT hE
      have hb1 := hb.fr hE (by omega)
      have hF1 := hF.fr hE (by omega)
      obtain ⟨l, wh, pu, db, ⟨b0, b1, b2, b3, b4⟩, -⟩ := id hb1
      obtain ⟨ch, va, h1, -⟩ := id hB
      obtain ⟨tl, twh, tpu, tdb, tlen, tg, hR⟩ := hT
      obtain ⟨t0, -⟩ := id hR
      refine k_iload_n 8 dX2_seekStand_7 rfl rfl rfl ?_
      refine k_aload_n 9 dX2_seekStand_8 rfl rfl rfl ?_
      refine k_get 12 dX2_seekStand_9 rfl fX2_seekStand_29 (by (repeat (refine Is.ne ?_ (by omega))); first | assumption | exact Is.up (by omega)) (by rfl) ?_
      refine k_get 15 dX2_seekStand_12 rfl fX2_seekStand_56 (by (repeat (refine Is.ne ?_ (by omega))); first | assumption | exact Is.up (by omega)) (by rfl) ?_
      refine k_icmp_geN 89 18 dX2_seekStand_15 rfl rfl (by omega) (by omega) (fun c => ?_) (fun c => ?_)
      · omega
      refine k_aload_n 19 dX2_seekStand_18 rfl rfl rfl ?_
      refine k_get 22 dX2_seekStand_19 rfl fX2_seekStand_12 (by (repeat (refine Is.ne ?_ (by omega))); first | assumption | exact Is.up (by omega)) (by rfl) ?_
      refine k_aload_n 23 dX2_seekStand_22 rfl rfl rfl ?_
      refine k_get 26 dX2_seekStand_23 rfl fX2_seekStand_29 (by (repeat (refine Is.ne ?_ (by omega))); first | assumption | exact Is.up (by omega)) (by rfl) ?_
      refine k_V1 (ci := 3) 29 dX2_seekStand_26 rfl vX2_seekStand_32 (by (repeat (refine Is.ne ?_ (by omega))); first | assumption | exact Is.up (by omega)) rfl rfl (Nat.le_of_ble_eq_true rfl) rfl ⟨Nat.le_of_ble_eq_true rfl, Nat.le_of_ble_eq_true rfl⟩ (c_X4_copyFrom hR hb1 (by omega) hn7 hL7) (fun r2 w2 x2 => ?_)
      obtain ⟨rfl, hS2, hE2⟩ := x2
      have h2 := h1.eqx hE2 (by omega)
      obtain ⟨l2, wh2, pu2, db2, ⟨t0, -⟩, -⟩ := id hS2
      refine k_aload_n 30 dX2_seekStand_29 rfl rfl rfl ?_
      refine k_get 33 dX2_seekStand_30 rfl fX2_seekStand_12 (by (repeat (refine Is.ne ?_ (by omega))); first | assumption | exact Is.up (by omega)) (by rfl) ?_
      refine k_iload_n 34 dX2_seekStand_33 rfl rfl rfl ?_
      refine k_iconst (nI 2) 35 dX2_seekStand_34 rfl kc_2 ?_
      refine k_V2 (ci := 3) 38 dX2_seekStand_35 rfl vX2_seekStand_60 (by (repeat (refine Is.ne ?_ (by omega))); first | assumption | exact Is.up (by omega)) rfl rfl (Nat.le_of_ble_eq_true rfl) rfl ⟨Nat.le_of_ble_eq_true rfl, Nat.le_of_ble_eq_true rfl⟩ (c_X4_takeOut hS2 hO hj1 hj2) (fun r3 w3 x3 => ?_)
      obtain ⟨rfl, hS3, hE3⟩ := x3
      have h3 := h2.eqx hE3 (by omega)
      obtain ⟨l3, wh3, pu3, db3, ⟨t0, -⟩, -⟩ := id hS3
      refine k_aload_n 39 dX2_seekStand_38 rfl rfl rfl ?_
      refine k_get 42 dX2_seekStand_39 rfl fX2_seekStand_12 (by (repeat (refine Is.ne ?_ (by omega))); first | assumption | exact Is.up (by omega)) (by rfl) ?_
      refine k_iload_n 43 dX2_seekStand_42 rfl rfl rfl ?_
      refine k_iload_n 44 dX2_seekStand_43 rfl rfl rfl ?_
      refine k_V2 (ci := 3) 47 dX2_seekStand_44 rfl vX2_seekStand_64 (by (repeat (refine Is.ne ?_ (by omega))); first | assumption | exact Is.up (by omega)) rfl rfl (Nat.le_of_ble_eq_true rfl) rfl ⟨Nat.le_of_ble_eq_true rfl, Nat.le_of_ble_eq_true rfl⟩ (c_X4_insert hS3 (show mL M - 1 < 7 by omega) (show k ≤ mL M - 1 by omega) (by omega) hn7) (fun r4 w4 x4 => ?_)
      obtain ⟨rfl, hS4, hE4⟩ := x4
      have hO3 := ok_rem hO (k := j) (st := 2) hj1 (by omega) (by omega)
      have hno := rem_no hO (st := 2) hj1
      rw [hj2] at hno
      have hO4 := ok_ins hO3 hp hno (show k ≤ mL M - 1 by omega)
      have h4 := h3.eqx hE4 (by omega)
      have hF4 := ((hF1.fr hE2 (by omega)).fr hE3 (by omega)).fr hE4 (by omega)
      obtain ⟨l4, wh4, pu4, db4, ⟨t0, -⟩, -⟩ := id hS4
      refine k_aload_n 48 dX2_seekStand_47 rfl rfl rfl ?_
      refine k_get 51 dX2_seekStand_48 rfl fX2_seekStand_12 (by (repeat (refine Is.ne ?_ (by omega))); first | assumption | exact Is.up (by omega)) (by rfl) ?_
      refine k_aload_n 52 dX2_seekStand_51 rfl rfl rfl ?_
      refine k_get 55 dX2_seekStand_52 rfl fX2_seekStand_25 (by (repeat (refine Is.ne ?_ (by omega))); first | assumption | exact Is.up (by omega)) (by rfl) ?_
      refine k_iload_n 56 dX2_seekStand_55 rfl rfl rfl ?_
      refine k_V2 (ci := 3) 59 dX2_seekStand_56 rfl vX2_seekStand_36 (by (repeat (refine Is.ne ?_ (by omega))); first | assumption | exact Is.up (by omega)) rfl rfl (Nat.le_of_ble_eq_true rfl) rfl ⟨Nat.le_of_ble_eq_true rfl, Nat.le_of_ble_eq_true rfl⟩ (c_X4_run hS4 hF4 (by omega) hO4 hK hn (show mG M + m + 300 < 2000 by omega)) (fun r5 w5 x5 => ?_)
      obtain ⟨rfl, hS5, hE5⟩ := x5
      have h5 := h4.eqx hE5 (by omega)
      have eM : stM F M p k m = mns F (ins (rem M j 2) p k) m := by
        unfold stM
        rw [hj]
      obtain ⟨hO5, -⟩ := ok_mns hO4 hK hn m (show mG M + m ≤ 2000 by omega)
      rw [← eM] at hS5 hO5
      obtain ⟨l5, wh5, pu5, db5, ⟨t0, -⟩, -⟩ := id hS5
      have hE6 : Eqx w1 w5 (a + 1) (a + 6) := ((hE2.tr hE3).tr hE4).tr hE5
      have hB5 := hB.fr hE6 (by omega)
      refine k_aload_n 60 dX2_seekStand_59 rfl rfl rfl ?_
      refine k_get 63 dX2_seekStand_60 rfl fX2_seekStand_12 (by (repeat (refine Is.ne ?_ (by omega))); first | assumption | exact Is.up (by omega)) (by rfl) ?_
      refine k_iload_n 64 dX2_seekStand_63 rfl rfl rfl ?_
      refine k_V1 (ci := 3) 67 dX2_seekStand_64 rfl vX2_seekStand_48 (by (repeat (refine Is.ne ?_ (by omega))); first | assumption | exact Is.up (by omega)) rfl rfl (Nat.le_of_ble_eq_true rfl) rfl ⟨Nat.le_of_ble_eq_true rfl, Nat.le_of_ble_eq_true rfl⟩ (c_X4_isServed hS5 hn7 hp (hO5.2.2.2.2.1 p hp).1) (fun r9 w9 h9 => ?_)
      obtain ⟨h8, h9⟩ := h9
      subst h8
      have h9 := h9.symm
      subst h9
      refine k_if_eqB 83 70 dX2_seekStand_67 rfl rfl (fun c9 => ?_) (fun c9 => ?_)
      · have c8 := of_decide_eq_false c9
        refine k_iinc _ _ 86 dX2_seekStand_83 rfl rfl (nI_inc _) (by decide) rfl rfl ?_
        refine k_goto 7 dX2_seekStand_86 rfl ?_
        refine ih (k + 1) w5 (by omega) ?_ hS5.g (hE.tr (hE6.wd (by omega) (by omega)))
        simp only [std]
        rw [if_neg c8]
        exact hB5
      · have c8 := of_decide_eq_true c9
        have hd := ok_due hO5 (p := p) (by omega)
        refine k_aload_n 71 dX2_seekStand_70 rfl rfl rfl ?_
        refine k_iload_n 72 dX2_seekStand_71 rfl rfl rfl ?_
        refine k_aload_n 73 dX2_seekStand_72 rfl rfl rfl ?_
        refine k_get 76 dX2_seekStand_73 rfl fX2_seekStand_12 (by (repeat (refine Is.ne ?_ (by omega))); first | assumption | exact Is.up (by omega)) (by rfl) ?_
        refine k_iload_n 77 dX2_seekStand_76 rfl rfl rfl ?_
        refine k_V1 (ci := 3) 80 dX2_seekStand_77 rfl vX2_seekStand_67 (by (repeat (refine Is.ne ?_ (by omega))); first | assumption | exact Is.up (by omega)) rfl rfl (Nat.le_of_ble_eq_true rfl) rfl ⟨Nat.le_of_ble_eq_true rfl, Nat.le_of_ble_eq_true rfl⟩ (c_X4_dueOf hS5 (by omega)) (fun r9 w9 h9 => ?_)
        obtain ⟨h8, h9⟩ := h9
        subst h8
        have h9 := h9.symm
        subst h9
        refine k_V2 (ci := 2) 83 dX2_seekStand_80 rfl vX2_seekStand_70 (by (repeat (refine Is.ne ?_ (by omega))); first | assumption | exact Is.up (by omega)) rfl rfl (Nat.le_of_ble_eq_true rfl) rfl ⟨Nat.le_of_ble_eq_true rfl, Nat.le_of_ble_eq_true rfl⟩ (c_X2_offerMost hB5 (by omega) (by omega)) (fun r6 w6 x6 => ?_)
        obtain ⟨rfl, hB6, hE7⟩ := x6
        refine k_iinc _ _ 86 dX2_seekStand_83 rfl rfl (nI_inc _) (by decide) rfl rfl ?_
        refine k_goto 7 dX2_seekStand_86 rfl ?_
        refine ih (k + 1) w6 (by omega) ?_ (hS5.g.fr hE7 (by omega)) (hE.tr ((hE6.wd (by omega) (by omega)).tr (hE7.wd (by omega) (by omega))))
        simp only [std]
        rw [if_pos c8]
        exact hB6
  exact loop (mL M) 0 w0 (by omega) hB0 (ht.fr hE0 (by omega)) (hE0.wd (by omega) (by omega))
theorem c_X2_seekHaste {G : KG} {N : Nat} {w : WD} {a fo b n p : Nat} {x : Value} {ch va : Int32} {M : Mo} {F : Fo} (h : Is N w a (FsX G a fo b x (.int ch) (.int va))) (hF : FkM G N w fo F) (hca : fo + 4 ≤ a) (hb : ScM G N w b n M) (hba : b + 5 ≤ a) (ht : TrG G N w (a + 1)) (hO : mOK n M) (hK : oOK F) (hn : n = oN F) (hp : p < n) (hG : mG M + 400 < 2000) : KCon G jX2_seekHaste N w [rf G a, .int (nI p)] (fun r w1 => r = none ∧ FsB G N w1 a fo b (hso F M p (oN F)) ∧ TrG G N w1 (a + 1) ∧ Eqx w w1 a (a + 6)) := by
  have hn7 := hO.2.1
  have hL7 := ok_l7 hO
  have hQ := ok_q7 hO
  have hN := h.1
  refine KCon.of ([some (rf G a), some (.int (nI p)), none, none]) (by decide) rfl (by simp [Value.category]) (Nat.le_of_ble_eq_true rfl) rfl ?_
  refine k_aload_n 1 dX2_seekHaste_0 rfl rfl rfl ?_
  refine k_iconst (nI 0) 2 dX2_seekHaste_1 rfl kc_0 ?_
  refine k_put 5 dX2_seekHaste_2 rfl pX2_seekHaste_52 (by (repeat (refine Is.ne ?_ (by omega))); first | assumption | exact Is.up (by omega)) (Nat.le_of_ble_eq_true rfl) rfl rfl ?_
  refine k_nm (fun w0 hw0 => ?_)
  have hB0 : FsB G N w0 a fo b none := by
    rw [hw0]
    exact ⟨ch, va, (by (repeat (refine Is.ne ?_ (by omega))); first | assumption | exact Is.up (by omega)), fun x e => by cases e⟩
  have hE0 : Eqx w w0 a (a + 1) := by
    rw [hw0]
    exact (by (repeat (refine Eqx.up ?_ (by omega) (by omega))); first | exact Eqx.rf | assumption)
  clear hw0
  have hb0 := hb.fr hE0 (by omega)
  have hF0 := hF.fr hE0 (by omega)
  obtain ⟨tl, twh, tpu, tdb, tlen, tg, hR⟩ := ht.fr hE0 (by omega)
  obtain ⟨t0, -⟩ := id hR
  obtain ⟨ch0, va0, h0, -⟩ := id hB0
  refine k_aload_n 6 dX2_seekHaste_5 rfl rfl rfl ?_
  refine k_get 9 dX2_seekHaste_6 rfl fX2_seekHaste_12 (by (repeat (refine Is.ne ?_ (by omega))); first | assumption | exact Is.up (by omega)) (by rfl) ?_
  refine k_aload_n 10 dX2_seekHaste_9 rfl rfl rfl ?_
  refine k_get 13 dX2_seekHaste_10 rfl fX2_seekHaste_29 (by (repeat (refine Is.ne ?_ (by omega))); first | assumption | exact Is.up (by omega)) (by rfl) ?_
  refine k_V1 (ci := 3) 16 dX2_seekHaste_13 rfl vX2_seekHaste_32 (by (repeat (refine Is.ne ?_ (by omega))); first | assumption | exact Is.up (by omega)) rfl rfl (Nat.le_of_ble_eq_true rfl) rfl ⟨Nat.le_of_ble_eq_true rfl, Nat.le_of_ble_eq_true rfl⟩ (c_X4_copyFrom hR hb0 (by omega) hn7 hL7) (fun r1 w1 x1 => ?_)
  obtain ⟨rfl, hS1, hE1⟩ := x1
  have h1 := h0.eqx hE1 (by omega)
  have hF1 := hF0.fr hE1 (by omega)
  refine k_aload_n 17 dX2_seekHaste_16 rfl rfl rfl ?_
  refine k_bipush (nI 99) 19 dX2_seekHaste_17 rfl kb_99 ?_
  refine k_aload_n 20 dX2_seekHaste_19 rfl rfl rfl ?_
  refine k_iload_n 21 dX2_seekHaste_20 rfl rfl rfl ?_
  refine k_V1 (ci := 2) 24 dX2_seekHaste_21 rfl vX2_seekHaste_40 (by (repeat (refine Is.ne ?_ (by omega))); first | assumption | exact Is.up (by omega)) rfl rfl (Nat.le_of_ble_eq_true rfl) rfl ⟨Nat.le_of_ble_eq_true rfl, Nat.le_of_ble_eq_true rfl⟩ (c_X2_waitInTrialOf h1 hF1 hca hS1 hO hK hn hp hG) (fun r2 w2 x2 => ?_)
  obtain ⟨rfl, hT2, hE2⟩ := x2
  have hB2 := (hB0.fr hE1 (by omega)).fr hE2 (by omega)
  have h2 := h1.eqx hE2 (by omega)
  refine k_V2 (ci := 2) 27 dX2_seekHaste_24 rfl vX2_seekHaste_73 (by (repeat (refine Is.ne ?_ (by omega))); first | assumption | exact Is.up (by omega)) rfl rfl (Nat.le_of_ble_eq_true rfl) rfl ⟨Nat.le_of_ble_eq_true rfl, Nat.le_of_ble_eq_true rfl⟩ (c_X2_offerSoonest hB2 (fun i hi => by have := wtn_b i hi; omega)) (fun r3 w3 x3 => ?_)
  refine k_iconst (nI 0) 28 dX2_seekHaste_27 rfl kc_0 ?_
  refine k_istore_n _ 29 dX2_seekHaste_28 rfl rfl (by decide) rfl rfl ?_
  obtain ⟨rfl, hB3, hE3⟩ := x3
  have hE4 : Eqx w w3 a (a + 6) := (((hE0.wd (by omega) (by omega)).tr (hE1.wd (by omega) (by omega))).tr (hE2.wd (by omega) (by omega))).tr (hE3.wd (by omega) (by omega))
  have inner : ∀ (one : Nat) (o : Option (Nat × Int)) (KK : ∀ w5 : WD, FsB G N w5 a fo b (hsi F M p one (oN F) o) → TrG G N w5 (a + 1) → Eqx w w5 a (a + 6) → KRun G jX2_seekHaste N (fun r w1 => r = none ∧ FsB G N w1 a fo b (hso F M p (oN F)) ∧ TrG G N w1 (a + 1) ∧ Eqx w w1 a (a + 6)) 106 [some (rf G a), some (.int (nI p)), some (.int (nI one)), none] [] 0 0 w5), one < n → ∀ d k (w5 : WD), k + d = oN F → FsB G N w5 a fo b (hsi F M p one k o) → TrG G N w5 (a + 1) → Eqx w w5 a (a + 6) → KRun G jX2_seekHaste N (fun r w1 => r = none ∧ FsB G N w1 a fo b (hso F M p (oN F)) ∧ TrG G N w1 (a + 1) ∧ Eqx w w1 a (a + 6)) 42 [some (rf G a), some (.int (nI p)), some (.int (nI one)), some (.int (nI k))] [] 0 0 w5 := by
    intro one o KK hone d
    induction d with
    | zero =>
      intro k w5 hk hB hT hE
      have hF5 := hF.fr hE (by omega)
      obtain ⟨kd, wo, pe, ⟨f0, -⟩, -⟩ := id hF5
      obtain ⟨ch5, va5, h5, -⟩ := id hB
      refine k_iload_n 43 dX2_seekHaste_42 rfl rfl rfl ?_
      refine k_aload_n 44 dX2_seekHaste_43 rfl rfl rfl ?_
      refine k_get 47 dX2_seekHaste_44 rfl fX2_seekHaste_25 (by (repeat (refine Is.ne ?_ (by omega))); first | assumption | exact Is.up (by omega)) (by rfl) ?_
      refine k_get 50 dX2_seekHaste_47 rfl fX2_seekHaste_76 (by (repeat (refine Is.ne ?_ (by omega))); first | assumption | exact Is.up (by omega)) (by rfl) ?_
      refine k_icmp_geN 106 53 dX2_seekHaste_50 rfl rfl (by omega) (by omega) (fun c => ?_) (fun c => ?_)
      · refine k_loc [some (rf G a), some (.int (nI p)), some (.int (nI one)), none] ⟨rfl, rfl, rfl, trivial⟩ rfl ?_
        exact KK w5 (by rw [show oN F = k by omega]; exact hB) hT hE
      · omega
    | succ d ih =>
      intro k w5 hk hB hT hE
      have hF5 := hF.fr hE (by omega)
      have hb5 := hb.fr hE (by omega)
      obtain ⟨kd, wo, pe, ⟨f0, -⟩, -⟩ := id hF5
      obtain ⟨ch5, va5, h5, -⟩ := id hB
      obtain ⟨l, wh, pu, db, ⟨b0, b1, b2, b3, b4⟩, -⟩ := id hb5
      refine k_iload_n 43 dX2_seekHaste_42 rfl rfl rfl ?_
      refine k_aload_n 44 dX2_seekHaste_43 rfl rfl rfl ?_
      refine k_get 47 dX2_seekHaste_44 rfl fX2_seekHaste_25 (by (repeat (refine Is.ne ?_ (by omega))); first | assumption | exact Is.up (by omega)) (by rfl) ?_
      refine k_get 50 dX2_seekHaste_47 rfl fX2_seekHaste_76 (by (repeat (refine Is.ne ?_ (by omega))); first | assumption | exact Is.up (by omega)) (by rfl) ?_
      refine k_icmp_geN 106 53 dX2_seekHaste_50 rfl rfl (by omega) (by omega) (fun c => ?_) (fun c => ?_)
      · omega
      refine k_aload_n 54 dX2_seekHaste_53 rfl rfl rfl ?_
      refine k_get 57 dX2_seekHaste_54 rfl fX2_seekHaste_29 (by (repeat (refine Is.ne ?_ (by omega))); first | assumption | exact Is.up (by omega)) (by rfl) ?_
      refine k_iload_n 58 dX2_seekHaste_57 rfl rfl rfl ?_
      refine k_iload_n 59 dX2_seekHaste_58 rfl rfl rfl ?_
      refine k_V2 (ci := 3) 62 dX2_seekHaste_59 rfl vX2_seekHaste_81 (by (repeat (refine Is.ne ?_ (by omega))); first | assumption | exact Is.up (by omega)) rfl rfl (Nat.le_of_ble_eq_true rfl) rfl ⟨Nat.le_of_ble_eq_true rfl, Nat.le_of_ble_eq_true rfl⟩ (c_X4_canLet hb5 hL7 hQ (by omega) (by omega)) (fun r9 w9 h9 => ?_)
      obtain ⟨h8, h9⟩ := h9
      subst h8
      have h9 := h9.symm
      subst h9
      refine k_if_eqB 100 65 dX2_seekHaste_62 rfl rfl (fun c9 => ?_) (fun c9 => ?_)
      · refine k_iinc _ _ 103 dX2_seekHaste_100 rfl rfl (nI_inc _) (by decide) rfl rfl ?_
        refine k_goto 42 dX2_seekHaste_103 rfl ?_
        refine ih (k + 1) w5 (by omega) ?_ hT hE
        simp only [hsi]
        rw [if_neg (by simp [c9])]
        exact hB
      · obtain ⟨tl, twh, tpu, tdb, tlen, tg, hR⟩ := hT
        obtain ⟨t0, -⟩ := id hR
        refine k_aload_n 66 dX2_seekHaste_65 rfl rfl rfl ?_
        refine k_get 69 dX2_seekHaste_66 rfl fX2_seekHaste_12 (by (repeat (refine Is.ne ?_ (by omega))); first | assumption | exact Is.up (by omega)) (by rfl) ?_
        refine k_aload_n 70 dX2_seekHaste_69 rfl rfl rfl ?_
        refine k_get 73 dX2_seekHaste_70 rfl fX2_seekHaste_29 (by (repeat (refine Is.ne ?_ (by omega))); first | assumption | exact Is.up (by omega)) (by rfl) ?_
        refine k_V1 (ci := 3) 76 dX2_seekHaste_73 rfl vX2_seekHaste_32 (by (repeat (refine Is.ne ?_ (by omega))); first | assumption | exact Is.up (by omega)) rfl rfl (Nat.le_of_ble_eq_true rfl) rfl ⟨Nat.le_of_ble_eq_true rfl, Nat.le_of_ble_eq_true rfl⟩ (c_X4_copyFrom hR hb5 (by omega) hn7 hL7) (fun r6 w6 x6 => ?_)
        obtain ⟨rfl, hS6, hE6⟩ := x6
        have h6 := h5.eqx hE6 (by omega)
        obtain ⟨l6, wh6, pu6, db6, ⟨t0, -⟩, -⟩ := id hS6
        refine k_aload_n 77 dX2_seekHaste_76 rfl rfl rfl ?_
        refine k_get 80 dX2_seekHaste_77 rfl fX2_seekHaste_12 (by (repeat (refine Is.ne ?_ (by omega))); first | assumption | exact Is.up (by omega)) (by rfl) ?_
        refine k_iload_n 81 dX2_seekHaste_80 rfl rfl rfl ?_
        refine k_iload_n 82 dX2_seekHaste_81 rfl rfl rfl ?_
        refine k_V2 (ci := 3) 85 dX2_seekHaste_82 rfl vX2_seekHaste_85 (by (repeat (refine Is.ne ?_ (by omega))); first | assumption | exact Is.up (by omega)) rfl rfl (Nat.le_of_ble_eq_true rfl) rfl ⟨Nat.le_of_ble_eq_true rfl, Nat.le_of_ble_eq_true rfl⟩ (c_X4_letPast hS6 hO c9) (fun r7 w7 x7 => ?_)
        obtain ⟨rfl, hS7, hE7⟩ := x7
        have h7 := h6.eqx hE7 (by omega)
        have hF7 := (hF5.fr hE6 (by omega)).fr hE7 (by omega)
        have hO7 := ok_letp hO c9
        have hG7 : mG (letp M one k) = mG M := by
          unfold letp
          cases plc M one <;> cases plc M k <;> rfl
        refine k_aload_n 86 dX2_seekHaste_85 rfl rfl rfl ?_
        refine k_bipush (nI 10) 88 dX2_seekHaste_86 rfl kb_10 ?_
        refine k_iload_n 89 dX2_seekHaste_88 rfl rfl rfl ?_
        first | refine k_imulE _ 90 dX2_seekHaste_89 rfl (pk_mul _ _) ?_ | refine k_imul 90 dX2_seekHaste_89 rfl ?_
        refine k_iload_n 91 dX2_seekHaste_90 rfl rfl rfl ?_
        first | refine k_iaddE _ 92 dX2_seekHaste_91 rfl (nI_add _ _) ?_ | refine k_iadd 92 dX2_seekHaste_91 rfl ?_
        refine k_aload_n 93 dX2_seekHaste_92 rfl rfl rfl ?_
        refine k_iload_n 94 dX2_seekHaste_93 rfl rfl rfl ?_
        refine k_V1 (ci := 2) 97 dX2_seekHaste_94 rfl vX2_seekHaste_40 (by (repeat (refine Is.ne ?_ (by omega))); first | assumption | exact Is.up (by omega)) rfl rfl (Nat.le_of_ble_eq_true rfl) rfl ⟨Nat.le_of_ble_eq_true rfl, Nat.le_of_ble_eq_true rfl⟩ (c_X2_waitInTrialOf h7 hF7 hca hS7 hO7 hK hn hp (by omega)) (fun r8 w8 x8 => ?_)
        obtain ⟨rfl, hT8, hE8⟩ := x8
        have hB8 := ((hB.fr hE6 (by omega)).fr hE7 (by omega)).fr hE8 (by omega)
        have h8 := h7.eqx hE8 (by omega)
        refine k_V2 (ci := 2) 100 dX2_seekHaste_97 rfl vX2_seekHaste_73 (by (repeat (refine Is.ne ?_ (by omega))); first | assumption | exact Is.up (by omega)) rfl rfl (Nat.le_of_ble_eq_true rfl) rfl ⟨Nat.le_of_ble_eq_true rfl, Nat.le_of_ble_eq_true rfl⟩ (c_X2_offerSoonest hB8 (fun i hi => by have := wtn_b i hi; omega)) (fun r9 w9 x9 => ?_)
        obtain ⟨rfl, hB9, hE9⟩ := x9
        refine k_iinc _ _ 103 dX2_seekHaste_100 rfl rfl (nI_inc _) (by decide) rfl rfl ?_
        refine k_goto 42 dX2_seekHaste_103 rfl ?_
        refine ih (k + 1) w9 (by omega) ?_ (hT8.fr hE9 (by omega)) (hE.tr ((((hE6.wd (by omega) (by omega)).tr (hE7.wd (by omega) (by omega))).tr (hE8.wd (by omega) (by omega))).tr (hE9.wd (by omega) (by omega))))
        simp only [hsi]
        rw [if_pos c9]
        exact hB9
  have outer : ∀ d i (w5 : WD), i + d = oN F → FsB G N w5 a fo b (hso F M p i) → TrG G N w5 (a + 1) → Eqx w w5 a (a + 6) → KRun G jX2_seekHaste N (fun r w1 => r = none ∧ FsB G N w1 a fo b (hso F M p (oN F)) ∧ TrG G N w1 (a + 1) ∧ Eqx w w1 a (a + 6)) 29 [some (rf G a), some (.int (nI p)), some (.int (nI i)), none] [] 0 0 w5 := by
    intro d
    induction d with
    | zero =>
      intro i w5 hi hB hT hE
      have hF5 := hF.fr hE (by omega)
      obtain ⟨kd, wo, pe, ⟨f0, -⟩, -⟩ := id hF5
      obtain ⟨ch5, va5, h5, -⟩ := id hB
      refine k_iload_n 30 dX2_seekHaste_29 rfl rfl rfl ?_
      refine k_aload_n 31 dX2_seekHaste_30 rfl rfl rfl ?_
      refine k_get 34 dX2_seekHaste_31 rfl fX2_seekHaste_25 (by (repeat (refine Is.ne ?_ (by omega))); first | assumption | exact Is.up (by omega)) (by rfl) ?_
      refine k_get 37 dX2_seekHaste_34 rfl fX2_seekHaste_76 (by (repeat (refine Is.ne ?_ (by omega))); first | assumption | exact Is.up (by omega)) (by rfl) ?_
      refine k_icmp_geN 112 40 dX2_seekHaste_37 rfl rfl (by omega) (by omega) (fun c => ?_) (fun c => ?_)
      · refine k_vret dX2_seekHaste_112 rfl rfl (Nat.le_of_ble_eq_true rfl) ⟨rfl, by rw [show oN F = i by omega]; exact hB, hT, hE⟩
      · omega
    | succ d ih =>
      intro i w5 hi hB hT hE
      have hF5 := hF.fr hE (by omega)
      obtain ⟨kd, wo, pe, ⟨f0, -⟩, -⟩ := id hF5
      obtain ⟨ch5, va5, h5, -⟩ := id hB
      refine k_iload_n 30 dX2_seekHaste_29 rfl rfl rfl ?_
      refine k_aload_n 31 dX2_seekHaste_30 rfl rfl rfl ?_
      refine k_get 34 dX2_seekHaste_31 rfl fX2_seekHaste_25 (by (repeat (refine Is.ne ?_ (by omega))); first | assumption | exact Is.up (by omega)) (by rfl) ?_
      refine k_get 37 dX2_seekHaste_34 rfl fX2_seekHaste_76 (by (repeat (refine Is.ne ?_ (by omega))); first | assumption | exact Is.up (by omega)) (by rfl) ?_
      refine k_icmp_geN 112 40 dX2_seekHaste_37 rfl rfl (by omega) (by omega) (fun c => ?_) (fun c => ?_)
      · omega
      refine k_iconst (nI 0) 41 dX2_seekHaste_40 rfl kc_0 ?_
      refine k_istore_n _ 42 dX2_seekHaste_41 rfl rfl (by decide) rfl rfl ?_
      refine inner i (hso F M p i) (fun w6 hB6 hT6 hE6 => ?_) (by omega) (oN F) 0 w5 (by omega) hB hT hE
      have hF6 := hF.fr hE6 (by omega)
      refine k_iinc _ _ 109 dX2_seekHaste_106 rfl rfl (nI_inc _) (by decide) rfl rfl ?_
      refine k_goto 29 dX2_seekHaste_109 rfl ?_
      exact ih (i + 1) w6 (by omega) hB6 hT6 hE6
  refine outer (oN F) 0 w3 (by omega) hB3 (hT2.fr hE3 (by omega)) hE4
theorem c_X2_seekMiss {G : KG} {N : Nat} {w : WD} {a fo b n : Nat} {x : Value} {ch va : Int32} {M : Mo} {F : Fo} (h : Is N w a (FsX G a fo b x (.int ch) (.int va))) (hF : FkM G N w fo F) (hca : fo + 4 ≤ a) (hb : ScM G N w b n M) (hba : b + 5 ≤ a) (ht : TrG G N w (a + 1)) (hO : mOK n M) (hK : oOK F) (hn : n = oN F) (hG : mG M + 400 < 2000) : KCon G jX2_seekMiss N w [rf G a] (fun r w1 => r = none ∧ FsB G N w1 a fo b (msd F M (oN F)) ∧ TrG G N w1 (a + 1) ∧ Eqx w w1 a (a + 6)) := by
  have hn7 := hO.2.1
  have hL7 := ok_l7 hO
  have hQ := ok_q7 hO
  have hN := h.1
  refine KCon.of ([some (rf G a), none]) (by decide) rfl (by simp [Value.category]) (Nat.le_of_ble_eq_true rfl) rfl ?_
  refine k_aload_n 1 dX2_seekMiss_0 rfl rfl rfl ?_
  refine k_iconst (nI 0) 2 dX2_seekMiss_1 rfl kc_0 ?_
  refine k_put 5 dX2_seekMiss_2 rfl pX2_seekMiss_52 (by (repeat (refine Is.ne ?_ (by omega))); first | assumption | exact Is.up (by omega)) (Nat.le_of_ble_eq_true rfl) rfl rfl ?_
  refine k_iconst (nI 0) 6 dX2_seekMiss_5 rfl kc_0 ?_
  refine k_istore_n _ 7 dX2_seekMiss_6 rfl rfl (by decide) rfl rfl ?_
  refine k_nm (fun w0 hw0 => ?_)
  have hB0 : FsB G N w0 a fo b none := by
    rw [hw0]
    exact ⟨ch, va, (by (repeat (refine Is.ne ?_ (by omega))); first | assumption | exact Is.up (by omega)), fun x e => by cases e⟩
  have hE0 : Eqx w w0 a (a + 1) := by
    rw [hw0]
    exact (by (repeat (refine Eqx.up ?_ (by omega) (by omega))); first | exact Eqx.rf | assumption)
  clear hw0
  have loop : ∀ d p (w1 : WD), p + d = oN F → FsB G N w1 a fo b (msd F M p) → TrG G N w1 (a + 1) → Eqx w w1 a (a + 6) → KRun G jX2_seekMiss N (fun r w1 => r = none ∧ FsB G N w1 a fo b (msd F M (oN F)) ∧ TrG G N w1 (a + 1) ∧ Eqx w w1 a (a + 6)) 7 [some (rf G a), some (.int (nI p))] [] 0 0 w1 := by
    intro d
    induction d with
    | zero =>
      intro p w1 hp hB hT hE
      have hF1 := hF.fr hE (by omega)
      obtain ⟨kd, wo, pe, ⟨f0, -⟩, -⟩ := id hF1
      obtain ⟨ch1, va1, h1, -⟩ := id hB
      refine k_iload_n 8 dX2_seekMiss_7 rfl rfl rfl ?_
      refine k_aload_n 9 dX2_seekMiss_8 rfl rfl rfl ?_
      refine k_get 12 dX2_seekMiss_9 rfl fX2_seekMiss_25 (by (repeat (refine Is.ne ?_ (by omega))); first | assumption | exact Is.up (by omega)) (by rfl) ?_
      refine k_get 15 dX2_seekMiss_12 rfl fX2_seekMiss_76 (by (repeat (refine Is.ne ?_ (by omega))); first | assumption | exact Is.up (by omega)) (by rfl) ?_
      refine k_icmp_geN 78 18 dX2_seekMiss_15 rfl rfl (by omega) (by omega) (fun c => ?_) (fun c => ?_)
      · refine k_vret dX2_seekMiss_78 rfl rfl (Nat.le_of_ble_eq_true rfl) ⟨rfl, by rw [show oN F = p by omega]; exact hB, hT, hE⟩
      · omega
    | succ d ih =>
      intro p w1 hp hB hT hE
      have hF1 := hF.fr hE (by omega)
      have hb1 := hb.fr hE (by omega)
      obtain ⟨kd, wo, pe, ⟨f0, -⟩, -⟩ := id hF1
      obtain ⟨ch1, va1, h1, -⟩ := id hB
      obtain ⟨l, wh, pu, db, ⟨b0, b1, b2, b3, b4⟩, -⟩ := id hb1
      refine k_iload_n 8 dX2_seekMiss_7 rfl rfl rfl ?_
      refine k_aload_n 9 dX2_seekMiss_8 rfl rfl rfl ?_
      refine k_get 12 dX2_seekMiss_9 rfl fX2_seekMiss_25 (by (repeat (refine Is.ne ?_ (by omega))); first | assumption | exact Is.up (by omega)) (by rfl) ?_
      refine k_get 15 dX2_seekMiss_12 rfl fX2_seekMiss_76 (by (repeat (refine Is.ne ?_ (by omega))); first | assumption | exact Is.up (by omega)) (by rfl) ?_
      refine k_icmp_geN 78 18 dX2_seekMiss_15 rfl rfl (by omega) (by omega) (fun c => ?_) (fun c => ?_)
      · omega
      refine k_aload_n 19 dX2_seekMiss_18 rfl rfl rfl ?_
      refine k_get 22 dX2_seekMiss_19 rfl fX2_seekMiss_29 (by (repeat (refine Is.ne ?_ (by omega))); first | assumption | exact Is.up (by omega)) (by rfl) ?_
      refine k_iload_n 23 dX2_seekMiss_22 rfl rfl rfl ?_
      refine k_V1 (ci := 3) 26 dX2_seekMiss_23 rfl vX2_seekMiss_88 (by (repeat (refine Is.ne ?_ (by omega))); first | assumption | exact Is.up (by omega)) rfl rfl (Nat.le_of_ble_eq_true rfl) rfl ⟨Nat.le_of_ble_eq_true rfl, Nat.le_of_ble_eq_true rfl⟩ (c_X4_isQueued hb1 hL7 hQ (by omega)) (fun r9 w9 h9 => ?_)
      obtain ⟨h8, h9⟩ := h9
      subst h8
      have h9 := h9.symm
      subst h9
      refine k_if_eqB 72 29 dX2_seekMiss_26 rfl rfl (fun c9 => ?_) (fun c9 => ?_)
      · refine k_iinc _ _ 75 dX2_seekMiss_72 rfl rfl (nI_inc _) (by decide) rfl rfl ?_
        refine k_goto 7 dX2_seekMiss_75 rfl ?_
        refine ih (p + 1) w1 (by omega) ?_ hT hE
        cases e : plc M p with
        | none => simp only [msd, e]; exact hB
        | some j => rw [e] at c9; exact absurd c9 (by simp)
      · cases e : plc M p with
        | none => rw [e] at c9; exact absurd c9 (by simp)
        | some j =>
          obtain ⟨hj1, hj2⟩ := plc_some e
          obtain ⟨tl, twh, tpu, tdb, tlen, tg, hR⟩ := hT
          obtain ⟨t0, -⟩ := id hR
          refine k_aload_n 30 dX2_seekMiss_29 rfl rfl rfl ?_
          refine k_get 33 dX2_seekMiss_30 rfl fX2_seekMiss_12 (by (repeat (refine Is.ne ?_ (by omega))); first | assumption | exact Is.up (by omega)) (by rfl) ?_
          refine k_aload_n 34 dX2_seekMiss_33 rfl rfl rfl ?_
          refine k_get 37 dX2_seekMiss_34 rfl fX2_seekMiss_29 (by (repeat (refine Is.ne ?_ (by omega))); first | assumption | exact Is.up (by omega)) (by rfl) ?_
          refine k_V1 (ci := 3) 40 dX2_seekMiss_37 rfl vX2_seekMiss_32 (by (repeat (refine Is.ne ?_ (by omega))); first | assumption | exact Is.up (by omega)) rfl rfl (Nat.le_of_ble_eq_true rfl) rfl ⟨Nat.le_of_ble_eq_true rfl, Nat.le_of_ble_eq_true rfl⟩ (c_X4_copyFrom hR hb1 (by omega) hn7 hL7) (fun r2 w2 x2 => ?_)
          obtain ⟨rfl, hS2, hE2⟩ := x2
          have h2 := h1.eqx hE2 (by omega)
          obtain ⟨l2, wh2, pu2, db2, ⟨t0, -⟩, -⟩ := id hS2
          refine k_aload_n 41 dX2_seekMiss_40 rfl rfl rfl ?_
          refine k_get 44 dX2_seekMiss_41 rfl fX2_seekMiss_12 (by (repeat (refine Is.ne ?_ (by omega))); first | assumption | exact Is.up (by omega)) (by rfl) ?_
          refine k_iload_n 45 dX2_seekMiss_44 rfl rfl rfl ?_
          refine k_iconst (nI 2) 46 dX2_seekMiss_45 rfl kc_2 ?_
          refine k_V2 (ci := 3) 49 dX2_seekMiss_46 rfl vX2_seekMiss_60 (by (repeat (refine Is.ne ?_ (by omega))); first | assumption | exact Is.up (by omega)) rfl rfl (Nat.le_of_ble_eq_true rfl) rfl ⟨Nat.le_of_ble_eq_true rfl, Nat.le_of_ble_eq_true rfl⟩ (c_X4_takeOut hS2 hO hj1 hj2) (fun r3 w3 x3 => ?_)
          obtain ⟨rfl, hS3, hE3⟩ := x3
          have h3 := h2.eqx hE3 (by omega)
          have hF3 := (hF1.fr hE2 (by omega)).fr hE3 (by omega)
          have hO3 := ok_rem hO (k := j) (st := 2) hj1 (by omega) (by omega)
          obtain ⟨l3, wh3, pu3, db3, ⟨t0, -⟩, -⟩ := id hS3
          refine k_aload_n 50 dX2_seekMiss_49 rfl rfl rfl ?_
          refine k_get 53 dX2_seekMiss_50 rfl fX2_seekMiss_12 (by (repeat (refine Is.ne ?_ (by omega))); first | assumption | exact Is.up (by omega)) (by rfl) ?_
          refine k_aload_n 54 dX2_seekMiss_53 rfl rfl rfl ?_
          refine k_get 57 dX2_seekMiss_54 rfl fX2_seekMiss_25 (by (repeat (refine Is.ne ?_ (by omega))); first | assumption | exact Is.up (by omega)) (by rfl) ?_
          refine k_bipush (nI 10) 59 dX2_seekMiss_57 rfl kb_10 ?_
          refine k_V2 (ci := 3) 62 dX2_seekMiss_59 rfl vX2_seekMiss_36 (by (repeat (refine Is.ne ?_ (by omega))); first | assumption | exact Is.up (by omega)) rfl rfl (Nat.le_of_ble_eq_true rfl) rfl ⟨Nat.le_of_ble_eq_true rfl, Nat.le_of_ble_eq_true rfl⟩ (c_X4_run hS3 hF3 (by omega) hO3 hK hn (show mG M + 10 + 300 < 2000 by omega)) (fun r4 w4 x4 => ?_)
          obtain ⟨rfl, hS4, hE4⟩ := x4
          have h4 := h3.eqx hE4 (by omega)
          obtain ⟨hO4, -⟩ := ok_mns hO3 hK hn 10 (show mG M + 10 ≤ 2000 by omega)
          obtain ⟨M4, hM4⟩ : ∃ z, z = mns F (rem M j 2) 10 := ⟨_, rfl⟩
          rw [← hM4] at hS4 hO4
          have hE5 : Eqx w1 w4 (a + 1) (a + 6) := (hE2.tr hE3).tr hE4
          have hB4 := hB.fr hE5 (by omega)
          have hb4 := hb1.fr hE5 (by omega)
          have hm := msm_b (p := p) hO4 hO (mL M) (Nat.le_refl _)
          refine k_aload_n 63 dX2_seekMiss_62 rfl rfl rfl ?_
          refine k_iload_n 64 dX2_seekMiss_63 rfl rfl rfl ?_
          refine k_aload_n 65 dX2_seekMiss_64 rfl rfl rfl ?_
          refine k_iload_n 66 dX2_seekMiss_65 rfl rfl rfl ?_
          refine k_V1 (ci := 2) 69 dX2_seekMiss_66 rfl vX2_seekMiss_91 (by (repeat (refine Is.ne ?_ (by omega))); first | assumption | exact Is.up (by omega)) rfl rfl (Nat.le_of_ble_eq_true rfl) rfl ⟨Nat.le_of_ble_eq_true rfl, Nat.le_of_ble_eq_true rfl⟩ (c_X2_duesInTrialOfOthers h4 hS4 hb4 hO (by omega)) (fun r9 w9 h9 => ?_)
          obtain ⟨h8, h9⟩ := h9
          subst h8
          have h9 := h9.symm
          subst h9
          refine k_V2 (ci := 2) 72 dX2_seekMiss_69 rfl vX2_seekMiss_70 (by (repeat (refine Is.ne ?_ (by omega))); first | assumption | exact Is.up (by omega)) rfl rfl (Nat.le_of_ble_eq_true rfl) rfl ⟨Nat.le_of_ble_eq_true rfl, Nat.le_of_ble_eq_true rfl⟩ (c_X2_offerMost hB4 (by omega) (by omega)) (fun r6 w6 x6 => ?_)
          obtain ⟨rfl, hB6, hE6⟩ := x6
          refine k_iinc _ _ 75 dX2_seekMiss_72 rfl rfl (nI_inc _) (by decide) rfl rfl ?_
          refine k_goto 7 dX2_seekMiss_75 rfl ?_
          refine ih (p + 1) w6 (by omega) ?_ (hS4.g.fr hE6 (by omega)) (hE.tr ((hE5.wd (by omega) (by omega)).tr (hE6.wd (by omega) (by omega))))
          simp only [msd, e]
          rw [← hM4]
          exact hB6
  exact loop (oN F) 0 w0 (by omega) hB0 (ht.fr hE0 (by omega)) (hE0.wd (by omega) (by omega))
