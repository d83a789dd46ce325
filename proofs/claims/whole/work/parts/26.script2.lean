/-! Script: items, the whole text -/
theorem c_X5_add {G : KG} {N : Nat} {w : WD} {a t at_ x : Nat} {T : Nat → Nat} {nums : Nat → Int32} (h : ScrI G N w a T t at_ nums) (ht : t < 200) (hx : x < 200) : KCon G jX5_add N w [rf G a, .int (nI x)] (fun r w1 => r = none ∧ ScrI G N w1 a (sf T t x) (t + 1) at_ nums ∧ Eqx w w1 a (a + 12)) := by
  obtain ⟨h0, ⟨lt, h1, hl⟩, h2, ht2, hT⟩ := h
  have hN := h2.1
  refine KCon.of ([some (rf G a), some (.int (nI x))]) (by decide) rfl (by simp [Value.category]) (Nat.le_of_ble_eq_true rfl) rfl ?_
  refine k_aload_n 1 dX5_add_0 rfl rfl rfl ?_
  refine k_get 4 dX5_add_1 rfl fX5_add_25 (by (repeat (refine Is.ne ?_ (by omega))); first | assumption | exact Is.up (by omega)) (by rfl) ?_
  refine k_aload_n 5 dX5_add_4 rfl rfl rfl ?_
  refine k_get 8 dX5_add_5 rfl fX5_add_32 (by (repeat (refine Is.ne ?_ (by omega))); first | assumption | exact Is.up (by omega)) (by rfl) ?_
  refine k_iload_n 9 dX5_add_8 rfl rfl rfl ?_
  refine k_S3 12 dX5_add_9 rfl vX5_add_36 (Nat.le_of_ble_eq_true rfl) rfl ⟨Nat.le_of_ble_eq_true rfl, Nat.le_of_ble_eq_true rfl⟩ (c_X3_put h1 (by omega) (by omega)) (fun r9 w9 h9 => ?_)
  obtain ⟨h8, h9⟩ := h9
  subst h8
  have h9 := h9.symm
  subst h9
  refine k_aload_n 13 dX5_add_12 rfl rfl rfl ?_
  refine k_dup 14 dX5_add_13 rfl rfl ?_
  refine k_get 17 dX5_add_14 rfl fX5_add_32 (by (repeat (refine Is.ne ?_ (by omega))); first | assumption | exact Is.up (by omega)) (by rfl) ?_
  refine k_iconst (nI 1) 18 dX5_add_17 rfl kc_1 ?_
  first | refine k_iaddE _ 19 dX5_add_18 rfl (nI_add _ _) ?_ | refine k_iadd 19 dX5_add_18 rfl ?_
  refine k_put 22 dX5_add_19 rfl pX5_add_32 (by (repeat (refine Is.ne ?_ (by omega))); first | assumption | exact Is.up (by omega)) (Nat.le_of_ble_eq_true rfl) rfl rfl ?_
  refine k_vret dX5_add_22 rfl rfl (Nat.le_of_ble_eq_true rfl) ⟨rfl, ⟨(by (repeat (refine Is.ne ?_ (by omega))); first | assumption | exact Is.up (by omega)), ⟨_, (by (repeat (refine Is.ne ?_ (by omega))); first | assumption | exact Is.up (by omega)), fun i hi => ?_⟩, (by (repeat (refine Is.ne ?_ (by omega))); first | assumption | exact Is.up (by omega)), by omega, fun i => ?_⟩, (by (repeat (refine Eqx.up ?_ (by omega) (by omega))); first | exact Eqx.rf | assumption)⟩
  · by_cases e : i = t
    · subst e
      rw [upd_s, sf_s]
    · rw [upd_n _ _ e, sf_n _ _ e, hl i (by omega)]
  · by_cases e : i = t
    · subst e
      rw [sf_s]
      exact hx
    · rw [sf_n _ _ e]
      exact hT i
theorem c_X4_appendR {G : KG} {N : Nat} {w : WD} {a p L g : Nat} {l wh pu db : Nat → Int32} (h : ScR G N w a l wh pu db L g) (hL : L < 7) (hp : p < 7) : KCon G jX4_append N w [rf G a, .int (nI p)] (fun r w1 => r = none ∧ (∃ l1 : Nat → Int32, ScR G N w1 a l1 (upd wh p (nI 0)) pu db (L + 1) g ∧ ∀ j, j ≤ L → l1 j = if j < L then l j else if j = L then nI p else l (j - 1)) ∧ Eqx w w1 a (a + 5)) := by
  have h9 := h
  obtain ⟨h0, -⟩ := h9
  refine KCon.of ([some (rf G a), some (.int (nI p))]) (by decide) rfl (by simp [Value.category]) (Nat.le_of_ble_eq_true rfl) rfl ?_
  refine k_aload_n 1 dX4_append_0 rfl rfl rfl ?_
  refine k_iload_n 2 dX4_append_1 rfl rfl rfl ?_
  refine k_aload_n 3 dX4_append_2 rfl rfl rfl ?_
  refine k_get 6 dX4_append_3 rfl fX4_append_24 (by (repeat (refine Is.ne ?_ (by omega))); first | assumption | exact Is.up (by omega)) (by rfl) ?_
  refine k_V2 (ci := 3) 9 dX4_append_6 rfl vX4_append_58 (by (repeat (refine Is.ne ?_ (by omega))); first | assumption | exact Is.up (by omega)) rfl rfl (Nat.le_of_ble_eq_true rfl) rfl ⟨Nat.le_of_ble_eq_true rfl, Nat.le_of_ble_eq_true rfl⟩ (c_X4_insertR h hL (Nat.le_refl _) hp) (fun r1 w1 h1 => ?_)
  obtain ⟨rfl, h1⟩ := h1
  refine k_vret dX4_append_9 rfl rfl (Nat.le_of_ble_eq_true rfl) ⟨rfl, h1⟩
theorem c_X5_tellPerson {G : KG} {N : Nat} {w : WD} {a t at_ : Nat} {T : Nat → Nat} {nums : Nat → Int32} {F : Fo} {M : Mo} {l : List Nat} (h : ScrI G N w a T t at_ nums) (hF : FkM G N w (a + 1) F) (hM : ScM G N w (a + 5) (oN F) M) (hp : pOK (F, M)) (hl : ∀ q, q < 4 → nums q = nI (l.getD q 0)) (hb : ∀ q, l.getD q 0 < 100) : KCon G jX5_tellPerson N w [rf G a] (fun r w1 => (l.getD 0 0 ≤ 3 ∧ l.getD 1 0 ≤ 20 ∧ 1 ≤ l.getD 2 0 ∧ l.getD 2 0 ≤ 9 ∧ l.getD 3 0 ≤ 60 ∧ oN F < 7) ∧ r = some (.int (nI 1)) ∧ FkM G N w1 (a + 1) (addF F (l.getD 0 0) (l.getD 1 0) (l.getD 2 0)) ∧ ScM G N w1 (a + 5) (oN F + 1) (addM F M (l.getD 3 0)) ∧ Eqx w w1 (a + 1) (a + 10) ∨ ¬ (l.getD 0 0 ≤ 3 ∧ l.getD 1 0 ≤ 20 ∧ 1 ≤ l.getD 2 0 ∧ l.getD 2 0 ≤ 9 ∧ l.getD 3 0 ≤ 60 ∧ oN F < 7) ∧ r = some (.int (nI 0)) ∧ w1 = w) := by
  obtain ⟨h0, ⟨lt, h1, hl1⟩, h2, ht2, hT⟩ := h
  have hF9 := hF
  obtain ⟨kd, wo, pe, ⟨f0, f1, f2, f3⟩, fr⟩ := hF9
  obtain ⟨ll, wh, pu, db, ⟨s0, s1, s2, s3, s4⟩, sl, sw, su, sd⟩ := hM
  have hN := h2.1
  have b0 := hb 0
  have b1 := hb 1
  have b2 := hb 2
  have b3 := hb 3
  have hn7 : oN F ≤ 7 := hp.1.1
  have hLn : mL M = oN F := hp.2.1
  refine KCon.of ([some (rf G a), none, none, none, none]) (by decide) rfl (by simp [Value.category]) (Nat.le_of_ble_eq_true rfl) rfl ?_
  refine k_aload_n 1 dX5_tellPerson_0 rfl rfl rfl ?_
  refine k_get 4 dX5_tellPerson_1 rfl fX5_tellPerson_29 (by (repeat (refine Is.ne ?_ (by omega))); first | assumption | exact Is.up (by omega)) (by rfl) ?_
  refine k_iconst (nI 0) 5 dX5_tellPerson_4 rfl kc_0 ?_
  refine k_S2 8 dX5_tellPerson_5 rfl vX5_tellPerson_76 (Nat.le_of_ble_eq_true rfl) rfl ⟨Nat.le_of_ble_eq_true rfl, Nat.le_of_ble_eq_true rfl⟩ (c_X3_at h2 (by omega) (by omega)) (fun r9 w9 h9 => ?_)
  obtain ⟨h8, h9⟩ := h9
  subst h8
  have h9 := h9.symm
  subst h9
  rw [hl 0 (by omega)]
  refine k_istore_n _ 9 dX5_tellPerson_8 rfl rfl (by decide) rfl rfl ?_
  refine k_aload_n 10 dX5_tellPerson_9 rfl rfl rfl ?_
  refine k_get 13 dX5_tellPerson_10 rfl fX5_tellPerson_29 (by (repeat (refine Is.ne ?_ (by omega))); first | assumption | exact Is.up (by omega)) (by rfl) ?_
  refine k_iconst (nI 1) 14 dX5_tellPerson_13 rfl kc_1 ?_
  refine k_S2 17 dX5_tellPerson_14 rfl vX5_tellPerson_76 (Nat.le_of_ble_eq_true rfl) rfl ⟨Nat.le_of_ble_eq_true rfl, Nat.le_of_ble_eq_true rfl⟩ (c_X3_at h2 (by omega) (by omega)) (fun r9 w9 h9 => ?_)
  obtain ⟨h8, h9⟩ := h9
  subst h8
  have h9 := h9.symm
  subst h9
  rw [hl 1 (by omega)]
  refine k_istore_n _ 18 dX5_tellPerson_17 rfl rfl (by decide) rfl rfl ?_
  refine k_aload_n 19 dX5_tellPerson_18 rfl rfl rfl ?_
  refine k_get 22 dX5_tellPerson_19 rfl fX5_tellPerson_29 (by (repeat (refine Is.ne ?_ (by omega))); first | assumption | exact Is.up (by omega)) (by rfl) ?_
  refine k_iconst (nI 2) 23 dX5_tellPerson_22 rfl kc_2 ?_
  refine k_S2 26 dX5_tellPerson_23 rfl vX5_tellPerson_76 (Nat.le_of_ble_eq_true rfl) rfl ⟨Nat.le_of_ble_eq_true rfl, Nat.le_of_ble_eq_true rfl⟩ (c_X3_at h2 (by omega) (by omega)) (fun r9 w9 h9 => ?_)
  obtain ⟨h8, h9⟩ := h9
  subst h8
  have h9 := h9.symm
  subst h9
  rw [hl 2 (by omega)]
  refine k_istore_n _ 27 dX5_tellPerson_26 rfl rfl (by decide) rfl rfl ?_
  refine k_aload_n 28 dX5_tellPerson_27 rfl rfl rfl ?_
  refine k_get 31 dX5_tellPerson_28 rfl fX5_tellPerson_29 (by (repeat (refine Is.ne ?_ (by omega))); first | assumption | exact Is.up (by omega)) (by rfl) ?_
  refine k_iconst (nI 3) 32 dX5_tellPerson_31 rfl kc_3 ?_
  refine k_S2 35 dX5_tellPerson_32 rfl vX5_tellPerson_76 (Nat.le_of_ble_eq_true rfl) rfl ⟨Nat.le_of_ble_eq_true rfl, Nat.le_of_ble_eq_true rfl⟩ (c_X3_at h2 (by omega) (by omega)) (fun r9 w9 h9 => ?_)
  obtain ⟨h8, h9⟩ := h9
  subst h8
  have h9 := h9.symm
  subst h9
  rw [hl 3 (by omega)]
  refine k_istore _ 37 dX5_tellPerson_35 rfl (by decide) rfl rfl ?_
  refine k_iload_n 38 dX5_tellPerson_37 rfl rfl rfl ?_
  refine k_iconst (nI 3) 39 dX5_tellPerson_38 rfl kc_3 ?_
  generalize l.getD 0 0 = k at *
  generalize l.getD 1 0 = v at *
  generalize l.getD 2 0 = o at *
  generalize l.getD 3 0 = m at *
  have bad : ¬ (k ≤ 3 ∧ v ≤ 20 ∧ 1 ≤ o ∧ o ≤ 9 ∧ m ≤ 60 ∧ oN F < 7) → KRun G jX5_tellPerson N (fun r w1 => (k ≤ 3 ∧ v ≤ 20 ∧ 1 ≤ o ∧ o ≤ 9 ∧ m ≤ 60 ∧ oN F < 7) ∧ r = some (.int (nI 1)) ∧ FkM G N w1 (a + 1) (addF F k v o) ∧ ScM G N w1 (a + 5) (oN F + 1) (addM F M m) ∧ Eqx w w1 (a + 1) (a + 10) ∨ ¬ (k ≤ 3 ∧ v ≤ 20 ∧ 1 ≤ o ∧ o ≤ 9 ∧ m ≤ 60 ∧ oN F < 7) ∧ r = some (.int (nI 0)) ∧ w1 = w) 78 [some (rf G a), some (.int (nI k)), some (.int (nI v)), some (.int (nI o)), some (.int (nI m))] [] 0 0 w := by
    intro hbad
    refine k_iconst (nI 0) 79 dX5_tellPerson_78 rfl kc_0 ?_
    refine k_zret dX5_tellPerson_79 rfl rfl rfl (Nat.le_of_ble_eq_true rfl) (Or.inr ⟨hbad, rfl, rfl⟩)
  refine k_icmp_gtN 78 42 dX5_tellPerson_39 rfl rfl (by omega) (by omega) (fun c => ?_) (fun c => ?_)
  · exact bad (by omega)
  refine k_iload_n 43 dX5_tellPerson_42 rfl rfl rfl ?_
  refine k_bipush (nI 20) 45 dX5_tellPerson_43 rfl kb_20 ?_
  refine k_icmp_gtN 78 48 dX5_tellPerson_45 rfl rfl (by omega) (by omega) (fun c => ?_) (fun c => ?_)
  · exact bad (by omega)
  refine k_iload_n 49 dX5_tellPerson_48 rfl rfl rfl ?_
  refine k_iconst (nI 1) 50 dX5_tellPerson_49 rfl kc_1 ?_
  refine k_icmp_ltN 78 53 dX5_tellPerson_50 rfl rfl (by omega) (by omega) (fun c => ?_) (fun c => ?_)
  · exact bad (by omega)
  refine k_iload_n 54 dX5_tellPerson_53 rfl rfl rfl ?_
  refine k_bipush (nI 9) 56 dX5_tellPerson_54 rfl kb_9 ?_
  refine k_icmp_gtN 78 59 dX5_tellPerson_56 rfl rfl (by omega) (by omega) (fun c => ?_) (fun c => ?_)
  · exact bad (by omega)
  refine k_iload 61 dX5_tellPerson_59 rfl rfl ?_
  refine k_bipush (nI 60) 63 dX5_tellPerson_61 rfl kb_60 ?_
  refine k_icmp_gtN 78 66 dX5_tellPerson_63 rfl rfl (by omega) (by omega) (fun c => ?_) (fun c => ?_)
  · exact bad (by omega)
  refine k_aload_n 67 dX5_tellPerson_66 rfl rfl rfl ?_
  refine k_get 70 dX5_tellPerson_67 rfl fX5_tellPerson_12 (by (repeat (refine Is.ne ?_ (by omega))); first | assumption | exact Is.up (by omega)) (by rfl) ?_
  refine k_get 73 dX5_tellPerson_70 rfl fX5_tellPerson_79 (by (repeat (refine Is.ne ?_ (by omega))); first | assumption | exact Is.up (by omega)) (by rfl) ?_
  refine k_bipush (nI 7) 75 dX5_tellPerson_73 rfl kb_7 ?_
  refine k_icmp_ltN 80 78 dX5_tellPerson_75 rfl rfl (by omega) (by omega) (fun c => ?_) (fun c => ?_)
  · refine k_aload_n 81 dX5_tellPerson_80 rfl rfl rfl ?_
    refine k_get 84 dX5_tellPerson_81 rfl fX5_tellPerson_21 (by (repeat (refine Is.ne ?_ (by omega))); first | assumption | exact Is.up (by omega)) (by rfl) ?_
    refine k_get 87 dX5_tellPerson_84 rfl fX5_tellPerson_82 (by (repeat (refine Is.ne ?_ (by omega))); first | assumption | exact Is.up (by omega)) (by rfl) ?_
    refine k_aload_n 88 dX5_tellPerson_87 rfl rfl rfl ?_
    refine k_get 91 dX5_tellPerson_88 rfl fX5_tellPerson_12 (by (repeat (refine Is.ne ?_ (by omega))); first | assumption | exact Is.up (by omega)) (by rfl) ?_
    refine k_get 94 dX5_tellPerson_91 rfl fX5_tellPerson_79 (by (repeat (refine Is.ne ?_ (by omega))); first | assumption | exact Is.up (by omega)) (by rfl) ?_
    refine k_iload 96 dX5_tellPerson_94 rfl rfl ?_
    refine k_S3 99 dX5_tellPerson_96 rfl vX5_tellPerson_36 (Nat.le_of_ble_eq_true rfl) rfl ⟨Nat.le_of_ble_eq_true rfl, Nat.le_of_ble_eq_true rfl⟩ (c_X3_put s3 (by omega) (by omega)) (fun r9 w9 h9 => ?_)
    obtain ⟨h8, h9⟩ := h9
    subst h8
    have h9 := h9.symm
    subst h9
    refine k_nm (fun w2 hw2 => ?_)
    have hR2 : ScR G N w2 (a + 5) ll wh (upd pu (oN F) (nI m)) db (mL M) (mG M) := by
      rw [hw2]
      exact ⟨(by (repeat (refine Is.ne ?_ (by omega))); first | assumption | exact Is.up (by omega)), (by (repeat (refine Is.ne ?_ (by omega))); first | assumption | exact Is.up (by omega)), (by (repeat (refine Is.ne ?_ (by omega))); first | assumption | exact Is.up (by omega)), (by (repeat (refine Is.ne ?_ (by omega))); first | assumption | exact Is.up (by omega)), (by (repeat (refine Is.ne ?_ (by omega))); first | assumption | exact Is.up (by omega))⟩
    have hE2 : Eqx w w2 (a + 5) (a + 10) := by
      rw [hw2]
      exact (by (repeat (refine Eqx.up ?_ (by omega) (by omega))); first | exact Eqx.rf | assumption)
    have h02 : Is N w2 a (ob 4 [rf G (a + 1), rf G (a + 5), .int (nI t), rf G (a + 10), rf G (a + 11), .int (nI at_)]) := h0.eqx hE2 (by omega)
    have hF2 := hF.fr hE2 (by omega)
    clear hw2
    have hR9 := hR2
    obtain ⟨g0, g1, g2, g3, g4⟩ := hR9
    have hF9 := hF2
    obtain ⟨kd2, wo2, pe2, ⟨e0, e1, e2, e3⟩, er⟩ := hF9
    refine k_aload_n 100 dX5_tellPerson_99 rfl rfl rfl ?_
    refine k_get 103 dX5_tellPerson_100 rfl fX5_tellPerson_21 (by (repeat (refine Is.ne ?_ (by omega))); first | assumption | exact Is.up (by omega)) (by rfl) ?_
    refine k_aload_n 104 dX5_tellPerson_103 rfl rfl rfl ?_
    refine k_get 107 dX5_tellPerson_104 rfl fX5_tellPerson_12 (by (repeat (refine Is.ne ?_ (by omega))); first | assumption | exact Is.up (by omega)) (by rfl) ?_
    refine k_get 110 dX5_tellPerson_107 rfl fX5_tellPerson_79 (by (repeat (refine Is.ne ?_ (by omega))); first | assumption | exact Is.up (by omega)) (by rfl) ?_
    refine k_V1 (ci := 3) 113 dX5_tellPerson_110 rfl vX5_tellPerson_85 (by (repeat (refine Is.ne ?_ (by omega))); first | assumption | exact Is.up (by omega)) rfl rfl (Nat.le_of_ble_eq_true rfl) rfl ⟨Nat.le_of_ble_eq_true rfl, Nat.le_of_ble_eq_true rfl⟩ (c_X4_appendR hR2 (by omega) (by omega)) (fun r3 w3 x3 => ?_)
    obtain ⟨rfl, ⟨l3, hR3, hl3⟩, hE3⟩ := x3
    have h03 := h02.eqx hE3 (by omega)
    have hF3 := hF2.fr hE3 (by omega)
    have hF9 := hF3
    obtain ⟨kd3, wo3, pe3, ⟨e0, e1, e2, e3⟩, er⟩ := hF9
    refine k_aload_n 114 dX5_tellPerson_113 rfl rfl rfl ?_
    refine k_get 117 dX5_tellPerson_114 rfl fX5_tellPerson_12 (by (repeat (refine Is.ne ?_ (by omega))); first | assumption | exact Is.up (by omega)) (by rfl) ?_
    refine k_iload_n 118 dX5_tellPerson_117 rfl rfl rfl ?_
    refine k_iload_n 119 dX5_tellPerson_118 rfl rfl rfl ?_
    refine k_iload_n 120 dX5_tellPerson_119 rfl rfl rfl ?_
    refine k_V3 (ci := 1) 123 dX5_tellPerson_120 rfl vX5_tellPerson_89 (by (repeat (refine Is.ne ?_ (by omega))); first | assumption | exact Is.up (by omega)) rfl rfl (Nat.le_of_ble_eq_true rfl) rfl ⟨Nat.le_of_ble_eq_true rfl, Nat.le_of_ble_eq_true rfl⟩ (c_X1_add hF3 (by omega)) (fun r4 w4 x4 => ?_)
    refine k_iconst (nI 1) 124 dX5_tellPerson_123 rfl kc_1 ?_
    obtain ⟨rfl, hF4, hE4⟩ := x4
    have hR4 := hR3.fr (fun k _ _ => hE4 k (by omega))
    refine k_zret dX5_tellPerson_124 rfl rfl rfl (Nat.le_of_ble_eq_true rfl) (Or.inl ⟨by omega, rfl, hF4, ⟨l3, _, _, db, hR4, fun j hj => ?_, fun p hp => ?_, fun p hp => ?_, sd⟩, ?_⟩)
    · have hj : j < mL M + 1 := hj
      show l3 j = nI (sf (mQ M) (mL M) (oN F) j)
      rw [hl3 j (by omega)]
      by_cases e : j = mL M
      · subst e
        rw [sf_s, if_neg (by omega), if_pos rfl]
      · rw [sf_n _ _ e, if_pos (by omega), sl j (by omega)]
    · show upd wh (oN F) (nI 0) p = nI (sf (mW M) (oN F) 0 p)
      by_cases e : p = oN F
      · subst e
        rw [upd_s, sf_s]
      · rw [upd_n _ _ e, sf_n _ _ e, sw p (by omega)]
    · show upd pu (oN F) (nI m) p = nI (sf (mP M) (oN F) m p)
      by_cases e : p = oN F
      · subst e
        rw [upd_s, sf_s]
      · rw [upd_n _ _ e, sf_n _ _ e, su p (by omega)]
    · exact ((hE2.wd (by omega) (by omega)).tr (hE3.wd (by omega) (by omega))).tr (hE4.wd (by omega) (by omega))
  · exact bad (by omega)
theorem c_X5_tellServed {G : KG} {N : Nat} {w : WD} {a t at_ : Nat} {T : Nat → Nat} {nums : Nat → Int32} {F : Fo} {l : List Nat} (h : ScrI G N w a T t at_ nums) (hF : FkM G N w (a + 1) F) (hl : ∀ q, q < 1 → nums q = nI (l.getD q 0)) (hb : ∀ q, l.getD q 0 < 100) : KCon G jX5_tellServed N w [rf G a] (fun r w1 => (1 ≤ l.getD 0 0 ∧ l.getD 0 0 ≤ 9) ∧ r = some (.int (nI 1)) ∧ FkM G N w1 (a + 1) (setS F (l.getD 0 0)) ∧ Eqx w w1 (a + 1) (a + 5) ∨ ¬ (1 ≤ l.getD 0 0 ∧ l.getD 0 0 ≤ 9) ∧ r = some (.int (nI 0)) ∧ w1 = w) := by
  obtain ⟨h0, ⟨lt, h1, hl1⟩, h2, ht2, hT⟩ := h
  obtain ⟨kd, wo, pe, ⟨f0, f1, f2, f3⟩, fr⟩ := hF
  have hN := h2.1
  have b0 := hb 0
  refine KCon.of ([some (rf G a), none]) (by decide) rfl (by simp [Value.category]) (Nat.le_of_ble_eq_true rfl) rfl ?_
  refine k_aload_n 1 dX5_tellServed_0 rfl rfl rfl ?_
  refine k_get 4 dX5_tellServed_1 rfl fX5_tellServed_29 (by (repeat (refine Is.ne ?_ (by omega))); first | assumption | exact Is.up (by omega)) (by rfl) ?_
  refine k_iconst (nI 0) 5 dX5_tellServed_4 rfl kc_0 ?_
  refine k_S2 8 dX5_tellServed_5 rfl vX5_tellServed_76 (Nat.le_of_ble_eq_true rfl) rfl ⟨Nat.le_of_ble_eq_true rfl, Nat.le_of_ble_eq_true rfl⟩ (c_X3_at h2 (by omega) (by omega)) (fun r9 w9 h9 => ?_)
  obtain ⟨h8, h9⟩ := h9
  subst h8
  have h9 := h9.symm
  subst h9
  rw [hl 0 (by omega)]
  refine k_istore_n _ 9 dX5_tellServed_8 rfl rfl (by decide) rfl rfl ?_
  refine k_iload_n 10 dX5_tellServed_9 rfl rfl rfl ?_
  refine k_iconst (nI 1) 11 dX5_tellServed_10 rfl kc_1 ?_
  refine k_icmp_ltN 20 14 dX5_tellServed_11 rfl rfl (by omega) (by omega) (fun c => ?_) (fun c => ?_)
  · refine k_iconst (nI 0) 21 dX5_tellServed_20 rfl kc_0 ?_
    refine k_zret dX5_tellServed_21 rfl rfl rfl (Nat.le_of_ble_eq_true rfl) (Or.inr ⟨by omega, rfl, rfl⟩)
  have c1 := c
  refine k_iload_n 15 dX5_tellServed_14 rfl rfl rfl ?_
  refine k_bipush (nI 9) 17 dX5_tellServed_15 rfl kb_9 ?_
  refine k_icmp_leN 22 20 dX5_tellServed_17 rfl rfl (by omega) (by omega) (fun c => ?_) (fun c => ?_)
  · refine k_aload_n 23 dX5_tellServed_22 rfl rfl rfl ?_
    refine k_get 26 dX5_tellServed_23 rfl fX5_tellServed_12 (by (repeat (refine Is.ne ?_ (by omega))); first | assumption | exact Is.up (by omega)) (by rfl) ?_
    refine k_iload_n 27 dX5_tellServed_26 rfl rfl rfl ?_
    refine k_put 30 dX5_tellServed_27 rfl pX5_tellServed_93 (by (repeat (refine Is.ne ?_ (by omega))); first | assumption | exact Is.up (by omega)) (Nat.le_of_ble_eq_true rfl) rfl rfl ?_
    refine k_iconst (nI 1) 31 dX5_tellServed_30 rfl kc_1 ?_
    refine k_zret dX5_tellServed_31 rfl rfl rfl (Nat.le_of_ble_eq_true rfl) (Or.inl ⟨by omega, rfl, ⟨kd, wo, pe, ⟨(by (repeat (refine Is.ne ?_ (by omega))); first | assumption | exact Is.up (by omega)), (by (repeat (refine Is.ne ?_ (by omega))); first | assumption | exact Is.up (by omega)), (by (repeat (refine Is.ne ?_ (by omega))); first | assumption | exact Is.up (by omega)), (by (repeat (refine Is.ne ?_ (by omega))); first | assumption | exact Is.up (by omega))⟩, fr⟩, (by (repeat (refine Eqx.up ?_ (by omega) (by omega))); first | exact Eqx.rf | assumption)⟩)
  · refine k_iconst (nI 0) 21 dX5_tellServed_20 rfl kc_0 ?_
    refine k_zret dX5_tellServed_21 rfl rfl rfl (Nat.le_of_ble_eq_true rfl) (Or.inr ⟨by omega, rfl, rfl⟩)
theorem c_X5_tellDebt {G : KG} {N : Nat} {w : WD} {a t at_ : Nat} {T : Nat → Nat} {nums : Nat → Int32} {F : Fo} {M : Mo} {l : List Nat} (h : ScrI G N w a T t at_ nums) (hF : FkM G N w (a + 1) F) (hM : ScM G N w (a + 5) (oN F) M) (hn7 : oN F ≤ 7) (hl : ∀ q, q < 3 → nums q = nI (l.getD q 0)) (hb : ∀ q, l.getD q 0 < 100) : KCon G jX5_tellDebt N w [rf G a] (fun r w1 => (l.getD 0 0 < oN F ∧ l.getD 1 0 < oN F ∧ l.getD 0 0 ≠ l.getD 1 0 ∧ l.getD 2 0 ≤ 60) ∧ r = some (.int (nI 1)) ∧ ScM G N w1 (a + 5) (oN F) (sD M (7 * l.getD 0 0 + l.getD 1 0) (l.getD 2 0)) ∧ Eqx w w1 (a + 5) (a + 10) ∨ ¬ (l.getD 0 0 < oN F ∧ l.getD 1 0 < oN F ∧ l.getD 0 0 ≠ l.getD 1 0 ∧ l.getD 2 0 ≤ 60) ∧ r = some (.int (nI 0)) ∧ w1 = w) := by
  obtain ⟨h0, ⟨lt, h1, hl1⟩, h2, ht2, hT⟩ := h
  have hF9 := hF
  obtain ⟨kd, wo, pe, ⟨f0, f1, f2, f3⟩, fr⟩ := hF9
  have hM9 := hM
  obtain ⟨ll, wh, pu, db, ⟨s0, s1, s2, s3, s4⟩, -⟩ := hM9
  have b0 := hb 0
  have b1 := hb 1
  have b2 := hb 2
  refine KCon.of ([some (rf G a), none, none, none]) (by decide) rfl (by simp [Value.category]) (Nat.le_of_ble_eq_true rfl) rfl ?_
  refine k_aload_n 1 dX5_tellDebt_0 rfl rfl rfl ?_
  refine k_get 4 dX5_tellDebt_1 rfl fX5_tellDebt_29 (by (repeat (refine Is.ne ?_ (by omega))); first | assumption | exact Is.up (by omega)) (by rfl) ?_
  refine k_iconst (nI 0) 5 dX5_tellDebt_4 rfl kc_0 ?_
  refine k_S2 8 dX5_tellDebt_5 rfl vX5_tellDebt_76 (Nat.le_of_ble_eq_true rfl) rfl ⟨Nat.le_of_ble_eq_true rfl, Nat.le_of_ble_eq_true rfl⟩ (c_X3_at h2 (by omega) (by omega)) (fun r9 w9 h9 => ?_)
  obtain ⟨h8, h9⟩ := h9
  subst h8
  have h9 := h9.symm
  subst h9
  rw [hl 0 (by omega)]
  refine k_istore_n _ 9 dX5_tellDebt_8 rfl rfl (by decide) rfl rfl ?_
  refine k_aload_n 10 dX5_tellDebt_9 rfl rfl rfl ?_
  refine k_get 13 dX5_tellDebt_10 rfl fX5_tellDebt_29 (by (repeat (refine Is.ne ?_ (by omega))); first | assumption | exact Is.up (by omega)) (by rfl) ?_
  refine k_iconst (nI 1) 14 dX5_tellDebt_13 rfl kc_1 ?_
  refine k_S2 17 dX5_tellDebt_14 rfl vX5_tellDebt_76 (Nat.le_of_ble_eq_true rfl) rfl ⟨Nat.le_of_ble_eq_true rfl, Nat.le_of_ble_eq_true rfl⟩ (c_X3_at h2 (by omega) (by omega)) (fun r9 w9 h9 => ?_)
  obtain ⟨h8, h9⟩ := h9
  subst h8
  have h9 := h9.symm
  subst h9
  rw [hl 1 (by omega)]
  refine k_istore_n _ 18 dX5_tellDebt_17 rfl rfl (by decide) rfl rfl ?_
  refine k_aload_n 19 dX5_tellDebt_18 rfl rfl rfl ?_
  refine k_get 22 dX5_tellDebt_19 rfl fX5_tellDebt_29 (by (repeat (refine Is.ne ?_ (by omega))); first | assumption | exact Is.up (by omega)) (by rfl) ?_
  refine k_iconst (nI 2) 23 dX5_tellDebt_22 rfl kc_2 ?_
  refine k_S2 26 dX5_tellDebt_23 rfl vX5_tellDebt_76 (Nat.le_of_ble_eq_true rfl) rfl ⟨Nat.le_of_ble_eq_true rfl, Nat.le_of_ble_eq_true rfl⟩ (c_X3_at h2 (by omega) (by omega)) (fun r9 w9 h9 => ?_)
  obtain ⟨h8, h9⟩ := h9
  subst h8
  have h9 := h9.symm
  subst h9
  rw [hl 2 (by omega)]
  generalize l.getD 0 0 = k at *
  generalize l.getD 1 0 = v at *
  generalize l.getD 2 0 = o at *
  have bad : ¬ (k < oN F ∧ v < oN F ∧ k ≠ v ∧ o ≤ 60) → KRun G jX5_tellDebt N (fun r w1 => (k < oN F ∧ v < oN F ∧ k ≠ v ∧ o ≤ 60) ∧ r = some (.int (nI 1)) ∧ ScM G N w1 (a + 5) (oN F) (sD M (7 * k + v) o) ∧ Eqx w w1 (a + 5) (a + 10) ∨ ¬ (k < oN F ∧ v < oN F ∧ k ≠ v ∧ o ≤ 60) ∧ r = some (.int (nI 0)) ∧ w1 = w) 60 [some (rf G a), some (.int (nI k)), some (.int (nI v)), some (.int (nI o))] [] 0 0 w := by
    intro hbad
    refine k_iconst (nI 0) 61 dX5_tellDebt_60 rfl kc_0 ?_
    refine k_zret dX5_tellDebt_61 rfl rfl rfl (Nat.le_of_ble_eq_true rfl) (Or.inr ⟨hbad, rfl, rfl⟩)
  refine k_istore_n _ 27 dX5_tellDebt_26 rfl rfl (by decide) rfl rfl ?_
  refine k_aload_n 28 dX5_tellDebt_27 rfl rfl rfl ?_
  refine k_get 31 dX5_tellDebt_28 rfl fX5_tellDebt_12 (by (repeat (refine Is.ne ?_ (by omega))); first | assumption | exact Is.up (by omega)) (by rfl) ?_
  refine k_iload_n 32 dX5_tellDebt_31 rfl rfl rfl ?_
  refine k_V1 (ci := 1) 35 dX5_tellDebt_32 rfl vX5_tellDebt_96 (by (repeat (refine Is.ne ?_ (by omega))); first | assumption | exact Is.up (by omega)) rfl rfl (Nat.le_of_ble_eq_true rfl) rfl ⟨Nat.le_of_ble_eq_true rfl, Nat.le_of_ble_eq_true rfl⟩ (c_X1_isPerson hF hn7) (fun r1 w1 x1 => ?_)
  rcases x1 with ⟨p1, hp1, e1, rfl, rfl⟩ | ⟨hp1, rfl, rfl⟩
  · have e1 := (nI_eq (by omega) (by omega)).mp e1
    subst e1
    refine k_if_eqN 60 38 dX5_tellDebt_35 rfl rfl (by omega) (fun c => by omega) (fun c => ?_)
    refine k_aload_n 39 dX5_tellDebt_38 rfl rfl rfl ?_
    refine k_get 42 dX5_tellDebt_39 rfl fX5_tellDebt_12 (by (repeat (refine Is.ne ?_ (by omega))); first | assumption | exact Is.up (by omega)) (by rfl) ?_
    refine k_iload_n 43 dX5_tellDebt_42 rfl rfl rfl ?_
    refine k_V1 (ci := 1) 46 dX5_tellDebt_43 rfl vX5_tellDebt_96 (by (repeat (refine Is.ne ?_ (by omega))); first | assumption | exact Is.up (by omega)) rfl rfl (Nat.le_of_ble_eq_true rfl) rfl ⟨Nat.le_of_ble_eq_true rfl, Nat.le_of_ble_eq_true rfl⟩ (c_X1_isPerson hF hn7) (fun r2 w2 x2 => ?_)
    rcases x2 with ⟨p2, hp2, e2, rfl, hw2⟩ | ⟨hp2, rfl, hw2⟩
    · have hw2 := hw2.symm
      subst hw2
      have e2 := (nI_eq (by omega) (by omega)).mp e2
      subst e2
      refine k_if_eqN 60 49 dX5_tellDebt_46 rfl rfl (by omega) (fun c => by omega) (fun c => ?_)
      refine k_iload_n 50 dX5_tellDebt_49 rfl rfl rfl ?_
      refine k_iload_n 51 dX5_tellDebt_50 rfl rfl rfl ?_
      refine k_icmp_eqN 60 54 dX5_tellDebt_51 rfl rfl (by omega) (by omega) (fun c => ?_) (fun c => ?_)
      · exact bad (by omega)
      · have c1 := c
        refine k_iload_n 55 dX5_tellDebt_54 rfl rfl rfl ?_
        refine k_bipush (nI 60) 57 dX5_tellDebt_55 rfl kb_60 ?_
        refine k_icmp_leN 62 60 dX5_tellDebt_57 rfl rfl (by omega) (by omega) (fun c => ?_) (fun c => ?_)
        · refine k_aload_n 63 dX5_tellDebt_62 rfl rfl rfl ?_
          refine k_get 66 dX5_tellDebt_63 rfl fX5_tellDebt_21 (by (repeat (refine Is.ne ?_ (by omega))); first | assumption | exact Is.up (by omega)) (by rfl) ?_
          refine k_iload_n 67 dX5_tellDebt_66 rfl rfl rfl ?_
          refine k_iload_n 68 dX5_tellDebt_67 rfl rfl rfl ?_
          refine k_iload_n 69 dX5_tellDebt_68 rfl rfl rfl ?_
          refine k_V3 (ci := 3) 72 dX5_tellDebt_69 rfl vX5_tellDebt_99 (by (repeat (refine Is.ne ?_ (by omega))); first | assumption | exact Is.up (by omega)) rfl rfl (Nat.le_of_ble_eq_true rfl) rfl ⟨Nat.le_of_ble_eq_true rfl, Nat.le_of_ble_eq_true rfl⟩ (c_X4_setDebt hM (by omega) (by omega)) (fun r3 w3 x3 => ?_)
          refine k_iconst (nI 1) 73 dX5_tellDebt_72 rfl kc_1 ?_
          obtain ⟨rfl, hS3, hE3⟩ := x3
          refine k_zret dX5_tellDebt_73 rfl rfl rfl (Nat.le_of_ble_eq_true rfl) (Or.inl ⟨⟨by omega, by omega, c1, by omega⟩, rfl, hS3, hE3⟩)
        · exact bad (by omega)
    · have hw2 := hw2.symm
      subst hw2
      refine k_if_eqN 60 49 dX5_tellDebt_46 rfl rfl (by omega) (fun c => ?_) (fun c => by omega)
      exact bad (fun z => hp2 v z.2.1 rfl)
  · refine k_if_eqN 60 38 dX5_tellDebt_35 rfl rfl (by omega) (fun c => ?_) (fun c => by omega)
    exact bad (fun z => hp1 k z.1 rfl)
