/-! public methods: what is asked of persons and places -/
theorem tsw (k : Nat) (hk : k < 100) : (nI k).toInt = (k : Int) := nI_toInt (by omega)
theorem c_X8_person {G : KG} {N : Nat} {w : WD} {a : Nat} {x y : Int32} {S : St} (h : QsM G N w a S) (hO : sOK S) : KCon G jX8_person N w [rf G a, .int x, .int y] (QpO G N w a (a_person S x y)) := by
  have h9 := h
  obtain ⟨hQ, hF, hM, hS, hP, hK, hf, hi, hc⟩ := h9
  obtain ⟨o1, o2, ⟨o3, o4⟩, -⟩ := hO
  have hn7 := o1.1
  have hL7 := ok_l7 o3
  have hQ7 := ok_q7 o3
  have f0 := hF.ob
  have s0 := hM.ob
  refine KCon.of ([some (rf G a), some (.int x), some (.int y)]) (by decide) rfl (by simp [Value.category]) (Nat.le_of_ble_eq_true rfl) rfl ?_
  refine k_aload_n 1 dX8_person_0 rfl rfl rfl ?_
  refine k_get 4 dX8_person_1 rfl fX8_person_10 (by (repeat (refine Is.ne ?_ (by omega))); first | assumption | exact Is.up (by omega)) (by rfl) ?_
  refine k_iload_n 5 dX8_person_4 rfl rfl rfl ?_
  refine k_V1 (ci := 1) 8 dX8_person_5 rfl vX8_person_95 (by (repeat (refine Is.ne ?_ (by omega))); first | assumption | exact Is.up (by omega)) rfl rfl (Nat.le_of_ble_eq_true rfl) rfl ⟨Nat.le_of_ble_eq_true rfl, Nat.le_of_ble_eq_true rfl⟩ (c_prs hF hn7) (fun r9 w9 h9 => ?_)
  obtain ⟨h8, h9⟩ := h9
  subst h8
  have h9 := h9.symm
  subst h9
  rcases prs_c hn7 x with ⟨p, hp, rfl, e⟩ | ⟨hno, e⟩
  · rw [e]
    refine k_if_neB 13 11 dX8_person_8 rfl rfl (fun c9 => ?_) (fun c9 => absurd c9 (by simp))
    rcases rgn_c 0 6 y with ⟨k, k1, k2, rfl, e2⟩ | ⟨hy, e2⟩
    · obtain ⟨kd, wo, pe, ⟨g0, g1, g2, g3⟩, gr⟩ := hF
      obtain ⟨l, wh, pu, db, ⟨m0, m1, m2, m3, m4⟩, ml, mw, mp, md⟩ := id hM
      have ea : ∀ v : Int32, (if k = 0 then nI (oK (qF S) p) else if k = 1 then nI (oW (qF S) p) else if k = 2 then nI (oT (qF S) p) else if k = 3 then nI (mP (qM S) p) else if k = 4 then pI (plc (qM S) p) else if k = 5 then nI (mW (qM S) p) else iZ (200000 + due (qM S) p)) = v → a_person S (nI p) (nI k) = (v, S) := by
        intro v hv
        unfold a_person
        rw [e, e2]
        dsimp only
        rw [hv]
      have hk : k = 0 ∨ k = 1 ∨ k = 2 ∨ k = 3 ∨ k = 4 ∨ k = 5 ∨ k = 6 := by omega
      rcases hk with rfl | rfl | rfl | rfl | rfl | rfl | rfl
      · rw [ea (nI (oK (qF S) p)) rfl]
        refine k_iload_n 14 dX8_person_13 rfl rfl rfl ?_
        refine k_tableIn (off := 42) 56 dX8_person_14 (by decide) (by decide) (by decide +kernel) rfl ?_
        refine k_aload_n 57 dX8_person_56 rfl rfl rfl ?_
        refine k_get 60 dX8_person_57 rfl fX8_person_10 (by (repeat (refine Is.ne ?_ (by omega))); first | assumption | exact Is.up (by omega)) (by rfl) ?_
        refine k_get 63 dX8_person_60 rfl fX8_person_99 (by (repeat (refine Is.ne ?_ (by omega))); first | assumption | exact Is.up (by omega)) (by rfl) ?_
        refine k_iload_n 64 dX8_person_63 rfl rfl rfl ?_
        refine k_S2 67 dX8_person_64 rfl vX8_person_103 (Nat.le_of_ble_eq_true rfl) rfl ⟨Nat.le_of_ble_eq_true rfl, Nat.le_of_ble_eq_true rfl⟩ (c_X3_at g1 (by omega) (by omega)) (fun r9 w9 h9 => ?_)
        obtain ⟨h8, h9⟩ := h9
        subst h8
        have h9 := h9.symm
        subst h9
        rw [(gr p hp).1]
        refine k_iret dX8_person_67 rfl rfl (Nat.le_of_ble_eq_true rfl) ⟨rfl, h, Eqx.rf⟩
      · rw [ea (nI (oW (qF S) p)) rfl]
        refine k_iload_n 14 dX8_person_13 rfl rfl rfl ?_
        refine k_tableIn (off := 54) 68 dX8_person_14 (by decide) (by decide) (by decide +kernel) rfl ?_
        refine k_aload_n 69 dX8_person_68 rfl rfl rfl ?_
        refine k_get 72 dX8_person_69 rfl fX8_person_10 (by (repeat (refine Is.ne ?_ (by omega))); first | assumption | exact Is.up (by omega)) (by rfl) ?_
        refine k_get 75 dX8_person_72 rfl fX8_person_109 (by (repeat (refine Is.ne ?_ (by omega))); first | assumption | exact Is.up (by omega)) (by rfl) ?_
        refine k_iload_n 76 dX8_person_75 rfl rfl rfl ?_
        refine k_S2 79 dX8_person_76 rfl vX8_person_103 (Nat.le_of_ble_eq_true rfl) rfl ⟨Nat.le_of_ble_eq_true rfl, Nat.le_of_ble_eq_true rfl⟩ (c_X3_at g2 (by omega) (by omega)) (fun r9 w9 h9 => ?_)
        obtain ⟨h8, h9⟩ := h9
        subst h8
        have h9 := h9.symm
        subst h9
        rw [(gr p hp).2.1]
        refine k_iret dX8_person_79 rfl rfl (Nat.le_of_ble_eq_true rfl) ⟨rfl, h, Eqx.rf⟩
      · rw [ea (nI (oT (qF S) p)) rfl]
        refine k_iload_n 14 dX8_person_13 rfl rfl rfl ?_
        refine k_tableIn (off := 66) 80 dX8_person_14 (by decide) (by decide) (by decide +kernel) rfl ?_
        refine k_aload_n 81 dX8_person_80 rfl rfl rfl ?_
        refine k_get 84 dX8_person_81 rfl fX8_person_10 (by (repeat (refine Is.ne ?_ (by omega))); first | assumption | exact Is.up (by omega)) (by rfl) ?_
        refine k_get 87 dX8_person_84 rfl fX8_person_112 (by (repeat (refine Is.ne ?_ (by omega))); first | assumption | exact Is.up (by omega)) (by rfl) ?_
        refine k_iload_n 88 dX8_person_87 rfl rfl rfl ?_
        refine k_S2 91 dX8_person_88 rfl vX8_person_103 (Nat.le_of_ble_eq_true rfl) rfl ⟨Nat.le_of_ble_eq_true rfl, Nat.le_of_ble_eq_true rfl⟩ (c_X3_at g3 (by omega) (by omega)) (fun r9 w9 h9 => ?_)
        obtain ⟨h8, h9⟩ := h9
        subst h8
        have h9 := h9.symm
        subst h9
        rw [(gr p hp).2.2]
        refine k_iret dX8_person_91 rfl rfl (Nat.le_of_ble_eq_true rfl) ⟨rfl, h, Eqx.rf⟩
      · rw [ea (nI (mP (qM S) p)) rfl]
        refine k_iload_n 14 dX8_person_13 rfl rfl rfl ?_
        refine k_tableIn (off := 78) 92 dX8_person_14 (by decide) (by decide) (by decide +kernel) rfl ?_
        refine k_aload_n 93 dX8_person_92 rfl rfl rfl ?_
        refine k_get 96 dX8_person_93 rfl fX8_person_19 (by (repeat (refine Is.ne ?_ (by omega))); first | assumption | exact Is.up (by omega)) (by rfl) ?_
        refine k_get 99 dX8_person_96 rfl fX8_person_115 (by (repeat (refine Is.ne ?_ (by omega))); first | assumption | exact Is.up (by omega)) (by rfl) ?_
        refine k_iload_n 100 dX8_person_99 rfl rfl rfl ?_
        refine k_S2 103 dX8_person_100 rfl vX8_person_103 (Nat.le_of_ble_eq_true rfl) rfl ⟨Nat.le_of_ble_eq_true rfl, Nat.le_of_ble_eq_true rfl⟩ (c_X3_at m3 (by omega) (by omega)) (fun r9 w9 h9 => ?_)
        obtain ⟨h8, h9⟩ := h9
        subst h8
        have h9 := h9.symm
        subst h9
        rw [mp p hp]
        refine k_iret dX8_person_103 rfl rfl (Nat.le_of_ble_eq_true rfl) ⟨rfl, h, Eqx.rf⟩
      · rw [ea (pI (plc (qM S) p)) rfl]
        refine k_iload_n 14 dX8_person_13 rfl rfl rfl ?_
        refine k_tableIn (off := 90) 104 dX8_person_14 (by decide) (by decide) (by decide +kernel) rfl ?_
        refine k_aload_n 105 dX8_person_104 rfl rfl rfl ?_
        refine k_get 108 dX8_person_105 rfl fX8_person_19 (by (repeat (refine Is.ne ?_ (by omega))); first | assumption | exact Is.up (by omega)) (by rfl) ?_
        refine k_iload_n 109 dX8_person_108 rfl rfl rfl ?_
        refine k_V1 (ci := 3) 112 dX8_person_109 rfl vX8_person_118 (by (repeat (refine Is.ne ?_ (by omega))); first | assumption | exact Is.up (by omega)) rfl rfl (Nat.le_of_ble_eq_true rfl) rfl ⟨Nat.le_of_ble_eq_true rfl, Nat.le_of_ble_eq_true rfl⟩ (c_X4_placeOf hM hL7 hQ7 (by omega)) (fun r9 w9 h9 => ?_)
        obtain ⟨h8, h9⟩ := h9
        subst h8
        have h9 := h9.symm
        subst h9
        refine k_iret dX8_person_112 rfl rfl (Nat.le_of_ble_eq_true rfl) ⟨rfl, h, Eqx.rf⟩
      · rw [ea (nI (mW (qM S) p)) rfl]
        refine k_iload_n 14 dX8_person_13 rfl rfl rfl ?_
        refine k_tableIn (off := 99) 113 dX8_person_14 (by decide) (by decide) (by decide +kernel) rfl ?_
        refine k_aload_n 114 dX8_person_113 rfl rfl rfl ?_
        refine k_get 117 dX8_person_114 rfl fX8_person_19 (by (repeat (refine Is.ne ?_ (by omega))); first | assumption | exact Is.up (by omega)) (by rfl) ?_
        refine k_get 120 dX8_person_117 rfl fX8_person_122 (by (repeat (refine Is.ne ?_ (by omega))); first | assumption | exact Is.up (by omega)) (by rfl) ?_
        refine k_iload_n 121 dX8_person_120 rfl rfl rfl ?_
        refine k_S2 124 dX8_person_121 rfl vX8_person_103 (Nat.le_of_ble_eq_true rfl) rfl ⟨Nat.le_of_ble_eq_true rfl, Nat.le_of_ble_eq_true rfl⟩ (c_X3_at m2 (by omega) (by omega)) (fun r9 w9 h9 => ?_)
        obtain ⟨h8, h9⟩ := h9
        subst h8
        have h9 := h9.symm
        subst h9
        rw [mw p hp]
        refine k_iret dX8_person_124 rfl rfl (Nat.le_of_ble_eq_true rfl) ⟨rfl, h, Eqx.rf⟩
      · rw [ea (iZ (200000 + due (qM S) p)) rfl]
        refine k_iload_n 14 dX8_person_13 rfl rfl rfl ?_
        refine k_tableIn (off := 111) 125 dX8_person_14 (by decide) (by decide) (by decide +kernel) rfl ?_
        refine k_ldc ((iZ 200000)) 127 dX8_person_125 rfl (by decide +kernel) ?_
        refine k_aload_n 128 dX8_person_127 rfl rfl rfl ?_
        refine k_get 131 dX8_person_128 rfl fX8_person_19 (by (repeat (refine Is.ne ?_ (by omega))); first | assumption | exact Is.up (by omega)) (by rfl) ?_
        refine k_iload_n 132 dX8_person_131 rfl rfl rfl ?_
        refine k_V1 (ci := 3) 135 dX8_person_132 rfl vX8_person_126 (by (repeat (refine Is.ne ?_ (by omega))); first | assumption | exact Is.up (by omega)) rfl rfl (Nat.le_of_ble_eq_true rfl) rfl ⟨Nat.le_of_ble_eq_true rfl, Nat.le_of_ble_eq_true rfl⟩ (c_X4_dueOf hM (by omega)) (fun r9 w9 h9 => ?_)
        obtain ⟨h8, h9⟩ := h9
        subst h8
        have h9 := h9.symm
        subst h9
        refine k_iaddE _ 136 dX8_person_135 rfl (iZ_add _ _) ?_
        refine k_iret dX8_person_136 rfl rfl (Nat.le_of_ble_eq_true rfl) ⟨rfl, h, Eqx.rf⟩
    · have ea : a_person S (nI p) y = (-1, S) := by
        unfold a_person
        rw [e, e2]
      rw [ea]
      refine k_iload_n 14 dX8_person_13 rfl rfl rfl ?_
      refine k_tableOut 137 dX8_person_14 (by omega) rfl ?_
      refine k_iconst (-1) 138 dX8_person_137 rfl km_1 ?_
      refine k_iret dX8_person_138 rfl rfl (Nat.le_of_ble_eq_true rfl) ⟨rfl, h, Eqx.rf⟩
  · rw [e]
    have ea : a_person S x y = (-1, S) := by
      unfold a_person
      rw [e]
    rw [ea]
    refine k_if_neB 13 11 dX8_person_8 rfl rfl (fun c9 => absurd c9 (by simp)) (fun c9 => ?_)
    refine k_iconst (-1) 12 dX8_person_11 rfl km_1 ?_
    refine k_iret dX8_person_12 rfl rfl (Nat.le_of_ble_eq_true rfl) ⟨rfl, h, Eqx.rf⟩
theorem c_X8_owes {G : KG} {N : Nat} {w : WD} {a : Nat} {x y : Int32} {S : St} (h : QsM G N w a S) (hO : sOK S) : KCon G jX8_owes N w [rf G a, .int x, .int y] (QpO G N w a (a_owes S x y)) := by
  have h9 := h
  obtain ⟨hQ, hF, hM, hS, hP, hK, hf, hi, hc⟩ := h9
  have hn7 := hO.1.1
  have s0 := hM.ob
  refine KCon.of ([some (rf G a), some (.int x), some (.int y)]) (by decide) rfl (by simp [Value.category]) (Nat.le_of_ble_eq_true rfl) rfl ?_
  refine k_aload_n 1 dX8_owes_0 rfl rfl rfl ?_
  refine k_iload_n 2 dX8_owes_1 rfl rfl rfl ?_
  refine k_iload_n 3 dX8_owes_2 rfl rfl rfl ?_
  refine k_V2 (ci := 7) 6 dX8_owes_3 rfl vX8_owes_129 (by (repeat (refine Is.ne ?_ (by omega))); first | assumption | exact Is.up (by omega)) rfl rfl (Nat.le_of_ble_eq_true rfl) rfl ⟨Nat.le_of_ble_eq_true rfl, Nat.le_of_ble_eq_true rfl⟩ (c_X8_areTwo h hn7) (fun r9 w9 h9 => ?_)
  obtain ⟨h8, h9⟩ := h9
  subst h8
  have h9 := h9.symm
  subst h9
  rcases two_c hn7 x y with ⟨p, q, hp, hq, hpq, rfl, rfl, e⟩ | e
  · have ea : a_owes S (nI p) (nI q) = (nI (mD (qM S) (7 * p + q)), S) := by
      unfold a_owes
      rw [e]
    rw [ea, e]
    refine k_if_eqB 21 9 dX8_owes_6 rfl rfl (fun c9 => absurd c9 (by simp)) (fun c9 => ?_)
    refine k_aload_n 10 dX8_owes_9 rfl rfl rfl ?_
    refine k_get 13 dX8_owes_10 rfl fX8_owes_19 (by (repeat (refine Is.ne ?_ (by omega))); first | assumption | exact Is.up (by omega)) (by rfl) ?_
    refine k_iload_n 14 dX8_owes_13 rfl rfl rfl ?_
    refine k_iload_n 15 dX8_owes_14 rfl rfl rfl ?_
    refine k_V2 (ci := 3) 18 dX8_owes_15 rfl vX8_owes_133 (by (repeat (refine Is.ne ?_ (by omega))); first | assumption | exact Is.up (by omega)) rfl rfl (Nat.le_of_ble_eq_true rfl) rfl ⟨Nat.le_of_ble_eq_true rfl, Nat.le_of_ble_eq_true rfl⟩ (c_X4_debt hM (by omega) (by omega)) (fun r9 w9 h9 => ?_)
    obtain ⟨h8, h9⟩ := h9
    subst h8
    have h9 := h9.symm
    subst h9
    refine k_goto 22 dX8_owes_18 rfl ?_
    refine k_iret dX8_owes_22 rfl rfl (Nat.le_of_ble_eq_true rfl) ⟨rfl, h, Eqx.rf⟩
  · have ea : a_owes S x y = (-1, S) := by
      unfold a_owes
      rw [e]
    rw [ea, e]
    refine k_if_eqB 21 9 dX8_owes_6 rfl rfl (fun c9 => ?_) (fun c9 => absurd c9 (by simp))
    refine k_iconst (-1) 22 dX8_owes_21 rfl km_1 ?_
    refine k_iret dX8_owes_22 rfl rfl (Nat.le_of_ble_eq_true rfl) ⟨rfl, h, Eqx.rf⟩
theorem c_X8_place {G : KG} {N : Nat} {w : WD} {a : Nat} {x : Int32} {S : St} (h : QsM G N w a S) (hO : sOK S) : KCon G jX8_place N w [rf G a, .int x] (QpO G N w a (a_place S x)) := by
  have h9 := h
  obtain ⟨hQ, hF, hM, hS, hP, hK, hf, hi, hc⟩ := h9
  have hL7 := ok_l7 hO.2.2.1.1
  have s0 := hM.ob
  refine KCon.of ([some (rf G a), some (.int x)]) (by decide) rfl (by simp [Value.category]) (Nat.le_of_ble_eq_true rfl) rfl ?_
  rcases rgn_c 0 6 x with ⟨k, k1, k2, rfl, e⟩ | ⟨hx, e⟩
  · refine k_iload_n 1 dX8_place_0 rfl rfl rfl ?_
    refine k_if_ltN 10 4 dX8_place_1 rfl rfl (by omega) (fun c => ?_) (fun c => ?_)
    · omega
    refine k_iload_n 5 dX8_place_4 rfl rfl rfl ?_
    refine k_bipush (nI 7) 7 dX8_place_5 rfl kb_7 ?_
    refine k_icmp_ltN 12 10 dX8_place_7 rfl rfl (by omega) (by omega) (fun c => ?_) (fun c => ?_)
    rotate_left
    · omega
    refine k_iload_n 13 dX8_place_12 rfl rfl rfl ?_
    refine k_aload_n 14 dX8_place_13 rfl rfl rfl ?_
    refine k_get 17 dX8_place_14 rfl fX8_place_19 (by (repeat (refine Is.ne ?_ (by omega))); first | assumption | exact Is.up (by omega)) (by rfl) ?_
    refine k_get 20 dX8_place_17 rfl fX8_place_137 (by (repeat (refine Is.ne ?_ (by omega))); first | assumption | exact Is.up (by omega)) (by rfl) ?_
    refine k_icmp_geN 37 23 dX8_place_20 rfl rfl (by omega) (by omega) (fun c => ?_) (fun c => ?_)
    · have ea : a_place S (nI k) = (-4, S) := by
        unfold a_place
        rw [e]
        dsimp only
        rw [if_neg (by omega)]
      rw [ea]
      refine k_bipush (-4) 39 dX8_place_37 rfl kbm_4 ?_
      refine k_iret dX8_place_39 rfl rfl (Nat.le_of_ble_eq_true rfl) ⟨rfl, h, Eqx.rf⟩
    · have ea : a_place S (nI k) = (nI (mQ (qM S) k), S) := by
        unfold a_place
        rw [e]
        dsimp only
        rw [if_pos (by omega)]
      rw [ea]
      obtain ⟨l, wh, pu, db, ⟨m0, m1, m2, m3, m4⟩, ml, -⟩ := id hM
      refine k_aload_n 24 dX8_place_23 rfl rfl rfl ?_
      refine k_get 27 dX8_place_24 rfl fX8_place_19 (by (repeat (refine Is.ne ?_ (by omega))); first | assumption | exact Is.up (by omega)) (by rfl) ?_
      refine k_get 30 dX8_place_27 rfl fX8_place_138 (by (repeat (refine Is.ne ?_ (by omega))); first | assumption | exact Is.up (by omega)) (by rfl) ?_
      refine k_iload_n 31 dX8_place_30 rfl rfl rfl ?_
      refine k_S2 34 dX8_place_31 rfl vX8_place_103 (Nat.le_of_ble_eq_true rfl) rfl ⟨Nat.le_of_ble_eq_true rfl, Nat.le_of_ble_eq_true rfl⟩ (c_X3_at m1 (by omega) (by omega)) (fun r9 w9 h9 => ?_)
      obtain ⟨h8, h9⟩ := h9
      subst h8
      have h9 := h9.symm
      subst h9
      rw [ml k (by omega)]
      refine k_goto 39 dX8_place_34 rfl ?_
      refine k_iret dX8_place_39 rfl rfl (Nat.le_of_ble_eq_true rfl) ⟨rfl, h, Eqx.rf⟩
  · have ea : a_place S x = (-1, S) := by
      unfold a_place
      rw [e]
    rw [ea]
    have bad : KRun G jX8_place N (QpO G N w a (-1, S)) 10 [some (rf G a), some (.int x)] [] 0 0 w := by
      refine k_iconst (-1) 11 dX8_place_10 rfl km_1 ?_
      refine k_iret dX8_place_11 rfl rfl (Nat.le_of_ble_eq_true rfl) ⟨rfl, h, Eqx.rf⟩
    refine k_iload_n 1 dX8_place_0 rfl rfl rfl ?_
    refine k_if_lt 10 4 dX8_place_1 rfl rfl (fun c => ?_) (fun c => ?_)
    · exact bad
    · have c1 : ¬ x.toInt < 0 := fun z => c (lt0I.mpr z)
      refine k_iload_n 5 dX8_place_4 rfl rfl rfl ?_
      refine k_bipush (nI 7) 7 dX8_place_5 rfl kb_7 ?_
      refine k_icmp_lt 12 10 dX8_place_7 rfl rfl (fun c => ?_) (fun c => ?_)
      · have c2 := (ltI (x := x) (k := 7) (by omega)).mp c
        omega
      · exact bad
theorem c_X8_would {G : KG} {N : Nat} {w : WD} {a : Nat} {x : Int32} {S : St} (h : QsM G N w a S) (hO : sOK S) : KCon G jX8_would N w [rf G a, .int x] (QpO G N w a (a_would S x)) := by
  have h9 := h
  obtain ⟨hQ, hF, hM, hS, hP, hK, hf, hi, hc⟩ := h9
  obtain ⟨o1, o2, ⟨o3, o4⟩, -⟩ := hO
  have hn7 := o1.1
  have hL7 := ok_l7 o3
  have hQ7 := ok_q7 o3
  have f0 := hF.ob
  have s0 := hM.ob
  refine KCon.of ([some (rf G a), some (.int x), none, none]) (by decide) rfl (by simp [Value.category]) (Nat.le_of_ble_eq_true rfl) rfl ?_
  refine k_aload_n 1 dX8_would_0 rfl rfl rfl ?_
  refine k_get 4 dX8_would_1 rfl fX8_would_10 (by (repeat (refine Is.ne ?_ (by omega))); first | assumption | exact Is.up (by omega)) (by rfl) ?_
  refine k_iload_n 5 dX8_would_4 rfl rfl rfl ?_
  refine k_V1 (ci := 1) 8 dX8_would_5 rfl vX8_would_95 (by (repeat (refine Is.ne ?_ (by omega))); first | assumption | exact Is.up (by omega)) rfl rfl (Nat.le_of_ble_eq_true rfl) rfl ⟨Nat.le_of_ble_eq_true rfl, Nat.le_of_ble_eq_true rfl⟩ (c_prs hF hn7) (fun r9 w9 h9 => ?_)
  obtain ⟨h8, h9⟩ := h9
  subst h8
  have h9 := h9.symm
  subst h9
  rcases prs_c hn7 x with ⟨p, hp, rfl, e⟩ | ⟨hno, e⟩
  · rw [e]
    refine k_if_neB 13 11 dX8_would_8 rfl rfl (fun c9 => ?_) (fun c9 => absurd c9 (by simp))
    refine k_aload_n 14 dX8_would_13 rfl rfl rfl ?_
    refine k_get 17 dX8_would_14 rfl fX8_would_19 (by (repeat (refine Is.ne ?_ (by omega))); first | assumption | exact Is.up (by omega)) (by rfl) ?_
    refine k_iload_n 18 dX8_would_17 rfl rfl rfl ?_
    refine k_V1 (ci := 3) 21 dX8_would_18 rfl vX8_would_118 (by (repeat (refine Is.ne ?_ (by omega))); first | assumption | exact Is.up (by omega)) rfl rfl (Nat.le_of_ble_eq_true rfl) rfl ⟨Nat.le_of_ble_eq_true rfl, Nat.le_of_ble_eq_true rfl⟩ (c_X4_placeOf hM hL7 hQ7 (by omega)) (fun r9 w9 h9 => ?_)
    obtain ⟨h8, h9⟩ := h9
    subst h8
    have h9 := h9.symm
    subst h9
    refine k_istore_n _ 22 dX8_would_21 rfl rfl (by decide) rfl rfl ?_
    refine k_iload_n 23 dX8_would_22 rfl rfl rfl ?_
    refine k_iconst (nI 1) 24 dX8_would_23 rfl kc_1 ?_
    have no : a_would S (nI p) = (-2, S) → KRun G jX8_would N (QpO G N w a (a_would S (nI p))) 27 [some (rf G a), some (.int (nI p)), some (.int (pI (plc (qM S) p))), none] [] 0 0 w := by
      intro ea
      rw [ea]
      refine k_bipush (-2) 29 dX8_would_27 rfl kbm_2 ?_
      refine k_iret dX8_would_29 rfl rfl (Nat.le_of_ble_eq_true rfl) ⟨rfl, h, Eqx.rf⟩
    cases e2 : plc (qM S) p with
    | none =>
      rw [e2] at no
      have no := no (by unfold a_would; rw [e]; dsimp only; rw [e2])
      refine k_icmp_ge 30 27 dX8_would_24 rfl rfl (fun c => ?_) (fun c => ?_)
      · exact absurd (show pI none < nI 1 by decide) (Int32.not_lt.mpr c)
      · exact no
    | some k =>
      rw [e2] at no
      obtain ⟨hk, hkq⟩ := plc_some e2
      refine k_tp (.int (nI 1)) rfl ?_
      by_cases hk0 : k = 0
      · subst hk0
        have no := no (by unfold a_would; rw [e]; dsimp only; rw [e2]; rfl)
        refine k_icmp_geN (a := 0) (b := 1) 30 27 dX8_would_24 rfl rfl (by omega) (by omega) (fun c => by omega) (fun c => ?_)
        exact no
      · have ea : a_would S (nI p) = (bI (wnt (qF S) (qM S) p (mQ (qM S) (k - 1))), S) := by
          unfold a_would
          rw [e]
          dsimp only
          rw [e2]
          dsimp only
          rw [if_neg hk0]
        rw [ea]
        have hq := o3.2.2.1 (k - 1) (by omega)
        obtain ⟨l, wh, pu, db, ⟨m0, m1, m2, m3, m4⟩, ml, -⟩ := id hM
        refine k_icmp_geN (a := k) (b := 1) 30 27 dX8_would_24 rfl rfl (by omega) (by omega) (fun c => ?_) (fun c => by omega)
        refine k_loc [some (rf G a), some (.int (nI p)), some (.int (nI k)), none] ⟨rfl, rfl, rfl, trivial⟩ rfl ?_
        refine k_aload_n 31 dX8_would_30 rfl rfl rfl ?_
        refine k_get 34 dX8_would_31 rfl fX8_would_10 (by (repeat (refine Is.ne ?_ (by omega))); first | assumption | exact Is.up (by omega)) (by rfl) ?_
        refine k_iload_n 35 dX8_would_34 rfl rfl rfl ?_
        refine k_aload_n 36 dX8_would_35 rfl rfl rfl ?_
        refine k_get 39 dX8_would_36 rfl fX8_would_19 (by (repeat (refine Is.ne ?_ (by omega))); first | assumption | exact Is.up (by omega)) (by rfl) ?_
        refine k_get 42 dX8_would_39 rfl fX8_would_138 (by (repeat (refine Is.ne ?_ (by omega))); first | assumption | exact Is.up (by omega)) (by rfl) ?_
        refine k_iload_n 43 dX8_would_42 rfl rfl rfl ?_
        refine k_iconst (nI 1) 44 dX8_would_43 rfl kc_1 ?_
        first | refine k_isubE _ 45 dX8_would_44 rfl (pk_sub (by omega)) ?_ | refine k_isub 45 dX8_would_44 rfl ?_
        refine k_S2 48 dX8_would_45 rfl vX8_would_103 (Nat.le_of_ble_eq_true rfl) rfl ⟨Nat.le_of_ble_eq_true rfl, Nat.le_of_ble_eq_true rfl⟩ (c_X3_at m1 (by omega) (by omega)) (fun r9 w9 h9 => ?_)
        obtain ⟨h8, h9⟩ := h9
        subst h8
        have h9 := h9.symm
        subst h9
        rw [ml _ (by omega)]
        refine k_V2 (ci := 1) 51 dX8_would_48 rfl vX8_would_141 (by (repeat (refine Is.ne ?_ (by omega))); first | assumption | exact Is.up (by omega)) rfl rfl (Nat.le_of_ble_eq_true rfl) rfl ⟨Nat.le_of_ble_eq_true rfl, Nat.le_of_ble_eq_true rfl⟩ (c_X1_gain hF hn7 hp hq) (fun r9 w9 h9 => ?_)
        obtain ⟨h8, h9⟩ := h9
        subst h8
        have h9 := h9.symm
        subst h9
        refine k_istore_n _ 52 dX8_would_51 rfl rfl (by decide) rfl rfl ?_
        refine k_aload_n 53 dX8_would_52 rfl rfl rfl ?_
        refine k_get 56 dX8_would_53 rfl fX8_would_19 (by (repeat (refine Is.ne ?_ (by omega))); first | assumption | exact Is.up (by omega)) (by rfl) ?_
        refine k_aload_n 57 dX8_would_56 rfl rfl rfl ?_
        refine k_get 60 dX8_would_57 rfl fX8_would_10 (by (repeat (refine Is.ne ?_ (by omega))); first | assumption | exact Is.up (by omega)) (by rfl) ?_
        refine k_iload_n 61 dX8_would_60 rfl rfl rfl ?_
        refine k_iload_n 62 dX8_would_61 rfl rfl rfl ?_
        refine k_V3 (ci := 3) 65 dX8_would_62 rfl vX8_would_144 (by (repeat (refine Is.ne ?_ (by omega))); first | assumption | exact Is.up (by omega)) rfl rfl (Nat.le_of_ble_eq_true rfl) rfl ⟨Nat.le_of_ble_eq_true rfl, Nat.le_of_ble_eq_true rfl⟩ (c_X4_wantsFor hM hF o3.p o1 rfl hp hq) (fun r9 w9 h9 => ?_)
        obtain ⟨h8, h9⟩ := h9
        subst h8
        have h9 := h9.symm
        subst h9
        refine k_if_eqB 72 68 dX8_would_65 rfl rfl (fun c9 => ?_) (fun c9 => ?_)
        · refine k_iconst (nI 0) 73 dX8_would_72 rfl kc_0 ?_
          refine k_iret dX8_would_73 rfl rfl (Nat.le_of_ble_eq_true rfl) ⟨by rw [c9]; rfl, h, Eqx.rf⟩
        · refine k_iconst (nI 1) 69 dX8_would_68 rfl kc_1 ?_
          refine k_goto 73 dX8_would_69 rfl ?_
          refine k_iret dX8_would_73 rfl rfl (Nat.le_of_ble_eq_true rfl) ⟨by rw [c9]; rfl, h, Eqx.rf⟩
  · rw [e]
    have ea : a_would S x = (-1, S) := by
      unfold a_would
      rw [e]
    rw [ea]
    refine k_if_neB 13 11 dX8_would_8 rfl rfl (fun c9 => absurd c9 (by simp)) (fun c9 => ?_)
    refine k_iconst (-1) 12 dX8_would_11 rfl km_1 ?_
    refine k_iret dX8_would_12 rfl rfl (Nat.le_of_ble_eq_true rfl) ⟨rfl, h, Eqx.rf⟩
