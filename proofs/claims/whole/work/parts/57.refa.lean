/-! KerbQueueModel: public methods, first -/
def RpO (G : KG) (N : Nat) (w : WD) (b : Nat) (f : Int32 × St) (r : Option Value) (w1 : WD) : Prop := r = some (.int f.1) ∧ RsM G N w1 b f.2 (qM f.2) none ∧ Eqx w w1 b (b + 12)
theorem c_X9_write {G : KG} {N : Nat} {w : WD} {b : Nat} {x : Int32} {S : St} (h : RsM G N w b S (qM S) none) (hO : sOK S) : KCon G jX9_write N w [rf G b, .int x] (RpO G N w b (a_write S x)) := by
  have h' := h
  obtain ⟨at_, tx, to_, dr, be, s, pa, im, nt, ah, sd, gr, ro, ⟨g0, g1, g2, g3, g4, g5, g6, g7, g8, g9, g10, g11, g12⟩, v1, v2, v3, v4, v5, v6, v7, v8⟩ := h'
  have hN := g12.1
  have ht := hO.2.2.2.2.2.2.2.2.1
  refine KCon.of ([some (rf G b), some (.int x)]) (by decide) rfl (by simp [Value.category]) (Nat.le_of_ble_eq_true rfl) rfl ?_
  refine k_iload_n 1 dX9_write_0 rfl rfl rfl ?_
  refine k_bipush (nI 32) 3 dX9_write_1 rfl kb_32 ?_
  refine k_bipush (nI 126) 5 dX9_write_3 rfl kb_126 ?_
  refine k_S3 8 dX9_write_5 rfl vX9_write_56 (Nat.le_of_ble_eq_true rfl) rfl ⟨Nat.le_of_ble_eq_true rfl, Nat.le_of_ble_eq_true rfl⟩ (c_X9_inN (by omega) (by omega)) (fun r9 w9 h9 => ?_)
  obtain ⟨h8, h9⟩ := h9
  subst h8
  have h9 := h9.symm
  subst h9
  rcases rgn_c 32 126 x with ⟨k, k1, k2, rfl, e⟩ | ⟨hx, e⟩
  · rw [e]
    refine k_if_neB 13 11 dX9_write_8 rfl rfl (fun c9 => ?_) (fun c9 => absurd c9 (by simp))
    refine k_aload_n 14 dX9_write_13 rfl rfl rfl ?_
    refine k_get 17 dX9_write_14 rfl fX9_write_60 (by (repeat (refine Is.ne ?_ (by omega))); first | assumption | exact Is.up (by omega)) (by rfl) ?_
    refine k_sipush (nI 200) 20 dX9_write_17 rfl ks_200 ?_
    refine k_icmp_neN 26 23 dX9_write_20 rfl rfl (by omega) (by omega) (fun c => ?_) (fun c => ?_)
    · have ea : a_write S (nI k) = (nI (qt S + 1), (qF S, qM S, qP S, qK S, qm S, qN S, qt S + 1, sf (qT S) (qt S) k)) := by
        unfold a_write
        rw [e]
        dsimp only
        rw [if_neg (by omega)]
      rw [ea]
      refine k_aload_n 27 dX9_write_26 rfl rfl rfl ?_
      refine k_get 30 dX9_write_27 rfl fX9_write_7 (by (repeat (refine Is.ne ?_ (by omega))); first | assumption | exact Is.up (by omega)) (by rfl) ?_
      refine k_aload_n 31 dX9_write_30 rfl rfl rfl ?_
      refine k_get 34 dX9_write_31 rfl fX9_write_60 (by (repeat (refine Is.ne ?_ (by omega))); first | assumption | exact Is.up (by omega)) (by rfl) ?_
      refine k_iload_n 35 dX9_write_34 rfl rfl rfl ?_
      refine k_iastN 36 dX9_write_35 rfl (by (repeat (refine Is.ne ?_ (by omega))); first | assumption | exact Is.up (by omega)) (by omega) (by omega) ?_
      refine k_aload_n 37 dX9_write_36 rfl rfl rfl ?_
      refine k_dup 38 dX9_write_37 rfl rfl ?_
      refine k_get 41 dX9_write_38 rfl fX9_write_60 (by (repeat (refine Is.ne ?_ (by omega))); first | assumption | exact Is.up (by omega)) (by rfl) ?_
      refine k_iconst (nI 1) 42 dX9_write_41 rfl kc_1 ?_
      first | refine k_iaddE _ 43 dX9_write_42 rfl (nI_add _ _) ?_ | refine k_iadd 43 dX9_write_42 rfl ?_
      refine k_put 46 dX9_write_43 rfl pX9_write_60 (by (repeat (refine Is.ne ?_ (by omega))); first | assumption | exact Is.up (by omega)) (Nat.le_of_ble_eq_true rfl) rfl rfl ?_
      refine k_aload_n 47 dX9_write_46 rfl rfl rfl ?_
      refine k_get 50 dX9_write_47 rfl fX9_write_60 (by (repeat (refine Is.ne ?_ (by omega))); first | assumption | exact Is.up (by omega)) (by rfl) ?_
      refine k_iret dX9_write_50 rfl rfl (Nat.le_of_ble_eq_true rfl) ⟨rfl, ⟨at_, _, to_, dr, be, s, pa, im, nt, ah, sd, gr, ro, ⟨(by (repeat (refine Is.ne ?_ (by omega))); first | assumption | exact Is.up (by omega)), (by (repeat (refine Is.ne ?_ (by omega))); first | assumption | exact Is.up (by omega)), (by (repeat (refine Is.ne ?_ (by omega))); first | assumption | exact Is.up (by omega)), (by (repeat (refine Is.ne ?_ (by omega))); first | assumption | exact Is.up (by omega)), (by (repeat (refine Is.ne ?_ (by omega))); first | assumption | exact Is.up (by omega)), (by (repeat (refine Is.ne ?_ (by omega))); first | assumption | exact Is.up (by omega)), (by (repeat (refine Is.ne ?_ (by omega))); first | assumption | exact Is.up (by omega)), (by (repeat (refine Is.ne ?_ (by omega))); first | assumption | exact Is.up (by omega)), (by (repeat (refine Is.ne ?_ (by omega))); first | assumption | exact Is.up (by omega)), (by (repeat (refine Is.ne ?_ (by omega))); first | assumption | exact Is.up (by omega)), (by (repeat (refine Is.ne ?_ (by omega))); first | assumption | exact Is.up (by omega)), (by (repeat (refine Is.ne ?_ (by omega))); first | assumption | exact Is.up (by omega)), (by (repeat (refine Is.ne ?_ (by omega))); first | assumption | exact Is.up (by omega))⟩, fun i hi => ?_, v2, v3, v4, v5, v6, v7, v8⟩, (by (repeat (refine Eqx.up ?_ (by omega) (by omega))); first | exact Eqx.rf | assumption)⟩
      have hi : i < qt S + 1 := hi
      show _ = nI (sf (qT S) (qt S) k i)
      by_cases e : i = qt S
      · rw [e, upd_s, sf_s]
      · rw [upd_n _ _ e, sf_n _ _ e, v1 i (by omega)]
    · have ea : a_write S (nI k) = (-3, S) := by
        unfold a_write
        rw [e]
        dsimp only
        rw [if_pos (by omega)]
      rw [ea]
      refine k_bipush (-3) 25 dX9_write_23 rfl kbm_3 ?_
      refine k_iret dX9_write_25 rfl rfl (Nat.le_of_ble_eq_true rfl) ⟨rfl, h, Eqx.rf⟩
  · rw [e]
    have ea : a_write S x = (-1, S) := by
      unfold a_write
      rw [e]
    rw [ea]
    refine k_if_neB 13 11 dX9_write_8 rfl rfl (fun c9 => absurd c9 (by simp)) (fun c9 => ?_)
    refine k_iconst (-1) 12 dX9_write_11 rfl km_1 ?_
    refine k_iret dX9_write_12 rfl rfl (Nat.le_of_ble_eq_true rfl) ⟨rfl, h, Eqx.rf⟩
theorem c_X9_wipe {G : KG} {N : Nat} {w : WD} {b : Nat} {S : St} (h : RsM G N w b S (qM S) none) : KCon G jX9_wipe N w [rf G b] (RpO G N w b (a_wipe S)) := by
  obtain ⟨at_, tx, to_, dr, be, s, pa, im, nt, ah, sd, gr, ro, ⟨g0, g1, g2, g3, g4, g5, g6, g7, g8, g9, g10, g11, g12⟩, v1, v2, v3, v4, v5, v6, v7, v8⟩ := h
  have hN := g12.1
  refine KCon.of ([some (rf G b), none]) (by decide) rfl (by simp [Value.category]) (Nat.le_of_ble_eq_true rfl) rfl ?_
  refine k_aload_n 1 dX9_wipe_0 rfl rfl rfl ?_
  refine k_get 4 dX9_wipe_1 rfl fX9_wipe_60 (by (repeat (refine Is.ne ?_ (by omega))); first | assumption | exact Is.up (by omega)) (by rfl) ?_
  refine k_istore_n _ 5 dX9_wipe_4 rfl rfl (by decide) rfl rfl ?_
  refine k_aload_n 6 dX9_wipe_5 rfl rfl rfl ?_
  refine k_iconst (nI 0) 7 dX9_wipe_6 rfl kc_0 ?_
  refine k_put 10 dX9_wipe_7 rfl pX9_wipe_60 (by (repeat (refine Is.ne ?_ (by omega))); first | assumption | exact Is.up (by omega)) (Nat.le_of_ble_eq_true rfl) rfl rfl ?_
  refine k_iload_n 11 dX9_wipe_10 rfl rfl rfl ?_
  refine k_iret dX9_wipe_11 rfl rfl (Nat.le_of_ble_eq_true rfl) ⟨rfl, ⟨at_, tx, to_, dr, be, s, pa, im, nt, ah, sd, gr, ro, ⟨(by (repeat (refine Is.ne ?_ (by omega))); first | assumption | exact Is.up (by omega)), (by (repeat (refine Is.ne ?_ (by omega))); first | assumption | exact Is.up (by omega)), (by (repeat (refine Is.ne ?_ (by omega))); first | assumption | exact Is.up (by omega)), (by (repeat (refine Is.ne ?_ (by omega))); first | assumption | exact Is.up (by omega)), (by (repeat (refine Is.ne ?_ (by omega))); first | assumption | exact Is.up (by omega)), (by (repeat (refine Is.ne ?_ (by omega))); first | assumption | exact Is.up (by omega)), (by (repeat (refine Is.ne ?_ (by omega))); first | assumption | exact Is.up (by omega)), (by (repeat (refine Is.ne ?_ (by omega))); first | assumption | exact Is.up (by omega)), (by (repeat (refine Is.ne ?_ (by omega))); first | assumption | exact Is.up (by omega)), (by (repeat (refine Is.ne ?_ (by omega))); first | assumption | exact Is.up (by omega)), (by (repeat (refine Is.ne ?_ (by omega))); first | assumption | exact Is.up (by omega)), (by (repeat (refine Is.ne ?_ (by omega))); first | assumption | exact Is.up (by omega)), (by (repeat (refine Is.ne ?_ (by omega))); first | assumption | exact Is.up (by omega))⟩, fun i hi => absurd hi (Nat.not_lt_zero i), v2, v3, v4, v5, v6, v7, v8⟩, (by (repeat (refine Eqx.up ?_ (by omega) (by omega))); first | exact Eqx.rf | assumption)⟩
theorem c_X9_forget {G : KG} {N : Nat} {w : WD} {b : Nat} {S : St} (h : RsM G N w b S (qM S) none) : KCon G jX9_forget N w [rf G b] (RpO G N w b (a_forget S)) := by
  obtain ⟨at_, tx, to_, dr, be, s, pa, im, nt, ah, sd, gr, ro, ⟨g0, g1, g2, g3, g4, g5, g6, g7, g8, g9, g10, g11, g12⟩, v1, v2, v3, v4, v5, v6, v7, v8⟩ := h
  have hN := g12.1
  refine KCon.of ([some (rf G b), none]) (by decide) rfl (by simp [Value.category]) (Nat.le_of_ble_eq_true rfl) rfl ?_
  refine k_aload_n 1 dX9_forget_0 rfl rfl rfl ?_
  refine k_get 4 dX9_forget_1 rfl fX9_forget_99 (by (repeat (refine Is.ne ?_ (by omega))); first | assumption | exact Is.up (by omega)) (by rfl) ?_
  refine k_istore_n _ 5 dX9_forget_4 rfl rfl (by decide) rfl rfl ?_
  refine k_aload_n 6 dX9_forget_5 rfl rfl rfl ?_
  refine k_iconst (nI 0) 7 dX9_forget_6 rfl kc_0 ?_
  refine k_put 10 dX9_forget_7 rfl pX9_forget_99 (by (repeat (refine Is.ne ?_ (by omega))); first | assumption | exact Is.up (by omega)) (Nat.le_of_ble_eq_true rfl) rfl rfl ?_
  refine k_iload_n 11 dX9_forget_10 rfl rfl rfl ?_
  refine k_iret dX9_forget_11 rfl rfl (Nat.le_of_ble_eq_true rfl) ⟨rfl, ⟨at_, tx, to_, dr, be, s, pa, im, nt, ah, sd, gr, ro, ⟨(by (repeat (refine Is.ne ?_ (by omega))); first | assumption | exact Is.up (by omega)), (by (repeat (refine Is.ne ?_ (by omega))); first | assumption | exact Is.up (by omega)), (by (repeat (refine Is.ne ?_ (by omega))); first | assumption | exact Is.up (by omega)), (by (repeat (refine Is.ne ?_ (by omega))); first | assumption | exact Is.up (by omega)), (by (repeat (refine Is.ne ?_ (by omega))); first | assumption | exact Is.up (by omega)), (by (repeat (refine Is.ne ?_ (by omega))); first | assumption | exact Is.up (by omega)), (by (repeat (refine Is.ne ?_ (by omega))); first | assumption | exact Is.up (by omega)), (by (repeat (refine Is.ne ?_ (by omega))); first | assumption | exact Is.up (by omega)), (by (repeat (refine Is.ne ?_ (by omega))); first | assumption | exact Is.up (by omega)), (by (repeat (refine Is.ne ?_ (by omega))); first | assumption | exact Is.up (by omega)), (by (repeat (refine Is.ne ?_ (by omega))); first | assumption | exact Is.up (by omega)), (by (repeat (refine Is.ne ?_ (by omega))); first | assumption | exact Is.up (by omega)), (by (repeat (refine Is.ne ?_ (by omega))); first | assumption | exact Is.up (by omega))⟩, v1, v2, v3, v4, v5, fun i hi => absurd hi (Nat.not_lt_zero i), v7, v8⟩, (by (repeat (refine Eqx.up ?_ (by omega) (by omega))); first | exact Eqx.rf | assumption)⟩
theorem c_X9_person {G : KG} {N : Nat} {w : WD} {b : Nat} {x y : Int32} {S : St} (h : RsM G N w b S (qM S) none) (hO : sOK S) : KCon G jX9_person N w [rf G b, .int x, .int y] (RpO G N w b (a_person S x y)) := by
  have h' := h
  obtain ⟨at_, tx, to_, dr, be, s, pa, im, nt, ah, sd, gr, ro, ⟨g0, g1, g2, g3, g4, g5, g6, g7, g8, g9, g10, g11, g12⟩, v1, v2, v3, v4, v5, v6, v7, v8⟩ := h'
  obtain ⟨o1, o2, ⟨o3, o4⟩, -⟩ := hO
  have hn7 := o1.1
  refine KCon.of ([some (rf G b), some (.int x), some (.int y)]) (by decide) rfl (by simp [Value.category]) (Nat.le_of_ble_eq_true rfl) rfl ?_
  refine k_aload_n 1 dX9_person_0 rfl rfl rfl ?_
  refine k_iload_n 2 dX9_person_1 rfl rfl rfl ?_
  refine k_V1 (ci := 8) 5 dX9_person_2 rfl vX9_person_102 (by (repeat (refine Is.ne ?_ (by omega))); first | assumption | exact Is.up (by omega)) rfl rfl (Nat.le_of_ble_eq_true rfl) rfl ⟨Nat.le_of_ble_eq_true rfl, Nat.le_of_ble_eq_true rfl⟩ (c_X9_isOne h o2 hn7) (fun r9 w9 h9 => ?_)
  obtain ⟨h8, h9⟩ := h9
  subst h8
  have h9 := h9.symm
  subst h9
  rcases prs_c hn7 x with ⟨p, hp, rfl, e⟩ | ⟨hno, e⟩
  · rw [e]
    refine k_if_neB 10 8 dX9_person_5 rfl rfl (fun c9 => ?_) (fun c9 => absurd c9 (by simp))
    rcases rgn_c 0 6 y with ⟨k, k1, k2, rfl, e2⟩ | ⟨hy, e2⟩
    · have ea : a_person S (nI p) (nI k) = ((if k = 0 then nI (oK (qF S) p) else if k = 1 then nI (oW (qF S) p) else if k = 2 then nI (oT (qF S) p) else if k = 3 then nI (mP (qM S) p) else if k = 4 then pI (plc (qM S) p) else if k = 5 then nI (mW (qM S) p) else iZ (200000 + due (qM S) p)), S) := by
        unfold a_person
        rw [e]
        dsimp only
        rw [e2]
      rw [ea]
      refine k_iload_n 11 dX9_person_10 rfl rfl rfl ?_
      have h7 : k = 0 ∨ k = 1 ∨ k = 2 ∨ k = 3 ∨ k = 4 ∨ k = 5 ∨ k = 6 := by omega
      rcases h7 with rfl | rfl | rfl | rfl | rfl | rfl | rfl
      · refine k_tableIn (off := 41) 52 dX9_person_11 (by decide) (by decide) (by decide +kernel) rfl ?_
        refine k_aload_n 53 dX9_person_52 rfl rfl rfl ?_
        refine k_get 56 dX9_person_53 rfl fX9_person_13 (by (repeat (refine Is.ne ?_ (by omega))); first | assumption | exact Is.up (by omega)) (by rfl) ?_
        refine k_iconst (nI 2) 57 dX9_person_56 rfl kc_2 ?_
        refine k_iload_n 58 dX9_person_57 rfl rfl rfl ?_
        first | refine k_iaddE _ 59 dX9_person_58 rfl (nI_add _ _) ?_ | refine k_iadd 59 dX9_person_58 rfl ?_
        refine k_ialdN 60 dX9_person_59 rfl (by (repeat (refine Is.ne ?_ (by omega))); first | assumption | exact Is.up (by omega)) (by omega) (by omega) ?_
        rw [(v2.2.2 p hp).1]
        refine k_iret dX9_person_60 rfl rfl (Nat.le_of_ble_eq_true rfl) ⟨rfl, h, Eqx.rf⟩
      · refine k_tableIn (off := 50) 61 dX9_person_11 (by decide) (by decide) (by decide +kernel) rfl ?_
        refine k_aload_n 62 dX9_person_61 rfl rfl rfl ?_
        refine k_get 65 dX9_person_62 rfl fX9_person_13 (by (repeat (refine Is.ne ?_ (by omega))); first | assumption | exact Is.up (by omega)) (by rfl) ?_
        refine k_bipush (nI 9) 67 dX9_person_65 rfl kb_9 ?_
        refine k_iload_n 68 dX9_person_67 rfl rfl rfl ?_
        first | refine k_iaddE _ 69 dX9_person_68 rfl (nI_add _ _) ?_ | refine k_iadd 69 dX9_person_68 rfl ?_
        refine k_ialdN 70 dX9_person_69 rfl (by (repeat (refine Is.ne ?_ (by omega))); first | assumption | exact Is.up (by omega)) (by omega) (by omega) ?_
        rw [(v2.2.2 p hp).2.1]
        refine k_iret dX9_person_70 rfl rfl (Nat.le_of_ble_eq_true rfl) ⟨rfl, h, Eqx.rf⟩
      · refine k_tableIn (off := 60) 71 dX9_person_11 (by decide) (by decide) (by decide +kernel) rfl ?_
        refine k_aload_n 72 dX9_person_71 rfl rfl rfl ?_
        refine k_get 75 dX9_person_72 rfl fX9_person_13 (by (repeat (refine Is.ne ?_ (by omega))); first | assumption | exact Is.up (by omega)) (by rfl) ?_
        refine k_bipush (nI 16) 77 dX9_person_75 rfl kb_16 ?_
        refine k_iload_n 78 dX9_person_77 rfl rfl rfl ?_
        first | refine k_iaddE _ 79 dX9_person_78 rfl (nI_add _ _) ?_ | refine k_iadd 79 dX9_person_78 rfl ?_
        refine k_ialdN 80 dX9_person_79 rfl (by (repeat (refine Is.ne ?_ (by omega))); first | assumption | exact Is.up (by omega)) (by omega) (by omega) ?_
        rw [(v2.2.2 p hp).2.2]
        refine k_iret dX9_person_80 rfl rfl (Nat.le_of_ble_eq_true rfl) ⟨rfl, h, Eqx.rf⟩
      · refine k_tableIn (off := 70) 81 dX9_person_11 (by decide) (by decide) (by decide +kernel) rfl ?_
        refine k_aload_n 82 dX9_person_81 rfl rfl rfl ?_
        refine k_get 85 dX9_person_82 rfl fX9_person_22 (by (repeat (refine Is.ne ?_ (by omega))); first | assumption | exact Is.up (by omega)) (by rfl) ?_
        refine k_bipush (nI 16) 87 dX9_person_85 rfl kb_16 ?_
        refine k_iload_n 88 dX9_person_87 rfl rfl rfl ?_
        first | refine k_iaddE _ 89 dX9_person_88 rfl (nI_add _ _) ?_ | refine k_iadd 89 dX9_person_88 rfl ?_
        refine k_ialdN 90 dX9_person_89 rfl (by (repeat (refine Is.ne ?_ (by omega))); first | assumption | exact Is.up (by omega)) (by omega) (by omega) ?_
        rw [(v3.2.2.2.1 p hp).2]
        refine k_iret dX9_person_90 rfl rfl (Nat.le_of_ble_eq_true rfl) ⟨rfl, h, Eqx.rf⟩
      · refine k_tableIn (off := 80) 91 dX9_person_11 (by decide) (by decide) (by decide +kernel) rfl ?_
        refine k_aload_n 92 dX9_person_91 rfl rfl rfl ?_
        refine k_iload_n 93 dX9_person_92 rfl rfl rfl ?_
        refine k_V1 (ci := 8) 96 dX9_person_93 rfl vX9_person_105 (by (repeat (refine Is.ne ?_ (by omega))); first | assumption | exact Is.up (by omega)) rfl rfl (Nat.le_of_ble_eq_true rfl) rfl ⟨Nat.le_of_ble_eq_true rfl, Nat.le_of_ble_eq_true rfl⟩ (c_X9_pl h o3 hp) (fun r9 w9 h9 => ?_)
        obtain ⟨h8, h9⟩ := h9
        subst h8
        have h9 := h9.symm
        subst h9
        refine k_iret dX9_person_96 rfl rfl (Nat.le_of_ble_eq_true rfl) ⟨rfl, h, Eqx.rf⟩
      · refine k_tableIn (off := 86) 97 dX9_person_11 (by decide) (by decide) (by decide +kernel) rfl ?_
        refine k_aload_n 98 dX9_person_97 rfl rfl rfl ?_
        refine k_get 101 dX9_person_98 rfl fX9_person_22 (by (repeat (refine Is.ne ?_ (by omega))); first | assumption | exact Is.up (by omega)) (by rfl) ?_
        refine k_bipush (nI 9) 103 dX9_person_101 rfl kb_9 ?_
        refine k_iload_n 104 dX9_person_103 rfl rfl rfl ?_
        first | refine k_iaddE _ 105 dX9_person_104 rfl (nI_add _ _) ?_ | refine k_iadd 105 dX9_person_104 rfl ?_
        refine k_ialdN 106 dX9_person_105 rfl (by (repeat (refine Is.ne ?_ (by omega))); first | assumption | exact Is.up (by omega)) (by omega) (by omega) ?_
        rw [(v3.2.2.2.1 p hp).1]
        refine k_iret dX9_person_106 rfl rfl (Nat.le_of_ble_eq_true rfl) ⟨rfl, h, Eqx.rf⟩
      · refine k_tableIn (off := 96) 107 dX9_person_11 (by decide) (by decide) (by decide +kernel) rfl ?_
        refine k_aload_n 108 dX9_person_107 rfl rfl rfl ?_
        refine k_iload_n 109 dX9_person_108 rfl rfl rfl ?_
        refine k_V1 (ci := 8) 112 dX9_person_109 rfl vX9_person_108 (by (repeat (refine Is.ne ?_ (by omega))); first | assumption | exact Is.up (by omega)) rfl rfl (Nat.le_of_ble_eq_true rfl) rfl ⟨Nat.le_of_ble_eq_true rfl, Nat.le_of_ble_eq_true rfl⟩ (c_X9_due h (by omega)) (fun r9 w9 h9 => ?_)
        obtain ⟨h8, h9⟩ := h9
        subst h8
        have h9 := h9.symm
        subst h9
        refine k_ldc ((iZ 200000)) 114 dX9_person_112 rfl (by decide +kernel) ?_
        refine k_iaddE _ 115 dX9_person_114 rfl (by rw [iZ_add, Int.add_comm]) ?_
        refine k_iret dX9_person_115 rfl rfl (Nat.le_of_ble_eq_true rfl) ⟨rfl, h, Eqx.rf⟩
    · have ea : a_person S (nI p) y = (-1, S) := by
        unfold a_person
        rw [e]
        dsimp only
        rw [e2]
      rw [ea]
      refine k_iload_n 11 dX9_person_10 rfl rfl rfl ?_
      refine k_tableOut 116 dX9_person_11 (by omega) rfl ?_
      refine k_iconst (-1) 117 dX9_person_116 rfl km_1 ?_
      refine k_iret dX9_person_117 rfl rfl (Nat.le_of_ble_eq_true rfl) ⟨rfl, h, Eqx.rf⟩
  · rw [e]
    have ea : a_person S x y = (-1, S) := by
      unfold a_person
      rw [e]
    rw [ea]
    refine k_if_neB 10 8 dX9_person_5 rfl rfl (fun c9 => absurd c9 (by simp)) (fun c9 => ?_)
    refine k_iconst (-1) 9 dX9_person_8 rfl km_1 ?_
    refine k_iret dX9_person_9 rfl rfl (Nat.le_of_ble_eq_true rfl) ⟨rfl, h, Eqx.rf⟩
theorem c_X9_owes {G : KG} {N : Nat} {w : WD} {b : Nat} {x y : Int32} {S : St} (h : RsM G N w b S (qM S) none) (hO : sOK S) : KCon G jX9_owes N w [rf G b, .int x, .int y] (RpO G N w b (a_owes S x y)) := by
  have h' := h
  obtain ⟨at_, tx, to_, dr, be, s, pa, im, nt, ah, sd, gr, ro, ⟨g0, g1, g2, g3, g4, g5, g6, g7, g8, g9, g10, g11, g12⟩, v1, v2, v3, v4, v5, v6, v7, v8⟩ := h'
  obtain ⟨o1, o2, ⟨o3, o4⟩, -⟩ := hO
  have hn7 := o1.1
  refine KCon.of ([some (rf G b), some (.int x), some (.int y)]) (by decide) rfl (by simp [Value.category]) (Nat.le_of_ble_eq_true rfl) rfl ?_
  have bad : two (oN (qF S)) x y = none → KRun G jX9_owes N (RpO G N w b (a_owes S x y)) 38 [some (rf G b), some (.int x), some (.int y)] [] 0 0 w := by
    intro e
    have ea : a_owes S x y = (-1, S) := by
      unfold a_owes
      rw [e]
    rw [ea]
    refine k_iconst (-1) 39 dX9_owes_38 rfl km_1 ?_
    refine k_iret dX9_owes_39 rfl rfl (Nat.le_of_ble_eq_true rfl) ⟨rfl, h, Eqx.rf⟩
  refine k_aload_n 1 dX9_owes_0 rfl rfl rfl ?_
  refine k_iload_n 2 dX9_owes_1 rfl rfl rfl ?_
  refine k_V1 (ci := 8) 5 dX9_owes_2 rfl vX9_owes_102 (by (repeat (refine Is.ne ?_ (by omega))); first | assumption | exact Is.up (by omega)) rfl rfl (Nat.le_of_ble_eq_true rfl) rfl ⟨Nat.le_of_ble_eq_true rfl, Nat.le_of_ble_eq_true rfl⟩ (c_X9_isOne h o2 hn7) (fun r9 w9 h9 => ?_)
  obtain ⟨h8, h9⟩ := h9
  subst h8
  have h9 := h9.symm
  subst h9
  rcases prs_c hn7 x with ⟨p, hp, rfl, e⟩ | ⟨hno, e⟩
  · rw [e]
    refine k_if_eqB 38 8 dX9_owes_5 rfl rfl (fun c9 => absurd c9 (by simp)) (fun c9 => ?_)
    refine k_aload_n 9 dX9_owes_8 rfl rfl rfl ?_
    refine k_iload_n 10 dX9_owes_9 rfl rfl rfl ?_
    refine k_V1 (ci := 8) 13 dX9_owes_10 rfl vX9_owes_102 (by (repeat (refine Is.ne ?_ (by omega))); first | assumption | exact Is.up (by omega)) rfl rfl (Nat.le_of_ble_eq_true rfl) rfl ⟨Nat.le_of_ble_eq_true rfl, Nat.le_of_ble_eq_true rfl⟩ (c_X9_isOne h o2 hn7) (fun r9 w9 h9 => ?_)
    obtain ⟨h8, h9⟩ := h9
    subst h8
    have h9 := h9.symm
    subst h9
    rcases prs_c hn7 y with ⟨q, hq, rfl, e2⟩ | ⟨hno, e2⟩
    · rw [e2]
      refine k_if_eqB 38 16 dX9_owes_13 rfl rfl (fun c9 => absurd c9 (by simp)) (fun c9 => ?_)
      refine k_iload_n 17 dX9_owes_16 rfl rfl rfl ?_
      refine k_iload_n 18 dX9_owes_17 rfl rfl rfl ?_
      refine k_icmp_eqN 38 21 dX9_owes_18 rfl rfl (by omega) (by omega) (fun c => ?_) (fun c => ?_)
      · exact bad (by unfold two; rw [e, e2]; dsimp only; rw [if_pos c])
      · have ea : a_owes S (nI p) (nI q) = (nI (mD (qM S) (7 * p + q)), S) := by
          unfold a_owes two
          rw [e, e2]
          dsimp only
          rw [if_neg c]
        rw [ea]
        refine k_aload_n 22 dX9_owes_21 rfl rfl rfl ?_
        refine k_get 25 dX9_owes_22 rfl fX9_owes_22 (by (repeat (refine Is.ne ?_ (by omega))); first | assumption | exact Is.up (by omega)) (by rfl) ?_
        refine k_bipush (nI 23) 27 dX9_owes_25 rfl kb_23 ?_
        refine k_bipush (nI 7) 29 dX9_owes_27 rfl kb_7 ?_
        refine k_iload_n 30 dX9_owes_29 rfl rfl rfl ?_
        first | refine k_imulE _ 31 dX9_owes_30 rfl (pk_mul _ _) ?_ | refine k_imul 31 dX9_owes_30 rfl ?_
        first | refine k_iaddE _ 32 dX9_owes_31 rfl (nI_add _ _) ?_ | refine k_iadd 32 dX9_owes_31 rfl ?_
        refine k_iload_n 33 dX9_owes_32 rfl rfl rfl ?_
        first | refine k_iaddE _ 34 dX9_owes_33 rfl (nI_add _ _) ?_ | refine k_iadd 34 dX9_owes_33 rfl ?_
        refine k_ialdN 35 dX9_owes_34 rfl (by (repeat (refine Is.ne ?_ (by omega))); first | assumption | exact Is.up (by omega)) (by omega) (by omega) ?_
        rw [v3.d (a := p) (c := q) (by omega) (by omega)]
        refine k_goto 39 dX9_owes_35 rfl ?_
        refine k_iret dX9_owes_39 rfl rfl (Nat.le_of_ble_eq_true rfl) ⟨rfl, h, Eqx.rf⟩
    · rw [e2]
      refine k_if_eqB 38 16 dX9_owes_13 rfl rfl (fun c9 => ?_) (fun c9 => absurd c9 (by simp))
      exact bad (by unfold two; rw [e, e2])
  · rw [e]
    refine k_if_eqB 38 8 dX9_owes_5 rfl rfl (fun c9 => ?_) (fun c9 => absurd c9 (by simp))
    exact bad (by unfold two; rw [e])
theorem c_X9_place {G : KG} {N : Nat} {w : WD} {b : Nat} {x : Int32} {S : St} (h : RsM G N w b S (qM S) none) (hO : sOK S) : KCon G jX9_place N w [rf G b, .int x] (RpO G N w b (a_place S x)) := by
  have h' := h
  obtain ⟨at_, tx, to_, dr, be, s, pa, im, nt, ah, sd, gr, ro, ⟨g0, g1, g2, g3, g4, g5, g6, g7, g8, g9, g10, g11, g12⟩, v1, v2, v3, v4, v5, v6, v7, v8⟩ := h'
  obtain ⟨o1, o2, ⟨o3, o4⟩, -⟩ := hO
  have hL7 := ok_l7 o3
  refine KCon.of ([some (rf G b), some (.int x)]) (by decide) rfl (by simp [Value.category]) (Nat.le_of_ble_eq_true rfl) rfl ?_
  refine k_iload_n 1 dX9_place_0 rfl rfl rfl ?_
  refine k_iconst (nI 0) 2 dX9_place_1 rfl kc_0 ?_
  refine k_bipush (nI 6) 4 dX9_place_2 rfl kb_6 ?_
  refine k_S3 7 dX9_place_4 rfl vX9_place_56 (Nat.le_of_ble_eq_true rfl) rfl ⟨Nat.le_of_ble_eq_true rfl, Nat.le_of_ble_eq_true rfl⟩ (c_X9_inN (by omega) (by omega)) (fun r9 w9 h9 => ?_)
  obtain ⟨h8, h9⟩ := h9
  subst h8
  have h9 := h9.symm
  subst h9
  rcases rgn_c 0 6 x with ⟨k, k1, k2, rfl, e⟩ | ⟨hx, e⟩
  · rw [e]
    refine k_if_neB 14 10 dX9_place_7 rfl rfl (fun c9 => ?_) (fun c9 => absurd c9 (by simp))
    refine k_iload_n 15 dX9_place_14 rfl rfl rfl ?_
    refine k_aload_n 16 dX9_place_15 rfl rfl rfl ?_
    refine k_get 19 dX9_place_16 rfl fX9_place_22 (by (repeat (refine Is.ne ?_ (by omega))); first | assumption | exact Is.up (by omega)) (by rfl) ?_
    refine k_iconst (nI 1) 20 dX9_place_19 rfl kc_1 ?_
    refine k_ialdN 21 dX9_place_20 rfl (by (repeat (refine Is.ne ?_ (by omega))); first | assumption | exact Is.up (by omega)) (by omega) (by omega) ?_
    rw [v3.2.1]
    refine k_icmp_geN 35 24 dX9_place_21 rfl rfl (by omega) (by omega) (fun c => ?_) (fun c => ?_)
    · have ea : a_place S (nI k) = (-4, S) := by
        unfold a_place
        rw [e]
        dsimp only
        rw [if_neg (by omega)]
      rw [ea]
      refine k_bipush (-4) 37 dX9_place_35 rfl kbm_4 ?_
      refine k_iret dX9_place_37 rfl rfl (Nat.le_of_ble_eq_true rfl) ⟨rfl, h, Eqx.rf⟩
    · have ea : a_place S (nI k) = (nI (mQ (qM S) k), S) := by
        unfold a_place
        rw [e]
        dsimp only
        rw [if_pos c]
      rw [ea]
      refine k_aload_n 25 dX9_place_24 rfl rfl rfl ?_
      refine k_get 28 dX9_place_25 rfl fX9_place_22 (by (repeat (refine Is.ne ?_ (by omega))); first | assumption | exact Is.up (by omega)) (by rfl) ?_
      refine k_iconst (nI 2) 29 dX9_place_28 rfl kc_2 ?_
      refine k_iload_n 30 dX9_place_29 rfl rfl rfl ?_
      first | refine k_iaddE _ 31 dX9_place_30 rfl (nI_add _ _) ?_ | refine k_iadd 31 dX9_place_30 rfl ?_
      refine k_ialdN 32 dX9_place_31 rfl (by (repeat (refine Is.ne ?_ (by omega))); first | assumption | exact Is.up (by omega)) (by omega) (by omega) ?_
      rw [v3.2.2.1 k c]
      refine k_goto 37 dX9_place_32 rfl ?_
      refine k_iret dX9_place_37 rfl rfl (Nat.le_of_ble_eq_true rfl) ⟨rfl, h, Eqx.rf⟩
  · rw [e]
    have ea : a_place S x = (-1, S) := by
      unfold a_place
      rw [e]
    rw [ea]
    refine k_if_neB 14 10 dX9_place_7 rfl rfl (fun c9 => absurd c9 (by simp)) (fun c9 => ?_)
    refine k_iconst (-1) 11 dX9_place_10 rfl km_1 ?_
    refine k_goto 37 dX9_place_11 rfl ?_
    refine k_iret dX9_place_37 rfl rfl (Nat.le_of_ble_eq_true rfl) ⟨rfl, h, Eqx.rf⟩
theorem c_X9_would {G : KG} {N : Nat} {w : WD} {b : Nat} {x : Int32} {S : St} (h : RsM G N w b S (qM S) none) (hO : sOK S) : KCon G jX9_would N w [rf G b, .int x] (RpO G N w b (a_would S x)) := by
  have h' := h
  obtain ⟨at_, tx, to_, dr, be, s, pa, im, nt, ah, sd, gr, ro, ⟨g0, g1, g2, g3, g4, g5, g6, g7, g8, g9, g10, g11, g12⟩, v1, v2, v3, v4, v5, v6, v7, v8⟩ := h'
  obtain ⟨o1, o2, ⟨o3, o4⟩, -⟩ := hO
  have hn7 := o1.1
  have hL7 := ok_l7 o3
  refine KCon.of ([some (rf G b), some (.int x), none]) (by decide) rfl (by simp [Value.category]) (Nat.le_of_ble_eq_true rfl) rfl ?_
  refine k_aload_n 1 dX9_would_0 rfl rfl rfl ?_
  refine k_iload_n 2 dX9_would_1 rfl rfl rfl ?_
  refine k_V1 (ci := 8) 5 dX9_would_2 rfl vX9_would_102 (by (repeat (refine Is.ne ?_ (by omega))); first | assumption | exact Is.up (by omega)) rfl rfl (Nat.le_of_ble_eq_true rfl) rfl ⟨Nat.le_of_ble_eq_true rfl, Nat.le_of_ble_eq_true rfl⟩ (c_X9_isOne h o2 hn7) (fun r9 w9 h9 => ?_)
  obtain ⟨h8, h9⟩ := h9
  subst h8
  have h9 := h9.symm
  subst h9
  rcases prs_c hn7 x with ⟨p, hp, rfl, e⟩ | ⟨hno, e⟩
  · rw [e]
    refine k_if_neB 10 8 dX9_would_5 rfl rfl (fun c9 => ?_) (fun c9 => absurd c9 (by simp))
    refine k_aload_n 11 dX9_would_10 rfl rfl rfl ?_
    refine k_iload_n 12 dX9_would_11 rfl rfl rfl ?_
    refine k_V1 (ci := 8) 15 dX9_would_12 rfl vX9_would_105 (by (repeat (refine Is.ne ?_ (by omega))); first | assumption | exact Is.up (by omega)) rfl rfl (Nat.le_of_ble_eq_true rfl) rfl ⟨Nat.le_of_ble_eq_true rfl, Nat.le_of_ble_eq_true rfl⟩ (c_X9_pl h o3 hp) (fun r9 w9 h9 => ?_)
    obtain ⟨h8, h9⟩ := h9
    subst h8
    have h9 := h9.symm
    subst h9
    refine k_istore_n _ 16 dX9_would_15 rfl rfl (by decide) rfl rfl ?_
    refine k_iload_n 17 dX9_would_16 rfl rfl rfl ?_
    refine k_iconst (nI 1) 18 dX9_would_17 rfl kc_1 ?_
    cases e1 : plc (qM S) p with
    | none =>
      have ea : a_would S (nI p) = (-2, S) := by
        unfold a_would
        rw [e]
        dsimp only
        rw [e1]
      rw [ea]
      refine k_icmp_ge (x := -4) (y := nI 1) 26 21 dX9_would_18 rfl rfl (fun c => absurd c (by decide)) (fun c => ?_)
      refine k_bipush (-2) 23 dX9_would_21 rfl kbm_2 ?_
      refine k_goto 39 dX9_would_23 rfl ?_
      refine k_iret dX9_would_39 rfl rfl (Nat.le_of_ble_eq_true rfl) ⟨rfl, h, Eqx.rf⟩
    | some k =>
      obtain ⟨hk, hkp⟩ := plc_some e1
      refine k_icmp_geN (a := k) (b := 1) 26 21 dX9_would_18 rfl rfl (by omega) (by omega) (fun c => ?_) (fun c => ?_)
      · have ea : a_would S (nI p) = (bI (wnt (qF S) (qM S) (mQ (qM S) k) (mQ (qM S) (k - 1))), S) := by
          unfold a_would
          rw [e]
          dsimp only
          rw [e1]
          dsimp only
          rw [if_neg (by omega), hkp]
        rw [ea]
        refine k_loc [some (rf G b), some (.int (nI p)), some (.int (nI k))] ⟨rfl, rfl, rfl, trivial⟩ rfl ?_
        refine k_aload_n 27 dX9_would_26 rfl rfl rfl ?_
        refine k_iload_n 28 dX9_would_27 rfl rfl rfl ?_
        refine k_V1 (ci := 8) 31 dX9_would_28 rfl vX9_would_112 (by (repeat (refine Is.ne ?_ (by omega))); first | assumption | exact Is.up (by omega)) rfl rfl (Nat.le_of_ble_eq_true rfl) rfl ⟨Nat.le_of_ble_eq_true rfl, Nat.le_of_ble_eq_true rfl⟩ (c_X9_wouldAt h o3.p o1 c hk) (fun r9 w9 h9 => ?_)
        obtain ⟨h8, h9⟩ := h9
        subst h8
        have h9 := h9.symm
        subst h9
        refine k_if_eqB 38 34 dX9_would_31 rfl rfl (fun c9 => ?_) (fun c9 => ?_)
        · rw [c9]
          refine k_iconst (nI 0) 39 dX9_would_38 rfl kc_0 ?_
          refine k_iret dX9_would_39 rfl rfl (Nat.le_of_ble_eq_true rfl) ⟨rfl, h, Eqx.rf⟩
        · rw [c9]
          refine k_iconst (nI 1) 35 dX9_would_34 rfl kc_1 ?_
          refine k_goto 39 dX9_would_35 rfl ?_
          refine k_iret dX9_would_39 rfl rfl (Nat.le_of_ble_eq_true rfl) ⟨rfl, h, Eqx.rf⟩
      · have ea : a_would S (nI p) = (-2, S) := by
          unfold a_would
          rw [e]
          dsimp only
          rw [e1]
          dsimp only
          rw [if_pos (by omega)]
        rw [ea]
        refine k_bipush (-2) 23 dX9_would_21 rfl kbm_2 ?_
        refine k_goto 39 dX9_would_23 rfl ?_
        refine k_iret dX9_would_39 rfl rfl (Nat.le_of_ble_eq_true rfl) ⟨rfl, h, Eqx.rf⟩
  · rw [e]
    have ea : a_would S x = (-1, S) := by
      unfold a_would
      rw [e]
    rw [ea]
    refine k_if_neB 10 8 dX9_would_5 rfl rfl (fun c9 => absurd c9 (by simp)) (fun c9 => ?_)
    refine k_iconst (-1) 9 dX9_would_8 rfl km_1 ?_
    refine k_iret dX9_would_9 rfl rfl (Nat.le_of_ble_eq_true rfl) ⟨rfl, h, Eqx.rf⟩
theorem c_X9_count {G : KG} {N : Nat} {w : WD} {b : Nat} {x : Int32} {S : St} (h : RsM G N w b S (qM S) none) (hO : sOK S) : KCon G jX9_count N w [rf G b, .int x] (RpO G N w b (a_count S x)) := by
  have h' := h
  obtain ⟨at_, tx, to_, dr, be, s, pa, im, nt, ah, sd, gr, ro, ⟨g0, g1, g2, g3, g4, g5, g6, g7, g8, g9, g10, g11, g12⟩, v1, v2, v3, v4, v5, v6, v7, v8⟩ := h'
  obtain ⟨o1, o2, ⟨o3, o4⟩, -⟩ := hO
  have hn7 := o1.1
  have hw2 : ∀ p, p < oN (qF S) → mW (qM S) p ≤ 2 := fun p hp => (o3.2.2.2.2.1 p hp).1
  refine KCon.of ([some (rf G b), some (.int x)]) (by decide) rfl (by simp [Value.category]) (Nat.le_of_ble_eq_true rfl) rfl ?_
  refine k_iload_n 1 dX9_count_0 rfl rfl rfl ?_
  rcases rgn_c 0 10 x with ⟨k, k1, k2, rfl, e⟩ | ⟨hx, e⟩
  · have ea : a_count S (nI k) = ((if k = 0 then nI (oN (qF S)) else if k = 1 then nI (oS (qF S)) else if k = 2 then nI (mG (qM S)) else if k = 3 then nI (mL (qM S)) else if k = 4 then nI (cnt (mW (qM S)) 1 (oN (qF S))) else if k = 5 then nI (cnt (mW (qM S)) 2 (oN (qF S))) else if k = 6 then nI (owf (mD (qM S)) 49) else if k = 7 then nI (qm S) else if k = 8 then nI (qP S).length else if k = 9 then nI (qK S).length else nI (qt S)), S) := by
      unfold a_count
      rw [e]
    rw [ea]
    have h11 : k = 0 ∨ k = 1 ∨ k = 2 ∨ k = 3 ∨ k = 4 ∨ k = 5 ∨ k = 6 ∨ k = 7 ∨ k = 8 ∨ k = 9 ∨ k = 10 := by omega
    rcases h11 with rfl | rfl | rfl | rfl | rfl | rfl | rfl | rfl | rfl | rfl | rfl
    · refine k_tableIn (off := 59) 60 dX9_count_1 (by decide) (by decide) (by decide +kernel) rfl ?_
      refine k_aload_n 61 dX9_count_60 rfl rfl rfl ?_
      refine k_get 64 dX9_count_61 rfl fX9_count_13 (by (repeat (refine Is.ne ?_ (by omega))); first | assumption | exact Is.up (by omega)) (by rfl) ?_
      refine k_iconst (nI 0) 65 dX9_count_64 rfl kc_0 ?_
      refine k_ialdN 66 dX9_count_65 rfl (by (repeat (refine Is.ne ?_ (by omega))); first | assumption | exact Is.up (by omega)) (by omega) (by omega) ?_
      rw [v2.1]
      refine k_iret dX9_count_66 rfl rfl (Nat.le_of_ble_eq_true rfl) ⟨rfl, h, Eqx.rf⟩
    · refine k_tableIn (off := 66) 67 dX9_count_1 (by decide) (by decide) (by decide +kernel) rfl ?_
      refine k_aload_n 68 dX9_count_67 rfl rfl rfl ?_
      refine k_get 71 dX9_count_68 rfl fX9_count_13 (by (repeat (refine Is.ne ?_ (by omega))); first | assumption | exact Is.up (by omega)) (by rfl) ?_
      refine k_iconst (nI 1) 72 dX9_count_71 rfl kc_1 ?_
      refine k_ialdN 73 dX9_count_72 rfl (by (repeat (refine Is.ne ?_ (by omega))); first | assumption | exact Is.up (by omega)) (by omega) (by omega) ?_
      rw [v2.2.1]
      refine k_iret dX9_count_73 rfl rfl (Nat.le_of_ble_eq_true rfl) ⟨rfl, h, Eqx.rf⟩
    · refine k_tableIn (off := 73) 74 dX9_count_1 (by decide) (by decide) (by decide +kernel) rfl ?_
      refine k_aload_n 75 dX9_count_74 rfl rfl rfl ?_
      refine k_get 78 dX9_count_75 rfl fX9_count_22 (by (repeat (refine Is.ne ?_ (by omega))); first | assumption | exact Is.up (by omega)) (by rfl) ?_
      refine k_iconst (nI 0) 79 dX9_count_78 rfl kc_0 ?_
      refine k_ialdN 80 dX9_count_79 rfl (by (repeat (refine Is.ne ?_ (by omega))); first | assumption | exact Is.up (by omega)) (by omega) (by omega) ?_
      rw [v3.1]
      refine k_iret dX9_count_80 rfl rfl (Nat.le_of_ble_eq_true rfl) ⟨rfl, h, Eqx.rf⟩
    · refine k_tableIn (off := 80) 81 dX9_count_1 (by decide) (by decide) (by decide +kernel) rfl ?_
      refine k_aload_n 82 dX9_count_81 rfl rfl rfl ?_
      refine k_get 85 dX9_count_82 rfl fX9_count_22 (by (repeat (refine Is.ne ?_ (by omega))); first | assumption | exact Is.up (by omega)) (by rfl) ?_
      refine k_iconst (nI 1) 86 dX9_count_85 rfl kc_1 ?_
      refine k_ialdN 87 dX9_count_86 rfl (by (repeat (refine Is.ne ?_ (by omega))); first | assumption | exact Is.up (by omega)) (by omega) (by omega) ?_
      rw [v3.2.1]
      refine k_iret dX9_count_87 rfl rfl (Nat.le_of_ble_eq_true rfl) ⟨rfl, h, Eqx.rf⟩
    · refine k_tableIn (off := 87) 88 dX9_count_1 (by decide) (by decide) (by decide +kernel) rfl ?_
      refine k_aload_n 89 dX9_count_88 rfl rfl rfl ?_
      refine k_iconst (nI 1) 90 dX9_count_89 rfl kc_1 ?_
      refine k_V1 (ci := 8) 93 dX9_count_90 rfl vX9_count_172 (by (repeat (refine Is.ne ?_ (by omega))); first | assumption | exact Is.up (by omega)) rfl rfl (Nat.le_of_ble_eq_true rfl) rfl ⟨Nat.le_of_ble_eq_true rfl, Nat.le_of_ble_eq_true rfl⟩ (c_X9_countOf (v := 1) h hn7 hw2 (by omega)) (fun r9 w9 h9 => ?_)
      obtain ⟨h8, h9⟩ := h9
      subst h8
      have h9 := h9.symm
      subst h9
      refine k_iret dX9_count_93 rfl rfl (Nat.le_of_ble_eq_true rfl) ⟨rfl, h, Eqx.rf⟩
    · refine k_tableIn (off := 93) 94 dX9_count_1 (by decide) (by decide) (by decide +kernel) rfl ?_
      refine k_aload_n 95 dX9_count_94 rfl rfl rfl ?_
      refine k_iconst (nI 2) 96 dX9_count_95 rfl kc_2 ?_
      refine k_V1 (ci := 8) 99 dX9_count_96 rfl vX9_count_172 (by (repeat (refine Is.ne ?_ (by omega))); first | assumption | exact Is.up (by omega)) rfl rfl (Nat.le_of_ble_eq_true rfl) rfl ⟨Nat.le_of_ble_eq_true rfl, Nat.le_of_ble_eq_true rfl⟩ (c_X9_countOf (v := 2) h hn7 hw2 (by omega)) (fun r9 w9 h9 => ?_)
      obtain ⟨h8, h9⟩ := h9
      subst h8
      have h9 := h9.symm
      subst h9
      refine k_iret dX9_count_99 rfl rfl (Nat.le_of_ble_eq_true rfl) ⟨rfl, h, Eqx.rf⟩
    · refine k_tableIn (off := 99) 100 dX9_count_1 (by decide) (by decide) (by decide +kernel) rfl ?_
      refine k_aload_n 101 dX9_count_100 rfl rfl rfl ?_
      refine k_V0 (ci := 8) 104 dX9_count_101 rfl vX9_count_169 (by (repeat (refine Is.ne ?_ (by omega))); first | assumption | exact Is.up (by omega)) rfl rfl (Nat.le_of_ble_eq_true rfl) rfl ⟨Nat.le_of_ble_eq_true rfl, Nat.le_of_ble_eq_true rfl⟩ (c_X9_owedInAll h) (fun r9 w9 h9 => ?_)
      obtain ⟨h8, h9⟩ := h9
      subst h8
      have h9 := h9.symm
      subst h9
      refine k_iret dX9_count_104 rfl rfl (Nat.le_of_ble_eq_true rfl) ⟨rfl, h, Eqx.rf⟩
    · refine k_tableIn (off := 104) 105 dX9_count_1 (by decide) (by decide) (by decide +kernel) rfl ?_
      refine k_aload_n 106 dX9_count_105 rfl rfl rfl ?_
      refine k_get 109 dX9_count_106 rfl fX9_count_99 (by (repeat (refine Is.ne ?_ (by omega))); first | assumption | exact Is.up (by omega)) (by rfl) ?_
      refine k_iret dX9_count_109 rfl rfl (Nat.le_of_ble_eq_true rfl) ⟨rfl, h, Eqx.rf⟩
    · refine k_tableIn (off := 109) 110 dX9_count_1 (by decide) (by decide) (by decide +kernel) rfl ?_
      refine k_aload_n 111 dX9_count_110 rfl rfl rfl ?_
      refine k_get 114 dX9_count_111 rfl fX9_count_93 (by (repeat (refine Is.ne ?_ (by omega))); first | assumption | exact Is.up (by omega)) (by rfl) ?_
      refine k_iret dX9_count_114 rfl rfl (Nat.le_of_ble_eq_true rfl) ⟨rfl, h, Eqx.rf⟩
    · refine k_tableIn (off := 114) 115 dX9_count_1 (by decide) (by decide) (by decide +kernel) rfl ?_
      refine k_aload_n 116 dX9_count_115 rfl rfl rfl ?_
      refine k_get 119 dX9_count_116 rfl fX9_count_96 (by (repeat (refine Is.ne ?_ (by omega))); first | assumption | exact Is.up (by omega)) (by rfl) ?_
      refine k_iret dX9_count_119 rfl rfl (Nat.le_of_ble_eq_true rfl) ⟨rfl, h, Eqx.rf⟩
    · refine k_tableIn (off := 119) 120 dX9_count_1 (by decide) (by decide) (by decide +kernel) rfl ?_
      refine k_aload_n 121 dX9_count_120 rfl rfl rfl ?_
      refine k_get 124 dX9_count_121 rfl fX9_count_60 (by (repeat (refine Is.ne ?_ (by omega))); first | assumption | exact Is.up (by omega)) (by rfl) ?_
      refine k_iret dX9_count_124 rfl rfl (Nat.le_of_ble_eq_true rfl) ⟨rfl, h, Eqx.rf⟩
  · have ea : a_count S x = (-1, S) := by
      unfold a_count
      rw [e]
    rw [ea]
    refine k_tableOut 125 dX9_count_1 (by omega) rfl ?_
    refine k_iconst (-1) 126 dX9_count_125 rfl km_1 ?_
    refine k_iret dX9_count_126 rfl rfl (Nat.le_of_ble_eq_true rfl) ⟨rfl, h, Eqx.rf⟩
theorem c_X9_see {G : KG} {N : Nat} {w : WD} {b : Nat} {x y z : Int32} {S : St} (h : RsM G N w b S (qM S) none) (hO : sOK S) : KCon G jX9_see N w [rf G b, .int x, .int y, .int z] (RpO G N w b (a_see S x y z)) := by
  have h' := h
  obtain ⟨at_, tx, to_, dr, be, s, pa, im, nt, ah, sd, gr, ro, ⟨g0, g1, g2, g3, g4, g5, g6, g7, g8, g9, g10, g11, g12⟩, v1, v2, v3, v4, v5, v6, v7, v8⟩ := h'
  have hN := g12.1
  obtain ⟨o1, o2, ⟨o3, o4⟩, o5, o6, o7, o8, o9, -⟩ := hO
  have hn7 := o1.1
  refine KCon.of ([some (rf G b), some (.int x), some (.int y), some (.int z)]) (by decide) rfl (by simp [Value.category]) (Nat.le_of_ble_eq_true rfl) rfl ?_
  have bad : a_see S x y z = (-1, S) → KRun G jX9_see N (RpO G N w b (a_see S x y z)) 28 [some (rf G b), some (.int x), some (.int y), some (.int z)] [] 0 0 w := by
    intro ea
    rw [ea]
    refine k_iconst (-1) 29 dX9_see_28 rfl km_1 ?_
    refine k_iret dX9_see_29 rfl rfl (Nat.le_of_ble_eq_true rfl) ⟨rfl, h, Eqx.rf⟩
  refine k_aload_n 1 dX9_see_0 rfl rfl rfl ?_
  refine k_iload_n 2 dX9_see_1 rfl rfl rfl ?_
  refine k_V1 (ci := 8) 5 dX9_see_2 rfl vX9_see_102 (by (repeat (refine Is.ne ?_ (by omega))); first | assumption | exact Is.up (by omega)) rfl rfl (Nat.le_of_ble_eq_true rfl) rfl ⟨Nat.le_of_ble_eq_true rfl, Nat.le_of_ble_eq_true rfl⟩ (c_X9_isOne h o2 hn7) (fun r9 w9 h9 => ?_)
  obtain ⟨h8, h9⟩ := h9
  subst h8
  have h9 := h9.symm
  subst h9
  rcases prs_c hn7 x with ⟨p, hp, rfl, e⟩ | ⟨hno, e⟩
  · rw [e]
    refine k_if_eqB 28 8 dX9_see_5 rfl rfl (fun c9 => absurd c9 (by simp)) (fun c9 => ?_)
    refine k_iload_n 9 dX9_see_8 rfl rfl rfl ?_
    refine k_iconst (nI 1) 10 dX9_see_9 rfl kc_1 ?_
    refine k_bipush (nI 20) 12 dX9_see_10 rfl kb_20 ?_
    refine k_S3 15 dX9_see_12 rfl vX9_see_56 (Nat.le_of_ble_eq_true rfl) rfl ⟨Nat.le_of_ble_eq_true rfl, Nat.le_of_ble_eq_true rfl⟩ (c_X9_inN (by omega) (by omega)) (fun r9 w9 h9 => ?_)
    obtain ⟨h8, h9⟩ := h9
    subst h8
    have h9 := h9.symm
    subst h9
    rcases rgn_c 1 20 y with ⟨n, n1, n2, rfl, e2⟩ | ⟨hy, e2⟩
    · rw [e2]
      refine k_if_eqB 28 18 dX9_see_15 rfl rfl (fun c9 => absurd c9 (by simp)) (fun c9 => ?_)
      refine k_iload_n 19 dX9_see_18 rfl rfl rfl ?_
      refine k_iconst (nI 0) 20 dX9_see_19 rfl kc_0 ?_
      refine k_ldc ((nI 400000)) 22 dX9_see_20 rfl (by decide +kernel) ?_
      refine k_S3 25 dX9_see_22 rfl vX9_see_56 (Nat.le_of_ble_eq_true rfl) rfl ⟨Nat.le_of_ble_eq_true rfl, Nat.le_of_ble_eq_true rfl⟩ (c_X9_inN (by omega) (by omega)) (fun r9 w9 h9 => ?_)
      obtain ⟨h8, h9⟩ := h9
      subst h8
      have h9 := h9.symm
      subst h9
      rcases rgn_c 0 400000 z with ⟨v, v1', v2', rfl, e3⟩ | ⟨hz, e3⟩
      · rw [e3]
        refine k_if_neB 30 28 dX9_see_25 rfl rfl (fun c9 => ?_) (fun c9 => absurd c9 (by simp))
        refine k_aload_n 31 dX9_see_30 rfl rfl rfl ?_
        refine k_get 34 dX9_see_31 rfl fX9_see_99 (by (repeat (refine Is.ne ?_ (by omega))); first | assumption | exact Is.up (by omega)) (by rfl) ?_
        refine k_bipush (nI 6) 36 dX9_see_34 rfl kb_6 ?_
        refine k_icmp_neN 42 39 dX9_see_36 rfl rfl (by omega) (by omega) (fun c => ?_) (fun c => ?_)
        · have ea : a_see S (nI p) (nI n) (nI v) = (nI (qm S + 1), (qF S, qM S, qP S, qK S, qm S + 1, (fun i => if i = qm S then (p, n, v) else qN S i), qt S, qT S)) := by
            unfold a_see
            rw [e, e2, e3]
            dsimp only
            rw [if_neg (by omega)]
          rw [ea]
          refine k_aload_n 43 dX9_see_42 rfl rfl rfl ?_
          refine k_get 46 dX9_see_43 rfl fX9_see_31 (by (repeat (refine Is.ne ?_ (by omega))); first | assumption | exact Is.up (by omega)) (by rfl) ?_
          refine k_iconst (nI 3) 47 dX9_see_46 rfl kc_3 ?_
          refine k_aload_n 48 dX9_see_47 rfl rfl rfl ?_
          refine k_get 51 dX9_see_48 rfl fX9_see_99 (by (repeat (refine Is.ne ?_ (by omega))); first | assumption | exact Is.up (by omega)) (by rfl) ?_
          first | refine k_imulE _ 52 dX9_see_51 rfl (pk_mul _ _) ?_ | refine k_imul 52 dX9_see_51 rfl ?_
          refine k_iload_n 53 dX9_see_52 rfl rfl rfl ?_
          refine k_iastN 54 dX9_see_53 rfl (by (repeat (refine Is.ne ?_ (by omega))); first | assumption | exact Is.up (by omega)) (by omega) (by omega) ?_
          refine k_aload_n 55 dX9_see_54 rfl rfl rfl ?_
          refine k_get 58 dX9_see_55 rfl fX9_see_31 (by (repeat (refine Is.ne ?_ (by omega))); first | assumption | exact Is.up (by omega)) (by rfl) ?_
          refine k_iconst (nI 3) 59 dX9_see_58 rfl kc_3 ?_
          refine k_aload_n 60 dX9_see_59 rfl rfl rfl ?_
          refine k_get 63 dX9_see_60 rfl fX9_see_99 (by (repeat (refine Is.ne ?_ (by omega))); first | assumption | exact Is.up (by omega)) (by rfl) ?_
          first | refine k_imulE _ 64 dX9_see_63 rfl (pk_mul _ _) ?_ | refine k_imul 64 dX9_see_63 rfl ?_
          refine k_iconst (nI 1) 65 dX9_see_64 rfl kc_1 ?_
          first | refine k_iaddE _ 66 dX9_see_65 rfl (nI_add _ _) ?_ | refine k_iadd 66 dX9_see_65 rfl ?_
          refine k_iload_n 67 dX9_see_66 rfl rfl rfl ?_
          refine k_iastN 68 dX9_see_67 rfl (by (repeat (refine Is.ne ?_ (by omega))); first | assumption | exact Is.up (by omega)) (by omega) (by omega) ?_
          refine k_aload_n 69 dX9_see_68 rfl rfl rfl ?_
          refine k_get 72 dX9_see_69 rfl fX9_see_31 (by (repeat (refine Is.ne ?_ (by omega))); first | assumption | exact Is.up (by omega)) (by rfl) ?_
          refine k_iconst (nI 3) 73 dX9_see_72 rfl kc_3 ?_
          refine k_aload_n 74 dX9_see_73 rfl rfl rfl ?_
          refine k_get 77 dX9_see_74 rfl fX9_see_99 (by (repeat (refine Is.ne ?_ (by omega))); first | assumption | exact Is.up (by omega)) (by rfl) ?_
          first | refine k_imulE _ 78 dX9_see_77 rfl (pk_mul _ _) ?_ | refine k_imul 78 dX9_see_77 rfl ?_
          refine k_iconst (nI 2) 79 dX9_see_78 rfl kc_2 ?_
          first | refine k_iaddE _ 80 dX9_see_79 rfl (nI_add _ _) ?_ | refine k_iadd 80 dX9_see_79 rfl ?_
          refine k_iload_n 81 dX9_see_80 rfl rfl rfl ?_
          refine k_iastN 82 dX9_see_81 rfl (by (repeat (refine Is.ne ?_ (by omega))); first | assumption | exact Is.up (by omega)) (by omega) (by omega) ?_
          refine k_aload_n 83 dX9_see_82 rfl rfl rfl ?_
          refine k_dup 84 dX9_see_83 rfl rfl ?_
          refine k_get 87 dX9_see_84 rfl fX9_see_99 (by (repeat (refine Is.ne ?_ (by omega))); first | assumption | exact Is.up (by omega)) (by rfl) ?_
          refine k_iconst (nI 1) 88 dX9_see_87 rfl kc_1 ?_
          first | refine k_iaddE _ 89 dX9_see_88 rfl (nI_add _ _) ?_ | refine k_iadd 89 dX9_see_88 rfl ?_
          refine k_put 92 dX9_see_89 rfl pX9_see_99 (by (repeat (refine Is.ne ?_ (by omega))); first | assumption | exact Is.up (by omega)) (Nat.le_of_ble_eq_true rfl) rfl rfl ?_
          refine k_aload_n 93 dX9_see_92 rfl rfl rfl ?_
          refine k_get 96 dX9_see_93 rfl fX9_see_99 (by (repeat (refine Is.ne ?_ (by omega))); first | assumption | exact Is.up (by omega)) (by rfl) ?_
          refine k_iret dX9_see_96 rfl rfl (Nat.le_of_ble_eq_true rfl) ⟨rfl, ⟨at_, tx, to_, dr, be, s, pa, im, _, ah, sd, gr, ro, ⟨(by (repeat (refine Is.ne ?_ (by omega))); first | assumption | exact Is.up (by omega)), (by (repeat (refine Is.ne ?_ (by omega))); first | assumption | exact Is.up (by omega)), (by (repeat (refine Is.ne ?_ (by omega))); first | assumption | exact Is.up (by omega)), (by (repeat (refine Is.ne ?_ (by omega))); first | assumption | exact Is.up (by omega)), (by (repeat (refine Is.ne ?_ (by omega))); first | assumption | exact Is.up (by omega)), (by (repeat (refine Is.ne ?_ (by omega))); first | assumption | exact Is.up (by omega)), (by (repeat (refine Is.ne ?_ (by omega))); first | assumption | exact Is.up (by omega)), (by (repeat (refine Is.ne ?_ (by omega))); first | assumption | exact Is.up (by omega)), (by (repeat (refine Is.ne ?_ (by omega))); first | assumption | exact Is.up (by omega)), (by (repeat (refine Is.ne ?_ (by omega))); first | assumption | exact Is.up (by omega)), (by (repeat (refine Is.ne ?_ (by omega))); first | assumption | exact Is.up (by omega)), (by (repeat (refine Is.ne ?_ (by omega))); first | assumption | exact Is.up (by omega)), (by (repeat (refine Is.ne ?_ (by omega))); first | assumption | exact Is.up (by omega))⟩, v1, v2, v3, v4, v5, fun i hi => ?_, v7, v8⟩, (by (repeat (refine Eqx.up ?_ (by omega) (by omega))); first | exact Eqx.rf | assumption)⟩
          have hi : i < qm S + 1 := hi
          show _ = nI (if i = qm S then (p, n, v) else qN S i).1 ∧ _ = nI (if i = qm S then (p, n, v) else qN S i).2.1 ∧ _ = nI (if i = qm S then (p, n, v) else qN S i).2.2 ∧ (if i = qm S then (p, n, v) else qN S i).1 < 7 ∧ 1 ≤ (if i = qm S then (p, n, v) else qN S i).2.1 ∧ (if i = qm S then (p, n, v) else qN S i).2.1 ≤ 20 ∧ (if i = qm S then (p, n, v) else qN S i).2.2 ≤ 400000
          by_cases ei : i = qm S
          · rw [if_pos ei, ei]
            refine ⟨?_, ?_, ?_, by show p < 7; omega, n1, n2, v2'⟩
            · rw [upd_n _ _ (by omega), upd_n _ _ (by omega), upd_s]
            · rw [upd_n _ _ (by omega), upd_s]
            · rw [upd_s]
          · rw [if_neg ei]
            obtain ⟨w1, w2, w3, w4⟩ := v6 i (by omega)
            refine ⟨?_, ?_, ?_, w4⟩
            · rw [upd_n _ _ (by omega), upd_n _ _ (by omega), upd_n _ _ (by omega)]
              exact w1
            · rw [upd_n _ _ (by omega), upd_n _ _ (by omega), upd_n _ _ (by omega)]
              exact w2
            · rw [upd_n _ _ (by omega), upd_n _ _ (by omega), upd_n _ _ (by omega)]
              exact w3
        · have ea : a_see S (nI p) (nI n) (nI v) = (-3, S) := by
            unfold a_see
            rw [e, e2, e3]
            dsimp only
            rw [if_pos (by omega)]
          rw [ea]
          refine k_bipush (-3) 41 dX9_see_39 rfl kbm_3 ?_
          refine k_iret dX9_see_41 rfl rfl (Nat.le_of_ble_eq_true rfl) ⟨rfl, h, Eqx.rf⟩
      · rw [e3]
        refine k_if_neB 30 28 dX9_see_25 rfl rfl (fun c9 => absurd c9 (by simp)) (fun c9 => ?_)
        exact bad (by unfold a_see; rw [e, e2, e3])
    · rw [e2]
      refine k_if_eqB 28 18 dX9_see_15 rfl rfl (fun c9 => ?_) (fun c9 => absurd c9 (by simp))
      exact bad (by unfold a_see; rw [e, e2])
  · rw [e]
    refine k_if_eqB 28 8 dX9_see_5 rfl rfl (fun c9 => ?_) (fun c9 => absurd c9 (by simp))
    exact bad (by unfold a_see; rw [e])
