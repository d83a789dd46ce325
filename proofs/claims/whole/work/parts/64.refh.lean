/-! KerbQueueModel: rain, days -/
theorem setl_self {n : Nat} {M : Mo} (h : mOK n M) {a : Nat} (ha : a < 7) : setl M a a = M := by
  have h0 : mD M (7 * a + a) = 0 := by
    have := h.2.2.2.2.2.2.1 a ha
    rwa [show 8 * a = 7 * a + a by omega] at this
  have hp : pyb M a a = 0 := by
    unfold pyb
    rw [h0]
    exact Nat.zero_min _
  have e1 : (fun p => if p = a then sf (mP M) a (mP M a - pyb M a a) a + pyb M a a else sf (mP M) a (mP M a - pyb M a a) p) = mP M := by
    funext p
    rw [hp]
    by_cases e : p = a
    · rw [if_pos e, e, sf_s]
      omega
    · rw [if_neg e, sf_n _ _ e]
  have e2 : sf (mD M) (7 * a + a) (mD M (7 * a + a) - pyb M a a) = mD M := by
    funext i
    by_cases e : i = 7 * a + a
    · rw [e, sf_s, h0]
      omega
    · rw [sf_n _ _ e]
  unfold setl
  rw [e1, e2]
  rfl
theorem c_X9_turn {G : KG} {N : Nat} {w : WD} {b d : Nat} {S : St} {M : Mo} {oA : Option Mo} (h : RsM G N w b S M oA) (hO : mOK (oN (qF S)) M) (h1 : 1 ≤ oN (qF S)) (hd : d < 65521) : KCon G jX9_turn N w [rf G b, .int (nI d)] (RqO G N w b none S (act (qF S) M d) oA) := by
  have hn7 := hO.2.1
  have hL7 := ok_l7 hO
  have q1 : d / 8 % oN (qF S) < oN (qF S) := Nat.mod_lt _ (by omega)
  have q2 : d / 64 % oN (qF S) < oN (qF S) := Nat.mod_lt _ (by omega)
  obtain ⟨at_, s, to_, g0, g5, v3, g2, v2⟩ := h.ob
  have e8 : ¬ nI 8 = 0 := nI_ne0 (by omega) (by omega)
  have e64 : ¬ nI 64 = 0 := nI_ne0 (by omega) (by omega)
  have eN : ¬ nI (oN (qF S)) = 0 := nI_ne0 (by omega) (by omega)
  refine KCon.of ([some (rf G b), some (.int (nI d)), none, none, none]) (by decide) rfl (by simp [Value.category]) (Nat.le_of_ble_eq_true rfl) rfl ?_
  refine k_iload_n 1 dX9_turn_0 rfl rfl rfl ?_
  refine k_bipush (nI 8) 3 dX9_turn_1 rfl kb_8 ?_
  refine k_idiv _ 4 dX9_turn_3 rfl e8 (pk_div (by omega) (by omega) (by omega)) ?_
  refine k_aload_n 5 dX9_turn_4 rfl rfl rfl ?_
  refine k_get 8 dX9_turn_5 rfl fX9_turn_13 (by (repeat (refine Is.ne ?_ (by omega))); first | assumption | exact Is.up (by omega)) (by rfl) ?_
  refine k_iconst (nI 0) 9 dX9_turn_8 rfl kc_0 ?_
  refine k_ialdN 10 dX9_turn_9 rfl (by (repeat (refine Is.ne ?_ (by omega))); first | assumption | exact Is.up (by omega)) (by omega) (by omega) ?_
  rw [v2.1]
  refine k_irem _ 11 dX9_turn_10 rfl eN (pk_rem (by omega) (by omega) (by omega)) ?_
  refine k_istore_n _ 12 dX9_turn_11 rfl rfl (by decide) rfl rfl ?_
  refine k_iload_n 13 dX9_turn_12 rfl rfl rfl ?_
  refine k_bipush (nI 64) 15 dX9_turn_13 rfl kb_64 ?_
  refine k_idiv _ 16 dX9_turn_15 rfl e64 (pk_div (by omega) (by omega) (by omega)) ?_
  refine k_aload_n 17 dX9_turn_16 rfl rfl rfl ?_
  refine k_get 20 dX9_turn_17 rfl fX9_turn_13 (by (repeat (refine Is.ne ?_ (by omega))); first | assumption | exact Is.up (by omega)) (by rfl) ?_
  refine k_iconst (nI 0) 21 dX9_turn_20 rfl kc_0 ?_
  refine k_ialdN 22 dX9_turn_21 rfl (by (repeat (refine Is.ne ?_ (by omega))); first | assumption | exact Is.up (by omega)) (by omega) (by omega) ?_
  rw [v2.1]
  refine k_irem _ 23 dX9_turn_22 rfl eN (pk_rem (by omega) (by omega) (by omega)) ?_
  refine k_istore_n _ 24 dX9_turn_23 rfl rfl (by decide) rfl rfl ?_
  refine k_iload_n 25 dX9_turn_24 rfl rfl rfl ?_
  refine k_bipush (nI 8) 27 dX9_turn_25 rfl kb_8 ?_
  refine k_irem _ 28 dX9_turn_27 rfl e8 (pk_rem (by omega) (by omega) (by omega)) ?_
  refine k_istore _ 30 dX9_turn_28 rfl (by decide) rfl rfl ?_
  refine k_iload 32 dX9_turn_30 rfl rfl ?_
  refine k_iconst (nI 2) 33 dX9_turn_32 rfl kc_2 ?_
  have hdm : d % 8 < 8 := Nat.mod_lt _ (by omega)
  have fin : ∀ w1 : WD, RsM G N w1 b S (act (qF S) M d) oA → Eqx w w1 b (b + 12) → KRun G jX9_turn N (RqO G N w b none S (act (qF S) M d) oA) 106 [some (rf G b), some (.int (nI d)), some (.int (nI (d / 8 % oN (qF S)))), some (.int (nI (d / 64 % oN (qF S)))), some (.int (nI (d % 8)))] [] 0 0 w1 := by
    intro w1 hS hE
    refine k_vret dX9_turn_106 rfl rfl (Nat.le_of_ble_eq_true rfl) ⟨rfl, hS, hE⟩
  have three : d % 8 ≠ 2 → (d % 8 ≠ 3 → act (qF S) M d = M) → KRun G jX9_turn N (RqO G N w b none S (act (qF S) M d) oA) 60 [some (rf G b), some (.int (nI d)), some (.int (nI (d / 8 % oN (qF S)))), some (.int (nI (d / 64 % oN (qF S)))), some (.int (nI (d % 8)))] [] 0 0 w := by
    intro n2 hel
    refine k_iload 62 dX9_turn_60 rfl rfl ?_
    refine k_iconst (nI 2) 63 dX9_turn_62 rfl kc_2 ?_
    refine k_icmp_neN 89 66 dX9_turn_63 rfl rfl (by omega) (by omega) (fun c => ?_) (fun c => ?_)
    rotate_left
    · omega
    refine k_iload 91 dX9_turn_89 rfl rfl ?_
    refine k_iconst (nI 3) 92 dX9_turn_91 rfl kc_3 ?_
    refine k_icmp_neN 106 95 dX9_turn_92 rfl rfl (by omega) (by omega) (fun c => ?_) (fun c => ?_)
    · exact fin w (by rw [hel (by omega)]; exact h) Eqx.rf
    have c3 : d % 8 = 3 := by omega
    have ha : act (qF S) M d = setl M (d / 8 % oN (qF S)) (d / 64 % oN (qF S)) := by
      unfold act
      rw [if_neg (by omega), if_neg n2, if_pos c3]
    refine k_iload_n 96 dX9_turn_95 rfl rfl rfl ?_
    refine k_iload_n 97 dX9_turn_96 rfl rfl rfl ?_
    refine k_icmp_eqN 106 100 dX9_turn_97 rfl rfl (by omega) (by omega) (fun c => ?_) (fun c => ?_)
    · have e : d / 64 % oN (qF S) = d / 8 % oN (qF S) := by omega
      refine fin w ?_ Eqx.rf
      rw [ha, e, setl_self hO (by omega)]
      exact h
    · refine k_aload_n 101 dX9_turn_100 rfl rfl rfl ?_
      refine k_iload_n 102 dX9_turn_101 rfl rfl rfl ?_
      refine k_iload_n 103 dX9_turn_102 rfl rfl rfl ?_
      refine k_V2 (ci := 8) 106 dX9_turn_103 rfl vX9_turn_140 (by (repeat (refine Is.ne ?_ (by omega))); first | assumption | exact Is.up (by omega)) rfl rfl (Nat.le_of_ble_eq_true rfl) rfl ⟨Nat.le_of_ble_eq_true rfl, Nat.le_of_ble_eq_true rfl⟩ (c_X9_pays h hO q1 q2) (fun r2 w2 x2 => ?_)
      obtain ⟨rfl, hR2, hE2⟩ := x2
      exact fin w2 (by rw [ha]; exact hR2) hE2
  refine k_icmp_geN 60 36 dX9_turn_33 rfl rfl (by omega) (by omega) (fun c => ?_) (fun c => ?_)
  · have hk := c
    by_cases c2 : d % 8 = 2
    · refine k_iload 62 dX9_turn_60 rfl rfl ?_
      refine k_iconst (nI 2) 63 dX9_turn_62 rfl kc_2 ?_
      refine k_icmp_neN 89 66 dX9_turn_63 rfl rfl (by omega) (by omega) (fun c => ?_) (fun c => ?_)
      · omega
      refine k_iload_n 67 dX9_turn_66 rfl rfl rfl ?_
      refine k_iload_n 68 dX9_turn_67 rfl rfl rfl ?_
      have stay : mayl M (d / 8 % oN (qF S)) (d / 64 % oN (qF S)) = false → KRun G jX9_turn N (RqO G N w b none S (act (qF S) M d) oA) 89 [some (rf G b), some (.int (nI d)), some (.int (nI (d / 8 % oN (qF S)))), some (.int (nI (d / 64 % oN (qF S)))), some (.int (nI (d % 8)))] [] 0 0 w := by
        intro hm
        refine k_iload 91 dX9_turn_89 rfl rfl ?_
        refine k_iconst (nI 3) 92 dX9_turn_91 rfl kc_3 ?_
        refine k_icmp_neN 106 95 dX9_turn_92 rfl rfl (by omega) (by omega) (fun c => ?_) (fun c => ?_)
        · refine fin w ?_ Eqx.rf
          unfold act
          rw [if_neg (by omega), if_pos c2, if_neg (by rw [hm]; simp)]
          exact h
        · omega
      refine k_icmp_eqN 89 71 dX9_turn_68 rfl rfl (by omega) (by omega) (fun c => ?_) (fun c => ?_)
      · have e : d / 64 % oN (qF S) = d / 8 % oN (qF S) := by omega
        exact stay (by rw [e]; exact mayl_self _ _)
      · refine k_aload_n 72 dX9_turn_71 rfl rfl rfl ?_
        refine k_iload_n 73 dX9_turn_72 rfl rfl rfl ?_
        refine k_iload_n 74 dX9_turn_73 rfl rfl rfl ?_
        refine k_V2 (ci := 8) 77 dX9_turn_74 rfl vX9_turn_129 (by (repeat (refine Is.ne ?_ (by omega))); first | assumption | exact Is.up (by omega)) rfl rfl (Nat.le_of_ble_eq_true rfl) rfl ⟨Nat.le_of_ble_eq_true rfl, Nat.le_of_ble_eq_true rfl⟩ (c_X9_mayLet h hO q1 q2) (fun r9 w9 h9 => ?_)
        obtain ⟨h8, h9⟩ := h9
        subst h8
        have h9 := h9.symm
        subst h9
        refine k_if_eqB 89 80 dX9_turn_77 rfl rfl (fun c9 => stay c9) (fun c9 => ?_)
        refine k_aload_n 81 dX9_turn_80 rfl rfl rfl ?_
        refine k_iload_n 82 dX9_turn_81 rfl rfl rfl ?_
        refine k_iload_n 83 dX9_turn_82 rfl rfl rfl ?_
        refine k_V2 (ci := 8) 86 dX9_turn_83 rfl vX9_turn_133 (by (repeat (refine Is.ne ?_ (by omega))); first | assumption | exact Is.up (by omega)) rfl rfl (Nat.le_of_ble_eq_true rfl) rfl ⟨Nat.le_of_ble_eq_true rfl, Nat.le_of_ble_eq_true rfl⟩ (c_X9_lets h hO c9) (fun r2 w2 x2 => ?_)
        obtain ⟨rfl, hR2, hE2⟩ := x2
        refine k_goto 106 dX9_turn_86 rfl ?_
        refine fin w2 ?_ hE2
        unfold act
        rw [if_neg (by omega), if_pos c2, if_pos c9]
        exact hR2
    · refine three c2 (fun c3 => ?_)
      unfold act
      rw [if_neg (by omega), if_neg c2, if_neg c3]
  · have hk := c
    refine k_aload_n 37 dX9_turn_36 rfl rfl rfl ?_
    refine k_iload_n 38 dX9_turn_37 rfl rfl rfl ?_
    refine k_V1 (ci := 8) 41 dX9_turn_38 rfl vX9_turn_105 (by (repeat (refine Is.ne ?_ (by omega))); first | assumption | exact Is.up (by omega)) rfl rfl (Nat.le_of_ble_eq_true rfl) rfl ⟨Nat.le_of_ble_eq_true rfl, Nat.le_of_ble_eq_true rfl⟩ (c_X9_pl h hO q1) (fun r9 w9 h9 => ?_)
    obtain ⟨h8, h9⟩ := h9
    subst h8
    have h9 := h9.symm
    subst h9
    refine k_bipush (-4) 43 dX9_turn_41 rfl kbm_4 ?_
    cases e : plc M (d / 8 % oN (qF S)) with
    | some k =>
      have hkl := (plc_some e).1
      refine k_icmp_ne 60 46 dX9_turn_43 rfl rfl (fun c => ?_) (fun c => ?_)
      · refine three (by omega) (fun c3 => ?_)
        unfold act
        rw [if_pos hk, e]
      · exact absurd (Classical.not_not.mp c) (pI_some (by omega))
    | none =>
      have hfull := ok_full hO q1 (plc_no e)
      refine k_icmp_ne 60 46 dX9_turn_43 rfl rfl (fun c => ?_) (fun c => ?_)
      · exact absurd rfl c
      · refine k_aload_n 47 dX9_turn_46 rfl rfl rfl ?_
        refine k_iload_n 48 dX9_turn_47 rfl rfl rfl ?_
        refine k_aload_n 49 dX9_turn_48 rfl rfl rfl ?_
        refine k_get 52 dX9_turn_49 rfl fX9_turn_22 (by (repeat (refine Is.ne ?_ (by omega))); first | assumption | exact Is.up (by omega)) (by rfl) ?_
        refine k_iconst (nI 1) 53 dX9_turn_52 rfl kc_1 ?_
        refine k_ialdN 54 dX9_turn_53 rfl (by (repeat (refine Is.ne ?_ (by omega))); first | assumption | exact Is.up (by omega)) (by omega) (by omega) ?_
        rw [v3.2.1]
        refine k_V2 (ci := 8) 57 dX9_turn_54 rfl vX9_turn_126 (by (repeat (refine Is.ne ?_ (by omega))); first | assumption | exact Is.up (by omega)) rfl rfl (Nat.le_of_ble_eq_true rfl) rfl ⟨Nat.le_of_ble_eq_true rfl, Nat.le_of_ble_eq_true rfl⟩ (c_X9_comes h hn7 (by omega) q1 (Nat.le_refl _)) (fun r2 w2 x2 => ?_)
        obtain ⟨rfl, hR2, hE2⟩ := x2
        refine k_goto 106 dX9_turn_57 rfl ?_
        refine fin w2 ?_ hE2
        unfold act
        rw [if_pos hk, e]
        exact hR2
theorem c_X9_day {G : KG} {N : Nat} {w : WD} {b : Nat} {x y z : Int32} {S : St} (h : RsM G N w b S (qM S) none) (hO : sOK S) : KCon G jX9_day N w [rf G b, .int x, .int y, .int z] (RpO G N w b (a_day S x y z)) := by
  obtain ⟨at_, s, to_, g0, g5, v3, g2, v2⟩ := h.ob
  obtain ⟨o1, o2, ⟨o3, o4⟩, o5, o6, -⟩ := hO
  have hn7 := o1.1
  have hL7 := ok_l7 o3
  refine KCon.of ([some (rf G b), some (.int x), some (.int y), some (.int z), none, none, none]) (by decide) rfl (by simp [Value.category]) (Nat.le_of_ble_eq_true rfl) rfl ?_
  have bad : a_day S x y z = (-1, S) → KRun G jX9_day N (RpO G N w b (a_day S x y z)) 30 [some (rf G b), some (.int x), some (.int y), some (.int z), none, none, none] [] 0 0 w := by
    intro ea
    rw [ea]
    refine k_iconst (-1) 31 dX9_day_30 rfl km_1 ?_
    refine k_iret dX9_day_31 rfl rfl (Nat.le_of_ble_eq_true rfl) ⟨rfl, h, Eqx.rf⟩
  refine k_iload_n 1 dX9_day_0 rfl rfl rfl ?_
  refine k_iconst (nI 0) 2 dX9_day_1 rfl kc_0 ?_
  refine k_sipush (nI 9999) 5 dX9_day_2 rfl ks_9999 ?_
  refine k_S3 8 dX9_day_5 rfl vX9_day_56 (Nat.le_of_ble_eq_true rfl) rfl ⟨Nat.le_of_ble_eq_true rfl, Nat.le_of_ble_eq_true rfl⟩ (c_X9_inN (by omega) (by omega)) (fun r9 w9 h9 => ?_)
  obtain ⟨h8, h9⟩ := h9
  subst h8
  have h9 := h9.symm
  subst h9
  rcases rgn_c 0 9999 x with ⟨d, d1, d2, rfl, e⟩ | ⟨hx, e⟩
  · rw [e]
    refine k_if_eqB 30 11 dX9_day_8 rfl rfl (fun c9 => absurd c9 (by simp)) (fun c9 => ?_)
    refine k_iload_n 12 dX9_day_11 rfl rfl rfl ?_
    refine k_iconst (nI 1) 13 dX9_day_12 rfl kc_1 ?_
    refine k_bipush (nI 60) 15 dX9_day_13 rfl kb_60 ?_
    refine k_S3 18 dX9_day_15 rfl vX9_day_56 (Nat.le_of_ble_eq_true rfl) rfl ⟨Nat.le_of_ble_eq_true rfl, Nat.le_of_ble_eq_true rfl⟩ (c_X9_inN (by omega) (by omega)) (fun r9 w9 h9 => ?_)
    obtain ⟨h8, h9⟩ := h9
    subst h8
    have h9 := h9.symm
    subst h9
    rcases rgn_c 1 60 y with ⟨n, n1, n2, rfl, e2⟩ | ⟨hy, e2⟩
    · rw [e2]
      refine k_if_eqB 30 21 dX9_day_18 rfl rfl (fun c9 => absurd c9 (by simp)) (fun c9 => ?_)
      refine k_iload_n 22 dX9_day_21 rfl rfl rfl ?_
      refine k_iconst (nI 0) 23 dX9_day_22 rfl kc_0 ?_
      refine k_iconst (nI 1) 24 dX9_day_23 rfl kc_1 ?_
      refine k_S3 27 dX9_day_24 rfl vX9_day_56 (Nat.le_of_ble_eq_true rfl) rfl ⟨Nat.le_of_ble_eq_true rfl, Nat.le_of_ble_eq_true rfl⟩ (c_X9_inN (by omega) (by omega)) (fun r9 w9 h9 => ?_)
      obtain ⟨h8, h9⟩ := h9
      subst h8
      have h9 := h9.symm
      subst h9
      rcases rgn_c 0 1 z with ⟨u, w1', w2', rfl, e3⟩ | ⟨hz, e3⟩
      · rw [e3]
        refine k_if_neB 32 30 dX9_day_27 rfl rfl (fun c9 => ?_) (fun c9 => absurd c9 (by simp))
        refine k_aload_n 33 dX9_day_32 rfl rfl rfl ?_
        refine k_V0 (ci := 8) 36 dX9_day_33 rfl vX9_day_143 (by (repeat (refine Is.ne ?_ (by omega))); first | assumption | exact Is.up (by omega)) rfl rfl (Nat.le_of_ble_eq_true rfl) rfl ⟨Nat.le_of_ble_eq_true rfl, Nat.le_of_ble_eq_true rfl⟩ (c_X9_holds h hn7 hL7) (fun r1 w1 x1 => ?_)
        obtain ⟨rfl, hR1, hE1⟩ := x1
        refine k_iconst (nI 0) 37 dX9_day_36 rfl kc_0 ?_
        refine k_istore _ 39 dX9_day_37 rfl (by decide) rfl rfl ?_
        have loop : ∀ dd k (w2 : WD), k + dd = n → RsM G N w2 b S (dyM (qF S) (qM S) d k) (some (qM S)) → Eqx w w2 b (b + 12) → KRun G jX9_day N (RpO G N w b (a_day S (nI d) (nI n) (nI u))) 39 [some (rf G b), some (.int (nI d)), some (.int (nI n)), some (.int (nI u)), some (.int (nI k)), none, none] [] 0 0 w2 := by
          intro dd
          induction dd with
          | zero =>
            intro k w2 hk hR hE
            have hI : k = n := by omega
            subst hI
            obtain ⟨at2, s2, to2, q0, q5, u3, q2, u2⟩ := hR.ob
            have fin : ∀ v : Int32, a_day S (nI d) (nI k) (nI u) = (v, S) → KRun G jX9_day N (RpO G N w b (a_day S (nI d) (nI k) (nI u))) 105 [some (rf G b), some (.int (nI d)), some (.int (nI k)), some (.int (nI u)), some (.int (nI k)), none, none] [.int v] 0 0 w2 := by
              intro v ea
              rw [ea]
              refine k_istore _ 107 dX9_day_105 rfl (by decide) rfl rfl ?_
              refine k_aload_n 108 dX9_day_107 rfl rfl rfl ?_
              refine k_V0 (ci := 8) 111 dX9_day_108 rfl vX9_day_146 (by (repeat (refine Is.ne ?_ (by omega))); first | assumption | exact Is.up (by omega)) rfl rfl (Nat.le_of_ble_eq_true rfl) rfl ⟨Nat.le_of_ble_eq_true rfl, Nat.le_of_ble_eq_true rfl⟩ (c_X9_backs hR hn7 hL7) (fun r3 w3 x3 => ?_)
              obtain ⟨rfl, hR3, hE3⟩ := x3
              refine k_iload 113 dX9_day_111 rfl rfl ?_
              refine k_iret dX9_day_113 rfl rfl (Nat.le_of_ble_eq_true rfl) ⟨rfl, hR3.drop, hE.tr hE3⟩
            refine k_iload 41 dX9_day_39 rfl rfl ?_
            refine k_iload_n 42 dX9_day_41 rfl rfl rfl ?_
            refine k_icmp_geN 88 45 dX9_day_42 rfl rfl (by omega) (by omega) (fun c => ?_) (fun c => ?_)
            rotate_left
            · omega
            refine k_iload_n 89 dX9_day_88 rfl rfl rfl ?_
            refine k_if_neN 101 92 dX9_day_89 rfl rfl (by omega) (fun c => ?_) (fun c => ?_)
            · refine k_aload_n 102 dX9_day_101 rfl rfl rfl ?_
              refine k_V0 (ci := 8) 105 dX9_day_102 rfl vX9_day_169 (by (repeat (refine Is.ne ?_ (by omega))); first | assumption | exact Is.up (by omega)) rfl rfl (Nat.le_of_ble_eq_true rfl) rfl ⟨Nat.le_of_ble_eq_true rfl, Nat.le_of_ble_eq_true rfl⟩ (c_X9_owedInAll hR) (fun r9 w9 h9 => ?_)
              obtain ⟨h8, h9⟩ := h9
              subst h8
              have h9 := h9.symm
              subst h9
              exact fin _ (by unfold a_day; rw [e, e2, e3]; dsimp only; rw [if_neg (by omega)])
            · refine k_aload_n 93 dX9_day_92 rfl rfl rfl ?_
              refine k_get 96 dX9_day_93 rfl fX9_day_22 (by (repeat (refine Is.ne ?_ (by omega))); first | assumption | exact Is.up (by omega)) (by rfl) ?_
              refine k_iconst (nI 1) 97 dX9_day_96 rfl kc_1 ?_
              refine k_ialdN 98 dX9_day_97 rfl (by (repeat (refine Is.ne ?_ (by omega))); first | assumption | exact Is.up (by omega)) (by omega) (by omega) ?_
              rw [u3.2.1]
              refine k_goto 105 dX9_day_98 rfl ?_
              exact fin _ (by unfold a_day; rw [e, e2, e3]; dsimp only; rw [if_pos (by omega)])
          | succ dd ih =>
            intro k w2 hk hR hE
            obtain ⟨hOk, hGk⟩ := ok_dy (z := d) o3 o1 rfl o2 k (by omega)
            have hdr : drw d k < 65521 := Nat.mod_lt _ (by omega)
            obtain ⟨hOa, hGa⟩ := ok_act (d := drw d k) hOk rfl o2
            have hxl : 7919 * d + 6151 * k + 1 ≤ 79551142 := by omega
            have hxx := Nat.mul_le_mul hxl hxl
            obtain ⟨at2, s2, to2, q0, q5, u3, q2, u2⟩ := hR.ob
            refine k_iload 41 dX9_day_39 rfl rfl ?_
            refine k_iload_n 42 dX9_day_41 rfl rfl rfl ?_
            refine k_icmp_geN 88 45 dX9_day_42 rfl rfl (by omega) (by omega) (fun c => ?_) (fun c => ?_)
            · omega
            refine k_ldc2 (lN 7919) 48 dX9_day_45 rfl (by decide +kernel) ?_
            refine k_iload_n 49 dX9_day_48 rfl rfl rfl ?_
            refine k_i2l _ 50 dX9_day_49 rfl (nI_l (by omega)) ?_
            refine k_lmul _ 51 dX9_day_50 rfl (lN_mul _ _) ?_
            refine k_ldc2 (lN 6151) 54 dX9_day_51 rfl (by decide +kernel) ?_
            refine k_iload 56 dX9_day_54 rfl rfl ?_
            refine k_i2l _ 57 dX9_day_56 rfl (nI_l (by omega)) ?_
            refine k_lmul _ 58 dX9_day_57 rfl (lN_mul _ _) ?_
            refine k_ladd _ 59 dX9_day_58 rfl (lN_add _ _) ?_
            refine k_lconst _ 60 dX9_day_59 rfl rfl ?_
            refine k_ladd _ 61 dX9_day_60 rfl (lN_1 _) ?_
            refine k_lstore _ 63 dX9_day_61 rfl (by decide) rfl rfl ?_
            refine k_aload_n 64 dX9_day_63 rfl rfl rfl ?_
            refine k_lload 66 dX9_day_64 rfl rfl ?_
            refine k_lload 68 dX9_day_66 rfl rfl ?_
            refine k_lmul _ 69 dX9_day_68 rfl (lN_mul _ _) ?_
            refine k_ldc2 (lN 65521) 72 dX9_day_69 rfl (by decide +kernel) ?_
            refine k_lrem _ 73 dX9_day_72 rfl (by decide) (pk_lRem (by omega) (by omega) (by omega)) ?_
            refine k_l2i _ 74 dX9_day_73 rfl (lN_i _) ?_
            refine k_tp (.int (nI (drw d k))) rfl ?_
            refine k_V1 (ci := 8) 77 dX9_day_74 rfl vX9_day_165 (by (repeat (refine Is.ne ?_ (by omega))); first | assumption | exact Is.up (by omega)) rfl rfl (Nat.le_of_ble_eq_true rfl) rfl ⟨Nat.le_of_ble_eq_true rfl, Nat.le_of_ble_eq_true rfl⟩ (c_X9_turn hR hOk o2 hdr) (fun r3 w3 x3 => ?_)
            obtain ⟨rfl, hR3, hE3⟩ := x3
            clear q0 q5 q2
            obtain ⟨at3, s3, to3, j30, j35, t33, j32, t32⟩ := hR3.ob
            refine k_aload_n 78 dX9_day_77 rfl rfl rfl ?_
            refine k_iconst (nI 1) 79 dX9_day_78 rfl kc_1 ?_
            refine k_V1 (ci := 8) 82 dX9_day_79 rfl vX9_day_122 (by (repeat (refine Is.ne ?_ (by omega))); first | assumption | exact Is.up (by omega)) rfl rfl (Nat.le_of_ble_eq_true rfl) rfl ⟨Nat.le_of_ble_eq_true rfl, Nat.le_of_ble_eq_true rfl⟩ (c_X9_passes (pb := true) hR3 hOa o1 (by omega)) (fun r4 w4 x4 => ?_)
            obtain ⟨rfl, hR4, hE4⟩ := x4
            refine k_iinc _ _ 85 dX9_day_82 rfl rfl (nI_inc _) (by decide) rfl rfl ?_
            refine k_goto 39 dX9_day_85 rfl ?_
            refine k_loc [some (rf G b), some (.int (nI d)), some (.int (nI n)), some (.int (nI u)), some (.int (nI (k + 1))), none, none] ⟨rfl, rfl, rfl, rfl, rfl, trivial⟩ rfl ?_
            exact ih (k + 1) w4 (by omega) hR4 ((hE.tr hE3).tr hE4)
        exact loop n 0 w1 (by omega) hR1 hE1
      · rw [e3]
        refine k_if_neB 32 30 dX9_day_27 rfl rfl (fun c9 => absurd c9 (by simp)) (fun c9 => ?_)
        exact bad (by unfold a_day; rw [e, e2, e3])
    · rw [e2]
      refine k_if_eqB 30 21 dX9_day_18 rfl rfl (fun c9 => ?_) (fun c9 => absurd c9 (by simp))
      exact bad (by unfold a_day; rw [e, e2])
  · rw [e]
    refine k_if_eqB 30 11 dX9_day_8 rfl rfl (fun c9 => ?_) (fun c9 => absurd c9 (by simp))
    exact bad (by unfold a_day; rw [e])
theorem c_X9_rain {G : KG} {N : Nat} {w : WD} {b : Nat} {x y z v : Int32} {S : St} (h : RsM G N w b S (qM S) none) (hO : sOK S) : KCon G jX9_rain N w [rf G b, .int x, .int y, .int z, .int v] (RpO G N w b (a_rain S x y z v)) := by
  obtain ⟨at_, s, to_, g0, g5, v3, g2, v2⟩ := h.ob
  obtain ⟨o1, o2, ⟨o3, o4⟩, o5, o6, -⟩ := hO
  have hn7 := o1.1
  have hL7 := ok_l7 o3
  refine KCon.of ([some (rf G b), some (.int x), some (.int y), some (.int z), some (.int v), none, none, none, none, none, none]) (by decide) rfl (by simp [Value.category]) (Nat.le_of_ble_eq_true rfl) rfl ?_
  have bad : a_rain S x y z v = (-1, S) → KRun G jX9_rain N (RpO G N w b (a_rain S x y z v)) 38 [some (rf G b), some (.int x), some (.int y), some (.int z), some (.int v), none, none, none, none, none, none] [] 0 0 w := by
    intro ea
    rw [ea]
    refine k_iconst (-1) 39 dX9_rain_38 rfl km_1 ?_
    refine k_iret dX9_rain_39 rfl rfl (Nat.le_of_ble_eq_true rfl) ⟨rfl, h, Eqx.rf⟩
  refine k_aload_n 1 dX9_rain_0 rfl rfl rfl ?_
  refine k_iload_n 2 dX9_rain_1 rfl rfl rfl ?_
  refine k_V1 (ci := 8) 5 dX9_rain_2 rfl vX9_rain_102 (by (repeat (refine Is.ne ?_ (by omega))); first | assumption | exact Is.up (by omega)) rfl rfl (Nat.le_of_ble_eq_true rfl) rfl ⟨Nat.le_of_ble_eq_true rfl, Nat.le_of_ble_eq_true rfl⟩ (c_X9_isOne h o2 hn7) (fun r9 w9 h9 => ?_)
  obtain ⟨h8, h9⟩ := h9
  subst h8
  have h9 := h9.symm
  subst h9
  rcases prs_c hn7 x with ⟨p, hp, rfl, e⟩ | ⟨hno, e⟩
  · rw [e]
    refine k_if_eqB 38 8 dX9_rain_5 rfl rfl (fun c9 => absurd c9 (by simp)) (fun c9 => ?_)
    refine k_iload_n 9 dX9_rain_8 rfl rfl rfl ?_
    refine k_iconst (nI 0) 10 dX9_rain_9 rfl kc_0 ?_
    refine k_bipush (nI 8) 12 dX9_rain_10 rfl kb_8 ?_
    refine k_S3 15 dX9_rain_12 rfl vX9_rain_56 (Nat.le_of_ble_eq_true rfl) rfl ⟨Nat.le_of_ble_eq_true rfl, Nat.le_of_ble_eq_true rfl⟩ (c_X9_inN (by omega) (by omega)) (fun r9 w9 h9 => ?_)
    obtain ⟨h8, h9⟩ := h9
    subst h8
    have h9 := h9.symm
    subst h9
    rcases rgn_c 0 8 y with ⟨n, n1, n2, rfl, e2⟩ | ⟨hy, e2⟩
    · rw [e2]
      refine k_if_eqB 38 18 dX9_rain_15 rfl rfl (fun c9 => absurd c9 (by simp)) (fun c9 => ?_)
      refine k_iload_n 19 dX9_rain_18 rfl rfl rfl ?_
      refine k_iconst (nI 0) 20 dX9_rain_19 rfl kc_0 ?_
      refine k_bipush (nI 10) 22 dX9_rain_20 rfl kb_10 ?_
      refine k_S3 25 dX9_rain_22 rfl vX9_rain_56 (Nat.le_of_ble_eq_true rfl) rfl ⟨Nat.le_of_ble_eq_true rfl, Nat.le_of_ble_eq_true rfl⟩ (c_X9_inN (by omega) (by omega)) (fun r9 w9 h9 => ?_)
      obtain ⟨h8, h9⟩ := h9
      subst h8
      have h9 := h9.symm
      subst h9
      rcases rgn_c 0 10 z with ⟨t, t1, t2, rfl, e3⟩ | ⟨hz, e3⟩
      · rw [e3]
        refine k_if_eqB 38 28 dX9_rain_25 rfl rfl (fun c9 => absurd c9 (by simp)) (fun c9 => ?_)
        refine k_iload 30 dX9_rain_28 rfl rfl ?_
        refine k_iconst (nI 0) 31 dX9_rain_30 rfl kc_0 ?_
        refine k_iconst (nI 1) 32 dX9_rain_31 rfl kc_1 ?_
        refine k_S3 35 dX9_rain_32 rfl vX9_rain_56 (Nat.le_of_ble_eq_true rfl) rfl ⟨Nat.le_of_ble_eq_true rfl, Nat.le_of_ble_eq_true rfl⟩ (c_X9_inN (by omega) (by omega)) (fun r9 w9 h9 => ?_)
        obtain ⟨h8, h9⟩ := h9
        subst h8
        have h9 := h9.symm
        subst h9
        rcases rgn_c 0 1 v with ⟨u, w1', w2', rfl, e4⟩ | ⟨hv, e4⟩
        · rw [e4]
          refine k_if_neB 40 38 dX9_rain_35 rfl rfl (fun c9 => ?_) (fun c9 => absurd c9 (by simp))
          have ea : a_rain S (nI p) (nI n) (nI t) (nI u) = ((if u = 0 then nI (hit (qF S) (qM S) p n t (2 ^ n) / Nat.gcd (10 ^ n) (hit (qF S) (qM S) p n t (2 ^ n))) else nI (10 ^ n / Nat.gcd (10 ^ n) (hit (qF S) (qM S) p n t (2 ^ n)))), S) := by
            unfold a_rain
            rw [e, e2, e3, e4]
          rw [ea]
          clear ea bad
          have h10 := p10 n (by omega)
          have h2n := p2 n (by omega)
          have h10p : 0 < 10 ^ n := Nat.pow_pos (by omega)
          have hhit : ∀ s, s ≤ 2 ^ n → hit (qF S) (qM S) p n t s ≤ 10 ^ n := by
            intro s hs
            refine Nat.le_trans (hit_le _ _ _ _ _ s) ?_
            rw [← swg_all n (by omega) t (by omega)]
            exact swg_mono n t hs
          generalize hPost : RpO G N w b ((if u = 0 then nI (hit (qF S) (qM S) p n t (2 ^ n) / Nat.gcd (10 ^ n) (hit (qF S) (qM S) p n t (2 ^ n))) else nI (10 ^ n / Nat.gcd (10 ^ n) (hit (qF S) (qM S) p n t (2 ^ n)))), S) = Post
          refine k_aload_n 41 dX9_rain_40 rfl rfl rfl ?_
          refine k_V0 (ci := 8) 44 dX9_rain_41 rfl vX9_rain_143 (by (repeat (refine Is.ne ?_ (by omega))); first | assumption | exact Is.up (by omega)) rfl rfl (Nat.le_of_ble_eq_true rfl) rfl ⟨Nat.le_of_ble_eq_true rfl, Nat.le_of_ble_eq_true rfl⟩ (c_X9_holds h hn7 hL7) (fun r1 w1 x1 => ?_)
          obtain ⟨rfl, hR1, hE1⟩ := x1
          refine k_iconst (nI 0) 45 dX9_rain_44 rfl kc_0 ?_
          refine k_istore _ 47 dX9_rain_45 rfl (by decide) rfl rfl ?_
          refine k_iconst (nI 1) 48 dX9_rain_47 rfl kc_1 ?_
          refine k_istore _ 50 dX9_rain_48 rfl (by decide) rfl rfl ?_
          refine k_iconst (nI 0) 51 dX9_rain_50 rfl kc_0 ?_
          refine k_istore _ 53 dX9_rain_51 rfl (by decide) rfl rfl ?_
          have sloop : ∀ d s (w2 : WD), s + d = 2 ^ n → RsM G N w2 b S (qM S) (some (qM S)) → Eqx w w2 b (b + 12) → KRun G jX9_rain N Post 75 [some (rf G b), some (.int (nI p)), some (.int (nI n)), some (.int (nI t)), some (.int (nI u)), some (.int (nI (hit (qF S) (qM S) p n t s))), some (.int (nI (10 ^ n))), some (.int (nI s)), none, none, none] [] 0 0 w2 := by
            intro d
            induction d with
            | zero =>
              intro s w2 hs hR hE
              have hI : s = 2 ^ n := by omega
              subst hI
              have hh := hhit (2 ^ n) (Nat.le_refl _)
              generalize hH : hit (qF S) (qM S) p n t (2 ^ n) = H at *
              refine k_iload 77 dX9_rain_75 rfl rfl ?_
              refine k_iconst (nI 1) 78 dX9_rain_77 rfl kc_1 ?_
              refine k_iload_n 79 dX9_rain_78 rfl rfl rfl ?_
              refine k_ishlE _ 80 dX9_rain_79 rfl (one_sh n (by omega)) ?_
              refine k_icmp_geN 185 83 dX9_rain_80 rfl rfl (by omega) (by omega) (fun c => ?_) (fun c => ?_)
              rotate_left
              · omega
              refine k_iload 187 dX9_rain_185 rfl rfl ?_
              refine k_istore _ 189 dX9_rain_187 rfl (by decide) rfl rfl ?_
              refine k_iload 191 dX9_rain_189 rfl rfl ?_
              refine k_istore _ 193 dX9_rain_191 rfl (by decide) rfl rfl ?_
              have gl : ∀ f a q (L9 : Option Value), q ≤ f → a ≤ 100000000 → q ≤ 100000000 → 0 < a ∨ 0 < q → Nat.gcd a q = Nat.gcd (10 ^ n) H → KRun G jX9_rain N Post 193 [some (rf G b), some (.int (nI p)), some (.int (nI n)), some (.int (nI t)), some (.int (nI u)), some (.int (nI H)), some (.int (nI (10 ^ n))), some (.int (nI a)), some (.int (nI q)), L9, none] [] 0 0 w2 := by
                intro f
                induction f with
                | zero =>
                  intro a q L9 hc ha1 hc1 hpos hg
                  have hc0 : q = 0 := Nat.le_zero.mp hc
                  subst hc0
                  have haG : Nat.gcd (10 ^ n) H = a := by rw [← hg, Nat.gcd_zero_right]
                  rw [haG] at hPost
                  rw [← hPost]
                  refine k_iload 195 dX9_rain_193 rfl rfl ?_
                  refine k_if_leN 216 198 dX9_rain_195 rfl rfl (by omega) (fun c => ?_) (fun c => ?_)
                  rotate_left
                  · omega
                  refine k_iload 218 dX9_rain_216 rfl rfl ?_
                  refine k_if_neN 229 221 dX9_rain_218 rfl rfl (by omega) (fun c => ?_) (fun c => ?_)
                  · rw [if_neg (by omega)]
                    refine k_iload 231 dX9_rain_229 rfl rfl ?_
                    refine k_iload 233 dX9_rain_231 rfl rfl ?_
                    refine k_idiv _ 234 dX9_rain_233 rfl (nI_ne0 (by omega) (by omega)) (pk_div (by omega) (by omega) (by omega)) ?_
                    refine k_iret dX9_rain_234 rfl rfl (Nat.le_of_ble_eq_true rfl) ⟨rfl, hR.drop, hE⟩
                  · rw [if_pos (by omega)]
                    refine k_iload 223 dX9_rain_221 rfl rfl ?_
                    refine k_iload 225 dX9_rain_223 rfl rfl ?_
                    refine k_idiv _ 226 dX9_rain_225 rfl (nI_ne0 (by omega) (by omega)) (pk_div (by omega) (by omega) (by omega)) ?_
                    refine k_goto 234 dX9_rain_226 rfl ?_
                    refine k_iret dX9_rain_234 rfl rfl (Nat.le_of_ble_eq_true rfl) ⟨rfl, hR.drop, hE⟩
                | succ f ih =>
                  intro a q L9 hc ha1 hc1 hpos hg
                  refine k_iload 195 dX9_rain_193 rfl rfl ?_
                  refine k_if_leN 216 198 dX9_rain_195 rfl rfl (by omega) (fun c => ?_) (fun c => ?_)
                  · subst c
                    have hx := ih a 0 L9 (by omega) ha1 (by omega) hpos hg
                    have haG : Nat.gcd (10 ^ n) H = a := by rw [← hg, Nat.gcd_zero_right]
                    rw [haG] at hPost
                    rw [← hPost]
                    refine k_iload 218 dX9_rain_216 rfl rfl ?_
                    refine k_if_neN 229 221 dX9_rain_218 rfl rfl (by omega) (fun c => ?_) (fun c => ?_)
                    · rw [if_neg (by omega)]
                      refine k_iload 231 dX9_rain_229 rfl rfl ?_
                      refine k_iload 233 dX9_rain_231 rfl rfl ?_
                      refine k_idiv _ 234 dX9_rain_233 rfl (nI_ne0 (by omega) (by omega)) (pk_div (by omega) (by omega) (by omega)) ?_
                      refine k_iret dX9_rain_234 rfl rfl (Nat.le_of_ble_eq_true rfl) ⟨rfl, hR.drop, hE⟩
                    · rw [if_pos (by omega)]
                      refine k_iload 223 dX9_rain_221 rfl rfl ?_
                      refine k_iload 225 dX9_rain_223 rfl rfl ?_
                      refine k_idiv _ 226 dX9_rain_225 rfl (nI_ne0 (by omega) (by omega)) (pk_div (by omega) (by omega) (by omega)) ?_
                      refine k_goto 234 dX9_rain_226 rfl ?_
                      refine k_iret dX9_rain_234 rfl rfl (Nat.le_of_ble_eq_true rfl) ⟨rfl, hR.drop, hE⟩
                  · have hc0 : 0 < q := by assumption
                    have hm := Nat.mod_lt a hc0
                    refine k_iload 200 dX9_rain_198 rfl rfl ?_
                    refine k_iload 202 dX9_rain_200 rfl rfl ?_
                    refine k_irem _ 203 dX9_rain_202 rfl (nI_ne0 (by omega) (by omega)) (pk_rem (by omega) (by omega) (by omega)) ?_
                    refine k_istore _ 205 dX9_rain_203 rfl (by decide) rfl rfl ?_
                    refine k_iload 207 dX9_rain_205 rfl rfl ?_
                    refine k_istore _ 209 dX9_rain_207 rfl (by decide) rfl rfl ?_
                    refine k_iload 211 dX9_rain_209 rfl rfl ?_
                    refine k_istore _ 213 dX9_rain_211 rfl (by decide) rfl rfl ?_
                    refine k_goto 193 dX9_rain_213 rfl ?_
                    refine ih q (a % q) _ (by omega) hc1 (by omega) (Or.inl hc0) ?_
                    rw [← hg, Nat.gcd_comm a q, Nat.gcd_rec q a, Nat.gcd_comm]
              exact gl (10 ^ n) H (10 ^ n) none (Nat.le_refl _) (by omega) (by omega) (Or.inr h10p) (Nat.gcd_comm _ _)
            | succ d ih =>
              intro s w2 hs hR hE
              have hs2 : s < 2 ^ n := by omega
              have hwb := wgt_b (x := t) (show n < 9 by omega) (by omega) hs2
              refine k_iload 77 dX9_rain_75 rfl rfl ?_
              refine k_iconst (nI 1) 78 dX9_rain_77 rfl kc_1 ?_
              refine k_iload_n 79 dX9_rain_78 rfl rfl rfl ?_
              refine k_ishlE _ 80 dX9_rain_79 rfl (one_sh n (by omega)) ?_
              refine k_icmp_geN 185 83 dX9_rain_80 rfl rfl (by omega) (by omega) (fun c => ?_) (fun c => ?_)
              · omega
              refine k_iconst (nI 1) 84 dX9_rain_83 rfl kc_1 ?_
              refine k_istore _ 86 dX9_rain_84 rfl (by decide) rfl rfl ?_
              refine k_iconst (nI 0) 87 dX9_rain_86 rfl kc_0 ?_
              refine k_istore _ 89 dX9_rain_87 rfl (by decide) rfl rfl ?_
              have il : ∀ d2 k (w3 : WD) (L10 : Option Value), k + d2 = n → RsM G N w3 b S (rnm (qF S) (qM S) s k) (some (qM S)) → Eqx w w3 b (b + 12) → KRun G jX9_rain N Post 89 [some (rf G b), some (.int (nI p)), some (.int (nI n)), some (.int (nI t)), some (.int (nI u)), some (.int (nI (hit (qF S) (qM S) p n t s))), some (.int (nI (10 ^ n))), some (.int (nI s)), some (.int (nI (wgt s t k))), some (.int (nI k)), L10] [] 0 0 w3 := by
                intro d2
                induction d2 with
                | zero =>
                  intro k w3 L10 hk hR3 hE3
                  have hI : k = n := by omega
                  subst hI
                  obtain ⟨hOr, hGr⟩ := ok_rnm (s := s) o3 o1 rfl k (by omega)
                  have hw2 := (hOr.2.2.2.2.1 p hp).1
                  obtain ⟨at3, s3, to3, j30, j35, t33, j32, t32⟩ := hR3.ob
                  have nx : ∀ v2 : Nat, hit (qF S) (qM S) p k t s + v2 = hit (qF S) (qM S) p k t (s + 1) → KRun G jX9_rain N Post 172 [some (rf G b), some (.int (nI p)), some (.int (nI k)), some (.int (nI t)), some (.int (nI u)), some (.int (nI (hit (qF S) (qM S) p k t s))), some (.int (nI (10 ^ k))), some (.int (nI s)), some (.int (nI (wgt s t k))), some (.int (nI k)), L10] [.int (nI v2), .int (nI (hit (qF S) (qM S) p k t s))] 0 0 w3 := by
                    intro v2 hv2
                    first | refine k_iaddE _ 173 dX9_rain_172 rfl (nI_add _ _) ?_ | refine k_iadd 173 dX9_rain_172 rfl ?_
                    refine k_istore _ 175 dX9_rain_173 rfl (by decide) rfl rfl ?_
                    rw [hv2]
                    refine k_aload_n 176 dX9_rain_175 rfl rfl rfl ?_
                    refine k_V0 (ci := 8) 179 dX9_rain_176 rfl vX9_rain_146 (by (repeat (refine Is.ne ?_ (by omega))); first | assumption | exact Is.up (by omega)) rfl rfl (Nat.le_of_ble_eq_true rfl) rfl ⟨Nat.le_of_ble_eq_true rfl, Nat.le_of_ble_eq_true rfl⟩ (c_X9_backs hR3 hn7 hL7) (fun r5 w5 x5 => ?_)
                    obtain ⟨rfl, hR5, hE5⟩ := x5
                    refine k_iinc _ _ 182 dX9_rain_179 rfl rfl (nI_inc _) (by decide) rfl rfl ?_
                    refine k_goto 75 dX9_rain_182 rfl ?_
                    refine k_loc [some (rf G b), some (.int (nI p)), some (.int (nI k)), some (.int (nI t)), some (.int (nI u)), some (.int (nI (hit (qF S) (qM S) p k t (s + 1)))), some (.int (nI (10 ^ k))), some (.int (nI (s + 1))), none, none, none] ⟨rfl, rfl, rfl, rfl, rfl, rfl, rfl, rfl, trivial⟩ rfl ?_
                    exact ih (s + 1) w5 (by omega) hR5 (hE3.tr hE5)
                  have eh : hit (qF S) (qM S) p k t (s + 1) = hit (qF S) (qM S) p k t s + if mW (rnm (qF S) (qM S) s k) p = 1 then wgt s t k else 0 := rfl
                  refine k_iload 91 dX9_rain_89 rfl rfl ?_
                  refine k_iload_n 92 dX9_rain_91 rfl rfl rfl ?_
                  refine k_icmp_geN 151 95 dX9_rain_92 rfl rfl (by omega) (by omega) (fun c => ?_) (fun c => ?_)
                  rotate_left
                  · omega
                  refine k_iload 153 dX9_rain_151 rfl rfl ?_
                  refine k_aload_n 154 dX9_rain_153 rfl rfl rfl ?_
                  refine k_get 157 dX9_rain_154 rfl fX9_rain_22 (by (repeat (refine Is.ne ?_ (by omega))); first | assumption | exact Is.up (by omega)) (by rfl) ?_
                  refine k_bipush (nI 9) 159 dX9_rain_157 rfl kb_9 ?_
                  refine k_iload_n 160 dX9_rain_159 rfl rfl rfl ?_
                  first | refine k_iaddE _ 161 dX9_rain_160 rfl (nI_add _ _) ?_ | refine k_iadd 161 dX9_rain_160 rfl ?_
                  refine k_ialdN 162 dX9_rain_161 rfl (by (repeat (refine Is.ne ?_ (by omega))); first | assumption | exact Is.up (by omega)) (by omega) (by omega) ?_
                  rw [(t33.2.2.2.1 p hp).1]
                  refine k_iconst (nI 1) 163 dX9_rain_162 rfl kc_1 ?_
                  refine k_icmp_neN 171 166 dX9_rain_163 rfl rfl (by omega) (by omega) (fun c => ?_) (fun c => ?_)
                  · rw [if_neg (by assumption)] at eh
                    refine k_iconst (nI 0) 172 dX9_rain_171 rfl kc_0 ?_
                    exact nx 0 eh.symm
                  · rw [if_pos (by assumption)] at eh
                    refine k_iload 168 dX9_rain_166 rfl rfl ?_
                    refine k_goto 172 dX9_rain_168 rfl ?_
                    exact nx _ eh.symm
                | succ d2 ih2 =>
                  intro k w3 L10 hk hR3 hE3
                  obtain ⟨hOr, hGr⟩ := ok_rnm (s := s) o3 o1 rfl k (by omega)
                  obtain ⟨at3, s3, to3, j30, j35, t33, j32, t32⟩ := hR3.ob
                  refine k_iload 91 dX9_rain_89 rfl rfl ?_
                  refine k_iload_n 92 dX9_rain_91 rfl rfl rfl ?_
                  refine k_icmp_geN 151 95 dX9_rain_92 rfl rfl (by omega) (by omega) (fun c => ?_) (fun c => ?_)
                  · omega
                  refine k_iload 97 dX9_rain_95 rfl rfl ?_
                  refine k_iload 99 dX9_rain_97 rfl rfl ?_
                  refine k_ishr 100 dX9_rain_99 rfl ?_
                  refine k_iconst (nI 1) 101 dX9_rain_100 rfl kc_1 ?_
                  refine k_iandE _ 102 dX9_rain_101 rfl (bit_sh s (by omega) k (by omega)) ?_
                  refine k_iconst (nI 1) 103 dX9_rain_102 rfl kc_1 ?_
                  have ew : wgt s t (k + 1) = wgt s t k * (if s / 2 ^ k % 2 = 1 then t else 10 - t) := rfl
                  have nx : ∀ (q : Nat) (pb : Bool), wgt s t k * q = wgt s t (k + 1) → pb = decide (s / 2 ^ k % 2 = 0) → KRun G jX9_rain N Post 142 [some (rf G b), some (.int (nI p)), some (.int (nI n)), some (.int (nI t)), some (.int (nI u)), some (.int (nI (hit (qF S) (qM S) p n t s))), some (.int (nI (10 ^ n))), some (.int (nI s)), some (.int (nI (wgt s t k * q))), some (.int (nI k)), some (.int (bI (!pb)))] [.int (bI pb), rf G b] 0 0 w3 := by
                    intro q pb hq hpb
                    rw [hq]
                    refine k_V1 (ci := 8) 145 dX9_rain_142 rfl vX9_rain_122 (by (repeat (refine Is.ne ?_ (by omega))); first | assumption | exact Is.up (by omega)) rfl rfl (Nat.le_of_ble_eq_true rfl) rfl ⟨Nat.le_of_ble_eq_true rfl, Nat.le_of_ble_eq_true rfl⟩ (c_X9_passes (pb := pb) hR3 hOr o1 (by omega)) (fun r4 w4 x4 => ?_)
                    obtain ⟨rfl, hR4, hE4⟩ := x4
                    refine k_iinc _ _ 148 dX9_rain_145 rfl rfl (nI_inc _) (by decide) rfl rfl ?_
                    refine k_goto 89 dX9_rain_148 rfl ?_
                    refine ih2 (k + 1) w4 _ (by omega) ?_ (hE3.tr hE4)
                    rw [hpb] at hR4
                    exact hR4
                  have hb2 : s / 2 ^ k % 2 < 2 := Nat.mod_lt _ (by omega)
                  by_cases cb : s / 2 ^ k % 2 = 1
                  · rw [if_pos cb] at ew
                    refine k_icmp_neN 110 106 dX9_rain_103 rfl rfl (by omega) (by omega) (fun c => ?_) (fun c => ?_)
                    · omega
                    refine k_iconst (nI 1) 107 dX9_rain_106 rfl kc_1 ?_
                    refine k_goto 111 dX9_rain_107 rfl ?_
                    refine k_istore _ 113 dX9_rain_111 rfl (by decide) rfl rfl ?_
                    refine k_iload 115 dX9_rain_113 rfl rfl ?_
                    refine k_iload 117 dX9_rain_115 rfl rfl ?_
                    refine k_if_eqB (b := true) 124 120 dX9_rain_117 rfl rfl (fun c9 => absurd c9 (by simp)) (fun c9 => ?_)
                    refine k_iload_n 121 dX9_rain_120 rfl rfl rfl ?_
                    refine k_goto 128 dX9_rain_121 rfl ?_
                    first | refine k_imulE _ 129 dX9_rain_128 rfl (pk_mul _ _) ?_ | refine k_imul 129 dX9_rain_128 rfl ?_
                    refine k_istore _ 131 dX9_rain_129 rfl (by decide) rfl rfl ?_
                    refine k_aload_n 132 dX9_rain_131 rfl rfl rfl ?_
                    refine k_iload 134 dX9_rain_132 rfl rfl ?_
                    refine k_if_neB (b := true) 141 137 dX9_rain_134 rfl rfl (fun c9 => ?_) (fun c9 => absurd c9 (by simp))
                    refine k_iconst (nI 0) 142 dX9_rain_141 rfl kc_0 ?_
                    exact nx t false ew.symm (by rw [cb]; rfl)
                  · have cb0 : s / 2 ^ k % 2 = 0 := by omega
                    rw [if_neg cb] at ew
                    refine k_icmp_neN 110 106 dX9_rain_103 rfl rfl (by omega) (by omega) (fun c => ?_) (fun c => ?_)
                    rotate_left
                    · omega
                    refine k_iconst (nI 0) 111 dX9_rain_110 rfl kc_0 ?_
                    refine k_istore _ 113 dX9_rain_111 rfl (by decide) rfl rfl ?_
                    refine k_iload 115 dX9_rain_113 rfl rfl ?_
                    refine k_iload 117 dX9_rain_115 rfl rfl ?_
                    refine k_if_eqB (b := false) 124 120 dX9_rain_117 rfl rfl (fun c9 => ?_) (fun c9 => absurd c9 (by simp))
                    refine k_bipush (nI 10) 126 dX9_rain_124 rfl kb_10 ?_
                    refine k_iload_n 127 dX9_rain_126 rfl rfl rfl ?_
                    first | refine k_isubE _ 128 dX9_rain_127 rfl (pk_sub (by omega)) ?_ | refine k_isub 128 dX9_rain_127 rfl ?_
                    first | refine k_imulE _ 129 dX9_rain_128 rfl (pk_mul _ _) ?_ | refine k_imul 129 dX9_rain_128 rfl ?_
                    refine k_istore _ 131 dX9_rain_129 rfl (by decide) rfl rfl ?_
                    refine k_aload_n 132 dX9_rain_131 rfl rfl rfl ?_
                    refine k_iload 134 dX9_rain_132 rfl rfl ?_
                    refine k_if_neB (b := false) 141 137 dX9_rain_134 rfl rfl (fun c9 => absurd c9 (by simp)) (fun c9 => ?_)
                    refine k_iconst (nI 1) 138 dX9_rain_137 rfl kc_1 ?_
                    refine k_goto 142 dX9_rain_138 rfl ?_
                    exact nx (10 - t) true ew.symm (by rw [cb0]; rfl)
              exact il n 0 w2 none (by omega) hR hE
          have bl : ∀ d k, k + d = n → KRun G jX9_rain N Post 53 [some (rf G b), some (.int (nI p)), some (.int (nI n)), some (.int (nI t)), some (.int (nI u)), some (.int (nI 0)), some (.int (nI (10 ^ k))), some (.int (nI k)), none, none, none] [] 0 0 w1 := by
            intro d
            induction d with
            | zero =>
              intro k hk
              have hI : k = n := by omega
              subst hI
              refine k_iload 55 dX9_rain_53 rfl rfl ?_
              refine k_iload_n 56 dX9_rain_55 rfl rfl rfl ?_
              refine k_icmp_geN 72 59 dX9_rain_56 rfl rfl (by omega) (by omega) (fun c => ?_) (fun c => ?_)
              rotate_left
              · omega
              refine k_iconst (nI 0) 73 dX9_rain_72 rfl kc_0 ?_
              refine k_istore _ 75 dX9_rain_73 rfl (by decide) rfl rfl ?_
              exact sloop (2 ^ k) 0 w1 (by omega) hR1 hE1
            | succ d ih =>
              intro k hk
              have hx := ih (k + 1) (by omega)
              rw [Nat.pow_succ] at hx
              refine k_iload 55 dX9_rain_53 rfl rfl ?_
              refine k_iload_n 56 dX9_rain_55 rfl rfl rfl ?_
              refine k_icmp_geN 72 59 dX9_rain_56 rfl rfl (by omega) (by omega) (fun c => ?_) (fun c => ?_)
              · omega
              · refine k_iload 61 dX9_rain_59 rfl rfl ?_
                refine k_bipush (nI 10) 63 dX9_rain_61 rfl kb_10 ?_
                first | refine k_imulE _ 64 dX9_rain_63 rfl (pk_mul _ _) ?_ | refine k_imul 64 dX9_rain_63 rfl ?_
                refine k_istore _ 66 dX9_rain_64 rfl (by decide) rfl rfl ?_
                refine k_iinc _ _ 69 dX9_rain_66 rfl rfl (nI_inc _) (by decide) rfl rfl ?_
                refine k_goto 53 dX9_rain_69 rfl ?_
                exact hx
          exact bl n 0 (by omega)
        · rw [e4]
          refine k_if_neB 40 38 dX9_rain_35 rfl rfl (fun c9 => absurd c9 (by simp)) (fun c9 => ?_)
          exact bad (by unfold a_rain; rw [e, e2, e3, e4])
      · rw [e3]
        refine k_if_eqB 38 28 dX9_rain_25 rfl rfl (fun c9 => ?_) (fun c9 => absurd c9 (by simp))
        exact bad (by unfold a_rain; rw [e, e2, e3])
    · rw [e2]
      refine k_if_eqB 38 18 dX9_rain_15 rfl rfl (fun c9 => ?_) (fun c9 => absurd c9 (by simp))
      exact bad (by unfold a_rain; rw [e, e2])
  · rw [e]
    refine k_if_eqB 38 8 dX9_rain_5 rfl rfl (fun c9 => ?_) (fun c9 => absurd c9 (by simp))
    exact bad (by unfold a_rain; rw [e])
