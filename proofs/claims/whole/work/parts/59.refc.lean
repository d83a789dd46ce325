/-! KerbQueueModel: what comes -/
theorem mnt_W (F : Fo) (pb : Bool) (M : Mo) (p : Nat) : mW (mnt F pb M) p = mW M p ∨ mW (mnt F pb M) p = 1 := by
  have h1 : mW (if pb = true then pal F (mG M + 1) (mG M + 1, M.2) (mL M - 1) else (mG M + 1, M.2)) = mW M := by
    split
    · exact (pal_L F (mG M + 1) (mG M + 1, M.2) (mL M - 1)).2.2.1
    · rfl
  simp only [mnt]
  split
  · show sf (mW _) _ 1 p = _ ∨ sf (mW _) _ 1 p = 1
    rw [h1]
    generalize mQ (if pb = true then pal F (mG M + 1) (mG M + 1, M.2) (mL M - 1) else (mG M + 1, M.2)) 0 = z
    by_cases e : p = z
    · rw [e, sf_s]
      exact Or.inr rfl
    · rw [sf_n _ _ e]
      exact Or.inl rfl
  · rw [h1]
    exact Or.inl rfl
theorem mns_W (F : Fo) (M : Mo) (p : Nat) : ∀ i, mW M p = 0 → mW (mns F M i) p = 0 ∨ mW (mns F M i) p = 1 := by
  intro i h
  induction i with
  | zero => exact Or.inl h
  | succ i ih =>
    rcases mnt_W F true (mns F M i) p with e | e
    · rcases ih with e2 | e2
      · exact Or.inl (e.trans e2)
      · exact Or.inr (e.trans e2)
    · exact Or.inr e
theorem wtn_some {F : Fo} {M : Mo} {p i : Nat} (hi : i < 60) (h : mW (mns F M (i + 1)) p = 1) (hb : ∀ j, j < i → mW (mns F M (j + 1)) p ≠ 1) : wtn F M p = some i := by
  unfold wtn
  simp only [List.find?_range_eq_some, beq_iff_eq, List.mem_range, Bool.not_eq_true', beq_eq_false_iff_ne]
  exact ⟨h, hi, hb⟩
theorem wtn_none {F : Fo} {M : Mo} {p : Nat} (hb : ∀ j, j < 60 → mW (mns F M (j + 1)) p ≠ 1) : wtn F M p = none := by
  unfold wtn
  simp only [List.find?_eq_none, List.mem_range, beq_iff_eq]
  exact hb
theorem c_X9_servedIn {G : KG} {N : Nat} {w : WD} {b p : Nat} {S : St} {M : Mo} {oA : Option Mo} (h : RsM G N w b S M oA) (hO : mOK (oN (qF S)) M) (hK : oOK (qF S)) (hG : mG M + 70 < 2000) (hp : p < oN (qF S)) (hw : mW M p = 0) : KCon G jX9_servedIn N w [rf G b, .int (nI p)] (fun r w1 => r = some (.int (wI (wtn (qF S) M p))) ∧ (∃ M1, RsM G N w1 b S M1 oA) ∧ Eqx w w1 b (b + 12)) := by
  have hn7 := hO.2.1
  refine KCon.of ([some (rf G b), some (.int (nI p)), none]) (by decide) rfl (by simp [Value.category]) (Nat.le_of_ble_eq_true rfl) rfl ?_
  refine k_iconst (nI 0) 1 dX9_servedIn_0 rfl kc_0 ?_
  refine k_istore_n _ 2 dX9_servedIn_1 rfl rfl (by decide) rfl rfl ?_
  have out : ∀ i (w2 : WD) (M1 : Mo), i ≤ 61 → RsM G N w2 b S M1 oA → Eqx w w2 b (b + 12) → wI (wtn (qF S) M p) = (if 60 < i then -4 else nI i) → KRun G jX9_servedIn N (fun r w1 => r = some (.int (wI (wtn (qF S) M p))) ∧ (∃ M1, RsM G N w1 b S M1 oA) ∧ Eqx w w1 b (b + 12)) 31 [some (rf G b), some (.int (nI p)), some (.int (nI i))] [] 0 0 w2 := by
    intro i w2 M1 hi hR hE e
    rw [e]
    refine k_iload_n 32 dX9_servedIn_31 rfl rfl rfl ?_
    refine k_bipush (nI 60) 34 dX9_servedIn_32 rfl kb_60 ?_
    refine k_icmp_leN 42 37 dX9_servedIn_34 rfl rfl (by omega) (by omega) (fun c => ?_) (fun c => ?_)
    · rw [if_neg (by omega)]
      refine k_iload_n 43 dX9_servedIn_42 rfl rfl rfl ?_
      refine k_iret dX9_servedIn_43 rfl rfl (Nat.le_of_ble_eq_true rfl) ⟨rfl, ⟨M1, hR⟩, hE⟩
    · rw [if_pos (by omega)]
      refine k_bipush (-4) 39 dX9_servedIn_37 rfl kbm_4 ?_
      refine k_goto 43 dX9_servedIn_39 rfl ?_
      refine k_iret dX9_servedIn_43 rfl rfl (Nat.le_of_ble_eq_true rfl) ⟨rfl, ⟨M1, hR⟩, hE⟩
  have loop : ∀ d i (w2 : WD), i + d = 61 → RsM G N w2 b S (mns (qF S) M i) oA → Eqx w w2 b (b + 12) → mW (mns (qF S) M i) p = 0 → (∀ j, j < i → mW (mns (qF S) M (j + 1)) p ≠ 1) → KRun G jX9_servedIn N (fun r w1 => r = some (.int (wI (wtn (qF S) M p))) ∧ (∃ M1, RsM G N w1 b S M1 oA) ∧ Eqx w w1 b (b + 12)) 2 [some (rf G b), some (.int (nI p)), some (.int (nI i))] [] 0 0 w2 := by
    intro d
    induction d with
    | zero =>
      intro i w2 hi hR hE h0 hb
      refine k_iload_n 3 dX9_servedIn_2 rfl rfl rfl ?_
      refine k_bipush (nI 60) 5 dX9_servedIn_3 rfl kb_60 ?_
      refine k_icmp_gtN 31 8 dX9_servedIn_5 rfl rfl (by omega) (by omega) (fun c => ?_) (fun c => ?_)
      · refine out i w2 _ (by omega) hR hE ?_
        rw [wtn_none (fun j hj => hb j (by omega)), if_pos (by omega)]
        rfl
      · omega
    | succ d ih =>
      intro i w2 hi hR hE h0 hb
      obtain ⟨hOi, hGi⟩ := mns_ok hO hK (n := 61) (by omega) i (by omega)
      obtain ⟨at2, s2, to2, q0, q5, u3, q2, u2⟩ := hR.ob
      refine k_iload_n 3 dX9_servedIn_2 rfl rfl rfl ?_
      refine k_bipush (nI 60) 5 dX9_servedIn_3 rfl kb_60 ?_
      refine k_icmp_gtN 31 8 dX9_servedIn_5 rfl rfl (by omega) (by omega) (fun c => ?_) (fun c => ?_)
      · omega
      refine k_aload_n 9 dX9_servedIn_8 rfl rfl rfl ?_
      refine k_get 12 dX9_servedIn_9 rfl fX9_servedIn_22 (by (repeat (refine Is.ne ?_ (by omega))); first | assumption | exact Is.up (by omega)) (by rfl) ?_
      refine k_bipush (nI 9) 14 dX9_servedIn_12 rfl kb_9 ?_
      refine k_iload_n 15 dX9_servedIn_14 rfl rfl rfl ?_
      first | refine k_iaddE _ 16 dX9_servedIn_15 rfl (nI_add _ _) ?_ | refine k_iadd 16 dX9_servedIn_15 rfl ?_
      refine k_ialdN 17 dX9_servedIn_16 rfl (by (repeat (refine Is.ne ?_ (by omega))); first | assumption | exact Is.up (by omega)) (by omega) (by omega) ?_
      rw [(u3.2.2.2.1 p hp).1, h0]
      refine k_if_neN (a := 0) 31 20 dX9_servedIn_17 rfl rfl (by omega) (fun c => by omega) (fun c => ?_)
      refine k_aload_n 21 dX9_servedIn_20 rfl rfl rfl ?_
      refine k_iconst (nI 1) 22 dX9_servedIn_21 rfl kc_1 ?_
      refine k_V1 (ci := 8) 25 dX9_servedIn_22 rfl vX9_servedIn_122 (by (repeat (refine Is.ne ?_ (by omega))); first | assumption | exact Is.up (by omega)) rfl rfl (Nat.le_of_ble_eq_true rfl) rfl ⟨Nat.le_of_ble_eq_true rfl, Nat.le_of_ble_eq_true rfl⟩ (c_X9_passes (pb := true) hR hOi hK (by omega)) (fun r3 w3 x3 => ?_)
      obtain ⟨rfl, hR3, hE3⟩ := x3
      refine k_iinc _ _ 28 dX9_servedIn_25 rfl rfl (nI_inc _) (by decide) rfl rfl ?_
      refine k_goto 2 dX9_servedIn_28 rfl ?_
      have hR4 : RsM G N w3 b S (mns (qF S) M (i + 1)) oA := hR3
      rcases mns_W (qF S) M p (i + 1) hw with e | e
      · refine ih (i + 1) w3 (by omega) hR4 (hE.tr hE3) e (fun j hj => ?_)
        by_cases z : j = i
        · rw [z, e]
          omega
        · exact hb j (by omega)
      · obtain ⟨at4, s4, to4, q40, q45, u43, q42, u42⟩ := hR4.ob
        refine k_iload_n 3 dX9_servedIn_2 rfl rfl rfl ?_
        refine k_bipush (nI 60) 5 dX9_servedIn_3 rfl kb_60 ?_
        refine k_icmp_gtN 31 8 dX9_servedIn_5 rfl rfl (by omega) (by omega) (fun c => ?_) (fun c => ?_)
        · refine out (i + 1) w3 _ (by omega) hR4 (hE.tr hE3) ?_
          rw [wtn_none (fun j hj => hb j (by omega)), if_pos (by omega)]
          rfl
        · refine k_aload_n 9 dX9_servedIn_8 rfl rfl rfl ?_
          refine k_get 12 dX9_servedIn_9 rfl fX9_servedIn_22 (by (repeat (refine Is.ne ?_ (by omega))); first | assumption | exact Is.up (by omega)) (by rfl) ?_
          refine k_bipush (nI 9) 14 dX9_servedIn_12 rfl kb_9 ?_
          refine k_iload_n 15 dX9_servedIn_14 rfl rfl rfl ?_
          first | refine k_iaddE _ 16 dX9_servedIn_15 rfl (nI_add _ _) ?_ | refine k_iadd 16 dX9_servedIn_15 rfl ?_
          refine k_ialdN 17 dX9_servedIn_16 rfl (by (repeat (refine Is.ne ?_ (by omega))); first | assumption | exact Is.up (by omega)) (by omega) (by omega) ?_
          rw [(u43.2.2.2.1 p hp).1, e]
          refine k_if_neN (a := 1) 31 20 dX9_servedIn_17 rfl rfl (by omega) (fun c => ?_) (fun c => by omega)
          refine out (i + 1) w3 _ (by omega) hR4 (hE.tr hE3) ?_
          rw [wtn_some (i := i) (by omega) e hb, if_neg (by omega)]
          rfl
  exact loop 61 0 w (by omega) h Eqx.rf hw (fun j hj => by omega)
theorem c_X9_behind {G : KG} {N : Nat} {w : WD} {b : Nat} {x y z : Int32} {S : St} (h : RsM G N w b S (qM S) none) (hO : sOK S) : KCon G jX9_behind N w [rf G b, .int x, .int y, .int z] (RpO G N w b (a_behind S x y z)) := by
  obtain ⟨at_, s, to_, g0, g5, v3, g2, v2⟩ := h.ob
  obtain ⟨o1, o2, ⟨o3, o4⟩, o5, o6, -⟩ := hO
  have hn7 := o1.1
  have hL7 := ok_l7 o3
  refine KCon.of ([some (rf G b), some (.int x), some (.int y), some (.int z), none]) (by decide) rfl (by simp [Value.category]) (Nat.le_of_ble_eq_true rfl) rfl ?_
  have bad : a_behind S x y z = (-1, S) → KRun G jX9_behind N (RpO G N w b (a_behind S x y z)) 27 [some (rf G b), some (.int x), some (.int y), some (.int z), none] [] 0 0 w := by
    intro ea
    rw [ea]
    refine k_iconst (-1) 28 dX9_behind_27 rfl km_1 ?_
    refine k_iret dX9_behind_28 rfl rfl (Nat.le_of_ble_eq_true rfl) ⟨rfl, h, Eqx.rf⟩
  refine k_iload_n 1 dX9_behind_0 rfl rfl rfl ?_
  refine k_iconst (nI 0) 2 dX9_behind_1 rfl kc_0 ?_
  refine k_bipush (nI 40) 4 dX9_behind_2 rfl kb_40 ?_
  refine k_S3 7 dX9_behind_4 rfl vX9_behind_56 (Nat.le_of_ble_eq_true rfl) rfl ⟨Nat.le_of_ble_eq_true rfl, Nat.le_of_ble_eq_true rfl⟩ (c_X9_inN (by omega) (by omega)) (fun r9 w9 h9 => ?_)
  obtain ⟨h8, h9⟩ := h9
  subst h8
  have h9 := h9.symm
  subst h9
  rcases rgn_c 0 40 x with ⟨n, n1, n2, rfl, e⟩ | ⟨hx, e⟩
  · rw [e]
    refine k_if_eqB 27 10 dX9_behind_7 rfl rfl (fun c9 => absurd c9 (by simp)) (fun c9 => ?_)
    refine k_aload_n 11 dX9_behind_10 rfl rfl rfl ?_
    refine k_iload_n 12 dX9_behind_11 rfl rfl rfl ?_
    refine k_V1 (ci := 8) 15 dX9_behind_12 rfl vX9_behind_102 (by (repeat (refine Is.ne ?_ (by omega))); first | assumption | exact Is.up (by omega)) rfl rfl (Nat.le_of_ble_eq_true rfl) rfl ⟨Nat.le_of_ble_eq_true rfl, Nat.le_of_ble_eq_true rfl⟩ (c_X9_isOne h o2 hn7) (fun r9 w9 h9 => ?_)
    obtain ⟨h8, h9⟩ := h9
    subst h8
    have h9 := h9.symm
    subst h9
    rcases prs_c hn7 y with ⟨p, hp, rfl, e2⟩ | ⟨hno, e2⟩
    · rw [e2]
      refine k_if_eqB 27 18 dX9_behind_15 rfl rfl (fun c9 => absurd c9 (by simp)) (fun c9 => ?_)
      refine k_iload_n 19 dX9_behind_18 rfl rfl rfl ?_
      refine k_iconst (nI 0) 20 dX9_behind_19 rfl kc_0 ?_
      refine k_iconst (nI 1) 21 dX9_behind_20 rfl kc_1 ?_
      refine k_S3 24 dX9_behind_21 rfl vX9_behind_56 (Nat.le_of_ble_eq_true rfl) rfl ⟨Nat.le_of_ble_eq_true rfl, Nat.le_of_ble_eq_true rfl⟩ (c_X9_inN (by omega) (by omega)) (fun r9 w9 h9 => ?_)
      obtain ⟨h8, h9⟩ := h9
      subst h8
      have h9 := h9.symm
      subst h9
      rcases rgn_c 0 1 z with ⟨u, w1', w2', rfl, e3⟩ | ⟨hz, e3⟩
      · rw [e3]
        refine k_if_neB 29 27 dX9_behind_24 rfl rfl (fun c9 => ?_) (fun c9 => absurd c9 (by simp))
        refine k_aload_n 30 dX9_behind_29 rfl rfl rfl ?_
        refine k_V0 (ci := 8) 33 dX9_behind_30 rfl vX9_behind_143 (by (repeat (refine Is.ne ?_ (by omega))); first | assumption | exact Is.up (by omega)) rfl rfl (Nat.le_of_ble_eq_true rfl) rfl ⟨Nat.le_of_ble_eq_true rfl, Nat.le_of_ble_eq_true rfl⟩ (c_X9_holds h hn7 hL7) (fun r1 w1 x1 => ?_)
        obtain ⟨rfl, hR1, hE1⟩ := x1
        refine k_iconst (nI 0) 34 dX9_behind_33 rfl kc_0 ?_
        refine k_istore _ 36 dX9_behind_34 rfl (by decide) rfl rfl ?_
        have loop : ∀ d i (w2 : WD), i + d = n → RsM G N w2 b S (mns (qF S) (qM S) i) (some (qM S)) → Eqx w w2 b (b + 12) → KRun G jX9_behind N (RpO G N w b (a_behind S (nI n) (nI p) (nI u))) 36 [some (rf G b), some (.int (nI n)), some (.int (nI p)), some (.int (nI u)), some (.int (nI i))] [] 0 0 w2 := by
          intro d
          induction d with
          | zero =>
            intro i w2 hi hR hE
            have hI : i = n := by omega
            subst hI
            obtain ⟨hOi, hGi⟩ := mns_ok o3 o1 (n := i) (by omega) i (by omega)
            obtain ⟨at2, s2, to2, q0, q5, u3, q2, u2⟩ := hR.ob
            have fin : ∀ v : Int32, a_behind S (nI i) (nI p) (nI u) = (v, S) → KRun G jX9_behind N (RpO G N w b (a_behind S (nI i) (nI p) (nI u))) 73 [some (rf G b), some (.int (nI i)), some (.int (nI p)), some (.int (nI u)), some (.int (nI i))] [.int v] 0 0 w2 := by
              intro v ea
              rw [ea]
              refine k_istore _ 75 dX9_behind_73 rfl (by decide) rfl rfl ?_
              refine k_aload_n 76 dX9_behind_75 rfl rfl rfl ?_
              refine k_V0 (ci := 8) 79 dX9_behind_76 rfl vX9_behind_146 (by (repeat (refine Is.ne ?_ (by omega))); first | assumption | exact Is.up (by omega)) rfl rfl (Nat.le_of_ble_eq_true rfl) rfl ⟨Nat.le_of_ble_eq_true rfl, Nat.le_of_ble_eq_true rfl⟩ (c_X9_backs hR hn7 hL7) (fun r3 w3 x3 => ?_)
              obtain ⟨rfl, hR3, hE3⟩ := x3
              refine k_iload 81 dX9_behind_79 rfl rfl ?_
              refine k_iret dX9_behind_81 rfl rfl (Nat.le_of_ble_eq_true rfl) ⟨rfl, hR3.drop, hE.tr hE3⟩
            refine k_iload 38 dX9_behind_36 rfl rfl ?_
            refine k_iload_n 39 dX9_behind_38 rfl rfl rfl ?_
            refine k_icmp_geN 53 42 dX9_behind_39 rfl rfl (by omega) (by omega) (fun c => ?_) (fun c => ?_)
            rotate_left
            · omega
            refine k_iload_n 54 dX9_behind_53 rfl rfl rfl ?_
            refine k_if_neN 65 57 dX9_behind_54 rfl rfl (by omega) (fun c => ?_) (fun c => ?_)
            · refine k_aload_n 66 dX9_behind_65 rfl rfl rfl ?_
              refine k_iload_n 67 dX9_behind_66 rfl rfl rfl ?_
              refine k_V1 (ci := 8) 70 dX9_behind_67 rfl vX9_behind_108 (by (repeat (refine Is.ne ?_ (by omega))); first | assumption | exact Is.up (by omega)) rfl rfl (Nat.le_of_ble_eq_true rfl) rfl ⟨Nat.le_of_ble_eq_true rfl, Nat.le_of_ble_eq_true rfl⟩ (c_X9_due hR (by omega)) (fun r9 w9 h9 => ?_)
              obtain ⟨h8, h9⟩ := h9
              subst h8
              have h9 := h9.symm
              subst h9
              refine k_ldc ((iZ 200000)) 72 dX9_behind_70 rfl (by decide +kernel) ?_
              refine k_iaddE _ 73 dX9_behind_72 rfl (iZ_add _ _) ?_
              exact fin _ (by unfold a_behind; rw [e, e2, e3]; dsimp only; rw [if_neg (by omega), Int.add_comm])
            · refine k_aload_n 58 dX9_behind_57 rfl rfl rfl ?_
              refine k_iload_n 59 dX9_behind_58 rfl rfl rfl ?_
              refine k_V1 (ci := 8) 62 dX9_behind_59 rfl vX9_behind_105 (by (repeat (refine Is.ne ?_ (by omega))); first | assumption | exact Is.up (by omega)) rfl rfl (Nat.le_of_ble_eq_true rfl) rfl ⟨Nat.le_of_ble_eq_true rfl, Nat.le_of_ble_eq_true rfl⟩ (c_X9_pl hR hOi hp) (fun r9 w9 h9 => ?_)
              obtain ⟨h8, h9⟩ := h9
              subst h8
              have h9 := h9.symm
              subst h9
              refine k_goto 73 dX9_behind_62 rfl ?_
              exact fin _ (by unfold a_behind; rw [e, e2, e3]; dsimp only; rw [if_pos (by omega)])
          | succ d ih =>
            intro i w2 hi hR hE
            obtain ⟨hOi, hGi⟩ := mns_ok o3 o1 (n := n) (by omega) i (by omega)
            obtain ⟨at2, s2, to2, q0, q5, u3, q2, u2⟩ := hR.ob
            refine k_iload 38 dX9_behind_36 rfl rfl ?_
            refine k_iload_n 39 dX9_behind_38 rfl rfl rfl ?_
            refine k_icmp_geN 53 42 dX9_behind_39 rfl rfl (by omega) (by omega) (fun c => ?_) (fun c => ?_)
            · omega
            · refine k_aload_n 43 dX9_behind_42 rfl rfl rfl ?_
              refine k_iconst (nI 1) 44 dX9_behind_43 rfl kc_1 ?_
              refine k_V1 (ci := 8) 47 dX9_behind_44 rfl vX9_behind_122 (by (repeat (refine Is.ne ?_ (by omega))); first | assumption | exact Is.up (by omega)) rfl rfl (Nat.le_of_ble_eq_true rfl) rfl ⟨Nat.le_of_ble_eq_true rfl, Nat.le_of_ble_eq_true rfl⟩ (c_X9_passes (pb := true) hR hOi o1 (by omega)) (fun r3 w3 x3 => ?_)
              obtain ⟨rfl, hR3, hE3⟩ := x3
              refine k_iinc _ _ 50 dX9_behind_47 rfl rfl (nI_inc _) (by decide) rfl rfl ?_
              refine k_goto 36 dX9_behind_50 rfl ?_
              exact ih (i + 1) w3 (by omega) hR3 (hE.tr hE3)
        exact loop n 0 w1 (by omega) hR1 hE1
      · rw [e3]
        refine k_if_neB 29 27 dX9_behind_24 rfl rfl (fun c9 => absurd c9 (by simp)) (fun c9 => ?_)
        exact bad (by unfold a_behind; rw [e, e2, e3])
    · rw [e2]
      refine k_if_eqB 27 18 dX9_behind_15 rfl rfl (fun c9 => ?_) (fun c9 => absurd c9 (by simp))
      exact bad (by unfold a_behind; rw [e, e2])
  · rw [e]
    refine k_if_eqB 27 10 dX9_behind_7 rfl rfl (fun c9 => ?_) (fun c9 => absurd c9 (by simp))
    exact bad (by unfold a_behind; rw [e])
theorem plc_w0 {n p k : Nat} {M : Mo} (h : mOK n M) (hp : p < n) (e : plc M p = some k) : mW M p = 0 := by
  have := h.w1 hp
  rw [e] at this
  exact of_decide_eq_true this.symm
theorem c_X9_served {G : KG} {N : Nat} {w : WD} {b : Nat} {x : Int32} {S : St} (h : RsM G N w b S (qM S) none) (hO : sOK S) : KCon G jX9_served N w [rf G b, .int x] (RpO G N w b (a_served S x)) := by
  obtain ⟨at_, s, to_, g0, g5, v3, g2, v2⟩ := h.ob
  obtain ⟨o1, o2, ⟨o3, o4⟩, o5, o6, -⟩ := hO
  have hn7 := o1.1
  have hL7 := ok_l7 o3
  refine KCon.of ([some (rf G b), some (.int x), none]) (by decide) rfl (by simp [Value.category]) (Nat.le_of_ble_eq_true rfl) rfl ?_
  refine k_aload_n 1 dX9_served_0 rfl rfl rfl ?_
  refine k_iload_n 2 dX9_served_1 rfl rfl rfl ?_
  refine k_V1 (ci := 8) 5 dX9_served_2 rfl vX9_served_102 (by (repeat (refine Is.ne ?_ (by omega))); first | assumption | exact Is.up (by omega)) rfl rfl (Nat.le_of_ble_eq_true rfl) rfl ⟨Nat.le_of_ble_eq_true rfl, Nat.le_of_ble_eq_true rfl⟩ (c_X9_isOne h o2 hn7) (fun r9 w9 h9 => ?_)
  obtain ⟨h8, h9⟩ := h9
  subst h8
  have h9 := h9.symm
  subst h9
  rcases prs_c hn7 x with ⟨p, hp, rfl, e⟩ | ⟨hno, e⟩
  · rw [e]
    refine k_if_neB 10 8 dX9_served_5 rfl rfl (fun c9 => ?_) (fun c9 => absurd c9 (by simp))
    refine k_aload_n 11 dX9_served_10 rfl rfl rfl ?_
    refine k_iload_n 12 dX9_served_11 rfl rfl rfl ?_
    refine k_V1 (ci := 8) 15 dX9_served_12 rfl vX9_served_105 (by (repeat (refine Is.ne ?_ (by omega))); first | assumption | exact Is.up (by omega)) rfl rfl (Nat.le_of_ble_eq_true rfl) rfl ⟨Nat.le_of_ble_eq_true rfl, Nat.le_of_ble_eq_true rfl⟩ (c_X9_pl h o3 hp) (fun r9 w9 h9 => ?_)
    obtain ⟨h8, h9⟩ := h9
    subst h8
    have h9 := h9.symm
    subst h9
    refine k_bipush (-4) 17 dX9_served_15 rfl kbm_4 ?_
    cases e1 : plc (qM S) p with
    | none =>
      have ea : a_served S (nI p) = (-2, S) := by
        unfold a_served
        rw [e]
        dsimp only
        rw [e1]
        rfl
      rw [ea]
      refine k_icmp_ne 23 20 dX9_served_17 rfl rfl (fun c => ?_) (fun c => ?_)
      · exact absurd rfl c
      · refine k_bipush (-2) 22 dX9_served_20 rfl kbm_2 ?_
        refine k_iret dX9_served_22 rfl rfl (Nat.le_of_ble_eq_true rfl) ⟨rfl, h, Eqx.rf⟩
    | some k =>
      obtain ⟨hk, hkp⟩ := plc_some e1
      have ea : a_served S (nI p) = (wI (wtn (qF S) (qM S) p), S) := by
        unfold a_served
        rw [e]
        dsimp only
        rw [e1]
        rfl
      rw [ea]
      refine k_icmp_ne 23 20 dX9_served_17 rfl rfl (fun c => ?_) (fun c => ?_)
      · refine k_aload_n 24 dX9_served_23 rfl rfl rfl ?_
        refine k_V0 (ci := 8) 27 dX9_served_24 rfl vX9_served_143 (by (repeat (refine Is.ne ?_ (by omega))); first | assumption | exact Is.up (by omega)) rfl rfl (Nat.le_of_ble_eq_true rfl) rfl ⟨Nat.le_of_ble_eq_true rfl, Nat.le_of_ble_eq_true rfl⟩ (c_X9_holds h hn7 hL7) (fun r1 w1 x1 => ?_)
        obtain ⟨rfl, hR1, hE1⟩ := x1
        obtain ⟨at1, s1, to1, q0, q5, u3, q2, u2⟩ := hR1.ob
        refine k_aload_n 28 dX9_served_27 rfl rfl rfl ?_
        refine k_iload_n 29 dX9_served_28 rfl rfl rfl ?_
        refine k_V1 (ci := 8) 32 dX9_served_29 rfl vX9_served_149 (by (repeat (refine Is.ne ?_ (by omega))); first | assumption | exact Is.up (by omega)) rfl rfl (Nat.le_of_ble_eq_true rfl) rfl ⟨Nat.le_of_ble_eq_true rfl, Nat.le_of_ble_eq_true rfl⟩ (c_X9_servedIn hR1 o3 o1 (by omega) hp (plc_w0 o3 hp e1)) (fun r2 w2 x2 => ?_)
        obtain ⟨rfl, ⟨M1, hR2⟩, hE2⟩ := x2
        obtain ⟨at2, s2, to2, j0, j5, t3, j2, t2⟩ := hR2.ob
        refine k_istore_n _ 33 dX9_served_32 rfl rfl (by decide) rfl rfl ?_
        refine k_aload_n 34 dX9_served_33 rfl rfl rfl ?_
        refine k_V0 (ci := 8) 37 dX9_served_34 rfl vX9_served_146 (by (repeat (refine Is.ne ?_ (by omega))); first | assumption | exact Is.up (by omega)) rfl rfl (Nat.le_of_ble_eq_true rfl) rfl ⟨Nat.le_of_ble_eq_true rfl, Nat.le_of_ble_eq_true rfl⟩ (c_X9_backs hR2 hn7 hL7) (fun r3 w3 x3 => ?_)
        obtain ⟨rfl, hR3, hE3⟩ := x3
        refine k_iload_n 38 dX9_served_37 rfl rfl rfl ?_
        refine k_iret dX9_served_38 rfl rfl (Nat.le_of_ble_eq_true rfl) ⟨rfl, hR3.drop, (hE1.tr hE2).tr hE3⟩
      · exact absurd (Classical.not_not.mp c) (pI_some (by omega))
  · rw [e]
    have ea : a_served S x = (-1, S) := by
      unfold a_served
      rw [e]
    rw [ea]
    refine k_if_neB 10 8 dX9_served_5 rfl rfl (fun c9 => absurd c9 (by simp)) (fun c9 => ?_)
    refine k_iconst (-1) 9 dX9_served_8 rfl km_1 ?_
    refine k_iret dX9_served_9 rfl rfl (Nat.le_of_ble_eq_true rfl) ⟨rfl, h, Eqx.rf⟩
/-- the best so far, as two numbers -/
def bsI (o : Option (Nat × Int)) : Int32 := match o with
  | none => -4
  | some (k, _) => nI k
def bsJ (o : Option (Nat × Int)) : Int := match o with
  | none => -4
  | some (_, v) => 200000 + v
theorem mns_W1 {F : Fo} {M : Mo} {p : Nat} {i : Nat} (h : mW (mns F M i) p = 1) : mW (mns F M (i + 1)) p = 1 := by
  rcases mnt_W F true (mns F M i) p with e | e
  · exact e.trans h
  · exact e
theorem c_X9_stand {G : KG} {N : Nat} {w : WD} {b : Nat} {x y z : Int32} {S : St} (h : RsM G N w b S (qM S) none) (hO : sOK S) : KCon G jX9_stand N w [rf G b, .int x, .int y, .int z] (RpO G N w b (a_stand S x y z)) := by
  obtain ⟨at_, s, to_, g0, g5, v3, g2, v2⟩ := h.ob
  obtain ⟨o1, o2, ⟨o3, o4⟩, o5, o6, -⟩ := hO
  have hn7 := o1.1
  have hL7 := ok_l7 o3
  refine KCon.of ([some (rf G b), some (.int x), some (.int y), some (.int z), none, none, none, none, none, none]) (by decide) rfl (by simp [Value.category]) (Nat.le_of_ble_eq_true rfl) rfl ?_
  have bad : a_stand S x y z = (-1, S) → KRun G jX9_stand N (RpO G N w b (a_stand S x y z)) 27 [some (rf G b), some (.int x), some (.int y), some (.int z), none, none, none, none, none, none] [] 0 0 w := by
    intro ea
    rw [ea]
    refine k_iconst (-1) 28 dX9_stand_27 rfl km_1 ?_
    refine k_iret dX9_stand_28 rfl rfl (Nat.le_of_ble_eq_true rfl) ⟨rfl, h, Eqx.rf⟩
  refine k_aload_n 1 dX9_stand_0 rfl rfl rfl ?_
  refine k_iload_n 2 dX9_stand_1 rfl rfl rfl ?_
  refine k_V1 (ci := 8) 5 dX9_stand_2 rfl vX9_stand_102 (by (repeat (refine Is.ne ?_ (by omega))); first | assumption | exact Is.up (by omega)) rfl rfl (Nat.le_of_ble_eq_true rfl) rfl ⟨Nat.le_of_ble_eq_true rfl, Nat.le_of_ble_eq_true rfl⟩ (c_X9_isOne h o2 hn7) (fun r9 w9 h9 => ?_)
  obtain ⟨h8, h9⟩ := h9
  subst h8
  have h9 := h9.symm
  subst h9
  rcases prs_c hn7 x with ⟨p, hp, rfl, e⟩ | ⟨hno, e⟩
  · rw [e]
    refine k_if_eqB 27 8 dX9_stand_5 rfl rfl (fun c9 => absurd c9 (by simp)) (fun c9 => ?_)
    refine k_iload_n 9 dX9_stand_8 rfl rfl rfl ?_
    refine k_iconst (nI 1) 10 dX9_stand_9 rfl kc_1 ?_
    refine k_bipush (nI 40) 12 dX9_stand_10 rfl kb_40 ?_
    refine k_S3 15 dX9_stand_12 rfl vX9_stand_56 (Nat.le_of_ble_eq_true rfl) rfl ⟨Nat.le_of_ble_eq_true rfl, Nat.le_of_ble_eq_true rfl⟩ (c_X9_inN (by omega) (by omega)) (fun r9 w9 h9 => ?_)
    obtain ⟨h8, h9⟩ := h9
    subst h8
    have h9 := h9.symm
    subst h9
    rcases rgn_c 1 40 y with ⟨n, n1, n2, rfl, e2⟩ | ⟨hy, e2⟩
    · rw [e2]
      refine k_if_eqB 27 18 dX9_stand_15 rfl rfl (fun c9 => absurd c9 (by simp)) (fun c9 => ?_)
      refine k_iload_n 19 dX9_stand_18 rfl rfl rfl ?_
      refine k_iconst (nI 0) 20 dX9_stand_19 rfl kc_0 ?_
      refine k_iconst (nI 1) 21 dX9_stand_20 rfl kc_1 ?_
      refine k_S3 24 dX9_stand_21 rfl vX9_stand_56 (Nat.le_of_ble_eq_true rfl) rfl ⟨Nat.le_of_ble_eq_true rfl, Nat.le_of_ble_eq_true rfl⟩ (c_X9_inN (by omega) (by omega)) (fun r9 w9 h9 => ?_)
      obtain ⟨h8, h9⟩ := h9
      subst h8
      have h9 := h9.symm
      subst h9
      rcases rgn_c 0 1 z with ⟨u, w1', w2', rfl, e3⟩ | ⟨hz, e3⟩
      · rw [e3]
        refine k_if_neB 29 27 dX9_stand_24 rfl rfl (fun c9 => ?_) (fun c9 => absurd c9 (by simp))
        refine k_aload_n 30 dX9_stand_29 rfl rfl rfl ?_
        refine k_iload_n 31 dX9_stand_30 rfl rfl rfl ?_
        refine k_V1 (ci := 8) 34 dX9_stand_31 rfl vX9_stand_105 (by (repeat (refine Is.ne ?_ (by omega))); first | assumption | exact Is.up (by omega)) rfl rfl (Nat.le_of_ble_eq_true rfl) rfl ⟨Nat.le_of_ble_eq_true rfl, Nat.le_of_ble_eq_true rfl⟩ (c_X9_pl h o3 hp) (fun r9 w9 h9 => ?_)
        obtain ⟨h8, h9⟩ := h9
        subst h8
        have h9 := h9.symm
        subst h9
        refine k_bipush (-4) 36 dX9_stand_34 rfl kbm_4 ?_
        cases e1 : plc (qM S) p with
        | none =>
          have ea : a_stand S (nI p) (nI n) (nI u) = (-2, S) := by
            unfold a_stand
            rw [e, e2, e3]
            dsimp only
            rw [e1]
            rfl
          rw [ea]
          refine k_icmp_ne 42 39 dX9_stand_36 rfl rfl (fun c => ?_) (fun c => ?_)
          · exact absurd rfl c
          · refine k_bipush (-2) 41 dX9_stand_39 rfl kbm_2 ?_
            refine k_iret dX9_stand_41 rfl rfl (Nat.le_of_ble_eq_true rfl) ⟨rfl, h, Eqx.rf⟩
        | some j =>
          obtain ⟨hj, hjp⟩ := plc_some e1
          have ea : a_stand S (nI p) (nI n) (nI u) = ((match std (qF S) (qM S) p n (mL (qM S)) with
    | none => -4
    | some (k, v) => if u = 0 then nI k else iZ (200000 + v)), S) := by
            unfold a_stand
            rw [e, e2, e3]
            dsimp only
            rw [e1, if_pos (show (some j : Option Nat).isSome = true from rfl)] <;> rfl
          rw [ea]
          clear ea bad
          refine k_icmp_ne 42 39 dX9_stand_36 rfl rfl (fun c => ?_) (fun c => ?_)
          rotate_left
          · exact absurd (Classical.not_not.mp c) (pI_some (by omega))
          refine k_aload_n 43 dX9_stand_42 rfl rfl rfl ?_
          refine k_V0 (ci := 8) 46 dX9_stand_43 rfl vX9_stand_143 (by (repeat (refine Is.ne ?_ (by omega))); first | assumption | exact Is.up (by omega)) rfl rfl (Nat.le_of_ble_eq_true rfl) rfl ⟨Nat.le_of_ble_eq_true rfl, Nat.le_of_ble_eq_true rfl⟩ (c_X9_holds h hn7 hL7) (fun r1 w1 x1 => ?_)
          obtain ⟨rfl, hR1, hE1⟩ := x1
          obtain ⟨at1, s1, to1, q0, q5, u3, q2, u2⟩ := hR1.ob
          refine k_bipush (-4) 48 dX9_stand_46 rfl kbm_4 ?_
          refine k_istore _ 50 dX9_stand_48 rfl (by decide) rfl rfl ?_
          refine k_bipush (-4) 52 dX9_stand_50 rfl kbm_4 ?_
          refine k_istore _ 54 dX9_stand_52 rfl (by decide) rfl rfl ?_
          refine k_aload_n 55 dX9_stand_54 rfl rfl rfl ?_
          refine k_get 58 dX9_stand_55 rfl fX9_stand_22 (by (repeat (refine Is.ne ?_ (by omega))); first | assumption | exact Is.up (by omega)) (by rfl) ?_
          refine k_iconst (nI 1) 59 dX9_stand_58 rfl kc_1 ?_
          refine k_ialdN 60 dX9_stand_59 rfl (by (repeat (refine Is.ne ?_ (by omega))); first | assumption | exact Is.up (by omega)) (by omega) (by omega) ?_
          rw [u3.2.1]
          refine k_istore _ 62 dX9_stand_60 rfl (by decide) rfl rfl ?_
          refine k_iconst (nI 0) 63 dX9_stand_62 rfl kc_0 ?_
          refine k_istore _ 65 dX9_stand_63 rfl (by decide) rfl rfl ?_
          generalize hPost : (RpO G N w b ((match std (qF S) (qM S) p n (mL (qM S)) with
    | none => (-4 : Int32)
    | some (k, v) => if u = 0 then nI k else iZ (200000 + v)), S)) = Post
          have loop : ∀ d k (w2 : WD), k + d = mL (qM S) → RsM G N w2 b S (qM S) (some (qM S)) → Eqx w w2 b (b + 12) → (∀ q, std (qF S) (qM S) p n k = some q → -199999 ≤ q.2 ∧ q.2 ≤ 200000) → KRun G jX9_stand N Post 65 [some (rf G b), some (.int (nI p)), some (.int (nI n)), some (.int (nI u)), some (.int (iZ (bsJ (std (qF S) (qM S) p n k)))), some (.int (bsI (std (qF S) (qM S) p n k))), some (.int (nI (mL (qM S)))), some (.int (nI k)), none, none] [] 0 0 w2 := by
            intro d
            induction d with
            | zero =>
              intro k w2 hk hR hE hb
              have hI : k = mL (qM S) := by omega
              subst hI
              rw [← hPost]
              refine k_iload 67 dX9_stand_65 rfl rfl ?_
              refine k_iload 69 dX9_stand_67 rfl rfl ?_
              refine k_icmp_geN 199 72 dX9_stand_69 rfl rfl (by omega) (by omega) (fun c => ?_) (fun c => ?_)
              rotate_left
              · omega
              refine k_iload_n 200 dX9_stand_199 rfl rfl rfl ?_
              refine k_if_neN 208 203 dX9_stand_200 rfl rfl (by omega) (fun c => ?_) (fun c => ?_)
              · refine k_iload 210 dX9_stand_208 rfl rfl ?_
                refine k_iret dX9_stand_210 rfl rfl (Nat.le_of_ble_eq_true rfl) ⟨?_, hR.drop, hE⟩
                cases std (qF S) (qM S) p n (mL (qM S)) with
                | none => rfl
                | some q =>
                  obtain ⟨q1, q2⟩ := q
                  dsimp only [bsJ]
                  rw [if_neg (by omega)]
              · refine k_iload 205 dX9_stand_203 rfl rfl ?_
                refine k_goto 210 dX9_stand_205 rfl ?_
                refine k_iret dX9_stand_210 rfl rfl (Nat.le_of_ble_eq_true rfl) ⟨?_, hR.drop, hE⟩
                cases std (qF S) (qM S) p n (mL (qM S)) with
                | none => rfl
                | some q =>
                  obtain ⟨q1, q2⟩ := q
                  dsimp only [bsI]
                  rw [if_pos (by omega)]
            | succ d ih =>
              intro k w2 hk hR hE hb
              have hrm := ok_rem o3 (k := j) (st := 2) hj (by omega) (by omega)
              have hno := rem_no o3 (st := 2) hj
              rw [hjp] at hno
              have hOi : mOK (oN (qF S)) (ins (rem (qM S) j 2) p k) := ok_ins hrm hp hno (by show k ≤ mL (qM S) - 1; omega)
              have hst : ∀ m, stM (qF S) (qM S) p k m = mns (qF S) (ins (rem (qM S) j 2) p k) m := by
                intro m
                unfold stM
                rw [e1]
              obtain ⟨at2, s2, to2, j0, j5, t3, j2, t2⟩ := hR.ob
              refine k_iload 67 dX9_stand_65 rfl rfl ?_
              refine k_iload 69 dX9_stand_67 rfl rfl ?_
              refine k_icmp_geN 199 72 dX9_stand_69 rfl rfl (by omega) (by omega) (fun c => ?_) (fun c => ?_)
              · omega
              refine k_aload_n 73 dX9_stand_72 rfl rfl rfl ?_
              refine k_aload_n 74 dX9_stand_73 rfl rfl rfl ?_
              refine k_iload_n 75 dX9_stand_74 rfl rfl rfl ?_
              refine k_V1 (ci := 8) 78 dX9_stand_75 rfl vX9_stand_105 (by (repeat (refine Is.ne ?_ (by omega))); first | assumption | exact Is.up (by omega)) rfl rfl (Nat.le_of_ble_eq_true rfl) rfl ⟨Nat.le_of_ble_eq_true rfl, Nat.le_of_ble_eq_true rfl⟩ (c_X9_pl hR o3 hp) (fun r9 w9 h9 => ?_)
              obtain ⟨h8, h9⟩ := h9
              subst h8
              have h9 := h9.symm
              subst h9
              rw [e1]
              refine k_tp (.int (nI j)) rfl ?_
              refine k_iconst (nI 0) 79 dX9_stand_78 rfl kc_0 ?_
              refine k_V2 (ci := 8) 82 dX9_stand_79 rfl vX9_stand_115 (by (repeat (refine Is.ne ?_ (by omega))); first | assumption | exact Is.up (by omega)) rfl rfl (Nat.le_of_ble_eq_true rfl) rfl ⟨Nat.le_of_ble_eq_true rfl, Nat.le_of_ble_eq_true rfl⟩ (c_X9_goes (st := 0) hR o3.p hj) (fun r3 w3 x3 => ?_)
              obtain ⟨rfl, hR3, hE3⟩ := x3
              obtain ⟨at3, s3, to3, j30, j35, t33, j32, t32⟩ := hR3.ob
              refine k_aload_n 83 dX9_stand_82 rfl rfl rfl ?_
              refine k_iload_n 84 dX9_stand_83 rfl rfl rfl ?_
              refine k_iload 86 dX9_stand_84 rfl rfl ?_
              refine k_V2 (ci := 8) 89 dX9_stand_86 rfl vX9_stand_126 (by (repeat (refine Is.ne ?_ (by omega))); first | assumption | exact Is.up (by omega)) rfl rfl (Nat.le_of_ble_eq_true rfl) rfl ⟨Nat.le_of_ble_eq_true rfl, Nat.le_of_ble_eq_true rfl⟩ (c_X9_comes hR3 hn7 (show mL (qM S) - 1 < 7 by omega) hp (show k ≤ mL (qM S) - 1 by omega)) (fun r4 w4 x4 => ?_)
              obtain ⟨rfl, hR4, hE4⟩ := x4
              rw [ins_rem (v := 2) hjp] at hR4
              have hw0 : mW (ins (rem (qM S) j 2) p k) p = 0 := by
                show sf _ p 0 p = 0
                rw [sf_s]
              generalize hMk : ins (rem (qM S) j 2) p k = Mk at *
              have hGk : mG Mk = mG (qM S) := by
                rw [← hMk]
                rfl
              refine k_iconst (nI 0) 90 dX9_stand_89 rfl kc_0 ?_
              refine k_istore _ 92 dX9_stand_90 rfl (by decide) rfl rfl ?_
              refine k_iconst (nI 0) 93 dX9_stand_92 rfl kc_0 ?_
              refine k_istore _ 95 dX9_stand_93 rfl (by decide) rfl rfl ?_
              have il : ∀ d2 m (w5 : WD), m + d2 = n → RsM G N w5 b S (mns (qF S) Mk m) (some (qM S)) → Eqx w w5 b (b + 12) → KRun G jX9_stand N Post 95 [some (rf G b), some (.int (nI p)), some (.int (nI n)), some (.int (nI u)), some (.int (iZ (bsJ (std (qF S) (qM S) p n k)))), some (.int (bsI (std (qF S) (qM S) p n k))), some (.int (nI (mL (qM S)))), some (.int (nI k)), some (.int (bI (decide (mW (mns (qF S) Mk m) p = 1)))), some (.int (nI m))] [] 0 0 w5 := by
                intro d2
                induction d2 with
                | zero =>
                  intro m w5 hm hR5 hE5
                  have hI : m = n := by omega
                  subst hI
                  obtain ⟨hOm, hGm⟩ := mns_ok hOi o1 (n := m) (by omega) m (by omega)
                  have hdb := due_b (M := mns (qF S) Mk m) (p := p) (by omega)
                  have hob := hOm.2.2.2.2.2.1
                  obtain ⟨at5, s5, to5, j50, j55, t53, j52, t52⟩ := hR5.ob
                  have fin : ∀ L8 L9 : Option Value, KRun G jX9_stand N Post 189 [some (rf G b), some (.int (nI p)), some (.int (nI m)), some (.int (nI u)), some (.int (iZ (bsJ (std (qF S) (qM S) p m (k + 1))))), some (.int (bsI (std (qF S) (qM S) p m (k + 1)))), some (.int (nI (mL (qM S)))), some (.int (nI k)), L8, L9] [] 0 0 w5 := by
                    intro L8 L9
                    refine k_aload_n 190 dX9_stand_189 rfl rfl rfl ?_
                    refine k_V0 (ci := 8) 193 dX9_stand_190 rfl vX9_stand_146 (by (repeat (refine Is.ne ?_ (by omega))); first | assumption | exact Is.up (by omega)) rfl rfl (Nat.le_of_ble_eq_true rfl) rfl ⟨Nat.le_of_ble_eq_true rfl, Nat.le_of_ble_eq_true rfl⟩ (c_X9_backs hR5 hn7 hL7) (fun r6 w6 x6 => ?_)
                    obtain ⟨rfl, hR6, hE6⟩ := x6
                    refine k_iinc _ _ 196 dX9_stand_193 rfl rfl (nI_inc _) (by decide) rfl rfl ?_
                    refine k_goto 65 dX9_stand_196 rfl ?_
                    refine k_loc [some (rf G b), some (.int (nI p)), some (.int (nI m)), some (.int (nI u)), some (.int (iZ (bsJ (std (qF S) (qM S) p m (k + 1))))), some (.int (bsI (std (qF S) (qM S) p m (k + 1)))), some (.int (nI (mL (qM S)))), some (.int (nI (k + 1))), none, none] ⟨rfl, rfl, rfl, rfl, rfl, rfl, rfl, rfl, trivial⟩ rfl ?_
                    refine ih (k + 1) w6 (by omega) hR6 (hE5.tr hE6) ?_
                    intro q hq
                    simp only [std] at hq
                    rw [hst] at hq
                    by_cases c : mW (mns (qF S) Mk m) p = 1
                    · rw [if_pos c] at hq
                      cases e5 : std (qF S) (qM S) p m k with
                      | none =>
                        rw [e5] at hq
                        simp only [bst, Option.some.injEq] at hq
                        subst hq
                        dsimp only
                        omega
                      | some q0 =>
                        have h0 := hb q0 e5
                        rw [e5] at hq
                        obtain ⟨q01, q02⟩ := q0
                        simp only [bst] at hq
                        split at hq
                        · simp only [Option.some.injEq] at hq
                          subst hq
                          dsimp only
                          omega
                        · simp only [Option.some.injEq] at hq
                          subst hq
                          exact h0
                    · rw [if_neg c] at hq
                      exact hb q hq
                  refine k_iload 97 dX9_stand_95 rfl rfl ?_
                  refine k_iload_n 98 dX9_stand_97 rfl rfl rfl ?_
                  refine k_icmp_geN 137 101 dX9_stand_98 rfl rfl (by omega) (by omega) (fun c => ?_) (fun c => ?_)
                  rotate_left
                  · omega
                  refine k_aload_n 138 dX9_stand_137 rfl rfl rfl ?_
                  refine k_iload_n 139 dX9_stand_138 rfl rfl rfl ?_
                  refine k_V1 (ci := 8) 142 dX9_stand_139 rfl vX9_stand_108 (by (repeat (refine Is.ne ?_ (by omega))); first | assumption | exact Is.up (by omega)) rfl rfl (Nat.le_of_ble_eq_true rfl) rfl ⟨Nat.le_of_ble_eq_true rfl, Nat.le_of_ble_eq_true rfl⟩ (c_X9_due hR5 (by omega)) (fun r9 w9 h9 => ?_)
                  obtain ⟨h8, h9⟩ := h9
                  subst h8
                  have h9 := h9.symm
                  subst h9
                  refine k_ldc ((iZ 200000)) 144 dX9_stand_142 rfl (by decide +kernel) ?_
                  refine k_iaddE _ 145 dX9_stand_144 rfl (iZ_add _ _) ?_
                  refine k_istore _ 147 dX9_stand_145 rfl (by decide) rfl rfl ?_
                  refine k_iload 149 dX9_stand_147 rfl rfl ?_
                  by_cases c : mW (mns (qF S) Mk m) p = 1
                  · rw [decide_eq_true c]
                    refine k_if_eqB (b := true) 164 152 dX9_stand_149 rfl rfl (fun c9 => absurd c9 (by simp)) (fun c9 => ?_)
                    have hgt : (iZ (due (mns (qF S) Mk m) p + 200000) ≤ iZ (bsJ (std (qF S) (qM S) p m k)) ↔ due (mns (qF S) Mk m) p + 200000 ≤ bsJ (std (qF S) (qM S) p m k)) := by
                      refine iZ_le (by omega) (by omega) ?_ ?_
                      · cases e5 : std (qF S) (qM S) p m k with
                        | none => decide
                        | some q0 =>
                          have := hb q0 e5
                          show -2147483648 ≤ 200000 + q0.2
                          omega
                      · cases e5 : std (qF S) (qM S) p m k with
                        | none => decide
                        | some q0 =>
                          have := hb q0 e5
                          show 200000 + q0.2 < 2147483648
                          omega
                    have hstd : std (qF S) (qM S) p m (k + 1) = bst (std (qF S) (qM S) p m k) k (due (mns (qF S) Mk m) p) := by
                      simp only [std]
                      rw [hst, if_pos c]
                    refine k_iload 154 dX9_stand_152 rfl rfl ?_
                    refine k_iload 156 dX9_stand_154 rfl rfl ?_
                    refine k_icmp_le 164 159 dX9_stand_156 rfl rfl (fun c => ?_) (fun c => ?_)
                    · have c2 := c
                      have c3 := hgt.mp c2
                      have es : std (qF S) (qM S) p m (k + 1) = std (qF S) (qM S) p m k := by
                        rw [hstd]
                        cases e5 : std (qF S) (qM S) p m k with
                        | none =>
                          rw [e5] at c3
                          simp only [bsJ] at c3
                          omega
                        | some q0 =>
                          obtain ⟨q01, q02⟩ := q0
                          rw [e5] at c3
                          simp only [bsJ] at c3
                          simp only [bst]
                          rw [if_neg (by omega)]
                      rw [es] at fin
                      refine k_iload 166 dX9_stand_164 rfl rfl ?_
                      refine k_istore _ 168 dX9_stand_166 rfl (by decide) rfl rfl ?_
                      refine k_iload 170 dX9_stand_168 rfl rfl ?_
                      refine k_if_eqB (b := true) 185 173 dX9_stand_170 rfl rfl (fun c9 => absurd c9 (by simp)) (fun c9 => ?_)
                      refine k_iload 175 dX9_stand_173 rfl rfl ?_
                      refine k_iload 177 dX9_stand_175 rfl rfl ?_
                      refine k_icmp_le 185 180 dX9_stand_177 rfl rfl (fun c => ?_) (fun c => ?_)
                      · refine k_iload 187 dX9_stand_185 rfl rfl ?_
                        refine k_istore _ 189 dX9_stand_187 rfl (by decide) rfl rfl ?_
                        exact fin _ _
                      · have c4 := c
                        exact absurd c2 c4
                    · have c2 := c
                      have c3 : ¬ due (mns (qF S) Mk m) p + 200000 ≤ bsJ (std (qF S) (qM S) p m k) := fun z => c2 (hgt.mpr z)
                      have es : bsI (std (qF S) (qM S) p m (k + 1)) = nI k ∧ bsJ (std (qF S) (qM S) p m (k + 1)) = due (mns (qF S) Mk m) p + 200000 := by
                        rw [hstd]
                        cases e5 : std (qF S) (qM S) p m k with
                        | none =>
                          exact ⟨rfl, by simp only [bst, bsJ]; omega⟩
                        | some q0 =>
                          obtain ⟨q01, q02⟩ := q0
                          rw [e5] at c3
                          simp only [bsJ] at c3
                          simp only [bst]
                          rw [if_pos (by omega)]
                          exact ⟨rfl, by simp only [bsJ]; omega⟩
                      rw [es.1, es.2] at fin
                      refine k_iload 161 dX9_stand_159 rfl rfl ?_
                      refine k_goto 166 dX9_stand_161 rfl ?_
                      refine k_istore _ 168 dX9_stand_166 rfl (by decide) rfl rfl ?_
                      refine k_iload 170 dX9_stand_168 rfl rfl ?_
                      refine k_if_eqB (b := true) 185 173 dX9_stand_170 rfl rfl (fun c9 => absurd c9 (by simp)) (fun c9 => ?_)
                      refine k_iload 175 dX9_stand_173 rfl rfl ?_
                      refine k_iload 177 dX9_stand_175 rfl rfl ?_
                      refine k_icmp_le 185 180 dX9_stand_177 rfl rfl (fun c => ?_) (fun c => ?_)
                      · have c4 := c
                        exact absurd c4 c2
                      · refine k_iload 182 dX9_stand_180 rfl rfl ?_
                        refine k_goto 187 dX9_stand_182 rfl ?_
                        refine k_istore _ 189 dX9_stand_187 rfl (by decide) rfl rfl ?_
                        exact fin _ _
                  · rw [decide_eq_false c]
                    have es : std (qF S) (qM S) p m (k + 1) = std (qF S) (qM S) p m k := by
                      simp only [std]
                      rw [hst, if_neg c]
                    rw [es] at fin
                    refine k_if_eqB (b := false) 164 152 dX9_stand_149 rfl rfl (fun c9 => ?_) (fun c9 => absurd c9 (by simp))
                    refine k_iload 166 dX9_stand_164 rfl rfl ?_
                    refine k_istore _ 168 dX9_stand_166 rfl (by decide) rfl rfl ?_
                    refine k_iload 170 dX9_stand_168 rfl rfl ?_
                    refine k_if_eqB (b := false) 185 173 dX9_stand_170 rfl rfl (fun c9 => ?_) (fun c9 => absurd c9 (by simp))
                    refine k_iload 187 dX9_stand_185 rfl rfl ?_
                    refine k_istore _ 189 dX9_stand_187 rfl (by decide) rfl rfl ?_
                    exact fin _ _
                | succ d2 ih2 =>
                  intro m w5 hm hR5 hE5
                  obtain ⟨hOm, hGm⟩ := mns_ok hOi o1 (n := n) (by omega) m (by omega)
                  obtain ⟨at5, s5, to5, j50, j55, t53, j52, t52⟩ := hR5.ob
                  refine k_iload 97 dX9_stand_95 rfl rfl ?_
                  refine k_iload_n 98 dX9_stand_97 rfl rfl rfl ?_
                  refine k_icmp_geN 137 101 dX9_stand_98 rfl rfl (by omega) (by omega) (fun c => ?_) (fun c => ?_)
                  · omega
                  refine k_aload_n 102 dX9_stand_101 rfl rfl rfl ?_
                  refine k_iconst (nI 1) 103 dX9_stand_102 rfl kc_1 ?_
                  refine k_V1 (ci := 8) 106 dX9_stand_103 rfl vX9_stand_122 (by (repeat (refine Is.ne ?_ (by omega))); first | assumption | exact Is.up (by omega)) rfl rfl (Nat.le_of_ble_eq_true rfl) rfl ⟨Nat.le_of_ble_eq_true rfl, Nat.le_of_ble_eq_true rfl⟩ (c_X9_passes (pb := true) hR5 hOm o1 (by omega)) (fun r6 w6 x6 => ?_)
                  obtain ⟨rfl, hR6, hE6⟩ := x6
                  have hR7 : RsM G N w6 b S (mns (qF S) Mk (m + 1)) (some (qM S)) := hR6
                  obtain ⟨at6, s6, to6, j60, j65, t63, j62, t62⟩ := hR7.ob
                  have nx : ∀ bb : Bool, bb = decide (mW (mns (qF S) Mk (m + 1)) p = 1) → KRun G jX9_stand N Post 129 [some (rf G b), some (.int (nI p)), some (.int (nI n)), some (.int (nI u)), some (.int (iZ (bsJ (std (qF S) (qM S) p n k)))), some (.int (bsI (std (qF S) (qM S) p n k))), some (.int (nI (mL (qM S)))), some (.int (nI k)), some (.int (bI (decide (mW (mns (qF S) Mk m) p = 1)))), some (.int (nI m))] [.int (bI bb)] 0 0 w6 := by
                    intro bb hbb
                    rw [hbb]
                    refine k_istore _ 131 dX9_stand_129 rfl (by decide) rfl rfl ?_
                    refine k_iinc _ _ 134 dX9_stand_131 rfl rfl (nI_inc _) (by decide) rfl rfl ?_
                    refine k_goto 95 dX9_stand_134 rfl ?_
                    exact ih2 (m + 1) w6 (by omega) hR7 (hE5.tr hE6)
                  refine k_iload 108 dX9_stand_106 rfl rfl ?_
                  by_cases c : mW (mns (qF S) Mk m) p = 1
                  · rw [decide_eq_true c] at nx ⊢
                    refine k_if_neB (b := true) 124 111 dX9_stand_108 rfl rfl (fun c9 => ?_) (fun c9 => absurd c9 (by simp))
                    refine k_iconst (nI 1) 125 dX9_stand_124 rfl kc_1 ?_
                    refine k_goto 129 dX9_stand_125 rfl ?_
                    exact nx true (by rw [decide_eq_true (mns_W1 c)])
                  · rw [decide_eq_false c] at nx ⊢
                    refine k_if_neB (b := false) 124 111 dX9_stand_108 rfl rfl (fun c9 => absurd c9 (by simp)) (fun c9 => ?_)
                    refine k_aload_n 112 dX9_stand_111 rfl rfl rfl ?_
                    refine k_get 115 dX9_stand_112 rfl fX9_stand_22 (by (repeat (refine Is.ne ?_ (by omega))); first | assumption | exact Is.up (by omega)) (by rfl) ?_
                    refine k_bipush (nI 9) 117 dX9_stand_115 rfl kb_9 ?_
                    refine k_iload_n 118 dX9_stand_117 rfl rfl rfl ?_
                    first | refine k_iaddE _ 119 dX9_stand_118 rfl (nI_add _ _) ?_ | refine k_iadd 119 dX9_stand_118 rfl ?_
                    refine k_ialdN 120 dX9_stand_119 rfl (by (repeat (refine Is.ne ?_ (by omega))); first | assumption | exact Is.up (by omega)) (by omega) (by omega) ?_
                    rw [(t63.2.2.2.1 p hp).1]
                    have hw2 : mW (mns (qF S) Mk (m + 1)) p < 2 := by
                      rcases mns_W (qF S) Mk p (m + 1) hw0 with q | q <;> omega
                    refine k_iconst (nI 1) 121 dX9_stand_120 rfl kc_1 ?_
                    refine k_icmp_neN 128 124 dX9_stand_121 rfl rfl (by omega) (by omega) (fun c => ?_) (fun c => ?_)
                    · refine k_iconst (nI 0) 129 dX9_stand_128 rfl kc_0 ?_
                      exact nx false (by rw [decide_eq_false (by assumption)])
                    · refine k_iconst (nI 1) 125 dX9_stand_124 rfl kc_1 ?_
                      refine k_goto 129 dX9_stand_125 rfl ?_
                      exact nx true (by rw [decide_eq_true (by assumption)])
              refine k_loc [some (rf G b), some (.int (nI p)), some (.int (nI n)), some (.int (nI u)), some (.int (iZ (bsJ (std (qF S) (qM S) p n k)))), some (.int (bsI (std (qF S) (qM S) p n k))), some (.int (nI (mL (qM S)))), some (.int (nI k)), some (.int (bI (decide (mW (mns (qF S) Mk 0) p = 1)))), some (.int (nI 0))] ?_ rfl ?_
              · rw [decide_eq_false (show ¬ mW (mns (qF S) Mk 0) p = 1 by show ¬ mW Mk p = 1; omega)]
                exact ⟨rfl, rfl, rfl, rfl, rfl, rfl, rfl, rfl, rfl, rfl, trivial⟩
              · exact il n 0 w4 (by omega) hR4 (((hE.tr hE3)).tr hE4)
          refine loop (mL (qM S)) 0 w1 (by omega) hR1 hE1 (fun q hq => by cases hq)
      · rw [e3]
        refine k_if_neB 29 27 dX9_stand_24 rfl rfl (fun c9 => absurd c9 (by simp)) (fun c9 => ?_)
        exact bad (by unfold a_stand; rw [e, e2, e3])
    · rw [e2]
      refine k_if_eqB 27 18 dX9_stand_15 rfl rfl (fun c9 => ?_) (fun c9 => absurd c9 (by simp))
      exact bad (by unfold a_stand; rw [e, e2])
  · rw [e]
    refine k_if_eqB 27 8 dX9_stand_5 rfl rfl (fun c9 => ?_) (fun c9 => absurd c9 (by simp))
    exact bad (by unfold a_stand; rw [e])
