/-! KerbQueueModel: acts, shelves -/
theorem RsM.st {G : KG} {N : Nat} {w : WD} {b : Nat} {S S' : St} {M : Mo} {oA : Option Mo} (h : RsM G N w b S M oA) (e1 : qF S' = qF S) (e2 : qP S' = qP S) (e3 : qK S' = qK S) (e4 : qm S' = qm S) (e5 : qN S' = qN S) (e6 : qt S' = qt S) (e7 : qT S' = qT S) : RsM G N w b S' M oA := by
  unfold RsM RsV at *
  rw [e1, e2, e3, e4, e5, e6, e7]
  exact h
theorem RsM.ob {G : KG} {N : Nat} {w : WD} {b : Nat} {S : St} {M : Mo} {oA : Option Mo} (h : RsM G N w b S M oA) : ∃ (at_ : Value) (s to_ : Nat → Int32), Is N w b (ob 8 [rf G (b + 1), .int (nI (qt S)), rf G (b + 2), rf G (b + 3), rf G (b + 4), rf G (b + 5), rf G (b + 6), .int (nI (qP S).length), rf G (b + 7), .int (nI (qK S).length), rf G (b + 8), .int (nI (qm S)), at_, rf G (b + 9), rf G (b + 10), rf G (b + 11), rf G (b + 12)]) ∧ Is N w (b + 5) (ia G 72 s) ∧ V72 s (oN (qF S)) M ∧ Is N w (b + 2) (ia G 23 to_) ∧ V23 to_ (qF S) := by
  obtain ⟨at_, tx, to_, dr, be, s, pa, im, nt, ah, sd, gr, ro, ⟨g0, g1, g2, g3, g4, g5, g6, g7, g8, g9, g10, g11, g12⟩, v1, v2, v3, v4, v5, v6, v7, v8⟩ := h
  exact ⟨_, s, to_, g0, g5, v3, g2, v2⟩
/-- minutes that go by, in a loop whose number lies at the local i0 of others -/
theorem mns_ok {S : St} {M : Mo} (hO : mOK (oN (qF S)) M) (hK : oOK (qF S)) {n : Nat} (hG : mG M + n ≤ 2000) : ∀ i, i ≤ n → mOK (oN (qF S)) (mns (qF S) M i) ∧ mG (mns (qF S) M i) = mG M + i := fun i hi => ok_mns hO hK rfl i (by omega)
theorem c_X9_pass {G : KG} {N : Nat} {w : WD} {b : Nat} {x : Int32} {S : St} (h : RsM G N w b S (qM S) none) (hO : sOK S) : KCon G jX9_pass N w [rf G b, .int x] (RpO G N w b (a_pass S x)) := by
  obtain ⟨at_, s, to_, g0, g5, v3, g2, v2⟩ := h.ob
  obtain ⟨o1, o2, ⟨o3, o4⟩, o5, o6, -⟩ := hO
  have hn7 := o1.1
  refine KCon.of ([some (rf G b), some (.int x), none]) (by decide) rfl (by simp [Value.category]) (Nat.le_of_ble_eq_true rfl) rfl ?_
  refine k_iload_n 1 dX9_pass_0 rfl rfl rfl ?_
  refine k_iconst (nI 1) 2 dX9_pass_1 rfl kc_1 ?_
  refine k_bipush (nI 24) 4 dX9_pass_2 rfl kb_24 ?_
  refine k_S3 7 dX9_pass_4 rfl vX9_pass_56 (Nat.le_of_ble_eq_true rfl) rfl ⟨Nat.le_of_ble_eq_true rfl, Nat.le_of_ble_eq_true rfl⟩ (c_X9_inN (by omega) (by omega)) (fun r9 w9 h9 => ?_)
  obtain ⟨h8, h9⟩ := h9
  subst h8
  have h9 := h9.symm
  subst h9
  rcases rgn_c 1 24 x with ⟨n, n1, n2, rfl, e⟩ | ⟨hx, e⟩
  · rw [e]
    refine k_if_neB 12 10 dX9_pass_7 rfl rfl (fun c9 => ?_) (fun c9 => absurd c9 (by simp))
    refine k_aload_n 13 dX9_pass_12 rfl rfl rfl ?_
    refine k_get 16 dX9_pass_13 rfl fX9_pass_22 (by (repeat (refine Is.ne ?_ (by omega))); first | assumption | exact Is.up (by omega)) (by rfl) ?_
    refine k_iconst (nI 0) 17 dX9_pass_16 rfl kc_0 ?_
    refine k_ialdN 18 dX9_pass_17 rfl (by (repeat (refine Is.ne ?_ (by omega))); first | assumption | exact Is.up (by omega)) (by omega) (by omega) ?_
    rw [v3.1]
    refine k_iload_n 19 dX9_pass_18 rfl rfl rfl ?_
    first | refine k_iaddE _ 20 dX9_pass_19 rfl (nI_add _ _) ?_ | refine k_iadd 20 dX9_pass_19 rfl ?_
    refine k_sipush (nI 999) 23 dX9_pass_20 rfl ks_999 ?_
    refine k_icmp_leN 29 26 dX9_pass_23 rfl rfl (by omega) (by omega) (fun c => ?_) (fun c => ?_)
    · have ea : a_pass S (nI n) = (nI (mG (qM S) + n), setN S (mns (qF S) (qM S) n)) := by
        unfold a_pass
        rw [e]
        dsimp only
        rw [if_neg (by omega)]
      rw [ea]
      refine k_aload_n 30 dX9_pass_29 rfl rfl rfl ?_
      refine k_V0 (ci := 8) 33 dX9_pass_30 rfl vX9_pass_119 (by (repeat (refine Is.ne ?_ (by omega))); first | assumption | exact Is.up (by omega)) rfl rfl (Nat.le_of_ble_eq_true rfl) rfl ⟨Nat.le_of_ble_eq_true rfl, Nat.le_of_ble_eq_true rfl⟩ (c_X9_keeps h hn7 (ok_l7 o3) o6 (fun X hX => ok_l7 (o5 X hX).1)) (fun r1 w1 x1 => ?_)
      obtain ⟨rfl, hR1, hE1⟩ := x1
      refine k_iconst (nI 0) 34 dX9_pass_33 rfl kc_0 ?_
      refine k_istore_n _ 35 dX9_pass_34 rfl rfl (by decide) rfl rfl ?_
      have loop : ∀ d i (w2 : WD), i + d = n → RsM G N w2 b (setP S (pshM 8 (qP S) (qM S))) (mns (qF S) (qM S) i) none → Eqx w w2 b (b + 12) → KRun G jX9_pass N (RpO G N w b (nI (mG (qM S) + n), setN S (mns (qF S) (qM S) n))) 35 [some (rf G b), some (.int (nI n)), some (.int (nI i))] [] 0 0 w2 := by
        intro d
        induction d with
        | zero =>
          intro i w2 hi hR hE
          obtain ⟨hOi, hGi⟩ := mns_ok o3 o1 (n := n) (by omega) i (by omega)
          obtain ⟨at2, s2, to2, q0, q5, u3, q2, u2⟩ := hR.ob
          refine k_iload_n 36 dX9_pass_35 rfl rfl rfl ?_
          refine k_iload_n 37 dX9_pass_36 rfl rfl rfl ?_
          refine k_icmp_geN 51 40 dX9_pass_37 rfl rfl (by omega) (by omega) (fun c => ?_) (fun c => ?_)
          · refine k_aload_n 52 dX9_pass_51 rfl rfl rfl ?_
            refine k_get 55 dX9_pass_52 rfl fX9_pass_22 (by (repeat (refine Is.ne ?_ (by omega))); first | assumption | exact Is.up (by omega)) (by rfl) ?_
            refine k_iconst (nI 0) 56 dX9_pass_55 rfl kc_0 ?_
            refine k_ialdN 57 dX9_pass_56 rfl (by (repeat (refine Is.ne ?_ (by omega))); first | assumption | exact Is.up (by omega)) (by omega) (by omega) ?_
            rw [u3.1, hGi, show mG (qM S) + i = mG (qM S) + n by omega]
            have hI : i = n := by omega
            rw [hI] at hR
            refine k_iret dX9_pass_57 rfl rfl (Nat.le_of_ble_eq_true rfl) ⟨rfl, hR.st rfl rfl rfl rfl rfl rfl rfl, hE⟩
          · omega
        | succ d ih =>
          intro i w2 hi hR hE
          obtain ⟨hOi, hGi⟩ := mns_ok o3 o1 (n := n) (by omega) i (by omega)
          obtain ⟨at2, s2, to2, q0, q5, u3, q2, u2⟩ := hR.ob
          refine k_iload_n 36 dX9_pass_35 rfl rfl rfl ?_
          refine k_iload_n 37 dX9_pass_36 rfl rfl rfl ?_
          refine k_icmp_geN 51 40 dX9_pass_37 rfl rfl (by omega) (by omega) (fun c => ?_) (fun c => ?_)
          · omega
          · refine k_aload_n 41 dX9_pass_40 rfl rfl rfl ?_
            refine k_iconst (nI 1) 42 dX9_pass_41 rfl kc_1 ?_
            refine k_V1 (ci := 8) 45 dX9_pass_42 rfl vX9_pass_122 (by (repeat (refine Is.ne ?_ (by omega))); first | assumption | exact Is.up (by omega)) rfl rfl (Nat.le_of_ble_eq_true rfl) rfl ⟨Nat.le_of_ble_eq_true rfl, Nat.le_of_ble_eq_true rfl⟩ (c_X9_passes (pb := true) hR hOi o1 (by omega)) (fun r3 w3 x3 => ?_)
            obtain ⟨rfl, hR3, hE3⟩ := x3
            refine k_iinc _ _ 48 dX9_pass_45 rfl rfl (nI_inc _) (by decide) rfl rfl ?_
            refine k_goto 35 dX9_pass_48 rfl ?_
            exact ih (i + 1) w3 (by omega) hR3 (hE.tr hE3)
      exact loop n 0 w1 (by omega) hR1 hE1
    · have ea : a_pass S (nI n) = (-2, S) := by
        unfold a_pass
        rw [e]
        dsimp only
        rw [if_pos (by omega)]
      rw [ea]
      refine k_bipush (-2) 28 dX9_pass_26 rfl kbm_2 ?_
      refine k_iret dX9_pass_28 rfl rfl (Nat.le_of_ble_eq_true rfl) ⟨rfl, h, Eqx.rf⟩
  · rw [e]
    have ea : a_pass S x = (-1, S) := by
      unfold a_pass
      rw [e]
    rw [ea]
    refine k_if_neB 12 10 dX9_pass_7 rfl rfl (fun c9 => absurd c9 (by simp)) (fun c9 => ?_)
    refine k_iconst (-1) 11 dX9_pass_10 rfl km_1 ?_
    refine k_iret dX9_pass_11 rfl rfl (Nat.le_of_ble_eq_true rfl) ⟨rfl, h, Eqx.rf⟩
theorem c_X9_let {G : KG} {N : Nat} {w : WD} {b : Nat} {x y : Int32} {S : St} (h : RsM G N w b S (qM S) none) (hO : sOK S) : KCon G jX9_let N w [rf G b, .int x, .int y] (RpO G N w b (a_let S x y)) := by
  obtain ⟨at_, s, to_, g0, g5, v3, g2, v2⟩ := h.ob
  obtain ⟨o1, o2, ⟨o3, o4⟩, o5, o6, -⟩ := hO
  have hn7 := o1.1
  refine KCon.of ([some (rf G b), some (.int x), some (.int y)]) (by decide) rfl (by simp [Value.category]) (Nat.le_of_ble_eq_true rfl) rfl ?_
  have bad : two (oN (qF S)) x y = none → KRun G jX9_let N (RpO G N w b (a_let S x y)) 21 [some (rf G b), some (.int x), some (.int y)] [] 0 0 w := by
    intro e
    have ea : a_let S x y = (-1, S) := by
      unfold a_let
      rw [e]
    rw [ea]
    refine k_iconst (-1) 22 dX9_let_21 rfl km_1 ?_
    refine k_iret dX9_let_22 rfl rfl (Nat.le_of_ble_eq_true rfl) ⟨rfl, h, Eqx.rf⟩
  refine k_aload_n 1 dX9_let_0 rfl rfl rfl ?_
  refine k_iload_n 2 dX9_let_1 rfl rfl rfl ?_
  refine k_V1 (ci := 8) 5 dX9_let_2 rfl vX9_let_102 (by (repeat (refine Is.ne ?_ (by omega))); first | assumption | exact Is.up (by omega)) rfl rfl (Nat.le_of_ble_eq_true rfl) rfl ⟨Nat.le_of_ble_eq_true rfl, Nat.le_of_ble_eq_true rfl⟩ (c_X9_isOne h o2 hn7) (fun r9 w9 h9 => ?_)
  obtain ⟨h8, h9⟩ := h9
  subst h8
  have h9 := h9.symm
  subst h9
  rcases prs_c hn7 x with ⟨p, hp, rfl, e⟩ | ⟨hno, e⟩
  · rw [e]
    refine k_if_eqB 21 8 dX9_let_5 rfl rfl (fun c9 => absurd c9 (by simp)) (fun c9 => ?_)
    refine k_aload_n 9 dX9_let_8 rfl rfl rfl ?_
    refine k_iload_n 10 dX9_let_9 rfl rfl rfl ?_
    refine k_V1 (ci := 8) 13 dX9_let_10 rfl vX9_let_102 (by (repeat (refine Is.ne ?_ (by omega))); first | assumption | exact Is.up (by omega)) rfl rfl (Nat.le_of_ble_eq_true rfl) rfl ⟨Nat.le_of_ble_eq_true rfl, Nat.le_of_ble_eq_true rfl⟩ (c_X9_isOne h o2 hn7) (fun r9 w9 h9 => ?_)
    obtain ⟨h8, h9⟩ := h9
    subst h8
    have h9 := h9.symm
    subst h9
    rcases prs_c hn7 y with ⟨q, hq, rfl, e2⟩ | ⟨hno, e2⟩
    · rw [e2]
      refine k_if_eqB 21 16 dX9_let_13 rfl rfl (fun c9 => absurd c9 (by simp)) (fun c9 => ?_)
      refine k_iload_n 17 dX9_let_16 rfl rfl rfl ?_
      refine k_iload_n 18 dX9_let_17 rfl rfl rfl ?_
      refine k_icmp_neN 23 21 dX9_let_18 rfl rfl (by omega) (by omega) (fun c => ?_) (fun c => ?_)
      · have e3 : two (oN (qF S)) (nI p) (nI q) = some (p, q) := by
          unfold two
          rw [e, e2]
          dsimp only
          rw [if_neg c]
        refine k_aload_n 24 dX9_let_23 rfl rfl rfl ?_
        refine k_iload_n 25 dX9_let_24 rfl rfl rfl ?_
        refine k_iload_n 26 dX9_let_25 rfl rfl rfl ?_
        refine k_V2 (ci := 8) 29 dX9_let_26 rfl vX9_let_129 (by (repeat (refine Is.ne ?_ (by omega))); first | assumption | exact Is.up (by omega)) rfl rfl (Nat.le_of_ble_eq_true rfl) rfl ⟨Nat.le_of_ble_eq_true rfl, Nat.le_of_ble_eq_true rfl⟩ (c_X9_mayLet h o3 hp hq) (fun r9 w9 h9 => ?_)
        obtain ⟨h8, h9⟩ := h9
        subst h8
        have h9 := h9.symm
        subst h9
        refine k_if_neB 35 32 dX9_let_29 rfl rfl (fun c9 => ?_) (fun c9 => ?_)
        · have ea : a_let S (nI p) (nI q) = (pI (plc (letp (qM S) p q) q), setN S (letp (qM S) p q)) := by
            unfold a_let
            rw [e3]
            dsimp only
            rw [if_pos c9]
          rw [ea]
          have hOl := ok_letp o3 c9
          refine k_aload_n 36 dX9_let_35 rfl rfl rfl ?_
          refine k_V0 (ci := 8) 39 dX9_let_36 rfl vX9_let_119 (by (repeat (refine Is.ne ?_ (by omega))); first | assumption | exact Is.up (by omega)) rfl rfl (Nat.le_of_ble_eq_true rfl) rfl ⟨Nat.le_of_ble_eq_true rfl, Nat.le_of_ble_eq_true rfl⟩ (c_X9_keeps h hn7 (ok_l7 o3) o6 (fun X hX => ok_l7 (o5 X hX).1)) (fun r1 w1 x1 => ?_)
          obtain ⟨rfl, hR1, hE1⟩ := x1
          obtain ⟨at1, s1, to1, q0, q5, u3, q2, u2⟩ := hR1.ob
          refine k_aload_n 40 dX9_let_39 rfl rfl rfl ?_
          refine k_iload_n 41 dX9_let_40 rfl rfl rfl ?_
          refine k_iload_n 42 dX9_let_41 rfl rfl rfl ?_
          refine k_V2 (ci := 8) 45 dX9_let_42 rfl vX9_let_133 (by (repeat (refine Is.ne ?_ (by omega))); first | assumption | exact Is.up (by omega)) rfl rfl (Nat.le_of_ble_eq_true rfl) rfl ⟨Nat.le_of_ble_eq_true rfl, Nat.le_of_ble_eq_true rfl⟩ (c_X9_lets hR1 o3 c9) (fun r2 w2 x2 => ?_)
          obtain ⟨rfl, hR2, hE2⟩ := x2
          obtain ⟨at2, s2, to2, j0, j5, t3, j2, t2⟩ := hR2.ob
          refine k_aload_n 46 dX9_let_45 rfl rfl rfl ?_
          refine k_iload_n 47 dX9_let_46 rfl rfl rfl ?_
          refine k_V1 (ci := 8) 50 dX9_let_47 rfl vX9_let_105 (by (repeat (refine Is.ne ?_ (by omega))); first | assumption | exact Is.up (by omega)) rfl rfl (Nat.le_of_ble_eq_true rfl) rfl ⟨Nat.le_of_ble_eq_true rfl, Nat.le_of_ble_eq_true rfl⟩ (c_X9_pl hR2 hOl hq) (fun r9 w9 h9 => ?_)
          obtain ⟨h8, h9⟩ := h9
          subst h8
          have h9 := h9.symm
          subst h9
          refine k_iret dX9_let_50 rfl rfl (Nat.le_of_ble_eq_true rfl) ⟨rfl, hR2.st rfl rfl rfl rfl rfl rfl rfl, hE1.tr hE2⟩
        · have ea : a_let S (nI p) (nI q) = (-2, S) := by
            unfold a_let
            rw [e3]
            dsimp only
            rw [if_neg (by rw [c9]; simp)]
          rw [ea]
          refine k_bipush (-2) 34 dX9_let_32 rfl kbm_2 ?_
          refine k_iret dX9_let_34 rfl rfl (Nat.le_of_ble_eq_true rfl) ⟨rfl, h, Eqx.rf⟩
      · exact bad (by unfold two; rw [e, e2]; dsimp only; rw [if_pos c])
    · rw [e2]
      refine k_if_eqB 21 16 dX9_let_13 rfl rfl (fun c9 => ?_) (fun c9 => absurd c9 (by simp))
      exact bad (by unfold two; rw [e, e2])
  · rw [e]
    refine k_if_eqB 21 8 dX9_let_5 rfl rfl (fun c9 => ?_) (fun c9 => absurd c9 (by simp))
    exact bad (by unfold two; rw [e])
theorem c_X9_pay {G : KG} {N : Nat} {w : WD} {b : Nat} {x y : Int32} {S : St} (h : RsM G N w b S (qM S) none) (hO : sOK S) : KCon G jX9_pay N w [rf G b, .int x, .int y] (RpO G N w b (a_pay S x y)) := by
  obtain ⟨at_, s, to_, g0, g5, v3, g2, v2⟩ := h.ob
  obtain ⟨o1, o2, ⟨o3, o4⟩, o5, o6, -⟩ := hO
  have hn7 := o1.1
  refine KCon.of ([some (rf G b), some (.int x), some (.int y), none]) (by decide) rfl (by simp [Value.category]) (Nat.le_of_ble_eq_true rfl) rfl ?_
  have bad : two (oN (qF S)) x y = none → KRun G jX9_pay N (RpO G N w b (a_pay S x y)) 21 [some (rf G b), some (.int x), some (.int y), none] [] 0 0 w := by
    intro e
    have ea : a_pay S x y = (-1, S) := by
      unfold a_pay
      rw [e]
    rw [ea]
    refine k_iconst (-1) 22 dX9_pay_21 rfl km_1 ?_
    refine k_iret dX9_pay_22 rfl rfl (Nat.le_of_ble_eq_true rfl) ⟨rfl, h, Eqx.rf⟩
  refine k_aload_n 1 dX9_pay_0 rfl rfl rfl ?_
  refine k_iload_n 2 dX9_pay_1 rfl rfl rfl ?_
  refine k_V1 (ci := 8) 5 dX9_pay_2 rfl vX9_pay_102 (by (repeat (refine Is.ne ?_ (by omega))); first | assumption | exact Is.up (by omega)) rfl rfl (Nat.le_of_ble_eq_true rfl) rfl ⟨Nat.le_of_ble_eq_true rfl, Nat.le_of_ble_eq_true rfl⟩ (c_X9_isOne h o2 hn7) (fun r9 w9 h9 => ?_)
  obtain ⟨h8, h9⟩ := h9
  subst h8
  have h9 := h9.symm
  subst h9
  rcases prs_c hn7 x with ⟨p, hp, rfl, e⟩ | ⟨hno, e⟩
  · rw [e]
    refine k_if_eqB 21 8 dX9_pay_5 rfl rfl (fun c9 => absurd c9 (by simp)) (fun c9 => ?_)
    refine k_aload_n 9 dX9_pay_8 rfl rfl rfl ?_
    refine k_iload_n 10 dX9_pay_9 rfl rfl rfl ?_
    refine k_V1 (ci := 8) 13 dX9_pay_10 rfl vX9_pay_102 (by (repeat (refine Is.ne ?_ (by omega))); first | assumption | exact Is.up (by omega)) rfl rfl (Nat.le_of_ble_eq_true rfl) rfl ⟨Nat.le_of_ble_eq_true rfl, Nat.le_of_ble_eq_true rfl⟩ (c_X9_isOne h o2 hn7) (fun r9 w9 h9 => ?_)
    obtain ⟨h8, h9⟩ := h9
    subst h8
    have h9 := h9.symm
    subst h9
    rcases prs_c hn7 y with ⟨q, hq, rfl, e2⟩ | ⟨hno, e2⟩
    · rw [e2]
      refine k_if_eqB 21 16 dX9_pay_13 rfl rfl (fun c9 => absurd c9 (by simp)) (fun c9 => ?_)
      refine k_iload_n 17 dX9_pay_16 rfl rfl rfl ?_
      refine k_iload_n 18 dX9_pay_17 rfl rfl rfl ?_
      refine k_icmp_neN 23 21 dX9_pay_18 rfl rfl (by omega) (by omega) (fun c => ?_) (fun c => ?_)
      · have e3 : two (oN (qF S)) (nI p) (nI q) = some (p, q) := by
          unfold two
          rw [e, e2]
          dsimp only
          rw [if_neg c]
        have hpy : pyb (qM S) p q < 300000 := Nat.lt_of_le_of_lt (Nat.min_le_left _ _) (ok_d o3 (by omega))
        refine k_aload_n 24 dX9_pay_23 rfl rfl rfl ?_
        refine k_iload_n 25 dX9_pay_24 rfl rfl rfl ?_
        refine k_iload_n 26 dX9_pay_25 rfl rfl rfl ?_
        refine k_V2 (ci := 8) 29 dX9_pay_26 rfl vX9_pay_136 (by (repeat (refine Is.ne ?_ (by omega))); first | assumption | exact Is.up (by omega)) rfl rfl (Nat.le_of_ble_eq_true rfl) rfl ⟨Nat.le_of_ble_eq_true rfl, Nat.le_of_ble_eq_true rfl⟩ (c_X9_canPay h o3 hp hq) (fun r9 w9 h9 => ?_)
        obtain ⟨h8, h9⟩ := h9
        subst h8
        have h9 := h9.symm
        subst h9
        refine k_istore_n _ 30 dX9_pay_29 rfl rfl (by decide) rfl rfl ?_
        refine k_iload_n 31 dX9_pay_30 rfl rfl rfl ?_
        refine k_if_neN 37 34 dX9_pay_31 rfl rfl (by omega) (fun c => ?_) (fun c => ?_)
        · have ea : a_pay S (nI p) (nI q) = (nI (pyb (qM S) p q), setN S (setl (qM S) p q)) := by
            unfold a_pay
            rw [e3]
            dsimp only
            rw [if_neg (by assumption)]
          rw [ea]
          refine k_aload_n 38 dX9_pay_37 rfl rfl rfl ?_
          refine k_V0 (ci := 8) 41 dX9_pay_38 rfl vX9_pay_119 (by (repeat (refine Is.ne ?_ (by omega))); first | assumption | exact Is.up (by omega)) rfl rfl (Nat.le_of_ble_eq_true rfl) rfl ⟨Nat.le_of_ble_eq_true rfl, Nat.le_of_ble_eq_true rfl⟩ (c_X9_keeps h hn7 (ok_l7 o3) o6 (fun X hX => ok_l7 (o5 X hX).1)) (fun r1 w1 x1 => ?_)
          obtain ⟨rfl, hR1, hE1⟩ := x1
          obtain ⟨at1, s1, to1, q0, q5, u3, q2, u2⟩ := hR1.ob
          refine k_aload_n 42 dX9_pay_41 rfl rfl rfl ?_
          refine k_iload_n 43 dX9_pay_42 rfl rfl rfl ?_
          refine k_iload_n 44 dX9_pay_43 rfl rfl rfl ?_
          refine k_V2 (ci := 8) 47 dX9_pay_44 rfl vX9_pay_140 (by (repeat (refine Is.ne ?_ (by omega))); first | assumption | exact Is.up (by omega)) rfl rfl (Nat.le_of_ble_eq_true rfl) rfl ⟨Nat.le_of_ble_eq_true rfl, Nat.le_of_ble_eq_true rfl⟩ (c_X9_pays hR1 o3 hp hq) (fun r2 w2 x2 => ?_)
          obtain ⟨rfl, hR2, hE2⟩ := x2
          refine k_iload_n 48 dX9_pay_47 rfl rfl rfl ?_
          refine k_iret dX9_pay_48 rfl rfl (Nat.le_of_ble_eq_true rfl) ⟨rfl, hR2.st rfl rfl rfl rfl rfl rfl rfl, hE1.tr hE2⟩
        · have ea : a_pay S (nI p) (nI q) = (-2, S) := by
            unfold a_pay
            rw [e3]
            dsimp only
            rw [if_pos (by assumption)]
          rw [ea]
          refine k_bipush (-2) 36 dX9_pay_34 rfl kbm_2 ?_
          refine k_iret dX9_pay_36 rfl rfl (Nat.le_of_ble_eq_true rfl) ⟨rfl, h, Eqx.rf⟩
      · exact bad (by unfold two; rw [e, e2]; dsimp only; rw [if_pos c])
    · rw [e2]
      refine k_if_eqB 21 16 dX9_pay_13 rfl rfl (fun c9 => ?_) (fun c9 => absurd c9 (by simp))
      exact bad (by unfold two; rw [e, e2])
  · rw [e]
    refine k_if_eqB 21 8 dX9_pay_5 rfl rfl (fun c9 => ?_) (fun c9 => absurd c9 (by simp))
    exact bad (by unfold two; rw [e])
theorem c_X9_leave {G : KG} {N : Nat} {w : WD} {b : Nat} {x : Int32} {S : St} (h : RsM G N w b S (qM S) none) (hO : sOK S) : KCon G jX9_leave N w [rf G b, .int x] (RpO G N w b (a_leave S x)) := by
  obtain ⟨at_, s, to_, g0, g5, v3, g2, v2⟩ := h.ob
  obtain ⟨o1, o2, ⟨o3, o4⟩, o5, o6, -⟩ := hO
  have hn7 := o1.1
  have hL7 := ok_l7 o3
  refine KCon.of ([some (rf G b), some (.int x)]) (by decide) rfl (by simp [Value.category]) (Nat.le_of_ble_eq_true rfl) rfl ?_
  refine k_aload_n 1 dX9_leave_0 rfl rfl rfl ?_
  refine k_iload_n 2 dX9_leave_1 rfl rfl rfl ?_
  refine k_V1 (ci := 8) 5 dX9_leave_2 rfl vX9_leave_102 (by (repeat (refine Is.ne ?_ (by omega))); first | assumption | exact Is.up (by omega)) rfl rfl (Nat.le_of_ble_eq_true rfl) rfl ⟨Nat.le_of_ble_eq_true rfl, Nat.le_of_ble_eq_true rfl⟩ (c_X9_isOne h o2 hn7) (fun r9 w9 h9 => ?_)
  obtain ⟨h8, h9⟩ := h9
  subst h8
  have h9 := h9.symm
  subst h9
  rcases prs_c hn7 x with ⟨p, hp, rfl, e⟩ | ⟨hno, e⟩
  · rw [e]
    refine k_if_neB 10 8 dX9_leave_5 rfl rfl (fun c9 => ?_) (fun c9 => absurd c9 (by simp))
    refine k_aload_n 11 dX9_leave_10 rfl rfl rfl ?_
    refine k_iload_n 12 dX9_leave_11 rfl rfl rfl ?_
    refine k_V1 (ci := 8) 15 dX9_leave_12 rfl vX9_leave_105 (by (repeat (refine Is.ne ?_ (by omega))); first | assumption | exact Is.up (by omega)) rfl rfl (Nat.le_of_ble_eq_true rfl) rfl ⟨Nat.le_of_ble_eq_true rfl, Nat.le_of_ble_eq_true rfl⟩ (c_X9_pl h o3 hp) (fun r9 w9 h9 => ?_)
    obtain ⟨h8, h9⟩ := h9
    subst h8
    have h9 := h9.symm
    subst h9
    refine k_bipush (-4) 17 dX9_leave_15 rfl kbm_4 ?_
    cases e1 : plc (qM S) p with
    | none =>
      have ea : a_leave S (nI p) = (-2, S) := by
        unfold a_leave
        rw [e]
        dsimp only
        rw [e1]
      rw [ea]
      refine k_icmp_ne 23 20 dX9_leave_17 rfl rfl (fun c => ?_) (fun c => ?_)
      · exact absurd rfl c
      · refine k_bipush (-2) 22 dX9_leave_20 rfl kbm_2 ?_
        refine k_iret dX9_leave_22 rfl rfl (Nat.le_of_ble_eq_true rfl) ⟨rfl, h, Eqx.rf⟩
    | some k =>
      obtain ⟨hk, hkp⟩ := plc_some e1
      have ea : a_leave S (nI p) = (nI (mL (rem (qM S) k 2)), setN S (rem (qM S) k 2)) := by
        unfold a_leave
        rw [e]
        dsimp only
        rw [e1]
      rw [ea]
      refine k_icmp_ne 23 20 dX9_leave_17 rfl rfl (fun c => ?_) (fun c => ?_)
      · refine k_aload_n 24 dX9_leave_23 rfl rfl rfl ?_
        refine k_V0 (ci := 8) 27 dX9_leave_24 rfl vX9_leave_119 (by (repeat (refine Is.ne ?_ (by omega))); first | assumption | exact Is.up (by omega)) rfl rfl (Nat.le_of_ble_eq_true rfl) rfl ⟨Nat.le_of_ble_eq_true rfl, Nat.le_of_ble_eq_true rfl⟩ (c_X9_keeps h hn7 hL7 o6 (fun X hX => ok_l7 (o5 X hX).1)) (fun r1 w1 x1 => ?_)
        obtain ⟨rfl, hR1, hE1⟩ := x1
        obtain ⟨at1, s1, to1, q0, q5, u3, q2, u2⟩ := hR1.ob
        refine k_aload_n 28 dX9_leave_27 rfl rfl rfl ?_
        refine k_aload_n 29 dX9_leave_28 rfl rfl rfl ?_
        refine k_iload_n 30 dX9_leave_29 rfl rfl rfl ?_
        refine k_V1 (ci := 8) 33 dX9_leave_30 rfl vX9_leave_105 (by (repeat (refine Is.ne ?_ (by omega))); first | assumption | exact Is.up (by omega)) rfl rfl (Nat.le_of_ble_eq_true rfl) rfl ⟨Nat.le_of_ble_eq_true rfl, Nat.le_of_ble_eq_true rfl⟩ (c_X9_pl hR1 o3 hp) (fun r9 w9 h9 => ?_)
        obtain ⟨h8, h9⟩ := h9
        subst h8
        have h9 := h9.symm
        subst h9
        rw [e1]
        refine k_tp (.int (nI k)) rfl ?_
        refine k_iconst (nI 2) 34 dX9_leave_33 rfl kc_2 ?_
        refine k_V2 (ci := 8) 37 dX9_leave_34 rfl vX9_leave_115 (by (repeat (refine Is.ne ?_ (by omega))); first | assumption | exact Is.up (by omega)) rfl rfl (Nat.le_of_ble_eq_true rfl) rfl ⟨Nat.le_of_ble_eq_true rfl, Nat.le_of_ble_eq_true rfl⟩ (c_X9_goes (st := 2) hR1 o3.p hk) (fun r2 w2 x2 => ?_)
        obtain ⟨rfl, hR2, hE2⟩ := x2
        obtain ⟨at2, s2, to2, j0, j5, t3, j2, t2⟩ := hR2.ob
        refine k_aload_n 38 dX9_leave_37 rfl rfl rfl ?_
        refine k_get 41 dX9_leave_38 rfl fX9_leave_22 (by (repeat (refine Is.ne ?_ (by omega))); first | assumption | exact Is.up (by omega)) (by rfl) ?_
        refine k_iconst (nI 1) 42 dX9_leave_41 rfl kc_1 ?_
        refine k_ialdN 43 dX9_leave_42 rfl (by (repeat (refine Is.ne ?_ (by omega))); first | assumption | exact Is.up (by omega)) (by omega) (by omega) ?_
        rw [t3.2.1]
        refine k_iret dX9_leave_43 rfl rfl (Nat.le_of_ble_eq_true rfl) ⟨rfl, hR2.st rfl rfl rfl rfl rfl rfl rfl, hE1.tr hE2⟩
      · exact absurd (Classical.not_not.mp c) (pI_some (by omega))
  · rw [e]
    have ea : a_leave S x = (-1, S) := by
      unfold a_leave
      rw [e]
    rw [ea]
    refine k_if_neB 10 8 dX9_leave_5 rfl rfl (fun c9 => absurd c9 (by simp)) (fun c9 => ?_)
    refine k_iconst (-1) 9 dX9_leave_8 rfl km_1 ?_
    refine k_iret dX9_leave_9 rfl rfl (Nat.le_of_ble_eq_true rfl) ⟨rfl, h, Eqx.rf⟩
theorem c_X9_come {G : KG} {N : Nat} {w : WD} {b : Nat} {x : Int32} {S : St} (h : RsM G N w b S (qM S) none) (hO : sOK S) : KCon G jX9_come N w [rf G b, .int x] (RpO G N w b (a_come S x)) := by
  obtain ⟨at_, s, to_, g0, g5, v3, g2, v2⟩ := h.ob
  obtain ⟨o1, o2, ⟨o3, o4⟩, o5, o6, -⟩ := hO
  have hn7 := o1.1
  have hL7 := ok_l7 o3
  refine KCon.of ([some (rf G b), some (.int x)]) (by decide) rfl (by simp [Value.category]) (Nat.le_of_ble_eq_true rfl) rfl ?_
  refine k_aload_n 1 dX9_come_0 rfl rfl rfl ?_
  refine k_iload_n 2 dX9_come_1 rfl rfl rfl ?_
  refine k_V1 (ci := 8) 5 dX9_come_2 rfl vX9_come_102 (by (repeat (refine Is.ne ?_ (by omega))); first | assumption | exact Is.up (by omega)) rfl rfl (Nat.le_of_ble_eq_true rfl) rfl ⟨Nat.le_of_ble_eq_true rfl, Nat.le_of_ble_eq_true rfl⟩ (c_X9_isOne h o2 hn7) (fun r9 w9 h9 => ?_)
  obtain ⟨h8, h9⟩ := h9
  subst h8
  have h9 := h9.symm
  subst h9
  rcases prs_c hn7 x with ⟨p, hp, rfl, e⟩ | ⟨hno, e⟩
  · rw [e]
    refine k_if_neB 10 8 dX9_come_5 rfl rfl (fun c9 => ?_) (fun c9 => absurd c9 (by simp))
    refine k_aload_n 11 dX9_come_10 rfl rfl rfl ?_
    refine k_iload_n 12 dX9_come_11 rfl rfl rfl ?_
    refine k_V1 (ci := 8) 15 dX9_come_12 rfl vX9_come_105 (by (repeat (refine Is.ne ?_ (by omega))); first | assumption | exact Is.up (by omega)) rfl rfl (Nat.le_of_ble_eq_true rfl) rfl ⟨Nat.le_of_ble_eq_true rfl, Nat.le_of_ble_eq_true rfl⟩ (c_X9_pl h o3 hp) (fun r9 w9 h9 => ?_)
    obtain ⟨h8, h9⟩ := h9
    subst h8
    have h9 := h9.symm
    subst h9
    refine k_bipush (-4) 17 dX9_come_15 rfl kbm_4 ?_
    cases e1 : plc (qM S) p with
    | none =>
      have hno := plc_no e1
      have hf := ok_full o3 hp hno
      have hOi := ok_ins o3 hp hno (Nat.le_refl _)
      have ea : a_come S (nI p) = (pI (plc (ins (qM S) p (mL (qM S))) p), setN S (ins (qM S) p (mL (qM S)))) := by
        unfold a_come
        rw [e]
        dsimp only
        rw [e1]
      rw [ea]
      refine k_icmp_eq 23 20 dX9_come_17 rfl rfl (fun c => ?_) (fun c => ?_)
      · refine k_aload_n 24 dX9_come_23 rfl rfl rfl ?_
        refine k_V0 (ci := 8) 27 dX9_come_24 rfl vX9_come_119 (by (repeat (refine Is.ne ?_ (by omega))); first | assumption | exact Is.up (by omega)) rfl rfl (Nat.le_of_ble_eq_true rfl) rfl ⟨Nat.le_of_ble_eq_true rfl, Nat.le_of_ble_eq_true rfl⟩ (c_X9_keeps h hn7 hL7 o6 (fun X hX => ok_l7 (o5 X hX).1)) (fun r1 w1 x1 => ?_)
        obtain ⟨rfl, hR1, hE1⟩ := x1
        obtain ⟨at1, s1, to1, q0, q5, u3, q2, u2⟩ := hR1.ob
        refine k_aload_n 28 dX9_come_27 rfl rfl rfl ?_
        refine k_iload_n 29 dX9_come_28 rfl rfl rfl ?_
        refine k_aload_n 30 dX9_come_29 rfl rfl rfl ?_
        refine k_get 33 dX9_come_30 rfl fX9_come_22 (by (repeat (refine Is.ne ?_ (by omega))); first | assumption | exact Is.up (by omega)) (by rfl) ?_
        refine k_iconst (nI 1) 34 dX9_come_33 rfl kc_1 ?_
        refine k_ialdN 35 dX9_come_34 rfl (by (repeat (refine Is.ne ?_ (by omega))); first | assumption | exact Is.up (by omega)) (by omega) (by omega) ?_
        rw [u3.2.1]
        refine k_V2 (ci := 8) 38 dX9_come_35 rfl vX9_come_126 (by (repeat (refine Is.ne ?_ (by omega))); first | assumption | exact Is.up (by omega)) rfl rfl (Nat.le_of_ble_eq_true rfl) rfl ⟨Nat.le_of_ble_eq_true rfl, Nat.le_of_ble_eq_true rfl⟩ (c_X9_comes hR1 hn7 (by omega) hp (Nat.le_refl _)) (fun r2 w2 x2 => ?_)
        obtain ⟨rfl, hR2, hE2⟩ := x2
        obtain ⟨at2, s2, to2, j0, j5, t3, j2, t2⟩ := hR2.ob
        refine k_aload_n 39 dX9_come_38 rfl rfl rfl ?_
        refine k_iload_n 40 dX9_come_39 rfl rfl rfl ?_
        refine k_V1 (ci := 8) 43 dX9_come_40 rfl vX9_come_105 (by (repeat (refine Is.ne ?_ (by omega))); first | assumption | exact Is.up (by omega)) rfl rfl (Nat.le_of_ble_eq_true rfl) rfl ⟨Nat.le_of_ble_eq_true rfl, Nat.le_of_ble_eq_true rfl⟩ (c_X9_pl hR2 hOi hp) (fun r9 w9 h9 => ?_)
        obtain ⟨h8, h9⟩ := h9
        subst h8
        have h9 := h9.symm
        subst h9
        refine k_iret dX9_come_43 rfl rfl (Nat.le_of_ble_eq_true rfl) ⟨rfl, hR2.st rfl rfl rfl rfl rfl rfl rfl, hE1.tr hE2⟩
      · exact absurd rfl c
    | some k =>
      obtain ⟨hk, hkp⟩ := plc_some e1
      have ea : a_come S (nI p) = (-2, S) := by
        unfold a_come
        rw [e]
        dsimp only
        rw [e1]
      rw [ea]
      refine k_icmp_eq 23 20 dX9_come_17 rfl rfl (fun c => ?_) (fun c => ?_)
      · exact absurd c (pI_some (by omega))
      · refine k_bipush (-2) 22 dX9_come_20 rfl kbm_2 ?_
        refine k_iret dX9_come_22 rfl rfl (Nat.le_of_ble_eq_true rfl) ⟨rfl, h, Eqx.rf⟩
  · rw [e]
    have ea : a_come S x = (-1, S) := by
      unfold a_come
      rw [e]
    rw [ea]
    refine k_if_neB 10 8 dX9_come_5 rfl rfl (fun c9 => absurd c9 (by simp)) (fun c9 => ?_)
    refine k_iconst (-1) 9 dX9_come_8 rfl km_1 ?_
    refine k_iret dX9_come_9 rfl rfl (Nat.le_of_ble_eq_true rfl) ⟨rfl, h, Eqx.rf⟩
theorem c_X9_undo {G : KG} {N : Nat} {w : WD} {b : Nat} {S : St} (h : RsM G N w b S (qM S) none) (hO : sOK S) : KCon G jX9_undo N w [rf G b] (RpO G N w b (a_undo S)) := by
  have h' := h
  obtain ⟨at_, tx, to_, dr, be, s, pa, im, nt, ah, sd, gr, ro, ⟨g0, g1, g2, g3, g4, g5, g6, g7, g8, g9, g10, g11, g12⟩, v1, v2, v3, v4, v5, v6, v7, v8⟩ := h'
  have hN := g12.1
  obtain ⟨o1, o2, ⟨o3, o4⟩, o5, o6, -⟩ := hO
  have hn7 := o1.1
  refine KCon.of ([some (rf G b), none]) (by decide) rfl (by simp [Value.category]) (Nat.le_of_ble_eq_true rfl) rfl ?_
  rcases List.eq_nil_or_concat (qP S) with e | ⟨L, M1, e⟩
  · have ea : a_undo S = (-2, S) := by
      unfold a_undo
      rw [e]
      rfl
    rw [ea]
    rw [e] at g0
    refine k_aload_n 1 dX9_undo_0 rfl rfl rfl ?_
    refine k_get 4 dX9_undo_1 rfl fX9_undo_93 (by (repeat (refine Is.ne ?_ (by omega))); first | assumption | exact Is.up (by omega)) (by rfl) ?_
    refine k_if_neN (a := 0) 10 7 dX9_undo_4 rfl rfl (by omega) (fun c => by omega) (fun c => ?_)
    refine k_bipush (-2) 9 dX9_undo_7 rfl kbm_2 ?_
    refine k_iret dX9_undo_9 rfl rfl (Nat.le_of_ble_eq_true rfl) ⟨rfl, h, Eqx.rf⟩
  · have e : qP S = L ++ [M1] := by rw [e]; simp
    have ea : a_undo S = (nI L.length, (qF S, M1, L, qK S, qm S, qN S, qt S, qT S)) := by
      unfold a_undo
      rw [e]
      simp
    rw [ea]
    obtain ⟨oM, -⟩ := o5 M1 (by rw [e]; simp)
    have hlen : (qP S).length = L.length + 1 := by rw [e]; simp
    have vM1 := v4 L.length (by omega)
    rw [show (qP S).getD L.length oM0 = M1 by rw [e]; simp] at vM1
    rw [hlen] at g0
    refine k_aload_n 1 dX9_undo_0 rfl rfl rfl ?_
    refine k_get 4 dX9_undo_1 rfl fX9_undo_93 (by (repeat (refine Is.ne ?_ (by omega))); first | assumption | exact Is.up (by omega)) (by rfl) ?_
    refine k_if_neN 10 7 dX9_undo_4 rfl rfl (by omega) (fun c => ?_) (fun c => by omega)
    refine k_aload_n 11 dX9_undo_10 rfl rfl rfl ?_
    refine k_dup 12 dX9_undo_11 rfl rfl ?_
    refine k_get 15 dX9_undo_12 rfl fX9_undo_93 (by (repeat (refine Is.ne ?_ (by omega))); first | assumption | exact Is.up (by omega)) (by rfl) ?_
    refine k_iconst (nI 1) 16 dX9_undo_15 rfl kc_1 ?_
    first | refine k_isubE _ 17 dX9_undo_16 rfl (pk_sub (by omega)) ?_ | refine k_isub 17 dX9_undo_16 rfl ?_
    refine k_put 20 dX9_undo_17 rfl pX9_undo_93 (by (repeat (refine Is.ne ?_ (by omega))); first | assumption | exact Is.up (by omega)) (Nat.le_of_ble_eq_true rfl) rfl rfl ?_
    refine k_iconst (nI 0) 21 dX9_undo_20 rfl kc_0 ?_
    refine k_istore_n _ 22 dX9_undo_21 rfl rfl (by decide) rfl rfl ?_
    have loop : ∀ d i (w2 : WD) (f : Nat → Int32), i + d = 72 → RsC G N w2 b (qt S) L.length (qK S).length (qm S) (.int at_) tx to_ dr be f pa im nt ah sd gr ro → Eqx w w2 b (b + 12) → (∀ j, j < i → f j = pa (72 * L.length + j)) → KRun G jX9_undo N (RpO G N w b (nI L.length, (qF S, M1, L, qK S, qm S, qN S, qt S, qT S))) 22 [some (rf G b), some (.int (nI i))] [] 0 0 w2 := by
      intro d
      induction d with
      | zero =>
        intro i w2 f hi hC hE hf
        have hC2 := hC
        obtain ⟨g0, g1, g2, g3, g4, g5, g6, g7, g8, g9, g10, g11, g12⟩ := hC2
        refine k_iload_n 23 dX9_undo_22 rfl rfl rfl ?_
        refine k_bipush (nI 72) 25 dX9_undo_23 rfl kb_72 ?_
        refine k_icmp_geN 54 28 dX9_undo_25 rfl rfl (by omega) (by omega) (fun c => ?_) (fun c => ?_)
        · refine k_aload_n 55 dX9_undo_54 rfl rfl rfl ?_
          refine k_get 58 dX9_undo_55 rfl fX9_undo_93 (by (repeat (refine Is.ne ?_ (by omega))); first | assumption | exact Is.up (by omega)) (by rfl) ?_
          refine k_iret dX9_undo_58 rfl rfl (Nat.le_of_ble_eq_true rfl) ⟨rfl, ⟨at_, tx, to_, dr, be, f, pa, im, nt, ah, sd, gr, ro, hC, v1, v2, vM1.cg hn7 (ok_l7 oM) (fun j hj => hf j (by omega)), fun q hq => ?_, v5, v6, v7, v8⟩, hE⟩
          have hq : q < L.length := hq
          have := v4 q (by omega)
          rw [show (qP S).getD q oM0 = L.getD q oM0 by
            rw [e]
            simp only [List.getD_eq_getElem?_getD]
            rw [List.getElem?_append_left hq]] at this
          exact this
        · omega
      | succ d ih =>
        intro i w2 f hi ⟨g0, g1, g2, g3, g4, g5, g6, g7, g8, g9, g10, g11, g12⟩ hE hf
        refine k_iload_n 23 dX9_undo_22 rfl rfl rfl ?_
        refine k_bipush (nI 72) 25 dX9_undo_23 rfl kb_72 ?_
        refine k_icmp_geN 54 28 dX9_undo_25 rfl rfl (by omega) (by omega) (fun c => ?_) (fun c => ?_)
        · omega
        · refine k_aload_n 29 dX9_undo_28 rfl rfl rfl ?_
          refine k_get 32 dX9_undo_29 rfl fX9_undo_22 (by (repeat (refine Is.ne ?_ (by omega))); first | assumption | exact Is.up (by omega)) (by rfl) ?_
          refine k_iload_n 33 dX9_undo_32 rfl rfl rfl ?_
          refine k_aload_n 34 dX9_undo_33 rfl rfl rfl ?_
          refine k_get 37 dX9_undo_34 rfl fX9_undo_25 (by (repeat (refine Is.ne ?_ (by omega))); first | assumption | exact Is.up (by omega)) (by rfl) ?_
          refine k_bipush (nI 72) 39 dX9_undo_37 rfl kb_72 ?_
          refine k_aload_n 40 dX9_undo_39 rfl rfl rfl ?_
          refine k_get 43 dX9_undo_40 rfl fX9_undo_93 (by (repeat (refine Is.ne ?_ (by omega))); first | assumption | exact Is.up (by omega)) (by rfl) ?_
          first | refine k_imulE _ 44 dX9_undo_43 rfl (pk_mul _ _) ?_ | refine k_imul 44 dX9_undo_43 rfl ?_
          refine k_iload_n 45 dX9_undo_44 rfl rfl rfl ?_
          first | refine k_iaddE _ 46 dX9_undo_45 rfl (nI_add _ _) ?_ | refine k_iadd 46 dX9_undo_45 rfl ?_
          refine k_ialdN 47 dX9_undo_46 rfl (by (repeat (refine Is.ne ?_ (by omega))); first | assumption | exact Is.up (by omega)) (by omega) (by omega) ?_
          refine k_iastN 48 dX9_undo_47 rfl (by (repeat (refine Is.ne ?_ (by omega))); first | assumption | exact Is.up (by omega)) (by omega) (by omega) ?_
          refine k_iinc _ _ 51 dX9_undo_48 rfl rfl (nI_inc _) (by decide) rfl rfl ?_
          refine k_goto 22 dX9_undo_51 rfl ?_
          refine ih (i + 1) _ (upd f i (pa (72 * L.length + i))) (by omega) ?_ ?_ (fun j hj => ?_)
          · exact ⟨(by (repeat (refine Is.ne ?_ (by omega))); first | assumption | exact Is.up (by omega)), (by (repeat (refine Is.ne ?_ (by omega))); first | assumption | exact Is.up (by omega)), (by (repeat (refine Is.ne ?_ (by omega))); first | assumption | exact Is.up (by omega)), (by (repeat (refine Is.ne ?_ (by omega))); first | assumption | exact Is.up (by omega)), (by (repeat (refine Is.ne ?_ (by omega))); first | assumption | exact Is.up (by omega)), (by (repeat (refine Is.ne ?_ (by omega))); first | assumption | exact Is.up (by omega)), (by (repeat (refine Is.ne ?_ (by omega))); first | assumption | exact Is.up (by omega)), (by (repeat (refine Is.ne ?_ (by omega))); first | assumption | exact Is.up (by omega)), (by (repeat (refine Is.ne ?_ (by omega))); first | assumption | exact Is.up (by omega)), (by (repeat (refine Is.ne ?_ (by omega))); first | assumption | exact Is.up (by omega)), (by (repeat (refine Is.ne ?_ (by omega))); first | assumption | exact Is.up (by omega)), (by (repeat (refine Is.ne ?_ (by omega))); first | assumption | exact Is.up (by omega)), (by (repeat (refine Is.ne ?_ (by omega))); first | assumption | exact Is.up (by omega))⟩
          · exact (by (repeat (refine Eqx.up ?_ (by omega) (by omega))); first | exact Eqx.rf | assumption)
          by_cases e : j = i
          · rw [e, upd_s]
          · rw [upd_n _ _ e, hf j (by omega)]
    refine loop 72 0 _ s (by omega) ?_ ?_ (fun j hj => by omega)
    · exact ⟨(by (repeat (refine Is.ne ?_ (by omega))); first | assumption | exact Is.up (by omega)), (by (repeat (refine Is.ne ?_ (by omega))); first | assumption | exact Is.up (by omega)), (by (repeat (refine Is.ne ?_ (by omega))); first | assumption | exact Is.up (by omega)), (by (repeat (refine Is.ne ?_ (by omega))); first | assumption | exact Is.up (by omega)), (by (repeat (refine Is.ne ?_ (by omega))); first | assumption | exact Is.up (by omega)), (by (repeat (refine Is.ne ?_ (by omega))); first | assumption | exact Is.up (by omega)), (by (repeat (refine Is.ne ?_ (by omega))); first | assumption | exact Is.up (by omega)), (by (repeat (refine Is.ne ?_ (by omega))); first | assumption | exact Is.up (by omega)), (by (repeat (refine Is.ne ?_ (by omega))); first | assumption | exact Is.up (by omega)), (by (repeat (refine Is.ne ?_ (by omega))); first | assumption | exact Is.up (by omega)), (by (repeat (refine Is.ne ?_ (by omega))); first | assumption | exact Is.up (by omega)), (by (repeat (refine Is.ne ?_ (by omega))); first | assumption | exact Is.up (by omega)), (by (repeat (refine Is.ne ?_ (by omega))); first | assumption | exact Is.up (by omega))⟩
    · exact (by (repeat (refine Eqx.up ?_ (by omega) (by omega))); first | exact Eqx.rf | assumption)
theorem c_X9_keep {G : KG} {N : Nat} {w : WD} {b : Nat} {S : St} (h : RsM G N w b S (qM S) none) (hO : sOK S) : KCon G jX9_keep N w [rf G b] (RpO G N w b (a_keep S)) := by
  have h' := h
  obtain ⟨at_, tx, to_, dr, be, s, pa, im, nt, ah, sd, gr, ro, ⟨g0, g1, g2, g3, g4, g5, g6, g7, g8, g9, g10, g11, g12⟩, v1, v2, v3, v4, v5, v6, v7, v8⟩ := h'
  have hN := g12.1
  obtain ⟨o1, o2, ⟨o3, o4⟩, o5, o6, o7, o8, -⟩ := hO
  have hn7 := o1.1
  have hL7 := ok_l7 o3
  refine KCon.of ([some (rf G b), none]) (by decide) rfl (by simp [Value.category]) (Nat.le_of_ble_eq_true rfl) rfl ?_
  refine k_aload_n 1 dX9_keep_0 rfl rfl rfl ?_
  refine k_get 4 dX9_keep_1 rfl fX9_keep_96 (by (repeat (refine Is.ne ?_ (by omega))); first | assumption | exact Is.up (by omega)) (by rfl) ?_
  refine k_iconst (nI 2) 5 dX9_keep_4 rfl kc_2 ?_
  refine k_icmp_neN 11 8 dX9_keep_5 rfl rfl (by omega) (by omega) (fun c => ?_) (fun c => ?_)
  · have ea : a_keep S = (nI ((qK S).length + 1), (qF S, qM S, qP S, qK S ++ [qM S], qm S, qN S, qt S, qT S)) := by
      unfold a_keep
      rw [if_neg (by omega)]
    rw [ea]
    refine k_iconst (nI 0) 12 dX9_keep_11 rfl kc_0 ?_
    refine k_istore_n _ 13 dX9_keep_12 rfl rfl (by decide) rfl rfl ?_
    have loop : ∀ d i (w2 : WD) (f : Nat → Int32), i + d = 72 → RsC G N w2 b (qt S) (qP S).length (qK S).length (qm S) (.int at_) tx to_ dr be s pa f nt ah sd gr ro → Eqx w w2 b (b + 12) → (∀ j, f j = if 72 * (qK S).length ≤ j ∧ j < 72 * (qK S).length + i then s (j - 72 * (qK S).length) else im j) → KRun G jX9_keep N (RpO G N w b (nI ((qK S).length + 1), (qF S, qM S, qP S, qK S ++ [qM S], qm S, qN S, qt S, qT S))) 13 [some (rf G b), some (.int (nI i))] [] 0 0 w2 := by
      intro d
      induction d with
      | zero =>
        intro i w2 f hi ⟨g0, g1, g2, g3, g4, g5, g6, g7, g8, g9, g10, g11, g12⟩ hE hf
        refine k_iload_n 14 dX9_keep_13 rfl rfl rfl ?_
        refine k_bipush (nI 72) 16 dX9_keep_14 rfl kb_72 ?_
        refine k_icmp_geN 45 19 dX9_keep_16 rfl rfl (by omega) (by omega) (fun c => ?_) (fun c => ?_)
        · refine k_aload_n 46 dX9_keep_45 rfl rfl rfl ?_
          refine k_dup 47 dX9_keep_46 rfl rfl ?_
          refine k_get 50 dX9_keep_47 rfl fX9_keep_96 (by (repeat (refine Is.ne ?_ (by omega))); first | assumption | exact Is.up (by omega)) (by rfl) ?_
          refine k_iconst (nI 1) 51 dX9_keep_50 rfl kc_1 ?_
          first | refine k_iaddE _ 52 dX9_keep_51 rfl (nI_add _ _) ?_ | refine k_iadd 52 dX9_keep_51 rfl ?_
          refine k_put 55 dX9_keep_52 rfl pX9_keep_96 (by (repeat (refine Is.ne ?_ (by omega))); first | assumption | exact Is.up (by omega)) (Nat.le_of_ble_eq_true rfl) rfl rfl ?_
          have hC2 : RsC G N (va_up w2 b (ob 8 [rf G (b + 1), .int (nI (qt S)), rf G (b + 2), rf G (b + 3), rf G (b + 4), rf G (b + 5), rf G (b + 6), .int (nI (qP S).length), rf G (b + 7), .int (nI ((qK S).length + 1)), rf G (b + 8), .int (nI (qm S)), .int at_, rf G (b + 9), rf G (b + 10), rf G (b + 11), rf G (b + 12)])) b (qt S) (qP S).length ((qK S).length + 1) (qm S) (.int at_) tx to_ dr be s pa f nt ah sd gr ro := ⟨(by (repeat (refine Is.ne ?_ (by omega))); first | assumption | exact Is.up (by omega)), (by (repeat (refine Is.ne ?_ (by omega))); first | assumption | exact Is.up (by omega)), (by (repeat (refine Is.ne ?_ (by omega))); first | assumption | exact Is.up (by omega)), (by (repeat (refine Is.ne ?_ (by omega))); first | assumption | exact Is.up (by omega)), (by (repeat (refine Is.ne ?_ (by omega))); first | assumption | exact Is.up (by omega)), (by (repeat (refine Is.ne ?_ (by omega))); first | assumption | exact Is.up (by omega)), (by (repeat (refine Is.ne ?_ (by omega))); first | assumption | exact Is.up (by omega)), (by (repeat (refine Is.ne ?_ (by omega))); first | assumption | exact Is.up (by omega)), (by (repeat (refine Is.ne ?_ (by omega))); first | assumption | exact Is.up (by omega)), (by (repeat (refine Is.ne ?_ (by omega))); first | assumption | exact Is.up (by omega)), (by (repeat (refine Is.ne ?_ (by omega))); first | assumption | exact Is.up (by omega)), (by (repeat (refine Is.ne ?_ (by omega))); first | assumption | exact Is.up (by omega)), (by (repeat (refine Is.ne ?_ (by omega))); first | assumption | exact Is.up (by omega))⟩
          have hlen : (qK S ++ [qM S]).length = (qK S).length + 1 := by simp
          refine k_aload_n 56 dX9_keep_55 rfl rfl rfl ?_
          refine k_get 59 dX9_keep_56 rfl fX9_keep_96 (by (repeat (refine Is.ne ?_ (by omega))); first | assumption | exact Is.up (by omega)) (by rfl) ?_
          refine k_iret dX9_keep_59 rfl rfl (Nat.le_of_ble_eq_true rfl) ⟨rfl, ⟨at_, tx, to_, dr, be, s, pa, f, nt, ah, sd, gr, ro, ?_, v1, v2, v3, v4, fun q hq => ?_, v6, v7, v8⟩, (by (repeat (refine Eqx.up ?_ (by omega) (by omega))); first | exact Eqx.rf | assumption)⟩
          · show RsC G N _ b (qt S) (qP S).length (qK S ++ [qM S]).length (qm S) _ _ _ _ _ _ _ _ _ _ _ _ _
            rw [hlen]
            exact hC2
          have hq : q < (qK S ++ [qM S]).length := hq
          rw [hlen] at hq
          show V72 _ (oN (qF S)) ((qK S ++ [qM S]).getD q oM0)
          by_cases e : q = (qK S).length
          · have e1 : (qK S ++ [qM S]).getD q oM0 = qM S := by rw [e]; simp
            rw [e1]
            refine v3.cg hn7 hL7 (fun j hj => ?_)
            show f (72 * q + j) = s j
            rw [hf, if_pos (by omega), show 72 * q + j - 72 * (qK S).length = j by omega]
          · have e1 : (qK S ++ [qM S]).getD q oM0 = (qK S).getD q oM0 := by
              simp only [List.getD_eq_getElem?_getD]
              rw [List.getElem?_append_left (by omega)]
            rw [e1]
            have hm : (qK S).getD q oM0 ∈ qK S := by
              simp only [List.getD_eq_getElem?_getD]
              rw [List.getElem?_eq_getElem (by omega)]
              exact List.getElem_mem _
            refine (v5 q (by omega)).cg hn7 (ok_l7 (o7 _ hm).1) (fun j hj => ?_)
            show f (72 * q + j) = im (72 * q + j)
            rw [hf, if_neg (by omega)]
        · omega
      | succ d ih =>
        intro i w2 f hi ⟨g0, g1, g2, g3, g4, g5, g6, g7, g8, g9, g10, g11, g12⟩ hE hf
        refine k_iload_n 14 dX9_keep_13 rfl rfl rfl ?_
        refine k_bipush (nI 72) 16 dX9_keep_14 rfl kb_72 ?_
        refine k_icmp_geN 45 19 dX9_keep_16 rfl rfl (by omega) (by omega) (fun c => ?_) (fun c => ?_)
        · omega
        · refine k_aload_n 20 dX9_keep_19 rfl rfl rfl ?_
          refine k_get 23 dX9_keep_20 rfl fX9_keep_28 (by (repeat (refine Is.ne ?_ (by omega))); first | assumption | exact Is.up (by omega)) (by rfl) ?_
          refine k_bipush (nI 72) 25 dX9_keep_23 rfl kb_72 ?_
          refine k_aload_n 26 dX9_keep_25 rfl rfl rfl ?_
          refine k_get 29 dX9_keep_26 rfl fX9_keep_96 (by (repeat (refine Is.ne ?_ (by omega))); first | assumption | exact Is.up (by omega)) (by rfl) ?_
          first | refine k_imulE _ 30 dX9_keep_29 rfl (pk_mul _ _) ?_ | refine k_imul 30 dX9_keep_29 rfl ?_
          refine k_iload_n 31 dX9_keep_30 rfl rfl rfl ?_
          first | refine k_iaddE _ 32 dX9_keep_31 rfl (nI_add _ _) ?_ | refine k_iadd 32 dX9_keep_31 rfl ?_
          refine k_aload_n 33 dX9_keep_32 rfl rfl rfl ?_
          refine k_get 36 dX9_keep_33 rfl fX9_keep_22 (by (repeat (refine Is.ne ?_ (by omega))); first | assumption | exact Is.up (by omega)) (by rfl) ?_
          refine k_iload_n 37 dX9_keep_36 rfl rfl rfl ?_
          refine k_ialdN 38 dX9_keep_37 rfl (by (repeat (refine Is.ne ?_ (by omega))); first | assumption | exact Is.up (by omega)) (by omega) (by omega) ?_
          refine k_iastN 39 dX9_keep_38 rfl (by (repeat (refine Is.ne ?_ (by omega))); first | assumption | exact Is.up (by omega)) (by omega) (by omega) ?_
          refine k_iinc _ _ 42 dX9_keep_39 rfl rfl (nI_inc _) (by decide) rfl rfl ?_
          refine k_goto 13 dX9_keep_42 rfl ?_
          refine ih (i + 1) _ (upd f (72 * (qK S).length + i) (s i)) (by omega) ?_ ?_ (fun j => ?_)
          · exact ⟨(by (repeat (refine Is.ne ?_ (by omega))); first | assumption | exact Is.up (by omega)), (by (repeat (refine Is.ne ?_ (by omega))); first | assumption | exact Is.up (by omega)), (by (repeat (refine Is.ne ?_ (by omega))); first | assumption | exact Is.up (by omega)), (by (repeat (refine Is.ne ?_ (by omega))); first | assumption | exact Is.up (by omega)), (by (repeat (refine Is.ne ?_ (by omega))); first | assumption | exact Is.up (by omega)), (by (repeat (refine Is.ne ?_ (by omega))); first | assumption | exact Is.up (by omega)), (by (repeat (refine Is.ne ?_ (by omega))); first | assumption | exact Is.up (by omega)), (by (repeat (refine Is.ne ?_ (by omega))); first | assumption | exact Is.up (by omega)), (by (repeat (refine Is.ne ?_ (by omega))); first | assumption | exact Is.up (by omega)), (by (repeat (refine Is.ne ?_ (by omega))); first | assumption | exact Is.up (by omega)), (by (repeat (refine Is.ne ?_ (by omega))); first | assumption | exact Is.up (by omega)), (by (repeat (refine Is.ne ?_ (by omega))); first | assumption | exact Is.up (by omega)), (by (repeat (refine Is.ne ?_ (by omega))); first | assumption | exact Is.up (by omega))⟩
          · exact (by (repeat (refine Eqx.up ?_ (by omega) (by omega))); first | exact Eqx.rf | assumption)
          by_cases e : j = 72 * (qK S).length + i
          · rw [e, upd_s, if_pos (by omega), show 72 * (qK S).length + i - 72 * (qK S).length = i by omega]
          · rw [upd_n _ _ e, hf j]
            by_cases e2 : 72 * (qK S).length ≤ j ∧ j < 72 * (qK S).length + i
            · rw [if_pos e2, if_pos (by omega)]
            · rw [if_neg e2, if_neg (by omega)]
    refine loop 72 0 _ im (by omega) ?_ Eqx.rf (fun j => by rw [if_neg (by omega)])
    exact ⟨(by (repeat (refine Is.ne ?_ (by omega))); first | assumption | exact Is.up (by omega)), (by (repeat (refine Is.ne ?_ (by omega))); first | assumption | exact Is.up (by omega)), (by (repeat (refine Is.ne ?_ (by omega))); first | assumption | exact Is.up (by omega)), (by (repeat (refine Is.ne ?_ (by omega))); first | assumption | exact Is.up (by omega)), (by (repeat (refine Is.ne ?_ (by omega))); first | assumption | exact Is.up (by omega)), (by (repeat (refine Is.ne ?_ (by omega))); first | assumption | exact Is.up (by omega)), (by (repeat (refine Is.ne ?_ (by omega))); first | assumption | exact Is.up (by omega)), (by (repeat (refine Is.ne ?_ (by omega))); first | assumption | exact Is.up (by omega)), (by (repeat (refine Is.ne ?_ (by omega))); first | assumption | exact Is.up (by omega)), (by (repeat (refine Is.ne ?_ (by omega))); first | assumption | exact Is.up (by omega)), (by (repeat (refine Is.ne ?_ (by omega))); first | assumption | exact Is.up (by omega)), (by (repeat (refine Is.ne ?_ (by omega))); first | assumption | exact Is.up (by omega)), (by (repeat (refine Is.ne ?_ (by omega))); first | assumption | exact Is.up (by omega))⟩
  · have ea : a_keep S = (-3, S) := by
      unfold a_keep
      rw [if_pos (by omega)]
    rw [ea]
    refine k_bipush (-3) 10 dX9_keep_8 rfl kbm_3 ?_
    refine k_iret dX9_keep_10 rfl rfl (Nat.le_of_ble_eq_true rfl) ⟨rfl, h, Eqx.rf⟩
theorem c_X9_back {G : KG} {N : Nat} {w : WD} {b : Nat} {S : St} (h : RsM G N w b S (qM S) none) (hO : sOK S) : KCon G jX9_back N w [rf G b] (RpO G N w b (a_back S)) := by
  have h' := h
  obtain ⟨at_, tx, to_, dr, be, s, pa, im, nt, ah, sd, gr, ro, ⟨g0, g1, g2, g3, g4, g5, g6, g7, g8, g9, g10, g11, g12⟩, v1, v2, v3, v4, v5, v6, v7, v8⟩ := h'
  have hN := g12.1
  obtain ⟨o1, o2, ⟨o3, o4⟩, o5, o6, o7, o8, -⟩ := hO
  have hn7 := o1.1
  refine KCon.of ([some (rf G b), none]) (by decide) rfl (by simp [Value.category]) (Nat.le_of_ble_eq_true rfl) rfl ?_
  rcases List.eq_nil_or_concat (qK S) with e | ⟨L, M1, e⟩
  · have ea : a_back S = (-2, S) := by
      unfold a_back
      rw [e]
      rfl
    rw [ea]
    rw [e] at g0
    refine k_aload_n 1 dX9_back_0 rfl rfl rfl ?_
    refine k_get 4 dX9_back_1 rfl fX9_back_96 (by (repeat (refine Is.ne ?_ (by omega))); first | assumption | exact Is.up (by omega)) (by rfl) ?_
    refine k_if_neN (a := 0) 10 7 dX9_back_4 rfl rfl (by omega) (fun c => by omega) (fun c => ?_)
    refine k_bipush (-2) 9 dX9_back_7 rfl kbm_2 ?_
    refine k_iret dX9_back_9 rfl rfl (Nat.le_of_ble_eq_true rfl) ⟨rfl, h, Eqx.rf⟩
  · have e : qK S = L ++ [M1] := by rw [e]; simp
    have ea : a_back S = (nI L.length, (qF S, M1, [], L, qm S, qN S, qt S, qT S)) := by
      unfold a_back
      rw [e]
      simp
    rw [ea]
    obtain ⟨oM, -⟩ := o7 M1 (by rw [e]; simp)
    have hlen : (qK S).length = L.length + 1 := by rw [e]; simp
    have vM1 := v5 L.length (by omega)
    rw [show (qK S).getD L.length oM0 = M1 by rw [e]; simp] at vM1
    rw [hlen] at g0
    refine k_aload_n 1 dX9_back_0 rfl rfl rfl ?_
    refine k_get 4 dX9_back_1 rfl fX9_back_96 (by (repeat (refine Is.ne ?_ (by omega))); first | assumption | exact Is.up (by omega)) (by rfl) ?_
    refine k_if_neN 10 7 dX9_back_4 rfl rfl (by omega) (fun c => ?_) (fun c => by omega)
    refine k_aload_n 11 dX9_back_10 rfl rfl rfl ?_
    refine k_dup 12 dX9_back_11 rfl rfl ?_
    refine k_get 15 dX9_back_12 rfl fX9_back_96 (by (repeat (refine Is.ne ?_ (by omega))); first | assumption | exact Is.up (by omega)) (by rfl) ?_
    refine k_iconst (nI 1) 16 dX9_back_15 rfl kc_1 ?_
    first | refine k_isubE _ 17 dX9_back_16 rfl (pk_sub (by omega)) ?_ | refine k_isub 17 dX9_back_16 rfl ?_
    refine k_put 20 dX9_back_17 rfl pX9_back_96 (by (repeat (refine Is.ne ?_ (by omega))); first | assumption | exact Is.up (by omega)) (Nat.le_of_ble_eq_true rfl) rfl rfl ?_
    refine k_iconst (nI 0) 21 dX9_back_20 rfl kc_0 ?_
    refine k_istore_n _ 22 dX9_back_21 rfl rfl (by decide) rfl rfl ?_
    have loop : ∀ d i (w2 : WD) (f : Nat → Int32), i + d = 72 → RsC G N w2 b (qt S) (qP S).length L.length (qm S) (.int at_) tx to_ dr be f pa im nt ah sd gr ro → Eqx w w2 b (b + 12) → (∀ j, j < i → f j = im (72 * L.length + j)) → KRun G jX9_back N (RpO G N w b (nI L.length, (qF S, M1, [], L, qm S, qN S, qt S, qT S))) 22 [some (rf G b), some (.int (nI i))] [] 0 0 w2 := by
      intro d
      induction d with
      | zero =>
        intro i w2 f hi ⟨g0, g1, g2, g3, g4, g5, g6, g7, g8, g9, g10, g11, g12⟩ hE hf
        refine k_iload_n 23 dX9_back_22 rfl rfl rfl ?_
        refine k_bipush (nI 72) 25 dX9_back_23 rfl kb_72 ?_
        refine k_icmp_geN 54 28 dX9_back_25 rfl rfl (by omega) (by omega) (fun c => ?_) (fun c => ?_)
        · refine k_aload_n 55 dX9_back_54 rfl rfl rfl ?_
          refine k_iconst (nI 0) 56 dX9_back_55 rfl kc_0 ?_
          refine k_put 59 dX9_back_56 rfl pX9_back_93 (by (repeat (refine Is.ne ?_ (by omega))); first | assumption | exact Is.up (by omega)) (Nat.le_of_ble_eq_true rfl) rfl rfl ?_
          refine k_aload_n 60 dX9_back_59 rfl rfl rfl ?_
          refine k_get 63 dX9_back_60 rfl fX9_back_96 (by (repeat (refine Is.ne ?_ (by omega))); first | assumption | exact Is.up (by omega)) (by rfl) ?_
          refine k_iret dX9_back_63 rfl rfl (Nat.le_of_ble_eq_true rfl) ⟨rfl, ⟨at_, tx, to_, dr, be, f, pa, im, nt, ah, sd, gr, ro, ⟨(by (repeat (refine Is.ne ?_ (by omega))); first | assumption | exact Is.up (by omega)), (by (repeat (refine Is.ne ?_ (by omega))); first | assumption | exact Is.up (by omega)), (by (repeat (refine Is.ne ?_ (by omega))); first | assumption | exact Is.up (by omega)), (by (repeat (refine Is.ne ?_ (by omega))); first | assumption | exact Is.up (by omega)), (by (repeat (refine Is.ne ?_ (by omega))); first | assumption | exact Is.up (by omega)), (by (repeat (refine Is.ne ?_ (by omega))); first | assumption | exact Is.up (by omega)), (by (repeat (refine Is.ne ?_ (by omega))); first | assumption | exact Is.up (by omega)), (by (repeat (refine Is.ne ?_ (by omega))); first | assumption | exact Is.up (by omega)), (by (repeat (refine Is.ne ?_ (by omega))); first | assumption | exact Is.up (by omega)), (by (repeat (refine Is.ne ?_ (by omega))); first | assumption | exact Is.up (by omega)), (by (repeat (refine Is.ne ?_ (by omega))); first | assumption | exact Is.up (by omega)), (by (repeat (refine Is.ne ?_ (by omega))); first | assumption | exact Is.up (by omega)), (by (repeat (refine Is.ne ?_ (by omega))); first | assumption | exact Is.up (by omega))⟩, v1, v2, vM1.cg hn7 (ok_l7 oM) (fun j hj => hf j (by omega)), fun q hq => absurd hq (Nat.not_lt_zero q), fun q hq => ?_, v6, v7, v8⟩, (by (repeat (refine Eqx.up ?_ (by omega) (by omega))); first | exact Eqx.rf | assumption)⟩
          have hq : q < L.length := hq
          have := v5 q (by omega)
          rw [show (qK S).getD q oM0 = L.getD q oM0 by
            rw [e]
            simp only [List.getD_eq_getElem?_getD]
            rw [List.getElem?_append_left hq]] at this
          exact this
        · omega
      | succ d ih =>
        intro i w2 f hi ⟨g0, g1, g2, g3, g4, g5, g6, g7, g8, g9, g10, g11, g12⟩ hE hf
        refine k_iload_n 23 dX9_back_22 rfl rfl rfl ?_
        refine k_bipush (nI 72) 25 dX9_back_23 rfl kb_72 ?_
        refine k_icmp_geN 54 28 dX9_back_25 rfl rfl (by omega) (by omega) (fun c => ?_) (fun c => ?_)
        · omega
        · refine k_aload_n 29 dX9_back_28 rfl rfl rfl ?_
          refine k_get 32 dX9_back_29 rfl fX9_back_22 (by (repeat (refine Is.ne ?_ (by omega))); first | assumption | exact Is.up (by omega)) (by rfl) ?_
          refine k_iload_n 33 dX9_back_32 rfl rfl rfl ?_
          refine k_aload_n 34 dX9_back_33 rfl rfl rfl ?_
          refine k_get 37 dX9_back_34 rfl fX9_back_28 (by (repeat (refine Is.ne ?_ (by omega))); first | assumption | exact Is.up (by omega)) (by rfl) ?_
          refine k_bipush (nI 72) 39 dX9_back_37 rfl kb_72 ?_
          refine k_aload_n 40 dX9_back_39 rfl rfl rfl ?_
          refine k_get 43 dX9_back_40 rfl fX9_back_96 (by (repeat (refine Is.ne ?_ (by omega))); first | assumption | exact Is.up (by omega)) (by rfl) ?_
          first | refine k_imulE _ 44 dX9_back_43 rfl (pk_mul _ _) ?_ | refine k_imul 44 dX9_back_43 rfl ?_
          refine k_iload_n 45 dX9_back_44 rfl rfl rfl ?_
          first | refine k_iaddE _ 46 dX9_back_45 rfl (nI_add _ _) ?_ | refine k_iadd 46 dX9_back_45 rfl ?_
          refine k_ialdN 47 dX9_back_46 rfl (by (repeat (refine Is.ne ?_ (by omega))); first | assumption | exact Is.up (by omega)) (by omega) (by omega) ?_
          refine k_iastN 48 dX9_back_47 rfl (by (repeat (refine Is.ne ?_ (by omega))); first | assumption | exact Is.up (by omega)) (by omega) (by omega) ?_
          refine k_iinc _ _ 51 dX9_back_48 rfl rfl (nI_inc _) (by decide) rfl rfl ?_
          refine k_goto 22 dX9_back_51 rfl ?_
          refine ih (i + 1) _ (upd f i (im (72 * L.length + i))) (by omega) ?_ ?_ (fun j hj => ?_)
          · exact ⟨(by (repeat (refine Is.ne ?_ (by omega))); first | assumption | exact Is.up (by omega)), (by (repeat (refine Is.ne ?_ (by omega))); first | assumption | exact Is.up (by omega)), (by (repeat (refine Is.ne ?_ (by omega))); first | assumption | exact Is.up (by omega)), (by (repeat (refine Is.ne ?_ (by omega))); first | assumption | exact Is.up (by omega)), (by (repeat (refine Is.ne ?_ (by omega))); first | assumption | exact Is.up (by omega)), (by (repeat (refine Is.ne ?_ (by omega))); first | assumption | exact Is.up (by omega)), (by (repeat (refine Is.ne ?_ (by omega))); first | assumption | exact Is.up (by omega)), (by (repeat (refine Is.ne ?_ (by omega))); first | assumption | exact Is.up (by omega)), (by (repeat (refine Is.ne ?_ (by omega))); first | assumption | exact Is.up (by omega)), (by (repeat (refine Is.ne ?_ (by omega))); first | assumption | exact Is.up (by omega)), (by (repeat (refine Is.ne ?_ (by omega))); first | assumption | exact Is.up (by omega)), (by (repeat (refine Is.ne ?_ (by omega))); first | assumption | exact Is.up (by omega)), (by (repeat (refine Is.ne ?_ (by omega))); first | assumption | exact Is.up (by omega))⟩
          · exact (by (repeat (refine Eqx.up ?_ (by omega) (by omega))); first | exact Eqx.rf | assumption)
          by_cases e : j = i
          · rw [e, upd_s]
          · rw [upd_n _ _ e, hf j (by omega)]
    refine loop 72 0 _ s (by omega) ?_ ?_ (fun j hj => by omega)
    · exact ⟨(by (repeat (refine Is.ne ?_ (by omega))); first | assumption | exact Is.up (by omega)), (by (repeat (refine Is.ne ?_ (by omega))); first | assumption | exact Is.up (by omega)), (by (repeat (refine Is.ne ?_ (by omega))); first | assumption | exact Is.up (by omega)), (by (repeat (refine Is.ne ?_ (by omega))); first | assumption | exact Is.up (by omega)), (by (repeat (refine Is.ne ?_ (by omega))); first | assumption | exact Is.up (by omega)), (by (repeat (refine Is.ne ?_ (by omega))); first | assumption | exact Is.up (by omega)), (by (repeat (refine Is.ne ?_ (by omega))); first | assumption | exact Is.up (by omega)), (by (repeat (refine Is.ne ?_ (by omega))); first | assumption | exact Is.up (by omega)), (by (repeat (refine Is.ne ?_ (by omega))); first | assumption | exact Is.up (by omega)), (by (repeat (refine Is.ne ?_ (by omega))); first | assumption | exact Is.up (by omega)), (by (repeat (refine Is.ne ?_ (by omega))); first | assumption | exact Is.up (by omega)), (by (repeat (refine Is.ne ?_ (by omega))); first | assumption | exact Is.up (by omega)), (by (repeat (refine Is.ne ?_ (by omega))); first | assumption | exact Is.up (by omega))⟩
    · exact (by (repeat (refine Eqx.up ?_ (by omega) (by omega))); first | exact Eqx.rf | assumption)
