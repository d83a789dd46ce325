/-! the class's makers -/
-- 
theorem k_cs {G : KG} {J : KJ} {N : Nat} {Post : Option Value → WD → Prop} {pc : Nat} {L : List (Option Value)} {st : List Value} {cl sl : Nat} {w : WD} (cl1 sl1 : Nat) (h1 : cl = cl1) (h2 : sl = sl1) (h : KRun G J N Post pc L st cl1 sl1 w) : KRun G J N Post pc L st cl sl w := by
  subst h1
  subst h2
  exact h
theorem Is.mn {N N2 : Nat} {w : WD} {k : Nat} {e : va_E} (h : Is N w k e) (hN : N ≤ N2) : Is N2 w k e := ⟨Nat.lt_of_lt_of_le h.1 hN, h.2⟩
theorem c_X4_init {G : KG} {w : WD} {a : Nat} (hg : gL G) (h : w a = ob 3 [.null, .null, .null, .null, .int (nI 0), .int (nI 0)]) : KCon G jX4_init (a + 1) w [rf G a] (fun r w1 => r = none ∧ ScR G (a + 5) w1 a (fun _ => 0) (fun _ => 0) (fun _ => 0) (fun _ => 0) 0 0 ∧ Eqx w w1 a (a + 5)) := by
  refine KCon.of ([some (rf G a)]) (by decide) rfl (by simp [Value.category]) (Nat.le_of_ble_eq_true rfl) rfl ?_
  refine k_aload_n 1 dX4_init_0 rfl rfl rfl ?_
  refine k_objInit 4 dX4_init_1 rfl oX4_init_3 (Nat.le_of_ble_eq_true rfl) (Nat.le_of_ble_eq_true rfl) ?_
  refine k_aload_n 5 dX4_init_4 rfl rfl rfl ?_
  refine k_bipush (nI 7) 7 dX4_init_5 rfl kb_7 ?_
  refine k_newa 9 hg dX4_init_7 rfl aX4_init (by omega) ⟨Nat.le_of_ble_eq_true rfl, Nat.le_of_ble_eq_true rfl⟩ ?_
  refine k_put 12 dX4_init_9 rfl pX4_init_9 ⟨by omega, by (repeat (refine (va_up_ne _ _ (by omega)).trans ?_)); first | exact va_up_self _ _ _ | assumption⟩ (Nat.le_of_ble_eq_true rfl) rfl rfl ?_
  refine k_aload_n 13 dX4_init_12 rfl rfl rfl ?_
  refine k_bipush (nI 7) 15 dX4_init_13 rfl kb_7 ?_
  refine k_newa 17 hg dX4_init_15 rfl aX4_init (by omega) ⟨Nat.le_of_ble_eq_true rfl, Nat.le_of_ble_eq_true rfl⟩ ?_
  refine k_put 20 dX4_init_17 rfl pX4_init_15 ⟨by omega, by (repeat (refine (va_up_ne _ _ (by omega)).trans ?_)); first | exact va_up_self _ _ _ | assumption⟩ (Nat.le_of_ble_eq_true rfl) rfl rfl ?_
  refine k_aload_n 21 dX4_init_20 rfl rfl rfl ?_
  refine k_bipush (nI 7) 23 dX4_init_21 rfl kb_7 ?_
  refine k_newa 25 hg dX4_init_23 rfl aX4_init (by omega) ⟨Nat.le_of_ble_eq_true rfl, Nat.le_of_ble_eq_true rfl⟩ ?_
  refine k_put 28 dX4_init_25 rfl pX4_init_18 ⟨by omega, by (repeat (refine (va_up_ne _ _ (by omega)).trans ?_)); first | exact va_up_self _ _ _ | assumption⟩ (Nat.le_of_ble_eq_true rfl) rfl rfl ?_
  refine k_aload_n 29 dX4_init_28 rfl rfl rfl ?_
  refine k_bipush (nI 49) 31 dX4_init_29 rfl kb_49 ?_
  refine k_newa 33 hg dX4_init_31 rfl aX4_init (by omega) ⟨Nat.le_of_ble_eq_true rfl, Nat.le_of_ble_eq_true rfl⟩ ?_
  refine k_put 36 dX4_init_33 rfl pX4_init_21 ⟨by omega, by (repeat (refine (va_up_ne _ _ (by omega)).trans ?_)); first | exact va_up_self _ _ _ | assumption⟩ (Nat.le_of_ble_eq_true rfl) rfl rfl ?_
  refine k_vret dX4_init_36 rfl rfl (Nat.le_of_ble_eq_true rfl) ⟨rfl, ⟨⟨by omega, by (repeat (refine (va_up_ne _ _ (by omega)).trans ?_)); first | exact va_up_self _ _ _ | assumption⟩, ⟨by omega, by (repeat (refine (va_up_ne _ _ (by omega)).trans ?_)); first | exact va_up_self _ _ _ | assumption⟩, ⟨by omega, by (repeat (refine (va_up_ne _ _ (by omega)).trans ?_)); first | exact va_up_self _ _ _ | assumption⟩, ⟨by omega, by (repeat (refine (va_up_ne _ _ (by omega)).trans ?_)); first | exact va_up_self _ _ _ | assumption⟩, ⟨by omega, by (repeat (refine (va_up_ne _ _ (by omega)).trans ?_)); first | exact va_up_self _ _ _ | assumption⟩⟩, (by (repeat (refine Eqx.up ?_ (by omega) (by omega))); first | exact Eqx.rf | assumption)⟩
theorem c_X1_init {G : KG} {w : WD} {a : Nat} (hg : gL G) (h : w a = ob 1 [.null, .null, .null, .int (nI 0), .int (nI 0)]) : KCon G jX1_init (a + 1) w [rf G a] (fun r w1 => r = none ∧ FkR G (a + 4) w1 a (fun _ => 0) (fun _ => 0) (fun _ => 0) 0 0 ∧ Eqx w w1 a (a + 4)) := by
  refine KCon.of ([some (rf G a)]) (by decide) rfl (by simp [Value.category]) (Nat.le_of_ble_eq_true rfl) rfl ?_
  refine k_aload_n 1 dX1_init_0 rfl rfl rfl ?_
  refine k_objInit 4 dX1_init_1 rfl oX1_init_3 (Nat.le_of_ble_eq_true rfl) (Nat.le_of_ble_eq_true rfl) ?_
  refine k_aload_n 5 dX1_init_4 rfl rfl rfl ?_
  refine k_bipush (nI 7) 7 dX1_init_5 rfl kb_7 ?_
  refine k_newa 9 hg dX1_init_7 rfl aX1_init (by omega) ⟨Nat.le_of_ble_eq_true rfl, Nat.le_of_ble_eq_true rfl⟩ ?_
  refine k_put 12 dX1_init_9 rfl pX1_init_9 ⟨by omega, by (repeat (refine (va_up_ne _ _ (by omega)).trans ?_)); first | exact va_up_self _ _ _ | assumption⟩ (Nat.le_of_ble_eq_true rfl) rfl rfl ?_
  refine k_aload_n 13 dX1_init_12 rfl rfl rfl ?_
  refine k_bipush (nI 7) 15 dX1_init_13 rfl kb_7 ?_
  refine k_newa 17 hg dX1_init_15 rfl aX1_init (by omega) ⟨Nat.le_of_ble_eq_true rfl, Nat.le_of_ble_eq_true rfl⟩ ?_
  refine k_put 20 dX1_init_17 rfl pX1_init_15 ⟨by omega, by (repeat (refine (va_up_ne _ _ (by omega)).trans ?_)); first | exact va_up_self _ _ _ | assumption⟩ (Nat.le_of_ble_eq_true rfl) rfl rfl ?_
  refine k_aload_n 21 dX1_init_20 rfl rfl rfl ?_
  refine k_bipush (nI 7) 23 dX1_init_21 rfl kb_7 ?_
  refine k_newa 25 hg dX1_init_23 rfl aX1_init (by omega) ⟨Nat.le_of_ble_eq_true rfl, Nat.le_of_ble_eq_true rfl⟩ ?_
  refine k_put 28 dX1_init_25 rfl pX1_init_18 ⟨by omega, by (repeat (refine (va_up_ne _ _ (by omega)).trans ?_)); first | exact va_up_self _ _ _ | assumption⟩ (Nat.le_of_ble_eq_true rfl) rfl rfl ?_
  refine k_vret dX1_init_28 rfl rfl (Nat.le_of_ble_eq_true rfl) ⟨rfl, ⟨⟨by omega, by (repeat (refine (va_up_ne _ _ (by omega)).trans ?_)); first | exact va_up_self _ _ _ | assumption⟩, ⟨by omega, by (repeat (refine (va_up_ne _ _ (by omega)).trans ?_)); first | exact va_up_self _ _ _ | assumption⟩, ⟨by omega, by (repeat (refine (va_up_ne _ _ (by omega)).trans ?_)); first | exact va_up_self _ _ _ | assumption⟩, ⟨by omega, by (repeat (refine (va_up_ne _ _ (by omega)).trans ?_)); first | exact va_up_self _ _ _ | assumption⟩⟩, (by (repeat (refine Eqx.up ?_ (by omega) (by omega))); first | exact Eqx.rf | assumption)⟩
theorem FkR.mn {G : KG} {N N2 : Nat} {w : WD} {a num se : Nat} {kd wo pe : Nat → Int32} (h : FkR G N w a kd wo pe num se) (hN : N ≤ N2) : FkR G N2 w a kd wo pe num se := ⟨h.1.mn hN, h.2.1.mn hN, h.2.2.1.mn hN, h.2.2.2.mn hN⟩
theorem ScR.mn {G : KG} {N N2 : Nat} {w : WD} {a len gone : Nat} {l wh pu db : Nat → Int32} (h : ScR G N w a l wh pu db len gone) (hN : N ≤ N2) : ScR G N2 w a l wh pu db len gone := ⟨h.1.mn hN, h.2.1.mn hN, h.2.2.1.mn hN, h.2.2.2.1.mn hN, h.2.2.2.2.mn hN⟩
theorem Eqx.at {w w1 : WD} {lo hi k : Nat} {e : va_E} (h : Eqx w w1 lo hi) (hk : k < lo ∨ hi ≤ k) (he : w k = e) : w1 k = e := (h k hk).trans he
theorem c_X0_init {G : KG} {w : WD} {a fo b : Nat} (hg : gL G) (h : w a = ob 0 [.int (nI 0), .int (nI 0), .null, .null, .null]) : KCon G jX0_init (a + 1) w [rf G a, rf G fo, rf G b] (fun r w1 => r = none ∧ QsC G (a + 6) w1 a fo b ∧ Eqx w w1 a (a + 6)) := by
  refine KCon.of ([some (rf G a), some (rf G fo), some (rf G b)]) (by decide) rfl (by simp [Value.category]) (Nat.le_of_ble_eq_true rfl) rfl ?_
  refine k_aload_n 1 dX0_init_0 rfl rfl rfl ?_
  refine k_objInit 4 dX0_init_1 rfl oX0_init_1 (Nat.le_of_ble_eq_true rfl) (Nat.le_of_ble_eq_true rfl) ?_
  refine k_aload_n 5 dX0_init_4 rfl rfl rfl ?_
  refine k_new (ci := 3) (C := RX4) (T := TX4) (Nf := 6) 8 hg dX0_init_5 rfl [.null, .null, .null, .null, .int (nI 0), .int (nI 0)] rfl nX0_init_7.1 tyX4 tyX4_ok nX0_init_7.2 (by decide +kernel) ⟨Nat.le_of_ble_eq_true rfl, Nat.le_of_ble_eq_true rfl⟩ ?_
  refine k_dup 9 dX0_init_8 rfl rfl ?_
  refine k_callIN (As := []) 12 hg dX0_init_9 rfl vX0_init_9 rfl rfl (Nat.le_of_ble_eq_true rfl) ⟨Nat.le_of_ble_eq_true rfl, Nat.le_of_ble_eq_true rfl⟩ (c_X4_init (a := a + 1) hg (va_up_self _ _ _)) (fun r1 w1 x1 => ?_)
  obtain ⟨rfl, hS, hE⟩ := x1
  refine k_cs 5 _ rfl rfl ?_
  have h1 : w1 a = ob 0 [.int (nI 0), .int (nI 0), .null, .null, .null] := (hE a (by omega)).trans ((va_up_ne _ _ (by omega)).trans h)
  have hE0 : Eqx w w1 a (a + 6) := fun k hk => (hE k (by omega)).trans (va_up_ne _ _ (by omega))
  refine k_put 15 dX0_init_12 rfl pX0_init_10 ⟨by omega, by (repeat (refine (va_up_ne _ _ (by omega)).trans ?_)); first | exact va_up_self _ _ _ | assumption⟩ (Nat.le_of_ble_eq_true rfl) rfl rfl ?_
  refine k_aload_n 16 dX0_init_15 rfl rfl rfl ?_
  refine k_aload_n 17 dX0_init_16 rfl rfl rfl ?_
  refine k_put 20 dX0_init_17 rfl pX0_init_16 ⟨by omega, by (repeat (refine (va_up_ne _ _ (by omega)).trans ?_)); first | exact va_up_self _ _ _ | assumption⟩ (Nat.le_of_ble_eq_true rfl) rfl rfl ?_
  refine k_aload_n 21 dX0_init_20 rfl rfl rfl ?_
  refine k_aload_n 22 dX0_init_21 rfl rfl rfl ?_
  refine k_put 25 dX0_init_22 rfl pX0_init_20 ⟨by omega, by (repeat (refine (va_up_ne _ _ (by omega)).trans ?_)); first | exact va_up_self _ _ _ | assumption⟩ (Nat.le_of_ble_eq_true rfl) rfl rfl ?_
  refine k_nm (fun w3 hw3 => ?_)
  have hE3 : Eqx w1 w3 a (a + 1) := by
    rw [hw3]
    exact (by (repeat (refine Eqx.up ?_ (by omega) (by omega))); first | exact Eqx.rf | assumption)
  have h3 : Is (a + 6) w3 a (ChX G a fo b (.int (nI 0)) (.int (nI 0))) := by
    rw [hw3]
    exact ⟨by omega, by (repeat (refine (va_up_ne _ _ (by omega)).trans ?_)); first | exact va_up_self _ _ _ | assumption⟩
  clear hw3
  refine k_vret dX0_init_25 rfl rfl (Nat.le_of_ble_eq_true rfl) ⟨rfl, ⟨_, _, h3, _, _, _, _, _, _, hS.fr (fun k _ _ => hE3 k (by omega))⟩, hE0.tr (hE3.wd (by omega) (by omega))⟩
theorem c_X2_init {G : KG} {w : WD} {a fo b : Nat} (hg : gL G) (h : w a = ob 2 [.int (nI 0), .int (nI 0), .int (nI 0), .null, .null, .null, .null, .null]) : KCon G jX2_init (a + 1) w [rf G a, rf G fo, rf G b] (fun r w1 => r = none ∧ QsF G (a + 8) w1 a fo b ∧ Eqx w w1 a (a + 8)) := by
  refine KCon.of ([some (rf G a), some (rf G fo), some (rf G b)]) (by decide) rfl (by simp [Value.category]) (Nat.le_of_ble_eq_true rfl) rfl ?_
  refine k_aload_n 1 dX2_init_0 rfl rfl rfl ?_
  refine k_objInit 4 dX2_init_1 rfl oX2_init_3 (Nat.le_of_ble_eq_true rfl) (Nat.le_of_ble_eq_true rfl) ?_
  refine k_aload_n 5 dX2_init_4 rfl rfl rfl ?_
  refine k_new (ci := 3) (C := RX4) (T := TX4) (Nf := 6) 8 hg dX2_init_5 rfl [.null, .null, .null, .null, .int (nI 0), .int (nI 0)] rfl nX2_init_9.1 tyX4 tyX4_ok nX2_init_9.2 (by decide +kernel) ⟨Nat.le_of_ble_eq_true rfl, Nat.le_of_ble_eq_true rfl⟩ ?_
  refine k_dup 9 dX2_init_8 rfl rfl ?_
  refine k_callIN (As := []) 12 hg dX2_init_9 rfl vX2_init_11 rfl rfl (Nat.le_of_ble_eq_true rfl) ⟨Nat.le_of_ble_eq_true rfl, Nat.le_of_ble_eq_true rfl⟩ (c_X4_init (a := a + 1) hg (va_up_self _ _ _)) (fun r1 w1 x1 => ?_)
  obtain ⟨rfl, hS, hE⟩ := x1
  refine k_cs 5 _ rfl rfl ?_
  have h1 : w1 a = ob 2 [.int (nI 0), .int (nI 0), .int (nI 0), .null, .null, .null, .null, .null] := (hE a (by omega)).trans ((va_up_ne _ _ (by omega)).trans h)
  have hE0 : Eqx w w1 a (a + 8) := fun k hk => (hE k (by omega)).trans (va_up_ne _ _ (by omega))
  refine k_put 15 dX2_init_12 rfl pX2_init_12 ⟨by omega, by (repeat (refine (va_up_ne _ _ (by omega)).trans ?_)); first | exact va_up_self _ _ _ | assumption⟩ (Nat.le_of_ble_eq_true rfl) rfl rfl ?_
  refine k_aload_n 16 dX2_init_15 rfl rfl rfl ?_
  refine k_sipush (nI 128) 19 dX2_init_16 rfl ks_128 ?_
  refine k_newa 21 hg dX2_init_19 rfl aX2_init (by omega) ⟨Nat.le_of_ble_eq_true rfl, Nat.le_of_ble_eq_true rfl⟩ ?_
  refine k_put 24 dX2_init_21 rfl pX2_init_18 ⟨by omega, by (repeat (refine (va_up_ne _ _ (by omega)).trans ?_)); first | exact va_up_self _ _ _ | assumption⟩ (Nat.le_of_ble_eq_true rfl) rfl rfl ?_
  refine k_aload_n 25 dX2_init_24 rfl rfl rfl ?_
  refine k_sipush (nI 128) 28 dX2_init_25 rfl ks_128 ?_
  refine k_newa 30 hg dX2_init_28 rfl aX2_init (by omega) ⟨Nat.le_of_ble_eq_true rfl, Nat.le_of_ble_eq_true rfl⟩ ?_
  refine k_put 33 dX2_init_30 rfl pX2_init_22 ⟨by omega, by (repeat (refine (va_up_ne _ _ (by omega)).trans ?_)); first | exact va_up_self _ _ _ | assumption⟩ (Nat.le_of_ble_eq_true rfl) rfl rfl ?_
  refine k_aload_n 34 dX2_init_33 rfl rfl rfl ?_
  refine k_aload_n 35 dX2_init_34 rfl rfl rfl ?_
  refine k_put 38 dX2_init_35 rfl pX2_init_25 ⟨by omega, by (repeat (refine (va_up_ne _ _ (by omega)).trans ?_)); first | exact va_up_self _ _ _ | assumption⟩ (Nat.le_of_ble_eq_true rfl) rfl rfl ?_
  refine k_aload_n 39 dX2_init_38 rfl rfl rfl ?_
  refine k_aload_n 40 dX2_init_39 rfl rfl rfl ?_
  refine k_put 43 dX2_init_40 rfl pX2_init_29 ⟨by omega, by (repeat (refine (va_up_ne _ _ (by omega)).trans ?_)); first | exact va_up_self _ _ _ | assumption⟩ (Nat.le_of_ble_eq_true rfl) rfl rfl ?_
  refine k_nm (fun w3 hw3 => ?_)
  have hE3 : ∀ k, k ≠ a → k ≠ a + 6 → k ≠ a + 7 → w3 k = w1 k := by
    intro k n1 n2 n3
    rw [hw3]
    (repeat (refine (va_up_ne _ _ (by omega)).trans ?_))
    rfl
  have h3 : Is (a + 8) w3 a (FsX G a fo b (.int (nI 0)) (.int (nI 0)) (.int (nI 0))) := by
    rw [hw3]
    exact ⟨by omega, by (repeat (refine (va_up_ne _ _ (by omega)).trans ?_)); first | exact va_up_self _ _ _ | assumption⟩
  have h4 : Is (a + 8) w3 (a + 6) (ia G 128 (fun _ => 0)) := by
    rw [hw3]
    exact ⟨by omega, by (repeat (refine (va_up_ne _ _ (by omega)).trans ?_)); first | exact va_up_self _ _ _ | assumption⟩
  have h5 : Is (a + 8) w3 (a + 7) (ia G 128 (fun _ => 0)) := by
    rw [hw3]
    exact ⟨by omega, by (repeat (refine (va_up_ne _ _ (by omega)).trans ?_)); first | exact va_up_self _ _ _ | assumption⟩
  clear hw3
  refine k_vret dX2_init_43 rfl rfl (Nat.le_of_ble_eq_true rfl) ⟨rfl, ⟨_, nI 0, nI 0, h3, ⟨_, _, _, _, _, _, (hS.mn (by omega)).fr (fun k _ _ => hE3 k (by omega) (by omega) (by omega))⟩, ⟨_, _, h4, h5, nI_0.symm, nI_0.symm⟩⟩, fun k hk => (hE3 k (by omega) (by omega) (by omega)).trans (hE0 k hk)⟩
theorem c_X7_init {G : KG} {w : WD} {a fo b : Nat} {K : Nat → Nt} (hg : gL G) (h : w a = ob 6 [.int (nI 0), .null, .null, .null, .null, .null, .null, .null, .null]) : KCon G jX7_init (a + 1) w [rf G a, rf G fo, rf G b] (fun r w1 => r = none ∧ QsI G (a + 14) w1 a fo b 0 K ∧ Eqx w w1 a (a + 14)) := by
  refine KCon.of ([some (rf G a), some (rf G fo), some (rf G b)]) (by decide) rfl (by simp [Value.category]) (Nat.le_of_ble_eq_true rfl) rfl ?_
  refine k_aload_n 1 dX7_init_0 rfl rfl rfl ?_
  refine k_objInit 4 dX7_init_1 rfl oX7_init_3 (Nat.le_of_ble_eq_true rfl) (Nat.le_of_ble_eq_true rfl) ?_
  refine k_aload_n 5 dX7_init_4 rfl rfl rfl ?_
  refine k_bipush (nI 7) 7 dX7_init_5 rfl kb_7 ?_
  refine k_newa 9 hg dX7_init_7 rfl aX7_init (by omega) ⟨Nat.le_of_ble_eq_true rfl, Nat.le_of_ble_eq_true rfl⟩ ?_
  refine k_put 12 dX7_init_9 rfl pX7_init_9 ⟨by omega, by (repeat (refine (va_up_ne _ _ (by omega)).trans ?_)); first | exact va_up_self _ _ _ | assumption⟩ (Nat.le_of_ble_eq_true rfl) rfl rfl ?_
  refine k_aload_n 13 dX7_init_12 rfl rfl rfl ?_
  refine k_bipush (nI 6) 15 dX7_init_13 rfl kb_6 ?_
  refine k_newa 17 hg dX7_init_15 rfl aX7_init (by omega) ⟨Nat.le_of_ble_eq_true rfl, Nat.le_of_ble_eq_true rfl⟩ ?_
  refine k_put 20 dX7_init_17 rfl pX7_init_15 ⟨by omega, by (repeat (refine (va_up_ne _ _ (by omega)).trans ?_)); first | exact va_up_self _ _ _ | assumption⟩ (Nat.le_of_ble_eq_true rfl) rfl rfl ?_
  refine k_aload_n 21 dX7_init_20 rfl rfl rfl ?_
  refine k_bipush (nI 6) 23 dX7_init_21 rfl kb_6 ?_
  refine k_newa 25 hg dX7_init_23 rfl aX7_init (by omega) ⟨Nat.le_of_ble_eq_true rfl, Nat.le_of_ble_eq_true rfl⟩ ?_
  refine k_put 28 dX7_init_25 rfl pX7_init_18 ⟨by omega, by (repeat (refine (va_up_ne _ _ (by omega)).trans ?_)); first | exact va_up_self _ _ _ | assumption⟩ (Nat.le_of_ble_eq_true rfl) rfl rfl ?_
  refine k_aload_n 29 dX7_init_28 rfl rfl rfl ?_
  refine k_bipush (nI 6) 31 dX7_init_29 rfl kb_6 ?_
  refine k_newa 33 hg dX7_init_31 rfl aX7_init (by omega) ⟨Nat.le_of_ble_eq_true rfl, Nat.le_of_ble_eq_true rfl⟩ ?_
  refine k_put 36 dX7_init_33 rfl pX7_init_21 ⟨by omega, by (repeat (refine (va_up_ne _ _ (by omega)).trans ?_)); first | exact va_up_self _ _ _ | assumption⟩ (Nat.le_of_ble_eq_true rfl) rfl rfl ?_
  refine k_nm (fun w1 hw1 => ?_)
  have q0 : w1 a = ob 6 [.int (nI 0), rf G (a + 1), rf G (a + 2), rf G (a + 3), rf G (a + 4), .null, .null, .null, .null] := by
    rw [hw1]
    exact (⟨by omega, by (repeat (refine (va_up_ne _ _ (by omega)).trans ?_)); first | exact va_up_self _ _ _ | assumption⟩ : Is (a + 9) _ _ _).2
  have q1 : w1 (a + 1) = ia G 7 (fun _ => 0) := by
    rw [hw1]
    exact (⟨by omega, by (repeat (refine (va_up_ne _ _ (by omega)).trans ?_)); first | exact va_up_self _ _ _ | assumption⟩ : Is (a + 9) _ _ _).2
  have q2 : w1 (a + 2) = ia G 6 (fun _ => 0) := by
    rw [hw1]
    exact (⟨by omega, by (repeat (refine (va_up_ne _ _ (by omega)).trans ?_)); first | exact va_up_self _ _ _ | assumption⟩ : Is (a + 9) _ _ _).2
  have q3 : w1 (a + 3) = ia G 6 (fun _ => 0) := by
    rw [hw1]
    exact (⟨by omega, by (repeat (refine (va_up_ne _ _ (by omega)).trans ?_)); first | exact va_up_self _ _ _ | assumption⟩ : Is (a + 9) _ _ _).2
  have q4 : w1 (a + 4) = ia G 6 (fun _ => 0) := by
    rw [hw1]
    exact (⟨by omega, by (repeat (refine (va_up_ne _ _ (by omega)).trans ?_)); first | exact va_up_self _ _ _ | assumption⟩ : Is (a + 9) _ _ _).2
  have hE1 : Eqx w w1 a (a + 14) := by
    rw [hw1]
    exact (by (repeat (refine Eqx.up ?_ (by omega) (by omega))); first | exact Eqx.rf | assumption)
  clear hw1
  refine k_aload_n 37 dX7_init_36 rfl rfl rfl ?_
  refine k_new (ci := 1) (C := RX1) (T := TX1) (Nf := 5) 40 hg dX7_init_37 rfl [.null, .null, .null, .int (nI 0), .int (nI 0)] rfl nX7_init_24.1 tyX1 tyX1_ok nX7_init_24.2 (by decide +kernel) ⟨Nat.le_of_ble_eq_true rfl, Nat.le_of_ble_eq_true rfl⟩ ?_
  refine k_dup 41 dX7_init_40 rfl rfl ?_
  refine k_callIN (As := []) 44 hg dX7_init_41 rfl vX7_init_26 rfl rfl (Nat.le_of_ble_eq_true rfl) ⟨Nat.le_of_ble_eq_true rfl, Nat.le_of_ble_eq_true rfl⟩ (c_X1_init (a := a + 5) hg (va_up_self _ _ _)) (fun r2 w2 x2 => ?_)
  obtain ⟨rfl, hF, hE2⟩ := x2
  refine k_cs 8 _ rfl rfl ?_
  have tr2 : ∀ k, k < a + 5 → w2 k = w1 k := fun k hk => (hE2 k (by omega)).trans (va_up_ne _ _ (by omega))
  have t0 := (tr2 a (by omega)).trans q0
  have hE2' : Eqx w1 w2 a (a + 14) := fun k hk => (hE2 k (by omega)).trans (va_up_ne _ _ (by omega))
  refine k_put 47 dX7_init_44 rfl pX7_init_27 ⟨by omega, by (repeat (refine (va_up_ne _ _ (by omega)).trans ?_)); first | exact va_up_self _ _ _ | assumption⟩ (Nat.le_of_ble_eq_true rfl) rfl rfl ?_
  refine k_aload_n 48 dX7_init_47 rfl rfl rfl ?_
  refine k_new (ci := 3) (C := RX4) (T := TX4) (Nf := 6) 51 hg dX7_init_48 rfl [.null, .null, .null, .null, .int (nI 0), .int (nI 0)] rfl nX7_init_31.1 tyX4 tyX4_ok nX7_init_31.2 (by decide +kernel) ⟨Nat.le_of_ble_eq_true rfl, Nat.le_of_ble_eq_true rfl⟩ ?_
  refine k_dup 52 dX7_init_51 rfl rfl ?_
  refine k_callIN (As := []) 55 hg dX7_init_52 rfl vX7_init_33 rfl rfl (Nat.le_of_ble_eq_true rfl) ⟨Nat.le_of_ble_eq_true rfl, Nat.le_of_ble_eq_true rfl⟩ (c_X4_init (a := a + 9) hg (va_up_self _ _ _)) (fun r3 w3 x3 => ?_)
  obtain ⟨rfl, hS, hE3⟩ := x3
  refine k_cs 13 _ rfl rfl ?_
  have u0 : w3 a = ob 6 [.int (nI 0), rf G (a + 1), rf G (a + 2), rf G (a + 3), rf G (a + 4), .null, rf G (a + 5), .null, .null] := (hE3 a (by omega)).trans ((va_up_ne _ _ (by omega)).trans (va_up_self _ _ _))
  have tr3 : ∀ k, k < a + 9 → k ≠ a → w3 k = w2 k := fun k hk hka => (hE3 k (by omega)).trans ((va_up_ne _ _ (by omega)).trans (va_up_ne _ _ (by omega)))
  have hE3' : Eqx w2 w3 a (a + 14) := fun k hk => (hE3 k (by omega)).trans ((va_up_ne _ _ (by omega)).trans (va_up_ne _ _ (by omega)))
  refine k_put 58 dX7_init_55 rfl pX7_init_34 ⟨by omega, by (repeat (refine (va_up_ne _ _ (by omega)).trans ?_)); first | exact va_up_self _ _ _ | assumption⟩ (Nat.le_of_ble_eq_true rfl) rfl rfl ?_
  refine k_aload_n 59 dX7_init_58 rfl rfl rfl ?_
  refine k_aload_n 60 dX7_init_59 rfl rfl rfl ?_
  refine k_put 63 dX7_init_60 rfl pX7_init_38 ⟨by omega, by (repeat (refine (va_up_ne _ _ (by omega)).trans ?_)); first | exact va_up_self _ _ _ | assumption⟩ (Nat.le_of_ble_eq_true rfl) rfl rfl ?_
  refine k_aload_n 64 dX7_init_63 rfl rfl rfl ?_
  refine k_aload_n 65 dX7_init_64 rfl rfl rfl ?_
  refine k_put 68 dX7_init_65 rfl pX7_init_41 ⟨by omega, by (repeat (refine (va_up_ne _ _ (by omega)).trans ?_)); first | exact va_up_self _ _ _ | assumption⟩ (Nat.le_of_ble_eq_true rfl) rfl rfl ?_
  refine k_nm (fun w4 hw4 => ?_)
  have hE4 : Eqx w3 w4 a (a + 1) := by
    rw [hw4]
    exact (by (repeat (refine Eqx.up ?_ (by omega) (by omega))); first | exact Eqx.rf | assumption)
  have h4 : Is (a + 14) w4 a (SiX G a fo b 0) := by
    rw [hw4]
    exact ⟨by omega, by (repeat (refine (va_up_ne _ _ (by omega)).trans ?_)); first | exact va_up_self _ _ _ | assumption⟩
  clear hw4
  have al : ∀ k e, 1 ≤ k → k < 5 → w1 (a + k) = e → Is (a + 14) w4 (a + k) e := fun k e k1 k2 he => ⟨by omega, (hE4 _ (by omega)).trans ((tr3 _ (by omega) (by omega)).trans ((tr2 _ (by omega)).trans he))⟩
  refine k_vret dX7_init_68 rfl rfl (Nat.le_of_ble_eq_true rfl) ⟨rfl, ⟨h4, ⟨_, al 1 _ (by omega) (by omega) q1⟩, ⟨_, _, _, al 2 _ (by omega) (by omega) q2, al 3 _ (by omega) (by omega) q3, al 4 _ (by omega) (by omega) q4, fun i hi => absurd hi (Nat.not_lt_zero i)⟩, ⟨_, _, _, _, _, (hF.mn (by omega)).fr (fun k _ _ => (hE4 k (by omega)).trans (tr3 k (by omega) (by omega)))⟩, ⟨_, _, _, _, _, _, (hS.mn (by omega)).fr (fun k _ _ => hE4 k (by omega))⟩⟩, ((hE1.tr hE2').tr hE3').tr (hE4.wd (by omega) (by omega))⟩
theorem c_X5_init {G : KG} {w : WD} {a : Nat} (hg : gL G) (h : w a = ob 4 [.null, .null, .int (nI 0), .null, .null, .int (nI 0)]) : KCon G jX5_init (a + 1) w [rf G a] (fun r w1 => r = none ∧ ScrI G (a + 12) w1 a (fun _ => 0) 0 0 (fun _ => 0) ∧ FkG G (a + 12) w1 (a + 1) ∧ TrG G (a + 12) w1 (a + 5) ∧ Eqx w w1 a (a + 12)) := by
  refine KCon.of ([some (rf G a)]) (by decide) rfl (by simp [Value.category]) (Nat.le_of_ble_eq_true rfl) rfl ?_
  refine k_aload_n 1 dX5_init_0 rfl rfl rfl ?_
  refine k_objInit 4 dX5_init_1 rfl oX5_init_3 (Nat.le_of_ble_eq_true rfl) (Nat.le_of_ble_eq_true rfl) ?_
  refine k_aload_n 5 dX5_init_4 rfl rfl rfl ?_
  refine k_new (ci := 1) (C := RX1) (T := TX1) (Nf := 5) 8 hg dX5_init_5 rfl [.null, .null, .null, .int (nI 0), .int (nI 0)] rfl nX5_init_9.1 tyX1 tyX1_ok nX5_init_9.2 (by decide +kernel) ⟨Nat.le_of_ble_eq_true rfl, Nat.le_of_ble_eq_true rfl⟩ ?_
  refine k_dup 9 dX5_init_8 rfl rfl ?_
  refine k_callIN (As := []) 12 hg dX5_init_9 rfl vX5_init_11 rfl rfl (Nat.le_of_ble_eq_true rfl) ⟨Nat.le_of_ble_eq_true rfl, Nat.le_of_ble_eq_true rfl⟩ (c_X1_init (a := a + 1) hg (va_up_self _ _ _)) (fun r1 w1 x1 => ?_)
  obtain ⟨rfl, hF, hE1⟩ := x1
  refine k_cs 4 _ rfl rfl ?_
  have t0 : w1 a = ob 4 [.null, .null, .int (nI 0), .null, .null, .int (nI 0)] := (hE1 a (by omega)).trans ((va_up_ne _ _ (by omega)).trans h)
  have hE1' : Eqx w w1 a (a + 12) := fun k hk => (hE1 k (by omega)).trans (va_up_ne _ _ (by omega))
  refine k_put 15 dX5_init_12 rfl pX5_init_12 ⟨by omega, by (repeat (refine (va_up_ne _ _ (by omega)).trans ?_)); first | exact va_up_self _ _ _ | assumption⟩ (Nat.le_of_ble_eq_true rfl) rfl rfl ?_
  refine k_aload_n 16 dX5_init_15 rfl rfl rfl ?_
  refine k_new (ci := 3) (C := RX4) (T := TX4) (Nf := 6) 19 hg dX5_init_16 rfl [.null, .null, .null, .null, .int (nI 0), .int (nI 0)] rfl nX5_init_18.1 tyX4 tyX4_ok nX5_init_18.2 (by decide +kernel) ⟨Nat.le_of_ble_eq_true rfl, Nat.le_of_ble_eq_true rfl⟩ ?_
  refine k_dup 20 dX5_init_19 rfl rfl ?_
  refine k_callIN (As := []) 23 hg dX5_init_20 rfl vX5_init_20 rfl rfl (Nat.le_of_ble_eq_true rfl) ⟨Nat.le_of_ble_eq_true rfl, Nat.le_of_ble_eq_true rfl⟩ (c_X4_init (a := a + 5) hg (va_up_self _ _ _)) (fun r2 w2 x2 => ?_)
  obtain ⟨rfl, hS, hE2⟩ := x2
  refine k_cs 9 _ rfl rfl ?_
  have u0 : w2 a = ob 4 [rf G (a + 1), .null, .int (nI 0), .null, .null, .int (nI 0)] := (hE2 a (by omega)).trans ((va_up_ne _ _ (by omega)).trans (va_up_self _ _ _))
  have tr2 : ∀ k, k < a + 5 → k ≠ a → w2 k = w1 k := fun k hk hka => (hE2 k (by omega)).trans ((va_up_ne _ _ (by omega)).trans (va_up_ne _ _ (by omega)))
  have hE2' : Eqx w1 w2 a (a + 12) := fun k hk => (hE2 k (by omega)).trans ((va_up_ne _ _ (by omega)).trans (va_up_ne _ _ (by omega)))
  refine k_put 26 dX5_init_23 rfl pX5_init_21 ⟨by omega, by (repeat (refine (va_up_ne _ _ (by omega)).trans ?_)); first | exact va_up_self _ _ _ | assumption⟩ (Nat.le_of_ble_eq_true rfl) rfl rfl ?_
  refine k_aload_n 27 dX5_init_26 rfl rfl rfl ?_
  refine k_sipush (nI 200) 30 dX5_init_27 rfl ks_200 ?_
  refine k_newa 32 hg dX5_init_30 rfl aX5_init (by omega) ⟨Nat.le_of_ble_eq_true rfl, Nat.le_of_ble_eq_true rfl⟩ ?_
  refine k_put 35 dX5_init_32 rfl pX5_init_25 ⟨by omega, by (repeat (refine (va_up_ne _ _ (by omega)).trans ?_)); first | exact va_up_self _ _ _ | assumption⟩ (Nat.le_of_ble_eq_true rfl) rfl rfl ?_
  refine k_aload_n 36 dX5_init_35 rfl rfl rfl ?_
  refine k_iconst (nI 4) 37 dX5_init_36 rfl kc_4 ?_
  refine k_newa 39 hg dX5_init_37 rfl aX5_init (by omega) ⟨Nat.le_of_ble_eq_true rfl, Nat.le_of_ble_eq_true rfl⟩ ?_
  refine k_put 42 dX5_init_39 rfl pX5_init_29 ⟨by omega, by (repeat (refine (va_up_ne _ _ (by omega)).trans ?_)); first | exact va_up_self _ _ _ | assumption⟩ (Nat.le_of_ble_eq_true rfl) rfl rfl ?_
  refine k_nm (fun w4 hw4 => ?_)
  have hE4 : ∀ k, k ≠ a → k ≠ a + 10 → k ≠ a + 11 → w4 k = w2 k := by
    intro k n1 n2 n3
    rw [hw4]
    (repeat (refine (va_up_ne _ _ (by omega)).trans ?_))
    rfl
  have h4 : Is (a + 12) w4 a (ob 4 [rf G (a + 1), rf G (a + 5), .int (nI 0), rf G (a + 10), rf G (a + 11), .int (nI 0)]) := by
    rw [hw4]
    exact ⟨by omega, by (repeat (refine (va_up_ne _ _ (by omega)).trans ?_)); first | exact va_up_self _ _ _ | assumption⟩
  have h5 : Is (a + 12) w4 (a + 10) (ia G 200 (fun _ => 0)) := by
    rw [hw4]
    exact ⟨by omega, by (repeat (refine (va_up_ne _ _ (by omega)).trans ?_)); first | exact va_up_self _ _ _ | assumption⟩
  have h6 : Is (a + 12) w4 (a + 11) (ia G 4 (fun _ => 0)) := by
    rw [hw4]
    exact ⟨by omega, by (repeat (refine (va_up_ne _ _ (by omega)).trans ?_)); first | exact va_up_self _ _ _ | assumption⟩
  clear hw4
  refine k_vret dX5_init_42 rfl rfl (Nat.le_of_ble_eq_true rfl) ⟨rfl, ⟨h4, ⟨_, h5, fun i hi => absurd hi (Nat.not_lt_zero i)⟩, h6, Nat.zero_le _, fun _ => Nat.le_of_ble_eq_true rfl⟩, ⟨_, _, _, _, _, (hF.mn (by omega)).fr (fun k _ _ => (hE4 k (by omega) (by omega) (by omega)).trans (tr2 k (by omega) (by omega)))⟩, ⟨_, _, _, _, _, _, (hS.mn (by omega)).fr (fun k _ _ => hE4 k (by omega) (by omega) (by omega))⟩, fun k hk => (hE4 k (by omega) (by omega) (by omega)).trans ((hE2' k hk).trans (hE1' k hk))⟩
