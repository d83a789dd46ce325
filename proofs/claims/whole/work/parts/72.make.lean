/-! the class's own maker -/
-- 
/-- the text as it is read in, letter by letter -/
def kqX : Nat → Nat → Nat
  | 0 => fun _ => 0
  | k + 1 => sf (kqX k) k (kqT k)
def kqX0 : Fo × Mo := match rdT (kqX 77) 77 with
  | .inl S => S
  | .inr _ => (oF0, oM0)
theorem kq_left : (match rdT (kqX 77) 77 with | .inl _ => true | .inr _ => false) = true := by decide +kernel
theorem kq_rd : rdT (kqX 77) 77 = .inl kqX0 := by
  have h := kq_left
  unfold kqX0
  cases h1 : rdT (kqX 77) 77 with
  | inl S => rfl
  | inr i =>
    rw [h1] at h
    cases h
theorem kq_pOK0 : pOK (oF0, oM0) := ⟨⟨Nat.zero_le _, ⟨by decide, by decide⟩, fun p hp => absurd hp (Nat.not_lt_zero p)⟩, rfl, fun k hk => absurd hk (Nat.not_lt_zero k), fun k hk => absurd hk (Nat.not_lt_zero k), fun _ => Nat.zero_le _, fun _ _ => Nat.zero_le _, fun _ _ => rfl, rfl⟩
theorem kq_pOK : pOK kqX0 := rda_ok _ _ _ _ kq_pOK0 kq_rd
theorem kq_n : oN kqX0.1 = 6 := by decide +kernel
def kqS0 : St := (kqX0.1, kqX0.2, [], [], 0, fun _ => (0, 0, 0), 0, kqX 77)
theorem kqX_lt : ∀ k i, k ≤ 77 → kqX k i < 200 := by
  intro k
  induction k with
  | zero => intro i _; exact (show (0 : Nat) < 200 by decide)
  | succ k ih =>
    intro i hk
    show sf (kqX k) k (kqT k) i < 200
    unfold sf
    split
    · exact (kqT_ok k (by omega)).2.2
    · exact ih i (by omega)
theorem kqS0_ok : sOK kqS0 := by
  have h := kq_pOK
  have hg : mG kqX0.2 = 0 := h.2.2.2.2.2.2.2
  refine ⟨h.1, ?_, ⟨pOK_m h, ?_⟩, (fun X hX => by cases hX), Nat.zero_le _, (fun X hX => by cases hX), Nat.zero_le _, Nat.zero_le _, Nat.zero_le _, fun i => kqX_lt 77 i (by omega)⟩
  · show 1 ≤ oN kqX0.1
    rw [kq_n]
    decide
  · show mG kqX0.2 ≤ 999
    omega
theorem stA (w w2 : WD) (a : Nat) : Eqx w (va_up w a (w2 a)) a (a + 1) := fun k hk => va_up_ne _ _ (by omega)
theorem stB {w w2 : WD} {a nxt hi : Nat} (h : ∀ k, k ≠ a → k < nxt ∨ hi ≤ k → w2 k = w k) : Eqx (va_up w a (w2 a)) w2 nxt hi := by
  intro k hk
  by_cases e : k = a
  · subst e
    exact (va_up_self _ _ _).symm
  · exact (h k e hk).trans (va_up_ne _ _ e).symm
def X8P (G : KG) (a : Nat) (w : WD) : Option Value → WD → Prop := fun r w1 => r = none ∧ QsM G (a + 104) w1 a kqS0 ∧ Eqx w w1 a (a + 104)
theorem c_X8_init {G : KG} {w : WD} {a : Nat} (hg : gL G) (h : w a = ob 7 [.null, .null, .null, .null, .null, .null, .null, .null]) : KCon G jX8_init (a + 1) w [rf G a] (X8P G a w) := by
  refine KCon.of ([some (rf G a), none]) (by decide) rfl (by simp [Value.category]) (Nat.le_of_ble_eq_true rfl) rfl ?_
  refine k_aload_n 1 dX8_init_0 rfl rfl rfl ?_
  refine k_objInit 4 dX8_init_1 rfl oX8_init_1 (Nat.le_of_ble_eq_true rfl) (Nat.le_of_ble_eq_true rfl) ?_
  refine k_aload_n 5 dX8_init_4 rfl rfl rfl ?_
  refine k_new (ci := 1) (C := RX1) (T := TX1) (Nf := 5) 8 hg dX8_init_5 rfl [.null, .null, .null, .int (nI 0), .int (nI 0)] rfl nX8_init_7.1 tyX1 tyX1_ok nX8_init_7.2 (by decide +kernel) ⟨Nat.le_of_ble_eq_true rfl, Nat.le_of_ble_eq_true rfl⟩ ?_
  refine k_dup 9 dX8_init_8 rfl rfl ?_
  refine k_callIN (As := []) 12 hg dX8_init_9 rfl vX8_init_9 rfl rfl (Nat.le_of_ble_eq_true rfl) ⟨Nat.le_of_ble_eq_true rfl, Nat.le_of_ble_eq_true rfl⟩ (c_X1_init (a := a + 1) hg (va_up_self _ _ _)) (fun r1 w1 x1 => ?_)
  obtain ⟨rfl, H1, E1⟩ := x1
  refine k_cs 4 _ rfl rfl ?_
  have t1 : w1 a = ob 7 [.null, .null, .null, .null, .null, .null, .null, .null] := (E1 a (by omega)).trans ((va_up_ne _ _ (by omega)).trans (h))
  have e1 : ∀ k, k ≠ a → k < a + 1 ∨ a + 104 ≤ k → w1 k = w k := fun k h1 h2 => (E1 k (by omega)).trans ((va_up_ne _ _ (by omega)).trans rfl)
  have H1 : FkG G (a + 104) w1 (a + 1) := ⟨_, _, _, _, _, H1.mn (by omega)⟩
  clear E1
  refine k_put 15 dX8_init_12 rfl pX8_init_10 ⟨by omega, by (repeat (refine (va_up_ne _ _ (by omega)).trans ?_)); first | exact va_up_self _ _ _ | assumption⟩ (Nat.le_of_ble_eq_true rfl) rfl rfl ?_
  refine k_aload_n 16 dX8_init_15 rfl rfl rfl ?_
  refine k_new (ci := 3) (C := RX4) (T := TX4) (Nf := 6) 19 hg dX8_init_16 rfl [.null, .null, .null, .null, .int (nI 0), .int (nI 0)] rfl nX8_init_16.1 tyX4 tyX4_ok nX8_init_16.2 (by decide +kernel) ⟨Nat.le_of_ble_eq_true rfl, Nat.le_of_ble_eq_true rfl⟩ ?_
  refine k_dup 20 dX8_init_19 rfl rfl ?_
  refine k_callIN (As := []) 23 hg dX8_init_20 rfl vX8_init_18 rfl rfl (Nat.le_of_ble_eq_true rfl) ⟨Nat.le_of_ble_eq_true rfl, Nat.le_of_ble_eq_true rfl⟩ (c_X4_init (a := a + 5) hg (va_up_self _ _ _)) (fun r2 w2 x2 => ?_)
  obtain ⟨rfl, H2, E2⟩ := x2
  refine k_cs 9 _ rfl rfl ?_
  have t2 : w2 a = ob 7 [rf G (a + 1), .null, .null, .null, .null, .null, .null, .null] := (E2 a (by omega)).trans ((va_up_ne _ _ (by omega)).trans (va_up_self _ _ _))
  have e2 : ∀ k, k ≠ a → k < a + 5 ∨ a + 104 ≤ k → w2 k = w1 k := fun k h1 h2 => (E2 k (by omega)).trans ((va_up_ne _ _ (by omega)).trans (va_up_ne _ _ (by omega)))
  have H2 : TrG G (a + 104) w2 (a + 5) := ⟨_, _, _, _, _, _, H2.mn (by omega)⟩
  have H1 := (H1.fr (stA w1 w2 a) (by omega)).fr (stB e2) (by omega)
  clear E2
  refine k_put 26 dX8_init_23 rfl pX8_init_19 ⟨by omega, by (repeat (refine (va_up_ne _ _ (by omega)).trans ?_)); first | exact va_up_self _ _ _ | assumption⟩ (Nat.le_of_ble_eq_true rfl) rfl rfl ?_
  refine k_aload_n 27 dX8_init_26 rfl rfl rfl ?_
  refine k_new (ci := 4) (C := RX5) (T := TX5) (Nf := 6) 30 hg dX8_init_27 rfl [.null, .null, .int (nI 0), .null, .null, .int (nI 0)] rfl nX8_init_23.1 tyX5 tyX5_ok nX8_init_23.2 (by decide +kernel) ⟨Nat.le_of_ble_eq_true rfl, Nat.le_of_ble_eq_true rfl⟩ ?_
  refine k_dup 31 dX8_init_30 rfl rfl ?_
  refine k_callIN (As := []) 34 hg dX8_init_31 rfl vX8_init_25 rfl rfl (Nat.le_of_ble_eq_true rfl) ⟨Nat.le_of_ble_eq_true rfl, Nat.le_of_ble_eq_true rfl⟩ (c_X5_init (a := a + 10) hg (va_up_self _ _ _)) (fun r3 w3 x3 => ?_)
  obtain ⟨rfl, H3, H3b, H3c, E3⟩ := x3
  refine k_cs 21 _ rfl rfl ?_
  have t3 : w3 a = ob 7 [rf G (a + 1), rf G (a + 5), .null, .null, .null, .null, .null, .null] := (E3 a (by omega)).trans ((va_up_ne _ _ (by omega)).trans (va_up_self _ _ _))
  have e3 : ∀ k, k ≠ a → k < a + 10 ∨ a + 104 ≤ k → w3 k = w2 k := fun k h1 h2 => (E3 k (by omega)).trans ((va_up_ne _ _ (by omega)).trans (va_up_ne _ _ (by omega)))
  have H3 : QsS G (a + 104) w3 (a + 10) 0 (kqX 0) := ⟨_, _, H3.mn (by omega), H3b.mn (by omega), H3c.mn (by omega)⟩
  have H1 := (H1.fr (stA w2 w3 a) (by omega)).fr (stB e3) (by omega)
  have H2 := (H2.fr (stA w2 w3 a) (by omega)).fr (stB e3) (by omega)
  clear E3
  refine k_put 37 dX8_init_34 rfl pX8_init_26 ⟨by omega, by (repeat (refine (va_up_ne _ _ (by omega)).trans ?_)); first | exact va_up_self _ _ _ | assumption⟩ (Nat.le_of_ble_eq_true rfl) rfl rfl ?_
  refine k_aload_n 38 dX8_init_37 rfl rfl rfl ?_
  refine k_new (ci := 5) (C := RX6) (T := TX6) (Nf := 2) 41 hg dX8_init_38 rfl [.int (nI 0), .null] rfl nX8_init_30.1 tyX6 tyX6_ok nX8_init_30.2 (by decide +kernel) ⟨Nat.le_of_ble_eq_true rfl, Nat.le_of_ble_eq_true rfl⟩ ?_
  refine k_dup 42 dX8_init_41 rfl rfl ?_
  refine k_bipush (nI 8) 44 dX8_init_42 rfl kb_8 ?_
  refine k_callI (As := [.int (nI 8)]) 47 dX8_init_44 rfl (vX8_init_32 8) rfl rfl (Nat.le_of_ble_eq_true rfl) ⟨Nat.le_of_ble_eq_true rfl, Nat.le_of_ble_eq_true rfl⟩ (c_X6_init (a := a + 22) (n := 8) (m := oN kqX0.1) hg (by omega) (va_up_self _ _ _)) (fun r4 w4 x4 => ?_)
  obtain ⟨rfl, H4, E4⟩ := x4
  refine k_cs 63 _ rfl rfl ?_
  have t4 : w4 a = ob 7 [rf G (a + 1), rf G (a + 5), rf G (a + 10), .null, .null, .null, .null, .null] := (E4 a (by omega)).trans ((va_up_ne _ _ (by omega)).trans (va_up_self _ _ _))
  have e4 : ∀ k, k ≠ a → k < a + 22 ∨ a + 104 ≤ k → w4 k = w3 k := fun k h1 h2 => (E4 k (by omega)).trans ((va_up_ne _ _ (by omega)).trans (va_up_ne _ _ (by omega)))
  have H4 := H4.mn (show _ ≤ a + 104 by omega)
  have H1 := (H1.fr (stA w3 w4 a) (by omega)).fr (stB e4) (by omega)
  have H2 := (H2.fr (stA w3 w4 a) (by omega)).fr (stB e4) (by omega)
  have H3 := (H3.fr (stA w3 w4 a) (by omega)).fr (stB e4) (by omega)
  clear E4
  refine k_put 50 dX8_init_47 rfl pX8_init_35 ⟨by omega, by (repeat (refine (va_up_ne _ _ (by omega)).trans ?_)); first | exact va_up_self _ _ _ | assumption⟩ (Nat.le_of_ble_eq_true rfl) rfl rfl ?_
  refine k_aload_n 51 dX8_init_50 rfl rfl rfl ?_
  refine k_new (ci := 5) (C := RX6) (T := TX6) (Nf := 2) 54 hg dX8_init_51 rfl [.int (nI 0), .null] rfl nX8_init_30.1 tyX6 tyX6_ok nX8_init_30.2 (by decide +kernel) ⟨Nat.le_of_ble_eq_true rfl, Nat.le_of_ble_eq_true rfl⟩ ?_
  refine k_dup 55 dX8_init_54 rfl rfl ?_
  refine k_iconst (nI 2) 56 dX8_init_55 rfl kc_2 ?_
  refine k_callI (As := [.int (nI 2)]) 59 dX8_init_56 rfl (vX8_init_32 2) rfl rfl (Nat.le_of_ble_eq_true rfl) ⟨Nat.le_of_ble_eq_true rfl, Nat.le_of_ble_eq_true rfl⟩ (c_X6_init (a := a + 64) (n := 2) (m := oN kqX0.1) hg (by omega) (va_up_self _ _ _)) (fun r5 w5 x5 => ?_)
  obtain ⟨rfl, H5, E5⟩ := x5
  refine k_cs 75 _ rfl rfl ?_
  have t5 : w5 a = ob 7 [rf G (a + 1), rf G (a + 5), rf G (a + 10), rf G (a + 22), .null, .null, .null, .null] := (E5 a (by omega)).trans ((va_up_ne _ _ (by omega)).trans (va_up_self _ _ _))
  have e5 : ∀ k, k ≠ a → k < a + 64 ∨ a + 104 ≤ k → w5 k = w4 k := fun k h1 h2 => (E5 k (by omega)).trans ((va_up_ne _ _ (by omega)).trans (va_up_ne _ _ (by omega)))
  have H5 := H5.mn (show _ ≤ a + 104 by omega)
  have H1 := (H1.fr (stA w4 w5 a) (by omega)).fr (stB e5) (by omega)
  have H2 := (H2.fr (stA w4 w5 a) (by omega)).fr (stB e5) (by omega)
  have H3 := (H3.fr (stA w4 w5 a) (by omega)).fr (stB e5) (by omega)
  have H4 := (H4.fr (stA w4 w5 a) (by omega)).fr (stB e5) (by omega)
  clear E5
  refine k_put 62 dX8_init_59 rfl pX8_init_39 ⟨by omega, by (repeat (refine (va_up_ne _ _ (by omega)).trans ?_)); first | exact va_up_self _ _ _ | assumption⟩ (Nat.le_of_ble_eq_true rfl) rfl rfl ?_
  refine k_aload_n 63 dX8_init_62 rfl rfl rfl ?_
  refine k_new (ci := 2) (C := RX2) (T := TX2) (Nf := 8) 66 hg dX8_init_63 rfl [.int (nI 0), .int (nI 0), .int (nI 0), .null, .null, .null, .null, .null] rfl nX8_init_42.1 tyX2 tyX2_ok nX8_init_42.2 (by decide +kernel) ⟨Nat.le_of_ble_eq_true rfl, Nat.le_of_ble_eq_true rfl⟩ ?_
  refine k_dup 67 dX8_init_66 rfl rfl ?_
  refine k_aload_n 68 dX8_init_67 rfl rfl rfl ?_
  refine k_get 71 dX8_init_68 rfl fX8_init_10 ⟨by omega, by (repeat (refine (va_up_ne _ _ (by omega)).trans ?_)); first | exact va_up_self _ _ _ | assumption⟩ (by rfl) ?_
  refine k_aload_n 72 dX8_init_71 rfl rfl rfl ?_
  refine k_get 75 dX8_init_72 rfl fX8_init_19 ⟨by omega, by (repeat (refine (va_up_ne _ _ (by omega)).trans ?_)); first | exact va_up_self _ _ _ | assumption⟩ (by rfl) ?_
  refine k_callI (As := [rf G (a + 1), rf G (a + 5)]) 78 dX8_init_75 rfl vX8_init_44 rfl rfl (Nat.le_of_ble_eq_true rfl) ⟨Nat.le_of_ble_eq_true rfl, Nat.le_of_ble_eq_true rfl⟩ (c_X2_init (a := a + 76) (fo := a + 1) (b := a + 5) hg (va_up_self _ _ _)) (fun r6 w6 x6 => ?_)
  obtain ⟨rfl, H6, E6⟩ := x6
  refine k_cs 83 _ rfl rfl ?_
  have t6 : w6 a = ob 7 [rf G (a + 1), rf G (a + 5), rf G (a + 10), rf G (a + 22), rf G (a + 64), .null, .null, .null] := (E6 a (by omega)).trans ((va_up_ne _ _ (by omega)).trans (va_up_self _ _ _))
  have e6 : ∀ k, k ≠ a → k < a + 76 ∨ a + 104 ≤ k → w6 k = w5 k := fun k h1 h2 => (E6 k (by omega)).trans ((va_up_ne _ _ (by omega)).trans (va_up_ne _ _ (by omega)))
  have H6 := H6.mn (show _ ≤ a + 104 by omega)
  have H1 := (H1.fr (stA w5 w6 a) (by omega)).fr (stB e6) (by omega)
  have H2 := (H2.fr (stA w5 w6 a) (by omega)).fr (stB e6) (by omega)
  have H3 := (H3.fr (stA w5 w6 a) (by omega)).fr (stB e6) (by omega)
  have H4 := (H4.fr (stA w5 w6 a) (by omega)).fr (stB e6) (by omega)
  have H5 := (H5.fr (stA w5 w6 a) (by omega)).fr (stB e6) (by omega)
  clear E6
  refine k_put 81 dX8_init_78 rfl pX8_init_47 ⟨by omega, by (repeat (refine (va_up_ne _ _ (by omega)).trans ?_)); first | exact va_up_self _ _ _ | assumption⟩ (Nat.le_of_ble_eq_true rfl) rfl rfl ?_
  refine k_aload_n 82 dX8_init_81 rfl rfl rfl ?_
  refine k_new (ci := 6) (C := RX7) (T := TX7) (Nf := 9) 85 hg dX8_init_82 rfl [.int (nI 0), .null, .null, .null, .null, .null, .null, .null, .null] rfl nX8_init_51.1 tyX7 tyX7_ok nX8_init_51.2 (by decide +kernel) ⟨Nat.le_of_ble_eq_true rfl, Nat.le_of_ble_eq_true rfl⟩ ?_
  refine k_dup 86 dX8_init_85 rfl rfl ?_
  refine k_aload_n 87 dX8_init_86 rfl rfl rfl ?_
  refine k_get 90 dX8_init_87 rfl fX8_init_10 ⟨by omega, by (repeat (refine (va_up_ne _ _ (by omega)).trans ?_)); first | exact va_up_self _ _ _ | assumption⟩ (by rfl) ?_
  refine k_aload_n 91 dX8_init_90 rfl rfl rfl ?_
  refine k_get 94 dX8_init_91 rfl fX8_init_19 ⟨by omega, by (repeat (refine (va_up_ne _ _ (by omega)).trans ?_)); first | exact va_up_self _ _ _ | assumption⟩ (by rfl) ?_
  refine k_callI (As := [rf G (a + 1), rf G (a + 5)]) 97 dX8_init_94 rfl vX8_init_53 rfl rfl (Nat.le_of_ble_eq_true rfl) ⟨Nat.le_of_ble_eq_true rfl, Nat.le_of_ble_eq_true rfl⟩ (c_X7_init (a := a + 84) (fo := a + 1) (b := a + 5) (K := fun _ => (0, 0, 0)) hg (va_up_self _ _ _)) (fun r7 w7 x7 => ?_)
  obtain ⟨rfl, H7, E7⟩ := x7
  refine k_cs 97 _ rfl rfl ?_
  have t7 : w7 a = ob 7 [rf G (a + 1), rf G (a + 5), rf G (a + 10), rf G (a + 22), rf G (a + 64), rf G (a + 76), .null, .null] := (E7 a (by omega)).trans ((va_up_ne _ _ (by omega)).trans (va_up_self _ _ _))
  have e7 : ∀ k, k ≠ a → k < a + 84 ∨ a + 104 ≤ k → w7 k = w6 k := fun k h1 h2 => (E7 k (by omega)).trans ((va_up_ne _ _ (by omega)).trans (va_up_ne _ _ (by omega)))
  have H7 := H7.mn (show _ ≤ a + 104 by omega)
  have H1 := (H1.fr (stA w6 w7 a) (by omega)).fr (stB e7) (by omega)
  have H2 := (H2.fr (stA w6 w7 a) (by omega)).fr (stB e7) (by omega)
  have H3 := (H3.fr (stA w6 w7 a) (by omega)).fr (stB e7) (by omega)
  have H4 := (H4.fr (stA w6 w7 a) (by omega)).fr (stB e7) (by omega)
  have H5 := (H5.fr (stA w6 w7 a) (by omega)).fr (stB e7) (by omega)
  have H6 := (H6.fr (stA w6 w7 a) (by omega)).fr (stB e7) (by omega)
  clear E7
  refine k_put 100 dX8_init_97 rfl pX8_init_54 ⟨by omega, by (repeat (refine (va_up_ne _ _ (by omega)).trans ?_)); first | exact va_up_self _ _ _ | assumption⟩ (Nat.le_of_ble_eq_true rfl) rfl rfl ?_
  refine k_aload_n 101 dX8_init_100 rfl rfl rfl ?_
  refine k_new (ci := 0) (C := RX0) (T := TX0) (Nf := 5) 104 hg dX8_init_101 rfl [.int (nI 0), .int (nI 0), .null, .null, .null] rfl nX8_init_58.1 tyX0 tyX0_ok nX8_init_58.2 (by decide +kernel) ⟨Nat.le_of_ble_eq_true rfl, Nat.le_of_ble_eq_true rfl⟩ ?_
  refine k_dup 105 dX8_init_104 rfl rfl ?_
  refine k_aload_n 106 dX8_init_105 rfl rfl rfl ?_
  refine k_get 109 dX8_init_106 rfl fX8_init_10 ⟨by omega, by (repeat (refine (va_up_ne _ _ (by omega)).trans ?_)); first | exact va_up_self _ _ _ | assumption⟩ (by rfl) ?_
  refine k_aload_n 110 dX8_init_109 rfl rfl rfl ?_
  refine k_get 113 dX8_init_110 rfl fX8_init_19 ⟨by omega, by (repeat (refine (va_up_ne _ _ (by omega)).trans ?_)); first | exact va_up_self _ _ _ | assumption⟩ (by rfl) ?_
  refine k_callI (As := [rf G (a + 1), rf G (a + 5)]) 116 dX8_init_113 rfl vX8_init_60 rfl rfl (Nat.le_of_ble_eq_true rfl) ⟨Nat.le_of_ble_eq_true rfl, Nat.le_of_ble_eq_true rfl⟩ (c_X0_init (a := a + 98) (fo := a + 1) (b := a + 5) hg (va_up_self _ _ _)) (fun r8 w8 x8 => ?_)
  obtain ⟨rfl, H8, E8⟩ := x8
  refine k_cs 103 _ rfl rfl ?_
  have t8 : w8 a = ob 7 [rf G (a + 1), rf G (a + 5), rf G (a + 10), rf G (a + 22), rf G (a + 64), rf G (a + 76), rf G (a + 84), .null] := (E8 a (by omega)).trans ((va_up_ne _ _ (by omega)).trans (va_up_self _ _ _))
  have e8 : ∀ k, k ≠ a → k < a + 98 ∨ a + 104 ≤ k → w8 k = w7 k := fun k h1 h2 => (E8 k (by omega)).trans ((va_up_ne _ _ (by omega)).trans (va_up_ne _ _ (by omega)))
  have H8 := H8.mn (show _ ≤ a + 104 by omega)
  have H1 := (H1.fr (stA w7 w8 a) (by omega)).fr (stB e8) (by omega)
  have H2 := (H2.fr (stA w7 w8 a) (by omega)).fr (stB e8) (by omega)
  have H3 := (H3.fr (stA w7 w8 a) (by omega)).fr (stB e8) (by omega)
  have H4 := (H4.fr (stA w7 w8 a) (by omega)).fr (stB e8) (by omega)
  have H5 := (H5.fr (stA w7 w8 a) (by omega)).fr (stB e8) (by omega)
  have H6 := (H6.fr (stA w7 w8 a) (by omega)).fr (stB e8) (by omega)
  have H7 := (H7.fr (stA w7 w8 a) (by omega)).fr (stB e8) (by omega)
  clear E8
  refine k_put 119 dX8_init_116 rfl pX8_init_61 ⟨by omega, by (repeat (refine (va_up_ne _ _ (by omega)).trans ?_)); first | exact va_up_self _ _ _ | assumption⟩ (Nat.le_of_ble_eq_true rfl) rfl rfl ?_
  refine k_iconst (nI 0) 120 dX8_init_119 rfl kc_0 ?_
  refine k_istore_n _ 121 dX8_init_120 rfl rfl (by decide) rfl rfl ?_
  refine k_nm (fun w9 hw9 => ?_)
  have t9 : w9 a = ob 7 [rf G (a + 1), rf G (a + 5), rf G (a + 10), rf G (a + 22), rf G (a + 64), rf G (a + 76), rf G (a + 84), rf G (a + 98)] := by
    rw [hw9]
    exact va_up_self _ _ _
  have e9 : Eqx w8 w9 a (a + 1) := by
    rw [hw9]
    exact fun k hk => va_up_ne _ _ (by omega)
  clear hw9
  have H1 := H1.fr e9 (by omega)
  have H2 := H2.fr e9 (by omega)
  have H3 := H3.fr e9 (by omega)
  have H4 := H4.fr e9 (by omega)
  have H5 := H5.fr e9 (by omega)
  have H6 := H6.fr e9 (by omega)
  have H7 := H7.fr e9 (by omega)
  have H8 := H8.fr e9 (by omega)
  have hE0 : Eqx w w9 a (a + 104) := fun k hk => (e9 k (by omega)).trans ((e8 k (by omega) (by omega)).trans ((e7 k (by omega) (by omega)).trans ((e6 k (by omega) (by omega)).trans ((e5 k (by omega) (by omega)).trans ((e4 k (by omega) (by omega)).trans ((e3 k (by omega) (by omega)).trans ((e2 k (by omega) (by omega)).trans (e1 k (by omega) (by omega)))))))))
  clear e1 t1 e2 t2 e3 t3 e4 t4 e5 t5 e6 t6 e7 t7 e8 t8
  have loop : ∀ d i (v : WD), i + d = 77 → v a = ob 7 [rf G (a + 1), rf G (a + 5), rf G (a + 10), rf G (a + 22), rf G (a + 64), rf G (a + 76), rf G (a + 84), rf G (a + 98)] → QsS G (a + 104) v (a + 10) i (kqX i) → Eqx w9 v (a + 10) (a + 22) → KRun G jX8_init (a + 1) (X8P G a w) 121 [some (rf G a), some (.int (nI i))] [] 103 1745 v := by
    intro d
    induction d with
    | zero =>
      intro i v hi tv hS hE
      have hI : i = 77 := by omega
      subst hI
      have B1 := H1.fr hE (by omega)
      have B2 := H2.fr hE (by omega)
      have B4 := H4.fr hE (by omega)
      have B5 := H5.fr hE (by omega)
      have B6 := H6.fr hE (by omega)
      have B7 := H7.fr hE (by omega)
      have B8 := H8.fr hE (by omega)
      obtain ⟨at_, nums, hScr, ⟨kd, wo, pe, num, se, hsF⟩, ⟨l, wh, pu, db, len, gone, hsM⟩⟩ := hS
      refine k_iload_n 122 dX8_init_121 rfl rfl rfl ?_
      refine k_txlen 127 hg rfl dX8_init_122 dX8_init_124 rfl vX8_init_67 (Nat.le_of_ble_eq_true rfl) ⟨Nat.le_of_ble_eq_true rfl, Nat.le_of_ble_eq_true rfl⟩ ?_
      refine k_icmp_geN 149 130 dX8_init_127 rfl rfl (by omega) (by omega) (fun c => ?_) (fun c => by omega)
      have t0 := tv
      have t3 := hScr.1.2
      refine k_aload_n 150 dX8_init_149 rfl rfl rfl ?_
      refine k_get 153 dX8_init_150 rfl fX8_init_26 ⟨by omega, by (repeat (refine (va_up_ne _ _ (by omega)).trans ?_)); first | exact va_up_self _ _ _ | assumption⟩ (by rfl) ?_
      refine k_V0 (ci := 4) 156 dX8_init_153 rfl vX8_init_80 ⟨by omega, by (repeat (refine (va_up_ne _ _ (by omega)).trans ?_)); first | exact va_up_self _ _ _ | assumption⟩ rfl rfl (Nat.le_of_ble_eq_true rfl) rfl ⟨Nat.le_of_ble_eq_true rfl, Nat.le_of_ble_eq_true rfl⟩ (c_X5_read hScr hsF hsM) (fun r1 w1 x1 => ?_)
      obtain ⟨rfl, S, j, nums1, hp, hS1, hScr1, hF1, hM1, hE1⟩ := x1
      have hS1 := hS1 _ kq_rd
      subst hS1
      have B1 := B1.fr hE1 (by omega)
      have B2 := B2.fr hE1 (by omega)
      have B4 := B4.fr hE1 (by omega)
      have B5 := B5.fr hE1 (by omega)
      have B6 := B6.fr hE1 (by omega)
      have B7 := B7.fr hE1 (by omega)
      have B8 := B8.fr hE1 (by omega)
      have t1 : w1 a = ob 7 [rf G (a + 1), rf G (a + 5), rf G (a + 10), rf G (a + 22), rf G (a + 64), rf G (a + 76), rf G (a + 84), rf G (a + 98)] := (hE1 a (by omega)).trans tv
      refine k_pop 157 dX8_init_156 rfl rfl ?_
      refine k_aload_n 158 dX8_init_157 rfl rfl rfl ?_
      refine k_V0 (ci := 7) 161 dX8_init_158 rfl vX8_init_83 ⟨by omega, by (repeat (refine (va_up_ne _ _ (by omega)).trans ?_)); first | exact va_up_self _ _ _ | assumption⟩ rfl rfl (Nat.le_of_ble_eq_true rfl) rfl ⟨Nat.le_of_ble_eq_true rfl, Nat.le_of_ble_eq_true rfl⟩ (c_X8_takeScript ⟨by omega, t1⟩ hScr1.1 B1 B2 hF1 hM1 hp) (fun r2 w2 x2 => ?_)
      obtain ⟨rfl, hF2, hM2, hE2⟩ := x2
      have B4 := B4.fr hE2 (by omega)
      have B5 := B5.fr hE2 (by omega)
      have B6 := B6.fr hE2 (by omega)
      have B7 := B7.fr hE2 (by omega)
      have B8 := B8.fr hE2 (by omega)
      have t2 : w2 a = ob 7 [rf G (a + 1), rf G (a + 5), rf G (a + 10), rf G (a + 22), rf G (a + 64), rf G (a + 76), rf G (a + 84), rf G (a + 98)] := (hE2 a (by omega)).trans t1
      have hF1 := hF1.fr hE2 (by omega)
      have hM1 := hM1.fr hE2 (by omega)
      have hScr2 : ScrI G (a + 104) w2 (a + 10) (kqX 77) 77 j nums1 := hScr1.fr (fun k hk => hE2 k (by omega))
      have t3 := hScr2.1.2
      refine k_aload_n 162 dX8_init_161 rfl rfl rfl ?_
      refine k_get 165 dX8_init_162 rfl fX8_init_26 ⟨by omega, by (repeat (refine (va_up_ne _ _ (by omega)).trans ?_)); first | exact va_up_self _ _ _ | assumption⟩ (by rfl) ?_
      refine k_iconst (nI 0) 166 dX8_init_165 rfl kc_0 ?_
      refine k_put 169 dX8_init_166 rfl pX8_init_86 ⟨by omega, by (repeat (refine (va_up_ne _ _ (by omega)).trans ?_)); first | exact va_up_self _ _ _ | assumption⟩ (Nat.le_of_ble_eq_true rfl) rfl rfl ?_
      refine k_nm (fun w3 hw3 => ?_)
      have e3 : Eqx w2 w3 (a + 10) (a + 11) := by
        rw [hw3]
        exact fun k hk => va_up_ne _ _ (by omega)
      have s3 : w3 (a + 10) = ob 4 [rf G (a + 10 + 1), rf G (a + 10 + 5), .int (nI 0), rf G (a + 10 + 10), rf G (a + 10 + 11), .int (nI j)] := by
        rw [hw3]
        exact va_up_self _ _ _
      clear hw3
      obtain ⟨kd1, wo1, pe1, hf1, -⟩ := hF1.fr e3 (by omega)
      obtain ⟨l1, wh1, pu1, db1, hm1, -⟩ := hM1.fr e3 (by omega)
      obtain ⟨-, ⟨lt2, u1, -⟩, u2, -, u3⟩ := hScr2
      refine k_vret dX8_init_169 rfl rfl (Nat.le_of_ble_eq_true rfl) ⟨rfl, ⟨⟨by omega, (e3 a (by omega)).trans t2⟩, hF2.fr e3 (by omega), hM2.fr e3 (by omega), ⟨j, nums1, ⟨⟨by omega, s3⟩, ⟨lt2, ⟨u1.1, (e3 _ (by omega)).trans u1.2⟩, fun q hq => absurd hq (Nat.not_lt_zero q)⟩, ⟨u2.1, (e3 _ (by omega)).trans u2.2⟩, Nat.zero_le _, u3⟩, ⟨_, _, _, _, _, hf1⟩, ⟨_, _, _, _, _, _, hm1⟩⟩, B4.fr e3 (by omega), B5.fr e3 (by omega), B6.fr e3 (by omega), B7.fr e3 (by omega), B8.fr e3 (by omega)⟩, fun k hk => (e3 k (by omega)).trans ((hE2 k (by omega)).trans ((hE1 k (by omega)).trans ((hE k (by omega)).trans (hE0 k hk))))⟩
    | succ d ih =>
      intro i v hi tv hS hE
      obtain ⟨at_, nums, hScr, hsF, hsM⟩ := hS
      refine k_iload_n 122 dX8_init_121 rfl rfl rfl ?_
      refine k_txlen 127 hg rfl dX8_init_122 dX8_init_124 rfl vX8_init_67 (Nat.le_of_ble_eq_true rfl) ⟨Nat.le_of_ble_eq_true rfl, Nat.le_of_ble_eq_true rfl⟩ ?_
      refine k_icmp_geN 149 130 dX8_init_127 rfl rfl (by omega) (by omega) (fun c => by omega) (fun c => ?_)
      have t0 := tv
      have t3 := hScr.1.2
      refine k_aload_n 131 dX8_init_130 rfl rfl rfl ?_
      refine k_get 134 dX8_init_131 rfl fX8_init_26 ⟨by omega, by (repeat (refine (va_up_ne _ _ (by omega)).trans ?_)); first | exact va_up_self _ _ _ | assumption⟩ (by rfl) ?_
      refine k_txchar 140 hg rfl dX8_init_134 dX8_init_136 rfl rfl dX8_init_137 rfl (by omega) vX8_init_73 (Nat.le_of_ble_eq_true rfl) ⟨Nat.le_of_ble_eq_true rfl, Nat.le_of_ble_eq_true rfl⟩ ?_
      refine k_V1 (ci := 4) 143 dX8_init_140 rfl vX8_init_77 ⟨by omega, by (repeat (refine (va_up_ne _ _ (by omega)).trans ?_)); first | exact va_up_self _ _ _ | assumption⟩ rfl rfl (Nat.le_of_ble_eq_true rfl) rfl ⟨Nat.le_of_ble_eq_true rfl, Nat.le_of_ble_eq_true rfl⟩ (c_X5_add2 hScr (by omega) (kqT_ok i (by omega)).2.2) (fun r1 w1 x1 => ?_)
      obtain ⟨rfl, hS1, hE1⟩ := x1
      have hE2 := stB (fun k h1 (h2 : k < a + 20 ∨ a + 21 ≤ k) => hE1 k h1 (by omega))
      have A1 := (hsF.fr (stA v w1 (a + 10)) (by omega)).fr hE2 (by omega)
      have A2 := (hsM.fr (stA v w1 (a + 10)) (by omega)).fr hE2 (by omega)
      refine k_iinc _ _ 146 dX8_init_143 rfl rfl (nI_inc _) (show (1 : Nat) < 2 by decide) rfl rfl ?_
      refine k_goto 121 dX8_init_146 rfl ?_
      exact ih (i + 1) w1 (by omega) ((hE1 a (by omega) (by omega)).trans tv) ⟨_, _, hS1, A1, A2⟩ (fun k hk => (hE1 k (by omega) (by omega)).trans (hE k hk))
  exact loop 77 0 w9 rfl t9 H3 (fun _ _ => rfl)
