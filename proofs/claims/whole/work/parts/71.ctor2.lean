/-! the class's makers: shelves, the whole queue -/
theorem FkM.mn {G : KG} {N N2 a : Nat} {w : WD} {F : Fo} (h : FkM G N w a F) (hN : N ≤ N2) : FkM G N2 w a F := by
  obtain ⟨kd, wo, pe, h1, h2⟩ := h
  exact ⟨kd, wo, pe, h1.mn hN, h2⟩
theorem ScM.mn {G : KG} {N N2 a n : Nat} {w : WD} {M : Mo} (h : ScM G N w a n M) (hN : N ≤ N2) : ScM G N2 w a n M := by
  obtain ⟨l, wh, pu, db, h1, h2⟩ := h
  exact ⟨l, wh, pu, db, h1.mn hN, h2⟩
theorem FkG.mn {G : KG} {N N2 a : Nat} {w : WD} (h : FkG G N w a) (hN : N ≤ N2) : FkG G N2 w a := by
  obtain ⟨kd, wo, pe, num, se, h1⟩ := h
  exact ⟨kd, wo, pe, num, se, h1.mn hN⟩
theorem TrG.mn {G : KG} {N N2 a : Nat} {w : WD} (h : TrG G N w a) (hN : N ≤ N2) : TrG G N2 w a := by
  obtain ⟨l, wh, pu, db, len, gone, h1⟩ := h
  exact ⟨l, wh, pu, db, len, gone, h1.mn hN⟩
theorem ScrI.mn {G : KG} {N N2 a t at_ : Nat} {w : WD} {T : Nat → Nat} {nums : Nat → Int32} (h : ScrI G N w a T t at_ nums) (hN : N ≤ N2) : ScrI G N2 w a T t at_ nums := by
  obtain ⟨h1, ⟨lt, h2, h3⟩, h4, h5⟩ := h
  exact ⟨h1.mn hN, ⟨lt, h2.mn hN, h3⟩, h4.mn hN, h5⟩
theorem ShM.mn {G : KG} {N N2 a room n : Nat} {w : WD} {L : List Mo} (h : ShM G N w a room n L) (hN : N ≤ N2) : ShM G N2 w a room n L := by
  obtain ⟨loc, f, ⟨h1, h2, h3, h4⟩, h5, h6⟩ := h
  refine ⟨loc, f, ⟨h1.mn hN, h2.mn hN, fun i hi => ?_, h4⟩, h5, fun i hi => (h6 i hi).mn hN⟩
  obtain ⟨k1, k2, l, wh, pu, db, len, gone, k3⟩ := h3 i hi
  exact ⟨k1, k2, l, wh, pu, db, len, gone, k3.mn hN⟩
theorem QsF.mn {G : KG} {N N2 a fo b : Nat} {w : WD} (h : QsF G N w a fo b) (hN : N ≤ N2) : QsF G N2 w a fo b := by
  obtain ⟨x, ch, va, h1, h2, sm, gr, h3, h4, h5⟩ := h
  exact ⟨x, ch, va, h1.mn hN, h2.mn hN, sm, gr, h3.mn hN, h4.mn hN, h5⟩
theorem QsI.mn {G : KG} {N N2 a fo b m : Nat} {w : WD} {K : Nat → Nt} (h : QsI G N w a fo b m K) (hN : N ≤ N2) : QsI G N2 w a fo b m K := by
  obtain ⟨h1, ⟨od, h2⟩, ⟨ps, mi, du, k1, k2, k3, k4⟩, h4, h5⟩ := h
  exact ⟨h1.mn hN, ⟨od, h2.mn hN⟩, ⟨ps, mi, du, k1.mn hN, k2.mn hN, k3.mn hN, k4⟩, h4.mn hN, h5.mn hN⟩
theorem QsC.mn {G : KG} {N N2 a fo b : Nat} {w : WD} (h : QsC G N w a fo b) (hN : N ≤ N2) : QsC G N2 w a fo b := by
  obtain ⟨x, y, h1, h2⟩ := h
  exact ⟨x, y, h1.mn hN, h2.mn hN⟩
theorem QsM.mn {G : KG} {N N2 a : Nat} {w : WD} {S : St} (h : QsM G N w a S) (hN : N ≤ N2) : QsM G N2 w a S := by
  obtain ⟨h1, h2, h3, ⟨at_, nums, h4, h5, h6⟩, h7, h8, h9, h10, h11⟩ := h
  exact ⟨h1.mn hN, h2.mn hN, h3.mn hN, ⟨at_, nums, h4.mn hN, h5.mn hN, h6.mn hN⟩, h7.mn hN, h8.mn hN, h9.mn hN, h10.mn hN, h11.mn hN⟩
theorem c_X6_init {G : KG} {w : WD} {a n m : Nat} (hg : gL G) (hn : n < 100) (h : w a = ob 5 [.int (nI 0), .null]) : KCon G (jX6_init n) (a + 1) w [rf G a, .int (nI n)] (fun r w1 => r = none ∧ ShM G (a + 2 + 5 * n) w1 a n m [] ∧ Eqx w w1 a (a + 2 + 5 * n)) := by
  refine KCon.of [some (rf G a), some (.int (nI n)), none] (show plainName yX6_init.cls = true by decide) rfl (by simp [Value.category]) (Nat.le_of_ble_eq_true rfl) rfl ?_
  refine k_aload_n 1 dX6_init_0 rfl rfl rfl ?_
  refine k_objInit 4 dX6_init_1 rfl (oX6_init_1 n) (Nat.le_of_ble_eq_true rfl) (Nat.le_of_ble_eq_true rfl) ?_
  refine k_aload_n 5 dX6_init_4 rfl rfl rfl ?_
  refine k_iload_n 6 dX6_init_5 rfl rfl rfl ?_
  refine k_iconst (nI 0) 7 dX6_init_6 rfl kc_0 ?_
  refine k_max (nI n) 10 dX6_init_7 rfl (vX6_init_7 n) (Nat.le_of_ble_eq_true rfl) ⟨Nat.zero_le _, Nat.zero_le _⟩ (by rw [nI_max (by omega) (by omega), Nat.max_zero]) ?_
  refine k_newq 13 hg dX6_init_10 rfl (qX6_init_13 n) (by omega) (by show 0 + 1 ≤ 1 + 5 * n ∧ 0 + n ≤ 77 * n; omega) ?_
  have h0 : (va_up w (a + 1 + 0) (ra G n fun _ => none)) a = ob 5 [.int (nI 0), .null] := (va_up_ne _ _ (by omega)).trans h
  refine k_put 16 dX6_init_13 rfl (pX6_init_15 n) ⟨by omega, h0⟩ (Nat.le_of_ble_eq_true rfl) rfl rfl ?_
  refine k_iconst (nI 0) 17 dX6_init_16 rfl kc_0 ?_
  refine k_istore_n _ 18 dX6_init_17 rfl rfl (show (2 : Nat) < 3 by decide) rfl rfl ?_
  have loop : ∀ d i (w1 : WD) (f : Nat → Option Nat), i + d = n → w1 a = ob 5 [.int (nI 0), rf G (a + 1)] → w1 (a + 1) = ra G n f → (∀ j, j < i → f j = some (ad G (a + 2 + 5 * j)) ∧ ScR G (a + 2 + 5 * n) w1 (a + 2 + 5 * j) (fun _ => 0) (fun _ => 0) (fun _ => 0) (fun _ => 0) 0 0) → Eqx w w1 a (a + 2 + 5 * n) → KRun G (jX6_init n) (a + 1) (fun r w1 => r = none ∧ ShM G (a + 2 + 5 * n) w1 a n m [] ∧ Eqx w w1 a (a + 2 + 5 * n)) 18 [some (rf G a), some (.int (nI n)), some (.int (nI i))] [] (1 + 5 * i) (n + 76 * i) w1 := by
    intro d
    induction d with
    | zero =>
      intro i w1 f hi h1 h2 hs hE
      have hI : i = n := by omega
      subst hI
      refine k_iload_n 19 dX6_init_18 rfl rfl rfl ?_
      refine k_aload_n 20 dX6_init_19 rfl rfl rfl ?_
      refine k_get 23 dX6_init_20 rfl (fX6_init_15 i) ⟨by omega, h1⟩ (by rfl) ?_
      refine k_alenR 24 dX6_init_23 rfl ⟨by omega, h2⟩ ?_
      refine k_icmp_geN 46 27 dX6_init_24 rfl rfl (by omega) (by omega) (fun c => ?_) (fun c => by omega)
      refine k_vret dX6_init_46 rfl rfl (by show i + 76 * i ≤ 77 * i; omega) ⟨rfl, ⟨fun j => a + 2 + 5 * j, f, ⟨⟨by omega, h1⟩, ⟨by omega, h2⟩, fun j hj => ⟨(hs j hj).1, ⟨j, hj, rfl⟩, _, _, _, _, _, _, (hs j hj).2⟩, fun x y hx hy e => by dsimp only at e; omega⟩, Nat.zero_le _, fun j hj => absurd hj (Nat.not_lt_zero j)⟩, hE⟩
    | succ d ih =>
      intro i w1 f hi h1 h2 hs hE
      have en : a + 1 + (1 + 5 * i) = a + 2 + 5 * i := by omega
      refine k_iload_n 19 dX6_init_18 rfl rfl rfl ?_
      refine k_aload_n 20 dX6_init_19 rfl rfl rfl ?_
      refine k_get 23 dX6_init_20 rfl (fX6_init_15 n) ⟨by omega, h1⟩ (by rfl) ?_
      refine k_alenR 24 dX6_init_23 rfl ⟨by omega, h2⟩ ?_
      refine k_icmp_geN 46 27 dX6_init_24 rfl rfl (by omega) (by omega) (fun c => by omega) (fun c => ?_)
      refine k_aload_n 28 dX6_init_27 rfl rfl rfl ?_
      refine k_get 31 dX6_init_28 rfl (fX6_init_15 n) ⟨by omega, h1⟩ (by rfl) ?_
      refine k_iload_n 32 dX6_init_31 rfl rfl rfl ?_
      refine k_new (ci := 3) (C := RX4) (T := TX4) (Nf := 6) 35 hg dX6_init_32 rfl [.null, .null, .null, .null, .int (nI 0), .int (nI 0)] rfl (nX6_init_13 n).1 tyX4 tyX4_ok (nX6_init_13 n).2 (by decide +kernel) (by show 1 + 5 * i + 1 ≤ 1 + 5 * n ∧ n + 76 * i + 6 ≤ 77 * n; omega) ?_
      rw [en]
      refine k_dup 36 dX6_init_35 rfl rfl ?_
      have hcon := c_X4_init (G := G) (w := va_up w1 (a + 2 + 5 * i) (ob 3 [.null, .null, .null, .null, .int (nI 0), .int (nI 0)])) (a := a + 2 + 5 * i) hg (va_up_self _ _ _)
      rw [show a + 2 + 5 * i + 1 = a + 1 + (1 + 5 * i + 1) by omega] at hcon
      refine k_callIN (As := []) 39 hg dX6_init_36 rfl (vX6_init_21 n) rfl rfl (Nat.le_of_ble_eq_true rfl) (by show 1 + 5 * i + 1 + 4 ≤ 1 + 5 * n ∧ n + 76 * i + 6 + 70 ≤ 77 * n; omega) hcon (fun r2 w2 x2 => ?_)
      obtain ⟨rfl, hS, hE2⟩ := x2
      refine k_cs (1 + 5 * (i + 1)) (n + 76 * (i + 1)) (by show 1 + 5 * i + 1 + 4 = _; omega) (by show n + 76 * i + 6 + 70 = _; omega) ?_
      have tr : ∀ k, k < a + 2 + 5 * i → w2 k = w1 k := fun k hk => (hE2 k (by omega)).trans (va_up_ne _ _ (by omega))
      refine k_aast (a := a + 1) (n := n) (f := f) 40 dX6_init_39 rfl ⟨by omega, (tr _ (by omega)).trans h2⟩ ⟨by omega, hS.1.2⟩ (by omega) (by omega) ?_
      refine k_iinc _ _ 43 dX6_init_40 rfl rfl (nI_inc _) (show (2 : Nat) < 3 by decide) rfl rfl ?_
      refine k_goto 18 dX6_init_43 rfl ?_
      refine ih (i + 1) _ (va_up f i (some (ad G (a + 2 + 5 * i)))) (by omega) ((va_up_ne _ _ (by omega)).trans ((tr _ (by omega)).trans h1)) (va_up_self _ _ _) (fun j hj => ?_) (fun k hk => (va_up_ne _ _ (by omega)).trans ((hE2 k (by omega)).trans ((va_up_ne _ _ (by omega)).trans (hE k hk))))
      by_cases e : j = i
      · subst e
        exact ⟨va_up_self _ _ _, (hS.mn (by omega)).fr (fun k _ _ => va_up_ne _ _ (by omega))⟩
      · refine ⟨(va_up_ne _ _ e).trans (hs j (by omega)).1, (hs j (by omega)).2.fr (fun k _ _ => (va_up_ne _ _ (by omega)).trans (tr k (by omega)))⟩
  refine k_cs (1 + 5 * 0) (n + 76 * 0) rfl (by omega) ?_
  refine loop n 0 _ (fun _ => none) (by omega) (va_up_self _ _ _) ((va_up_ne _ _ (by omega)).trans (va_up_self _ _ _)) (fun j hj => absurd hj (Nat.not_lt_zero j)) (fun k hk => (va_up_ne _ _ (by omega)).trans (va_up_ne _ _ (by omega)))
