/-! the cells of the whole queue -/
theorem ScM.ob {G : KG} {N a n : Nat} {w : WD} {M : Mo} (h : ScM G N w a n M) : Is N w a (ob 3 [rf G (a + 1), rf G (a + 2), rf G (a + 3), rf G (a + 4), .int (nI (mL M)), .int (nI (mG M))]) := by
  obtain ⟨l, wh, pu, db, h1, -⟩ := h
  exact h1.1
theorem FkM.ob {G : KG} {N a : Nat} {w : WD} {F : Fo} (h : FkM G N w a F) : Is N w a (ob 1 [rf G (a + 1), rf G (a + 2), rf G (a + 3), .int (nI (oN F)), .int (nI (oS F))]) := by
  obtain ⟨kd, wo, pe, h1, -⟩ := h
  exact h1.1
theorem ShM.ob {G : KG} {N a room n : Nat} {w : WD} {L : List Mo} (h : ShM G N w a room n L) : Is N w a (ob 5 [.int (nI L.length), rf G (a + 1)]) := by
  obtain ⟨loc, f, h1, -⟩ := h
  exact h1.1
def QsS (G : KG) (N : Nat) (w : WD) (a t : Nat) (T : Nat → Nat) : Prop := ∃ (at_ : Nat) (nums : Nat → Int32), ScrI G N w a T t at_ nums ∧ FkG G N w (a + 1) ∧ TrG G N w (a + 5)
def QsF (G : KG) (N : Nat) (w : WD) (a fo b : Nat) : Prop := ∃ (x : Value) (ch va : Int32), Is N w a (FsX G a fo b x (.int ch) (.int va)) ∧ TrG G N w (a + 1) ∧ ClA G N w a
def QsI (G : KG) (N : Nat) (w : WD) (a fo b m : Nat) (K : Nat → Nt) : Prop := Is N w a (SiX G a fo b m) ∧ (∃ od, Is N w (a + 1) (ia G 7 od)) ∧ SiK G N w a m K ∧ FkG G N w (a + 5) ∧ TrG G N w (a + 9)
def QsC (G : KG) (N : Nat) (w : WD) (a fo b : Nat) : Prop := ∃ x y : Value, Is N w a (ChX G a fo b x y) ∧ TrG G N w (a + 1)
theorem QsS.fr {G : KG} {N a t lo hi : Nat} {w w1 : WD} {T : Nat → Nat} (h : QsS G N w a t T) (hE : Eqx w w1 lo hi) (hk : a + 12 ≤ lo ∨ hi ≤ a) : QsS G N w1 a t T := by
  obtain ⟨at_, nums, h1, h2, h3⟩ := h
  exact ⟨at_, nums, h1.fr (fun k hk2 => hE k (by omega)), h2.fr hE (by omega), h3.fr hE (by omega)⟩
theorem QsF.fr {G : KG} {N a fo b lo hi : Nat} {w w1 : WD} (h : QsF G N w a fo b) (hE : Eqx w w1 lo hi) (hk : a + 8 ≤ lo ∨ hi ≤ a) : QsF G N w1 a fo b := by
  obtain ⟨x, ch, va, h1, h2, h3⟩ := h
  exact ⟨x, ch, va, h1.eqx hE (by omega), h2.fr hE (by omega), h3.fr hE (by omega)⟩
theorem QsI.fr {G : KG} {N a fo b m lo hi : Nat} {w w1 : WD} {K : Nat → Nt} (h : QsI G N w a fo b m K) (hE : Eqx w w1 lo hi) (hk : a + 14 ≤ lo ∨ hi ≤ a) : QsI G N w1 a fo b m K := by
  obtain ⟨h1, ⟨od, h2⟩, h3, h4, h5⟩ := h
  exact ⟨h1.eqx hE (by omega), ⟨od, h2.eqx hE (by omega)⟩, h3.fr hE (by omega), h4.fr hE (by omega), h5.fr hE (by omega)⟩
theorem QsC.fr {G : KG} {N a fo b lo hi : Nat} {w w1 : WD} (h : QsC G N w a fo b) (hE : Eqx w w1 lo hi) (hk : a + 6 ≤ lo ∨ hi ≤ a) : QsC G N w1 a fo b := by
  obtain ⟨x, y, h1, h2⟩ := h
  exact ⟨x, y, h1.eqx hE (by omega), h2.fr hE (by omega)⟩
theorem Is.fr {N k lo hi : Nat} {w w1 : WD} {e : va_E} (h : Is N w k e) (hE : Eqx w w1 lo hi) (hk : k < lo ∨ hi ≤ k) : Is N w1 k e := h.eqx hE hk
/-- the cells a .. a + 103 -/
def QsM (G : KG) (N : Nat) (w : WD) (a : Nat) (S : St) : Prop := Is N w a (ob 7 [rf G (a + 1), rf G (a + 5), rf G (a + 10), rf G (a + 22), rf G (a + 64), rf G (a + 76), rf G (a + 84), rf G (a + 98)]) ∧ FkM G N w (a + 1) (qF S) ∧ ScM G N w (a + 5) (oN (qF S)) (qM S) ∧ QsS G N w (a + 10) (qt S) (qT S) ∧ ShM G N w (a + 22) 8 (oN (qF S)) (qP S) ∧ ShM G N w (a + 64) 2 (oN (qF S)) (qK S) ∧ QsF G N w (a + 76) (a + 1) (a + 5) ∧ QsI G N w (a + 84) (a + 1) (a + 5) (qm S) (qN S) ∧ QsC G N w (a + 98) (a + 1) (a + 5)
theorem c_prs {G : KG} {N : Nat} {w : WD} {a : Nat} {x : Int32} {F : Fo} (h : FkM G N w a F) (hn : oN F ≤ 7) : KCon G jX1_isPerson N w [rf G a, .int x] (fun r w1 => r = some (.int (bI (prs (oN F) x).isSome)) ∧ w1 = w) := by
  refine (c_X1_isPerson h hn).imp (fun r w1 hx => ?_)
  rcases hx with ⟨p, hp, rfl, hr, hw⟩ | ⟨hno, hr, hw⟩
  · rw [prs_nI hn hp]
    exact ⟨hr, hw⟩
  · rcases prs_c hn x with ⟨p, hp, rfl, -⟩ | ⟨-, e⟩
    · exact absurd rfl (hno p hp)
    · rw [e]
      exact ⟨hr, hw⟩
theorem two_c {n : Nat} (hn : n ≤ 7) (x y : Int32) : (∃ a b, a < n ∧ b < n ∧ a ≠ b ∧ x = nI a ∧ y = nI b ∧ two n x y = some (a, b)) ∨ two n x y = none := by
  unfold two
  rcases prs_c hn x with ⟨p, hp, rfl, e⟩ | ⟨-, e⟩
  · rw [e]
    rcases prs_c hn y with ⟨q, hq, rfl, e2⟩ | ⟨-, e2⟩
    · rw [e2]
      dsimp only
      by_cases h : p = q
      · rw [if_pos h]
        exact Or.inr rfl
      · rw [if_neg h]
        exact Or.inl ⟨p, q, hp, hq, h, rfl, rfl, rfl⟩
    · rw [e2]
      exact Or.inr rfl
  · rw [e]
    exact Or.inr rfl
theorem c_X8_isNoPart {G : KG} {N : Nat} {w : WD} {x : Int32} : KCon G jX8_isNoPart N w [.int x] (fun r w1 => r = some (.int (bI (!(rgn 0 1 x).isSome))) ∧ w1 = w) := by
  refine KCon.of ([some (.int x)]) (by decide) rfl (by simp [Value.category]) (Nat.le_of_ble_eq_true rfl) rfl ?_
  rcases rgn_c 0 1 x with ⟨k, k1, k2, rfl, e⟩ | ⟨hx, e⟩
  · rw [e]
    refine k_iload_n 1 dX8_isNoPart_0 rfl rfl rfl ?_
    refine k_if_eqN 13 4 dX8_isNoPart_1 rfl rfl (by omega) (fun c => ?_) (fun c => ?_)
    · refine k_iconst (nI 0) 14 dX8_isNoPart_13 rfl kc_0 ?_
      refine k_zret dX8_isNoPart_14 rfl rfl rfl (Nat.le_of_ble_eq_true rfl) ⟨rfl, rfl⟩
    · refine k_iload_n 5 dX8_isNoPart_4 rfl rfl rfl ?_
      refine k_iconst (nI 1) 6 dX8_isNoPart_5 rfl kc_1 ?_
      refine k_icmp_eqN 13 9 dX8_isNoPart_6 rfl rfl (by omega) (by omega) (fun c => ?_) (fun c => ?_)
      · refine k_iconst (nI 0) 14 dX8_isNoPart_13 rfl kc_0 ?_
        refine k_zret dX8_isNoPart_14 rfl rfl rfl (Nat.le_of_ble_eq_true rfl) ⟨rfl, rfl⟩
      · omega
  · rw [e]
    refine k_iload_n 1 dX8_isNoPart_0 rfl rfl rfl ?_
    refine k_if_eq 13 4 dX8_isNoPart_1 rfl rfl (fun c => ?_) (fun c => ?_)
    · exfalso
      subst c
      revert hx
      decide
    · refine k_iload_n 5 dX8_isNoPart_4 rfl rfl rfl ?_
      refine k_iconst (nI 1) 6 dX8_isNoPart_5 rfl kc_1 ?_
      refine k_icmp_eq 13 9 dX8_isNoPart_6 rfl rfl (fun c => ?_) (fun c => ?_)
      · exfalso
        subst c
        revert hx
        decide
      · refine k_iconst (nI 1) 10 dX8_isNoPart_9 rfl kc_1 ?_
        refine k_goto 14 dX8_isNoPart_10 rfl ?_
        refine k_zret dX8_isNoPart_14 rfl rfl rfl (Nat.le_of_ble_eq_true rfl) ⟨rfl, rfl⟩
theorem c_X8_areTwo {G : KG} {N : Nat} {w : WD} {a : Nat} {x y : Int32} {S : St} (h : QsM G N w a S) (hn : oN (qF S) ≤ 7) : KCon G jX8_areTwo N w [rf G a, .int x, .int y] (fun r w1 => r = some (.int (bI (two (oN (qF S)) x y).isSome)) ∧ w1 = w) := by
  obtain ⟨hQ, hF, -⟩ := h
  have f0 := hF.ob
  refine KCon.of ([some (rf G a), some (.int x), some (.int y)]) (by decide) rfl (by simp [Value.category]) (Nat.le_of_ble_eq_true rfl) rfl ?_
  have no : two (oN (qF S)) x y = none → KRun G jX8_areTwo N (fun r w1 => r = some (.int (bI (two (oN (qF S)) x y).isSome)) ∧ w1 = w) 31 [some (rf G a), some (.int x), some (.int y)] [] 0 0 w := by
    intro e
    rw [e]
    refine k_iconst (nI 0) 32 dX8_areTwo_31 rfl kc_0 ?_
    refine k_zret dX8_areTwo_32 rfl rfl rfl (Nat.le_of_ble_eq_true rfl) ⟨rfl, rfl⟩
  refine k_aload_n 1 dX8_areTwo_0 rfl rfl rfl ?_
  refine k_get 4 dX8_areTwo_1 rfl fX8_areTwo_10 (by (repeat (refine Is.ne ?_ (by omega))); first | assumption | exact Is.up (by omega)) (by rfl) ?_
  refine k_iload_n 5 dX8_areTwo_4 rfl rfl rfl ?_
  refine k_V1 (ci := 1) 8 dX8_areTwo_5 rfl vX8_areTwo_95 (by (repeat (refine Is.ne ?_ (by omega))); first | assumption | exact Is.up (by omega)) rfl rfl (Nat.le_of_ble_eq_true rfl) rfl ⟨Nat.le_of_ble_eq_true rfl, Nat.le_of_ble_eq_true rfl⟩ (c_prs hF hn) (fun r9 w9 h9 => ?_)
  obtain ⟨h8, h9⟩ := h9
  subst h8
  have h9 := h9.symm
  subst h9
  rcases prs_c hn x with ⟨p, hp, rfl, e⟩ | ⟨hno, e⟩
  · rw [e]
    refine k_if_eqB 31 11 dX8_areTwo_8 rfl rfl (fun c9 => absurd c9 (by simp)) (fun c9 => ?_)
    refine k_aload_n 12 dX8_areTwo_11 rfl rfl rfl ?_
    refine k_get 15 dX8_areTwo_12 rfl fX8_areTwo_10 (by (repeat (refine Is.ne ?_ (by omega))); first | assumption | exact Is.up (by omega)) (by rfl) ?_
    refine k_iload_n 16 dX8_areTwo_15 rfl rfl rfl ?_
    refine k_V1 (ci := 1) 19 dX8_areTwo_16 rfl vX8_areTwo_95 (by (repeat (refine Is.ne ?_ (by omega))); first | assumption | exact Is.up (by omega)) rfl rfl (Nat.le_of_ble_eq_true rfl) rfl ⟨Nat.le_of_ble_eq_true rfl, Nat.le_of_ble_eq_true rfl⟩ (c_prs hF hn) (fun r9 w9 h9 => ?_)
    obtain ⟨h8, h9⟩ := h9
    subst h8
    have h9 := h9.symm
    subst h9
    rcases prs_c hn y with ⟨q, hq, rfl, e2⟩ | ⟨hno, e2⟩
    · rw [e2]
      refine k_if_eqB 31 22 dX8_areTwo_19 rfl rfl (fun c9 => absurd c9 (by simp)) (fun c9 => ?_)
      refine k_iload_n 23 dX8_areTwo_22 rfl rfl rfl ?_
      refine k_iload_n 24 dX8_areTwo_23 rfl rfl rfl ?_
      refine k_icmp_eqN 31 27 dX8_areTwo_24 rfl rfl (by omega) (by omega) (fun c => ?_) (fun c => ?_)
      · exact no (by unfold two; rw [e, e2]; dsimp only; rw [if_pos c])
      · refine k_iconst (nI 1) 28 dX8_areTwo_27 rfl kc_1 ?_
        refine k_goto 32 dX8_areTwo_28 rfl ?_
        refine k_zret dX8_areTwo_32 rfl rfl rfl (Nat.le_of_ble_eq_true rfl) ⟨by unfold two; rw [e, e2]; dsimp only; rw [if_neg c]; rfl, rfl⟩
    · rw [e2]
      refine k_if_eqB 31 22 dX8_areTwo_19 rfl rfl (fun c9 => ?_) (fun c9 => absurd c9 (by simp))
      exact no (by unfold two; rw [e, e2])
  · rw [e]
    refine k_if_eqB 31 11 dX8_areTwo_8 rfl rfl (fun c9 => ?_) (fun c9 => absurd c9 (by simp))
    exact no (by unfold two; rw [e])
