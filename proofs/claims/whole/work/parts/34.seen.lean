/-! Sightings: what was seen -/
abbrev Nt : Type := Nat × Nat × Nat
def nof (who : Option Nat) (p : Nat) : Bool := match who with
  | none => true
  | some q => p == q
def lmn (K : Nat → Nt) (who : Option Nat) : Nat → Nat
  | 0 => 0
  | i + 1 => if nof who (K i).1 = true then max (lmn K who i) (K i).2.1 else lmn K who i
def agr (K : Nat → Nt) (who : Option Nat) (M : Mo) (t : Nat) : Nat → Bool
  | 0 => true
  | i + 1 => agr K who M t i && !(nof who (K i).1 && (K i).2.1 == t && !(decide (due M (K i).1 = ((K i).2.2 : Int) - 200000)))
def soN (K : Nat → Nt) (m : Nat) (who : Option Nat) (F : Fo) (M : Mo) : Nat → Bool
  | 0 => true
  | i + 1 => soN K m who F M i && agr K who (mns F M (i + 1)) (i + 1) m
def soK (K : Nat → Nt) (m : Nat) (who : Option Nat) (F : Fo) (M : Mo) : Bool := soN K m who F M (lmn K who m)
theorem agr_f {K : Nat → Nt} {who : Option Nat} {M : Mo} {t i : Nat} (h : agr K who M t i = false) : ∀ j, i ≤ j → agr K who M t j = false := by
  intro j
  induction j with
  | zero => intro h2; rw [show i = 0 by omega] at h; exact h
  | succ j ih =>
    intro h2
    by_cases e : i = j + 1
    · rw [← e]; exact h
    · simp only [agr, ih (by omega), Bool.false_and]
theorem soN_f {K : Nat → Nt} {m : Nat} {who : Option Nat} {F : Fo} {M : Mo} {i : Nat} (h : soN K m who F M i = false) : ∀ j, i ≤ j → soN K m who F M j = false := by
  intro j
  induction j with
  | zero => intro h2; rw [show i = 0 by omega] at h; exact h
  | succ j ih =>
    intro h2
    by_cases e : i = j + 1
    · rw [← e]; exact h
    · simp only [soN, ih (by omega), Bool.false_and]
abbrev SiX (G : KG) (a fo b m : Nat) : va_E := ob 6 [.int (nI m), rf G (a + 1), rf G (a + 2), rf G (a + 3), rf G (a + 4), rf G fo, rf G (a + 5), rf G b, rf G (a + 9)]
def SiK (G : KG) (N : Nat) (w : WD) (a m : Nat) (K : Nat → Nt) : Prop := ∃ ps mi du : Nat → Int32, Is N w (a + 2) (ia G 6 ps) ∧ Is N w (a + 3) (ia G 6 mi) ∧ Is N w (a + 4) (ia G 6 du) ∧ ∀ i, i < m → ps i = nI (K i).1 ∧ mi i = nI (K i).2.1 ∧ du i = iZ (((K i).2.2 : Int) - 200000) ∧ (K i).1 < 7 ∧ 1 ≤ (K i).2.1 ∧ (K i).2.1 ≤ 20 ∧ (K i).2.2 ≤ 400000
theorem SiK.fr {G : KG} {N a m lo hi : Nat} {w w1 : WD} {K : Nat → Nt} (h : SiK G N w a m K) (hE : Eqx w w1 lo hi) (hk : a + 5 ≤ lo ∨ hi ≤ a + 2) : SiK G N w1 a m K := by
  obtain ⟨ps, mi, du, h1, h2, h3, h4⟩ := h
  exact ⟨ps, mi, du, h1.eqx hE (by omega), h2.eqx hE (by omega), h3.eqx hE (by omega), h4⟩
def whI (who : Option Nat) : Int32 := match who with
  | none => -1
  | some p => nI p
theorem nI_max {a b : Nat} (ha : a < 2 ^ 31) (hb : b < 2 ^ 31) : (if nI a < nI b then nI b else nI a) = nI (max a b) := by
  by_cases h : a < b
  · rw [if_pos (nI_lt h hb), Nat.max_eq_right (by omega)]
  · rw [if_neg (nI_nlt (by omega) ha), Nat.max_eq_left (by omega)]
theorem nI_n1 {k : Nat} (h : k < 1000) : ¬ nI k = -1 := fun e => by
  have h1 := nI_pos (n := k) (by omega)
  rw [e] at h1
  exact h1 (by decide)
theorem lmn_b {K : Nat → Nt} {who : Option Nat} {m : Nat} (h : ∀ i, i < m → (K i).2.1 ≤ 20) : ∀ i, i ≤ m → lmn K who i ≤ 20 := by
  intro i
  induction i with
  | zero => intro _; exact Nat.zero_le _
  | succ i ih =>
    intro hi
    have h1 := ih (by omega)
    have h2 := h i (by omega)
    simp only [lmn]
    split <;> omega
theorem c_X7_isOf {G : KG} {N : Nat} {w : WD} {a fo b m i : Nat} {K : Nat → Nt} (who : Option Nat) (h : Is N w a (SiX G a fo b m)) (hK : SiK G N w a m K) (hi : i < m) (hm : m ≤ 6) (hw : ∀ p, who = some p → p < 7) : KCon G jX7_isOf N w [rf G a, .int (nI i), .int (whI who)] (fun r w1 => r = some (.int (bI (nof who (K i).1))) ∧ w1 = w) := by
  obtain ⟨ps, mi, du, h1, h2, h3, h4⟩ := hK
  obtain ⟨e1, e2, e3, b1, -⟩ := h4 i hi
  refine KCon.of ([some (rf G a), some (.int (nI i)), some (.int (whI who))]) (by decide) rfl (by simp [Value.category]) (Nat.le_of_ble_eq_true rfl) rfl ?_
  refine k_iload_n 1 dX7_isOf_0 rfl rfl rfl ?_
  refine k_iconst (-1) 2 dX7_isOf_1 rfl km_1 ?_
  cases who with
  | none =>
    refine k_icmp_eq 17 5 dX7_isOf_2 rfl rfl (fun c => ?_) (fun c => ?_)
    · refine k_iconst (nI 1) 18 dX7_isOf_17 rfl kc_1 ?_
      refine k_goto 22 dX7_isOf_18 rfl ?_
      refine k_zret dX7_isOf_22 rfl rfl rfl (Nat.le_of_ble_eq_true rfl) ⟨rfl, rfl⟩
    · exact absurd rfl c
  | some p =>
    have hp := hw p rfl
    refine k_icmp_eq 17 5 dX7_isOf_2 rfl rfl (fun c => ?_) (fun c => ?_)
    · exact absurd c (nI_n1 (by omega))
    · refine k_aload_n 6 dX7_isOf_5 rfl rfl rfl ?_
      refine k_get 9 dX7_isOf_6 rfl fX7_isOf_15 (by (repeat (refine Is.ne ?_ (by omega))); first | assumption | exact Is.up (by omega)) (by rfl) ?_
      refine k_iload_n 10 dX7_isOf_9 rfl rfl rfl ?_
      refine k_S2 13 dX7_isOf_10 rfl vX7_isOf_90 (Nat.le_of_ble_eq_true rfl) rfl ⟨Nat.le_of_ble_eq_true rfl, Nat.le_of_ble_eq_true rfl⟩ (c_X3_at h1 (by omega) (by omega)) (fun r9 w9 h9 => ?_)
      obtain ⟨h8, h9⟩ := h9
      subst h8
      have h9 := h9.symm
      subst h9
      refine k_iload_n 14 dX7_isOf_13 rfl rfl rfl ?_
      rw [e1]
      refine k_tp (.int (nI p)) rfl ?_
      refine k_icmp_neN 21 17 dX7_isOf_14 rfl rfl (by omega) (by omega) (fun c => ?_) (fun c => ?_)
      · refine k_iconst (nI 0) 22 dX7_isOf_21 rfl kc_0 ?_
        refine k_zret dX7_isOf_22 rfl rfl rfl (Nat.le_of_ble_eq_true rfl) ⟨by simp [nof, bI, c], rfl⟩
      · refine k_iconst (nI 1) 18 dX7_isOf_17 rfl kc_1 ?_
        refine k_goto 22 dX7_isOf_18 rfl ?_
        refine k_zret dX7_isOf_22 rfl rfl rfl (Nat.le_of_ble_eq_true rfl) ⟨by simp [nof, bI, c], rfl⟩
theorem c_X7_lastMinute {G : KG} {N : Nat} {w : WD} {a fo b m : Nat} {K : Nat → Nt} (who : Option Nat) (h : Is N w a (SiX G a fo b m)) (hK : SiK G N w a m K) (hm : m ≤ 6) (hw : ∀ p, who = some p → p < 7) : KCon G jX7_lastMinute N w [rf G a, .int (whI who)] (fun r w1 => r = some (.int (nI (lmn K who m))) ∧ w1 = w) := by
  have hK2 := hK
  obtain ⟨ps, mi, du, h1, h2, h3, h4⟩ := hK2
  refine KCon.of ([some (rf G a), some (.int (whI who)), none, none]) (by decide) rfl (by simp [Value.category]) (Nat.le_of_ble_eq_true rfl) rfl ?_
  refine k_iconst (nI 0) 1 dX7_lastMinute_0 rfl kc_0 ?_
  refine k_istore_n _ 2 dX7_lastMinute_1 rfl rfl (by decide) rfl rfl ?_
  refine k_iconst (nI 0) 3 dX7_lastMinute_2 rfl kc_0 ?_
  refine k_istore_n _ 4 dX7_lastMinute_3 rfl rfl (by decide) rfl rfl ?_
  have loop : ∀ d i, i + d = m → KRun G jX7_lastMinute N (fun r w1 => r = some (.int (nI (lmn K who m))) ∧ w1 = w) 4 [some (rf G a), some (.int (whI who)), some (.int (nI (lmn K who i))), some (.int (nI i))] [] 0 0 w := by
    intro d
    induction d with
    | zero =>
      intro i hi
      refine k_iload_n 5 dX7_lastMinute_4 rfl rfl rfl ?_
      refine k_aload_n 6 dX7_lastMinute_5 rfl rfl rfl ?_
      refine k_get 9 dX7_lastMinute_6 rfl fX7_lastMinute_44 (by (repeat (refine Is.ne ?_ (by omega))); first | assumption | exact Is.up (by omega)) (by rfl) ?_
      refine k_icmp_geN 40 12 dX7_lastMinute_9 rfl rfl (by omega) (by omega) (fun c => ?_) (fun c => ?_)
      · refine k_iload_n 41 dX7_lastMinute_40 rfl rfl rfl ?_
        refine k_iret dX7_lastMinute_41 rfl rfl (Nat.le_of_ble_eq_true rfl) ⟨by rw [show i = m by omega], rfl⟩
      · omega
    | succ d ih =>
      intro i hi
      obtain ⟨e1, e2, e3, b1, b2, b3, b4⟩ := h4 i (by omega)
      have hl := lmn_b (K := K) (who := who) (fun i hi => (h4 i hi).2.2.2.2.2.1) i (by omega)
      refine k_iload_n 5 dX7_lastMinute_4 rfl rfl rfl ?_
      refine k_aload_n 6 dX7_lastMinute_5 rfl rfl rfl ?_
      refine k_get 9 dX7_lastMinute_6 rfl fX7_lastMinute_44 (by (repeat (refine Is.ne ?_ (by omega))); first | assumption | exact Is.up (by omega)) (by rfl) ?_
      refine k_icmp_geN 40 12 dX7_lastMinute_9 rfl rfl (by omega) (by omega) (fun c => ?_) (fun c => ?_)
      · omega
      · refine k_aload_n 13 dX7_lastMinute_12 rfl rfl rfl ?_
        refine k_iload_n 14 dX7_lastMinute_13 rfl rfl rfl ?_
        refine k_iload_n 15 dX7_lastMinute_14 rfl rfl rfl ?_
        refine k_V2 (ci := 6) 18 dX7_lastMinute_15 rfl vX7_lastMinute_110 (by (repeat (refine Is.ne ?_ (by omega))); first | assumption | exact Is.up (by omega)) rfl rfl (Nat.le_of_ble_eq_true rfl) rfl ⟨Nat.le_of_ble_eq_true rfl, Nat.le_of_ble_eq_true rfl⟩ (c_X7_isOf who h hK (by omega) hm hw) (fun r9 w9 h9 => ?_)
        obtain ⟨h8, h9⟩ := h9
        subst h8
        have h9 := h9.symm
        subst h9
        refine k_if_eqB 34 21 dX7_lastMinute_18 rfl rfl (fun c9 => ?_) (fun c9 => ?_)
        · refine k_iinc _ _ 37 dX7_lastMinute_34 rfl rfl (nI_inc _) (by decide) rfl rfl ?_
          refine k_goto 4 dX7_lastMinute_37 rfl ?_
          have := ih (i + 1) (by omega)
          simp only [lmn, c9, if_neg Bool.false_ne_true] at this
          exact this
        · refine k_iload_n 22 dX7_lastMinute_21 rfl rfl rfl ?_
          refine k_aload_n 23 dX7_lastMinute_22 rfl rfl rfl ?_
          refine k_get 26 dX7_lastMinute_23 rfl fX7_lastMinute_18 (by (repeat (refine Is.ne ?_ (by omega))); first | assumption | exact Is.up (by omega)) (by rfl) ?_
          refine k_iload_n 27 dX7_lastMinute_26 rfl rfl rfl ?_
          refine k_S2 30 dX7_lastMinute_27 rfl vX7_lastMinute_90 (Nat.le_of_ble_eq_true rfl) rfl ⟨Nat.le_of_ble_eq_true rfl, Nat.le_of_ble_eq_true rfl⟩ (c_X3_at h2 (by omega) (by omega)) (fun r9 w9 h9 => ?_)
          obtain ⟨h8, h9⟩ := h9
          subst h8
          have h9 := h9.symm
          subst h9
          rw [e2]
          refine k_max _ 33 dX7_lastMinute_30 rfl vX7_lastMinute_113 (Nat.le_of_ble_eq_true rfl) ⟨Nat.le_of_ble_eq_true rfl, Nat.le_of_ble_eq_true rfl⟩ (nI_max (by omega) (by omega)) ?_
          refine k_istore_n _ 34 dX7_lastMinute_33 rfl rfl (by decide) rfl rfl ?_
          refine k_iinc _ _ 37 dX7_lastMinute_34 rfl rfl (nI_inc _) (by decide) rfl rfl ?_
          refine k_goto 4 dX7_lastMinute_37 rfl ?_
          have := ih (i + 1) (by omega)
          simp only [lmn, c9, if_pos] at this
          exact this
  exact loop m 0 (by omega)
