/-! KerbQueueModel: the text -/
def num (T : Nat → Nat) (t i lo hx e : Nat) : Option (Nat × Nat) := match rdn T t i with
  | none => none
  | some (v, j) => if lo ≤ v ∧ v < hx ∧ ltA T t j = e then some (v, j + 1) else none
theorem num_inv {T : Nat → Nat} {t i lo hx e v j1 : Nat} (h : num T t i lo hx e = some (v, j1)) : ∃ j, j1 = j + 1 ∧ rdn T t i = some (v, j) ∧ lo ≤ v ∧ v < hx ∧ ltA T t j = e := by
  unfold num at h
  cases e1 : rdn T t i with
  | none => rw [e1] at h; cases h
  | some q =>
    obtain ⟨v1, j⟩ := q
    rw [e1] at h
    dsimp only at h
    split at h
    · next hc =>
      simp only [Option.some.injEq, Prod.mk.injEq] at h
      obtain ⟨rfl, rfl⟩ := h
      exact ⟨j, rfl, rfl, hc.1, hc.2.1, hc.2.2⟩
    · cases h
theorem num_mk {T : Nat → Nat} {t i lo hx e v j : Nat} (h1 : rdn T t i = some (v, j)) (h2 : lo ≤ v) (h3 : v < hx) (h4 : ltA T t j = e) : num T t i lo hx e = some (v, j + 1) := by
  unfold num
  rw [h1]
  dsimp only
  rw [if_pos ⟨h2, h3, h4⟩]
theorem rds_s {T : Nat → Nat} {t m i e : Nat} {l : List Nat} (h : rds T t (m + 1) i = some (l, e)) : ∃ v j l1, rdn T t i = some (v, j) ∧ ltA T t j = (if m = 0 then 59 else 44) ∧ rds T t m (j + 1) = some (l1, e) ∧ l = v :: l1 := by
  simp only [rds] at h
  cases h1 : rdn T t i with
  | none => rw [h1] at h; cases h
  | some vj =>
    obtain ⟨v, j⟩ := vj
    rw [h1] at h
    dsimp only at h
    by_cases h2 : ltA T t j = (if m = 0 then 59 else 44)
    · rw [if_pos h2] at h
      cases h3 : rds T t m (j + 1) with
      | none => rw [h3] at h; cases h
      | some le =>
        obtain ⟨l1, e1⟩ := le
        rw [h3] at h
        simp only [Option.some.injEq, Prod.mk.injEq] at h
        obtain ⟨rfl, rfl⟩ := h
        exact ⟨v, j, l1, rfl, h2, h3, rfl⟩
    · rw [if_neg h2] at h
      cases h
theorem rds_mk {T : Nat → Nat} {t m i e v j : Nat} {l1 : List Nat} (h1 : rdn T t i = some (v, j)) (h2 : ltA T t j = (if m = 0 then 59 else 44)) (h3 : rds T t m (j + 1) = some (l1, e)) : rds T t (m + 1) i = some (v :: l1, e) := by
  simp only [rds]
  rw [h1]
  dsimp only
  rw [if_pos h2, h3]
theorem rds_0 {T : Nat → Nat} {t i e : Nat} {l : List Nat} (h : rds T t 0 i = some (l, e)) : l = [] ∧ e = i := by
  simp only [rds, Option.some.injEq, Prod.mk.injEq] at h
  exact ⟨h.1.symm, h.2.symm⟩
theorem itp_mk {T : Nat → Nat} {t i i1 i2 i3 i4 k v o h : Nat} {X : Fo × Mo} (hl : ltA T t i = 112) (h1 : num T t (i + 1) 0 4 44 = some (k, i1)) (h2 : num T t i1 0 21 44 = some (v, i2)) (h3 : num T t i2 1 10 44 = some (o, i3)) (h4 : num T t i3 0 61 59 = some (h, i4)) (h5 : oN X.1 < 7) : itm T t X i = some ((addF X.1 k v o, addM X.1 X.2 h), i4) := by
  obtain ⟨j1, rfl, a1, a2, a3, a4⟩ := num_inv h1
  obtain ⟨j2, rfl, b1, b2, b3, b4⟩ := num_inv h2
  obtain ⟨j3, rfl, c1, c2, c3, c4⟩ := num_inv h3
  obtain ⟨j4, rfl, d1, d2, d3, d4⟩ := num_inv h4
  unfold itm
  rw [if_pos hl, rds_mk (m := 3) a1 a4 (rds_mk (m := 2) b1 b4 (rds_mk (m := 1) c1 c4 (rds_mk (m := 0) d1 d4 (show rds T t 0 (j4 + 1) = some ([], j4 + 1) from rfl))))]
  show (if k ≤ 3 ∧ v ≤ 20 ∧ 1 ≤ o ∧ o ≤ 9 ∧ h ≤ 60 ∧ oN X.1 < 7 then some ((addF X.1 k v o, addM X.1 X.2 h), j4 + 1) else none) = _
  rw [if_pos (by omega)]
theorem itp_inv {T : Nat → Nat} {t i j : Nat} {X X1 : Fo × Mo} (hl : ltA T t i = 112) (h : itm T t X i = some (X1, j)) : ∃ k i1 v i2 o i3 m, num T t (i + 1) 0 4 44 = some (k, i1) ∧ num T t i1 0 21 44 = some (v, i2) ∧ num T t i2 1 10 44 = some (o, i3) ∧ num T t i3 0 61 59 = some (m, j) ∧ oN X.1 < 7 := by
  unfold itm at h
  rw [if_pos hl] at h
  cases e : rds T t 4 (i + 1) with
  | none => rw [e] at h; cases h
  | some le =>
    obtain ⟨l, e1⟩ := le
    rw [e] at h
    dsimp only at h
    split at h
    · next hc =>
      simp only [Option.some.injEq, Prod.mk.injEq] at h
      obtain ⟨-, rfl⟩ := h
      obtain ⟨k, j1, l1, a1, a2, a3, rfl⟩ := rds_s (m := 3) e
      obtain ⟨v, j2, l2, b1, b2, b3, rfl⟩ := rds_s (m := 2) a3
      obtain ⟨o, j3, l3, c1, c2, c3, rfl⟩ := rds_s (m := 1) b3
      obtain ⟨m, j4, l4, d1, d2, d3, rfl⟩ := rds_s (m := 0) c3
      obtain ⟨rfl, rfl⟩ := rds_0 d3
      have hc : k ≤ 3 ∧ v ≤ 20 ∧ 1 ≤ o ∧ o ≤ 9 ∧ m ≤ 60 ∧ oN X.1 < 7 := hc
      exact ⟨k, _, v, _, o, _, m, num_mk a1 (by omega) (by omega) a2, num_mk b1 (by omega) (by omega) b2, num_mk c1 (by omega) (by omega) c2, num_mk d1 (by omega) (by omega) d2, hc.2.2.2.2.2⟩
    · cases h
theorem its_mk {T : Nat → Nat} {t i i1 v : Nat} {X : Fo × Mo} (hl : ltA T t i = 115) (h1 : num T t (i + 1) 1 10 59 = some (v, i1)) : itm T t X i = some ((setS X.1 v, X.2), i1) := by
  obtain ⟨j1, rfl, a1, a2, a3, a4⟩ := num_inv h1
  unfold itm
  rw [if_neg (by omega), if_pos hl, rds_mk (m := 0) a1 a4 (show rds T t 0 (j1 + 1) = some ([], j1 + 1) from rfl)]
  show (if 1 ≤ v ∧ v ≤ 9 then some ((setS X.1 v, X.2), j1 + 1) else none) = _
  rw [if_pos (by omega)]
theorem its_inv {T : Nat → Nat} {t i j : Nat} {X X1 : Fo × Mo} (hl : ltA T t i = 115) (h : itm T t X i = some (X1, j)) : ∃ v, num T t (i + 1) 1 10 59 = some (v, j) := by
  unfold itm at h
  rw [if_neg (by omega), if_pos hl] at h
  cases e : rds T t 1 (i + 1) with
  | none => rw [e] at h; cases h
  | some le =>
    obtain ⟨l, e1⟩ := le
    rw [e] at h
    dsimp only at h
    split at h
    · next hc =>
      simp only [Option.some.injEq, Prod.mk.injEq] at h
      obtain ⟨-, rfl⟩ := h
      obtain ⟨m, j4, l4, d1, d2, d3, rfl⟩ := rds_s (m := 0) e
      obtain ⟨rfl, rfl⟩ := rds_0 d3
      have hc : 1 ≤ m ∧ m ≤ 9 := hc
      exact ⟨m, num_mk d1 (by omega) (by omega) d2⟩
    · cases h
theorem itd_mk {T : Nat → Nat} {t i i1 i2 i3 a c m : Nat} {X : Fo × Mo} (hl : ltA T t i = 100) (h1 : num T t (i + 1) 0 (oN X.1) 44 = some (a, i1)) (h2 : num T t i1 0 (oN X.1) 44 = some (c, i2)) (h3 : num T t i2 0 61 59 = some (m, i3)) (h4 : a ≠ c) : itm T t X i = some ((X.1, sD X.2 (7 * a + c) m), i3) := by
  obtain ⟨j1, rfl, a1, a2, a3, a4⟩ := num_inv h1
  obtain ⟨j2, rfl, b1, b2, b3, b4⟩ := num_inv h2
  obtain ⟨j3, rfl, c1, c2, c3, c4⟩ := num_inv h3
  unfold itm
  rw [if_neg (by omega), if_neg (by omega), if_pos hl, rds_mk (m := 2) a1 a4 (rds_mk (m := 1) b1 b4 (rds_mk (m := 0) c1 c4 (show rds T t 0 (j3 + 1) = some ([], j3 + 1) from rfl)))]
  show (if a < oN X.1 ∧ c < oN X.1 ∧ a ≠ c ∧ m ≤ 60 then some ((X.1, sD X.2 (7 * a + c) m), j3 + 1) else none) = _
  rw [if_pos ⟨a3, b3, h4, by omega⟩]
theorem itd_inv {T : Nat → Nat} {t i j : Nat} {X X1 : Fo × Mo} (hl : ltA T t i = 100) (h : itm T t X i = some (X1, j)) : ∃ a i1 c i2 m, num T t (i + 1) 0 (oN X.1) 44 = some (a, i1) ∧ num T t i1 0 (oN X.1) 44 = some (c, i2) ∧ num T t i2 0 61 59 = some (m, j) ∧ a ≠ c := by
  unfold itm at h
  rw [if_neg (by omega), if_neg (by omega), if_pos hl] at h
  cases e : rds T t 3 (i + 1) with
  | none => rw [e] at h; cases h
  | some le =>
    obtain ⟨l, e1⟩ := le
    rw [e] at h
    dsimp only at h
    split at h
    · next hc =>
      simp only [Option.some.injEq, Prod.mk.injEq] at h
      obtain ⟨-, rfl⟩ := h
      obtain ⟨v, j2, l2, b1, b2, b3, rfl⟩ := rds_s (m := 2) e
      obtain ⟨o, j3, l3, c1, c2, c3, rfl⟩ := rds_s (m := 1) b3
      obtain ⟨m, j4, l4, d1, d2, d3, rfl⟩ := rds_s (m := 0) c3
      obtain ⟨rfl, rfl⟩ := rds_0 d3
      have hc : v < oN X.1 ∧ o < oN X.1 ∧ v ≠ o ∧ m ≤ 60 := hc
      exact ⟨v, _, o, _, m, num_mk b1 (by omega) hc.1 b2, num_mk c1 (by omega) hc.2.1 c2, num_mk d1 (by omega) (by omega) d2, hc.2.2.1⟩
    · cases h
theorem itm_no {T : Nat → Nat} {t i : Nat} {X : Fo × Mo} (h1 : ltA T t i ≠ 112) (h2 : ltA T t i ≠ 115) (h3 : ltA T t i ≠ 100) : itm T t X i = none := by
  unfold itm
  rw [if_neg h1, if_neg h2, if_neg h3]
def lqI (T : Nat → Nat) (t k : Nat) : Int32 := if k < t then nI (T k) else -1
theorem lqI_fig {T : Nat → Nat} {t k : Nat} (hT : ∀ i, T i < 200) : (rgn 48 57 (lqI T t k)).isSome = isF (ltA T t k) := by
  unfold lqI ltA rgn isF
  by_cases h : k < t
  · rw [if_pos h, if_pos h, nI_toInt (by have := hT k; omega)]
    by_cases c : 48 ≤ T k ∧ T k ≤ 57
    · rw [if_pos (by omega), decide_eq_true c.1, decide_eq_true c.2]
      rfl
    · rw [if_neg (by omega)]
      by_cases c1 : 48 ≤ T k
      · rw [decide_eq_true c1, decide_eq_false (by omega)]
        rfl
      · rw [decide_eq_false c1]
        rfl
  · rw [if_neg h, if_neg h]
    rfl
theorem lqI_is {T : Nat → Nat} {t k : Nat} (h : isF (ltA T t k) = true) : lqI T t k = nI (ltA T t k) := by
  have := ltA_lt h
  unfold lqI ltA
  rw [if_pos this, if_pos this]
theorem lqI_eq {T : Nat → Nat} {t k e : Nat} (hT : ∀ i, T i < 200) (h0 : 0 < e) (he : e < 200) : lqI T t k = nI e ↔ ltA T t k = e := by
  unfold lqI ltA
  by_cases h : k < t
  · rw [if_pos h, if_pos h]
    exact nI_eq (by have := hT k; omega) (by omega)
  · rw [if_neg h, if_neg h]
    constructor
    · intro z
      have h1 := nI_pos (n := e) (by omega)
      rw [← z] at h1
      exact absurd (show (-1 : Int32) < 0 by decide) h1
    · intro z
      omega
theorem c_X9_isFigure {G : KG} {N : Nat} {w : WD} {x : Int32} : KCon G jX9_isFigure N w [.int x] (fun r w1 => r = some (.int (bI (rgn 48 57 x).isSome)) ∧ w1 = w) := by
  refine KCon.of ([some (.int x)]) (by decide) rfl (by simp [Value.category]) (Nat.le_of_ble_eq_true rfl) rfl ?_
  refine k_iload_n 1 dX9_isFigure_0 rfl rfl rfl ?_
  refine k_bipush (nI 48) 3 dX9_isFigure_1 rfl kb_48 ?_
  refine k_bipush (nI 57) 5 dX9_isFigure_3 rfl kb_57 ?_
  refine k_S3 8 dX9_isFigure_5 rfl vX9_isFigure_56 (Nat.le_of_ble_eq_true rfl) rfl ⟨Nat.le_of_ble_eq_true rfl, Nat.le_of_ble_eq_true rfl⟩ (c_X9_inN (by omega) (by omega)) (fun r9 w9 h9 => ?_)
  obtain ⟨h8, h9⟩ := h9
  subst h8
  have h9 := h9.symm
  subst h9
  refine k_zretB dX9_isFigure_8 rfl rfl (Nat.le_of_ble_eq_true rfl) ⟨rfl, rfl⟩
theorem RsC.let_ {G : KG} {N : Nat} {w : WD} {b k t kn ke no : Nat} {at_ : Value} {tx to_ dr be s pa im nt ah sd gr ro : Nat → Int32} {T : Nat → Nat} (h : RsC G N w b t kn ke no at_ tx to_ dr be s pa im nt ah sd gr ro) (hT : ∀ i, i < t → tx i = nI (T i)) (ht : t ≤ 200) (hk : k < 100000) : KCon G jX9_letterAt N w [rf G b, .int (nI k)] (fun r w1 => r = some (.int (lqI T t k)) ∧ w1 = w) := c_X9_letterAt (ty := 0) h hT ht hk
/-- what reading a number answers and leaves -/
def NmO (G : KG) (N : Nat) (w : WD) (b t kn ke no i lo hx e : Nat) (tx to_ dr be s pa im nt ah sd gr ro : Nat → Int32) (T : Nat → Nat) (r : Option Value) (w1 : WD) : Prop := ∃ i1, RsC G N w1 b t kn ke no (.int (nI i1)) tx to_ dr be s pa im nt ah sd gr ro ∧ Eqx w w1 b (b + 12) ∧ (num T t i lo hx e = none ∧ r = some (.int (-1)) ∨ ∃ v, v < 100 ∧ i1 ≤ t + 1 ∧ num T t i lo hx e = some (v, i1) ∧ r = some (.int (nI v)))
theorem c_X9_number {G : KG} {N : Nat} {w : WD} {b t kn ke no i lo hx e : Nat} {hi : Int32} {tx to_ dr be s pa im nt ah sd gr ro : Nat → Int32} {T : Nat → Nat} (h : RsC G N w b t kn ke no (.int (nI i)) tx to_ dr be s pa im nt ah sd gr ro) (hT : ∀ k, k < t → tx k = nI (T k)) (hT2 : ∀ k, T k < 200) (ht : t ≤ 200) (hi1 : i ≤ 1000) (hlo : lo < 1000) (hhi : hi.toInt = (hx : Int) - 1) (he0 : 0 < e) (he : e < 200) : KCon G jX9_number N w [rf G b, .int (nI lo), .int hi, .int (nI e)] (NmO G N w b t kn ke no i lo hx e tx to_ dr be s pa im nt ah sd gr ro T) := by
  obtain ⟨g0, g1, g2, g3, g4, g5, g6, g7, g8, g9, g10, g11, g12⟩ := id h
  have hN := g12.1
  refine KCon.of ([some (rf G b), some (.int (nI lo)), some (.int hi), some (.int (nI e)), none, none]) (by decide) rfl (by simp [Value.category]) (Nat.le_of_ble_eq_true rfl) rfl ?_
  have tail : ∀ (v j : Nat) (w2 : WD), rdn T t i = some (v, j) → v < 100 → j ≤ t → RsC G N w2 b t kn ke no (.int (nI j)) tx to_ dr be s pa im nt ah sd gr ro → Eqx w w2 b (b + 12) → KRun G jX9_number N (NmO G N w b t kn ke no i lo hx e tx to_ dr be s pa im nt ah sd gr ro T) 82 [some (rf G b), some (.int (nI lo)), some (.int hi), some (.int (nI e)), some (.int (nI v)), none] [] 0 0 w2 := by
    intro v j w2 hrd hv hj hC hE
    obtain ⟨g0, g1, g2, g3, g4, g5, g6, g7, g8, g9, g10, g11, g12⟩ := id hC
    have yes : num T t i lo hx e = some (v, j + 1) → KRun G jX9_number N (NmO G N w b t kn ke no i lo hx e tx to_ dr be s pa im nt ah sd gr ro T) 109 [some (rf G b), some (.int (nI lo)), some (.int hi), some (.int (nI e)), some (.int (nI v)), none] [.int (bI true)] 0 0 w2 := by
      intro hn
      refine k_istore _ 111 dX9_number_109 rfl (by decide) rfl rfl ?_
      refine k_aload_n 112 dX9_number_111 rfl rfl rfl ?_
      refine k_dup 113 dX9_number_112 rfl rfl ?_
      refine k_get 116 dX9_number_113 rfl fX9_number_64 (by (repeat (refine Is.ne ?_ (by omega))); first | assumption | exact Is.up (by omega)) (by rfl) ?_
      refine k_iconst (nI 1) 117 dX9_number_116 rfl kc_1 ?_
      first | refine k_iaddE _ 118 dX9_number_117 rfl (nI_add _ _) ?_ | refine k_iadd 118 dX9_number_117 rfl ?_
      refine k_put 121 dX9_number_118 rfl pX9_number_64 (by (repeat (refine Is.ne ?_ (by omega))); first | assumption | exact Is.up (by omega)) (Nat.le_of_ble_eq_true rfl) rfl rfl ?_
      refine k_iload 123 dX9_number_121 rfl rfl ?_
      refine k_if_eqB (b := true) 131 126 dX9_number_123 rfl rfl (fun c9 => absurd c9 (by simp)) (fun c9 => ?_)
      refine k_iload 128 dX9_number_126 rfl rfl ?_
      refine k_goto 132 dX9_number_128 rfl ?_
      refine k_iret dX9_number_132 rfl rfl (Nat.le_of_ble_eq_true rfl) ⟨j + 1, ⟨(by (repeat (refine Is.ne ?_ (by omega))); first | assumption | exact Is.up (by omega)), (by (repeat (refine Is.ne ?_ (by omega))); first | assumption | exact Is.up (by omega)), (by (repeat (refine Is.ne ?_ (by omega))); first | assumption | exact Is.up (by omega)), (by (repeat (refine Is.ne ?_ (by omega))); first | assumption | exact Is.up (by omega)), (by (repeat (refine Is.ne ?_ (by omega))); first | assumption | exact Is.up (by omega)), (by (repeat (refine Is.ne ?_ (by omega))); first | assumption | exact Is.up (by omega)), (by (repeat (refine Is.ne ?_ (by omega))); first | assumption | exact Is.up (by omega)), (by (repeat (refine Is.ne ?_ (by omega))); first | assumption | exact Is.up (by omega)), (by (repeat (refine Is.ne ?_ (by omega))); first | assumption | exact Is.up (by omega)), (by (repeat (refine Is.ne ?_ (by omega))); first | assumption | exact Is.up (by omega)), (by (repeat (refine Is.ne ?_ (by omega))); first | assumption | exact Is.up (by omega)), (by (repeat (refine Is.ne ?_ (by omega))); first | assumption | exact Is.up (by omega)), (by (repeat (refine Is.ne ?_ (by omega))); first | assumption | exact Is.up (by omega))⟩, (by (repeat (refine Eqx.up ?_ (by omega) (by omega))); first | exact Eqx.rf | assumption), Or.inr ⟨v, hv, by omega, hn, rfl⟩⟩
    have no_ : num T t i lo hx e = none → KRun G jX9_number N (NmO G N w b t kn ke no i lo hx e tx to_ dr be s pa im nt ah sd gr ro T) 108 [some (rf G b), some (.int (nI lo)), some (.int hi), some (.int (nI e)), some (.int (nI v)), none] [] 0 0 w2 := by
      intro hn
      refine k_iconst (nI 0) 109 dX9_number_108 rfl kc_0 ?_
      refine k_istore _ 111 dX9_number_109 rfl (by decide) rfl rfl ?_
      refine k_aload_n 112 dX9_number_111 rfl rfl rfl ?_
      refine k_dup 113 dX9_number_112 rfl rfl ?_
      refine k_get 116 dX9_number_113 rfl fX9_number_64 (by (repeat (refine Is.ne ?_ (by omega))); first | assumption | exact Is.up (by omega)) (by rfl) ?_
      refine k_iconst (nI 1) 117 dX9_number_116 rfl kc_1 ?_
      first | refine k_iaddE _ 118 dX9_number_117 rfl (nI_add _ _) ?_ | refine k_iadd 118 dX9_number_117 rfl ?_
      refine k_put 121 dX9_number_118 rfl pX9_number_64 (by (repeat (refine Is.ne ?_ (by omega))); first | assumption | exact Is.up (by omega)) (Nat.le_of_ble_eq_true rfl) rfl rfl ?_
      refine k_iload 123 dX9_number_121 rfl rfl ?_
      refine k_if_eqB (b := false) 131 126 dX9_number_123 rfl rfl (fun c9 => ?_) (fun c9 => absurd c9 (by simp))
      refine k_iconst (-1) 132 dX9_number_131 rfl km_1 ?_
      refine k_iret dX9_number_132 rfl rfl (Nat.le_of_ble_eq_true rfl) ⟨j + 1, ⟨(by (repeat (refine Is.ne ?_ (by omega))); first | assumption | exact Is.up (by omega)), (by (repeat (refine Is.ne ?_ (by omega))); first | assumption | exact Is.up (by omega)), (by (repeat (refine Is.ne ?_ (by omega))); first | assumption | exact Is.up (by omega)), (by (repeat (refine Is.ne ?_ (by omega))); first | assumption | exact Is.up (by omega)), (by (repeat (refine Is.ne ?_ (by omega))); first | assumption | exact Is.up (by omega)), (by (repeat (refine Is.ne ?_ (by omega))); first | assumption | exact Is.up (by omega)), (by (repeat (refine Is.ne ?_ (by omega))); first | assumption | exact Is.up (by omega)), (by (repeat (refine Is.ne ?_ (by omega))); first | assumption | exact Is.up (by omega)), (by (repeat (refine Is.ne ?_ (by omega))); first | assumption | exact Is.up (by omega)), (by (repeat (refine Is.ne ?_ (by omega))); first | assumption | exact Is.up (by omega)), (by (repeat (refine Is.ne ?_ (by omega))); first | assumption | exact Is.up (by omega)), (by (repeat (refine Is.ne ?_ (by omega))); first | assumption | exact Is.up (by omega)), (by (repeat (refine Is.ne ?_ (by omega))); first | assumption | exact Is.up (by omega))⟩, (by (repeat (refine Eqx.up ?_ (by omega) (by omega))); first | exact Eqx.rf | assumption), Or.inl ⟨hn, rfl⟩⟩
    refine k_iload 84 dX9_number_82 rfl rfl ?_
    refine k_iload_n 85 dX9_number_84 rfl rfl rfl ?_
    refine k_iload_n 86 dX9_number_85 rfl rfl rfl ?_
    refine k_S3 89 dX9_number_86 rfl vX9_number_56 (Nat.le_of_ble_eq_true rfl) rfl ⟨Nat.le_of_ble_eq_true rfl, Nat.le_of_ble_eq_true rfl⟩ (c_X9_in) (fun r9 w9 h9 => ?_)
    obtain ⟨h8, h9⟩ := h9
    subst h8
    have h9 := h9.symm
    subst h9
    rw [nI_toInt (show lo < 2 ^ 31 by omega), nI_toInt (show v < 2 ^ 31 by omega), hhi]
    by_cases c1 : lo ≤ v ∧ v < hx
    · rw [decide_eq_true (by omega)]
      refine k_if_eqB (b := true) 108 92 dX9_number_89 rfl rfl (fun c9 => absurd c9 (by simp)) (fun c9 => ?_)
      refine k_aload_n 93 dX9_number_92 rfl rfl rfl ?_
      refine k_aload_n 94 dX9_number_93 rfl rfl rfl ?_
      refine k_get 97 dX9_number_94 rfl fX9_number_64 (by (repeat (refine Is.ne ?_ (by omega))); first | assumption | exact Is.up (by omega)) (by rfl) ?_
      refine k_V1 (ci := 8) 100 dX9_number_97 rfl vX9_number_67 (by (repeat (refine Is.ne ?_ (by omega))); first | assumption | exact Is.up (by omega)) rfl rfl (Nat.le_of_ble_eq_true rfl) rfl ⟨Nat.le_of_ble_eq_true rfl, Nat.le_of_ble_eq_true rfl⟩ (hC.let_ hT ht (by omega)) (fun r9 w9 h9 => ?_)
      obtain ⟨h8, h9⟩ := h9
      subst h8
      have h9 := h9.symm
      subst h9
      refine k_iload_n 101 dX9_number_100 rfl rfl rfl ?_
      refine k_icmp_ne 108 104 dX9_number_101 rfl rfl (fun c => ?_) (fun c => ?_)
      · refine no_ ?_
        unfold num
        rw [hrd]
        dsimp only
        rw [if_neg (fun z => c ((lqI_eq hT2 he0 he).mpr z.2.2))]
      · have c2 := (lqI_eq hT2 he0 he).mp (Classical.not_not.mp c)
        refine k_iconst (nI 1) 105 dX9_number_104 rfl kc_1 ?_
        refine k_goto 109 dX9_number_105 rfl ?_
        exact yes (num_mk hrd c1.1 c1.2 c2)
    · rw [decide_eq_false (by omega)]
      refine k_if_eqB (b := false) 108 92 dX9_number_89 rfl rfl (fun c9 => ?_) (fun c9 => absurd c9 (by simp))
      refine no_ ?_
      unfold num
      rw [hrd]
      dsimp only
      rw [if_neg (fun z => c1 ⟨z.1, z.2.1⟩)]
  refine k_aload_n 1 dX9_number_0 rfl rfl rfl ?_
  refine k_aload_n 2 dX9_number_1 rfl rfl rfl ?_
  refine k_get 5 dX9_number_2 rfl fX9_number_64 (by (repeat (refine Is.ne ?_ (by omega))); first | assumption | exact Is.up (by omega)) (by rfl) ?_
  refine k_V1 (ci := 8) 8 dX9_number_5 rfl vX9_number_67 (by (repeat (refine Is.ne ?_ (by omega))); first | assumption | exact Is.up (by omega)) rfl rfl (Nat.le_of_ble_eq_true rfl) rfl ⟨Nat.le_of_ble_eq_true rfl, Nat.le_of_ble_eq_true rfl⟩ (h.let_ hT ht (by omega)) (fun r9 w9 h9 => ?_)
  obtain ⟨h8, h9⟩ := h9
  subst h8
  have h9 := h9.symm
  subst h9
  refine k_S1 11 dX9_number_8 rfl vX9_number_71 (Nat.le_of_ble_eq_true rfl) rfl ⟨Nat.le_of_ble_eq_true rfl, Nat.le_of_ble_eq_true rfl⟩ (c_X9_isFigure) (fun r9 w9 h9 => ?_)
  obtain ⟨h8, h9⟩ := h9
  subst h8
  have h9 := h9.symm
  subst h9
  rw [lqI_fig hT2]
  cases f1 : isF (ltA T t i) with
  | false =>
    refine k_if_neB (b := false) 16 14 dX9_number_11 rfl rfl (fun c9 => absurd c9 (by simp)) (fun c9 => ?_)
    refine k_iconst (-1) 15 dX9_number_14 rfl km_1 ?_
    refine k_iret dX9_number_15 rfl rfl (Nat.le_of_ble_eq_true rfl) ⟨i, h, Eqx.rf, Or.inl ⟨?_, rfl⟩⟩
    unfold num rdn
    rw [if_neg (by rw [f1]; simp)]
  | true =>
    have hlt1 := ltA_lt f1
    have hd1 := isF_le f1
    refine k_if_neB (b := true) 16 14 dX9_number_11 rfl rfl (fun c9 => ?_) (fun c9 => absurd c9 (by simp))
    refine k_aload_n 17 dX9_number_16 rfl rfl rfl ?_
    refine k_aload_n 18 dX9_number_17 rfl rfl rfl ?_
    refine k_get 21 dX9_number_18 rfl fX9_number_64 (by (repeat (refine Is.ne ?_ (by omega))); first | assumption | exact Is.up (by omega)) (by rfl) ?_
    refine k_V1 (ci := 8) 24 dX9_number_21 rfl vX9_number_67 (by (repeat (refine Is.ne ?_ (by omega))); first | assumption | exact Is.up (by omega)) rfl rfl (Nat.le_of_ble_eq_true rfl) rfl ⟨Nat.le_of_ble_eq_true rfl, Nat.le_of_ble_eq_true rfl⟩ (h.let_ hT ht (by omega)) (fun r9 w9 h9 => ?_)
    obtain ⟨h8, h9⟩ := h9
    subst h8
    have h9 := h9.symm
    subst h9
    rw [lqI_is f1]
    refine k_bipush (nI 48) 26 dX9_number_24 rfl kb_48 ?_
    first | refine k_isubE _ 27 dX9_number_26 rfl (pk_sub (by omega)) ?_ | refine k_isub 27 dX9_number_26 rfl ?_
    refine k_istore _ 29 dX9_number_27 rfl (by decide) rfl rfl ?_
    refine k_aload_n 30 dX9_number_29 rfl rfl rfl ?_
    refine k_dup 31 dX9_number_30 rfl rfl ?_
    refine k_get 34 dX9_number_31 rfl fX9_number_64 (by (repeat (refine Is.ne ?_ (by omega))); first | assumption | exact Is.up (by omega)) (by rfl) ?_
    refine k_iconst (nI 1) 35 dX9_number_34 rfl kc_1 ?_
    first | refine k_iaddE _ 36 dX9_number_35 rfl (nI_add _ _) ?_ | refine k_iadd 36 dX9_number_35 rfl ?_
    refine k_put 39 dX9_number_36 rfl pX9_number_64 (by (repeat (refine Is.ne ?_ (by omega))); first | assumption | exact Is.up (by omega)) (Nat.le_of_ble_eq_true rfl) rfl rfl ?_
    refine k_nm (fun w2 hw2 => ?_)
    have hC2 : RsC G N w2 b t kn ke no (.int (nI (i + 1))) tx to_ dr be s pa im nt ah sd gr ro := by
      rw [hw2]
      exact ⟨(by (repeat (refine Is.ne ?_ (by omega))); first | assumption | exact Is.up (by omega)), (by (repeat (refine Is.ne ?_ (by omega))); first | assumption | exact Is.up (by omega)), (by (repeat (refine Is.ne ?_ (by omega))); first | assumption | exact Is.up (by omega)), (by (repeat (refine Is.ne ?_ (by omega))); first | assumption | exact Is.up (by omega)), (by (repeat (refine Is.ne ?_ (by omega))); first | assumption | exact Is.up (by omega)), (by (repeat (refine Is.ne ?_ (by omega))); first | assumption | exact Is.up (by omega)), (by (repeat (refine Is.ne ?_ (by omega))); first | assumption | exact Is.up (by omega)), (by (repeat (refine Is.ne ?_ (by omega))); first | assumption | exact Is.up (by omega)), (by (repeat (refine Is.ne ?_ (by omega))); first | assumption | exact Is.up (by omega)), (by (repeat (refine Is.ne ?_ (by omega))); first | assumption | exact Is.up (by omega)), (by (repeat (refine Is.ne ?_ (by omega))); first | assumption | exact Is.up (by omega)), (by (repeat (refine Is.ne ?_ (by omega))); first | assumption | exact Is.up (by omega)), (by (repeat (refine Is.ne ?_ (by omega))); first | assumption | exact Is.up (by omega))⟩
    have hE2 : Eqx w w2 b (b + 12) := by
      rw [hw2]
      exact (by (repeat (refine Eqx.up ?_ (by omega) (by omega))); first | exact Eqx.rf | assumption)
    clear hw2 g0 g1 g2 g3 g4 g5 g6 g7 g8 g9 g10 g11 g12
    obtain ⟨g0, g1, g2, g3, g4, g5, g6, g7, g8, g9, g10, g11, g12⟩ := id hC2
    refine k_aload_n 40 dX9_number_39 rfl rfl rfl ?_
    refine k_aload_n 41 dX9_number_40 rfl rfl rfl ?_
    refine k_get 44 dX9_number_41 rfl fX9_number_64 (by (repeat (refine Is.ne ?_ (by omega))); first | assumption | exact Is.up (by omega)) (by rfl) ?_
    refine k_V1 (ci := 8) 47 dX9_number_44 rfl vX9_number_67 (by (repeat (refine Is.ne ?_ (by omega))); first | assumption | exact Is.up (by omega)) rfl rfl (Nat.le_of_ble_eq_true rfl) rfl ⟨Nat.le_of_ble_eq_true rfl, Nat.le_of_ble_eq_true rfl⟩ (hC2.let_ hT ht (by omega)) (fun r9 w9 h9 => ?_)
    obtain ⟨h8, h9⟩ := h9
    subst h8
    have h9 := h9.symm
    subst h9
    refine k_S1 50 dX9_number_47 rfl vX9_number_71 (Nat.le_of_ble_eq_true rfl) rfl ⟨Nat.le_of_ble_eq_true rfl, Nat.le_of_ble_eq_true rfl⟩ (c_X9_isFigure) (fun r9 w9 h9 => ?_)
    obtain ⟨h8, h9⟩ := h9
    subst h8
    have h9 := h9.symm
    subst h9
    rw [lqI_fig hT2]
    cases f2 : isF (ltA T t (i + 1)) with
    | false =>
      refine k_if_eqB (b := false) 82 53 dX9_number_50 rfl rfl (fun c9 => ?_) (fun c9 => absurd c9 (by simp))
      refine tail (ltA T t i - 48) (i + 1) w2 ?_ (by omega) (by omega) hC2 hE2
      unfold rdn
      rw [if_pos f1, if_neg (by rw [f2]; simp)]
    | true =>
      have hlt2 := ltA_lt f2
      have hd2 := isF_le f2
      refine k_if_eqB (b := true) 82 53 dX9_number_50 rfl rfl (fun c9 => absurd c9 (by simp)) (fun c9 => ?_)
      refine k_bipush (nI 10) 55 dX9_number_53 rfl kb_10 ?_
      refine k_iload 57 dX9_number_55 rfl rfl ?_
      first | refine k_imulE _ 58 dX9_number_57 rfl (pk_mul _ _) ?_ | refine k_imul 58 dX9_number_57 rfl ?_
      refine k_aload_n 59 dX9_number_58 rfl rfl rfl ?_
      refine k_aload_n 60 dX9_number_59 rfl rfl rfl ?_
      refine k_get 63 dX9_number_60 rfl fX9_number_64 (by (repeat (refine Is.ne ?_ (by omega))); first | assumption | exact Is.up (by omega)) (by rfl) ?_
      refine k_V1 (ci := 8) 66 dX9_number_63 rfl vX9_number_67 (by (repeat (refine Is.ne ?_ (by omega))); first | assumption | exact Is.up (by omega)) rfl rfl (Nat.le_of_ble_eq_true rfl) rfl ⟨Nat.le_of_ble_eq_true rfl, Nat.le_of_ble_eq_true rfl⟩ (hC2.let_ hT ht (by omega)) (fun r9 w9 h9 => ?_)
      obtain ⟨h8, h9⟩ := h9
      subst h8
      have h9 := h9.symm
      subst h9
      rw [lqI_is f2]
      first | refine k_iaddE _ 67 dX9_number_66 rfl (nI_add _ _) ?_ | refine k_iadd 67 dX9_number_66 rfl ?_
      refine k_bipush (nI 48) 69 dX9_number_67 rfl kb_48 ?_
      first | refine k_isubE _ 70 dX9_number_69 rfl (pk_sub (by omega)) ?_ | refine k_isub 70 dX9_number_69 rfl ?_
      refine k_istore _ 72 dX9_number_70 rfl (by decide) rfl rfl ?_
      refine k_aload_n 73 dX9_number_72 rfl rfl rfl ?_
      refine k_dup 74 dX9_number_73 rfl rfl ?_
      refine k_get 77 dX9_number_74 rfl fX9_number_64 (by (repeat (refine Is.ne ?_ (by omega))); first | assumption | exact Is.up (by omega)) (by rfl) ?_
      refine k_iconst (nI 1) 78 dX9_number_77 rfl kc_1 ?_
      first | refine k_iaddE _ 79 dX9_number_78 rfl (nI_add _ _) ?_ | refine k_iadd 79 dX9_number_78 rfl ?_
      refine k_put 82 dX9_number_79 rfl pX9_number_64 (by (repeat (refine Is.ne ?_ (by omega))); first | assumption | exact Is.up (by omega)) (Nat.le_of_ble_eq_true rfl) rfl rfl ?_
      have hr : rdn T t i = some (10 * (ltA T t i - 48) + ltA T t (i + 1) - 48, i + 2) := by
        unfold rdn
        rw [if_pos f1, if_pos f2, show 10 * (ltA T t i - 48) + (ltA T t (i + 1) - 48) = 10 * (ltA T t i - 48) + ltA T t (i + 1) - 48 by omega]
      refine tail _ (i + 2) _ hr (by omega) (by omega) ?_ ?_
      · exact ⟨(by (repeat (refine Is.ne ?_ (by omega))); first | assumption | exact Is.up (by omega)), (by (repeat (refine Is.ne ?_ (by omega))); first | assumption | exact Is.up (by omega)), (by (repeat (refine Is.ne ?_ (by omega))); first | assumption | exact Is.up (by omega)), (by (repeat (refine Is.ne ?_ (by omega))); first | assumption | exact Is.up (by omega)), (by (repeat (refine Is.ne ?_ (by omega))); first | assumption | exact Is.up (by omega)), (by (repeat (refine Is.ne ?_ (by omega))); first | assumption | exact Is.up (by omega)), (by (repeat (refine Is.ne ?_ (by omega))); first | assumption | exact Is.up (by omega)), (by (repeat (refine Is.ne ?_ (by omega))); first | assumption | exact Is.up (by omega)), (by (repeat (refine Is.ne ?_ (by omega))); first | assumption | exact Is.up (by omega)), (by (repeat (refine Is.ne ?_ (by omega))); first | assumption | exact Is.up (by omega)), (by (repeat (refine Is.ne ?_ (by omega))); first | assumption | exact Is.up (by omega)), (by (repeat (refine Is.ne ?_ (by omega))); first | assumption | exact Is.up (by omega)), (by (repeat (refine Is.ne ?_ (by omega))); first | assumption | exact Is.up (by omega))⟩
      · exact (by (repeat (refine Eqx.up ?_ (by omega) (by omega))); first | exact Eqx.rf | assumption)
/-- what the draft says -/
def DrI (dr be : Nat → Int32) (X : Fo × Mo) : Prop := V23 dr X.1 ∧ V72 be (oN X.1) X.2 ∧ ∀ p, p < 7 → be (9 + p) = nI 0
theorem c_X9_begins {G : KG} {N : Nat} {w : WD} {b t kn ke no : Nat} {at_ : Value} {tx to_ dr be s pa im nt ah sd gr ro : Nat → Int32} (h : RsC G N w b t kn ke no at_ tx to_ dr be s pa im nt ah sd gr ro) : KCon G jX9_begins N w [rf G b] (fun r w1 => r = none ∧ ∃ dr1 be1, RsC G N w1 b t kn ke no at_ tx to_ dr1 be1 s pa im nt ah sd gr ro ∧ DrI dr1 be1 (oF0, oM0) ∧ Eqx w w1 b (b + 12)) := by
  have hN := h.2.2.2.2.2.2.2.2.2.2.2.2.1
  refine KCon.of ([some (rf G b), none]) (by decide) rfl (by simp [Value.category]) (Nat.le_of_ble_eq_true rfl) rfl ?_
  refine k_iconst (nI 0) 1 dX9_begins_0 rfl kc_0 ?_
  refine k_istore_n _ 2 dX9_begins_1 rfl rfl (by decide) rfl rfl ?_
  have loop2 : ∀ d i (w2 : WD) (f g : Nat → Int32), i + d = 72 → RsC G N w2 b t kn ke no at_ tx to_ f g s pa im nt ah sd gr ro → Eqx w w2 b (b + 12) → (∀ j, j < 23 → f j = nI 0) → (∀ j, j < i → g j = nI 0) → KRun G jX9_begins N (fun r w1 => r = none ∧ ∃ dr1 be1, RsC G N w1 b t kn ke no at_ tx to_ dr1 be1 s pa im nt ah sd gr ro ∧ DrI dr1 be1 (oF0, oM0) ∧ Eqx w w1 b (b + 12)) 23 [some (rf G b), some (.int (nI i))] [] 0 0 w2 := by
    intro d
    induction d with
    | zero =>
      intro i w2 f g hi ⟨g0, g1, g2, g3, g4, g5, g6, g7, g8, g9, g10, g11, g12⟩ hE hf hg
      refine k_iload_n 24 dX9_begins_23 rfl rfl rfl ?_
      refine k_bipush (nI 72) 26 dX9_begins_24 rfl kb_72 ?_
      refine k_icmp_geN 42 29 dX9_begins_26 rfl rfl (by omega) (by omega) (fun c => ?_) (fun c => ?_)
      · refine k_aload_n 43 dX9_begins_42 rfl rfl rfl ?_
        refine k_get 46 dX9_begins_43 rfl fX9_begins_16 (by (repeat (refine Is.ne ?_ (by omega))); first | assumption | exact Is.up (by omega)) (by rfl) ?_
        refine k_iconst (nI 1) 47 dX9_begins_46 rfl kc_1 ?_
        refine k_iconst (nI 3) 48 dX9_begins_47 rfl kc_3 ?_
        refine k_iastN 49 dX9_begins_48 rfl (by (repeat (refine Is.ne ?_ (by omega))); first | assumption | exact Is.up (by omega)) (by omega) (by omega) ?_
        refine k_vret dX9_begins_49 rfl rfl (Nat.le_of_ble_eq_true rfl) ⟨rfl, _, g, ⟨(by (repeat (refine Is.ne ?_ (by omega))); first | assumption | exact Is.up (by omega)), (by (repeat (refine Is.ne ?_ (by omega))); first | assumption | exact Is.up (by omega)), (by (repeat (refine Is.ne ?_ (by omega))); first | assumption | exact Is.up (by omega)), (by (repeat (refine Is.ne ?_ (by omega))); first | assumption | exact Is.up (by omega)), (by (repeat (refine Is.ne ?_ (by omega))); first | assumption | exact Is.up (by omega)), (by (repeat (refine Is.ne ?_ (by omega))); first | assumption | exact Is.up (by omega)), (by (repeat (refine Is.ne ?_ (by omega))); first | assumption | exact Is.up (by omega)), (by (repeat (refine Is.ne ?_ (by omega))); first | assumption | exact Is.up (by omega)), (by (repeat (refine Is.ne ?_ (by omega))); first | assumption | exact Is.up (by omega)), (by (repeat (refine Is.ne ?_ (by omega))); first | assumption | exact Is.up (by omega)), (by (repeat (refine Is.ne ?_ (by omega))); first | assumption | exact Is.up (by omega)), (by (repeat (refine Is.ne ?_ (by omega))); first | assumption | exact Is.up (by omega)), (by (repeat (refine Is.ne ?_ (by omega))); first | assumption | exact Is.up (by omega))⟩, ⟨⟨?_, ?_, fun p hp => absurd hp (Nat.not_lt_zero p)⟩, ⟨?_, ?_, fun k hk => absurd hk (Nat.not_lt_zero k), fun p hp => absurd hp (Nat.not_lt_zero p), fun q hq => ?_⟩, fun p hp => ?_⟩, (by (repeat (refine Eqx.up ?_ (by omega) (by omega))); first | exact Eqx.rf | assumption)⟩
        · rw [upd_n _ _ (by omega)]
          exact hf 0 (by omega)
        · rw [upd_s]
          rfl
        · exact hg 0 (by omega)
        · exact hg 1 (by omega)
        · exact hg _ (by omega)
        · exact hg _ (by omega)
      · omega
    | succ d ih =>
      intro i w2 f g hi ⟨g0, g1, g2, g3, g4, g5, g6, g7, g8, g9, g10, g11, g12⟩ hE hf hg
      refine k_iload_n 24 dX9_begins_23 rfl rfl rfl ?_
      refine k_bipush (nI 72) 26 dX9_begins_24 rfl kb_72 ?_
      refine k_icmp_geN 42 29 dX9_begins_26 rfl rfl (by omega) (by omega) (fun c => ?_) (fun c => ?_)
      · omega
      · refine k_aload_n 30 dX9_begins_29 rfl rfl rfl ?_
        refine k_get 33 dX9_begins_30 rfl fX9_begins_19 (by (repeat (refine Is.ne ?_ (by omega))); first | assumption | exact Is.up (by omega)) (by rfl) ?_
        refine k_iload_n 34 dX9_begins_33 rfl rfl rfl ?_
        refine k_iconst (nI 0) 35 dX9_begins_34 rfl kc_0 ?_
        refine k_iastN 36 dX9_begins_35 rfl (by (repeat (refine Is.ne ?_ (by omega))); first | assumption | exact Is.up (by omega)) (by omega) (by omega) ?_
        refine k_iinc _ _ 39 dX9_begins_36 rfl rfl (nI_inc _) (by decide) rfl rfl ?_
        refine k_goto 23 dX9_begins_39 rfl ?_
        refine ih (i + 1) _ f (upd g i (nI 0)) (by omega) ?_ ?_ hf (fun j hj => ?_)
        · exact ⟨(by (repeat (refine Is.ne ?_ (by omega))); first | assumption | exact Is.up (by omega)), (by (repeat (refine Is.ne ?_ (by omega))); first | assumption | exact Is.up (by omega)), (by (repeat (refine Is.ne ?_ (by omega))); first | assumption | exact Is.up (by omega)), (by (repeat (refine Is.ne ?_ (by omega))); first | assumption | exact Is.up (by omega)), (by (repeat (refine Is.ne ?_ (by omega))); first | assumption | exact Is.up (by omega)), (by (repeat (refine Is.ne ?_ (by omega))); first | assumption | exact Is.up (by omega)), (by (repeat (refine Is.ne ?_ (by omega))); first | assumption | exact Is.up (by omega)), (by (repeat (refine Is.ne ?_ (by omega))); first | assumption | exact Is.up (by omega)), (by (repeat (refine Is.ne ?_ (by omega))); first | assumption | exact Is.up (by omega)), (by (repeat (refine Is.ne ?_ (by omega))); first | assumption | exact Is.up (by omega)), (by (repeat (refine Is.ne ?_ (by omega))); first | assumption | exact Is.up (by omega)), (by (repeat (refine Is.ne ?_ (by omega))); first | assumption | exact Is.up (by omega)), (by (repeat (refine Is.ne ?_ (by omega))); first | assumption | exact Is.up (by omega))⟩
        · exact (by (repeat (refine Eqx.up ?_ (by omega) (by omega))); first | exact Eqx.rf | assumption)
        by_cases e : j = i
        · rw [e, upd_s]
        · rw [upd_n _ _ e]
          exact hg j (by omega)
  have loop1 : ∀ d i (w2 : WD) (f : Nat → Int32), i + d = 23 → RsC G N w2 b t kn ke no at_ tx to_ f be s pa im nt ah sd gr ro → Eqx w w2 b (b + 12) → (∀ j, j < i → f j = nI 0) → KRun G jX9_begins N (fun r w1 => r = none ∧ ∃ dr1 be1, RsC G N w1 b t kn ke no at_ tx to_ dr1 be1 s pa im nt ah sd gr ro ∧ DrI dr1 be1 (oF0, oM0) ∧ Eqx w w1 b (b + 12)) 2 [some (rf G b), some (.int (nI i))] [] 0 0 w2 := by
    intro d
    induction d with
    | zero =>
      intro i w2 f hi hC hE hf
      refine k_iload_n 3 dX9_begins_2 rfl rfl rfl ?_
      refine k_bipush (nI 23) 5 dX9_begins_3 rfl kb_23 ?_
      refine k_icmp_geN 21 8 dX9_begins_5 rfl rfl (by omega) (by omega) (fun c => ?_) (fun c => ?_)
      · refine k_iconst (nI 0) 22 dX9_begins_21 rfl kc_0 ?_
        refine k_istore_n _ 23 dX9_begins_22 rfl rfl (by decide) rfl rfl ?_
        exact loop2 72 0 w2 f be (by omega) hC hE (fun j hj => hf j (by omega)) (fun j hj => by omega)
      · omega
    | succ d ih =>
      intro i w2 f hi ⟨g0, g1, g2, g3, g4, g5, g6, g7, g8, g9, g10, g11, g12⟩ hE hf
      refine k_iload_n 3 dX9_begins_2 rfl rfl rfl ?_
      refine k_bipush (nI 23) 5 dX9_begins_3 rfl kb_23 ?_
      refine k_icmp_geN 21 8 dX9_begins_5 rfl rfl (by omega) (by omega) (fun c => ?_) (fun c => ?_)
      · omega
      · refine k_aload_n 9 dX9_begins_8 rfl rfl rfl ?_
        refine k_get 12 dX9_begins_9 rfl fX9_begins_16 (by (repeat (refine Is.ne ?_ (by omega))); first | assumption | exact Is.up (by omega)) (by rfl) ?_
        refine k_iload_n 13 dX9_begins_12 rfl rfl rfl ?_
        refine k_iconst (nI 0) 14 dX9_begins_13 rfl kc_0 ?_
        refine k_iastN 15 dX9_begins_14 rfl (by (repeat (refine Is.ne ?_ (by omega))); first | assumption | exact Is.up (by omega)) (by omega) (by omega) ?_
        refine k_iinc _ _ 18 dX9_begins_15 rfl rfl (nI_inc _) (by decide) rfl rfl ?_
        refine k_goto 2 dX9_begins_18 rfl ?_
        refine ih (i + 1) _ (upd f i (nI 0)) (by omega) ?_ ?_ (fun j hj => ?_)
        · exact ⟨(by (repeat (refine Is.ne ?_ (by omega))); first | assumption | exact Is.up (by omega)), (by (repeat (refine Is.ne ?_ (by omega))); first | assumption | exact Is.up (by omega)), (by (repeat (refine Is.ne ?_ (by omega))); first | assumption | exact Is.up (by omega)), (by (repeat (refine Is.ne ?_ (by omega))); first | assumption | exact Is.up (by omega)), (by (repeat (refine Is.ne ?_ (by omega))); first | assumption | exact Is.up (by omega)), (by (repeat (refine Is.ne ?_ (by omega))); first | assumption | exact Is.up (by omega)), (by (repeat (refine Is.ne ?_ (by omega))); first | assumption | exact Is.up (by omega)), (by (repeat (refine Is.ne ?_ (by omega))); first | assumption | exact Is.up (by omega)), (by (repeat (refine Is.ne ?_ (by omega))); first | assumption | exact Is.up (by omega)), (by (repeat (refine Is.ne ?_ (by omega))); first | assumption | exact Is.up (by omega)), (by (repeat (refine Is.ne ?_ (by omega))); first | assumption | exact Is.up (by omega)), (by (repeat (refine Is.ne ?_ (by omega))); first | assumption | exact Is.up (by omega)), (by (repeat (refine Is.ne ?_ (by omega))); first | assumption | exact Is.up (by omega))⟩
        · exact (by (repeat (refine Eqx.up ?_ (by omega) (by omega))); first | exact Eqx.rf | assumption)
        by_cases e : j = i
        · rw [e, upd_s]
        · rw [upd_n _ _ e]
          exact hf j (by omega)
  exact loop1 23 0 w dr (by omega) h Eqx.rf (fun j hj => by omega)
theorem c_X9_stands {G : KG} {N : Nat} {w : WD} {b t kn ke no k v o m : Nat} {at_ : Value} {tx to_ dr be s pa im nt ah sd gr ro : Nat → Int32} {X : Fo × Mo} (h : RsC G N w b t kn ke no at_ tx to_ dr be s pa im nt ah sd gr ro) (hD : DrI dr be X) (hL : mL X.2 = oN X.1) (hn : oN X.1 < 7) : KCon G jX9_stands N w [rf G b, .int (nI k), .int (nI v), .int (nI o), .int (nI m)] (fun r w1 => r = none ∧ ∃ dr1 be1, RsC G N w1 b t kn ke no at_ tx to_ dr1 be1 s pa im nt ah sd gr ro ∧ DrI dr1 be1 (addF X.1 k v o, addM X.1 X.2 m) ∧ Eqx w w1 b (b + 12)) := by
  obtain ⟨g0, g1, g2, g3, g4, g5, g6, g7, g8, g9, g10, g11, g12⟩ := id h
  have hN := g12.1
  obtain ⟨d1, d2, d3⟩ := hD
  refine KCon.of ([some (rf G b), some (.int (nI k)), some (.int (nI v)), some (.int (nI o)), some (.int (nI m)), none]) (by decide) rfl (by simp [Value.category]) (Nat.le_of_ble_eq_true rfl) rfl ?_
  refine k_aload_n 1 dX9_stands_0 rfl rfl rfl ?_
  refine k_get 4 dX9_stands_1 rfl fX9_stands_16 (by (repeat (refine Is.ne ?_ (by omega))); first | assumption | exact Is.up (by omega)) (by rfl) ?_
  refine k_iconst (nI 0) 5 dX9_stands_4 rfl kc_0 ?_
  refine k_ialdN 6 dX9_stands_5 rfl (by (repeat (refine Is.ne ?_ (by omega))); first | assumption | exact Is.up (by omega)) (by omega) (by omega) ?_
  rw [d1.1]
  refine k_istore _ 8 dX9_stands_6 rfl (by decide) rfl rfl ?_
  refine k_aload_n 9 dX9_stands_8 rfl rfl rfl ?_
  refine k_get 12 dX9_stands_9 rfl fX9_stands_16 (by (repeat (refine Is.ne ?_ (by omega))); first | assumption | exact Is.up (by omega)) (by rfl) ?_
  refine k_iconst (nI 2) 13 dX9_stands_12 rfl kc_2 ?_
  refine k_iload 15 dX9_stands_13 rfl rfl ?_
  first | refine k_iaddE _ 16 dX9_stands_15 rfl (nI_add _ _) ?_ | refine k_iadd 16 dX9_stands_15 rfl ?_
  refine k_iload_n 17 dX9_stands_16 rfl rfl rfl ?_
  refine k_iastN 18 dX9_stands_17 rfl (by (repeat (refine Is.ne ?_ (by omega))); first | assumption | exact Is.up (by omega)) (by omega) (by omega) ?_
  refine k_aload_n 19 dX9_stands_18 rfl rfl rfl ?_
  refine k_get 22 dX9_stands_19 rfl fX9_stands_16 (by (repeat (refine Is.ne ?_ (by omega))); first | assumption | exact Is.up (by omega)) (by rfl) ?_
  refine k_bipush (nI 9) 24 dX9_stands_22 rfl kb_9 ?_
  refine k_iload 26 dX9_stands_24 rfl rfl ?_
  first | refine k_iaddE _ 27 dX9_stands_26 rfl (nI_add _ _) ?_ | refine k_iadd 27 dX9_stands_26 rfl ?_
  refine k_iload_n 28 dX9_stands_27 rfl rfl rfl ?_
  refine k_iastN 29 dX9_stands_28 rfl (by (repeat (refine Is.ne ?_ (by omega))); first | assumption | exact Is.up (by omega)) (by omega) (by omega) ?_
  refine k_aload_n 30 dX9_stands_29 rfl rfl rfl ?_
  refine k_get 33 dX9_stands_30 rfl fX9_stands_16 (by (repeat (refine Is.ne ?_ (by omega))); first | assumption | exact Is.up (by omega)) (by rfl) ?_
  refine k_bipush (nI 16) 35 dX9_stands_33 rfl kb_16 ?_
  refine k_iload 37 dX9_stands_35 rfl rfl ?_
  first | refine k_iaddE _ 38 dX9_stands_37 rfl (nI_add _ _) ?_ | refine k_iadd 38 dX9_stands_37 rfl ?_
  refine k_iload_n 39 dX9_stands_38 rfl rfl rfl ?_
  refine k_iastN 40 dX9_stands_39 rfl (by (repeat (refine Is.ne ?_ (by omega))); first | assumption | exact Is.up (by omega)) (by omega) (by omega) ?_
  refine k_aload_n 41 dX9_stands_40 rfl rfl rfl ?_
  refine k_get 44 dX9_stands_41 rfl fX9_stands_19 (by (repeat (refine Is.ne ?_ (by omega))); first | assumption | exact Is.up (by omega)) (by rfl) ?_
  refine k_bipush (nI 16) 46 dX9_stands_44 rfl kb_16 ?_
  refine k_iload 48 dX9_stands_46 rfl rfl ?_
  first | refine k_iaddE _ 49 dX9_stands_48 rfl (nI_add _ _) ?_ | refine k_iadd 49 dX9_stands_48 rfl ?_
  refine k_iload 51 dX9_stands_49 rfl rfl ?_
  refine k_iastN 52 dX9_stands_51 rfl (by (repeat (refine Is.ne ?_ (by omega))); first | assumption | exact Is.up (by omega)) (by omega) (by omega) ?_
  refine k_aload_n 53 dX9_stands_52 rfl rfl rfl ?_
  refine k_get 56 dX9_stands_53 rfl fX9_stands_19 (by (repeat (refine Is.ne ?_ (by omega))); first | assumption | exact Is.up (by omega)) (by rfl) ?_
  refine k_iconst (nI 2) 57 dX9_stands_56 rfl kc_2 ?_
  refine k_iload 59 dX9_stands_57 rfl rfl ?_
  first | refine k_iaddE _ 60 dX9_stands_59 rfl (nI_add _ _) ?_ | refine k_iadd 60 dX9_stands_59 rfl ?_
  refine k_iload 62 dX9_stands_60 rfl rfl ?_
  refine k_iastN 63 dX9_stands_62 rfl (by (repeat (refine Is.ne ?_ (by omega))); first | assumption | exact Is.up (by omega)) (by omega) (by omega) ?_
  refine k_aload_n 64 dX9_stands_63 rfl rfl rfl ?_
  refine k_get 67 dX9_stands_64 rfl fX9_stands_19 (by (repeat (refine Is.ne ?_ (by omega))); first | assumption | exact Is.up (by omega)) (by rfl) ?_
  refine k_iconst (nI 1) 68 dX9_stands_67 rfl kc_1 ?_
  refine k_dup2 69 dX9_stands_68 rfl rfl rfl ?_
  refine k_ialdN 70 dX9_stands_69 rfl (by (repeat (refine Is.ne ?_ (by omega))); first | assumption | exact Is.up (by omega)) (by omega) (by omega) ?_
  rw [upd_n _ _ (by omega), upd_n _ _ (by omega), d2.2.1, hL]
  refine k_iconst (nI 1) 71 dX9_stands_70 rfl kc_1 ?_
  first | refine k_iaddE _ 72 dX9_stands_71 rfl (nI_add _ _) ?_ | refine k_iadd 72 dX9_stands_71 rfl ?_
  refine k_iastN 73 dX9_stands_72 rfl (by (repeat (refine Is.ne ?_ (by omega))); first | assumption | exact Is.up (by omega)) (by omega) (by omega) ?_
  refine k_aload_n 74 dX9_stands_73 rfl rfl rfl ?_
  refine k_get 77 dX9_stands_74 rfl fX9_stands_16 (by (repeat (refine Is.ne ?_ (by omega))); first | assumption | exact Is.up (by omega)) (by rfl) ?_
  refine k_iconst (nI 0) 78 dX9_stands_77 rfl kc_0 ?_
  refine k_dup2 79 dX9_stands_78 rfl rfl rfl ?_
  refine k_ialdN 80 dX9_stands_79 rfl (by (repeat (refine Is.ne ?_ (by omega))); first | assumption | exact Is.up (by omega)) (by omega) (by omega) ?_
  rw [upd_n _ _ (by omega), upd_n _ _ (by omega), upd_n _ _ (by omega), d1.1]
  refine k_iconst (nI 1) 81 dX9_stands_80 rfl kc_1 ?_
  first | refine k_iaddE _ 82 dX9_stands_81 rfl (nI_add _ _) ?_ | refine k_iadd 82 dX9_stands_81 rfl ?_
  refine k_iastN 83 dX9_stands_82 rfl (by (repeat (refine Is.ne ?_ (by omega))); first | assumption | exact Is.up (by omega)) (by omega) (by omega) ?_
  refine k_vret dX9_stands_83 rfl rfl (Nat.le_of_ble_eq_true rfl) ⟨rfl, _, _, ⟨(by (repeat (refine Is.ne ?_ (by omega))); first | assumption | exact Is.up (by omega)), (by (repeat (refine Is.ne ?_ (by omega))); first | assumption | exact Is.up (by omega)), (by (repeat (refine Is.ne ?_ (by omega))); first | assumption | exact Is.up (by omega)), (by (repeat (refine Is.ne ?_ (by omega))); first | assumption | exact Is.up (by omega)), (by (repeat (refine Is.ne ?_ (by omega))); first | assumption | exact Is.up (by omega)), (by (repeat (refine Is.ne ?_ (by omega))); first | assumption | exact Is.up (by omega)), (by (repeat (refine Is.ne ?_ (by omega))); first | assumption | exact Is.up (by omega)), (by (repeat (refine Is.ne ?_ (by omega))); first | assumption | exact Is.up (by omega)), (by (repeat (refine Is.ne ?_ (by omega))); first | assumption | exact Is.up (by omega)), (by (repeat (refine Is.ne ?_ (by omega))); first | assumption | exact Is.up (by omega)), (by (repeat (refine Is.ne ?_ (by omega))); first | assumption | exact Is.up (by omega)), (by (repeat (refine Is.ne ?_ (by omega))); first | assumption | exact Is.up (by omega)), (by (repeat (refine Is.ne ?_ (by omega))); first | assumption | exact Is.up (by omega))⟩, ⟨⟨?_, ?_, fun p hp => ?_⟩, ⟨?_, ?_, fun q hq => ?_, fun p hp => ⟨?_, ?_⟩, fun q hq => ?_⟩, fun p hp => ?_⟩, (by (repeat (refine Eqx.up ?_ (by omega) (by omega))); first | exact Eqx.rf | assumption)⟩
  · rw [upd_s]
    rfl
  · rw [upd_n _ _ (by omega), upd_n _ _ (by omega), upd_n _ _ (by omega), upd_n _ _ (by omega)]
    exact d1.2.1
  · have hp : p < oN X.1 + 1 := hp
    show _ = nI (sf (oK X.1) (oN X.1) k p) ∧ _ = nI (sf (oW X.1) (oN X.1) v p) ∧ _ = nI (sf (oT X.1) (oN X.1) o p)
    by_cases e : p = oN X.1
    · rw [e, sf_s, sf_s, sf_s]
      refine ⟨?_, ?_, ?_⟩
      · rw [upd_n _ _ (by omega), upd_n _ _ (by omega), upd_n _ _ (by omega), upd_s]
      · rw [upd_n _ _ (by omega), upd_n _ _ (by omega), upd_s]
      · rw [upd_n _ _ (by omega), upd_s]
    · rw [sf_n _ _ e, sf_n _ _ e, sf_n _ _ e]
      obtain ⟨y1, y2, y3⟩ := d1.2.2 p (by omega)
      refine ⟨?_, ?_, ?_⟩
      · rw [upd_n _ _ (by omega), upd_n _ _ (by omega), upd_n _ _ (by omega), upd_n _ _ (by omega)]
        exact y1
      · rw [upd_n _ _ (by omega), upd_n _ _ (by omega), upd_n _ _ (by omega), upd_n _ _ (by omega)]
        exact y2
      · rw [upd_n _ _ (by omega), upd_n _ _ (by omega), upd_n _ _ (by omega), upd_n _ _ (by omega)]
        exact y3
  · rw [upd_n _ _ (by omega), upd_n _ _ (by omega), upd_n _ _ (by omega)]
    exact d2.1
  · rw [upd_s]
    show _ = nI (mL X.2 + 1)
    rw [hL]
  · have hq : q < mL X.2 + 1 := hq
    show _ = nI (sf (mQ X.2) (mL X.2) (oN X.1) q)
    rw [upd_n _ _ (by omega)]
    by_cases e : q = mL X.2
    · rw [e, sf_s, hL, upd_s]
    · rw [sf_n _ _ e, upd_n _ _ (by omega), upd_n _ _ (by omega)]
      exact d2.2.2.1 q (by omega)
  · have hp : p < oN X.1 + 1 := hp
    show _ = nI (sf (mW X.2) (oN X.1) 0 p)
    rw [upd_n _ _ (by omega), upd_n _ _ (by omega), upd_n _ _ (by omega)]
    by_cases e : p = oN X.1
    · rw [e, sf_s]
      exact d3 _ (by omega)
    · rw [sf_n _ _ e]
      exact (d2.2.2.2.1 p (by omega)).1
  · have hp : p < oN X.1 + 1 := hp
    show _ = nI (sf (mP X.2) (oN X.1) m p)
    rw [upd_n _ _ (by omega), upd_n _ _ (by omega)]
    by_cases e : p = oN X.1
    · rw [e, sf_s, upd_s]
    · rw [sf_n _ _ e, upd_n _ _ (by omega)]
      exact (d2.2.2.2.1 p (by omega)).2
  · rw [upd_n _ _ (by omega), upd_n _ _ (by omega), upd_n _ _ (by omega)]
    exact d2.2.2.2.2 q hq
  · rw [upd_n _ _ (by omega), upd_n _ _ (by omega), upd_n _ _ (by omega)]
    exact d3 p hp
