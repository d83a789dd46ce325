/-! Sightings: orders -/
def rI : Nat → Int32
  | 0 => -1
  | r + 1 => nI r
theorem rI_dec : ∀ r, nI r + Int32.ofInt (-1) = rI r
  | 0 => by decide
  | r + 1 => nI_dec r
theorem rI_sub : ∀ q, nI (q + 1) - nI 2 = rI q
  | 0 => by decide
  | q + 1 => pk_sub (by omega)
theorem hgh_le (f : Nat → Nat) (r : Nat) : ∀ h, hgh f r h ≤ h := by
  intro h
  induction h with
  | zero => exact Nat.le_refl _
  | succ h ih =>
    simp only [hgh]
    split <;> omega
theorem c_X7_nextOrder {G : KG} {N : Nat} {w : WD} {a fo b m n : Nat} {f : Nat → Nat} {M : Mo} (h : Is N w a (SiX G a fo b m)) (hM : ScM G N w b n M) (hL : mL M ≤ 7) (hba : b + 5 ≤ a) (hf : OdM G N w a (mL M) f) (hv : ∀ k, k < mL M → f k < 7) : KCon G jX7_nextOrder N w [rf G a] (fun r w1 => r = some (.int (bI (nxt (mL M) f).isSome)) ∧ OdM G N w1 a (mL M) ((nxt (mL M) f).getD f) ∧ Eqx w w1 (a + 1) (a + 2)) := by
  have hf0 := hf
  obtain ⟨od, o1, o2⟩ := hf0
  obtain ⟨l2, wh2, pu2, db2, ⟨s0, -⟩, -⟩ := id hM
  generalize hLL : mL M = L at *
  refine KCon.of ([some (rf G a), none, none, none, none]) (by decide) rfl (by simp [Value.category]) (Nat.le_of_ble_eq_true rfl) rfl ?_
  have none_ : ∀ x : Int32, x < 0 → pv f (L - 1) = none → KRun G jX7_nextOrder N (fun r w1 => r = some (.int (bI (nxt L f).isSome)) ∧ OdM G N w1 a L ((nxt L f).getD f) ∧ Eqx w w1 (a + 1) (a + 2)) 41 [some (rf G a), some (.int x), none, none, none] [] 0 0 w := by
    intro x hx hp
    refine k_iload_n 42 dX7_nextOrder_41 rfl rfl rfl ?_
    refine k_if_ge 47 45 dX7_nextOrder_42 rfl rfl (fun c => ?_) (fun c => ?_)
    · exact absurd hx (Int32.not_lt.mpr c)
    · refine k_iconst (nI 0) 46 dX7_nextOrder_45 rfl kc_0 ?_
      have e : nxt L f = none := by
        unfold nxt
        rw [hp]
      rw [e]
      refine k_zret dX7_nextOrder_46 rfl rfl rfl (Nat.le_of_ble_eq_true rfl) ⟨rfl, hf, Eqx.rf⟩
  have some_ : ∀ r, pv f (L - 1) = some r → KRun G jX7_nextOrder N (fun r w1 => r = some (.int (bI (nxt L f).isSome)) ∧ OdM G N w1 a L ((nxt L f).getD f) ∧ Eqx w w1 (a + 1) (a + 2)) 41 [some (rf G a), some (.int (nI r)), none, none, none] [] 0 0 w := by
    intro r hp
    obtain ⟨hr, -⟩ := pv_some hp
    have e : nxt L f = some (rvs (swp f r (hgh f r (L - 1))) L (r + 1) (L - 1)) := by
      unfold nxt
      rw [hp]
    rw [e]
    have hh := hgh_le f r (L - 1)
    refine k_iload_n 42 dX7_nextOrder_41 rfl rfl rfl ?_
    refine k_if_geN 47 45 dX7_nextOrder_42 rfl rfl (by omega) (fun c => ?_) (fun c => ?_)
    rotate_left
    · omega
    refine k_aload_n 48 dX7_nextOrder_47 rfl rfl rfl ?_
    refine k_get 51 dX7_nextOrder_48 rfl fX7_nextOrder_41 (by (repeat (refine Is.ne ?_ (by omega))); first | assumption | exact Is.up (by omega)) (by rfl) ?_
    refine k_get 54 dX7_nextOrder_51 rfl fX7_nextOrder_87 (by (repeat (refine Is.ne ?_ (by omega))); first | assumption | exact Is.up (by omega)) (by rfl) ?_
    refine k_iconst (nI 1) 55 dX7_nextOrder_54 rfl kc_1 ?_
    first | refine k_isubE _ 56 dX7_nextOrder_55 rfl (pk_sub (by omega)) ?_ | refine k_isub 56 dX7_nextOrder_55 rfl ?_
    refine k_istore_n _ 57 dX7_nextOrder_56 rfl rfl (by decide) rfl rfl ?_
    generalize hZ : hgh f r (L - 1) = Z at *
    have loop2 : ∀ z, z ≤ L - 1 → hgh f r z = Z → KRun G jX7_nextOrder N (fun r1 w1 => r1 = some (.int (bI (some (rvs (swp f r Z) L (r + 1) (L - 1))).isSome)) ∧ OdM G N w1 a L ((some (rvs (swp f r Z) L (r + 1) (L - 1))).getD f) ∧ Eqx w w1 (a + 1) (a + 2)) 87 [some (rf G a), some (.int (nI r)), some (.int (nI Z)), none, none] [] 0 0 w → KRun G jX7_nextOrder N (fun r1 w1 => r1 = some (.int (bI (some (rvs (swp f r Z) L (r + 1) (L - 1))).isSome)) ∧ OdM G N w1 a L ((some (rvs (swp f r Z) L (r + 1) (L - 1))).getD f) ∧ Eqx w w1 (a + 1) (a + 2)) 57 [some (rf G a), some (.int (nI r)), some (.int (nI z)), none, none] [] 0 0 w := by
      intro z
      induction z with
      | zero =>
        intro hz he hk
        have he : 0 = Z := he
        subst he
        refine k_iload_n 58 dX7_nextOrder_57 rfl rfl rfl ?_
        refine k_iload_n 59 dX7_nextOrder_58 rfl rfl rfl ?_
        refine k_icmp_leN 87 62 dX7_nextOrder_59 rfl rfl (by omega) (by omega) (fun c => ?_) (fun c => ?_)
        · exact hk
        · omega
      | succ z ih =>
        intro hz he hk
        have v1 := hv (z + 1) (by omega)
        have v2 := hv r (by omega)
        refine k_iload_n 58 dX7_nextOrder_57 rfl rfl rfl ?_
        refine k_iload_n 59 dX7_nextOrder_58 rfl rfl rfl ?_
        refine k_icmp_leN 87 62 dX7_nextOrder_59 rfl rfl (by omega) (by omega) (fun c => ?_) (fun c => ?_)
        · simp only [hgh] at he
          rw [if_neg (by omega)] at he
          subst he
          exact hk
        · refine k_aload_n 63 dX7_nextOrder_62 rfl rfl rfl ?_
          refine k_get 66 dX7_nextOrder_63 rfl fX7_nextOrder_9 (by (repeat (refine Is.ne ?_ (by omega))); first | assumption | exact Is.up (by omega)) (by rfl) ?_
          refine k_iload_n 67 dX7_nextOrder_66 rfl rfl rfl ?_
          refine k_S2 70 dX7_nextOrder_67 rfl vX7_nextOrder_90 (Nat.le_of_ble_eq_true rfl) rfl ⟨Nat.le_of_ble_eq_true rfl, Nat.le_of_ble_eq_true rfl⟩ (c_X3_at o1 (by omega) (by omega)) (fun r9 w9 h9 => ?_)
          obtain ⟨h8, h9⟩ := h9
          subst h8
          have h9 := h9.symm
          subst h9
          refine k_aload_n 71 dX7_nextOrder_70 rfl rfl rfl ?_
          refine k_get 74 dX7_nextOrder_71 rfl fX7_nextOrder_9 (by (repeat (refine Is.ne ?_ (by omega))); first | assumption | exact Is.up (by omega)) (by rfl) ?_
          refine k_iload_n 75 dX7_nextOrder_74 rfl rfl rfl ?_
          refine k_S2 78 dX7_nextOrder_75 rfl vX7_nextOrder_90 (Nat.le_of_ble_eq_true rfl) rfl ⟨Nat.le_of_ble_eq_true rfl, Nat.le_of_ble_eq_true rfl⟩ (c_X3_at o1 (by omega) (by omega)) (fun r9 w9 h9 => ?_)
          obtain ⟨h8, h9⟩ := h9
          subst h8
          have h9 := h9.symm
          subst h9
          rw [o2 _ (by omega), o2 _ (by omega)]
          refine k_icmp_geN 87 81 dX7_nextOrder_78 rfl rfl (by omega) (by omega) (fun c => ?_) (fun c => ?_)
          · simp only [hgh] at he
            rw [if_neg (by omega)] at he
            subst he
            exact hk
          · refine k_iinc _ _ 84 dX7_nextOrder_81 rfl rfl (nI_dec _) (by decide) rfl rfl ?_
            refine k_goto 57 dX7_nextOrder_84 rfl ?_
            simp only [hgh] at he
            rw [if_pos (by omega)] at he
            exact ih (by omega) he hk
    refine loop2 (L - 1) (Nat.le_refl _) hZ ?_
    clear loop2
    generalize hzZ : Z = z at *
    refine k_aload_n 88 dX7_nextOrder_87 rfl rfl rfl ?_
    refine k_iload_n 89 dX7_nextOrder_88 rfl rfl rfl ?_
    refine k_iload_n 90 dX7_nextOrder_89 rfl rfl rfl ?_
    refine k_V2 (ci := 6) 93 dX7_nextOrder_90 rfl vX7_nextOrder_94 (by (repeat (refine Is.ne ?_ (by omega))); first | assumption | exact Is.up (by omega)) rfl rfl (Nat.le_of_ble_eq_true rfl) rfl ⟨Nat.le_of_ble_eq_true rfl, Nat.le_of_ble_eq_true rfl⟩ (c_X7_swap h hf hL (by omega) (by omega)) (fun r1 w1 x1 => ?_)
    obtain ⟨rfl, hf1, hE1⟩ := x1
    have h1 := h.eqx hE1 (by omega)
    have s1 := s0.eqx hE1 (by omega)
    refine k_iload_n 94 dX7_nextOrder_93 rfl rfl rfl ?_
    refine k_iconst (nI 1) 95 dX7_nextOrder_94 rfl kc_1 ?_
    first | refine k_iaddE _ 96 dX7_nextOrder_95 rfl (nI_add _ _) ?_ | refine k_iadd 96 dX7_nextOrder_95 rfl ?_
    refine k_istore_n _ 97 dX7_nextOrder_96 rfl rfl (by decide) rfl rfl ?_
    refine k_aload_n 98 dX7_nextOrder_97 rfl rfl rfl ?_
    refine k_get 101 dX7_nextOrder_98 rfl fX7_nextOrder_41 (by (repeat (refine Is.ne ?_ (by omega))); first | assumption | exact Is.up (by omega)) (by rfl) ?_
    refine k_get 104 dX7_nextOrder_101 rfl fX7_nextOrder_87 (by (repeat (refine Is.ne ?_ (by omega))); first | assumption | exact Is.up (by omega)) (by rfl) ?_
    refine k_iconst (nI 1) 105 dX7_nextOrder_104 rfl kc_1 ?_
    first | refine k_isubE _ 106 dX7_nextOrder_105 rfl (pk_sub (by omega)) ?_ | refine k_isub 106 dX7_nextOrder_105 rfl ?_
    refine k_istore _ 108 dX7_nextOrder_106 rfl (by decide) rfl rfl ?_
    have loop3 : ∀ d lo hi (g : Nat → Nat) (w2 : WD), hi < L → hi ≤ lo + d → lo ≤ 20 → OdM G N w2 a L g → Eqx w w2 (a + 1) (a + 2) → rvs g d lo hi = rvs (swp f r z) L (r + 1) (L - 1) → KRun G jX7_nextOrder N (fun r1 w1 => r1 = some (.int (bI (some (rvs (swp f r z) L (r + 1) (L - 1))).isSome)) ∧ OdM G N w1 a L ((some (rvs (swp f r z) L (r + 1) (L - 1))).getD f) ∧ Eqx w w1 (a + 1) (a + 2)) 108 [some (rf G a), some (.int (nI r)), some (.int (nI z)), some (.int (nI lo)), some (.int (nI hi))] [] 0 0 w2 := by
      intro d
      induction d with
      | zero =>
        intro lo hi g w2 b1 b2 b3 hO hE he
        refine k_iload 110 dX7_nextOrder_108 rfl rfl ?_
        refine k_iload_n 111 dX7_nextOrder_110 rfl rfl rfl ?_
        refine k_icmp_leN 130 114 dX7_nextOrder_111 rfl rfl (by omega) (by omega) (fun c => ?_) (fun c => ?_)
        · refine k_iconst (nI 1) 131 dX7_nextOrder_130 rfl kc_1 ?_
          refine k_zret dX7_nextOrder_131 rfl rfl rfl (Nat.le_of_ble_eq_true rfl) ⟨rfl, by rw [← he]; exact hO, hE⟩
        · omega
      | succ d ih =>
        intro lo hi g w2 b1 b2 b3 hO hE he
        have h2 := h.eqx hE (by omega)
        refine k_iload 110 dX7_nextOrder_108 rfl rfl ?_
        refine k_iload_n 111 dX7_nextOrder_110 rfl rfl rfl ?_
        refine k_icmp_leN 130 114 dX7_nextOrder_111 rfl rfl (by omega) (by omega) (fun c => ?_) (fun c => ?_)
        · refine k_iconst (nI 1) 131 dX7_nextOrder_130 rfl kc_1 ?_
          simp only [rvs] at he
          rw [if_neg (by omega)] at he
          refine k_zret dX7_nextOrder_131 rfl rfl rfl (Nat.le_of_ble_eq_true rfl) ⟨rfl, by rw [← he]; exact hO, hE⟩
        · refine k_aload_n 115 dX7_nextOrder_114 rfl rfl rfl ?_
          refine k_iload_n 116 dX7_nextOrder_115 rfl rfl rfl ?_
          refine k_iload 118 dX7_nextOrder_116 rfl rfl ?_
          refine k_V2 (ci := 6) 121 dX7_nextOrder_118 rfl vX7_nextOrder_94 (by (repeat (refine Is.ne ?_ (by omega))); first | assumption | exact Is.up (by omega)) rfl rfl (Nat.le_of_ble_eq_true rfl) rfl ⟨Nat.le_of_ble_eq_true rfl, Nat.le_of_ble_eq_true rfl⟩ (c_X7_swap h2 hO hL (by omega) (by omega)) (fun r3 w3 x3 => ?_)
          obtain ⟨rfl, hO3, hE3⟩ := x3
          simp only [rvs] at he
          rw [if_pos (by omega)] at he
          obtain ⟨hi2, rfl⟩ : ∃ q, hi = q + 1 := ⟨hi - 1, by omega⟩
          refine k_iinc _ _ 124 dX7_nextOrder_121 rfl rfl (nI_inc _) (by decide) rfl rfl ?_
          refine k_iinc _ _ 127 dX7_nextOrder_124 rfl rfl (nI_dec _) (by decide) rfl rfl ?_
          refine k_goto 108 dX7_nextOrder_127 rfl ?_
          exact ih (lo + 1) hi2 _ w3 (by omega) (by omega) (by omega) hO3 (hE.tr hE3) he
    exact loop3 L (r + 1) (L - 1) _ w1 (by omega) (by omega) (by omega) hf1 hE1 rfl
  have loop1 : ∀ r, r ≤ L - 1 → pv f r = pv f (L - 1) → KRun G jX7_nextOrder N (fun r w1 => r = some (.int (bI (nxt L f).isSome)) ∧ OdM G N w1 a L ((nxt L f).getD f) ∧ Eqx w w1 (a + 1) (a + 2)) 10 [some (rf G a), some (.int (rI r)), none, none, none] [] 0 0 w := by
    intro r
    induction r with
    | zero =>
      intro hr he
      refine k_iload_n 11 dX7_nextOrder_10 rfl rfl rfl ?_
      refine k_if_lt 41 14 dX7_nextOrder_11 rfl rfl (fun c => ?_) (fun c => ?_)
      · exact none_ _ c he.symm
      · exact absurd (show rI 0 < 0 by decide) c
    | succ r ih =>
      intro hr he
      have v1 := hv (r + 1) (by omega)
      have v2 := hv r (by omega)
      refine k_loc [some (rf G a), some (.int (nI r)), none, none, none] ⟨rfl, rfl, trivial⟩ rfl ?_
      refine k_iload_n 11 dX7_nextOrder_10 rfl rfl rfl ?_
      refine k_if_ltN 41 14 dX7_nextOrder_11 rfl rfl (by omega) (fun c => ?_) (fun c => ?_)
      · omega
      refine k_aload_n 15 dX7_nextOrder_14 rfl rfl rfl ?_
      refine k_get 18 dX7_nextOrder_15 rfl fX7_nextOrder_9 (by (repeat (refine Is.ne ?_ (by omega))); first | assumption | exact Is.up (by omega)) (by rfl) ?_
      refine k_iload_n 19 dX7_nextOrder_18 rfl rfl rfl ?_
      refine k_S2 22 dX7_nextOrder_19 rfl vX7_nextOrder_90 (Nat.le_of_ble_eq_true rfl) rfl ⟨Nat.le_of_ble_eq_true rfl, Nat.le_of_ble_eq_true rfl⟩ (c_X3_at o1 (by omega) (by omega)) (fun r9 w9 h9 => ?_)
      obtain ⟨h8, h9⟩ := h9
      subst h8
      have h9 := h9.symm
      subst h9
      refine k_aload_n 23 dX7_nextOrder_22 rfl rfl rfl ?_
      refine k_get 26 dX7_nextOrder_23 rfl fX7_nextOrder_9 (by (repeat (refine Is.ne ?_ (by omega))); first | assumption | exact Is.up (by omega)) (by rfl) ?_
      refine k_iload_n 27 dX7_nextOrder_26 rfl rfl rfl ?_
      refine k_iconst (nI 1) 28 dX7_nextOrder_27 rfl kc_1 ?_
      first | refine k_iaddE _ 29 dX7_nextOrder_28 rfl (nI_add _ _) ?_ | refine k_iadd 29 dX7_nextOrder_28 rfl ?_
      refine k_S2 32 dX7_nextOrder_29 rfl vX7_nextOrder_90 (Nat.le_of_ble_eq_true rfl) rfl ⟨Nat.le_of_ble_eq_true rfl, Nat.le_of_ble_eq_true rfl⟩ (c_X3_at o1 (by omega) (by omega)) (fun r9 w9 h9 => ?_)
      obtain ⟨h8, h9⟩ := h9
      subst h8
      have h9 := h9.symm
      subst h9
      rw [o2 _ (by omega), o2 _ (by omega)]
      refine k_icmp_leN 41 35 dX7_nextOrder_32 rfl rfl (by omega) (by omega) (fun c => ?_) (fun c => ?_)
      · simp only [pv] at he
        rw [if_neg (by omega)] at he
        exact some_ r he.symm
      · simp only [pv] at he
        rw [if_pos (by omega)] at he
        refine k_iinc _ _ 38 dX7_nextOrder_35 rfl rfl (rI_dec r) (by decide) rfl rfl ?_
        refine k_goto 10 dX7_nextOrder_38 rfl ?_
        exact ih (by omega) he
  by_cases hL0 : L = 0
  · subst hL0
    refine k_aload_n 1 dX7_nextOrder_0 rfl rfl rfl ?_
    refine k_get 4 dX7_nextOrder_1 rfl fX7_nextOrder_41 (by (repeat (refine Is.ne ?_ (by omega))); first | assumption | exact Is.up (by omega)) (by rfl) ?_
    refine k_get 7 dX7_nextOrder_4 rfl fX7_nextOrder_87 (by (repeat (refine Is.ne ?_ (by omega))); first | assumption | exact Is.up (by omega)) (by rfl) ?_
    refine k_iconst (nI 2) 8 dX7_nextOrder_7 rfl kc_2 ?_
    refine k_isubE _ 9 dX7_nextOrder_8 rfl (show nI 0 - nI 2 = -2 by decide) ?_
    refine k_istore_n _ 10 dX7_nextOrder_9 rfl rfl (by decide) rfl rfl ?_
    refine k_iload_n 11 dX7_nextOrder_10 rfl rfl rfl ?_
    refine k_if_lt 41 14 dX7_nextOrder_11 rfl rfl (fun c => ?_) (fun c => ?_)
    · exact none_ _ c rfl
    · exact absurd (show (-2 : Int32) < 0 by decide) c
  · obtain ⟨q, rfl⟩ : ∃ q, L = q + 1 := ⟨L - 1, by omega⟩
    refine k_aload_n 1 dX7_nextOrder_0 rfl rfl rfl ?_
    refine k_get 4 dX7_nextOrder_1 rfl fX7_nextOrder_41 (by (repeat (refine Is.ne ?_ (by omega))); first | assumption | exact Is.up (by omega)) (by rfl) ?_
    refine k_get 7 dX7_nextOrder_4 rfl fX7_nextOrder_87 (by (repeat (refine Is.ne ?_ (by omega))); first | assumption | exact Is.up (by omega)) (by rfl) ?_
    refine k_iconst (nI 2) 8 dX7_nextOrder_7 rfl kc_2 ?_
    refine k_isubE _ 9 dX7_nextOrder_8 rfl (rI_sub q) ?_
    refine k_istore_n _ 10 dX7_nextOrder_9 rfl rfl (by decide) rfl rfl ?_
    exact loop1 q (Nat.le_refl _) rfl
