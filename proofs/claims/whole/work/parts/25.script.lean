/-! Script -/
def EqS (w w1 : WD) (a : Nat) : Prop := ∀ k, k ≠ a → k ≠ a + 11 → w1 k = w k
theorem EqS.rf {w : WD} {a : Nat} : EqS w w a := fun _ _ _ => rfl
theorem EqS.tr {w w1 w2 : WD} {a : Nat} (h : EqS w w1 a) (h2 : EqS w1 w2 a) : EqS w w2 a := fun k h3 h4 => (h2 k h3 h4).trans (h k h3 h4)
theorem EqS.up {w w1 : WD} {a k : Nat} {e : va_E} (h : EqS w w1 a) (hk : k = a ∨ k = a + 11) : EqS w (va_up w1 k e) a := fun j h1 h2 => by
  rw [va_up_ne _ _ (by omega)]
  exact h j h1 h2
theorem EqS.x {w w1 : WD} {a : Nat} (h : EqS w w1 a) : Eqx w w1 a (a + 12) := fun k hk => h k (by omega) (by omega)
def ScrI (G : KG) (N : Nat) (w : WD) (a : Nat) (T : Nat → Nat) (t at_ : Nat) (nums : Nat → Int32) : Prop := Is N w a (ob 4 [rf G (a + 1), rf G (a + 5), .int (nI t), rf G (a + 10), rf G (a + 11), .int (nI at_)]) ∧ (∃ lt : Nat → Int32, Is N w (a + 10) (ia G 200 lt) ∧ ∀ i, i < t → lt i = nI (T i)) ∧ Is N w (a + 11) (ia G 4 nums) ∧ t ≤ 200 ∧ ∀ i, T i < 200
theorem FkM.frS {G : KG} {N a : Nat} {w w1 : WD} {F : Fo} (h : FkM G N w (a + 1) F) (hE : EqS w w1 a) : FkM G N w1 (a + 1) F := by
  obtain ⟨kd, wo, pe, h1, h2⟩ := h
  exact ⟨kd, wo, pe, h1.fr (fun k _ _ => hE k (by omega) (by omega)), h2⟩
theorem ScM.frS {G : KG} {N a n : Nat} {w w1 : WD} {M : Mo} (h : ScM G N w (a + 5) n M) (hE : EqS w w1 a) : ScM G N w1 (a + 5) n M := by
  obtain ⟨l, wh, pu, db, h1, h2⟩ := h
  exact ⟨l, wh, pu, db, h1.fr (fun k _ _ => hE k (by omega) (by omega)), h2⟩
theorem ScrI.fr {G : KG} {N a : Nat} {w w1 : WD} {T : Nat → Nat} {t at_ : Nat} {nums : Nat → Int32} (h : ScrI G N w a T t at_ nums) (hE : ∀ k, k = a ∨ k = a + 10 ∨ k = a + 11 → w1 k = w k) : ScrI G N w1 a T t at_ nums := by
  obtain ⟨h0, ⟨lt, h1, h2⟩, h3, h4⟩ := h
  exact ⟨⟨h0.1, by rw [hE _ (by omega)]; exact h0.2⟩, ⟨lt, ⟨h1.1, by rw [hE _ (by omega)]; exact h1.2⟩, h2⟩, ⟨h3.1, by rw [hE _ (by omega)]; exact h3.2⟩, h4⟩
theorem c_X5_letterAt {G : KG} {N : Nat} {w : WD} {a t at_ i : Nat} {T : Nat → Nat} {nums : Nat → Int32} (h : ScrI G N w a T t at_ nums) (hi : i < 1000) : KCon G jX5_letterAt N w [rf G a, .int (nI i)] (fun r w1 => r = some (.int (nI (ltA T t i))) ∧ w1 = w) := by
  obtain ⟨h0, ⟨lt, h1, hl⟩, h2, ht, hT⟩ := h
  refine KCon.of ([some (rf G a), some (.int (nI i))]) (by decide) rfl (by simp [Value.category]) (Nat.le_of_ble_eq_true rfl) rfl ?_
  refine k_iload_n 1 dX5_letterAt_0 rfl rfl rfl ?_
  refine k_aload_n 2 dX5_letterAt_1 rfl rfl rfl ?_
  refine k_get 5 dX5_letterAt_2 rfl fX5_letterAt_32 (by (repeat (refine Is.ne ?_ (by omega))); first | assumption | exact Is.up (by omega)) (by rfl) ?_
  refine k_icmp_geN 19 8 dX5_letterAt_5 rfl rfl (by omega) (by omega) (fun c => ?_) (fun c => ?_)
  · refine k_iconst (nI 0) 20 dX5_letterAt_19 rfl kc_0 ?_
    refine k_iret dX5_letterAt_20 rfl rfl (Nat.le_of_ble_eq_true rfl) ⟨by rw [ltA, if_neg (by omega)], rfl⟩
  · refine k_aload_n 9 dX5_letterAt_8 rfl rfl rfl ?_
    refine k_get 12 dX5_letterAt_9 rfl fX5_letterAt_25 (by (repeat (refine Is.ne ?_ (by omega))); first | assumption | exact Is.up (by omega)) (by rfl) ?_
    refine k_iload_n 13 dX5_letterAt_12 rfl rfl rfl ?_
    refine k_S2 16 dX5_letterAt_13 rfl vX5_letterAt_76 (Nat.le_of_ble_eq_true rfl) rfl ⟨Nat.le_of_ble_eq_true rfl, Nat.le_of_ble_eq_true rfl⟩ (c_X3_at h1 (by omega) (by omega)) (fun r9 w9 h9 => ?_)
    obtain ⟨h8, h9⟩ := h9
    subst h8
    have h9 := h9.symm
    subst h9
    refine k_goto 20 dX5_letterAt_16 rfl ?_
    refine k_iret dX5_letterAt_20 rfl rfl (Nat.le_of_ble_eq_true rfl) ⟨by rw [ltA, if_pos c, hl i c], rfl⟩
theorem ltA_b {T : Nat → Nat} {t i : Nat} (h : ∀ i, T i < 200) : ltA T t i < 200 := by
  unfold ltA
  split
  · exact h i
  · omega
theorem c_X5_isFigure {G : KG} {N : Nat} {w : WD} {x : Nat} (hx : x < 1000) : KCon G jX5_isFigure N w [.int (nI x)] (fun r w1 => r = some (.int (bI (isF x))) ∧ w1 = w) := by
  refine KCon.of ([some (.int (nI x))]) (by decide) rfl (by simp [Value.category]) (Nat.le_of_ble_eq_true rfl) rfl ?_
  refine k_iload_n 1 dX5_isFigure_0 rfl rfl rfl ?_
  refine k_bipush (nI 48) 3 dX5_isFigure_1 rfl kb_48 ?_
  refine k_icmp_ltN 16 6 dX5_isFigure_3 rfl rfl (by omega) (by omega) (fun c => ?_) (fun c => ?_)
  · refine k_iconst (nI 0) 17 dX5_isFigure_16 rfl kc_0 ?_
    refine k_zret dX5_isFigure_17 rfl rfl rfl (Nat.le_of_ble_eq_true rfl) ⟨by simp [isF, bI, Nat.not_le.mpr c], rfl⟩
  · have c1 := c
    refine k_iload_n 7 dX5_isFigure_6 rfl rfl rfl ?_
    refine k_bipush (nI 57) 9 dX5_isFigure_7 rfl kb_57 ?_
    refine k_icmp_gtN 16 12 dX5_isFigure_9 rfl rfl (by omega) (by omega) (fun c => ?_) (fun c => ?_)
    · refine k_iconst (nI 0) 17 dX5_isFigure_16 rfl kc_0 ?_
      refine k_zret dX5_isFigure_17 rfl rfl rfl (Nat.le_of_ble_eq_true rfl) ⟨by simp [isF, bI, Nat.not_le.mpr c], rfl⟩
    · refine k_iconst (nI 1) 13 dX5_isFigure_12 rfl kc_1 ?_
      refine k_goto 17 dX5_isFigure_13 rfl ?_
      refine k_zret dX5_isFigure_17 rfl rfl rfl (Nat.le_of_ble_eq_true rfl) ⟨by simp [isF, bI, c, c1], rfl⟩
theorem c_X5_readNumber {G : KG} {N : Nat} {w : WD} {a t at_ i : Nat} {T : Nat → Nat} {nums : Nat → Int32} (h : ScrI G N w a T t at_ nums) (hi : i < 4) (ha : at_ < 500) : KCon G jX5_readNumber N w [rf G a, .int (nI i)] (fun r w1 => (∃ v j, rdn T t at_ = some (v, j) ∧ r = some (.int (nI 1)) ∧ ScrI G N w1 a T t j (upd nums i (nI v)) ∧ EqS w w1 a) ∨ (rdn T t at_ = none ∧ r = some (.int (nI 0)) ∧ ScrI G N w1 a T t at_ nums ∧ EqS w w1 a)) := by
  have h9 := h
  obtain ⟨h0, ⟨lt, h1, hl⟩, h2, ht, hT⟩ := h9
  have hb1 := ltA_b (t := t) (i := at_) hT
  have hb2 := ltA_b (t := t) (i := at_ + 1) hT
  refine KCon.of ([some (rf G a), some (.int (nI i)), none]) (by decide) rfl (by simp [Value.category]) (Nat.le_of_ble_eq_true rfl) rfl ?_
  have tail : ∀ (w2 : WD) (v j : Nat), ScrI G N w2 a T t j nums → EqS w w2 a → rdn T t at_ = some (v, j) → KRun G jX5_readNumber N (fun r w1 => (∃ v j, rdn T t at_ = some (v, j) ∧ r = some (.int (nI 1)) ∧ ScrI G N w1 a T t j (upd nums i (nI v)) ∧ EqS w w1 a) ∨ (rdn T t at_ = none ∧ r = some (.int (nI 0)) ∧ ScrI G N w1 a T t at_ nums ∧ EqS w w1 a)) 79 [some (rf G a), some (.int (nI i)), some (.int (nI v))] [] 0 0 w2 := by
    intro w2 v j hS hE hr
    obtain ⟨s0, ⟨lt2, s1, sl⟩, s2, st1, sT⟩ := hS
    have hN := s2.1
    refine k_aload_n 80 dX5_readNumber_79 rfl rfl rfl ?_
    refine k_get 83 dX5_readNumber_80 rfl fX5_readNumber_29 (by (repeat (refine Is.ne ?_ (by omega))); first | assumption | exact Is.up (by omega)) (by rfl) ?_
    refine k_iload_n 84 dX5_readNumber_83 rfl rfl rfl ?_
    refine k_iload_n 85 dX5_readNumber_84 rfl rfl rfl ?_
    refine k_S3 88 dX5_readNumber_85 rfl vX5_readNumber_36 (Nat.le_of_ble_eq_true rfl) rfl ⟨Nat.le_of_ble_eq_true rfl, Nat.le_of_ble_eq_true rfl⟩ (c_X3_put s2 (by omega) (by omega)) (fun r9 w9 h9 => ?_)
    obtain ⟨h8, h9⟩ := h9
    subst h8
    have h9 := h9.symm
    subst h9
    refine k_iconst (nI 1) 89 dX5_readNumber_88 rfl kc_1 ?_
    refine k_zret dX5_readNumber_89 rfl rfl rfl (Nat.le_of_ble_eq_true rfl) (Or.inl ⟨v, j, hr, rfl, ⟨(by (repeat (refine Is.ne ?_ (by omega))); first | assumption | exact Is.up (by omega)), ⟨lt2, (by (repeat (refine Is.ne ?_ (by omega))); first | assumption | exact Is.up (by omega)), sl⟩, (by (repeat (refine Is.ne ?_ (by omega))); first | assumption | exact Is.up (by omega)), st1, sT⟩, (by (repeat (refine EqS.up ?_ (by omega))); first | exact EqS.rf | assumption)⟩)
  refine k_aload_n 1 dX5_readNumber_0 rfl rfl rfl ?_
  refine k_aload_n 2 dX5_readNumber_1 rfl rfl rfl ?_
  refine k_get 5 dX5_readNumber_2 rfl fX5_readNumber_46 (by (repeat (refine Is.ne ?_ (by omega))); first | assumption | exact Is.up (by omega)) (by rfl) ?_
  refine k_V1 (ci := 4) 8 dX5_readNumber_5 rfl vX5_readNumber_53 (by (repeat (refine Is.ne ?_ (by omega))); first | assumption | exact Is.up (by omega)) rfl rfl (Nat.le_of_ble_eq_true rfl) rfl ⟨Nat.le_of_ble_eq_true rfl, Nat.le_of_ble_eq_true rfl⟩ (c_X5_letterAt h (by omega)) (fun r9 w9 h9 => ?_)
  obtain ⟨h8, h9⟩ := h9
  subst h8
  have h9 := h9.symm
  subst h9
  refine k_S1 11 dX5_readNumber_8 rfl vX5_readNumber_73 (Nat.le_of_ble_eq_true rfl) rfl ⟨Nat.le_of_ble_eq_true rfl, Nat.le_of_ble_eq_true rfl⟩ (c_X5_isFigure (by omega)) (fun r9 w9 h9 => ?_)
  obtain ⟨h8, h9⟩ := h9
  subst h8
  have h9 := h9.symm
  subst h9
  refine k_if_neB 16 14 dX5_readNumber_11 rfl rfl (fun c9 => ?_) (fun c9 => ?_)
  · have hf := isF_le c9
    refine k_aload_n 17 dX5_readNumber_16 rfl rfl rfl ?_
    refine k_aload_n 18 dX5_readNumber_17 rfl rfl rfl ?_
    refine k_get 21 dX5_readNumber_18 rfl fX5_readNumber_46 (by (repeat (refine Is.ne ?_ (by omega))); first | assumption | exact Is.up (by omega)) (by rfl) ?_
    refine k_V1 (ci := 4) 24 dX5_readNumber_21 rfl vX5_readNumber_53 (by (repeat (refine Is.ne ?_ (by omega))); first | assumption | exact Is.up (by omega)) rfl rfl (Nat.le_of_ble_eq_true rfl) rfl ⟨Nat.le_of_ble_eq_true rfl, Nat.le_of_ble_eq_true rfl⟩ (c_X5_letterAt h (by omega)) (fun r9 w9 h9 => ?_)
    obtain ⟨h8, h9⟩ := h9
    subst h8
    have h9 := h9.symm
    subst h9
    refine k_bipush (nI 48) 26 dX5_readNumber_24 rfl kb_48 ?_
    first | refine k_isubE _ 27 dX5_readNumber_26 rfl (pk_sub (by omega)) ?_ | refine k_isub 27 dX5_readNumber_26 rfl ?_
    refine k_istore_n _ 28 dX5_readNumber_27 rfl rfl (by decide) rfl rfl ?_
    refine k_aload_n 29 dX5_readNumber_28 rfl rfl rfl ?_
    refine k_dup 30 dX5_readNumber_29 rfl rfl ?_
    refine k_get 33 dX5_readNumber_30 rfl fX5_readNumber_46 (by (repeat (refine Is.ne ?_ (by omega))); first | assumption | exact Is.up (by omega)) (by rfl) ?_
    refine k_iconst (nI 1) 34 dX5_readNumber_33 rfl kc_1 ?_
    first | refine k_iaddE _ 35 dX5_readNumber_34 rfl (nI_add _ _) ?_ | refine k_iadd 35 dX5_readNumber_34 rfl ?_
    refine k_put 38 dX5_readNumber_35 rfl pX5_readNumber_46 (by (repeat (refine Is.ne ?_ (by omega))); first | assumption | exact Is.up (by omega)) (Nat.le_of_ble_eq_true rfl) rfl rfl ?_
    refine k_nm (fun w2 hw2 => ?_)
    have hN := h2.1
    have hS2 : ScrI G N w2 a T t (at_ + 1) nums := by
      rw [hw2]
      exact ⟨(by (repeat (refine Is.ne ?_ (by omega))); first | assumption | exact Is.up (by omega)), ⟨lt, (by (repeat (refine Is.ne ?_ (by omega))); first | assumption | exact Is.up (by omega)), hl⟩, (by (repeat (refine Is.ne ?_ (by omega))); first | assumption | exact Is.up (by omega)), ht, hT⟩
    have hE2 : EqS w w2 a := by
      rw [hw2]
      exact (by (repeat (refine EqS.up ?_ (by omega))); first | exact EqS.rf | assumption)
    clear hw2
    have hS3 := hS2
    obtain ⟨s0, ⟨lt2, s1, sl⟩, s2, st1, sT⟩ := hS3
    refine k_aload_n 39 dX5_readNumber_38 rfl rfl rfl ?_
    refine k_aload_n 40 dX5_readNumber_39 rfl rfl rfl ?_
    refine k_get 43 dX5_readNumber_40 rfl fX5_readNumber_46 (by (repeat (refine Is.ne ?_ (by omega))); first | assumption | exact Is.up (by omega)) (by rfl) ?_
    refine k_V1 (ci := 4) 46 dX5_readNumber_43 rfl vX5_readNumber_53 (by (repeat (refine Is.ne ?_ (by omega))); first | assumption | exact Is.up (by omega)) rfl rfl (Nat.le_of_ble_eq_true rfl) rfl ⟨Nat.le_of_ble_eq_true rfl, Nat.le_of_ble_eq_true rfl⟩ (c_X5_letterAt hS2 (by omega)) (fun r9 w9 h9 => ?_)
    obtain ⟨h8, h9⟩ := h9
    subst h8
    have h9 := h9.symm
    subst h9
    refine k_S1 49 dX5_readNumber_46 rfl vX5_readNumber_73 (Nat.le_of_ble_eq_true rfl) rfl ⟨Nat.le_of_ble_eq_true rfl, Nat.le_of_ble_eq_true rfl⟩ (c_X5_isFigure (by omega)) (fun r9 w9 h9 => ?_)
    obtain ⟨h8, h9⟩ := h9
    subst h8
    have h9 := h9.symm
    subst h9
    refine k_if_eqB 79 52 dX5_readNumber_49 rfl rfl (fun c8 => ?_) (fun c8 => ?_)
    · exact tail w2 (ltA T t at_ - 48) (at_ + 1) hS2 hE2 (by unfold rdn; rw [if_pos c9, if_neg (by simp [c8])])
    · have hf2 := isF_le c8
      refine k_bipush (nI 10) 54 dX5_readNumber_52 rfl kb_10 ?_
      refine k_iload_n 55 dX5_readNumber_54 rfl rfl rfl ?_
      first | refine k_imulE _ 56 dX5_readNumber_55 rfl (pk_mul _ _) ?_ | refine k_imul 56 dX5_readNumber_55 rfl ?_
      refine k_aload_n 57 dX5_readNumber_56 rfl rfl rfl ?_
      refine k_aload_n 58 dX5_readNumber_57 rfl rfl rfl ?_
      refine k_get 61 dX5_readNumber_58 rfl fX5_readNumber_46 (by (repeat (refine Is.ne ?_ (by omega))); first | assumption | exact Is.up (by omega)) (by rfl) ?_
      refine k_V1 (ci := 4) 64 dX5_readNumber_61 rfl vX5_readNumber_53 (by (repeat (refine Is.ne ?_ (by omega))); first | assumption | exact Is.up (by omega)) rfl rfl (Nat.le_of_ble_eq_true rfl) rfl ⟨Nat.le_of_ble_eq_true rfl, Nat.le_of_ble_eq_true rfl⟩ (c_X5_letterAt hS2 (by omega)) (fun r9 w9 h9 => ?_)
      obtain ⟨h8, h9⟩ := h9
      subst h8
      have h9 := h9.symm
      subst h9
      first | refine k_iaddE _ 65 dX5_readNumber_64 rfl (nI_add _ _) ?_ | refine k_iadd 65 dX5_readNumber_64 rfl ?_
      refine k_bipush (nI 48) 67 dX5_readNumber_65 rfl kb_48 ?_
      first | refine k_isubE _ 68 dX5_readNumber_67 rfl (pk_sub (by omega)) ?_ | refine k_isub 68 dX5_readNumber_67 rfl ?_
      refine k_istore_n _ 69 dX5_readNumber_68 rfl rfl (by decide) rfl rfl ?_
      refine k_aload_n 70 dX5_readNumber_69 rfl rfl rfl ?_
      refine k_dup 71 dX5_readNumber_70 rfl rfl ?_
      refine k_get 74 dX5_readNumber_71 rfl fX5_readNumber_46 (by (repeat (refine Is.ne ?_ (by omega))); first | assumption | exact Is.up (by omega)) (by rfl) ?_
      refine k_iconst (nI 1) 75 dX5_readNumber_74 rfl kc_1 ?_
      first | refine k_iaddE _ 76 dX5_readNumber_75 rfl (nI_add _ _) ?_ | refine k_iadd 76 dX5_readNumber_75 rfl ?_
      refine k_put 79 dX5_readNumber_76 rfl pX5_readNumber_46 (by (repeat (refine Is.ne ?_ (by omega))); first | assumption | exact Is.up (by omega)) (Nat.le_of_ble_eq_true rfl) rfl rfl ?_
      refine k_nm (fun w3 hw3 => ?_)
      have hS4 : ScrI G N w3 a T t (at_ + 1 + 1) nums := by
        rw [hw3]
        exact ⟨(by (repeat (refine Is.ne ?_ (by omega))); first | assumption | exact Is.up (by omega)), ⟨lt2, (by (repeat (refine Is.ne ?_ (by omega))); first | assumption | exact Is.up (by omega)), sl⟩, (by (repeat (refine Is.ne ?_ (by omega))); first | assumption | exact Is.up (by omega)), st1, sT⟩
      have hE4 : EqS w w3 a := by
        rw [hw3]
        exact (by (repeat (refine EqS.up ?_ (by omega))); first | exact EqS.rf | assumption)
      refine tail w3 (10 * (ltA T t at_ - 48) + ltA T t (at_ + 1) - 48) (at_ + 1 + 1) hS4 hE4 ?_
      unfold rdn
      rw [if_pos c9, if_pos c8]
      congr 2
      omega
  · refine k_iconst (nI 0) 15 dX5_readNumber_14 rfl kc_0 ?_
    refine k_zret dX5_readNumber_15 rfl rfl rfl (Nat.le_of_ble_eq_true rfl) (Or.inr ⟨by unfold rdn; rw [if_neg (by simp [c9])], rfl, h, EqS.rf⟩)
theorem c_X5_readNumbers {G : KG} {N : Nat} {w : WD} {a t at_ m : Nat} {T : Nat → Nat} {nums : Nat → Int32} (h : ScrI G N w a T t at_ nums) (hm : m ≤ 4) (ha : at_ ≤ 200) : KCon G jX5_readNumbers N w [rf G a, .int (nI m)] (fun r w1 => (∃ (l : List Nat) (e : Nat) (nums1 : Nat → Int32), rds T t m at_ = some (l, e) ∧ r = some (.int (nI 1)) ∧ ScrI G N w1 a T t e nums1 ∧ (∀ q, q < m → nums1 q = nI (l.getD q 0)) ∧ EqS w w1 a) ∨ (rds T t m at_ = none ∧ r = some (.int (nI 0)) ∧ (∃ (e : Nat) (nums1 : Nat → Int32), ScrI G N w1 a T t e nums1) ∧ EqS w w1 a)) := by
  refine KCon.of ([some (rf G a), some (.int (nI m)), none]) (by decide) rfl (by simp [Value.category]) (Nat.le_of_ble_eq_true rfl) rfl ?_
  refine k_iconst (nI 0) 1 dX5_readNumbers_0 rfl kc_0 ?_
  refine k_istore_n _ 2 dX5_readNumbers_1 rfl rfl (by decide) rfl rfl ?_
  have loop : ∀ d i (w1 : WD) (j : Nat) (nums1 : Nat → Int32) (pre : List Nat), i + d = m → pre.length = i → ScrI G N w1 a T t j nums1 → (∀ q, q < i → nums1 q = nI (pre.getD q 0)) → EqS w w1 a → j ≤ 201 → (∀ l e, rds T t d j = some (l, e) → rds T t m at_ = some (pre ++ l, e)) → (rds T t d j = none → rds T t m at_ = none) → KRun G jX5_readNumbers N (fun r w1 => (∃ (l : List Nat) (e : Nat) (nums1 : Nat → Int32), rds T t m at_ = some (l, e) ∧ r = some (.int (nI 1)) ∧ ScrI G N w1 a T t e nums1 ∧ (∀ q, q < m → nums1 q = nI (l.getD q 0)) ∧ EqS w w1 a) ∨ (rds T t m at_ = none ∧ r = some (.int (nI 0)) ∧ (∃ (e : Nat) (nums1 : Nat → Int32), ScrI G N w1 a T t e nums1) ∧ EqS w w1 a)) 2 [some (rf G a), some (.int (nI m)), some (.int (nI i))] [] 0 0 w1 := by
    intro d
    induction d with
    | zero =>
      intro i w1 j nums1 pre hi hpre hS hn hE hj hs hno
      have := hs [] j rfl
      rw [List.append_nil] at this
      refine k_iload_n 3 dX5_readNumbers_2 rfl rfl rfl ?_
      refine k_iload_n 4 dX5_readNumbers_3 rfl rfl rfl ?_
      refine k_icmp_geN 58 7 dX5_readNumbers_4 rfl rfl (by omega) (by omega) (fun c => ?_) (fun c => ?_)
      · refine k_iconst (nI 1) 59 dX5_readNumbers_58 rfl kc_1 ?_
        refine k_zret dX5_readNumbers_59 rfl rfl rfl (Nat.le_of_ble_eq_true rfl) (Or.inl ⟨pre, j, nums1, this, rfl, hS, fun q hq => hn q (by omega), hE⟩)
      · omega
    | succ d ih =>
      intro i w1 j nums1 pre hi hpre hS hn hE hj hs hno
      have hS9 := hS
      obtain ⟨h0, ⟨lt, h1, hl⟩, h2, ht, hT⟩ := hS9
      refine k_iload_n 3 dX5_readNumbers_2 rfl rfl rfl ?_
      refine k_iload_n 4 dX5_readNumbers_3 rfl rfl rfl ?_
      refine k_icmp_geN 58 7 dX5_readNumbers_4 rfl rfl (by omega) (by omega) (fun c => ?_) (fun c => ?_)
      · omega
      refine k_aload_n 8 dX5_readNumbers_7 rfl rfl rfl ?_
      refine k_iload_n 9 dX5_readNumbers_8 rfl rfl rfl ?_
      refine k_V1 (ci := 4) 12 dX5_readNumbers_9 rfl vX5_readNumbers_70 (by (repeat (refine Is.ne ?_ (by omega))); first | assumption | exact Is.up (by omega)) rfl rfl (Nat.le_of_ble_eq_true rfl) rfl ⟨Nat.le_of_ble_eq_true rfl, Nat.le_of_ble_eq_true rfl⟩ (c_X5_readNumber hS (by omega) (by omega)) (fun r1 w2 x1 => ?_)
      rcases x1 with ⟨v, j1, e1, rfl, hS2, hE2⟩ | ⟨e1, rfl, hS2, hE2⟩
      · have hj1 := rdn_le e1
        have hb1 := ltA_b (t := t) (i := j1) hT
        have hS8 := hS2
        obtain ⟨s0, ⟨lt2, s1, sl⟩, s2, st1, sT⟩ := hS8
        have tail : ∀ x : Nat, x = (if d = 0 then 59 else 44) → KRun G jX5_readNumbers N (fun r w1 => (∃ (l : List Nat) (e : Nat) (nums1 : Nat → Int32), rds T t m at_ = some (l, e) ∧ r = some (.int (nI 1)) ∧ ScrI G N w1 a T t e nums1 ∧ (∀ q, q < m → nums1 q = nI (l.getD q 0)) ∧ EqS w w1 a) ∨ (rds T t m at_ = none ∧ r = some (.int (nI 0)) ∧ (∃ (e : Nat) (nums1 : Nat → Int32), ScrI G N w1 a T t e nums1) ∧ EqS w w1 a)) 37 [some (rf G a), some (.int (nI m)), some (.int (nI i))] [.int (nI x), .int (nI (ltA T t j1))] 0 0 w2 := by
          intro x hx
          have hx2 : x < 100 := by
            rw [hx]
            split <;> omega
          refine k_icmp_eqN 42 40 dX5_readNumbers_37 rfl rfl (by omega) (by omega) (fun c => ?_) (fun c => ?_)
          · refine k_aload_n 43 dX5_readNumbers_42 rfl rfl rfl ?_
            refine k_dup 44 dX5_readNumbers_43 rfl rfl ?_
            refine k_get 47 dX5_readNumbers_44 rfl fX5_readNumbers_46 (by (repeat (refine Is.ne ?_ (by omega))); first | assumption | exact Is.up (by omega)) (by rfl) ?_
            refine k_iconst (nI 1) 48 dX5_readNumbers_47 rfl kc_1 ?_
            first | refine k_iaddE _ 49 dX5_readNumbers_48 rfl (nI_add _ _) ?_ | refine k_iadd 49 dX5_readNumbers_48 rfl ?_
            refine k_put 52 dX5_readNumbers_49 rfl pX5_readNumbers_46 (by (repeat (refine Is.ne ?_ (by omega))); first | assumption | exact Is.up (by omega)) (Nat.le_of_ble_eq_true rfl) rfl rfl ?_
            refine k_iinc _ _ 55 dX5_readNumbers_52 rfl rfl (nI_inc _) (by decide) rfl rfl ?_
            refine k_goto 2 dX5_readNumbers_55 rfl ?_
            refine k_nm (fun w3 hw3 => ?_)
            have hN := s2.1
            have hS4 : ScrI G N w3 a T t (j1 + 1) (upd nums1 i (nI v)) := by
              rw [hw3]
              exact ⟨(by (repeat (refine Is.ne ?_ (by omega))); first | assumption | exact Is.up (by omega)), ⟨lt2, (by (repeat (refine Is.ne ?_ (by omega))); first | assumption | exact Is.up (by omega)), sl⟩, (by (repeat (refine Is.ne ?_ (by omega))); first | assumption | exact Is.up (by omega)), st1, sT⟩
            have hE4 : EqS w2 w3 a := by
              rw [hw3]
              exact (by (repeat (refine EqS.up ?_ (by omega))); first | exact EqS.rf | assumption)
            have hr : ∀ l e, rds T t d (j1 + 1) = some (l, e) → rds T t (d + 1) j = some (v :: l, e) := by
              intro l e hle
              simp only [rds, e1]
              rw [if_pos (c.trans hx), hle]
            have hr2 : rds T t d (j1 + 1) = none → rds T t (d + 1) j = none := by
              intro hle
              simp only [rds, e1]
              rw [if_pos (c.trans hx), hle]
            refine ih (i + 1) w3 (j1 + 1) _ (pre ++ [v]) (by omega) (by simp [hpre]) hS4 (fun q hq => ?_) ((hE.tr hE2).tr hE4) (by omega) (fun l e hle => ?_) (fun hle => hno (hr2 hle))
            · by_cases e : q = i
              · subst e
                rw [upd_s]
                simp [hpre]
              · rw [upd_n _ _ e, hn q (by omega)]
                simp [List.getElem?_append, hpre, show q < i by omega]
            · rw [List.append_assoc]
              exact hs _ _ (hr l e hle)
          · refine k_iconst (nI 0) 41 dX5_readNumbers_40 rfl kc_0 ?_
            refine k_zret dX5_readNumbers_41 rfl rfl rfl (Nat.le_of_ble_eq_true rfl) (Or.inr ⟨hno ?_, rfl, ⟨_, _, hS2⟩, hE.tr hE2⟩)
            simp only [rds, e1]
            rw [if_neg (fun z => c (z.trans hx.symm))]
        refine k_if_eqN 40 15 dX5_readNumbers_12 rfl rfl (by omega) (fun c => by omega) (fun c => ?_)
        refine k_aload_n 16 dX5_readNumbers_15 rfl rfl rfl ?_
        refine k_aload_n 17 dX5_readNumbers_16 rfl rfl rfl ?_
        refine k_get 20 dX5_readNumbers_17 rfl fX5_readNumbers_46 (by (repeat (refine Is.ne ?_ (by omega))); first | assumption | exact Is.up (by omega)) (by rfl) ?_
        refine k_V1 (ci := 4) 23 dX5_readNumbers_20 rfl vX5_readNumbers_53 (by (repeat (refine Is.ne ?_ (by omega))); first | assumption | exact Is.up (by omega)) rfl rfl (Nat.le_of_ble_eq_true rfl) rfl ⟨Nat.le_of_ble_eq_true rfl, Nat.le_of_ble_eq_true rfl⟩ (c_X5_letterAt hS2 (by omega)) (fun r9 w9 h9 => ?_)
        obtain ⟨h8, h9⟩ := h9
        subst h8
        have h9 := h9.symm
        subst h9
        refine k_iload_n 24 dX5_readNumbers_23 rfl rfl rfl ?_
        refine k_iload_n 25 dX5_readNumbers_24 rfl rfl rfl ?_
        refine k_iconst (nI 1) 26 dX5_readNumbers_25 rfl kc_1 ?_
        first | refine k_isubE _ 27 dX5_readNumbers_26 rfl (pk_sub (by omega)) ?_ | refine k_isub 27 dX5_readNumbers_26 rfl ?_
        refine k_icmp_neN 35 30 dX5_readNumbers_27 rfl rfl (by omega) (by omega) (fun c => ?_) (fun c => ?_)
        · refine k_bipush (nI 44) 37 dX5_readNumbers_35 rfl kb_44 ?_
          exact tail 44 (by rw [if_neg (by omega)])
        · refine k_bipush (nI 59) 32 dX5_readNumbers_30 rfl kb_59 ?_
          refine k_goto 37 dX5_readNumbers_32 rfl ?_
          exact tail 59 (by rw [if_pos (by omega)])
      · refine k_if_eqN 40 15 dX5_readNumbers_12 rfl rfl (by omega) (fun c => ?_) (fun c => by omega)
        refine k_iconst (nI 0) 41 dX5_readNumbers_40 rfl kc_0 ?_
        refine k_zret dX5_readNumbers_41 rfl rfl rfl (Nat.le_of_ble_eq_true rfl) (Or.inr ⟨hno (by simp only [rds, e1]), rfl, ⟨_, _, hS2⟩, hE.tr hE2⟩)
  exact loop m 0 w at_ nums [] (by omega) rfl h (fun q hq => by omega) EqS.rf (by omega) (fun l e hle => hle) (fun hle => hle)
