/-! Script: the whole text -/
theorem lk_off (c : Nat) (hc : c < 200) : Op.lookupswitch.offset (#[(100, 78), (112, 36), (115, 57)] : Array (Int × Int)).toList 99 (nI c).toInt = if c = 100 then 78 else if c = 112 then 36 else if c = 115 then 57 else 99 := by
  rw [nI_toInt (by omega)]
  by_cases h1 : c = 100
  · subst h1; rfl
  · by_cases h2 : c = 112
    · subst h2; rfl
    · by_cases h3 : c = 115
      · subst h3; rfl
      · rw [if_neg h1, if_neg h2, if_neg h3]
        have e1 : ¬ (100 : Int) = c := by omega
        have e2 : ¬ (112 : Int) = c := by omega
        have e3 : ¬ (115 : Int) = c := by omega
        simp [Op.lookupswitch.offset, List.find?, e1, e2, e3]
def ItO (G : KG) (N : Nat) (w w1 : WD) (a t at_ : Nat) (T : Nat → Nat) (S : Fo × Mo) (r : Option Value) : Prop :=
  (∃ (S1 : Fo × Mo) (j : Nat) (nums1 : Nat → Int32), itm T t S at_ = some (S1, j) ∧ r = some (.int (nI 1)) ∧ ScrI G N w1 a T t j nums1 ∧ FkM G N w1 (a + 1) S1.1 ∧ ScM G N w1 (a + 5) (oN S1.1) S1.2 ∧ Eqx w w1 a (a + 12)) ∨ (itm T t S at_ = none ∧ r = some (.int (nI 0)) ∧ (∃ (j : Nat) (nums1 : Nat → Int32), ScrI G N w1 a T t j nums1) ∧ FkM G N w1 (a + 1) S.1 ∧ ScM G N w1 (a + 5) (oN S.1) S.2 ∧ Eqx w w1 a (a + 12))
theorem c_X5_readItem {G : KG} {N : Nat} {w : WD} {a t at_ : Nat} {T : Nat → Nat} {nums : Nat → Int32} {S : Fo × Mo} (h : ScrI G N w a T t at_ nums) (hF : FkM G N w (a + 1) S.1) (hM : ScM G N w (a + 5) (oN S.1) S.2) (hp : pOK S) (ha : at_ < t) : KCon G jX5_readItem N w [rf G a] (fun r w1 => ItO G N w w1 a t at_ T S r) := by
  have h9 := h
  obtain ⟨h0, ⟨lt, h1, hl⟩, h2, ht, hT⟩ := h9
  have hN := h2.1
  have hc := ltA_b (t := t) (i := at_) hT
  refine KCon.of ([some (rf G a), none]) (by decide) rfl (by simp [Value.category]) (Nat.le_of_ble_eq_true rfl) rfl ?_
  refine k_aload_n 1 dX5_readItem_0 rfl rfl rfl ?_
  refine k_aload_n 2 dX5_readItem_1 rfl rfl rfl ?_
  refine k_get 5 dX5_readItem_2 rfl fX5_readItem_46 (by (repeat (refine Is.ne ?_ (by omega))); first | assumption | exact Is.up (by omega)) (by rfl) ?_
  refine k_V1 (ci := 4) 8 dX5_readItem_5 rfl vX5_readItem_53 (by (repeat (refine Is.ne ?_ (by omega))); first | assumption | exact Is.up (by omega)) rfl rfl (Nat.le_of_ble_eq_true rfl) rfl ⟨Nat.le_of_ble_eq_true rfl, Nat.le_of_ble_eq_true rfl⟩ (c_X5_letterAt h (by omega)) (fun r9 w9 h9 => ?_)
  obtain ⟨h8, h9⟩ := h9
  subst h8
  have h9 := h9.symm
  subst h9
  refine k_istore_n _ 9 dX5_readItem_8 rfl rfl (by decide) rfl rfl ?_
  refine k_aload_n 10 dX5_readItem_9 rfl rfl rfl ?_
  refine k_dup 11 dX5_readItem_10 rfl rfl ?_
  refine k_get 14 dX5_readItem_11 rfl fX5_readItem_46 (by (repeat (refine Is.ne ?_ (by omega))); first | assumption | exact Is.up (by omega)) (by rfl) ?_
  refine k_iconst (nI 1) 15 dX5_readItem_14 rfl kc_1 ?_
  first | refine k_iaddE _ 16 dX5_readItem_15 rfl (nI_add _ _) ?_ | refine k_iadd 16 dX5_readItem_15 rfl ?_
  refine k_put 19 dX5_readItem_16 rfl pX5_readItem_46 (by (repeat (refine Is.ne ?_ (by omega))); first | assumption | exact Is.up (by omega)) (Nat.le_of_ble_eq_true rfl) rfl rfl ?_
  refine k_iload_n 20 dX5_readItem_19 rfl rfl rfl ?_
  refine k_nm (fun w1 hw1 => ?_)
  have hS1 : ScrI G N w1 a T t (at_ + 1) nums := by
    rw [hw1]
    exact ⟨(by (repeat (refine Is.ne ?_ (by omega))); first | assumption | exact Is.up (by omega)), ⟨lt, (by (repeat (refine Is.ne ?_ (by omega))); first | assumption | exact Is.up (by omega)), hl⟩, (by (repeat (refine Is.ne ?_ (by omega))); first | assumption | exact Is.up (by omega)), ht, hT⟩
  have hE1 : EqS w w1 a := by
    rw [hw1]
    exact (by (repeat (refine EqS.up ?_ (by omega))); first | exact EqS.rf | assumption)
  clear hw1
  have hF1 := hF.frS hE1
  have hM1 := hM.frS hE1
  have hS9 := hS1
  obtain ⟨s0, ⟨lt1, s1, sl⟩, s2, -⟩ := hS9
  have fin0 : ∀ (w2 : WD) (pc : Nat), (pc = 75 ∨ pc = 96 ∨ pc = 117 ∨ pc = 119) → itm T t S at_ = none → (∃ (j : Nat) (nums1 : Nat → Int32), ScrI G N w2 a T t j nums1) → FkM G N w2 (a + 1) S.1 → ScM G N w2 (a + 5) (oN S.1) S.2 → Eqx w w2 a (a + 12) → KRun G jX5_readItem N (fun r w1 => ItO G N w w1 a t at_ T S r) pc [some (rf G a), some (.int (nI (ltA T t at_)))] [] 0 0 w2 := by
    intro w2 pc hpc hi hj hF2 hM2 hE2
    have hpost : ItO G N w w2 a t at_ T S (some (.int (nI 0))) := Or.inr ⟨hi, rfl, hj, hF2, hM2, hE2⟩
    rcases hpc with rfl | rfl | rfl | rfl
    · refine k_iconst (nI 0) 76 dX5_readItem_75 rfl kc_0 ?_
      refine k_zret dX5_readItem_76 rfl rfl rfl (Nat.le_of_ble_eq_true rfl) hpost
    · refine k_iconst (nI 0) 97 dX5_readItem_96 rfl kc_0 ?_
      refine k_zret dX5_readItem_97 rfl rfl rfl (Nat.le_of_ble_eq_true rfl) hpost
    · refine k_iconst (nI 0) 118 dX5_readItem_117 rfl kc_0 ?_
      refine k_zret dX5_readItem_118 rfl rfl rfl (Nat.le_of_ble_eq_true rfl) hpost
    · refine k_iconst (nI 0) 120 dX5_readItem_119 rfl kc_0 ?_
      refine k_zret dX5_readItem_120 rfl rfl rfl (Nat.le_of_ble_eq_true rfl) hpost
  have fin1 : ∀ (w2 : WD) (pc : Nat) (S1 : Fo × Mo) (j : Nat) (nums1 : Nat → Int32), (pc = 71 ∨ pc = 92 ∨ pc = 113) → itm T t S at_ = some (S1, j) → ScrI G N w2 a T t j nums1 → FkM G N w2 (a + 1) S1.1 → ScM G N w2 (a + 5) (oN S1.1) S1.2 → Eqx w w2 a (a + 12) → KRun G jX5_readItem N (fun r w1 => ItO G N w w1 a t at_ T S r) pc [some (rf G a), some (.int (nI (ltA T t at_)))] [] 0 0 w2 := by
    intro w2 pc S1 j nums1 hpc hi hj hF2 hM2 hE2
    have hpost : ItO G N w w2 a t at_ T S (some (.int (nI 1))) := Or.inl ⟨S1, j, nums1, hi, rfl, hj, hF2, hM2, hE2⟩
    rcases hpc with rfl | rfl | rfl
    · refine k_iconst (nI 1) 72 dX5_readItem_71 rfl kc_1 ?_
      refine k_goto 76 dX5_readItem_72 rfl ?_
      refine k_zret dX5_readItem_76 rfl rfl rfl (Nat.le_of_ble_eq_true rfl) hpost
    · refine k_iconst (nI 1) 93 dX5_readItem_92 rfl kc_1 ?_
      refine k_goto 97 dX5_readItem_93 rfl ?_
      refine k_zret dX5_readItem_97 rfl rfl rfl (Nat.le_of_ble_eq_true rfl) hpost
    · refine k_iconst (nI 1) 114 dX5_readItem_113 rfl kc_1 ?_
      refine k_goto 118 dX5_readItem_114 rfl ?_
      refine k_zret dX5_readItem_118 rfl rfl rfl (Nat.le_of_ble_eq_true rfl) hpost
  have hx := lk_off (ltA T t at_) hc
  by_cases e1 : ltA T t at_ = 112
  · rw [if_neg (by omega), if_pos e1] at hx
    refine k_lookup 56 dX5_readItem_20 (by decide +kernel) hx rfl ?_
    refine k_aload_n 57 dX5_readItem_56 rfl rfl rfl ?_
    refine k_iconst (nI 4) 58 dX5_readItem_57 rfl kc_4 ?_
    refine k_V1 (ci := 4) 61 dX5_readItem_58 rfl vX5_readItem_57 (by (repeat (refine Is.ne ?_ (by omega))); first | assumption | exact Is.up (by omega)) rfl rfl (Nat.le_of_ble_eq_true rfl) rfl ⟨Nat.le_of_ble_eq_true rfl, Nat.le_of_ble_eq_true rfl⟩ (c_X5_readNumbers hS1 (by omega) (by omega)) (fun r2 w2 x2 => ?_)
    rcases x2 with ⟨l, e, nums1, hr, rfl, hS2, hn2, hE2⟩ | ⟨hr, rfl, hS2, hE2⟩
    · refine k_if_eqN 75 64 dX5_readItem_61 rfl rfl (by omega) (fun c => by omega) (fun c => ?_)
      have hle := rds_le hr
      have hF2 := hF1.frS hE2
      have hM2 := hM1.frS hE2
      have hS8 := hS2
      obtain ⟨q0, ⟨lt2, q1, ql⟩, q2, -⟩ := hS8
      refine k_aload_n 65 dX5_readItem_64 rfl rfl rfl ?_
      refine k_V0 (ci := 4) 68 dX5_readItem_65 rfl vX5_readItem_61 (by (repeat (refine Is.ne ?_ (by omega))); first | assumption | exact Is.up (by omega)) rfl rfl (Nat.le_of_ble_eq_true rfl) rfl ⟨Nat.le_of_ble_eq_true rfl, Nat.le_of_ble_eq_true rfl⟩ (c_X5_tellPerson hS2 hF2 hM2 hp hn2 hle.2.2.2) (fun r3 w3 x3 => ?_)
      rcases x3 with ⟨hcnd, rfl, hF3, hM3, hE3⟩ | ⟨hcnd, rfl, hw3⟩
      · refine k_if_eqN 75 71 dX5_readItem_68 rfl rfl (by omega) (fun c => by omega) (fun c => ?_)
        exact fin1 w3 71 (addF S.1 (l.getD 0 0) (l.getD 1 0) (l.getD 2 0), addM S.1 S.2 (l.getD 3 0)) e nums1 (Or.inl rfl) (by unfold itm; rw [if_pos e1, hr]; dsimp only; rw [if_pos hcnd]) (hS2.fr (fun k _ => hE3 k (by omega))) hF3 hM3 ((hE1.x.tr hE2.x).tr (hE3.wd (by omega) (by omega)))
      · have hw3 := hw3.symm
        subst hw3
        refine k_if_eqN 75 71 dX5_readItem_68 rfl rfl (by omega) (fun c => ?_) (fun c => by omega)
        exact fin0 w2 75 (Or.inl rfl) (by unfold itm; rw [if_pos e1, hr]; dsimp only; rw [if_neg hcnd]) ⟨_, _, hS2⟩ hF2 hM2 (hE1.x.tr hE2.x)
    · refine k_if_eqN 75 64 dX5_readItem_61 rfl rfl (by omega) (fun c => ?_) (fun c => by omega)
      exact fin0 w2 75 (Or.inl rfl) (by unfold itm; rw [if_pos e1, hr]) hS2 (hF1.frS hE2) (hM1.frS hE2) (hE1.x.tr hE2.x)
  · by_cases e2 : ltA T t at_ = 115
    · rw [if_neg (by omega), if_neg e1, if_pos e2] at hx
      refine k_lookup 77 dX5_readItem_20 (by decide +kernel) hx rfl ?_
      refine k_aload_n 78 dX5_readItem_77 rfl rfl rfl ?_
      refine k_iconst (nI 1) 79 dX5_readItem_78 rfl kc_1 ?_
      refine k_V1 (ci := 4) 82 dX5_readItem_79 rfl vX5_readItem_57 (by (repeat (refine Is.ne ?_ (by omega))); first | assumption | exact Is.up (by omega)) rfl rfl (Nat.le_of_ble_eq_true rfl) rfl ⟨Nat.le_of_ble_eq_true rfl, Nat.le_of_ble_eq_true rfl⟩ (c_X5_readNumbers hS1 (by omega) (by omega)) (fun r2 w2 x2 => ?_)
      rcases x2 with ⟨l, e, nums1, hr, rfl, hS2, hn2, hE2⟩ | ⟨hr, rfl, hS2, hE2⟩
      · refine k_if_eqN 96 85 dX5_readItem_82 rfl rfl (by omega) (fun c => by omega) (fun c => ?_)
        have hle := rds_le hr
        have hF2 := hF1.frS hE2
        have hM2 := hM1.frS hE2
        have hS8 := hS2
        obtain ⟨q0, ⟨lt2, q1, ql⟩, q2, -⟩ := hS8
        refine k_aload_n 86 dX5_readItem_85 rfl rfl rfl ?_
        refine k_V0 (ci := 4) 89 dX5_readItem_86 rfl vX5_readItem_64 (by (repeat (refine Is.ne ?_ (by omega))); first | assumption | exact Is.up (by omega)) rfl rfl (Nat.le_of_ble_eq_true rfl) rfl ⟨Nat.le_of_ble_eq_true rfl, Nat.le_of_ble_eq_true rfl⟩ (c_X5_tellServed hS2 hF2 hn2 hle.2.2.2) (fun r3 w3 x3 => ?_)
        rcases x3 with ⟨hcnd, rfl, hF3, hE3⟩ | ⟨hcnd, rfl, hw3⟩
        · refine k_if_eqN 96 92 dX5_readItem_89 rfl rfl (by omega) (fun c => by omega) (fun c => ?_)
          exact fin1 w3 92 (setS S.1 (l.getD 0 0), S.2) e nums1 (Or.inr (Or.inl rfl)) (by unfold itm; rw [if_neg e1, if_pos e2, hr]; dsimp only; rw [if_pos hcnd]) (hS2.fr (fun k _ => hE3 k (by omega))) hF3 (hM2.fr hE3 (by omega)) ((hE1.x.tr hE2.x).tr (hE3.wd (by omega) (by omega)))
        · have hw3 := hw3.symm
          subst hw3
          refine k_if_eqN 96 92 dX5_readItem_89 rfl rfl (by omega) (fun c => ?_) (fun c => by omega)
          exact fin0 w2 96 (Or.inr (Or.inl rfl)) (by unfold itm; rw [if_neg e1, if_pos e2, hr]; dsimp only; rw [if_neg hcnd]) ⟨_, _, hS2⟩ hF2 hM2 (hE1.x.tr hE2.x)
      · refine k_if_eqN 96 85 dX5_readItem_82 rfl rfl (by omega) (fun c => ?_) (fun c => by omega)
        exact fin0 w2 96 (Or.inr (Or.inl rfl)) (by unfold itm; rw [if_neg e1, if_pos e2, hr]) hS2 (hF1.frS hE2) (hM1.frS hE2) (hE1.x.tr hE2.x)
    · by_cases e3 : ltA T t at_ = 100
      · rw [if_pos e3] at hx
        refine k_lookup 98 dX5_readItem_20 (by decide +kernel) hx rfl ?_
        refine k_aload_n 99 dX5_readItem_98 rfl rfl rfl ?_
        refine k_iconst (nI 3) 100 dX5_readItem_99 rfl kc_3 ?_
        refine k_V1 (ci := 4) 103 dX5_readItem_100 rfl vX5_readItem_57 (by (repeat (refine Is.ne ?_ (by omega))); first | assumption | exact Is.up (by omega)) rfl rfl (Nat.le_of_ble_eq_true rfl) rfl ⟨Nat.le_of_ble_eq_true rfl, Nat.le_of_ble_eq_true rfl⟩ (c_X5_readNumbers hS1 (by omega) (by omega)) (fun r2 w2 x2 => ?_)
        rcases x2 with ⟨l, e, nums1, hr, rfl, hS2, hn2, hE2⟩ | ⟨hr, rfl, hS2, hE2⟩
        · refine k_if_eqN 117 106 dX5_readItem_103 rfl rfl (by omega) (fun c => by omega) (fun c => ?_)
          have hle := rds_le hr
          have hF2 := hF1.frS hE2
          have hM2 := hM1.frS hE2
          have hS8 := hS2
          obtain ⟨q0, ⟨lt2, q1, ql⟩, q2, -⟩ := hS8
          refine k_aload_n 107 dX5_readItem_106 rfl rfl rfl ?_
          refine k_V0 (ci := 4) 110 dX5_readItem_107 rfl vX5_readItem_67 (by (repeat (refine Is.ne ?_ (by omega))); first | assumption | exact Is.up (by omega)) rfl rfl (Nat.le_of_ble_eq_true rfl) rfl ⟨Nat.le_of_ble_eq_true rfl, Nat.le_of_ble_eq_true rfl⟩ (c_X5_tellDebt hS2 hF2 hM2 hp.1.1 hn2 hle.2.2.2) (fun r3 w3 x3 => ?_)
          rcases x3 with ⟨hcnd, rfl, hM3, hE3⟩ | ⟨hcnd, rfl, hw3⟩
          · refine k_if_eqN 117 113 dX5_readItem_110 rfl rfl (by omega) (fun c => by omega) (fun c => ?_)
            exact fin1 w3 113 (S.1, sD S.2 (7 * l.getD 0 0 + l.getD 1 0) (l.getD 2 0)) e nums1 (Or.inr (Or.inr rfl)) (by unfold itm; rw [if_neg e1, if_neg e2, if_pos e3, hr]; dsimp only; rw [if_pos hcnd]) (hS2.fr (fun k _ => hE3 k (by omega))) (hF2.fr hE3 (by omega)) hM3 ((hE1.x.tr hE2.x).tr (hE3.wd (by omega) (by omega)))
          · have hw3 := hw3.symm
            subst hw3
            refine k_if_eqN 117 113 dX5_readItem_110 rfl rfl (by omega) (fun c => ?_) (fun c => by omega)
            exact fin0 w2 117 (Or.inr (Or.inr (Or.inl rfl))) (by unfold itm; rw [if_neg e1, if_neg e2, if_pos e3, hr]; dsimp only; rw [if_neg hcnd]) ⟨_, _, hS2⟩ hF2 hM2 (hE1.x.tr hE2.x)
        · refine k_if_eqN 117 106 dX5_readItem_103 rfl rfl (by omega) (fun c => ?_) (fun c => by omega)
          exact fin0 w2 117 (Or.inr (Or.inr (Or.inl rfl))) (by unfold itm; rw [if_neg e1, if_neg e2, if_pos e3, hr]) hS2 (hF1.frS hE2) (hM1.frS hE2) (hE1.x.tr hE2.x)
      · rw [if_neg e3, if_neg e1, if_neg e2] at hx
        refine k_lookup 119 dX5_readItem_20 (by decide +kernel) hx rfl ?_
        exact fin0 w1 119 (Or.inr (Or.inr (Or.inr rfl))) (by unfold itm; rw [if_neg e1, if_neg e2, if_neg e3]) ⟨_, _, hS1⟩ hF1 hM1 hE1.x
/-- what reading answers -/
def rdI (x : (Fo × Mo) ⊕ Nat) : Int32 := match x with
  | .inl _ => -4
  | .inr i => nI i
def RdO (G : KG) (N : Nat) (w w1 : WD) (a t : Nat) (T : Nat → Nat) (r : Option Value) : Prop :=
  r = some (.int (rdI (rdT T t))) ∧ ∃ (S : Fo × Mo) (j : Nat) (nums1 : Nat → Int32), pOK S ∧ (∀ S1, rdT T t = .inl S1 → S = S1) ∧ ScrI G N w1 a T t j nums1 ∧ FkM G N w1 (a + 1) S.1 ∧ ScM G N w1 (a + 5) (oN S.1) S.2 ∧ Eqx w w1 a (a + 12)
theorem c_X5_read {G : KG} {N : Nat} {w : WD} {a t at_ num se L g : Nat} {T : Nat → Nat} {nums kd wo pe l wh pu db : Nat → Int32} (h : ScrI G N w a T t at_ nums) (hF : FkR G N w (a + 1) kd wo pe num se) (hM : ScR G N w (a + 5) l wh pu db L g) : KCon G jX5_read N w [rf G a] (fun r w1 => RdO G N w w1 a t T r) := by
  have h9 := h
  obtain ⟨h0, ⟨lt, h1, hl⟩, h2, ht, hT⟩ := h9
  have hN := h2.1
  obtain ⟨f0, f1, f2, f3⟩ := id hF
  obtain ⟨s0, s1, s2, s3, s4⟩ := id hM
  refine KCon.of ([some (rf G a), none, none]) (by decide) rfl (by simp [Value.category]) (Nat.le_of_ble_eq_true rfl) rfl ?_
  refine k_aload_n 1 dX5_read_0 rfl rfl rfl ?_
  refine k_get 4 dX5_read_1 rfl fX5_read_12 (by (repeat (refine Is.ne ?_ (by omega))); first | assumption | exact Is.up (by omega)) (by rfl) ?_
  refine k_V0 (ci := 1) 7 dX5_read_4 rfl vX5_read_42 (by (repeat (refine Is.ne ?_ (by omega))); first | assumption | exact Is.up (by omega)) rfl rfl (Nat.le_of_ble_eq_true rfl) rfl ⟨Nat.le_of_ble_eq_true rfl, Nat.le_of_ble_eq_true rfl⟩ (c_X1_empty hF) (fun r1 w1 x1 => ?_)
  obtain ⟨rfl, hF1, hE1⟩ := x1
  have hS1 := h.fr (w1 := w1) (fun k _ => hE1 k (by omega))
  have hM1 := hM.fr (w1 := w1) (fun k _ _ => hE1 k (by omega))
  obtain ⟨q0, ⟨lt1, q1, ql1⟩, q2, -⟩ := id hS1
  obtain ⟨s0, s1, s2, s3, s4⟩ := id hM1
  refine k_aload_n 8 dX5_read_7 rfl rfl rfl ?_
  refine k_get 11 dX5_read_8 rfl fX5_read_21 (by (repeat (refine Is.ne ?_ (by omega))); first | assumption | exact Is.up (by omega)) (by rfl) ?_
  refine k_V0 (ci := 3) 14 dX5_read_11 rfl vX5_read_45 (by (repeat (refine Is.ne ?_ (by omega))); first | assumption | exact Is.up (by omega)) rfl rfl (Nat.le_of_ble_eq_true rfl) rfl ⟨Nat.le_of_ble_eq_true rfl, Nat.le_of_ble_eq_true rfl⟩ (c_X4_empty hM1) (fun r2 w2 x2 => ?_)
  obtain ⟨rfl, ⟨db2, hM2, hd2⟩, hE2⟩ := x2
  have hS2 := hS1.fr (w1 := w2) (fun k _ => hE2 k (by omega))
  have hF2 := hF1.fr (w1 := w2) (fun k _ _ => hE2 k (by omega))
  obtain ⟨q0, ⟨lt2, q1, ql2⟩, q2, -⟩ := id hS2
  refine k_aload_n 15 dX5_read_14 rfl rfl rfl ?_
  refine k_iconst (nI 0) 16 dX5_read_15 rfl kc_0 ?_
  refine k_put 19 dX5_read_16 rfl pX5_read_46 (by (repeat (refine Is.ne ?_ (by omega))); first | assumption | exact Is.up (by omega)) (Nat.le_of_ble_eq_true rfl) rfl rfl ?_
  refine k_iconst (nI 0) 20 dX5_read_19 rfl kc_0 ?_
  refine k_istore_n _ 21 dX5_read_20 rfl rfl (by decide) rfl rfl ?_
  refine k_nm (fun w3 hw3 => ?_)
  have hS3 : ScrI G N w3 a T t 0 nums := by
    rw [hw3]
    exact ⟨(by (repeat (refine Is.ne ?_ (by omega))); first | assumption | exact Is.up (by omega)), ⟨lt2, (by (repeat (refine Is.ne ?_ (by omega))); first | assumption | exact Is.up (by omega)), ql2⟩, (by (repeat (refine Is.ne ?_ (by omega))); first | assumption | exact Is.up (by omega)), ht, hT⟩
  have hE3 : EqS w2 w3 a := by
    rw [hw3]
    exact (by (repeat (refine EqS.up ?_ (by omega))); first | exact EqS.rf | assumption)
  have hF3 : FkM G N w3 (a + 1) oF0 := ⟨kd, wo, pe, hF2.fr (fun k _ _ => hE3 k (by omega) (by omega)), fun p hp => absurd hp (Nat.not_lt_zero p)⟩
  have hM3 : ScM G N w3 (a + 5) (oN oF0) oM0 := ⟨l, wh, pu, db2, hM2.fr (fun k _ _ => hE3 k (by omega) (by omega)), fun p hp => absurd hp (Nat.not_lt_zero p), fun p hp => absurd hp (Nat.not_lt_zero p), fun p hp => absurd hp (Nat.not_lt_zero p), hd2⟩
  have hE4 : Eqx w w3 a (a + 12) := ((hE1.wd (by omega) (by omega)).tr (hE2.wd (by omega) (by omega))).tr hE3.x
  have loop : ∀ d i (w1 : WD) (j : Nat) (nums1 : Nat → Int32) (S : Fo × Mo), i + d = 200 → pOK S → ScrI G N w1 a T t j nums1 → FkM G N w1 (a + 1) S.1 → ScM G N w1 (a + 5) (oN S.1) S.2 → Eqx w w1 a (a + 12) → rda T t d S j = rdT T t → j ≤ 200 → KRun G jX5_read N (fun r w1 => RdO G N w w1 a t T r) 21 [some (rf G a), some (.int (nI i)), none] [] 0 0 w1 := by
    intro d
    induction d with
    | zero =>
      intro i w1 j nums1 S hi hp hS hF hM hE hr hj
      have hr : rdT T t = .inl S := hr.symm
      refine k_iload_n 22 dX5_read_21 rfl rfl rfl ?_
      refine k_sipush (nI 200) 25 dX5_read_22 rfl ks_200 ?_
      refine k_icmp_geN 59 28 dX5_read_25 rfl rfl (by omega) (by omega) (fun c => ?_) (fun c => ?_)
      · refine k_bipush (-4) 61 dX5_read_59 rfl kbm_4 ?_
        refine k_iret dX5_read_61 rfl rfl (Nat.le_of_ble_eq_true rfl) ⟨by rw [hr]; rfl, S, j, nums1, hp, fun S1 e => by rw [hr] at e; cases e; rfl, hS, hF, hM, hE⟩
      · omega
    | succ d ih =>
      intro i w1 j nums1 S hi hp hS hF hM hE hr hj
      obtain ⟨q0, ⟨lt1, q1, ql1⟩, q2, -⟩ := id hS
      refine k_iload_n 22 dX5_read_21 rfl rfl rfl ?_
      refine k_sipush (nI 200) 25 dX5_read_22 rfl ks_200 ?_
      refine k_icmp_geN 59 28 dX5_read_25 rfl rfl (by omega) (by omega) (fun c => ?_) (fun c => ?_)
      · omega
      refine k_aload_n 29 dX5_read_28 rfl rfl rfl ?_
      refine k_get 32 dX5_read_29 rfl fX5_read_46 (by (repeat (refine Is.ne ?_ (by omega))); first | assumption | exact Is.up (by omega)) (by rfl) ?_
      refine k_aload_n 33 dX5_read_32 rfl rfl rfl ?_
      refine k_get 36 dX5_read_33 rfl fX5_read_32 (by (repeat (refine Is.ne ?_ (by omega))); first | assumption | exact Is.up (by omega)) (by rfl) ?_
      refine k_icmp_geN 59 39 dX5_read_36 rfl rfl (by omega) (by omega) (fun c => ?_) (fun c => ?_)
      · have hr : rdT T t = .inl S := by
          rw [← hr]
          simp only [rda]
          rw [if_neg (by omega)]
        refine k_bipush (-4) 61 dX5_read_59 rfl kbm_4 ?_
        refine k_iret dX5_read_61 rfl rfl (Nat.le_of_ble_eq_true rfl) ⟨by rw [hr]; rfl, S, j, nums1, hp, fun S1 e => by rw [hr] at e; cases e; rfl, hS, hF, hM, hE⟩
      · refine k_aload_n 40 dX5_read_39 rfl rfl rfl ?_
        refine k_get 43 dX5_read_40 rfl fX5_read_46 (by (repeat (refine Is.ne ?_ (by omega))); first | assumption | exact Is.up (by omega)) (by rfl) ?_
        refine k_istore_n _ 44 dX5_read_43 rfl rfl (by decide) rfl rfl ?_
        refine k_aload_n 45 dX5_read_44 rfl rfl rfl ?_
        refine k_V0 (ci := 4) 48 dX5_read_45 rfl vX5_read_49 (by (repeat (refine Is.ne ?_ (by omega))); first | assumption | exact Is.up (by omega)) rfl rfl (Nat.le_of_ble_eq_true rfl) rfl ⟨Nat.le_of_ble_eq_true rfl, Nat.le_of_ble_eq_true rfl⟩ (c_X5_readItem hS hF hM hp (by omega)) (fun r2 w2 x2 => ?_)
        rcases x2 with ⟨S1, j1, nums2, hit, rfl, hS2, hF2, hM2, hE2⟩ | ⟨hit, rfl, ⟨j1, nums2, hS2⟩, hF2, hM2, hE2⟩
        · refine k_if_neN 53 51 dX5_read_48 rfl rfl (by omega) (fun c => ?_) (fun c => by omega)
          refine k_iinc _ _ 56 dX5_read_53 rfl rfl (nI_inc _) (by decide) rfl rfl ?_
          refine k_goto 21 dX5_read_56 rfl ?_
          refine k_loc [some (rf G a), some (.int (nI (i + 1))), none] ⟨rfl, rfl, trivial⟩ rfl ?_
          have := itm_le hit
          refine ih (i + 1) w2 j1 nums2 S1 (by omega) (pOK_itm hp hit) hS2 hF2 hM2 (hE.tr hE2) ?_ (by omega)
          rw [← hr]
          simp only [rda]
          rw [if_pos (by omega), hit]
        · refine k_if_neN 53 51 dX5_read_48 rfl rfl (by omega) (fun c => by omega) (fun c => ?_)
          have hr : rdT T t = .inr j := by
            rw [← hr]
            simp only [rda]
            rw [if_pos (by omega), hit]
          refine k_iload_n 52 dX5_read_51 rfl rfl rfl ?_
          refine k_iret dX5_read_52 rfl rfl (Nat.le_of_ble_eq_true rfl) ⟨by rw [hr]; rfl, S, j1, nums2, hp, (fun S1 e => by rw [hr] at e; cases e), hS2, hF2, hM2, hE.tr hE2⟩
  exact loop 200 0 w3 0 nums (oF0, oM0) (by omega) pOK_0 hS3 hF3 hM3 hE4 rfl (by omega)
