/-! Sightings: whether it comes true -/
theorem due_d {M : Mo} {n p v : Nat} (hO : mOK n M) (hp : p < 7) (hv : v ≤ 400000) : iZ (due M p) = iZ ((v : Int) - 200000) ↔ due M p = (v : Int) - 200000 := by
  refine ⟨fun e => ?_, fun e => by rw [e]⟩
  have h1 := ok_due hO hp
  have h2 := congrArg Int32.toInt e
  rwa [iZ_toInt (by omega) (by omega), iZ_toInt (by omega) (by omega)] at h2
theorem c_X7_agreesBehind {G : KG} {N : Nat} {w : WD} {a fo b m n t : Nat} {K : Nat → Nt} {M : Mo} (who : Option Nat) (h : Is N w a (SiX G a fo b m)) (hK : SiK G N w a m K) (hM : ScM G N w (a + 9) n M) (hO : mOK n M) (hm : m ≤ 6) (hw : ∀ p, who = some p → p < 7) (ht : t < 100) : KCon G jX7_agreesBehind N w [rf G a, .int (nI t), .int (whI who)] (fun r w1 => r = some (.int (bI (agr K who M t m))) ∧ w1 = w) := by
  have hK2 := hK
  obtain ⟨ps, mi, du, h1, h2, h3, h4⟩ := hK2
  obtain ⟨l2, wh2, pu2, db2, ⟨s0, -⟩, -⟩ := id hM
  refine KCon.of ([some (rf G a), some (.int (nI t)), some (.int (whI who)), none]) (by decide) rfl (by simp [Value.category]) (Nat.le_of_ble_eq_true rfl) rfl ?_
  refine k_iconst (nI 0) 1 dX7_agreesBehind_0 rfl kc_0 ?_
  refine k_istore_n _ 2 dX7_agreesBehind_1 rfl rfl (by decide) rfl rfl ?_
  have loop : ∀ d i, i + d = m → agr K who M t i = true → KRun G jX7_agreesBehind N (fun r w1 => r = some (.int (bI (agr K who M t m))) ∧ w1 = w) 2 [some (rf G a), some (.int (nI t)), some (.int (whI who)), some (.int (nI i))] [] 0 0 w := by
    intro d
    induction d with
    | zero =>
      intro i hi hg
      refine k_iload_n 3 dX7_agreesBehind_2 rfl rfl rfl ?_
      refine k_aload_n 4 dX7_agreesBehind_3 rfl rfl rfl ?_
      refine k_get 7 dX7_agreesBehind_4 rfl fX7_agreesBehind_44 (by (repeat (refine Is.ne ?_ (by omega))); first | assumption | exact Is.up (by omega)) (by rfl) ?_
      refine k_icmp_geN 65 10 dX7_agreesBehind_7 rfl rfl (by omega) (by omega) (fun c => ?_) (fun c => ?_)
      · refine k_iconst (nI 1) 66 dX7_agreesBehind_65 rfl kc_1 ?_
        refine k_zret dX7_agreesBehind_66 rfl rfl rfl (Nat.le_of_ble_eq_true rfl) ⟨by rw [show m = i by omega, hg]; rfl, rfl⟩
      · omega
    | succ d ih =>
      intro i hi hg
      obtain ⟨e1, e2, e3, b1, b2, b3, b4⟩ := h4 i (by omega)
      have next : agr K who M t (i + 1) = true → KRun G jX7_agreesBehind N (fun r w1 => r = some (.int (bI (agr K who M t m))) ∧ w1 = w) 59 [some (rf G a), some (.int (nI t)), some (.int (whI who)), some (.int (nI i))] [] 0 0 w := by
        intro hg2
        refine k_iinc _ _ 62 dX7_agreesBehind_59 rfl rfl (nI_inc _) (by decide) rfl rfl ?_
        refine k_goto 2 dX7_agreesBehind_62 rfl ?_
        exact ih (i + 1) (by omega) hg2
      refine k_iload_n 3 dX7_agreesBehind_2 rfl rfl rfl ?_
      refine k_aload_n 4 dX7_agreesBehind_3 rfl rfl rfl ?_
      refine k_get 7 dX7_agreesBehind_4 rfl fX7_agreesBehind_44 (by (repeat (refine Is.ne ?_ (by omega))); first | assumption | exact Is.up (by omega)) (by rfl) ?_
      refine k_icmp_geN 65 10 dX7_agreesBehind_7 rfl rfl (by omega) (by omega) (fun c => ?_) (fun c => ?_)
      · omega
      · refine k_aload_n 11 dX7_agreesBehind_10 rfl rfl rfl ?_
        refine k_iload_n 12 dX7_agreesBehind_11 rfl rfl rfl ?_
        refine k_iload_n 13 dX7_agreesBehind_12 rfl rfl rfl ?_
        refine k_V2 (ci := 6) 16 dX7_agreesBehind_13 rfl vX7_agreesBehind_110 (by (repeat (refine Is.ne ?_ (by omega))); first | assumption | exact Is.up (by omega)) rfl rfl (Nat.le_of_ble_eq_true rfl) rfl ⟨Nat.le_of_ble_eq_true rfl, Nat.le_of_ble_eq_true rfl⟩ (c_X7_isOf who h hK (by omega) hm hw) (fun r9 w9 h9 => ?_)
        obtain ⟨h8, h9⟩ := h9
        subst h8
        have h9 := h9.symm
        subst h9
        refine k_if_eqB 59 19 dX7_agreesBehind_16 rfl rfl (fun c9 => ?_) (fun c9 => ?_)
        · exact next (by simp [agr, hg, c9])
        · refine k_aload_n 20 dX7_agreesBehind_19 rfl rfl rfl ?_
          refine k_get 23 dX7_agreesBehind_20 rfl fX7_agreesBehind_18 (by (repeat (refine Is.ne ?_ (by omega))); first | assumption | exact Is.up (by omega)) (by rfl) ?_
          refine k_iload_n 24 dX7_agreesBehind_23 rfl rfl rfl ?_
          refine k_S2 27 dX7_agreesBehind_24 rfl vX7_agreesBehind_90 (Nat.le_of_ble_eq_true rfl) rfl ⟨Nat.le_of_ble_eq_true rfl, Nat.le_of_ble_eq_true rfl⟩ (c_X3_at h2 (by omega) (by omega)) (fun r9 w9 h9 => ?_)
          obtain ⟨h8, h9⟩ := h9
          subst h8
          have h9 := h9.symm
          subst h9
          refine k_iload_n 28 dX7_agreesBehind_27 rfl rfl rfl ?_
          rw [e2]
          refine k_tp (.int (nI t)) rfl ?_
          refine k_icmp_neN 59 31 dX7_agreesBehind_28 rfl rfl (by omega) (by omega) (fun c => ?_) (fun c => ?_)
          · exact next (by simp [agr, hg, c])
          · have ct := c
            refine k_aload_n 32 dX7_agreesBehind_31 rfl rfl rfl ?_
            refine k_get 35 dX7_agreesBehind_32 rfl fX7_agreesBehind_34 (by (repeat (refine Is.ne ?_ (by omega))); first | assumption | exact Is.up (by omega)) (by rfl) ?_
            refine k_aload_n 36 dX7_agreesBehind_35 rfl rfl rfl ?_
            refine k_get 39 dX7_agreesBehind_36 rfl fX7_agreesBehind_15 (by (repeat (refine Is.ne ?_ (by omega))); first | assumption | exact Is.up (by omega)) (by rfl) ?_
            refine k_iload_n 40 dX7_agreesBehind_39 rfl rfl rfl ?_
            refine k_S2 43 dX7_agreesBehind_40 rfl vX7_agreesBehind_90 (Nat.le_of_ble_eq_true rfl) rfl ⟨Nat.le_of_ble_eq_true rfl, Nat.le_of_ble_eq_true rfl⟩ (c_X3_at h1 (by omega) (by omega)) (fun r9 w9 h9 => ?_)
            obtain ⟨h8, h9⟩ := h9
            subst h8
            have h9 := h9.symm
            subst h9
            rw [e1]
            refine k_V1 (ci := 3) 46 dX7_agreesBehind_43 rfl vX7_agreesBehind_119 (by (repeat (refine Is.ne ?_ (by omega))); first | assumption | exact Is.up (by omega)) rfl rfl (Nat.le_of_ble_eq_true rfl) rfl ⟨Nat.le_of_ble_eq_true rfl, Nat.le_of_ble_eq_true rfl⟩ (c_X4_dueOf hM b1) (fun r9 w9 h9 => ?_)
            obtain ⟨h8, h9⟩ := h9
            subst h8
            have h9 := h9.symm
            subst h9
            refine k_aload_n 47 dX7_agreesBehind_46 rfl rfl rfl ?_
            refine k_get 50 dX7_agreesBehind_47 rfl fX7_agreesBehind_21 (by (repeat (refine Is.ne ?_ (by omega))); first | assumption | exact Is.up (by omega)) (by rfl) ?_
            refine k_iload_n 51 dX7_agreesBehind_50 rfl rfl rfl ?_
            refine k_S2 54 dX7_agreesBehind_51 rfl vX7_agreesBehind_90 (Nat.le_of_ble_eq_true rfl) rfl ⟨Nat.le_of_ble_eq_true rfl, Nat.le_of_ble_eq_true rfl⟩ (c_X3_at h3 (by omega) (by omega)) (fun r9 w9 h9 => ?_)
            obtain ⟨h8, h9⟩ := h9
            subst h8
            have h9 := h9.symm
            subst h9
            rw [e3]
            refine k_icmp_eq 59 57 dX7_agreesBehind_54 rfl rfl (fun c => ?_) (fun c => ?_)
            · have c8 := (due_d hO b1 b4).mp c
              exact next (by simp [agr, hg, c8])
            · have c8 := fun z => c ((due_d hO b1 b4).mpr z)
              refine k_iconst (nI 0) 58 dX7_agreesBehind_57 rfl kc_0 ?_
              have hf : agr K who M t (i + 1) = false := by
                simp [agr, c8, c9]
                exact fun _ => ⟨ct, c8⟩
              refine k_zret dX7_agreesBehind_58 rfl rfl rfl (Nat.le_of_ble_eq_true rfl) ⟨by rw [agr_f hf m (by omega)]; rfl, rfl⟩
  exact loop m 0 (by omega) rfl
theorem c_X7_comesTrue {G : KG} {N : Nat} {w : WD} {a fo fk b m n : Nat} {K : Nat → Nt} {M : Mo} {F : Fo} (who : Option Nat) (h : Is N w a (SiX G a fo b m)) (hK : SiK G N w a m K) (hF : FkM G N w fk F) (hfk : fk + 4 ≤ a + 9) (hM : ScM G N w (a + 9) n M) (hO : mOK n M) (hoF : oOK F) (hn : n = oN F) (hm : m ≤ 6) (hw : ∀ p, who = some p → p < 7) (hG : mG M + 400 < 2000) : KCon G jX7_comesTrue N w [rf G a, rf G fk, .int (whI who)] (fun r w1 => r = some (.int (bI (soK K m who F M))) ∧ TrG G N w1 (a + 9) ∧ Eqx w w1 (a + 9) (a + 14)) := by
  have hl : lmn K who m ≤ 20 := by
    obtain ⟨ps, mi, du, -, -, -, h4⟩ := hK
    exact lmn_b (fun i hi => (h4 i hi).2.2.2.2.2.1) m (Nat.le_refl _)
  refine KCon.of ([some (rf G a), some (rf G fk), some (.int (whI who)), none, none]) (by decide) rfl (by simp [Value.category]) (Nat.le_of_ble_eq_true rfl) rfl ?_
  refine k_aload_n 1 dX7_comesTrue_0 rfl rfl rfl ?_
  refine k_iload_n 2 dX7_comesTrue_1 rfl rfl rfl ?_
  refine k_V1 (ci := 6) 5 dX7_comesTrue_2 rfl vX7_comesTrue_98 (by (repeat (refine Is.ne ?_ (by omega))); first | assumption | exact Is.up (by omega)) rfl rfl (Nat.le_of_ble_eq_true rfl) rfl ⟨Nat.le_of_ble_eq_true rfl, Nat.le_of_ble_eq_true rfl⟩ (c_X7_lastMinute who h hK hm hw) (fun r9 w9 h9 => ?_)
  obtain ⟨h8, h9⟩ := h9
  subst h8
  have h9 := h9.symm
  subst h9
  refine k_istore_n _ 6 dX7_comesTrue_5 rfl rfl (by decide) rfl rfl ?_
  refine k_iconst (nI 1) 7 dX7_comesTrue_6 rfl kc_1 ?_
  refine k_istore _ 9 dX7_comesTrue_7 rfl (by decide) rfl rfl ?_
  have loop : ∀ d i (w1 : WD), i + d = lmn K who m → soN K m who F M i = true → ScM G N w1 (a + 9) n (mns F M i) → Eqx w w1 (a + 9) (a + 14) → KRun G jX7_comesTrue N (fun r w1 => r = some (.int (bI (soK K m who F M))) ∧ TrG G N w1 (a + 9) ∧ Eqx w w1 (a + 9) (a + 14)) 9 [some (rf G a), some (rf G fk), some (.int (whI who)), some (.int (nI (lmn K who m))), some (.int (nI (i + 1)))] [] 0 0 w1 := by
    intro d
    induction d with
    | zero =>
      intro i w1 hi hg hS hE
      refine k_iload 11 dX7_comesTrue_9 rfl rfl ?_
      refine k_iload_n 12 dX7_comesTrue_11 rfl rfl rfl ?_
      refine k_icmp_gtN 42 15 dX7_comesTrue_12 rfl rfl (by omega) (by omega) (fun c => ?_) (fun c => ?_)
      · refine k_iconst (nI 1) 43 dX7_comesTrue_42 rfl kc_1 ?_
        refine k_zret dX7_comesTrue_43 rfl rfl rfl (Nat.le_of_ble_eq_true rfl) ⟨by rw [soK, ← show i = lmn K who m by omega, hg]; rfl, hS.g, hE⟩
      · omega
    | succ d ih =>
      intro i w1 hi hg hS hE
      have hF1 := hF.fr hE (by omega)
      have hK1 := hK.fr hE (by omega)
      have h1 := h.eqx hE (by omega)
      obtain ⟨hO1, hG1⟩ := ok_mns hO hoF hn i (by omega)
      obtain ⟨hO2, hG2⟩ := ok_mns hO hoF hn (i + 1) (by omega)
      obtain ⟨l2, wh2, pu2, db2, ⟨s0, -⟩, -⟩ := id hS
      refine k_iload 11 dX7_comesTrue_9 rfl rfl ?_
      refine k_iload_n 12 dX7_comesTrue_11 rfl rfl rfl ?_
      refine k_icmp_gtN 42 15 dX7_comesTrue_12 rfl rfl (by omega) (by omega) (fun c => ?_) (fun c => ?_)
      · omega
      · refine k_aload_n 16 dX7_comesTrue_15 rfl rfl rfl ?_
        refine k_get 19 dX7_comesTrue_16 rfl fX7_comesTrue_34 (by (repeat (refine Is.ne ?_ (by omega))); first | assumption | exact Is.up (by omega)) (by rfl) ?_
        refine k_aload_n 20 dX7_comesTrue_19 rfl rfl rfl ?_
        refine k_iconst (nI 1) 21 dX7_comesTrue_20 rfl kc_1 ?_
        refine k_V2 (ci := 3) 24 dX7_comesTrue_21 rfl vX7_comesTrue_102 (by (repeat (refine Is.ne ?_ (by omega))); first | assumption | exact Is.up (by omega)) rfl rfl (Nat.le_of_ble_eq_true rfl) rfl ⟨Nat.le_of_ble_eq_true rfl, Nat.le_of_ble_eq_true rfl⟩ (c_X4_runMinute (pb := true) hS hF1 (by omega) hO1 hoF hn (by omega)) (fun r2 w2 x2 => ?_)
        obtain ⟨rfl, hS2, hE2⟩ := x2
        have h2 := h1.eqx hE2 (by omega)
        have hK2 := hK1.fr hE2 (by omega)
        have hS2 : ScM G N w2 (a + 9) n (mns F M (i + 1)) := hS2
        refine k_aload_n 25 dX7_comesTrue_24 rfl rfl rfl ?_
        refine k_iload 27 dX7_comesTrue_25 rfl rfl ?_
        refine k_iload_n 28 dX7_comesTrue_27 rfl rfl rfl ?_
        refine k_V2 (ci := 6) 31 dX7_comesTrue_28 rfl vX7_comesTrue_106 (by (repeat (refine Is.ne ?_ (by omega))); first | assumption | exact Is.up (by omega)) rfl rfl (Nat.le_of_ble_eq_true rfl) rfl ⟨Nat.le_of_ble_eq_true rfl, Nat.le_of_ble_eq_true rfl⟩ (c_X7_agreesBehind who h2 hK2 hS2 hO2 hm hw (by omega)) (fun r9 w9 h9 => ?_)
        obtain ⟨h8, h9⟩ := h9
        subst h8
        have h9 := h9.symm
        subst h9
        refine k_if_neB 36 34 dX7_comesTrue_31 rfl rfl (fun c9 => ?_) (fun c9 => ?_)
        · refine k_iinc _ _ 39 dX7_comesTrue_36 rfl rfl (nI_inc _) (by decide) rfl rfl ?_
          refine k_goto 9 dX7_comesTrue_39 rfl ?_
          exact ih (i + 1) w2 (by omega) (by simp [soN, hg, c9]) hS2 (hE.tr hE2)
        · refine k_iconst (nI 0) 35 dX7_comesTrue_34 rfl kc_0 ?_
          have hf : soN K m who F M (i + 1) = false := by simp [soN, c9]
          refine k_zret dX7_comesTrue_35 rfl rfl rfl (Nat.le_of_ble_eq_true rfl) ⟨by rw [soK, soN_f hf _ (by omega)]; rfl, hS2.g, hE.tr hE2⟩
  exact loop (lmn K who m) 0 w (by omega) rfl hM Eqx.rf
def OdM (G : KG) (N : Nat) (w : WD) (a L : Nat) (f : Nat → Nat) : Prop := ∃ od : Nat → Int32, Is N w (a + 1) (ia G 7 od) ∧ ∀ k, k < L → od k = nI (f k)
theorem OdM.fr {G : KG} {N a L lo hi : Nat} {w w1 : WD} {f : Nat → Nat} (h : OdM G N w a L f) (hE : Eqx w w1 lo hi) (hk : a + 2 ≤ lo ∨ hi ≤ a + 1) : OdM G N w1 a L f := by
  obtain ⟨od, h1, h2⟩ := h
  exact ⟨od, h1.eqx hE (by omega), h2⟩
theorem c_X7_swap {G : KG} {N : Nat} {w : WD} {a fo b m L i j : Nat} {f : Nat → Nat} (h : Is N w a (SiX G a fo b m)) (hf : OdM G N w a L f) (hL : L ≤ 7) (hi : i < L) (hj : j < L) : KCon G jX7_swap N w [rf G a, .int (nI i), .int (nI j)] (fun r w1 => r = none ∧ OdM G N w1 a L (swp f i j) ∧ Eqx w w1 (a + 1) (a + 2)) := by
  obtain ⟨od, h1, h2⟩ := hf
  have hN := h1.1
  refine KCon.of ([some (rf G a), some (.int (nI i)), some (.int (nI j)), none]) (by decide) rfl (by simp [Value.category]) (Nat.le_of_ble_eq_true rfl) rfl ?_
  refine k_aload_n 1 dX7_swap_0 rfl rfl rfl ?_
  refine k_get 4 dX7_swap_1 rfl fX7_swap_9 (by (repeat (refine Is.ne ?_ (by omega))); first | assumption | exact Is.up (by omega)) (by rfl) ?_
  refine k_iload_n 5 dX7_swap_4 rfl rfl rfl ?_
  refine k_S2 8 dX7_swap_5 rfl vX7_swap_90 (Nat.le_of_ble_eq_true rfl) rfl ⟨Nat.le_of_ble_eq_true rfl, Nat.le_of_ble_eq_true rfl⟩ (c_X3_at (by (repeat (refine Is.ne ?_ (by omega))); first | assumption | exact Is.up (by omega)) (by omega) (by omega)) (fun r9 w9 h9 => ?_)
  obtain ⟨h8, h9⟩ := h9
  subst h8
  have h9 := h9.symm
  subst h9
  refine k_istore_n _ 9 dX7_swap_8 rfl rfl (by decide) rfl rfl ?_
  refine k_aload_n 10 dX7_swap_9 rfl rfl rfl ?_
  refine k_get 13 dX7_swap_10 rfl fX7_swap_9 (by (repeat (refine Is.ne ?_ (by omega))); first | assumption | exact Is.up (by omega)) (by rfl) ?_
  refine k_iload_n 14 dX7_swap_13 rfl rfl rfl ?_
  refine k_aload_n 15 dX7_swap_14 rfl rfl rfl ?_
  refine k_get 18 dX7_swap_15 rfl fX7_swap_9 (by (repeat (refine Is.ne ?_ (by omega))); first | assumption | exact Is.up (by omega)) (by rfl) ?_
  refine k_iload_n 19 dX7_swap_18 rfl rfl rfl ?_
  refine k_S2 22 dX7_swap_19 rfl vX7_swap_90 (Nat.le_of_ble_eq_true rfl) rfl ⟨Nat.le_of_ble_eq_true rfl, Nat.le_of_ble_eq_true rfl⟩ (c_X3_at (by (repeat (refine Is.ne ?_ (by omega))); first | assumption | exact Is.up (by omega)) (by omega) (by omega)) (fun r9 w9 h9 => ?_)
  obtain ⟨h8, h9⟩ := h9
  subst h8
  have h9 := h9.symm
  subst h9
  refine k_S3 25 dX7_swap_22 rfl vX7_swap_48 (Nat.le_of_ble_eq_true rfl) rfl ⟨Nat.le_of_ble_eq_true rfl, Nat.le_of_ble_eq_true rfl⟩ (c_X3_put (by (repeat (refine Is.ne ?_ (by omega))); first | assumption | exact Is.up (by omega)) (by omega) (by omega)) (fun r9 w9 h9 => ?_)
  obtain ⟨h8, h9⟩ := h9
  subst h8
  have h9 := h9.symm
  subst h9
  refine k_aload_n 26 dX7_swap_25 rfl rfl rfl ?_
  refine k_get 29 dX7_swap_26 rfl fX7_swap_9 (by (repeat (refine Is.ne ?_ (by omega))); first | assumption | exact Is.up (by omega)) (by rfl) ?_
  refine k_iload_n 30 dX7_swap_29 rfl rfl rfl ?_
  refine k_iload_n 31 dX7_swap_30 rfl rfl rfl ?_
  refine k_S3 34 dX7_swap_31 rfl vX7_swap_48 (Nat.le_of_ble_eq_true rfl) rfl ⟨Nat.le_of_ble_eq_true rfl, Nat.le_of_ble_eq_true rfl⟩ (c_X3_put (by (repeat (refine Is.ne ?_ (by omega))); first | assumption | exact Is.up (by omega)) (by omega) (by omega)) (fun r9 w9 h9 => ?_)
  obtain ⟨h8, h9⟩ := h9
  subst h8
  have h9 := h9.symm
  subst h9
  refine k_vret dX7_swap_34 rfl rfl (Nat.le_of_ble_eq_true rfl) ⟨rfl, ⟨_, (by (repeat (refine Is.ne ?_ (by omega))); first | assumption | exact Is.up (by omega)), fun k hk => ?_⟩, (by (repeat (refine Eqx.up ?_ (by omega) (by omega))); first | exact Eqx.rf | assumption)⟩
  rw [h2 i hi, h2 j hj]
  exact upd_nI (fun r hr => upd_nI h2 i (f j) r hr) j (f i) k hk
