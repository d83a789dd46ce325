/-! KerbQueueModel: what was seen, orders one behind the other -/
theorem agr_lmn {K : Nat → Nt} {who : Option Nat} {M : Mo} {t : Nat} : ∀ i, agr K who M t i = false → t ≤ lmn K who i := by
  intro i
  induction i with
  | zero => intro h; exact absurd h (by simp [agr])
  | succ i ih =>
    intro h
    have hm : lmn K who i ≤ lmn K who (i + 1) := by
      simp only [lmn]
      split
      · exact Nat.le_max_left _ _
      · exact Nat.le_refl _
    cases h1 : agr K who M t i with
    | false => exact Nat.le_trans (ih h1) hm
    | true =>
      simp only [agr, h1, Bool.true_and, Bool.not_eq_false', Bool.and_eq_true, beq_iff_eq] at h
      simp only [lmn]
      rw [if_pos h.1.1, ← h.1.2]
      exact Nat.le_max_right _ _
theorem soN_up {K : Nat → Nt} {m : Nat} {who : Option Nat} {F : Fo} {M : Mo} : ∀ d, soN K m who F M (lmn K who m + d) = soN K m who F M (lmn K who m) := by
  intro d
  induction d with
  | zero => rfl
  | succ d ih =>
    show (soN K m who F M (lmn K who m + d) && agr K who (mns F M (lmn K who m + d + 1)) (lmn K who m + d + 1) m) = _
    rw [ih]
    cases h : agr K who (mns F M (lmn K who m + d + 1)) (lmn K who m + d + 1) m with
    | true => simp
    | false =>
      have := agr_lmn m h
      omega
theorem soK_20 {K : Nat → Nt} {m : Nat} {who : Option Nat} {F : Fo} {M : Mo} (h : ∀ i, i < m → (K i).2.1 ≤ 20) : soK K m who F M = soN K m who F M 20 := by
  have h1 := lmn_b (who := who) h m (Nat.le_refl _)
  have h2 := soN_up (K := K) (m := m) (who := who) (F := F) (M := M) (20 - lmn K who m)
  rw [show lmn K who m + (20 - lmn K who m) = 20 by omega] at h2
  exact h2.symm
def whN (who : Option Nat) : Int32 := match who with
  | none => -4
  | some p => nI p
theorem due_n {M : Mo} {n p v : Nat} (hO : mOK n M) (hp : p < 7) (hv : v ≤ 400000) : iZ (due M p + 200000) = nI v ↔ due M p = (v : Int) - 200000 := by
  have h1 := ok_due hO hp
  rw [← iZ_nat]
  constructor
  · intro h
    have h2 := congrArg Int32.toInt h
    rw [iZ_toInt (by omega) (by omega), iZ_toInt (by omega) (by omega)] at h2
    omega
  · intro h
    exact congrArg iZ (by omega)
theorem c_X9_isSo {G : KG} {N : Nat} {w : WD} {b : Nat} {S : St} {M : Mo} {oA : Option Mo} (who : Option Nat) (h : RsM G N w b S M oA) (hO : mOK (oN (qF S)) M) (hK : oOK (qF S)) (hG : mG M + 30 < 2000) (h6 : qm S ≤ 6) (hw : ∀ p, who = some p → p < 7) : KCon G jX9_isSo N w [rf G b, .int (whN who)] (fun r w1 => r = some (.int (bI (soK (qN S) (qm S) who (qF S) M))) ∧ (∃ M1, RsM G N w1 b S M1 oA) ∧ Eqx w w1 b (b + 12)) := by
  have hn7 := hO.2.1
  obtain ⟨at_, tx, to_, dr, be, s, pa, im, nt, ah, sd, gr, ro, ⟨g0, g1, g2, g3, g4, g5, g6, g7, g8, g9, g10, g11, g12⟩, v1, v2, v3, v4, v5, v6, v7, v8⟩ := id h
  rw [soK_20 (fun i hi => (v6 i hi).2.2.2.2.2.1)]
  clear g0 g1 g2 g3 g4 g5 g6 g7 g8 g9 g10 g11 g12 v1 v2 v3 v4 v5 v6 v7 v8
  refine KCon.of ([some (rf G b), some (.int (whN who)), none, none, none, none]) (by decide) rfl (by simp [Value.category]) (Nat.le_of_ble_eq_true rfl) rfl ?_
  refine k_iconst (nI 1) 1 dX9_isSo_0 rfl kc_1 ?_
  refine k_istore_n _ 2 dX9_isSo_1 rfl rfl (by decide) rfl rfl ?_
  refine k_iconst (nI 1) 3 dX9_isSo_2 rfl kc_1 ?_
  refine k_istore_n _ 4 dX9_isSo_3 rfl rfl (by decide) rfl rfl ?_
  have loop : ∀ d i (w2 : WD), i + d = 20 → RsM G N w2 b S (mns (qF S) M i) oA → Eqx w w2 b (b + 12) → soN (qN S) (qm S) who (qF S) M i = true → KRun G jX9_isSo N (fun r w1 => r = some (.int (bI (soN (qN S) (qm S) who (qF S) M 20))) ∧ (∃ M1, RsM G N w1 b S M1 oA) ∧ Eqx w w1 b (b + 12)) 4 [some (rf G b), some (.int (whN who)), some (.int (bI true)), some (.int (nI (i + 1))), none, none] [] 0 0 w2 := by
    intro d
    induction d with
    | zero =>
      intro i w2 hi hR hE hs
      have hI : i = 20 := by omega
      subst hI
      refine k_iload_n 5 dX9_isSo_4 rfl rfl rfl ?_
      refine k_bipush (nI 20) 7 dX9_isSo_5 rfl kb_20 ?_
      refine k_icmp_gtN 114 10 dX9_isSo_7 rfl rfl (by omega) (by omega) (fun c => ?_) (fun c => ?_)
      · refine k_iload_n 115 dX9_isSo_114 rfl rfl rfl ?_
        refine k_zretB dX9_isSo_115 rfl rfl (Nat.le_of_ble_eq_true rfl) ⟨by rw [hs], ⟨_, hR⟩, hE⟩
      · omega
    | succ d ih =>
      intro i w2 hi hR hE hs
      obtain ⟨hOi, hGi⟩ := mns_ok hO hK (n := 20) (by omega) i (by omega)
      obtain ⟨hOj, hGj⟩ := mns_ok hO hK (n := 20) (by omega) (i + 1) (by omega)
      obtain ⟨at2, s2, to2, j0, j5, t3, j2, t2⟩ := hR.ob
      refine k_iload_n 5 dX9_isSo_4 rfl rfl rfl ?_
      refine k_bipush (nI 20) 7 dX9_isSo_5 rfl kb_20 ?_
      refine k_icmp_gtN 114 10 dX9_isSo_7 rfl rfl (by omega) (by omega) (fun c => ?_) (fun c => ?_)
      · omega
      refine k_iload_n 11 dX9_isSo_10 rfl rfl rfl ?_
      refine k_if_eqB (b := true) 114 14 dX9_isSo_11 rfl rfl (fun c9 => absurd c9 (by simp)) (fun c9 => ?_)
      refine k_aload_n 15 dX9_isSo_14 rfl rfl rfl ?_
      refine k_iconst (nI 1) 16 dX9_isSo_15 rfl kc_1 ?_
      refine k_V1 (ci := 8) 19 dX9_isSo_16 rfl vX9_isSo_122 (by (repeat (refine Is.ne ?_ (by omega))); first | assumption | exact Is.up (by omega)) rfl rfl (Nat.le_of_ble_eq_true rfl) rfl ⟨Nat.le_of_ble_eq_true rfl, Nat.le_of_ble_eq_true rfl⟩ (c_X9_passes (pb := true) hR hOi hK (by omega)) (fun r3 w3 x3 => ?_)
      obtain ⟨rfl, hR3, hE3⟩ := x3
      have hR4 : RsM G N w3 b S (mns (qF S) M (i + 1)) oA := hR3
      generalize hMj : mns (qF S) M (i + 1) = Mj at *
      have hE4 := hE.tr hE3
      obtain ⟨at_, tx, to_, dr, be, s, pa, im, nt, ah, sd, gr, ro, ⟨g0, g1, g2, g3, g4, g5, g6, g7, g8, g9, g10, g11, g12⟩, v1, v2, v3, v4, v5, v6, v7, v8⟩ := id hR4
      clear j0 j5 j2
      refine k_iconst (nI 0) 20 dX9_isSo_19 rfl kc_0 ?_
      refine k_istore _ 22 dX9_isSo_20 rfl (by decide) rfl rfl ?_
      have nl : ∀ d2 k (L5 : Option Value), k + d2 = qm S → KRun G jX9_isSo N (fun r w1 => r = some (.int (bI (soN (qN S) (qm S) who (qF S) M 20))) ∧ (∃ M1, RsM G N w1 b S M1 oA) ∧ Eqx w w1 b (b + 12)) 22 [some (rf G b), some (.int (whN who)), some (.int (bI (agr (qN S) who Mj (i + 1) k))), some (.int (nI (i + 1))), some (.int (nI k)), L5] [] 0 0 w3 := by
        intro d2
        induction d2 with
        | zero =>
          intro k L5 hk
          have hI : k = qm S := by omega
          subst hI
          refine k_iload 24 dX9_isSo_22 rfl rfl ?_
          refine k_aload_n 25 dX9_isSo_24 rfl rfl rfl ?_
          refine k_get 28 dX9_isSo_25 rfl fX9_isSo_99 (by (repeat (refine Is.ne ?_ (by omega))); first | assumption | exact Is.up (by omega)) (by rfl) ?_
          refine k_icmp_geN 108 31 dX9_isSo_28 rfl rfl (by omega) (by omega) (fun c => ?_) (fun c => ?_)
          rotate_left
          · omega
          have e20 : soN (qN S) (qm S) who (qF S) M (i + 1) = agr (qN S) who Mj (i + 1) (qm S) := by
            show (soN (qN S) (qm S) who (qF S) M i && agr (qN S) who (mns (qF S) M (i + 1)) (i + 1) (qm S)) = _
            rw [hs, hMj]
            rfl
          refine k_iinc _ _ 111 dX9_isSo_108 rfl rfl (nI_inc _) (by decide) rfl rfl ?_
          refine k_goto 4 dX9_isSo_111 rfl ?_
          cases ha : agr (qN S) who Mj (i + 1) (qm S) with
          | true =>
            rw [ha] at e20
            refine k_loc [some (rf G b), some (.int (whN who)), some (.int (bI true)), some (.int (nI (i + 1 + 1))), none, none] ⟨rfl, rfl, rfl, rfl, trivial⟩ rfl ?_
            exact ih (i + 1) w3 (by omega) (by rw [hMj]; exact hR4) hE4 e20
          | false =>
            rw [ha] at e20
            have e21 := soN_f e20 20 (by omega)
            refine k_iload_n 5 dX9_isSo_4 rfl rfl rfl ?_
            refine k_bipush (nI 20) 7 dX9_isSo_5 rfl kb_20 ?_
            refine k_icmp_gtN 114 10 dX9_isSo_7 rfl rfl (by omega) (by omega) (fun c => ?_) (fun c => ?_)
            · refine k_iload_n 115 dX9_isSo_114 rfl rfl rfl ?_
              refine k_zretB dX9_isSo_115 rfl rfl (Nat.le_of_ble_eq_true rfl) ⟨by rw [e21], ⟨_, hR4⟩, hE4⟩
            · refine k_iload_n 11 dX9_isSo_10 rfl rfl rfl ?_
              refine k_if_eqB (b := false) 114 14 dX9_isSo_11 rfl rfl (fun c9 => ?_) (fun c9 => absurd c9 (by simp))
              refine k_iload_n 115 dX9_isSo_114 rfl rfl rfl ?_
              refine k_zretB dX9_isSo_115 rfl rfl (Nat.le_of_ble_eq_true rfl) ⟨by rw [e21], ⟨_, hR4⟩, hE4⟩
        | succ d2 ih2 =>
          intro k L5 hk
          obtain ⟨n1, n2, n3, n4, n5, n6, n7⟩ := v6 k (by omega)
          have hnx := ih2 (k + 1) (some (.int (nI (qN S k).1))) (by omega)
          have ea : agr (qN S) who Mj (i + 1) (k + 1) = (agr (qN S) who Mj (i + 1) k && !(nof who (qN S k).1 && (qN S k).2.1 == (i + 1) && !(decide (due Mj (qN S k).1 = ((qN S k).2.2 : Int) - 200000)))) := rfl
          rw [ea] at hnx
          refine k_iload 24 dX9_isSo_22 rfl rfl ?_
          refine k_aload_n 25 dX9_isSo_24 rfl rfl rfl ?_
          refine k_get 28 dX9_isSo_25 rfl fX9_isSo_99 (by (repeat (refine Is.ne ?_ (by omega))); first | assumption | exact Is.up (by omega)) (by rfl) ?_
          refine k_icmp_geN 108 31 dX9_isSo_28 rfl rfl (by omega) (by omega) (fun c => ?_) (fun c => ?_)
          · omega
          refine k_aload_n 32 dX9_isSo_31 rfl rfl rfl ?_
          refine k_get 35 dX9_isSo_32 rfl fX9_isSo_31 (by (repeat (refine Is.ne ?_ (by omega))); first | assumption | exact Is.up (by omega)) (by rfl) ?_
          refine k_iconst (nI 3) 36 dX9_isSo_35 rfl kc_3 ?_
          refine k_iload 38 dX9_isSo_36 rfl rfl ?_
          first | refine k_imulE _ 39 dX9_isSo_38 rfl (pk_mul _ _) ?_ | refine k_imul 39 dX9_isSo_38 rfl ?_
          refine k_ialdN 40 dX9_isSo_39 rfl (by (repeat (refine Is.ne ?_ (by omega))); first | assumption | exact Is.up (by omega)) (by omega) (by omega) ?_
          rw [n1]
          refine k_istore _ 42 dX9_isSo_40 rfl (by decide) rfl rfl ?_
          refine k_iload_n 43 dX9_isSo_42 rfl rfl rfl ?_
          have yes : agr (qN S) who Mj (i + 1) k = true → (nof who (qN S k).1 && (qN S k).2.1 == (i + 1) && !(decide (due Mj (qN S k).1 = ((qN S k).2.2 : Int) - 200000))) = false → KRun G jX9_isSo N (fun r w1 => r = some (.int (bI (soN (qN S) (qm S) who (qF S) M 20))) ∧ (∃ M1, RsM G N w1 b S M1 oA) ∧ Eqx w w1 b (b + 12)) 96 [some (rf G b), some (.int (whN who)), some (.int (bI (agr (qN S) who Mj (i + 1) k))), some (.int (nI (i + 1))), some (.int (nI k)), some (.int (nI (qN S k).1))] [] 0 0 w3 := by
            intro a1 a2
            rw [a1, a2] at hnx
            refine k_iconst (nI 1) 97 dX9_isSo_96 rfl kc_1 ?_
            refine k_goto 101 dX9_isSo_97 rfl ?_
            refine k_istore_n _ 102 dX9_isSo_101 rfl rfl (by decide) rfl rfl ?_
            refine k_iinc _ _ 105 dX9_isSo_102 rfl rfl (nI_inc _) (by decide) rfl rfl ?_
            refine k_goto 22 dX9_isSo_105 rfl ?_
            exact hnx
          have no : (agr (qN S) who Mj (i + 1) k = false ∨ (nof who (qN S k).1 && (qN S k).2.1 == (i + 1) && !(decide (due Mj (qN S k).1 = ((qN S k).2.2 : Int) - 200000))) = true) → KRun G jX9_isSo N (fun r w1 => r = some (.int (bI (soN (qN S) (qm S) who (qF S) M 20))) ∧ (∃ M1, RsM G N w1 b S M1 oA) ∧ Eqx w w1 b (b + 12)) 100 [some (rf G b), some (.int (whN who)), some (.int (bI (agr (qN S) who Mj (i + 1) k))), some (.int (nI (i + 1))), some (.int (nI k)), some (.int (nI (qN S k).1))] [] 0 0 w3 := by
            intro a1
            have a2 : (agr (qN S) who Mj (i + 1) k && !(nof who (qN S k).1 && (qN S k).2.1 == (i + 1) && !(decide (due Mj (qN S k).1 = ((qN S k).2.2 : Int) - 200000)))) = false := by
              rcases a1 with a1 | a1
              · rw [a1, Bool.false_and]
              · rw [a1]
                simp
            rw [a2] at hnx
            refine k_iconst (nI 0) 101 dX9_isSo_100 rfl kc_0 ?_
            refine k_istore_n _ 102 dX9_isSo_101 rfl rfl (by decide) rfl rfl ?_
            refine k_iinc _ _ 105 dX9_isSo_102 rfl rfl (nI_inc _) (by decide) rfl rfl ?_
            refine k_goto 22 dX9_isSo_105 rfl ?_
            exact hnx
          refine k_if_eqB 100 46 dX9_isSo_43 rfl rfl (fun c9 => no (Or.inl c9)) (fun c9 => ?_)
          have chk : nof who (qN S k).1 = true → KRun G jX9_isSo N (fun r w1 => r = some (.int (bI (soN (qN S) (qm S) who (qF S) M 20))) ∧ (∃ M1, RsM G N w1 b S M1 oA) ∧ Eqx w w1 b (b + 12)) 58 [some (rf G b), some (.int (whN who)), some (.int (bI (agr (qN S) who Mj (i + 1) k))), some (.int (nI (i + 1))), some (.int (nI k)), some (.int (nI (qN S k).1))] [] 0 0 w3 := by
            intro hn
            refine k_aload_n 59 dX9_isSo_58 rfl rfl rfl ?_
            refine k_get 62 dX9_isSo_59 rfl fX9_isSo_31 (by (repeat (refine Is.ne ?_ (by omega))); first | assumption | exact Is.up (by omega)) (by rfl) ?_
            refine k_iconst (nI 3) 63 dX9_isSo_62 rfl kc_3 ?_
            refine k_iload 65 dX9_isSo_63 rfl rfl ?_
            first | refine k_imulE _ 66 dX9_isSo_65 rfl (pk_mul _ _) ?_ | refine k_imul 66 dX9_isSo_65 rfl ?_
            refine k_iconst (nI 1) 67 dX9_isSo_66 rfl kc_1 ?_
            first | refine k_iaddE _ 68 dX9_isSo_67 rfl (nI_add _ _) ?_ | refine k_iadd 68 dX9_isSo_67 rfl ?_
            refine k_ialdN 69 dX9_isSo_68 rfl (by (repeat (refine Is.ne ?_ (by omega))); first | assumption | exact Is.up (by omega)) (by omega) (by omega) ?_
            rw [n2]
            refine k_iload_n 70 dX9_isSo_69 rfl rfl rfl ?_
            refine k_icmp_neN 96 73 dX9_isSo_70 rfl rfl (by omega) (by omega) (fun c => ?_) (fun c => ?_)
            · refine yes c9 ?_
              have : ((qN S k).2.1 == (i + 1)) = false := beq_eq_false_iff_ne.mpr c
              rw [this]
              simp
            · refine k_aload_n 74 dX9_isSo_73 rfl rfl rfl ?_
              refine k_iload 76 dX9_isSo_74 rfl rfl ?_
              refine k_V1 (ci := 8) 79 dX9_isSo_76 rfl vX9_isSo_108 (by (repeat (refine Is.ne ?_ (by omega))); first | assumption | exact Is.up (by omega)) rfl rfl (Nat.le_of_ble_eq_true rfl) rfl ⟨Nat.le_of_ble_eq_true rfl, Nat.le_of_ble_eq_true rfl⟩ (c_X9_due hR4 n4) (fun r9 w9 h9 => ?_)
              obtain ⟨h8, h9⟩ := h9
              subst h8
              have h9 := h9.symm
              subst h9
              refine k_ldc ((iZ 200000)) 81 dX9_isSo_79 rfl (by decide +kernel) ?_
              refine k_iaddE _ 82 dX9_isSo_81 rfl (iZ_add _ _) ?_
              refine k_aload_n 83 dX9_isSo_82 rfl rfl rfl ?_
              refine k_get 86 dX9_isSo_83 rfl fX9_isSo_31 (by (repeat (refine Is.ne ?_ (by omega))); first | assumption | exact Is.up (by omega)) (by rfl) ?_
              refine k_iconst (nI 3) 87 dX9_isSo_86 rfl kc_3 ?_
              refine k_iload 89 dX9_isSo_87 rfl rfl ?_
              first | refine k_imulE _ 90 dX9_isSo_89 rfl (pk_mul _ _) ?_ | refine k_imul 90 dX9_isSo_89 rfl ?_
              refine k_iconst (nI 2) 91 dX9_isSo_90 rfl kc_2 ?_
              first | refine k_iaddE _ 92 dX9_isSo_91 rfl (nI_add _ _) ?_ | refine k_iadd 92 dX9_isSo_91 rfl ?_
              refine k_ialdN 93 dX9_isSo_92 rfl (by (repeat (refine Is.ne ?_ (by omega))); first | assumption | exact Is.up (by omega)) (by omega) (by omega) ?_
              rw [n3]
              refine k_icmp_ne 100 96 dX9_isSo_93 rfl rfl (fun c => ?_) (fun c => ?_)
              · refine no (Or.inr ?_)
                have hne : ¬ due Mj (qN S k).1 = ((qN S k).2.2 : Int) - 200000 := fun z => c ((due_n hOj n4 n7).mpr z)
                rw [hn, decide_eq_false hne]
                simp
                omega
              · refine yes c9 ?_
                have he := (due_n hOj n4 n7).mp (Classical.not_not.mp c)
                rw [decide_eq_true he]
                simp
          refine k_iload_n 47 dX9_isSo_46 rfl rfl rfl ?_
          refine k_bipush (-4) 49 dX9_isSo_47 rfl kbm_4 ?_
          cases who with
          | none =>
            refine k_icmp_eq 58 52 dX9_isSo_49 rfl rfl (fun c => ?_) (fun c => ?_)
            · exact chk rfl
            · exact absurd rfl c
          | some p =>
            have hp := hw p rfl
            have hne : ¬ whN (some p) = -4 := by
              show ¬ nI p = -4
              intro z
              have h1 := nI_pos (n := p) (by omega)
              rw [z] at h1
              exact h1 (by decide)
            refine k_icmp_eq 58 52 dX9_isSo_49 rfl rfl (fun c => ?_) (fun c => ?_)
            · exact absurd c hne
            · refine k_iload 54 dX9_isSo_52 rfl rfl ?_
              refine k_iload_n 55 dX9_isSo_54 rfl rfl rfl ?_
              refine k_icmp_neN (a := (qN S k).1) (b := p) 96 58 dX9_isSo_55 rfl rfl (by omega) (by omega) (fun c => ?_) (fun c => ?_)
              · refine yes c9 ?_
                have : ((qN S k).1 == p) = false := beq_eq_false_iff_ne.mpr c
                simp only [nof]
                rw [this]
                simp
              · exact chk (by simp only [nof]; exact beq_iff_eq.mpr c)
      exact nl (qm S) 0 none (by omega)
  exact loop 20 0 w (by omega) h Eqx.rf rfl
theorem c_X9_next {G : KG} {N : Nat} {w : WD} {b L : Nat} {f : Nat → Nat} {ro : Nat → Int32} {x1 x2 x3 x4 x5 x6 x7 x8 x9 x10 x11 x12 x13 x14 x15 x16 : Value} (h : Is N w b (ob 8 [x1, x2, x3, x4, x5, x6, x7, x8, x9, x10, x11, x12, x13, x14, x15, x16, rf G (b + 12)])) (o1 : Is N w (b + 12) (ia G 7 ro)) (o2 : ∀ k, k < L → ro k = nI (f k)) (hL : L ≤ 7) (hv : ∀ k, k < L → f k < 7) : KCon G jX9_next N w [rf G b, .int (nI L)] (fun r w1 => r = some (.int (bI (nxt L f).isSome)) ∧ ∃ ro1 : Nat → Int32, w1 = va_up w (b + 12) (ia G 7 ro1) ∧ ∀ k, k < L → ro1 k = nI (((nxt L f).getD f) k)) := by
  have hN := o1.1
  refine KCon.of ([some (rf G b), some (.int (nI L)), none, none, none, none, none]) (by decide) rfl (by simp [Value.category]) (Nat.le_of_ble_eq_true rfl) rfl ?_
  have none_ : ∀ x : Int32, x < 0 → pv f (L - 1) = none → KRun G jX9_next N (fun r w1 => r = some (.int (bI (nxt L f).isSome)) ∧ ∃ ro1 : Nat → Int32, w1 = va_up w (b + 12) (ia G 7 ro1) ∧ ∀ k, k < L → ro1 k = nI (((nxt L f).getD f) k)) 31 [some (rf G b), some (.int (nI L)), some (.int x), none, none, none, none] [] 0 0 w := by
    intro x hx hp
    refine k_iload_n 32 dX9_next_31 rfl rfl rfl ?_
    refine k_if_ge 37 35 dX9_next_32 rfl rfl (fun c => ?_) (fun c => ?_)
    · exact absurd hx (Int32.not_lt.mpr c)
    · refine k_iconst (nI 0) 36 dX9_next_35 rfl kc_0 ?_
      have e : nxt L f = none := by
        unfold nxt
        rw [hp]
      rw [e]
      refine k_zret dX9_next_36 rfl rfl rfl (Nat.le_of_ble_eq_true rfl) ⟨rfl, ro, (va_up_eq o1.2).symm, o2⟩
  have some_ : ∀ r, pv f (L - 1) = some r → KRun G jX9_next N (fun r w1 => r = some (.int (bI (nxt L f).isSome)) ∧ ∃ ro1 : Nat → Int32, w1 = va_up w (b + 12) (ia G 7 ro1) ∧ ∀ k, k < L → ro1 k = nI (((nxt L f).getD f) k)) 31 [some (rf G b), some (.int (nI L)), some (.int (nI r)), none, none, none, none] [] 0 0 w := by
    intro r hp
    obtain ⟨hr, -⟩ := pv_some hp
    have e : nxt L f = some (rvs (swp f r (hgh f r (L - 1))) L (r + 1) (L - 1)) := by
      unfold nxt
      rw [hp]
    rw [e]
    have hh := hgh_le f r (L - 1)
    refine k_iload_n 32 dX9_next_31 rfl rfl rfl ?_
    refine k_if_geN 37 35 dX9_next_32 rfl rfl (by omega) (fun c => ?_) (fun c => ?_)
    rotate_left
    · omega
    refine k_iload_n 38 dX9_next_37 rfl rfl rfl ?_
    refine k_iconst (nI 1) 39 dX9_next_38 rfl kc_1 ?_
    first | refine k_isubE _ 40 dX9_next_39 rfl (pk_sub (by omega)) ?_ | refine k_isub 40 dX9_next_39 rfl ?_
    refine k_istore_n _ 41 dX9_next_40 rfl rfl (by decide) rfl rfl ?_
    generalize hZ : hgh f r (L - 1) = Z at *
    have loop2 : ∀ z, z ≤ L - 1 → r ≤ z → hgh f r z = Z → KRun G jX9_next N (fun r1 w1 => r1 = some (.int (bI (some (rvs (swp f r Z) L (r + 1) (L - 1))).isSome)) ∧ ∃ ro1 : Nat → Int32, w1 = va_up w (b + 12) (ia G 7 ro1) ∧ ∀ k, k < L → ro1 k = nI (((some (rvs (swp f r Z) L (r + 1) (L - 1))).getD f) k)) 62 [some (rf G b), some (.int (nI L)), some (.int (nI r)), some (.int (nI Z)), none, none, none] [] 0 0 w → KRun G jX9_next N (fun r1 w1 => r1 = some (.int (bI (some (rvs (swp f r Z) L (r + 1) (L - 1))).isSome)) ∧ ∃ ro1 : Nat → Int32, w1 = va_up w (b + 12) (ia G 7 ro1) ∧ ∀ k, k < L → ro1 k = nI (((some (rvs (swp f r Z) L (r + 1) (L - 1))).getD f) k)) 41 [some (rf G b), some (.int (nI L)), some (.int (nI r)), some (.int (nI z)), none, none, none] [] 0 0 w := by
      intro z
      induction z with
      | zero =>
        intro hz hrz he hk
        have he : 0 = Z := he
        subst he
        have hr0 : r = 0 := by omega
        subst hr0
        have v1 := hv 0 (by omega)
        refine k_aload_n 42 dX9_next_41 rfl rfl rfl ?_
        refine k_get 45 dX9_next_42 rfl fX9_next_43 (by (repeat (refine Is.ne ?_ (by omega))); first | assumption | exact Is.up (by omega)) (by rfl) ?_
        refine k_iload_n 46 dX9_next_45 rfl rfl rfl ?_
        refine k_ialdN 47 dX9_next_46 rfl (by (repeat (refine Is.ne ?_ (by omega))); first | assumption | exact Is.up (by omega)) (by omega) (by omega) ?_
        refine k_aload_n 48 dX9_next_47 rfl rfl rfl ?_
        refine k_get 51 dX9_next_48 rfl fX9_next_43 (by (repeat (refine Is.ne ?_ (by omega))); first | assumption | exact Is.up (by omega)) (by rfl) ?_
        refine k_iload_n 52 dX9_next_51 rfl rfl rfl ?_
        refine k_ialdN 53 dX9_next_52 rfl (by (repeat (refine Is.ne ?_ (by omega))); first | assumption | exact Is.up (by omega)) (by omega) (by omega) ?_
        rw [o2 _ (by omega)]
        refine k_icmp_geN 62 56 dX9_next_53 rfl rfl (by omega) (by omega) (fun c => ?_) (fun c => ?_)
        · exact hk
        · omega
      | succ z ih =>
        intro hz hrz he hk
        have v1 := hv (z + 1) (by omega)
        have v2 := hv r (by omega)
        refine k_aload_n 42 dX9_next_41 rfl rfl rfl ?_
        refine k_get 45 dX9_next_42 rfl fX9_next_43 (by (repeat (refine Is.ne ?_ (by omega))); first | assumption | exact Is.up (by omega)) (by rfl) ?_
        refine k_iload_n 46 dX9_next_45 rfl rfl rfl ?_
        refine k_ialdN 47 dX9_next_46 rfl (by (repeat (refine Is.ne ?_ (by omega))); first | assumption | exact Is.up (by omega)) (by omega) (by omega) ?_
        refine k_aload_n 48 dX9_next_47 rfl rfl rfl ?_
        refine k_get 51 dX9_next_48 rfl fX9_next_43 (by (repeat (refine Is.ne ?_ (by omega))); first | assumption | exact Is.up (by omega)) (by rfl) ?_
        refine k_iload_n 52 dX9_next_51 rfl rfl rfl ?_
        refine k_ialdN 53 dX9_next_52 rfl (by (repeat (refine Is.ne ?_ (by omega))); first | assumption | exact Is.up (by omega)) (by omega) (by omega) ?_
        rw [o2 (z + 1) (by omega), o2 r (by omega)]
        refine k_icmp_geN 62 56 dX9_next_53 rfl rfl (by omega) (by omega) (fun c => ?_) (fun c => ?_)
        · simp only [hgh] at he
          rw [if_neg (by omega)] at he
          subst he
          exact hk
        · have hne : r ≠ z + 1 := fun q => by
            subst q
            omega
          refine k_iinc _ _ 59 dX9_next_56 rfl rfl (nI_dec _) (by decide) rfl rfl ?_
          refine k_goto 41 dX9_next_59 rfl ?_
          simp only [hgh] at he
          rw [if_pos (by omega)] at he
          exact ih (by omega) (by omega) he hk
    refine loop2 (L - 1) (Nat.le_refl _) (by omega) hZ ?_
    clear loop2
    generalize hzZ : Z = z at *
    refine k_aload_n 63 dX9_next_62 rfl rfl rfl ?_
    refine k_get 66 dX9_next_63 rfl fX9_next_43 (by (repeat (refine Is.ne ?_ (by omega))); first | assumption | exact Is.up (by omega)) (by rfl) ?_
    refine k_iload_n 67 dX9_next_66 rfl rfl rfl ?_
    refine k_ialdN 68 dX9_next_67 rfl (by (repeat (refine Is.ne ?_ (by omega))); first | assumption | exact Is.up (by omega)) (by omega) (by omega) ?_
    rw [o2 r (by omega)]
    refine k_istore _ 70 dX9_next_68 rfl (by decide) rfl rfl ?_
    refine k_aload_n 71 dX9_next_70 rfl rfl rfl ?_
    refine k_get 74 dX9_next_71 rfl fX9_next_43 (by (repeat (refine Is.ne ?_ (by omega))); first | assumption | exact Is.up (by omega)) (by rfl) ?_
    refine k_iload_n 75 dX9_next_74 rfl rfl rfl ?_
    refine k_aload_n 76 dX9_next_75 rfl rfl rfl ?_
    refine k_get 79 dX9_next_76 rfl fX9_next_43 (by (repeat (refine Is.ne ?_ (by omega))); first | assumption | exact Is.up (by omega)) (by rfl) ?_
    refine k_iload_n 80 dX9_next_79 rfl rfl rfl ?_
    refine k_ialdN 81 dX9_next_80 rfl (by (repeat (refine Is.ne ?_ (by omega))); first | assumption | exact Is.up (by omega)) (by omega) (by omega) ?_
    rw [o2 z (by omega)]
    refine k_iastN 82 dX9_next_81 rfl (by (repeat (refine Is.ne ?_ (by omega))); first | assumption | exact Is.up (by omega)) (by omega) (by omega) ?_
    refine k_aload_n 83 dX9_next_82 rfl rfl rfl ?_
    refine k_get 86 dX9_next_83 rfl fX9_next_43 (by (repeat (refine Is.ne ?_ (by omega))); first | assumption | exact Is.up (by omega)) (by rfl) ?_
    refine k_iload_n 87 dX9_next_86 rfl rfl rfl ?_
    refine k_iload 89 dX9_next_87 rfl rfl ?_
    refine k_iastN 90 dX9_next_89 rfl (by (repeat (refine Is.ne ?_ (by omega))); first | assumption | exact Is.up (by omega)) (by omega) (by omega) ?_
    refine k_iload_n 91 dX9_next_90 rfl rfl rfl ?_
    refine k_iconst (nI 1) 92 dX9_next_91 rfl kc_1 ?_
    first | refine k_iaddE _ 93 dX9_next_92 rfl (nI_add _ _) ?_ | refine k_iadd 93 dX9_next_92 rfl ?_
    refine k_istore _ 95 dX9_next_93 rfl (by decide) rfl rfl ?_
    refine k_iload_n 96 dX9_next_95 rfl rfl rfl ?_
    refine k_iconst (nI 1) 97 dX9_next_96 rfl kc_1 ?_
    first | refine k_isubE _ 98 dX9_next_97 rfl (pk_sub (by omega)) ?_ | refine k_isub 98 dX9_next_97 rfl ?_
    refine k_istore _ 100 dX9_next_98 rfl (by decide) rfl rfl ?_
    rw [va_up_up]
    have loop3 : ∀ d lo hi (g : Nat → Nat) (r3 : Nat → Int32) (L4 : Option Value), hi < L → hi ≤ lo + d → lo ≤ 20 → (∀ k, k < L → r3 k = nI (g k)) → rvs g d lo hi = rvs (swp f r z) L (r + 1) (L - 1) → KRun G jX9_next N (fun r1 w1 => r1 = some (.int (bI (some (rvs (swp f r z) L (r + 1) (L - 1))).isSome)) ∧ ∃ ro1 : Nat → Int32, w1 = va_up w (b + 12) (ia G 7 ro1) ∧ ∀ k, k < L → ro1 k = nI (((some (rvs (swp f r z) L (r + 1) (L - 1))).getD f) k)) 100 [some (rf G b), some (.int (nI L)), some (.int (nI r)), some (.int (nI z)), L4, some (.int (nI lo)), some (.int (nI hi))] [] 0 0 (va_up w (b + 12) (ia G 7 r3)) := by
      intro d
      induction d with
      | zero =>
        intro lo hi g r3 L4 b1 b2 b3 hO he
        refine k_iload 102 dX9_next_100 rfl rfl ?_
        refine k_iload 104 dX9_next_102 rfl rfl ?_
        refine k_icmp_geN 148 107 dX9_next_104 rfl rfl (by omega) (by omega) (fun c => ?_) (fun c => ?_)
        · refine k_iconst (nI 1) 149 dX9_next_148 rfl kc_1 ?_
          refine k_zret dX9_next_149 rfl rfl rfl (Nat.le_of_ble_eq_true rfl) ⟨rfl, r3, rfl, by rw [← he]; exact hO⟩
        · omega
      | succ d ih =>
        intro lo hi g r3 L4 b1 b2 b3 hO he
        refine k_iload 102 dX9_next_100 rfl rfl ?_
        refine k_iload 104 dX9_next_102 rfl rfl ?_
        refine k_icmp_geN 148 107 dX9_next_104 rfl rfl (by omega) (by omega) (fun c => ?_) (fun c => ?_)
        · refine k_iconst (nI 1) 149 dX9_next_148 rfl kc_1 ?_
          simp only [rvs] at he
          rw [if_neg (by omega)] at he
          refine k_zret dX9_next_149 rfl rfl rfl (Nat.le_of_ble_eq_true rfl) ⟨rfl, r3, rfl, by rw [← he]; exact hO⟩
        · simp only [rvs] at he
          rw [if_pos (by omega)] at he
          obtain ⟨hi2, rfl⟩ : ∃ q, hi = q + 1 := ⟨hi - 1, by omega⟩
          refine k_aload_n 108 dX9_next_107 rfl rfl rfl ?_
          refine k_get 111 dX9_next_108 rfl fX9_next_43 (by (repeat (refine Is.ne ?_ (by omega))); first | assumption | exact Is.up (by omega)) (by rfl) ?_
          refine k_iload 113 dX9_next_111 rfl rfl ?_
          refine k_ialdN 114 dX9_next_113 rfl (by (repeat (refine Is.ne ?_ (by omega))); first | assumption | exact Is.up (by omega)) (by omega) (by omega) ?_
          rw [hO lo (by omega)]
          refine k_istore _ 116 dX9_next_114 rfl (by decide) rfl rfl ?_
          refine k_aload_n 117 dX9_next_116 rfl rfl rfl ?_
          refine k_get 120 dX9_next_117 rfl fX9_next_43 (by (repeat (refine Is.ne ?_ (by omega))); first | assumption | exact Is.up (by omega)) (by rfl) ?_
          refine k_iload 122 dX9_next_120 rfl rfl ?_
          refine k_aload_n 123 dX9_next_122 rfl rfl rfl ?_
          refine k_get 126 dX9_next_123 rfl fX9_next_43 (by (repeat (refine Is.ne ?_ (by omega))); first | assumption | exact Is.up (by omega)) (by rfl) ?_
          refine k_iload 128 dX9_next_126 rfl rfl ?_
          refine k_ialdN 129 dX9_next_128 rfl (by (repeat (refine Is.ne ?_ (by omega))); first | assumption | exact Is.up (by omega)) (by omega) (by omega) ?_
          rw [hO (hi2 + 1) (by omega)]
          refine k_iastN 130 dX9_next_129 rfl (by (repeat (refine Is.ne ?_ (by omega))); first | assumption | exact Is.up (by omega)) (by omega) (by omega) ?_
          refine k_aload_n 131 dX9_next_130 rfl rfl rfl ?_
          refine k_get 134 dX9_next_131 rfl fX9_next_43 (by (repeat (refine Is.ne ?_ (by omega))); first | assumption | exact Is.up (by omega)) (by rfl) ?_
          refine k_iload 136 dX9_next_134 rfl rfl ?_
          refine k_iload 138 dX9_next_136 rfl rfl ?_
          refine k_iastN 139 dX9_next_138 rfl (by (repeat (refine Is.ne ?_ (by omega))); first | assumption | exact Is.up (by omega)) (by omega) (by omega) ?_
          refine k_iinc _ _ 142 dX9_next_139 rfl rfl (nI_inc _) (by decide) rfl rfl ?_
          refine k_iinc _ _ 145 dX9_next_142 rfl rfl (nI_dec _) (by decide) rfl rfl ?_
          refine k_goto 100 dX9_next_145 rfl ?_
          rw [va_up_up, va_up_up]
          exact ih (lo + 1) hi2 _ _ _ (by omega) (by omega) (by omega) (upd_nI (upd_nI hO _ _) _ _) he
    exact loop3 L (r + 1) (L - 1) (swp f r z) _ _ (by omega) (by omega) (by omega) (upd_nI (upd_nI o2 _ _) _ _) rfl
  have loop1 : ∀ r, r ≤ L - 1 → (0 < L) → pv f r = pv f (L - 1) → KRun G jX9_next N (fun r w1 => r = some (.int (bI (nxt L f).isSome)) ∧ ∃ ro1 : Nat → Int32, w1 = va_up w (b + 12) (ia G 7 ro1) ∧ ∀ k, k < L → ro1 k = nI (((nxt L f).getD f) k)) 4 [some (rf G b), some (.int (nI L)), some (.int (rI r)), none, none, none, none] [] 0 0 w := by
    intro r
    induction r with
    | zero =>
      intro hr hL0 he
      refine k_iload_n 5 dX9_next_4 rfl rfl rfl ?_
      refine k_if_lt 31 8 dX9_next_5 rfl rfl (fun c => ?_) (fun c => ?_)
      · exact none_ _ c he.symm
      · exact absurd (show rI 0 < 0 by decide) c
    | succ r ih =>
      intro hr hL0 he
      have v1 := hv (r + 1) (by omega)
      have v2 := hv r (by omega)
      refine k_loc [some (rf G b), some (.int (nI L)), some (.int (nI r)), none, none, none, none] ⟨rfl, rfl, rfl, trivial⟩ rfl ?_
      refine k_iload_n 5 dX9_next_4 rfl rfl rfl ?_
      refine k_if_ltN 31 8 dX9_next_5 rfl rfl (by omega) (fun c => ?_) (fun c => ?_)
      · omega
      refine k_aload_n 9 dX9_next_8 rfl rfl rfl ?_
      refine k_get 12 dX9_next_9 rfl fX9_next_43 (by (repeat (refine Is.ne ?_ (by omega))); first | assumption | exact Is.up (by omega)) (by rfl) ?_
      refine k_iload_n 13 dX9_next_12 rfl rfl rfl ?_
      refine k_ialdN 14 dX9_next_13 rfl (by (repeat (refine Is.ne ?_ (by omega))); first | assumption | exact Is.up (by omega)) (by omega) (by omega) ?_
      refine k_aload_n 15 dX9_next_14 rfl rfl rfl ?_
      refine k_get 18 dX9_next_15 rfl fX9_next_43 (by (repeat (refine Is.ne ?_ (by omega))); first | assumption | exact Is.up (by omega)) (by rfl) ?_
      refine k_iload_n 19 dX9_next_18 rfl rfl rfl ?_
      refine k_iconst (nI 1) 20 dX9_next_19 rfl kc_1 ?_
      first | refine k_iaddE _ 21 dX9_next_20 rfl (nI_add _ _) ?_ | refine k_iadd 21 dX9_next_20 rfl ?_
      refine k_ialdN 22 dX9_next_21 rfl (by (repeat (refine Is.ne ?_ (by omega))); first | assumption | exact Is.up (by omega)) (by omega) (by omega) ?_
      rw [o2 r (by omega), o2 (r + 1) (by omega)]
      refine k_icmp_leN 31 25 dX9_next_22 rfl rfl (by omega) (by omega) (fun c => ?_) (fun c => ?_)
      · simp only [pv] at he
        rw [if_neg (by omega)] at he
        exact some_ r he.symm
      · simp only [pv] at he
        rw [if_pos (by omega)] at he
        refine k_iinc _ _ 28 dX9_next_25 rfl rfl (rI_dec r) (by decide) rfl rfl ?_
        refine k_goto 4 dX9_next_28 rfl ?_
        exact ih (by omega) hL0 he
  by_cases hL0 : L = 0
  · subst hL0
    refine k_iload_n 1 dX9_next_0 rfl rfl rfl ?_
    refine k_iconst (nI 2) 2 dX9_next_1 rfl kc_2 ?_
    refine k_isubE _ 3 dX9_next_2 rfl (show nI 0 - nI 2 = -2 by decide) ?_
    refine k_istore_n _ 4 dX9_next_3 rfl rfl (by decide) rfl rfl ?_
    refine k_iload_n 5 dX9_next_4 rfl rfl rfl ?_
    refine k_if_lt 31 8 dX9_next_5 rfl rfl (fun c => ?_) (fun c => ?_)
    · exact none_ _ c rfl
    · exact absurd (show (-2 : Int32) < 0 by decide) c
  · obtain ⟨q, rfl⟩ : ∃ q, L = q + 1 := ⟨L - 1, by omega⟩
    refine k_iload_n 1 dX9_next_0 rfl rfl rfl ?_
    refine k_iconst (nI 2) 2 dX9_next_1 rfl kc_2 ?_
    refine k_isubE _ 3 dX9_next_2 rfl (rI_sub q) ?_
    refine k_istore_n _ 4 dX9_next_3 rfl rfl (by decide) rfl rfl ?_
    exact loop1 q (Nat.le_refl _) (by omega) rfl
