/-! Sightings: which kinds; one more -/
def kdF (F : Fo) (p k : Nat) : Fo := (oN F, oS F, sf (oK F) p k, oW F, oT F)
def fkd (K : Nat → Nt) (m : Nat) (F : Fo) (M : Mo) (p : Nat) : Nat → Nat
  | 0 => 0
  | k + 1 => fkd K m F M p k + (if soK K m (some p) (kdF F p k) M = true then 2 ^ k else 0)
theorem fkd_b {K : Nat → Nt} {m : Nat} {F : Fo} {M : Mo} {p : Nat} : ∀ k, fkd K m F M p k < 2 ^ k := by
  intro k
  induction k with
  | zero => exact Nat.zero_lt_one
  | succ k ih =>
    simp only [fkd, Nat.pow_succ]
    split <;> omega
theorem ok_kdF {F : Fo} (h : oOK F) {p k : Nat} (hk : k ≤ 3) : oOK (kdF F p k) := by
  refine ⟨h.1, h.2.1, fun q hq => ⟨?_, (h.2.2 q hq).2⟩⟩
  show sf (oK F) p k q ≤ 3
  simp only [sf]
  split
  · exact hk
  · exact (h.2.2 q hq).1
theorem or_sh : ∀ k, k < 4 → ∀ b, b < 2 ^ k → nI b ||| nI (2 ^ k) = nI (b + 2 ^ k) := by
  intro k hk b hb
  have h : k = 0 ∨ k = 1 ∨ k = 2 ∨ k = 3 := by omega
  rcases h with rfl | rfl | rfl | rfl <;> simp only [Nat.reducePow] at hb ⊢
  · have : b = 0 := by omega
    subst this
    decide
  · have : b = 0 ∨ b = 1 := by omega
    rcases this with rfl | rfl <;> decide
  · have : b = 0 ∨ b = 1 ∨ b = 2 ∨ b = 3 := by omega
    rcases this with rfl | rfl | rfl | rfl <;> decide
  · have : b = 0 ∨ b = 1 ∨ b = 2 ∨ b = 3 ∨ b = 4 ∨ b = 5 ∨ b = 6 ∨ b = 7 := by omega
    rcases this with rfl | rfl | rfl | rfl | rfl | rfl | rfl | rfl <;> decide
theorem c_X7_fittingKinds {G : KG} {N : Nat} {w : WD} {a fo b m n p : Nat} {K : Nat → Nt} {M : Mo} {F : Fo} (h : Is N w a (SiX G a fo b m)) (hK : SiK G N w a m K) (hF : FkM G N w fo F) (hca : fo + 4 ≤ a) (hM : ScM G N w b n M) (hba : b + 5 ≤ a) (hk : FkG G N w (a + 5)) (ht : TrG G N w (a + 9)) (hO : mOK n M) (hoF : oOK F) (hn : n = oN F) (hp : p < n) (hm : m ≤ 6) (hG : mG M + 400 < 2000) : KCon G jX7_fittingKinds N w [rf G a, .int (nI p)] (fun r w1 => r = some (.int (nI (fkd K m F M p 4))) ∧ FkG G N w1 (a + 5) ∧ TrG G N w1 (a + 9) ∧ Eqx w w1 (a + 5) (a + 14)) := by
  have hn7 := hO.2.1
  have hL7 := ok_l7 hO
  obtain ⟨kd0, wo0, pe0, num0, se0, hk0⟩ := hk
  obtain ⟨j0, -⟩ := id hk0
  refine KCon.of ([some (rf G a), some (.int (nI p)), none, none]) (by decide) rfl (by simp [Value.category]) (Nat.le_of_ble_eq_true rfl) rfl ?_
  refine k_iconst (nI 0) 1 dX7_fittingKinds_0 rfl kc_0 ?_
  refine k_istore_n _ 2 dX7_fittingKinds_1 rfl rfl (by decide) rfl rfl ?_
  refine k_aload_n 3 dX7_fittingKinds_2 rfl rfl rfl ?_
  refine k_get 6 dX7_fittingKinds_3 rfl fX7_fittingKinds_27 (by (repeat (refine Is.ne ?_ (by omega))); first | assumption | exact Is.up (by omega)) (by rfl) ?_
  refine k_aload_n 7 dX7_fittingKinds_6 rfl rfl rfl ?_
  refine k_get 10 dX7_fittingKinds_7 rfl fX7_fittingKinds_38 (by (repeat (refine Is.ne ?_ (by omega))); first | assumption | exact Is.up (by omega)) (by rfl) ?_
  refine k_V1 (ci := 1) 13 dX7_fittingKinds_10 rfl vX7_fittingKinds_76 (by (repeat (refine Is.ne ?_ (by omega))); first | assumption | exact Is.up (by omega)) rfl rfl (Nat.le_of_ble_eq_true rfl) rfl ⟨Nat.le_of_ble_eq_true rfl, Nat.le_of_ble_eq_true rfl⟩ (c_X1_copyFrom hk0 hF (by omega) (by omega)) (fun r1 w1 x1 => ?_)
  obtain ⟨rfl, hF1, hE1⟩ := x1
  refine k_iconst (nI 0) 14 dX7_fittingKinds_13 rfl kc_0 ?_
  refine k_istore_n _ 15 dX7_fittingKinds_14 rfl rfl (by decide) rfl rfl ?_
  have loop : ∀ d k (w1 : WD), k + d = 4 → (∃ kd wo pe, FkR G N w1 (a + 5) kd wo pe (oN F) (oS F) ∧ ∀ q, q < oN F → (q ≠ p → kd q = nI (oK F q)) ∧ wo q = nI (oW F q) ∧ pe q = nI (oT F q)) → TrG G N w1 (a + 9) → Eqx w w1 (a + 5) (a + 14) → KRun G jX7_fittingKinds N (fun r w1 => r = some (.int (nI (fkd K m F M p 4))) ∧ FkG G N w1 (a + 5) ∧ TrG G N w1 (a + 9) ∧ Eqx w w1 (a + 5) (a + 14)) 15 [some (rf G a), some (.int (nI p)), some (.int (nI (fkd K m F M p k))), some (.int (nI k))] [] 0 0 w1 := by
    intro d
    induction d with
    | zero =>
      intro k w1 hk hF1 hT hE
      refine k_iload_n 16 dX7_fittingKinds_15 rfl rfl rfl ?_
      refine k_iconst (nI 3) 17 dX7_fittingKinds_16 rfl kc_3 ?_
      refine k_icmp_gtN 67 20 dX7_fittingKinds_17 rfl rfl (by omega) (by omega) (fun c => ?_) (fun c => ?_)
      · refine k_iload_n 68 dX7_fittingKinds_67 rfl rfl rfl ?_
        obtain ⟨kd, wo, pe, hf, -⟩ := hF1
        refine k_iret dX7_fittingKinds_68 rfl rfl (Nat.le_of_ble_eq_true rfl) ⟨by rw [show k = 4 by omega], ⟨kd, wo, pe, _, _, hf⟩, hT, hE⟩
      · omega
    | succ d ih =>
      intro k w1 hk hF1 hT hE
      have h1 := h.eqx hE (by omega)
      have hM1 := hM.fr hE (by omega)
      obtain ⟨kd, wo, pe, ⟨f0, f1, f2, f3⟩, hr⟩ := hF1
      have hN := f3.1
      refine k_iload_n 16 dX7_fittingKinds_15 rfl rfl rfl ?_
      refine k_iconst (nI 3) 17 dX7_fittingKinds_16 rfl kc_3 ?_
      refine k_icmp_gtN 67 20 dX7_fittingKinds_17 rfl rfl (by omega) (by omega) (fun c => ?_) (fun c => ?_)
      · omega
      refine k_aload_n 21 dX7_fittingKinds_20 rfl rfl rfl ?_
      refine k_get 24 dX7_fittingKinds_21 rfl fX7_fittingKinds_27 (by (repeat (refine Is.ne ?_ (by omega))); first | assumption | exact Is.up (by omega)) (by rfl) ?_
      refine k_get 27 dX7_fittingKinds_24 rfl fX7_fittingKinds_79 (by (repeat (refine Is.ne ?_ (by omega))); first | assumption | exact Is.up (by omega)) (by rfl) ?_
      refine k_iload_n 28 dX7_fittingKinds_27 rfl rfl rfl ?_
      refine k_iload_n 29 dX7_fittingKinds_28 rfl rfl rfl ?_
      refine k_S3 32 dX7_fittingKinds_29 rfl vX7_fittingKinds_48 (Nat.le_of_ble_eq_true rfl) rfl ⟨Nat.le_of_ble_eq_true rfl, Nat.le_of_ble_eq_true rfl⟩ (c_X3_put f1 (by omega) (by omega)) (fun r9 w9 h9 => ?_)
      obtain ⟨h8, h9⟩ := h9
      subst h8
      have h9 := h9.symm
      subst h9
      refine k_nm (fun w2 hw2 => ?_)
      have hE2 : Eqx w1 w2 (a + 5) (a + 9) := by
        rw [hw2]
        exact (by (repeat (refine Eqx.up ?_ (by omega) (by omega))); first | exact Eqx.rf | assumption)
      have hR2 : FkR G N w2 (a + 5) (upd kd p (nI k)) wo pe (oN F) (oS F) := by
        rw [hw2]
        exact ⟨(by (repeat (refine Is.ne ?_ (by omega))); first | assumption | exact Is.up (by omega)), (by (repeat (refine Is.ne ?_ (by omega))); first | assumption | exact Is.up (by omega)), (by (repeat (refine Is.ne ?_ (by omega))); first | assumption | exact Is.up (by omega)), (by (repeat (refine Is.ne ?_ (by omega))); first | assumption | exact Is.up (by omega))⟩
      clear hw2
      have hF2 : FkM G N w2 (a + 5) (kdF F p k) := by
        refine ⟨_, _, _, hR2, fun q hq => ?_⟩
        refine ⟨?_, (hr q hq).2⟩
        show upd kd p (nI k) q = nI (sf (oK F) p k q)
        by_cases e : q = p
        · subst e
          rw [upd_s, sf_s]
        · rw [upd_n _ _ e, sf_n _ _ e]
          exact (hr q hq).1 e
      have h2 := h1.eqx hE2 (by omega)
      have hM2 := hM1.fr hE2 (by omega)
      obtain ⟨l, wh, pu, db, len, gone, hR⟩ := hT.fr hE2 (by omega)
      obtain ⟨s0, -⟩ := id hM2
      obtain ⟨t0, -⟩ := id hR
      refine k_aload_n 33 dX7_fittingKinds_32 rfl rfl rfl ?_
      refine k_get 36 dX7_fittingKinds_33 rfl fX7_fittingKinds_34 (by (repeat (refine Is.ne ?_ (by omega))); first | assumption | exact Is.up (by omega)) (by rfl) ?_
      refine k_aload_n 37 dX7_fittingKinds_36 rfl rfl rfl ?_
      refine k_get 40 dX7_fittingKinds_37 rfl fX7_fittingKinds_41 (by (repeat (refine Is.ne ?_ (by omega))); first | assumption | exact Is.up (by omega)) (by rfl) ?_
      refine k_V1 (ci := 3) 43 dX7_fittingKinds_40 rfl vX7_fittingKinds_57 (by (repeat (refine Is.ne ?_ (by omega))); first | assumption | exact Is.up (by omega)) rfl rfl (Nat.le_of_ble_eq_true rfl) rfl ⟨Nat.le_of_ble_eq_true rfl, Nat.le_of_ble_eq_true rfl⟩ (c_X4_copyFrom hR hM2 (by omega) hn7 hL7) (fun r3 w3 x3 => ?_)
      obtain ⟨rfl, hS3, hE3⟩ := x3
      have h3 := h2.eqx hE3 (by omega)
      have hF3 := hF2.fr hE3 (by omega)
      have hK3 : SiK G N w3 a m K := hK.fr (hE.tr ((hE2.wd (Nat.le_refl _) (by omega)).tr (hE3.wd (by omega) (Nat.le_refl _)))) (by omega)
      refine k_aload_n 44 dX7_fittingKinds_43 rfl rfl rfl ?_
      refine k_aload_n 45 dX7_fittingKinds_44 rfl rfl rfl ?_
      refine k_get 48 dX7_fittingKinds_45 rfl fX7_fittingKinds_27 (by (repeat (refine Is.ne ?_ (by omega))); first | assumption | exact Is.up (by omega)) (by rfl) ?_
      refine k_iload_n 49 dX7_fittingKinds_48 rfl rfl rfl ?_
      refine k_V2 (ci := 6) 52 dX7_fittingKinds_49 rfl vX7_fittingKinds_68 (by (repeat (refine Is.ne ?_ (by omega))); first | assumption | exact Is.up (by omega)) rfl rfl (Nat.le_of_ble_eq_true rfl) rfl ⟨Nat.le_of_ble_eq_true rfl, Nat.le_of_ble_eq_true rfl⟩ (c_X7_comesTrue (some p) h3 hK3 hF3 (by omega) hS3 hO (ok_kdF hoF (by omega)) hn hm (fun q e => by cases e; omega) hG) (fun r5 w5 x5 => ?_)
      obtain ⟨rfl, hT5, hE5⟩ := x5
      have hE35 : Eqx w2 w5 (a + 9) (a + 14) := hE3.tr hE5
      have hE6 : Eqx w w5 (a + 5) (a + 14) := hE.tr ((hE2.wd (Nat.le_refl _) (by omega)).tr (hE35.wd (by omega) (Nat.le_refl _)))
      have hR5 : FkR G N w5 (a + 5) (upd kd p (nI k)) wo pe (oN F) (oS F) := hR2.fr (fun j _ _ => hE35 j (by omega))
      have hr5 : ∀ q, q < oN F → (q ≠ p → upd kd p (nI k) q = nI (oK F q)) ∧ wo q = nI (oW F q) ∧ pe q = nI (oT F q) := fun q hq => ⟨fun e => by rw [upd_n _ _ e]; exact (hr q hq).1 e, (hr q hq).2⟩
      have hb := fkd_b (K := K) (m := m) (F := F) (M := M) (p := p) k
      have next : ∀ v : Nat, v = fkd K m F M p (k + 1) → KRun G jX7_fittingKinds N (fun r w1 => r = some (.int (nI (fkd K m F M p 4))) ∧ FkG G N w1 (a + 5) ∧ TrG G N w1 (a + 9) ∧ Eqx w w1 (a + 5) (a + 14)) 61 [some (rf G a), some (.int (nI p)), some (.int (nI v)), some (.int (nI k))] [] 0 0 w5 := by
        intro v hv
        subst hv
        refine k_iinc _ _ 64 dX7_fittingKinds_61 rfl rfl (nI_inc _) (by decide) rfl rfl ?_
        refine k_goto 15 dX7_fittingKinds_64 rfl ?_
        exact ih (k + 1) w5 (by omega) ⟨_, _, _, hR5, hr5⟩ hT5 hE6
      refine k_if_eqB 61 55 dX7_fittingKinds_52 rfl rfl (fun c9 => ?_) (fun c9 => ?_)
      · exact next _ (by simp only [fkd]; rw [c9]; rfl)
      · refine k_iload_n 56 dX7_fittingKinds_55 rfl rfl rfl ?_
        refine k_iconst (nI 1) 57 dX7_fittingKinds_56 rfl kc_1 ?_
        refine k_iload_n 58 dX7_fittingKinds_57 rfl rfl rfl ?_
        refine k_ishlE _ 59 dX7_fittingKinds_58 rfl (one_sh k (by omega)) ?_
        refine k_iorE _ 60 dX7_fittingKinds_59 rfl (or_sh k (by omega) _ hb) ?_
        refine k_istore_n _ 61 dX7_fittingKinds_60 rfl rfl (by decide) rfl rfl ?_
        exact next _ (by simp only [fkd]; rw [if_pos c9])
  refine loop 4 0 w1 rfl ?_ (ht.fr hE1 (by omega)) (hE1.wd (Nat.le_refl _) (by omega))
  obtain ⟨kd, wo, pe, hR, hr⟩ := hF1
  exact ⟨kd, wo, pe, hR, fun q hq => ⟨fun _ => (hr q hq).1, (hr q hq).2⟩⟩
theorem c_X7_add {G : KG} {N : Nat} {w : WD} {a fo b m p t v : Nat} {K : Nat → Nt} (h : Is N w a (SiX G a fo b m)) (hK : SiK G N w a m K) (hm : m < 6) (hp : p < 7) (ht : 1 ≤ t) (ht2 : t ≤ 20) (hv : v ≤ 400000) : KCon G jX7_add N w [rf G a, .int (nI p), .int (nI t), .int (iZ ((v : Int) - 200000))] (fun r w1 => r = none ∧ Is N w1 a (SiX G a fo b (m + 1)) ∧ SiK G N w1 a (m + 1) (fun i => if i = m then (p, t, v) else K i) ∧ w1 (a + 1) = w (a + 1) ∧ Eqx w w1 a (a + 5)) := by
  obtain ⟨ps, mi, du, h1, h2, h3, h4⟩ := hK
  have hN := h3.1
  refine KCon.of ([some (rf G a), some (.int (nI p)), some (.int (nI t)), some (.int (iZ ((v : Int) - 200000)))]) (by decide) rfl (by simp [Value.category]) (Nat.le_of_ble_eq_true rfl) rfl ?_
  refine k_aload_n 1 dX7_add_0 rfl rfl rfl ?_
  refine k_get 4 dX7_add_1 rfl fX7_add_15 (by (repeat (refine Is.ne ?_ (by omega))); first | assumption | exact Is.up (by omega)) (by rfl) ?_
  refine k_aload_n 5 dX7_add_4 rfl rfl rfl ?_
  refine k_get 8 dX7_add_5 rfl fX7_add_44 (by (repeat (refine Is.ne ?_ (by omega))); first | assumption | exact Is.up (by omega)) (by rfl) ?_
  refine k_iload_n 9 dX7_add_8 rfl rfl rfl ?_
  refine k_S3 12 dX7_add_9 rfl vX7_add_48 (Nat.le_of_ble_eq_true rfl) rfl ⟨Nat.le_of_ble_eq_true rfl, Nat.le_of_ble_eq_true rfl⟩ (c_X3_put (by (repeat (refine Is.ne ?_ (by omega))); first | assumption | exact Is.up (by omega)) (by omega) (by omega)) (fun r9 w9 h9 => ?_)
  obtain ⟨h8, h9⟩ := h9
  subst h8
  have h9 := h9.symm
  subst h9
  refine k_aload_n 13 dX7_add_12 rfl rfl rfl ?_
  refine k_get 16 dX7_add_13 rfl fX7_add_18 (by (repeat (refine Is.ne ?_ (by omega))); first | assumption | exact Is.up (by omega)) (by rfl) ?_
  refine k_aload_n 17 dX7_add_16 rfl rfl rfl ?_
  refine k_get 20 dX7_add_17 rfl fX7_add_44 (by (repeat (refine Is.ne ?_ (by omega))); first | assumption | exact Is.up (by omega)) (by rfl) ?_
  refine k_iload_n 21 dX7_add_20 rfl rfl rfl ?_
  refine k_S3 24 dX7_add_21 rfl vX7_add_48 (Nat.le_of_ble_eq_true rfl) rfl ⟨Nat.le_of_ble_eq_true rfl, Nat.le_of_ble_eq_true rfl⟩ (c_X3_put (by (repeat (refine Is.ne ?_ (by omega))); first | assumption | exact Is.up (by omega)) (by omega) (by omega)) (fun r9 w9 h9 => ?_)
  obtain ⟨h8, h9⟩ := h9
  subst h8
  have h9 := h9.symm
  subst h9
  refine k_aload_n 25 dX7_add_24 rfl rfl rfl ?_
  refine k_get 28 dX7_add_25 rfl fX7_add_21 (by (repeat (refine Is.ne ?_ (by omega))); first | assumption | exact Is.up (by omega)) (by rfl) ?_
  refine k_aload_n 29 dX7_add_28 rfl rfl rfl ?_
  refine k_get 32 dX7_add_29 rfl fX7_add_44 (by (repeat (refine Is.ne ?_ (by omega))); first | assumption | exact Is.up (by omega)) (by rfl) ?_
  refine k_iload_n 33 dX7_add_32 rfl rfl rfl ?_
  refine k_S3 36 dX7_add_33 rfl vX7_add_48 (Nat.le_of_ble_eq_true rfl) rfl ⟨Nat.le_of_ble_eq_true rfl, Nat.le_of_ble_eq_true rfl⟩ (c_X3_put (by (repeat (refine Is.ne ?_ (by omega))); first | assumption | exact Is.up (by omega)) (by omega) (by omega)) (fun r9 w9 h9 => ?_)
  obtain ⟨h8, h9⟩ := h9
  subst h8
  have h9 := h9.symm
  subst h9
  refine k_aload_n 37 dX7_add_36 rfl rfl rfl ?_
  refine k_dup 38 dX7_add_37 rfl rfl ?_
  refine k_get 41 dX7_add_38 rfl fX7_add_44 (by (repeat (refine Is.ne ?_ (by omega))); first | assumption | exact Is.up (by omega)) (by rfl) ?_
  refine k_iconst (nI 1) 42 dX7_add_41 rfl kc_1 ?_
  first | refine k_iaddE _ 43 dX7_add_42 rfl (nI_add _ _) ?_ | refine k_iadd 43 dX7_add_42 rfl ?_
  refine k_put 46 dX7_add_43 rfl pX7_add_44 (by (repeat (refine Is.ne ?_ (by omega))); first | assumption | exact Is.up (by omega)) (Nat.le_of_ble_eq_true rfl) rfl rfl ?_
  refine k_vret dX7_add_46 rfl rfl (Nat.le_of_ble_eq_true rfl) ⟨rfl, Is.up (by omega), ⟨_, _, _, (by (repeat (refine Is.ne ?_ (by omega))); first | assumption | exact Is.up (by omega)), (by (repeat (refine Is.ne ?_ (by omega))); first | assumption | exact Is.up (by omega)), (by (repeat (refine Is.ne ?_ (by omega))); first | assumption | exact Is.up (by omega)), fun i hi => ?_⟩, ?_, (by (repeat (refine Eqx.up ?_ (by omega) (by omega))); first | exact Eqx.rf | assumption)⟩
  · by_cases e : i = m
    · subst e
      rw [upd_s, upd_s, upd_s]
      simp only [if_pos]
      exact ⟨trivial, trivial, trivial, hp, ht, ht2, hv⟩
    · rw [upd_n _ _ e, upd_n _ _ e, upd_n _ _ e]
      simp only [if_neg e]
      exact h4 i (by omega)
  · rw [va_up_ne _ _ (by omega), va_up_ne _ _ (by omega), va_up_ne _ _ (by omega), va_up_ne _ _ (by omega)]
