/-! Sightings: all orders, all kinds -/
def sof (M : Mo) : Nat → Nat × (Nat → Nat)
  | 0 => (0, fun _ => 0)
  | p + 1 => if (plc M p).isSome = true then ((sof M p).1 + 1, sf (sof M p).2 (sof M p).1 p) else sof M p
theorem sof_ok (M : Mo) : ∀ p, (sof M p).1 ≤ p ∧ (∀ k, k < (sof M p).1 → (sof M p).2 k < p ∧ (plc M ((sof M p).2 k)).isSome = true) ∧ (∀ i j, i < j → j < (sof M p).1 → (sof M p).2 i < (sof M p).2 j) ∧ ∀ q, q < p → (plc M q).isSome = true → ∃ k, k < (sof M p).1 ∧ (sof M p).2 k = q := by
  intro p
  induction p with
  | zero => exact ⟨Nat.le_refl _, fun k hk => absurd hk (Nat.not_lt_zero _), fun i j _ hj => absurd hj (Nat.not_lt_zero _), fun q hq => absurd hq (Nat.not_lt_zero _)⟩
  | succ p ih =>
    obtain ⟨i1, i2, i3, i4⟩ := ih
    by_cases e : (plc M p).isSome = true
    · have es : sof M (p + 1) = ((sof M p).1 + 1, sf (sof M p).2 (sof M p).1 p) := by
        simp only [sof]
        rw [if_pos e]
      rw [es]
      refine ⟨by show (sof M p).1 + 1 ≤ p + 1; omega, fun k hk => ?_, fun i j hi hj => ?_, fun q hq hs => ?_⟩
      · by_cases e2 : k = (sof M p).1
        · subst e2
          dsimp only
          rw [sf_s]
          exact ⟨by omega, e⟩
        · dsimp only at hk ⊢
          rw [sf_n _ _ e2]
          have := i2 k (by omega)
          exact ⟨by omega, this.2⟩
      · dsimp only at hj ⊢
        by_cases e2 : j = (sof M p).1
        · subst e2
          rw [sf_s, sf_n _ _ (by omega)]
          exact (i2 i hi).1
        · rw [sf_n _ _ e2, sf_n _ _ (by omega)]
          exact i3 i j hi (by omega)
      · dsimp only
        by_cases e2 : q = p
        · subst e2
          exact ⟨_, Nat.lt_succ_self _, sf_s _ _ _⟩
        · obtain ⟨k, hk, e3⟩ := i4 q (by omega) hs
          exact ⟨k, by omega, by rw [sf_n _ _ (by omega)]; exact e3⟩
    · have es : sof M (p + 1) = sof M p := by
        simp only [sof]
        rw [if_neg e]
      rw [es]
      refine ⟨by omega, fun k hk => ?_, i3, fun q hq hs => ?_⟩
      · have := i2 k hk
        exact ⟨by omega, this.2⟩
      · by_cases e2 : q = p
        · subst e2
          exact absurd hs e
        · exact i4 q (by omega) hs
def ordOK (M : Mo) (f : Nat → Nat) : Prop := dst (mL M) f ∧ ∀ p, (∃ k, k < mL M ∧ f k = p) ↔ ∃ k, k < mL M ∧ mQ M k = p
theorem plc_is {n : Nat} {M : Mo} (h : mOK n M) (p : Nat) : (plc M p).isSome = true ↔ ∃ k, k < mL M ∧ mQ M k = p := by
  constructor
  · intro e
    cases e2 : plc M p with
    | none => rw [e2] at e; cases e
    | some k => exact ⟨k, plc_some e2⟩
  · rintro ⟨k, hk, e⟩
    rw [ok_plc h hk e]
    rfl
theorem sof_all {n : Nat} {M : Mo} (h : mOK n M) : (sof M n).1 = mL M ∧ ordOK M (sof M n).2 := by
  obtain ⟨s1, s2, s3, s4⟩ := sof_ok M n
  have hd : dst (sof M n).1 (sof M n).2 := fun i j hi hj e => by
    by_cases h1 : i < j
    · have := s3 i j h1 hj
      omega
    · by_cases h2 : j < i
      · have := s3 j i h2 hi
        omega
      · omega
  have hm : ∀ p, (∃ k, k < (sof M n).1 ∧ (sof M n).2 k = p) ↔ ∃ k, k < mL M ∧ mQ M k = p := fun p => by
    constructor
    · rintro ⟨k, hk, e⟩
      have := (plc_is h _).mp (s2 k hk).2
      rwa [e] at this
    · rintro ⟨k, hk, e⟩
      have hp := h.2.2.1 k hk
      exact s4 p (by omega) ((plc_is h p).mpr ⟨k, hk, e⟩)
  have hl : (sof M n).1 = mL M := by
    have le : ∀ (A B : Nat) (f g : Nat → Nat), dst A f → (∀ k, k < A → ∃ j, j < B ∧ g j = f k) → A ≤ B := by
      intro A B f g h1 h2
      have hch : ∀ k, ∃ j, k < A → j < B ∧ g j = f k := fun k => by
        by_cases hk : k < A
        · obtain ⟨j, hj⟩ := h2 k hk
          exact ⟨j, fun _ => hj⟩
        · exact ⟨0, fun z => absurd z hk⟩
      refine php B A (fun k => Classical.choose (hch k)) (fun k hk => (Classical.choose_spec (hch k) hk).1) (fun i j hi hj e => ?_)
      have a1 := (Classical.choose_spec (hch i) hi).2
      have a2 := (Classical.choose_spec (hch j) hj).2
      have e : Classical.choose (hch i) = Classical.choose (hch j) := e
      rw [e, a2] at a1
      exact h1 i j hi hj a1.symm
    have b1 := le (sof M n).1 (mL M) (sof M n).2 (mQ M) hd (fun k hk => (hm _).mp ⟨k, hk, rfl⟩)
    have b2 := le (mL M) (sof M n).1 (mQ M) (sof M n).2 (fun i j hi hj e => h.2.2.2.1 i j hi hj e) (fun k hk => (hm _).mpr ⟨k, hk, rfl⟩)
    omega
  exact ⟨hl, by rw [← hl]; exact hd, fun p => by rw [← hm p, hl]⟩
def setQ (M : Mo) (f : Nat → Nat) : Mo := (mG M, mL M, f, mW M, mP M, mD M)
theorem ordOK_lt {n : Nat} {M : Mo} {f : Nat → Nat} (h : mOK n M) (ho : ordOK M f) : ∀ k, k < mL M → f k < n := fun k hk => by
  obtain ⟨j, hj, e⟩ := (ho.2 (f k)).mp ⟨k, hk, rfl⟩
  have := h.2.2.1 j hj
  omega
theorem ok_setQ {n : Nat} {M : Mo} {f : Nat → Nat} (h : mOK n M) (ho : ordOK M f) : mOK n (setQ M f) := by
  have hl := ordOK_lt h ho
  obtain ⟨a1, a2, a3, a4, a5, a6, a7, a8, a9⟩ := h
  refine ⟨a1, a2, hl, ho.1, fun p hp => ⟨(a5 p hp).1, ?_⟩, a6, a7, a8, a9⟩
  exact (a5 p hp).2.trans (ho.2 p).symm
theorem ordOK_nxt {M : Mo} {f g : Nat → Nat} (ho : ordOK M f) (h : nxt (mL M) f = some g) : ordOK M g := by
  obtain ⟨⟨_, _, p3, p4⟩, -⟩ := nxt_pr ho.1 h
  exact ⟨p3 ho.1, fun p => (p4 p).trans (ho.2 p)⟩
def soP (K : Nat → Nt) (m : Nat) (F : Fo) (M : Mo) (f : Nat → Nat) : Bool := soK K m none F (setQ M f)
theorem c_X7_startOrders {G : KG} {N : Nat} {w : WD} {a fo b m n : Nat} {M : Mo} {F : Fo} (h : Is N w a (SiX G a fo b m)) (hF : FkM G N w fo F) (hca : fo + 4 ≤ a) (hM : ScM G N w b n M) (hba : b + 5 ≤ a) (hO : mOK n M) (hn : n = oN F) (ho : OdM G N w a 0 (fun _ => 0)) : KCon G jX7_startOrders N w [rf G a] (fun r w1 => r = none ∧ OdM G N w1 a (sof M n).1 (sof M n).2 ∧ Eqx w w1 (a + 1) (a + 2)) := by
  have hn7 := hO.2.1
  have hL7 := ok_l7 hO
  have hQ := ok_q7 hO
  refine KCon.of ([some (rf G a), none, none]) (by decide) rfl (by simp [Value.category]) (Nat.le_of_ble_eq_true rfl) rfl ?_
  refine k_iconst (nI 0) 1 dX7_startOrders_0 rfl kc_0 ?_
  refine k_istore_n _ 2 dX7_startOrders_1 rfl rfl (by decide) rfl rfl ?_
  refine k_iconst (nI 0) 3 dX7_startOrders_2 rfl kc_0 ?_
  refine k_istore_n _ 4 dX7_startOrders_3 rfl rfl (by decide) rfl rfl ?_
  have loop : ∀ d p (w1 : WD), p + d = n → OdM G N w1 a (sof M p).1 (sof M p).2 → Eqx w w1 (a + 1) (a + 2) → KRun G jX7_startOrders N (fun r w1 => r = none ∧ OdM G N w1 a (sof M n).1 (sof M n).2 ∧ Eqx w w1 (a + 1) (a + 2)) 4 [some (rf G a), some (.int (nI (sof M p).1)), some (.int (nI p))] [] 0 0 w1 := by
    intro d
    induction d with
    | zero =>
      intro p w1 hp hD hE
      have h1 := h.eqx hE (by omega)
      obtain ⟨kd, wo, pe, ⟨f0, -⟩, -⟩ := hF.fr hE (by omega)
      refine k_iload_n 5 dX7_startOrders_4 rfl rfl rfl ?_
      refine k_aload_n 6 dX7_startOrders_5 rfl rfl rfl ?_
      refine k_get 9 dX7_startOrders_6 rfl fX7_startOrders_38 (by (repeat (refine Is.ne ?_ (by omega))); first | assumption | exact Is.up (by omega)) (by rfl) ?_
      refine k_get 12 dX7_startOrders_9 rfl fX7_startOrders_82 (by (repeat (refine Is.ne ?_ (by omega))); first | assumption | exact Is.up (by omega)) (by rfl) ?_
      refine k_icmp_geN 44 15 dX7_startOrders_12 rfl rfl (by omega) (by omega) (fun c => ?_) (fun c => ?_)
      · refine k_vret dX7_startOrders_44 rfl rfl (Nat.le_of_ble_eq_true rfl) ⟨rfl, by rw [show n = p by omega]; exact hD, hE⟩
      · omega
    | succ d ih =>
      intro p w1 hp hD hE
      have h1 := h.eqx hE (by omega)
      have hM1 := hM.fr hE (by omega)
      obtain ⟨kd, wo, pe, ⟨f0, -⟩, -⟩ := hF.fr hE (by omega)
      obtain ⟨l2, wh2, pu2, db2, ⟨s0, -⟩, -⟩ := id hM1
      obtain ⟨i1, -⟩ := sof_ok M p
      refine k_iload_n 5 dX7_startOrders_4 rfl rfl rfl ?_
      refine k_aload_n 6 dX7_startOrders_5 rfl rfl rfl ?_
      refine k_get 9 dX7_startOrders_6 rfl fX7_startOrders_38 (by (repeat (refine Is.ne ?_ (by omega))); first | assumption | exact Is.up (by omega)) (by rfl) ?_
      refine k_get 12 dX7_startOrders_9 rfl fX7_startOrders_82 (by (repeat (refine Is.ne ?_ (by omega))); first | assumption | exact Is.up (by omega)) (by rfl) ?_
      refine k_icmp_geN 44 15 dX7_startOrders_12 rfl rfl (by omega) (by omega) (fun c => ?_) (fun c => ?_)
      · omega
      · refine k_aload_n 16 dX7_startOrders_15 rfl rfl rfl ?_
        refine k_get 19 dX7_startOrders_16 rfl fX7_startOrders_41 (by (repeat (refine Is.ne ?_ (by omega))); first | assumption | exact Is.up (by omega)) (by rfl) ?_
        refine k_iload_n 20 dX7_startOrders_19 rfl rfl rfl ?_
        refine k_V1 (ci := 3) 23 dX7_startOrders_20 rfl vX7_startOrders_83 (by (repeat (refine Is.ne ?_ (by omega))); first | assumption | exact Is.up (by omega)) rfl rfl (Nat.le_of_ble_eq_true rfl) rfl ⟨Nat.le_of_ble_eq_true rfl, Nat.le_of_ble_eq_true rfl⟩ (c_X4_isQueued hM1 hL7 hQ (by omega)) (fun r9 w9 h9 => ?_)
        obtain ⟨h8, h9⟩ := h9
        subst h8
        have h9 := h9.symm
        subst h9
        refine k_if_eqB 38 26 dX7_startOrders_23 rfl rfl (fun c9 => ?_) (fun c9 => ?_)
        · refine k_iinc _ _ 41 dX7_startOrders_38 rfl rfl (nI_inc _) (by decide) rfl rfl ?_
          refine k_goto 4 dX7_startOrders_41 rfl ?_
          have := ih (p + 1) w1 (by omega)
          simp only [sof, c9, if_neg Bool.false_ne_true] at this
          exact this hD hE
        · obtain ⟨od, o1, o2⟩ := hD
          refine k_aload_n 27 dX7_startOrders_26 rfl rfl rfl ?_
          refine k_get 30 dX7_startOrders_27 rfl fX7_startOrders_9 (by (repeat (refine Is.ne ?_ (by omega))); first | assumption | exact Is.up (by omega)) (by rfl) ?_
          refine k_iload_n 31 dX7_startOrders_30 rfl rfl rfl ?_
          refine k_iload_n 32 dX7_startOrders_31 rfl rfl rfl ?_
          refine k_S3 35 dX7_startOrders_32 rfl vX7_startOrders_48 (Nat.le_of_ble_eq_true rfl) rfl ⟨Nat.le_of_ble_eq_true rfl, Nat.le_of_ble_eq_true rfl⟩ (c_X3_put o1 (by omega) (by omega)) (fun r9 w9 h9 => ?_)
          obtain ⟨h8, h9⟩ := h9
          subst h8
          have h9 := h9.symm
          subst h9
          refine k_iinc _ _ 38 dX7_startOrders_35 rfl rfl (nI_inc _) (by decide) rfl rfl ?_
          refine k_iinc _ _ 41 dX7_startOrders_38 rfl rfl (nI_inc _) (by decide) rfl rfl ?_
          refine k_goto 4 dX7_startOrders_41 rfl ?_
          have := ih (p + 1) (va_up w1 (a + 1) (ia G 7 (upd od (sof M p).1 (nI p)))) (by omega)
          simp only [sof, c9, if_pos] at this
          refine this ⟨_, Is.up o1.1, fun k hk => ?_⟩ (by (repeat (refine Eqx.up ?_ (by omega) (by omega))); first | exact Eqx.rf | assumption)
          by_cases e : k = (sof M p).1
          · subst e
            rw [upd_s, sf_s]
          · rw [upd_n _ _ e, sf_n _ _ e]
            exact o2 k (by omega)
  exact loop n 0 w (by omega) ho Eqx.rf
