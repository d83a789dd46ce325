/-! Sightings: how many orders, which kinds; one more -/
theorem cor_le (P : (Nat → Nat) → Bool) (L e : Nat) : ∀ d f c, (cor P L e d f c).1 ≤ c + d := by
  intro d
  induction d with
  | zero => intro f c; exact Nat.le_refl _
  | succ d ih =>
    intro f c
    simp only [cor]
    have hx : c + (if P f = true then 1 else 0) ≤ c + 1 := by
      split <;> omega
    generalize c + (if P f = true then 1 else 0) = x at *
    by_cases e1 : x < e
    · rw [if_pos e1]
      cases nxt L f with
      | none => exact Nat.le_trans hx (by omega)
      | some g => exact Nat.le_trans (ih g x) (by omega)
    · rw [if_neg e1]
      exact Nat.le_trans hx (by omega)
def FkG (G : KG) (N : Nat) (w : WD) (a : Nat) : Prop := ∃ kd wo pe num se, FkR G N w a kd wo pe num se
theorem FkM.g {G : KG} {N a : Nat} {w : WD} {F : Fo} (h : FkM G N w a F) : FkG G N w a := by
  obtain ⟨kd, wo, pe, h1, -⟩ := h
  exact ⟨kd, wo, pe, _, _, h1⟩
theorem FkG.fr {G : KG} {N a lo hi : Nat} {w w1 : WD} (h : FkG G N w a) (hE : Eqx w w1 lo hi) (hk : a + 4 ≤ lo ∨ hi ≤ a) : FkG G N w1 a := by
  obtain ⟨kd, wo, pe, num, se, h1⟩ := h
  exact ⟨kd, wo, pe, num, se, h1.fr (fun k _ _ => hE k (by omega))⟩
def SiP (G : KG) (N : Nat) (w : WD) (a m : Nat) (K : Nat → Nt) : Prop := SiK G N w a m K ∧ FkG G N w (a + 5)
theorem SiP.fr {G : KG} {N a m lo hi : Nat} {w w1 : WD} {K : Nat → Nt} (h : SiP G N w a m K) (hE : Eqx w w1 lo hi) (hk : a + 9 ≤ lo ∨ hi ≤ a + 2) : SiP G N w1 a m K := ⟨h.1.fr hE (by omega), h.2.fr hE (by omega)⟩
theorem c_X7_countOrders {G : KG} {N : Nat} {w : WD} {a fo b m n e : Nat} {K : Nat → Nt} {M : Mo} {F : Fo} (h : Is N w a (SiX G a fo b m)) (hK : SiP G N w a m K) (hF : FkM G N w fo F) (hca : fo + 4 ≤ a) (hM : ScM G N w b n M) (hba : b + 5 ≤ a) (ht : TrG G N w (a + 9)) (hD : ∃ od, Is N w (a + 1) (ia G 7 od)) (hO : mOK n M) (hoF : oOK F) (hn : n = oN F) (hm : m ≤ 6) (he : e < 6000) (hG : mG M + 400 < 2000) : KCon G jX7_countOrders N w [rf G a, .int (nI e)] (fun r w1 => r = some (.int (nI (cor (soP K m F M) (mL M) e 5040 (sof M n).2 0).1)) ∧ OdM G N w1 a (mL M) (cor (soP K m F M) (mL M) e 5040 (sof M n).2 0).2 ∧ SiP G N w1 a m K ∧ TrG G N w1 (a + 9) ∧ Eqx w w1 (a + 1) (a + 14)) := by
  have hn7 := hO.2.1
  have hL7 := ok_l7 hO
  obtain ⟨od0, o0⟩ := hD
  obtain ⟨hs1, hs2⟩ := sof_all hO
  refine KCon.of ([some (rf G a), some (.int (nI e)), none, none, none]) (by decide) rfl (by simp [Value.category]) (Nat.le_of_ble_eq_true rfl) rfl ?_
  refine k_iconst (nI 0) 1 dX7_countOrders_0 rfl kc_0 ?_
  refine k_istore_n _ 2 dX7_countOrders_1 rfl rfl (by decide) rfl rfl ?_
  refine k_iconst (nI 1) 3 dX7_countOrders_2 rfl kc_1 ?_
  refine k_istore_n _ 4 dX7_countOrders_3 rfl rfl (by decide) rfl rfl ?_
  refine k_aload_n 5 dX7_countOrders_4 rfl rfl rfl ?_
  refine k_V0 (ci := 6) 8 dX7_countOrders_5 rfl vX7_countOrders_54 (by (repeat (refine Is.ne ?_ (by omega))); first | assumption | exact Is.up (by omega)) rfl rfl (Nat.le_of_ble_eq_true rfl) rfl ⟨Nat.le_of_ble_eq_true rfl, Nat.le_of_ble_eq_true rfl⟩ (c_X7_startOrders h hF hca hM hba hO hn ⟨od0, o0, fun k hk => absurd hk (Nat.not_lt_zero _)⟩) (fun r1 w1 x1 => ?_)
  obtain ⟨rfl, hD1, hE1⟩ := x1
  rw [hs1] at hD1
  refine k_iconst (nI 0) 9 dX7_countOrders_8 rfl kc_0 ?_
  refine k_istore _ 11 dX7_countOrders_9 rfl (by decide) rfl rfl ?_
  generalize hT : cor (soP K m F M) (mL M) e 5040 (sof M n).2 0 = T
  have fin : ∀ i cc (w2 : WD), i < 5040 → T.1 = cc → OdM G N w2 a (mL M) T.2 → SiP G N w2 a m K → TrG G N w2 (a + 9) → Eqx w w2 (a + 1) (a + 14) → KRun G jX7_countOrders N (fun r w1 => r = some (.int (nI T.1)) ∧ OdM G N w1 a (mL M) T.2 ∧ SiP G N w1 a m K ∧ TrG G N w1 (a + 9) ∧ Eqx w w1 (a + 1) (a + 14)) 79 [some (rf G a), some (.int (nI e)), some (.int (nI cc)), some (.int (nI 1)), some (.int (nI i))] [] 0 0 w2 := by
    intro i cc w2 hi hc hD2 hK2 hT2 hE2
    subst hc
    refine k_iconst (nI 0) 80 dX7_countOrders_79 rfl kc_0 ?_
    refine k_istore_n _ 81 dX7_countOrders_80 rfl rfl (by decide) rfl rfl ?_
    refine k_iinc _ _ 84 dX7_countOrders_81 rfl rfl (nI_inc _) (by decide) rfl rfl ?_
    refine k_goto 11 dX7_countOrders_84 rfl ?_
    refine k_iload 13 dX7_countOrders_11 rfl rfl ?_
    refine k_sipush (nI 5040) 16 dX7_countOrders_13 rfl ks_5040 ?_
    refine k_icmp_geN 87 19 dX7_countOrders_16 rfl rfl (by omega) (by omega) (fun c => ?_) (fun c => ?_)
    · refine k_iload_n 88 dX7_countOrders_87 rfl rfl rfl ?_
      refine k_iret dX7_countOrders_88 rfl rfl (Nat.le_of_ble_eq_true rfl) ⟨rfl, hD2, hK2, hT2, hE2⟩
    · refine k_iload_n 20 dX7_countOrders_19 rfl rfl rfl ?_
      refine k_if_eqN 87 23 dX7_countOrders_20 rfl rfl (by omega) (fun c => ?_) (fun c => ?_)
      · refine k_iload_n 88 dX7_countOrders_87 rfl rfl rfl ?_
        refine k_iret dX7_countOrders_88 rfl rfl (Nat.le_of_ble_eq_true rfl) ⟨rfl, hD2, hK2, hT2, hE2⟩
      · omega
  have loop : ∀ d i cc f (w2 : WD), i + d = 5040 → cc ≤ i → ordOK M f → cor (soP K m F M) (mL M) e d f cc = T → OdM G N w2 a (mL M) f → SiP G N w2 a m K → TrG G N w2 (a + 9) → Eqx w w2 (a + 1) (a + 14) → KRun G jX7_countOrders N (fun r w1 => r = some (.int (nI T.1)) ∧ OdM G N w1 a (mL M) T.2 ∧ SiP G N w1 a m K ∧ TrG G N w1 (a + 9) ∧ Eqx w w1 (a + 1) (a + 14)) 11 [some (rf G a), some (.int (nI e)), some (.int (nI cc)), some (.int (nI 1)), some (.int (nI i))] [] 0 0 w2 := by
    intro d
    induction d with
    | zero =>
      intro i cc f w2 hi hc ho hcor hD2 hK2 hT2 hE2
      have hcor : (cc, f) = T := hcor
      subst hcor
      refine k_iload 13 dX7_countOrders_11 rfl rfl ?_
      refine k_sipush (nI 5040) 16 dX7_countOrders_13 rfl ks_5040 ?_
      refine k_icmp_geN 87 19 dX7_countOrders_16 rfl rfl (by omega) (by omega) (fun c => ?_) (fun c => ?_)
      · refine k_iload_n 88 dX7_countOrders_87 rfl rfl rfl ?_
        refine k_iret dX7_countOrders_88 rfl rfl (Nat.le_of_ble_eq_true rfl) ⟨rfl, hD2, hK2, hT2, hE2⟩
      · omega
    | succ d ih =>
      intro i cc f w2 hi hc ho hcor hD2 hK2 hT2 hE2
      have h2 := h.eqx hE2 (by omega)
      have hF2 := hF.fr hE2 (by omega)
      have hM2 := hM.fr hE2 (by omega)
      have hOf := ok_setQ hO ho
      have hlt := ordOK_lt hO ho
      obtain ⟨l, wh, pu, db, len, gone, hR⟩ := hT2
      obtain ⟨s0, -⟩ := id hM2
      obtain ⟨t0, -⟩ := id hR
      refine k_iload 13 dX7_countOrders_11 rfl rfl ?_
      refine k_sipush (nI 5040) 16 dX7_countOrders_13 rfl ks_5040 ?_
      refine k_icmp_geN 87 19 dX7_countOrders_16 rfl rfl (by omega) (by omega) (fun c => ?_) (fun c => ?_)
      · omega
      refine k_iload_n 20 dX7_countOrders_19 rfl rfl rfl ?_
      refine k_if_eqN 87 23 dX7_countOrders_20 rfl rfl (by omega) (fun c => ?_) (fun c => ?_)
      · omega
      refine k_aload_n 24 dX7_countOrders_23 rfl rfl rfl ?_
      refine k_get 27 dX7_countOrders_24 rfl fX7_countOrders_34 (by (repeat (refine Is.ne ?_ (by omega))); first | assumption | exact Is.up (by omega)) (by rfl) ?_
      refine k_aload_n 28 dX7_countOrders_27 rfl rfl rfl ?_
      refine k_get 31 dX7_countOrders_28 rfl fX7_countOrders_41 (by (repeat (refine Is.ne ?_ (by omega))); first | assumption | exact Is.up (by omega)) (by rfl) ?_
      refine k_V1 (ci := 3) 34 dX7_countOrders_31 rfl vX7_countOrders_57 (by (repeat (refine Is.ne ?_ (by omega))); first | assumption | exact Is.up (by omega)) rfl rfl (Nat.le_of_ble_eq_true rfl) rfl ⟨Nat.le_of_ble_eq_true rfl, Nat.le_of_ble_eq_true rfl⟩ (c_X4_copyFrom hR hM2 (by omega) hn7 hL7) (fun r3 w3 x3 => ?_)
      obtain ⟨rfl, hS3, hE3⟩ := x3
      have h3 := h2.eqx hE3 (by omega)
      have hF3 := hF2.fr hE3 (by omega)
      have hM3 := hM2.fr hE3 (by omega)
      have hK3 := hK2.fr hE3 (by omega)
      obtain ⟨od, q1, q2⟩ := hD2.fr hE3 (by omega)
      obtain ⟨tl_, twh, tpu, tdb, ⟨g0, g1, g2, g3, g4⟩, gl, gw, gu, gd⟩ := hS3
      have hN := g4.1
      refine k_aload_n 35 dX7_countOrders_34 rfl rfl rfl ?_
      refine k_get 38 dX7_countOrders_35 rfl fX7_countOrders_9 (by (repeat (refine Is.ne ?_ (by omega))); first | assumption | exact Is.up (by omega)) (by rfl) ?_
      refine k_aload_n 39 dX7_countOrders_38 rfl rfl rfl ?_
      refine k_get 42 dX7_countOrders_39 rfl fX7_countOrders_34 (by (repeat (refine Is.ne ?_ (by omega))); first | assumption | exact Is.up (by omega)) (by rfl) ?_
      refine k_get 45 dX7_countOrders_42 rfl fX7_countOrders_61 (by (repeat (refine Is.ne ?_ (by omega))); first | assumption | exact Is.up (by omega)) (by rfl) ?_
      refine k_S2 48 dX7_countOrders_45 rfl vX7_countOrders_64 (Nat.le_of_ble_eq_true rfl) rfl ⟨Nat.le_of_ble_eq_true rfl, Nat.le_of_ble_eq_true rfl⟩ (c_X3_copy q1 g1 (by omega)) (fun r9 w9 h9 => ?_)
      obtain ⟨h8, h9⟩ := h9
      subst h8
      have h9 := h9.symm
      subst h9
      refine k_nm (fun w4 hw4 => ?_)
      have hE4 : Eqx w2 w4 (a + 9) (a + 14) := by
        rw [hw4]
        exact (by (repeat (refine Eqx.up ?_ (by omega) (by omega))); first | exact Eqx.rf | assumption)
      have hS4 : ScM G N w4 (a + 9) n (setQ M f) := by
        rw [hw4]
        refine ⟨_, twh, tpu, tdb, ⟨(by (repeat (refine Is.ne ?_ (by omega))); first | assumption | exact Is.up (by omega)), (by (repeat (refine Is.ne ?_ (by omega))); first | assumption | exact Is.up (by omega)), (by (repeat (refine Is.ne ?_ (by omega))); first | assumption | exact Is.up (by omega)), (by (repeat (refine Is.ne ?_ (by omega))); first | assumption | exact Is.up (by omega)), (by (repeat (refine Is.ne ?_ (by omega))); first | assumption | exact Is.up (by omega))⟩, fun k hk => ?_, gw, gu, gd⟩
        rw [cpy0 _ _ (show k < 7 by have hk : k < mL M := hk; omega)]
        exact q2 k hk
      clear hw4
      have h4 := h2.eqx hE4 (by omega)
      have hF4 := hF2.fr hE4 (by omega)
      have hM4 := hM2.fr hE4 (by omega)
      have hK4 := hK2.fr hE4 (by omega)
      have hD4 := hD2.fr hE4 (by omega)
      refine k_loc [some (rf G a), some (.int (nI e)), some (.int (nI cc)), some (.int (nI 1)), some (.int (nI i))] ⟨rfl, rfl, rfl, rfl, rfl, trivial⟩ rfl ?_
      refine k_aload_n 49 dX7_countOrders_48 rfl rfl rfl ?_
      refine k_aload_n 50 dX7_countOrders_49 rfl rfl rfl ?_
      refine k_get 53 dX7_countOrders_50 rfl fX7_countOrders_38 (by (repeat (refine Is.ne ?_ (by omega))); first | assumption | exact Is.up (by omega)) (by rfl) ?_
      refine k_iconst (-1) 54 dX7_countOrders_53 rfl km_1 ?_
      refine k_V2 (ci := 6) 57 dX7_countOrders_54 rfl vX7_countOrders_68 (by (repeat (refine Is.ne ?_ (by omega))); first | assumption | exact Is.up (by omega)) rfl rfl (Nat.le_of_ble_eq_true rfl) rfl ⟨Nat.le_of_ble_eq_true rfl, Nat.le_of_ble_eq_true rfl⟩ (c_X7_comesTrue (none) h4 hK4.1 hF4 (by omega) hS4 hOf hoF hn hm (fun p e => by cases e) hG) (fun r5 w5 x5 => ?_)
      obtain ⟨rfl, hT5, hE5⟩ := x5
      have h5 := h4.eqx hE5 (by omega)
      have hF5 := hF4.fr hE5 (by omega)
      have hM5 := hM4.fr hE5 (by omega)
      have hK5 := hK4.fr hE5 (by omega)
      have hD5 := hD4.fr hE5 (by omega)
      have hE6 : Eqx w w5 (a + 1) (a + 14) := hE2.tr ((hE4.tr hE5).wd (by omega) (by omega))
      have next : ∀ c2 : Nat, c2 = cc + (if soP K m F M f = true then 1 else 0) → KRun G jX7_countOrders N (fun r w1 => r = some (.int (nI T.1)) ∧ OdM G N w1 a (mL M) T.2 ∧ SiP G N w1 a m K ∧ TrG G N w1 (a + 9) ∧ Eqx w w1 (a + 1) (a + 14)) 63 [some (rf G a), some (.int (nI e)), some (.int (nI c2)), some (.int (nI 1)), some (.int (nI i))] [] 0 0 w5 := by
        intro c2 hc2
        have hc3 : c2 ≤ i + 1 := by
          rw [hc2]
          split <;> omega
        simp only [cor] at hcor
        rw [← hc2] at hcor
        refine k_iload_n 64 dX7_countOrders_63 rfl rfl rfl ?_
        refine k_iload_n 65 dX7_countOrders_64 rfl rfl rfl ?_
        refine k_icmp_geN 79 68 dX7_countOrders_65 rfl rfl (by omega) (by omega) (fun c => ?_) (fun c => ?_)
        · rw [if_neg (by omega)] at hcor
          subst hcor
          exact fin i c2 w5 (by omega) rfl hD5 hK5 hT5 hE6
        · rw [if_pos (by omega)] at hcor
          refine k_aload_n 69 dX7_countOrders_68 rfl rfl rfl ?_
          refine k_V0 (ci := 6) 72 dX7_countOrders_69 rfl vX7_countOrders_72 (by (repeat (refine Is.ne ?_ (by omega))); first | assumption | exact Is.up (by omega)) rfl rfl (Nat.le_of_ble_eq_true rfl) rfl ⟨Nat.le_of_ble_eq_true rfl, Nat.le_of_ble_eq_true rfl⟩ (c_X7_nextOrder h5 hM5 hL7 hba hD5 (fun k hk => by have := hlt k hk; omega)) (fun r7 w7 x7 => ?_)
          obtain ⟨rfl, hD7, hE7⟩ := x7
          have hK7 : SiP G N w7 a m K := hK5.fr hE7 (by omega)
          have hT7 := hT5.fr hE7 (by omega)
          have hE8 := hE6.tr (hE7.wd (by omega) (show a + 2 ≤ a + 14 by omega))
          cases hx : nxt (mL M) f with
          | none =>
            rw [hx] at hcor hD7
            dsimp only at hcor
            subst hcor
            rw [show ((none : Option (Nat → Nat)).isSome) = false from rfl]
            refine k_if_eqB 79 75 dX7_countOrders_72 rfl rfl (fun c9 => ?_) (fun c9 => absurd c9 (by simp))
            exact fin i c2 w7 (by omega) rfl hD7 hK7 hT7 hE8
          | some g =>
            rw [hx] at hcor hD7
            dsimp only at hcor
            rw [show ((some g : Option (Nat → Nat)).isSome) = true from rfl]
            refine k_if_eqB 79 75 dX7_countOrders_72 rfl rfl (fun c9 => absurd c9 (by simp)) (fun c9 => ?_)
            refine k_iconst (nI 1) 76 dX7_countOrders_75 rfl kc_1 ?_
            refine k_goto 80 dX7_countOrders_76 rfl ?_
            refine k_istore_n _ 81 dX7_countOrders_80 rfl rfl (by decide) rfl rfl ?_
            refine k_iinc _ _ 84 dX7_countOrders_81 rfl rfl (nI_inc _) (by decide) rfl rfl ?_
            refine k_goto 11 dX7_countOrders_84 rfl ?_
            exact ih (i + 1) c2 g w7 (by omega) (by omega) (ordOK_nxt ho hx) hcor hD7 hK7 hT7 hE8
      refine k_if_eqB 63 60 dX7_countOrders_57 rfl rfl (fun c9 => ?_) (fun c9 => ?_)
      · exact next cc (by rw [soP, c9]; rfl)
      · refine k_iinc _ _ 63 dX7_countOrders_60 rfl rfl (nI_inc _) (by decide) rfl rfl ?_
        exact next (cc + 1) (by rw [soP, c9]; rfl)
  exact loop 5040 0 0 (sof M n).2 w1 rfl (Nat.le_refl _) hs2 hT hD1 (hK.fr hE1 (by omega)) (ht.fr hE1 (by omega)) (hE1.wd (by omega) (by omega))
