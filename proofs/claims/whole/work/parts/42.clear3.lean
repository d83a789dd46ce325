/-! fewest payments: the program -/
def TbK (G : KG) (N : Nat) (w : WD) (a n s : Nat) (D : Nat → Int) : Prop := ∃ sm gr : Nat → Int32, Is N w (a + 6) (ia G 128 sm) ∧ Is N w (a + 7) (ia G 128 gr) ∧ ∀ t, t < s → sm t = iZ (smf D t n) ∧ gr t = nI (gpp D n t)
theorem TbK.g {G : KG} {N a n s : Nat} {w : WD} {D : Nat → Int} (h : TbK G N w a n s D) (hs : 0 < s) : ClA G N w a := by
  obtain ⟨sm, gr, h1, h2, h3⟩ := h
  obtain ⟨e1, e2⟩ := h3 0 hs
  refine ⟨sm, gr, h1, h2, ?_, ?_⟩
  · rw [e1, smf_none n (fun p _ => by simp)]
    decide
  · rw [e2, gpp_0]
theorem c_X2_fewestPayments {G : KG} {N : Nat} {w : WD} {a fo b n : Nat} {x y z : Value} {M : Mo} {F : Fo} (h : Is N w a (FsX G a fo b x y z)) (hF : FkM G N w fo F) (hca : fo + 4 ≤ a) (hb : ScM G N w b n M) (hba : b + 5 ≤ a) (hc : ClA G N w a) (hO : mOK n M) (hn : n = oN F) : KCon G jX2_fewestPayments N w [rf G a] (fun r w1 => r = some (.int (iZ (clr (due M) n))) ∧ ClA G N w1 a ∧ Eqx w w1 (a + 6) (a + 8)) := by
  have hn7 := hO.2.1
  have hD : ∀ p, p < 7 → -242520 ≤ due M p ∧ due M p ≤ 242520 := fun p hp => ok_due hO hp
  have hall := gpp_all (due M) hn7
  generalize hDD : due M = D at *
  refine KCon.of ([some (rf G a), none, none, none, none, none]) (by decide) rfl (by simp [Value.category]) (Nat.le_of_ble_eq_true rfl) rfl ?_
  refine k_iconst (nI 0) 1 dX2_fewestPayments_0 rfl kc_0 ?_
  refine k_istore_n _ 2 dX2_fewestPayments_1 rfl rfl (by decide) rfl rfl ?_
  have outer : ∀ d p (w1 : WD), p + d = n → TbK G N w1 a n (2 ^ p) D → Eqx w w1 (a + 6) (a + 8) → KRun G jX2_fewestPayments N (fun r w1 => r = some (.int (iZ (clr D n))) ∧ ClA G N w1 a ∧ Eqx w w1 (a + 6) (a + 8)) 2 [some (rf G a), some (.int (nI p)), none, none, none, none] [] 0 0 w1 := by
    intro d
    induction d with
    | zero =>
      intro p w1 hp hT hE
      have hpn : p = n := by omega
      subst hpn
      have h1 := h.eqx hE (by omega)
      obtain ⟨kd, wo, pe, ⟨f0, -⟩, -⟩ := hF.fr hE (by omega)
      have hT2 := hT
      obtain ⟨sm, gr, g1, g2, g3⟩ := hT2
      have hp0 := Nat.pow_pos (n := p) (show 0 < 2 by omega)
      have hp7 := p2_128 p hn7
      refine k_iload_n 3 dX2_fewestPayments_2 rfl rfl rfl ?_
      refine k_aload_n 4 dX2_fewestPayments_3 rfl rfl rfl ?_
      refine k_get 7 dX2_fewestPayments_4 rfl fX2_fewestPayments_25 (by (repeat (refine Is.ne ?_ (by omega))); first | assumption | exact Is.up (by omega)) (by rfl) ?_
      refine k_get 10 dX2_fewestPayments_7 rfl fX2_fewestPayments_76 (by (repeat (refine Is.ne ?_ (by omega))); first | assumption | exact Is.up (by omega)) (by rfl) ?_
      refine k_icmp_geN 101 13 dX2_fewestPayments_10 rfl rfl (by omega) (by omega) (fun c => ?_) (fun c => ?_)
      · refine k_aload_n 102 dX2_fewestPayments_101 rfl rfl rfl ?_
        refine k_get 105 dX2_fewestPayments_102 rfl fX2_fewestPayments_25 (by (repeat (refine Is.ne ?_ (by omega))); first | assumption | exact Is.up (by omega)) (by rfl) ?_
        refine k_get 108 dX2_fewestPayments_105 rfl fX2_fewestPayments_76 (by (repeat (refine Is.ne ?_ (by omega))); first | assumption | exact Is.up (by omega)) (by rfl) ?_
        refine k_aload_n 109 dX2_fewestPayments_108 rfl rfl rfl ?_
        refine k_get 112 dX2_fewestPayments_109 rfl fX2_fewestPayments_22 (by (repeat (refine Is.ne ?_ (by omega))); first | assumption | exact Is.up (by omega)) (by rfl) ?_
        refine k_iconst (nI 1) 113 dX2_fewestPayments_112 rfl kc_1 ?_
        refine k_aload_n 114 dX2_fewestPayments_113 rfl rfl rfl ?_
        refine k_get 117 dX2_fewestPayments_114 rfl fX2_fewestPayments_25 (by (repeat (refine Is.ne ?_ (by omega))); first | assumption | exact Is.up (by omega)) (by rfl) ?_
        refine k_get 120 dX2_fewestPayments_117 rfl fX2_fewestPayments_76 (by (repeat (refine Is.ne ?_ (by omega))); first | assumption | exact Is.up (by omega)) (by rfl) ?_
        rw [← hn]
        refine k_ishlE _ 121 dX2_fewestPayments_120 rfl (one_sh p (by omega)) ?_
        refine k_iconst (nI 1) 122 dX2_fewestPayments_121 rfl kc_1 ?_
        first | refine k_isubE _ 123 dX2_fewestPayments_122 rfl (pk_sub (by omega)) ?_ | refine k_isub 123 dX2_fewestPayments_122 rfl ?_
        refine k_S2 126 dX2_fewestPayments_123 rfl vX2_fewestPayments_97 (Nat.le_of_ble_eq_true rfl) rfl ⟨Nat.le_of_ble_eq_true rfl, Nat.le_of_ble_eq_true rfl⟩ (c_X3_at g2 (by omega) (by omega)) (fun r9 w9 h9 => ?_)
        obtain ⟨h8, h9⟩ := h9
        subst h8
        have h9 := h9.symm
        subst h9
        rw [(g3 _ (by omega)).2]
        refine k_isubE (iZ ((p : Int) - (gpp D p (2 ^ p - 1) : Int))) 127 dX2_fewestPayments_126 rfl (by rw [← iZ_nat, ← iZ_nat, iZ_sub]) ?_
        refine k_iret dX2_fewestPayments_127 rfl rfl (Nat.le_of_ble_eq_true rfl) ⟨by rw [show (p : Int) - (gpp D p (2 ^ p - 1) : Int) = clr D p by unfold clr; omega], hT.g hp0, hE⟩
      · omega
    | succ d ih =>
      intro p w1 hp hT hE
      have h1 := h.eqx hE (by omega)
      have hb1 := hb.fr hE (by omega)
      obtain ⟨kd, wo, pe, ⟨f0, -⟩, -⟩ := hF.fr hE (by omega)
      obtain ⟨l2, wh2, pu2, db2, ⟨s0, -⟩, -⟩ := id hb1
      have hp0 := Nat.pow_pos (n := p) (show 0 < 2 by omega)
      have hp7 := p2_128 (p + 1) (by omega)
      rw [Nat.pow_succ] at hp7
      refine k_iload_n 3 dX2_fewestPayments_2 rfl rfl rfl ?_
      refine k_aload_n 4 dX2_fewestPayments_3 rfl rfl rfl ?_
      refine k_get 7 dX2_fewestPayments_4 rfl fX2_fewestPayments_25 (by (repeat (refine Is.ne ?_ (by omega))); first | assumption | exact Is.up (by omega)) (by rfl) ?_
      refine k_get 10 dX2_fewestPayments_7 rfl fX2_fewestPayments_76 (by (repeat (refine Is.ne ?_ (by omega))); first | assumption | exact Is.up (by omega)) (by rfl) ?_
      refine k_icmp_geN 101 13 dX2_fewestPayments_10 rfl rfl (by omega) (by omega) (fun c => ?_) (fun c => ?_)
      · omega
      refine k_aload_n 14 dX2_fewestPayments_13 rfl rfl rfl ?_
      refine k_get 17 dX2_fewestPayments_14 rfl fX2_fewestPayments_29 (by (repeat (refine Is.ne ?_ (by omega))); first | assumption | exact Is.up (by omega)) (by rfl) ?_
      refine k_iload_n 18 dX2_fewestPayments_17 rfl rfl rfl ?_
      refine k_V1 (ci := 3) 21 dX2_fewestPayments_18 rfl vX2_fewestPayments_67 (by (repeat (refine Is.ne ?_ (by omega))); first | assumption | exact Is.up (by omega)) rfl rfl (Nat.le_of_ble_eq_true rfl) rfl ⟨Nat.le_of_ble_eq_true rfl, Nat.le_of_ble_eq_true rfl⟩ (c_X4_dueOf hb1 (by omega)) (fun r9 w9 h9 => ?_)
      obtain ⟨h8, h9⟩ := h9
      subst h8
      have h9 := h9.symm
      subst h9
      refine k_istore_n _ 22 dX2_fewestPayments_21 rfl rfl (by decide) rfl rfl ?_
      refine k_iconst (nI 1) 23 dX2_fewestPayments_22 rfl kc_1 ?_
      refine k_iload_n 24 dX2_fewestPayments_23 rfl rfl rfl ?_
      rw [hDD]
      refine k_ishlE _ 25 dX2_fewestPayments_24 rfl (one_sh p (by omega)) ?_
      refine k_istore_n _ 26 dX2_fewestPayments_25 rfl rfl (by decide) rfl rfl ?_
      refine k_iload_n 27 dX2_fewestPayments_26 rfl rfl rfl ?_
      refine k_istore _ 29 dX2_fewestPayments_27 rfl (by decide) rfl rfl ?_
      have inner : ∀ e s (w2 : WD), s + e = 2 * 2 ^ p → 2 ^ p ≤ s → TbK G N w2 a n s D → Eqx w w2 (a + 6) (a + 8) → KRun G jX2_fewestPayments N (fun r w1 => r = some (.int (iZ (clr D n))) ∧ ClA G N w1 a ∧ Eqx w w1 (a + 6) (a + 8)) 29 [some (rf G a), some (.int (nI p)), some (.int (iZ (D p))), some (.int (nI (2 ^ p))), some (.int (nI s)), none] [] 0 0 w2 := by
        intro e
        induction e with
        | zero =>
          intro s w2 hs hs2 hT2 hE2
          refine k_iload 31 dX2_fewestPayments_29 rfl rfl ?_
          refine k_iconst (nI 2) 32 dX2_fewestPayments_31 rfl kc_2 ?_
          refine k_iload_n 33 dX2_fewestPayments_32 rfl rfl rfl ?_
          first | refine k_imulE _ 34 dX2_fewestPayments_33 rfl (pk_mul _ _) ?_ | refine k_imul 34 dX2_fewestPayments_33 rfl ?_
          refine k_icmp_geN 95 37 dX2_fewestPayments_34 rfl rfl (by omega) (by omega) (fun c => ?_) (fun c => ?_)
          · refine k_iinc _ _ 98 dX2_fewestPayments_95 rfl rfl (nI_inc _) (by decide) rfl rfl ?_
            refine k_goto 2 dX2_fewestPayments_98 rfl ?_
            refine k_loc [some (rf G a), some (.int (nI (p + 1))), none, none, none, none] ⟨rfl, rfl, trivial⟩ rfl ?_
            exact ih (p + 1) w2 (by omega) (by rw [Nat.pow_succ, Nat.mul_comm, show 2 * 2 ^ p = s by omega]; exact hT2) hE2
          · omega
        | succ e ihe =>
          intro s w2 hs hs2 hT2 hE2
          have h2 := h.eqx hE2 (by omega)
          have hF2 := hF.fr hE2 (by omega)
          obtain ⟨sm, gr, g1, g2, g3⟩ := hT2
          have hN := g2.1
          have hs128 : s < 128 := by omega
          have hbit := bit_top p (by omega) s hs128 ⟨hs2, by omega⟩
          have hsum := smf_sub (D := D) hs128 (show p < 7 by omega) hbit n hn7
          rw [if_pos (by omega)] at hsum
          have hbnd := smf_b (s := s) hD n hn7
          have hbn : -2000000 ≤ smf D s n ∧ smf D s n ≤ 2000000 := by omega
          have hgs := gpp_s D hn7 (show 0 < s by omega) hs128
          have hgl := gpp_le D hn7 s hs128
          refine k_iload 31 dX2_fewestPayments_29 rfl rfl ?_
          refine k_iconst (nI 2) 32 dX2_fewestPayments_31 rfl kc_2 ?_
          refine k_iload_n 33 dX2_fewestPayments_32 rfl rfl rfl ?_
          first | refine k_imulE _ 34 dX2_fewestPayments_33 rfl (pk_mul _ _) ?_ | refine k_imul 34 dX2_fewestPayments_33 rfl ?_
          refine k_icmp_geN 95 37 dX2_fewestPayments_34 rfl rfl (by omega) (by omega) (fun c => ?_) (fun c => ?_)
          · omega
          refine k_aload_n 38 dX2_fewestPayments_37 rfl rfl rfl ?_
          refine k_get 41 dX2_fewestPayments_38 rfl fX2_fewestPayments_18 (by (repeat (refine Is.ne ?_ (by omega))); first | assumption | exact Is.up (by omega)) (by rfl) ?_
          refine k_iload 43 dX2_fewestPayments_41 rfl rfl ?_
          refine k_iload_n 44 dX2_fewestPayments_43 rfl rfl rfl ?_
          first | refine k_isubE _ 45 dX2_fewestPayments_44 rfl (pk_sub (by omega)) ?_ | refine k_isub 45 dX2_fewestPayments_44 rfl ?_
          refine k_S2 48 dX2_fewestPayments_45 rfl vX2_fewestPayments_97 (Nat.le_of_ble_eq_true rfl) rfl ⟨Nat.le_of_ble_eq_true rfl, Nat.le_of_ble_eq_true rfl⟩ (c_X3_at g1 (by omega) (by omega)) (fun r9 w9 h9 => ?_)
          obtain ⟨h8, h9⟩ := h9
          subst h8
          have h9 := h9.symm
          subst h9
          rw [(g3 (s - 2 ^ p) (by omega)).1]
          refine k_iload_n 49 dX2_fewestPayments_48 rfl rfl rfl ?_
          refine k_iaddE (iZ (smf D s n)) 50 dX2_fewestPayments_49 rfl (by rw [iZ_add, hsum]) ?_
          refine k_istore _ 52 dX2_fewestPayments_50 rfl (by decide) rfl rfl ?_
          refine k_aload_n 53 dX2_fewestPayments_52 rfl rfl rfl ?_
          refine k_get 56 dX2_fewestPayments_53 rfl fX2_fewestPayments_18 (by (repeat (refine Is.ne ?_ (by omega))); first | assumption | exact Is.up (by omega)) (by rfl) ?_
          refine k_iload 58 dX2_fewestPayments_56 rfl rfl ?_
          refine k_iload 60 dX2_fewestPayments_58 rfl rfl ?_
          refine k_S3 63 dX2_fewestPayments_60 rfl vX2_fewestPayments_112 (Nat.le_of_ble_eq_true rfl) rfl ⟨Nat.le_of_ble_eq_true rfl, Nat.le_of_ble_eq_true rfl⟩ (c_X3_put g1 (by omega) (by omega)) (fun r9 w9 h9 => ?_)
          obtain ⟨h8, h9⟩ := h9
          subst h8
          have h9 := h9.symm
          subst h9
          refine k_nm (fun w3 hw3 => ?_)
          have hE3 : Eqx w2 w3 (a + 6) (a + 7) := by
            rw [hw3]
            exact (by (repeat (refine Eqx.up ?_ (by omega) (by omega))); first | exact Eqx.rf | assumption)
          have g13 : Is N w3 (a + 6) (ia G 128 (upd sm s (iZ (smf D s n)))) := by
            rw [hw3]
            exact Is.up g1.1
          clear hw3
          have h3 := h2.eqx hE3 (by omega)
          have hF3 := hF2.fr hE3 (by omega)
          have g23 := g2.eqx hE3 (by omega)
          refine k_aload_n 64 dX2_fewestPayments_63 rfl rfl rfl ?_
          refine k_get 67 dX2_fewestPayments_64 rfl fX2_fewestPayments_22 (by (repeat (refine Is.ne ?_ (by omega))); first | assumption | exact Is.up (by omega)) (by rfl) ?_
          refine k_iload 69 dX2_fewestPayments_67 rfl rfl ?_
          refine k_aload_n 70 dX2_fewestPayments_69 rfl rfl rfl ?_
          refine k_iload 72 dX2_fewestPayments_70 rfl rfl ?_
          refine k_V1 (ci := 2) 75 dX2_fewestPayments_72 rfl vX2_fewestPayments_116 (by (repeat (refine Is.ne ?_ (by omega))); first | assumption | exact Is.up (by omega)) rfl rfl (Nat.le_of_ble_eq_true rfl) rfl ⟨Nat.le_of_ble_eq_true rfl, Nat.le_of_ble_eq_true rfl⟩ (c_X2_mostGroupsInParts h3 hF3 (by omega) g23 hs128 (fun t ht => by rw [← hn]; exact (g3 t ht).2)) (fun r9 w9 h9 => ?_)
          obtain ⟨h8, h9⟩ := h9
          subst h8
          have h9 := h9.symm
          subst h9
          refine k_iload 77 dX2_fewestPayments_75 rfl rfl ?_
          rw [← hn]
          have next : ∀ v : Nat, v = gpp D n s → KRun G jX2_fewestPayments N (fun r w1 => r = some (.int (iZ (clr D n))) ∧ ClA G N w1 a ∧ Eqx w w1 (a + 6) (a + 8)) 86 [some (rf G a), some (.int (nI p)), some (.int (iZ (D p))), some (.int (nI (2 ^ p))), some (.int (nI s)), some (.int (iZ (smf D s n)))] [.int (nI v), .int (nI s), rf G (a + 7)] 0 0 w3 := by
            intro v hv
            subst hv
            refine k_S3 89 dX2_fewestPayments_86 rfl vX2_fewestPayments_112 (Nat.le_of_ble_eq_true rfl) rfl ⟨Nat.le_of_ble_eq_true rfl, Nat.le_of_ble_eq_true rfl⟩ (c_X3_put g23 (by omega) (by omega)) (fun r9 w9 h9 => ?_)
            obtain ⟨h8, h9⟩ := h9
            subst h8
            have h9 := h9.symm
            subst h9
            refine k_iinc _ _ 92 dX2_fewestPayments_89 rfl rfl (nI_inc _) (by decide) rfl rfl ?_
            refine k_goto 29 dX2_fewestPayments_92 rfl ?_
            refine k_loc [some (rf G a), some (.int (nI p)), some (.int (iZ (D p))), some (.int (nI (2 ^ p))), some (.int (nI (s + 1))), none] ⟨rfl, rfl, rfl, rfl, rfl, trivial⟩ rfl ?_
            refine ihe (s + 1) _ (by omega) (by omega) ⟨_, _, (g13.ne (by omega)), Is.up g23.1, fun t ht => ?_⟩ ?_
            · by_cases e1 : t = s
              · subst e1
                exact ⟨upd_s _ _ _, upd_s _ _ _⟩
              · rw [upd_n _ _ e1, upd_n _ _ e1]
                exact g3 t (by omega)
            · exact (hE2.tr (hE3.wd (by omega) (by omega))).tr (by (repeat (refine Eqx.up ?_ (by omega) (by omega))); first | exact Eqx.rf | assumption)
          refine k_if_ne 84 80 dX2_fewestPayments_77 rfl rfl (fun c => ?_) (fun c => ?_)
          · have c := fun z => c ((iZ_0 (by omega) (by omega)).mpr z)
            refine k_iconst (nI 0) 85 dX2_fewestPayments_84 rfl kc_0 ?_
            first | refine k_iaddE _ 86 dX2_fewestPayments_85 rfl (nI_add _ _) ?_ | refine k_iadd 86 dX2_fewestPayments_85 rfl ?_
            exact next _ (by rw [hgs, if_neg c])
          · have c : smf D s n = 0 := (iZ_0 (by omega) (by omega)).mp (Classical.not_not.mp c)
            refine k_iconst (nI 1) 81 dX2_fewestPayments_80 rfl kc_1 ?_
            refine k_goto 85 dX2_fewestPayments_81 rfl ?_
            first | refine k_iaddE _ 86 dX2_fewestPayments_85 rfl (nI_add _ _) ?_ | refine k_iadd 86 dX2_fewestPayments_85 rfl ?_
            exact next _ (by rw [hgs, if_pos c])
      exact inner (2 ^ p) (2 ^ p) w1 (by omega) (Nat.le_refl _) hT hE
  refine outer n 0 w (by omega) ?_ Eqx.rf
  obtain ⟨sm, gr, g1, g2, g3, g4⟩ := hc
  refine ⟨sm, gr, g1, g2, fun t ht => ?_⟩
  have ht : t = 0 := by omega
  subst ht
  refine ⟨?_, by rw [g4, gpp_0]⟩
  rw [g3, smf_none n (fun p _ => by simp)]
  decide
