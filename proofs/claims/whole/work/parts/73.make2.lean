/-! the reference's own maker -/
-- 
def kqR0 : Fo × Mo := (oF0, oM0)
def kqR1 : Fo × Mo := (addF kqR0.1 0 5 3, addM kqR0.1 kqR0.2 20)
def kqR2 : Fo × Mo := (addF kqR1.1 1 9 2, addM kqR1.1 kqR1.2 4)
def kqR3 : Fo × Mo := (addF kqR2.1 2 7 2, addM kqR2.1 kqR2.2 30)
def kqR4 : Fo × Mo := (addF kqR3.1 3 12 4, addM kqR3.1 kqR3.2 15)
def kqR5 : Fo × Mo := (addF kqR4.1 0 3 1, addM kqR4.1 kqR4.2 9)
def kqR6 : Fo × Mo := (addF kqR5.1 2 15 5, addM kqR5.1 kqR5.2 60)
def kqRf : Fo × Mo := ((oN kqR6.1, 4, oK kqR6.1, oW kqR6.1, oT kqR6.1), sD (sD kqR6.2 36 6) 14 3)
theorem kq_v : (oN kqX0.1 = oN kqRf.1 ∧ oS kqX0.1 = oS kqRf.1 ∧ mG kqX0.2 = mG kqRf.2 ∧ mL kqX0.2 = mL kqRf.2) ∧ (∀ p, p < 6 → oK kqX0.1 p = oK kqRf.1 p ∧ oW kqX0.1 p = oW kqRf.1 p ∧ oT kqX0.1 p = oT kqRf.1 p ∧ mQ kqX0.2 p = mQ kqRf.2 p ∧ mW kqX0.2 p = mW kqRf.2 p ∧ mP kqX0.2 p = mP kqRf.2 p) ∧ ∀ i, i < 49 → mD kqX0.2 i = mD kqRf.2 i := by decide +kernel
theorem kq_V23 {f : Nat → Int32} (h : V23 f kqRf.1) : V23 f kqX0.1 := by
  obtain ⟨⟨v1, v2, v3, v4⟩, v5, v6⟩ := kq_v
  have n1 := kq_n
  refine ⟨by rw [v1]; exact h.1, by rw [v2]; exact h.2.1, fun p hp => ?_⟩
  obtain ⟨c1, c2, c3, -⟩ := v5 p (by omega)
  rw [c1, c2, c3]
  exact h.2.2 p (by omega)
theorem kq_V72 {f : Nat → Int32} (h : V72 f (oN kqRf.1) kqRf.2) : V72 f (oN kqX0.1) kqX0.2 := by
  obtain ⟨⟨v1, v2, v3, v4⟩, v5, v6⟩ := kq_v
  have n1 := kq_n
  have n2 : mL kqRf.2 = 6 := rfl
  refine ⟨by rw [v3]; exact h.1, by rw [v4]; exact h.2.1, fun k hk => ?_, fun p hp => ?_, fun i hi => ?_⟩
  · obtain ⟨-, -, -, c4, -⟩ := v5 k (by omega)
    rw [c4]
    exact h.2.2.1 k (by omega)
  · obtain ⟨-, -, -, -, c5, c6⟩ := v5 p (by omega)
    rw [c5, c6]
    exact h.2.2.2.1 p (by omega)
  · rw [v6 i hi]
    exact h.2.2.2.2 i hi
theorem DrI.srv {dr be : Nat → Int32} {X : Fo × Mo} (h : DrI dr be X) (s : Nat) : DrI (upd dr 1 (nI s)) be ((oN X.1, s, oK X.1, oW X.1, oT X.1), X.2) := by
  obtain ⟨h1, h2, h3⟩ := h
  refine ⟨⟨(upd_n _ _ (by omega)).trans h1.1, upd_s _ _ _, fun p hp => ?_⟩, h2, h3⟩
  rw [upd_n _ _ (by omega), upd_n _ _ (by omega), upd_n _ _ (by omega)]
  exact h1.2.2 p hp
theorem DrI.debt {dr be : Nat → Int32} {X : Fo × Mo} (h : DrI dr be X) (hn : oN X.1 ≤ 7) (hL : mL X.2 ≤ 7) {i v : Nat} (hi : i < 49) : DrI dr (upd be (23 + i) (nI v)) (X.1, sD X.2 i v) := by
  obtain ⟨h1, h2, h3⟩ := h
  refine ⟨h1, ⟨(upd_n _ _ (by omega)).trans h2.1, (upd_n _ _ (by omega)).trans h2.2.1, fun k hk => ?_, fun p hp => ?_, fun q hq => ?_⟩, fun p hp => ?_⟩
  · have hk : k < mL X.2 := hk
    rw [upd_n _ _ (by omega)]
    exact h2.2.2.1 k hk
  · have hp : p < oN X.1 := hp
    rw [upd_n _ _ (by omega), upd_n _ _ (by omega)]
    exact h2.2.2.2.1 p hp
  · show _ = nI (sf (mD X.2) i v q)
    by_cases e : q = i
    · subst e
      rw [sf_s, upd_s]
    · rw [sf_n _ _ e, upd_n _ _ (by omega)]
      exact h2.2.2.2.2 q hq
  · rw [upd_n _ _ (by omega)]
    exact h3 p hp
theorem RsC.mn {G : KG} {N N2 b t kn ke no : Nat} {w : WD} {at_ : Value} {tx to_ dr be s pa im nt ah sd gr ro : Nat → Int32} (h : RsC G N w b t kn ke no at_ tx to_ dr be s pa im nt ah sd gr ro) (hN : N ≤ N2) : RsC G N2 w b t kn ke no at_ tx to_ dr be s pa im nt ah sd gr ro := by
  obtain ⟨h1, h2, h3, h4, h5, h6, h7, h8, h9, h10, h11, h12, h13⟩ := h
  exact ⟨h1.mn hN, h2.mn hN, h3.mn hN, h4.mn hN, h5.mn hN, h6.mn hN, h7.mn hN, h8.mn hN, h9.mn hN, h10.mn hN, h11.mn hN, h12.mn hN, h13.mn hN⟩
theorem c_X9_init {G : KG} {w : WD} {b : Nat} (hg : gL G) (h : w b = ob 8 [.null, .int (nI 0), .null, .null, .null, .null, .null, .int (nI 0), .null, .int (nI 0), .null, .int (nI 0), .int (nI 0), .null, .null, .null, .null]) : KCon G jX9_init (b + 1) w [rf G b] (fun r w1 => r = none ∧ RsM G (b + 13) w1 b kqS0 (qM kqS0) none ∧ Eqx w w1 b (b + 13)) := by
  refine KCon.of ([some (rf G b)]) (by decide) rfl (by simp [Value.category]) (Nat.le_of_ble_eq_true rfl) rfl ?_
  refine k_aload_n 1 dX9_init_0 rfl rfl rfl ?_
  refine k_objInit 4 dX9_init_1 rfl oX9_init_1 (Nat.le_of_ble_eq_true rfl) (Nat.le_of_ble_eq_true rfl) ?_
  refine k_aload_n 5 dX9_init_4 rfl rfl rfl ?_
  refine k_sipush (nI 200) 8 dX9_init_5 rfl ks_200 ?_
  refine k_newa 10 hg dX9_init_8 rfl aX9_init (by omega) ⟨Nat.le_of_ble_eq_true rfl, Nat.le_of_ble_eq_true rfl⟩ ?_
  refine k_put 13 dX9_init_10 rfl pX9_init_7 ⟨by omega, by (repeat (refine (va_up_ne _ _ (by omega)).trans ?_)); first | exact va_up_self _ _ _ | assumption⟩ (Nat.le_of_ble_eq_true rfl) rfl rfl ?_
  refine k_aload_n 14 dX9_init_13 rfl rfl rfl ?_
  refine k_bipush (nI 23) 16 dX9_init_14 rfl kb_23 ?_
  refine k_newa 18 hg dX9_init_16 rfl aX9_init (by omega) ⟨Nat.le_of_ble_eq_true rfl, Nat.le_of_ble_eq_true rfl⟩ ?_
  refine k_put 21 dX9_init_18 rfl pX9_init_13 ⟨by omega, by (repeat (refine (va_up_ne _ _ (by omega)).trans ?_)); first | exact va_up_self _ _ _ | assumption⟩ (Nat.le_of_ble_eq_true rfl) rfl rfl ?_
  refine k_aload_n 22 dX9_init_21 rfl rfl rfl ?_
  refine k_bipush (nI 23) 24 dX9_init_22 rfl kb_23 ?_
  refine k_newa 26 hg dX9_init_24 rfl aX9_init (by omega) ⟨Nat.le_of_ble_eq_true rfl, Nat.le_of_ble_eq_true rfl⟩ ?_
  refine k_put 29 dX9_init_26 rfl pX9_init_16 ⟨by omega, by (repeat (refine (va_up_ne _ _ (by omega)).trans ?_)); first | exact va_up_self _ _ _ | assumption⟩ (Nat.le_of_ble_eq_true rfl) rfl rfl ?_
  refine k_aload_n 30 dX9_init_29 rfl rfl rfl ?_
  refine k_bipush (nI 72) 32 dX9_init_30 rfl kb_72 ?_
  refine k_newa 34 hg dX9_init_32 rfl aX9_init (by omega) ⟨Nat.le_of_ble_eq_true rfl, Nat.le_of_ble_eq_true rfl⟩ ?_
  refine k_put 37 dX9_init_34 rfl pX9_init_19 ⟨by omega, by (repeat (refine (va_up_ne _ _ (by omega)).trans ?_)); first | exact va_up_self _ _ _ | assumption⟩ (Nat.le_of_ble_eq_true rfl) rfl rfl ?_
  refine k_aload_n 38 dX9_init_37 rfl rfl rfl ?_
  refine k_bipush (nI 72) 40 dX9_init_38 rfl kb_72 ?_
  refine k_newa 42 hg dX9_init_40 rfl aX9_init (by omega) ⟨Nat.le_of_ble_eq_true rfl, Nat.le_of_ble_eq_true rfl⟩ ?_
  refine k_put 45 dX9_init_42 rfl pX9_init_22 ⟨by omega, by (repeat (refine (va_up_ne _ _ (by omega)).trans ?_)); first | exact va_up_self _ _ _ | assumption⟩ (Nat.le_of_ble_eq_true rfl) rfl rfl ?_
  refine k_aload_n 46 dX9_init_45 rfl rfl rfl ?_
  refine k_sipush (nI 576) 49 dX9_init_46 rfl ks_576 ?_
  refine k_newa 51 hg dX9_init_49 rfl aX9_init (by omega) ⟨Nat.le_of_ble_eq_true rfl, Nat.le_of_ble_eq_true rfl⟩ ?_
  refine k_put 54 dX9_init_51 rfl pX9_init_25 ⟨by omega, by (repeat (refine (va_up_ne _ _ (by omega)).trans ?_)); first | exact va_up_self _ _ _ | assumption⟩ (Nat.le_of_ble_eq_true rfl) rfl rfl ?_
  refine k_aload_n 55 dX9_init_54 rfl rfl rfl ?_
  refine k_sipush (nI 144) 58 dX9_init_55 rfl ks_144 ?_
  refine k_newa 60 hg dX9_init_58 rfl aX9_init (by omega) ⟨Nat.le_of_ble_eq_true rfl, Nat.le_of_ble_eq_true rfl⟩ ?_
  refine k_put 63 dX9_init_60 rfl pX9_init_28 ⟨by omega, by (repeat (refine (va_up_ne _ _ (by omega)).trans ?_)); first | exact va_up_self _ _ _ | assumption⟩ (Nat.le_of_ble_eq_true rfl) rfl rfl ?_
  refine k_aload_n 64 dX9_init_63 rfl rfl rfl ?_
  refine k_bipush (nI 18) 66 dX9_init_64 rfl kb_18 ?_
  refine k_newa 68 hg dX9_init_66 rfl aX9_init (by omega) ⟨Nat.le_of_ble_eq_true rfl, Nat.le_of_ble_eq_true rfl⟩ ?_
  refine k_put 71 dX9_init_68 rfl pX9_init_31 ⟨by omega, by (repeat (refine (va_up_ne _ _ (by omega)).trans ?_)); first | exact va_up_self _ _ _ | assumption⟩ (Nat.le_of_ble_eq_true rfl) rfl rfl ?_
  refine k_aload_n 72 dX9_init_71 rfl rfl rfl ?_
  refine k_bipush (nI 7) 74 dX9_init_72 rfl kb_7 ?_
  refine k_newa 76 hg dX9_init_74 rfl aX9_init (by omega) ⟨Nat.le_of_ble_eq_true rfl, Nat.le_of_ble_eq_true rfl⟩ ?_
  refine k_put 79 dX9_init_76 rfl pX9_init_34 ⟨by omega, by (repeat (refine (va_up_ne _ _ (by omega)).trans ?_)); first | exact va_up_self _ _ _ | assumption⟩ (Nat.le_of_ble_eq_true rfl) rfl rfl ?_
  refine k_aload_n 80 dX9_init_79 rfl rfl rfl ?_
  refine k_bipush (nI 72) 82 dX9_init_80 rfl kb_72 ?_
  refine k_newa 84 hg dX9_init_82 rfl aX9_init (by omega) ⟨Nat.le_of_ble_eq_true rfl, Nat.le_of_ble_eq_true rfl⟩ ?_
  refine k_put 87 dX9_init_84 rfl pX9_init_37 ⟨by omega, by (repeat (refine (va_up_ne _ _ (by omega)).trans ?_)); first | exact va_up_self _ _ _ | assumption⟩ (Nat.le_of_ble_eq_true rfl) rfl rfl ?_
  refine k_aload_n 88 dX9_init_87 rfl rfl rfl ?_
  refine k_sipush (nI 128) 91 dX9_init_88 rfl ks_128 ?_
  refine k_newa 93 hg dX9_init_91 rfl aX9_init (by omega) ⟨Nat.le_of_ble_eq_true rfl, Nat.le_of_ble_eq_true rfl⟩ ?_
  refine k_put 96 dX9_init_93 rfl pX9_init_40 ⟨by omega, by (repeat (refine (va_up_ne _ _ (by omega)).trans ?_)); first | exact va_up_self _ _ _ | assumption⟩ (Nat.le_of_ble_eq_true rfl) rfl rfl ?_
  refine k_aload_n 97 dX9_init_96 rfl rfl rfl ?_
  refine k_bipush (nI 7) 99 dX9_init_97 rfl kb_7 ?_
  refine k_newa 101 hg dX9_init_99 rfl aX9_init (by omega) ⟨Nat.le_of_ble_eq_true rfl, Nat.le_of_ble_eq_true rfl⟩ ?_
  refine k_put 104 dX9_init_101 rfl pX9_init_43 ⟨by omega, by (repeat (refine (va_up_ne _ _ (by omega)).trans ?_)); first | exact va_up_self _ _ _ | assumption⟩ (Nat.le_of_ble_eq_true rfl) rfl rfl ?_
  refine k_nm (fun w1 hw1 => ?_)
  have hC : RsC G (b + 1 + 12) w1 b 0 0 0 0 (.int (nI 0)) (fun _ => 0) (fun _ => 0) (fun _ => 0) (fun _ => 0) (fun _ => 0) (fun _ => 0) (fun _ => 0) (fun _ => 0) (fun _ => 0) (fun _ => 0) (fun _ => 0) (fun _ => 0) := by
    rw [hw1]
    exact ⟨⟨by omega, by (repeat (refine (va_up_ne _ _ (by omega)).trans ?_)); first | exact va_up_self _ _ _ | assumption⟩, ⟨by omega, by (repeat (refine (va_up_ne _ _ (by omega)).trans ?_)); first | exact va_up_self _ _ _ | assumption⟩, ⟨by omega, by (repeat (refine (va_up_ne _ _ (by omega)).trans ?_)); first | exact va_up_self _ _ _ | assumption⟩, ⟨by omega, by (repeat (refine (va_up_ne _ _ (by omega)).trans ?_)); first | exact va_up_self _ _ _ | assumption⟩, ⟨by omega, by (repeat (refine (va_up_ne _ _ (by omega)).trans ?_)); first | exact va_up_self _ _ _ | assumption⟩, ⟨by omega, by (repeat (refine (va_up_ne _ _ (by omega)).trans ?_)); first | exact va_up_self _ _ _ | assumption⟩, ⟨by omega, by (repeat (refine (va_up_ne _ _ (by omega)).trans ?_)); first | exact va_up_self _ _ _ | assumption⟩, ⟨by omega, by (repeat (refine (va_up_ne _ _ (by omega)).trans ?_)); first | exact va_up_self _ _ _ | assumption⟩, ⟨by omega, by (repeat (refine (va_up_ne _ _ (by omega)).trans ?_)); first | exact va_up_self _ _ _ | assumption⟩, ⟨by omega, by (repeat (refine (va_up_ne _ _ (by omega)).trans ?_)); first | exact va_up_self _ _ _ | assumption⟩, ⟨by omega, by (repeat (refine (va_up_ne _ _ (by omega)).trans ?_)); first | exact va_up_self _ _ _ | assumption⟩, ⟨by omega, by (repeat (refine (va_up_ne _ _ (by omega)).trans ?_)); first | exact va_up_self _ _ _ | assumption⟩, ⟨by omega, by (repeat (refine (va_up_ne _ _ (by omega)).trans ?_)); first | exact va_up_self _ _ _ | assumption⟩⟩
  have hE : Eqx w w1 b (b + 13) := by
    rw [hw1]
    exact (by (repeat (refine Eqx.up ?_ (by omega) (by omega))); first | exact Eqx.rf | assumption)
  clear hw1
  have z0 := hC.1.2
  refine k_aload_n 105 dX9_init_104 rfl rfl rfl ?_
  refine k_V0 (ci := 8) 108 dX9_init_105 rfl vX9_init_46 ⟨by omega, by (repeat (refine (va_up_ne _ _ (by omega)).trans ?_)); first | exact va_up_self _ _ _ | assumption⟩ rfl rfl (Nat.le_of_ble_eq_true rfl) rfl ⟨Nat.le_of_ble_eq_true rfl, Nat.le_of_ble_eq_true rfl⟩ (c_X9_begins hC) (fun r2 w2 x2 => ?_)
  obtain ⟨rfl, dr0, be0, hC0, hD0, hE0⟩ := x2
  have hE := hE.tr (hE0.wd (Nat.le_refl b) (by omega))
  have hD0 : DrI dr0 be0 kqR0 := hD0
  clear z0
  have z0 := hC0.1.2
  refine k_aload_n 109 dX9_init_108 rfl rfl rfl ?_
  refine k_iconst (nI 0) 110 dX9_init_109 rfl kc_0 ?_
  refine k_iconst (nI 5) 111 dX9_init_110 rfl kc_5 ?_
  refine k_iconst (nI 3) 112 dX9_init_111 rfl kc_3 ?_
  refine k_bipush (nI 20) 114 dX9_init_112 rfl kb_20 ?_
  refine k_V4 (ci := 8) 117 dX9_init_114 rfl vX9_init_49 ⟨by omega, by (repeat (refine (va_up_ne _ _ (by omega)).trans ?_)); first | exact va_up_self _ _ _ | assumption⟩ rfl rfl (Nat.le_of_ble_eq_true rfl) rfl ⟨Nat.le_of_ble_eq_true rfl, Nat.le_of_ble_eq_true rfl⟩ (c_X9_stands hC0 hD0 rfl (show oN kqR0.1 < 7 by decide)) (fun r3 w3 x3 => ?_)
  obtain ⟨rfl, dr1, be1, hC1, hD1, hE1⟩ := x3
  have hE := hE.tr (hE1.wd (Nat.le_refl b) (by omega))
  have hD1 : DrI dr1 be1 kqR1 := hD1
  clear z0
  have z0 := hC1.1.2
  refine k_aload_n 118 dX9_init_117 rfl rfl rfl ?_
  refine k_iconst (nI 1) 119 dX9_init_118 rfl kc_1 ?_
  refine k_bipush (nI 9) 121 dX9_init_119 rfl kb_9 ?_
  refine k_iconst (nI 2) 122 dX9_init_121 rfl kc_2 ?_
  refine k_iconst (nI 4) 123 dX9_init_122 rfl kc_4 ?_
  refine k_V4 (ci := 8) 126 dX9_init_123 rfl vX9_init_49 ⟨by omega, by (repeat (refine (va_up_ne _ _ (by omega)).trans ?_)); first | exact va_up_self _ _ _ | assumption⟩ rfl rfl (Nat.le_of_ble_eq_true rfl) rfl ⟨Nat.le_of_ble_eq_true rfl, Nat.le_of_ble_eq_true rfl⟩ (c_X9_stands hC1 hD1 rfl (show oN kqR1.1 < 7 by decide)) (fun r4 w4 x4 => ?_)
  obtain ⟨rfl, dr2, be2, hC2, hD2, hE2⟩ := x4
  have hE := hE.tr (hE2.wd (Nat.le_refl b) (by omega))
  have hD2 : DrI dr2 be2 kqR2 := hD2
  clear z0
  have z0 := hC2.1.2
  refine k_aload_n 127 dX9_init_126 rfl rfl rfl ?_
  refine k_iconst (nI 2) 128 dX9_init_127 rfl kc_2 ?_
  refine k_bipush (nI 7) 130 dX9_init_128 rfl kb_7 ?_
  refine k_iconst (nI 2) 131 dX9_init_130 rfl kc_2 ?_
  refine k_bipush (nI 30) 133 dX9_init_131 rfl kb_30 ?_
  refine k_V4 (ci := 8) 136 dX9_init_133 rfl vX9_init_49 ⟨by omega, by (repeat (refine (va_up_ne _ _ (by omega)).trans ?_)); first | exact va_up_self _ _ _ | assumption⟩ rfl rfl (Nat.le_of_ble_eq_true rfl) rfl ⟨Nat.le_of_ble_eq_true rfl, Nat.le_of_ble_eq_true rfl⟩ (c_X9_stands hC2 hD2 rfl (show oN kqR2.1 < 7 by decide)) (fun r5 w5 x5 => ?_)
  obtain ⟨rfl, dr3, be3, hC3, hD3, hE3⟩ := x5
  have hE := hE.tr (hE3.wd (Nat.le_refl b) (by omega))
  have hD3 : DrI dr3 be3 kqR3 := hD3
  clear z0
  have z0 := hC3.1.2
  refine k_aload_n 137 dX9_init_136 rfl rfl rfl ?_
  refine k_iconst (nI 3) 138 dX9_init_137 rfl kc_3 ?_
  refine k_bipush (nI 12) 140 dX9_init_138 rfl kb_12 ?_
  refine k_iconst (nI 4) 141 dX9_init_140 rfl kc_4 ?_
  refine k_bipush (nI 15) 143 dX9_init_141 rfl kb_15 ?_
  refine k_V4 (ci := 8) 146 dX9_init_143 rfl vX9_init_49 ⟨by omega, by (repeat (refine (va_up_ne _ _ (by omega)).trans ?_)); first | exact va_up_self _ _ _ | assumption⟩ rfl rfl (Nat.le_of_ble_eq_true rfl) rfl ⟨Nat.le_of_ble_eq_true rfl, Nat.le_of_ble_eq_true rfl⟩ (c_X9_stands hC3 hD3 rfl (show oN kqR3.1 < 7 by decide)) (fun r6 w6 x6 => ?_)
  obtain ⟨rfl, dr4, be4, hC4, hD4, hE4⟩ := x6
  have hE := hE.tr (hE4.wd (Nat.le_refl b) (by omega))
  have hD4 : DrI dr4 be4 kqR4 := hD4
  clear z0
  have z0 := hC4.1.2
  refine k_aload_n 147 dX9_init_146 rfl rfl rfl ?_
  refine k_iconst (nI 0) 148 dX9_init_147 rfl kc_0 ?_
  refine k_iconst (nI 3) 149 dX9_init_148 rfl kc_3 ?_
  refine k_iconst (nI 1) 150 dX9_init_149 rfl kc_1 ?_
  refine k_bipush (nI 9) 152 dX9_init_150 rfl kb_9 ?_
  refine k_V4 (ci := 8) 155 dX9_init_152 rfl vX9_init_49 ⟨by omega, by (repeat (refine (va_up_ne _ _ (by omega)).trans ?_)); first | exact va_up_self _ _ _ | assumption⟩ rfl rfl (Nat.le_of_ble_eq_true rfl) rfl ⟨Nat.le_of_ble_eq_true rfl, Nat.le_of_ble_eq_true rfl⟩ (c_X9_stands hC4 hD4 rfl (show oN kqR4.1 < 7 by decide)) (fun r7 w7 x7 => ?_)
  obtain ⟨rfl, dr5, be5, hC5, hD5, hE5⟩ := x7
  have hE := hE.tr (hE5.wd (Nat.le_refl b) (by omega))
  have hD5 : DrI dr5 be5 kqR5 := hD5
  clear z0
  have z0 := hC5.1.2
  refine k_aload_n 156 dX9_init_155 rfl rfl rfl ?_
  refine k_iconst (nI 2) 157 dX9_init_156 rfl kc_2 ?_
  refine k_bipush (nI 15) 159 dX9_init_157 rfl kb_15 ?_
  refine k_iconst (nI 5) 160 dX9_init_159 rfl kc_5 ?_
  refine k_bipush (nI 60) 162 dX9_init_160 rfl kb_60 ?_
  refine k_V4 (ci := 8) 165 dX9_init_162 rfl vX9_init_49 ⟨by omega, by (repeat (refine (va_up_ne _ _ (by omega)).trans ?_)); first | exact va_up_self _ _ _ | assumption⟩ rfl rfl (Nat.le_of_ble_eq_true rfl) rfl ⟨Nat.le_of_ble_eq_true rfl, Nat.le_of_ble_eq_true rfl⟩ (c_X9_stands hC5 hD5 rfl (show oN kqR5.1 < 7 by decide)) (fun r8 w8 x8 => ?_)
  obtain ⟨rfl, dr6, be6, hC6, hD6, hE6⟩ := x8
  have hE := hE.tr (hE6.wd (Nat.le_refl b) (by omega))
  have hD6 : DrI dr6 be6 kqR6 := hD6
  clear z0
  have z0 := hC6.1.2
  have z3 := hC6.2.2.2.1.2
  have z4 := hC6.2.2.2.2.1.2
  refine k_aload_n 166 dX9_init_165 rfl rfl rfl ?_
  refine k_get 169 dX9_init_166 rfl fX9_init_16 ⟨by omega, by (repeat (refine (va_up_ne _ _ (by omega)).trans ?_)); first | exact va_up_self _ _ _ | assumption⟩ (by rfl) ?_
  refine k_iconst (nI 1) 170 dX9_init_169 rfl kc_1 ?_
  refine k_iconst (nI 4) 171 dX9_init_170 rfl kc_4 ?_
  refine k_iastN 172 dX9_init_171 rfl ⟨by omega, by (repeat (refine (va_up_ne _ _ (by omega)).trans ?_)); first | exact va_up_self _ _ _ | assumption⟩ (by omega) (by omega) ?_
  refine k_aload_n 173 dX9_init_172 rfl rfl rfl ?_
  refine k_get 176 dX9_init_173 rfl fX9_init_19 ⟨by omega, by (repeat (refine (va_up_ne _ _ (by omega)).trans ?_)); first | exact va_up_self _ _ _ | assumption⟩ (by rfl) ?_
  refine k_bipush (nI 59) 178 dX9_init_176 rfl kb_59 ?_
  refine k_bipush (nI 6) 180 dX9_init_178 rfl kb_6 ?_
  refine k_iastN 181 dX9_init_180 rfl ⟨by omega, by (repeat (refine (va_up_ne _ _ (by omega)).trans ?_)); first | exact va_up_self _ _ _ | assumption⟩ (by omega) (by omega) ?_
  refine k_aload_n 182 dX9_init_181 rfl rfl rfl ?_
  refine k_get 185 dX9_init_182 rfl fX9_init_19 ⟨by omega, by (repeat (refine (va_up_ne _ _ (by omega)).trans ?_)); first | exact va_up_self _ _ _ | assumption⟩ (by rfl) ?_
  refine k_bipush (nI 37) 187 dX9_init_185 rfl kb_37 ?_
  refine k_iconst (nI 3) 188 dX9_init_187 rfl kc_3 ?_
  refine k_iastN 189 dX9_init_188 rfl ⟨by omega, by (repeat (refine (va_up_ne _ _ (by omega)).trans ?_)); first | exact va_up_self _ _ _ | assumption⟩ (by omega) (by omega) ?_
  refine k_nm (fun w9 hw9 => ?_)
  have hC7 : RsC G (b + 1 + 12) w9 b 0 0 0 0 (.int (nI 0)) (fun _ => 0) (fun _ => 0) (upd dr6 1 (nI 4)) (upd (upd be6 (23 + 36) (nI 6)) (23 + 14) (nI 3)) (fun _ => 0) (fun _ => 0) (fun _ => 0) (fun _ => 0) (fun _ => 0) (fun _ => 0) (fun _ => 0) (fun _ => 0) := by
    obtain ⟨h1, h2, h3, h4, h5, h6, h7, h8, h9, h10, h11, h12, h13⟩ := hC6
    obtain ⟨-, h1⟩ := h1
    obtain ⟨-, h2⟩ := h2
    obtain ⟨-, h3⟩ := h3
    obtain ⟨-, h6⟩ := h6
    obtain ⟨-, h7⟩ := h7
    obtain ⟨-, h8⟩ := h8
    obtain ⟨-, h9⟩ := h9
    obtain ⟨-, h10⟩ := h10
    obtain ⟨-, h11⟩ := h11
    obtain ⟨-, h12⟩ := h12
    obtain ⟨-, h13⟩ := h13
    rw [hw9]
    exact ⟨⟨by omega, by (repeat (refine (va_up_ne _ _ (by omega)).trans ?_)); first | exact va_up_self _ _ _ | assumption⟩, ⟨by omega, by (repeat (refine (va_up_ne _ _ (by omega)).trans ?_)); first | exact va_up_self _ _ _ | assumption⟩, ⟨by omega, by (repeat (refine (va_up_ne _ _ (by omega)).trans ?_)); first | exact va_up_self _ _ _ | assumption⟩, ⟨by omega, by (repeat (refine (va_up_ne _ _ (by omega)).trans ?_)); first | exact va_up_self _ _ _ | assumption⟩, ⟨by omega, by (repeat (refine (va_up_ne _ _ (by omega)).trans ?_)); first | exact va_up_self _ _ _ | assumption⟩, ⟨by omega, by (repeat (refine (va_up_ne _ _ (by omega)).trans ?_)); first | exact va_up_self _ _ _ | assumption⟩, ⟨by omega, by (repeat (refine (va_up_ne _ _ (by omega)).trans ?_)); first | exact va_up_self _ _ _ | assumption⟩, ⟨by omega, by (repeat (refine (va_up_ne _ _ (by omega)).trans ?_)); first | exact va_up_self _ _ _ | assumption⟩, ⟨by omega, by (repeat (refine (va_up_ne _ _ (by omega)).trans ?_)); first | exact va_up_self _ _ _ | assumption⟩, ⟨by omega, by (repeat (refine (va_up_ne _ _ (by omega)).trans ?_)); first | exact va_up_self _ _ _ | assumption⟩, ⟨by omega, by (repeat (refine (va_up_ne _ _ (by omega)).trans ?_)); first | exact va_up_self _ _ _ | assumption⟩, ⟨by omega, by (repeat (refine (va_up_ne _ _ (by omega)).trans ?_)); first | exact va_up_self _ _ _ | assumption⟩, ⟨by omega, by (repeat (refine (va_up_ne _ _ (by omega)).trans ?_)); first | exact va_up_self _ _ _ | assumption⟩⟩
  have hE9 : Eqx w8 w9 b (b + 13) := by
    rw [hw9]
    exact (by (repeat (refine Eqx.up ?_ (by omega) (by omega))); first | exact Eqx.rf | assumption)
  clear hw9
  clear z0 z3 z4
  have z0 := hC7.1.2
  have hD7 : DrI (upd dr6 1 (nI 4)) (upd (upd be6 (23 + 36) (nI 6)) (23 + 14) (nI 3)) kqRf := ((hD6.srv 4).debt (by decide) (by decide) (i := 36) (v := 6) (by omega)).debt (by decide) (by decide) (i := 14) (v := 3) (by omega)
  refine k_aload_n 190 dX9_init_189 rfl rfl rfl ?_
  refine k_V0 (ci := 8) 193 dX9_init_190 rfl vX9_init_53 ⟨by omega, by (repeat (refine (va_up_ne _ _ (by omega)).trans ?_)); first | exact va_up_self _ _ _ | assumption⟩ rfl rfl (Nat.le_of_ble_eq_true rfl) rfl ⟨Nat.le_of_ble_eq_true rfl, Nat.le_of_ble_eq_true rfl⟩ (c_X9_lays hC7 hD7 (by decide) (by decide)) (fun ra wa xa => ?_)
  obtain ⟨rfl, to1, s1, hC8, hV, hM, hE10⟩ := xa
  refine k_vret dX9_init_193 rfl rfl (Nat.le_of_ble_eq_true rfl) ⟨rfl, ⟨_, _, _, _, _, _, _, _, _, _, _, _, _, hC8, fun i hi => absurd hi (Nat.not_lt_zero i), kq_V23 hV, kq_V72 hM, fun i hi => absurd hi (Nat.not_lt_zero i), fun i hi => absurd hi (Nat.not_lt_zero i), fun i hi => absurd hi (Nat.not_lt_zero i), (fun A hA => by cases hA), nI_0.symm⟩, (hE.tr hE9).tr (hE10.wd (Nat.le_refl b) (by omega))⟩
