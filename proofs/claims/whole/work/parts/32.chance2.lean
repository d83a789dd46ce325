/-! Chance: the whole rain, days -/
theorem c_X0_seekServed {G : KG} {N : Nat} {w : WD} {a fo b n p m t : Nat} {x y : Value} {M : Mo} {F : Fo} (h : Is N w a (ChX G a fo b x y)) (hF : FkM G N w fo F) (hca : fo + 4 ≤ a) (hb : ScM G N w b n M) (hba : b + 5 ≤ a) (ht : TrG G N w (a + 1)) (hO : mOK n M) (hK : oOK F) (hn : n = oN F) (hp : p < n) (hm : m < 9) (htn : t ≤ 10) (hG : mG M + 400 < 2000) : KCon G jX0_seekServed N w [rf G a, .int (nI p), .int (nI m), .int (nI t)] (fun r w1 => r = none ∧ Is N w1 a (ChX G a fo b (.int (nI (hit F M p m t (2 ^ m) / Nat.gcd (10 ^ m) (hit F M p m t (2 ^ m))))) (.int (nI (10 ^ m / Nat.gcd (10 ^ m) (hit F M p m t (2 ^ m)))))) ∧ TrG G N w1 (a + 1) ∧ Eqx w w1 a (a + 6)) := by
  have hn7 := hO.2.1
  have hp10 := p10 m hm
  have hp2 := p2 m hm
  have hN := h.1
  have hle := hit_le F M p m t (2 ^ m)
  rw [swg_all m hm t (by omega)] at hle
  refine KCon.of ([some (rf G a), some (.int (nI p)), some (.int (nI m)), some (.int (nI t)), none, none, none, none]) (by decide) rfl (by simp [Value.category]) (Nat.le_of_ble_eq_true rfl) rfl ?_
  refine k_iconst (nI 0) 1 dX0_seekServed_0 rfl kc_0 ?_
  refine k_istore _ 3 dX0_seekServed_1 rfl (by decide) rfl rfl ?_
  refine k_iconst (nI 1) 4 dX0_seekServed_3 rfl kc_1 ?_
  refine k_istore _ 6 dX0_seekServed_4 rfl (by decide) rfl rfl ?_
  refine k_iconst (nI 0) 7 dX0_seekServed_6 rfl kc_0 ?_
  refine k_istore _ 9 dX0_seekServed_7 rfl (by decide) rfl rfl ?_
  have loop1 : ∀ d i, i + d = m → KRun G jX0_seekServed N (fun r w1 => r = none ∧ Is N w1 a (ChX G a fo b (.int (nI (hit F M p m t (2 ^ m) / Nat.gcd (10 ^ m) (hit F M p m t (2 ^ m))))) (.int (nI (10 ^ m / Nat.gcd (10 ^ m) (hit F M p m t (2 ^ m)))))) ∧ TrG G N w1 (a + 1) ∧ Eqx w w1 a (a + 6)) 28 [some (rf G a), some (.int (nI p)), some (.int (nI m)), some (.int (nI t)), some (.int (nI 0)), some (.int (nI (10 ^ m))), some (.int (nI m)), none] [] 0 0 w → KRun G jX0_seekServed N (fun r w1 => r = none ∧ Is N w1 a (ChX G a fo b (.int (nI (hit F M p m t (2 ^ m) / Nat.gcd (10 ^ m) (hit F M p m t (2 ^ m))))) (.int (nI (10 ^ m / Nat.gcd (10 ^ m) (hit F M p m t (2 ^ m)))))) ∧ TrG G N w1 (a + 1) ∧ Eqx w w1 a (a + 6)) 9 [some (rf G a), some (.int (nI p)), some (.int (nI m)), some (.int (nI t)), some (.int (nI 0)), some (.int (nI (10 ^ i))), some (.int (nI i)), none] [] 0 0 w := by
    intro d
    induction d with
    | zero =>
      intro i hi hk
      have him : i = m := by omega
      subst him
      refine k_iload 11 dX0_seekServed_9 rfl rfl ?_
      refine k_iload_n 12 dX0_seekServed_11 rfl rfl rfl ?_
      refine k_icmp_geN 28 15 dX0_seekServed_12 rfl rfl (by omega) (by omega) (fun c => ?_) (fun c => ?_)
      · exact hk
      · omega
    | succ d ih =>
      intro i hi hk
      refine k_iload 11 dX0_seekServed_9 rfl rfl ?_
      refine k_iload_n 12 dX0_seekServed_11 rfl rfl rfl ?_
      refine k_icmp_geN 28 15 dX0_seekServed_12 rfl rfl (by omega) (by omega) (fun c => ?_) (fun c => ?_)
      · omega
      refine k_iload 17 dX0_seekServed_15 rfl rfl ?_
      refine k_bipush (nI 10) 19 dX0_seekServed_17 rfl kb_10 ?_
      first | refine k_imulE _ 20 dX0_seekServed_19 rfl (pk_mul _ _) ?_ | refine k_imul 20 dX0_seekServed_19 rfl ?_
      refine k_istore _ 22 dX0_seekServed_20 rfl (by decide) rfl rfl ?_
      refine k_iinc _ _ 25 dX0_seekServed_22 rfl rfl (nI_inc _) (by decide) rfl rfl ?_
      refine k_goto 9 dX0_seekServed_25 rfl ?_
      exact ih (i + 1) (by omega) hk
  refine loop1 m 0 (by omega) ?_
  have fin : ∀ (w1 : WD) (z : Nat), TrG G N w1 (a + 1) → Eqx w w1 (a + 1) (a + 6) → KRun G jX0_seekServed N (fun r w1 => r = none ∧ Is N w1 a (ChX G a fo b (.int (nI (hit F M p m t (2 ^ m) / Nat.gcd (10 ^ m) (hit F M p m t (2 ^ m))))) (.int (nI (10 ^ m / Nat.gcd (10 ^ m) (hit F M p m t (2 ^ m)))))) ∧ TrG G N w1 (a + 1) ∧ Eqx w w1 a (a + 6)) 77 [some (rf G a), some (.int (nI p)), some (.int (nI m)), some (.int (nI t)), some (.int (nI (hit F M p m t (2 ^ m)))), some (.int (nI (10 ^ m))), some (.int (nI z)), none] [] 0 0 w1 := by
    intro w1 z hT hE
    have h1 := h.eqx hE (by omega)
    generalize hh : hit F M p m t (2 ^ m) = H at *
    have hg0 : 0 < 10 ^ m := Nat.pow_pos (by omega)
    have hg1 : 0 < Nat.gcd (10 ^ m) H := Nat.gcd_pos_of_pos_left _ hg0
    have hg2 : Nat.gcd (10 ^ m) H ≤ 10 ^ m := Nat.gcd_le_left _ hg0
    generalize hp : 10 ^ m = A at *
    refine k_iload 79 dX0_seekServed_77 rfl rfl ?_
    refine k_iload 81 dX0_seekServed_79 rfl rfl ?_
    refine k_S2 84 dX0_seekServed_81 rfl vX0_seekServed_31 (Nat.le_of_ble_eq_true rfl) rfl ⟨Nat.le_of_ble_eq_true rfl, Nat.le_of_ble_eq_true rfl⟩ (c_X0_commonDivisor (by omega) (by omega)) (fun r9 w9 h9 => ?_)
    obtain ⟨h8, h9⟩ := h9
    subst h8
    have h9 := h9.symm
    subst h9
    refine k_istore _ 86 dX0_seekServed_84 rfl (by decide) rfl rfl ?_
    generalize hgg : Nat.gcd A H = g at *
    refine k_iload 88 dX0_seekServed_86 rfl rfl ?_
    refine k_if_leN 109 91 dX0_seekServed_88 rfl rfl (by omega) (fun c => ?_) (fun c => ?_)
    · omega
    refine k_aload_n 92 dX0_seekServed_91 rfl rfl rfl ?_
    refine k_iload 94 dX0_seekServed_92 rfl rfl ?_
    refine k_iload 96 dX0_seekServed_94 rfl rfl ?_
    refine k_idiv _ 97 dX0_seekServed_96 rfl (nI_ne0 hg1 (by omega)) (pk_div (by omega) hg1 (by omega)) ?_
    refine k_put 100 dX0_seekServed_97 rfl pX0_seekServed_35 (by (repeat (refine Is.ne ?_ (by omega))); first | assumption | exact Is.up (by omega)) (Nat.le_of_ble_eq_true rfl) rfl rfl ?_
    refine k_aload_n 101 dX0_seekServed_100 rfl rfl rfl ?_
    refine k_iload 103 dX0_seekServed_101 rfl rfl ?_
    refine k_iload 105 dX0_seekServed_103 rfl rfl ?_
    refine k_idiv _ 106 dX0_seekServed_105 rfl (nI_ne0 hg1 (by omega)) (pk_div (by omega) hg1 (by omega)) ?_
    refine k_put 109 dX0_seekServed_106 rfl pX0_seekServed_39 (by (repeat (refine Is.ne ?_ (by omega))); first | assumption | exact Is.up (by omega)) (Nat.le_of_ble_eq_true rfl) rfl rfl ?_
    refine k_nm (fun w3 hw3 => ?_)
    have hE3 : Eqx w1 w3 a (a + 1) := by
      rw [hw3]
      exact (by (repeat (refine Eqx.up ?_ (by omega) (by omega))); first | exact Eqx.rf | assumption)
    have h3 : Is N w3 a (ChX G a fo b (.int (nI (H / g))) (.int (nI (A / g)))) := by
      rw [hw3]
      exact (by (repeat (refine Is.ne ?_ (by omega))); first | assumption | exact Is.up (by omega))
    clear hw3
    refine k_vret dX0_seekServed_109 rfl rfl (Nat.le_of_ble_eq_true rfl) ⟨rfl, h3, hT.fr hE3 (by omega), (hE.wd (by omega) (by omega)).tr (hE3.wd (by omega) (by omega))⟩
  refine k_iconst (nI 0) 29 dX0_seekServed_28 rfl kc_0 ?_
  refine k_istore _ 31 dX0_seekServed_29 rfl (by decide) rfl rfl ?_
  have loop2 : ∀ d s (w1 : WD), s + d = 2 ^ m → TrG G N w1 (a + 1) → Eqx w w1 (a + 1) (a + 6) → KRun G jX0_seekServed N (fun r w1 => r = none ∧ Is N w1 a (ChX G a fo b (.int (nI (hit F M p m t (2 ^ m) / Nat.gcd (10 ^ m) (hit F M p m t (2 ^ m))))) (.int (nI (10 ^ m / Nat.gcd (10 ^ m) (hit F M p m t (2 ^ m)))))) ∧ TrG G N w1 (a + 1) ∧ Eqx w w1 a (a + 6)) 31 [some (rf G a), some (.int (nI p)), some (.int (nI m)), some (.int (nI t)), some (.int (nI (hit F M p m t s))), some (.int (nI (10 ^ m))), some (.int (nI s)), none] [] 0 0 w1 := by
    intro d
    induction d with
    | zero =>
      intro s w1 hs hT hE
      refine k_iload 33 dX0_seekServed_31 rfl rfl ?_
      refine k_iconst (nI 1) 34 dX0_seekServed_33 rfl kc_1 ?_
      refine k_iload_n 35 dX0_seekServed_34 rfl rfl rfl ?_
      refine k_ishlE _ 36 dX0_seekServed_35 rfl (one_sh m hm) ?_
      refine k_icmp_geN 77 39 dX0_seekServed_36 rfl rfl (by omega) (by omega) (fun c => ?_) (fun c => ?_)
      · have := fin w1 s hT hE
        rw [show hit F M p m t s = hit F M p m t (2 ^ m) by rw [show s = 2 ^ m by omega]]
        exact this
      · omega
    | succ d ih =>
      intro s w1 hs hT hE
      have hb1 := hb.fr hE (by omega)
      have hF1 := hF.fr hE (by omega)
      have h1 := h.eqx hE (by omega)
      have hwb := wgt_b (x := t) hm (by omega) (show s < 2 ^ m by omega)
      refine k_iload 33 dX0_seekServed_31 rfl rfl ?_
      refine k_iconst (nI 1) 34 dX0_seekServed_33 rfl kc_1 ?_
      refine k_iload_n 35 dX0_seekServed_34 rfl rfl rfl ?_
      refine k_ishlE _ 36 dX0_seekServed_35 rfl (one_sh m hm) ?_
      refine k_icmp_geN 77 39 dX0_seekServed_36 rfl rfl (by omega) (by omega) (fun c => ?_) (fun c => ?_)
      · omega
      refine k_iload 41 dX0_seekServed_39 rfl rfl ?_
      refine k_iload_n 42 dX0_seekServed_41 rfl rfl rfl ?_
      refine k_iload_n 43 dX0_seekServed_42 rfl rfl rfl ?_
      refine k_S3 46 dX0_seekServed_43 rfl vX0_seekServed_23 (Nat.le_of_ble_eq_true rfl) rfl ⟨Nat.le_of_ble_eq_true rfl, Nat.le_of_ble_eq_true rfl⟩ (c_X0_weightOf (by omega) hm htn) (fun r9 w9 h9 => ?_)
      obtain ⟨h8, h9⟩ := h9
      subst h8
      have h9 := h9.symm
      subst h9
      refine k_istore _ 48 dX0_seekServed_46 rfl (by decide) rfl rfl ?_
      refine k_iload 50 dX0_seekServed_48 rfl rfl ?_
      have next : ∀ (w2 : WD) (v : Nat), TrG G N w2 (a + 1) → Eqx w w2 (a + 1) (a + 6) → v = hit F M p m t (s + 1) → KRun G jX0_seekServed N (fun r w1 => r = none ∧ Is N w1 a (ChX G a fo b (.int (nI (hit F M p m t (2 ^ m) / Nat.gcd (10 ^ m) (hit F M p m t (2 ^ m))))) (.int (nI (10 ^ m / Nat.gcd (10 ^ m) (hit F M p m t (2 ^ m)))))) ∧ TrG G N w1 (a + 1) ∧ Eqx w w1 a (a + 6)) 71 [some (rf G a), some (.int (nI p)), some (.int (nI m)), some (.int (nI t)), some (.int (nI v)), some (.int (nI (10 ^ m))), some (.int (nI s)), some (.int (nI (wgt s t m)))] [] 0 0 w2 := by
        intro w2 v hT2 hE2 hv
        subst hv
        refine k_iinc _ _ 74 dX0_seekServed_71 rfl rfl (nI_inc _) (by decide) rfl rfl ?_
        refine k_goto 31 dX0_seekServed_74 rfl ?_
        refine k_loc [some (rf G a), some (.int (nI p)), some (.int (nI m)), some (.int (nI t)), some (.int (nI (hit F M p m t (s + 1)))), some (.int (nI (10 ^ m))), some (.int (nI (s + 1))), none] ⟨rfl, rfl, rfl, rfl, rfl, rfl, rfl, trivial⟩ rfl ?_
        exact ih (s + 1) w2 (by omega) hT2 hE2
      refine k_if_leN 71 53 dX0_seekServed_50 rfl rfl (by omega) (fun c => ?_) (fun c => ?_)
      · refine next w1 (hit F M p m t s) hT hE ?_
        simp only [hit]
        rw [c]
        split <;> rfl
      refine k_aload_n 54 dX0_seekServed_53 rfl rfl rfl ?_
      refine k_iload_n 55 dX0_seekServed_54 rfl rfl rfl ?_
      refine k_iload_n 56 dX0_seekServed_55 rfl rfl rfl ?_
      refine k_iload 58 dX0_seekServed_56 rfl rfl ?_
      refine k_V3 (ci := 0) 61 dX0_seekServed_58 rfl vX0_seekServed_27 (by (repeat (refine Is.ne ?_ (by omega))); first | assumption | exact Is.up (by omega)) rfl rfl (Nat.le_of_ble_eq_true rfl) rfl ⟨Nat.le_of_ble_eq_true rfl, Nat.le_of_ble_eq_true rfl⟩ (c_X0_isServedBehind h1 hF1 hca hb1 hba hT hO hK hn hp (by omega) hm hG) (fun r2 w2 x2 => ?_)
      obtain ⟨rfl, hT2, hE2⟩ := x2
      refine k_if_eqB 71 64 dX0_seekServed_61 rfl rfl (fun c9 => ?_) (fun c9 => ?_)
      · have c8 := of_decide_eq_false c9
        refine next w2 (hit F M p m t s) hT2 (hE.tr hE2) ?_
        simp only [hit]
        rw [if_neg c8]
        rfl
      · have c8 := of_decide_eq_true c9
        refine k_iload 66 dX0_seekServed_64 rfl rfl ?_
        refine k_iload 68 dX0_seekServed_66 rfl rfl ?_
        first | refine k_iaddE _ 69 dX0_seekServed_68 rfl (nI_add _ _) ?_ | refine k_iadd 69 dX0_seekServed_68 rfl ?_
        refine k_istore _ 71 dX0_seekServed_69 rfl (by decide) rfl rfl ?_
        refine next w2 (hit F M p m t s + wgt s t m) hT2 (hE.tr hE2) ?_
        simp only [hit]
        rw [if_pos c8]
  exact loop2 (2 ^ m) 0 w (by omega) ht Eqx.rf
def drw (z k : Nat) : Nat := (7919 * z + 6151 * k + 1) * (7919 * z + 6151 * k + 1) % 65521
theorem c_X0_drawOf {G : KG} {N : Nat} {w : WD} {z k : Nat} (hz : z ≤ 9999) (hk : k ≤ 60) : KCon G jX0_drawOf N w [.int (nI z), .int (nI k)] (fun r w1 => r = some (.int (nI (drw z k))) ∧ w1 = w) := by
  have hx : 7919 * z + 6151 * k + 1 ≤ 79551142 := by omega
  have hxx := Nat.mul_le_mul hx hx
  refine KCon.of ([some (.int (nI z)), some (.int (nI k)), none, none]) (by decide) rfl (by simp [Value.category]) (Nat.le_of_ble_eq_true rfl) rfl ?_
  refine k_ldc2 (lN 7919) 3 dX0_drawOf_0 rfl (by decide +kernel) ?_
  refine k_iload_n 4 dX0_drawOf_3 rfl rfl rfl ?_
  refine k_i2l _ 5 dX0_drawOf_4 rfl (nI_l (by omega)) ?_
  refine k_lmul _ 6 dX0_drawOf_5 rfl (lN_mul _ _) ?_
  refine k_ldc2 (lN 6151) 9 dX0_drawOf_6 rfl (by decide +kernel) ?_
  refine k_iload_n 10 dX0_drawOf_9 rfl rfl rfl ?_
  refine k_i2l _ 11 dX0_drawOf_10 rfl (nI_l (by omega)) ?_
  refine k_lmul _ 12 dX0_drawOf_11 rfl (lN_mul _ _) ?_
  refine k_ladd _ 13 dX0_drawOf_12 rfl (lN_add _ _) ?_
  refine k_lconst _ 14 dX0_drawOf_13 rfl rfl ?_
  refine k_ladd _ 15 dX0_drawOf_14 rfl (lN_1 _) ?_
  refine k_lstore_n _ 16 dX0_drawOf_15 rfl rfl (by decide) rfl rfl ?_
  refine k_lload_n 17 dX0_drawOf_16 rfl rfl rfl ?_
  refine k_lload_n 18 dX0_drawOf_17 rfl rfl rfl ?_
  refine k_lmul _ 19 dX0_drawOf_18 rfl (lN_mul _ _) ?_
  refine k_ldc2 (lN 65521) 22 dX0_drawOf_19 rfl (by decide +kernel) ?_
  refine k_lrem _ 23 dX0_drawOf_22 rfl (by decide) (pk_lRem (by omega) (by omega) (by omega)) ?_
  refine k_l2i _ 24 dX0_drawOf_23 rfl (lN_i _) ?_
  refine k_iret dX0_drawOf_24 rfl rfl (Nat.le_of_ble_eq_true rfl) ⟨rfl, rfl⟩
def act (F : Fo) (M : Mo) (d : Nat) : Mo :=
  if d % 8 < 2 then (match plc M (d / 8 % oN F) with
    | none => ins M (d / 8 % oN F) (mL M)
    | some _ => M)
  else if d % 8 = 2 then (if mayl M (d / 8 % oN F) (d / 64 % oN F) = true then letp M (d / 8 % oN F) (d / 64 % oN F) else M)
  else if d % 8 = 3 then setl M (d / 8 % oN F) (d / 64 % oN F)
  else M
theorem ok_act {n d : Nat} {M : Mo} {F : Fo} (h : mOK n M) (hn : n = oN F) (h1 : 1 ≤ n) : mOK n (act F M d) ∧ mG (act F M d) = mG M := by
  have q1 : d / 8 % oN F < n := by rw [hn]; exact Nat.mod_lt _ (by omega)
  have q2 : d / 64 % oN F < n := by rw [hn]; exact Nat.mod_lt _ (by omega)
  unfold act
  split
  · cases e : plc M (d / 8 % oN F) with
    | none => exact ⟨ok_ins h q1 (plc_no e) (Nat.le_refl _), rfl⟩
    | some k => exact ⟨h, rfl⟩
  · split
    · split
      · next hl =>
        refine ⟨ok_letp h hl, ?_⟩
        unfold letp
        cases plc M (d / 8 % oN F) <;> cases plc M (d / 64 % oN F) <;> rfl
      · exact ⟨h, rfl⟩
    · split
      · exact ⟨ok_setl h q1 q2, rfl⟩
      · exact ⟨h, rfl⟩
def dyM (F : Fo) (M : Mo) (z : Nat) : Nat → Mo
  | 0 => M
  | k + 1 => mnt F true (act F (dyM F M z k) (drw z k))
theorem ok_dy {n z : Nat} {M : Mo} {F : Fo} (h : mOK n M) (hF : oOK F) (hn : n = oN F) (h1 : 1 ≤ n) : ∀ k, mG M + k ≤ 2000 → mOK n (dyM F M z k) ∧ mG (dyM F M z k) = mG M + k := by
  intro k
  induction k with
  | zero => exact fun _ => ⟨h, rfl⟩
  | succ k ih =>
    intro hk
    obtain ⟨i1, i2⟩ := ih (by omega)
    obtain ⟨j1, j2⟩ := ok_act (d := drw z k) i1 hn h1
    exact ⟨ok_mnt j1 hF hn (by omega), by simp only [dyM]; rw [mnt_G, j2, i2]; rfl⟩
theorem c_X0_actByDraw {G : KG} {N : Nat} {w : WD} {a fo b n d : Nat} {x y : Value} {M : Mo} {F : Fo} (h : Is N w a (ChX G a fo b x y)) (hF : FkM G N w fo F) (hM : ScM G N w (a + 1) n M) (hO : mOK n M) (hn : n = oN F) (h1 : 1 ≤ n) (hd : d < 65521) : KCon G jX0_actByDraw N w [rf G a, .int (nI d)] (fun r w1 => r = none ∧ ScM G N w1 (a + 1) n (act F M d) ∧ Eqx w w1 (a + 1) (a + 6)) := by
  have hn7 := hO.2.1
  have hL7 := ok_l7 hO
  have hQ := ok_q7 hO
  have q1 : d / 8 % oN F < n := by rw [hn]; exact Nat.mod_lt _ (by omega)
  have q2 : d / 64 % oN F < n := by rw [hn]; exact Nat.mod_lt _ (by omega)
  obtain ⟨kd, wo, pe, ⟨f0, -⟩, -⟩ := id hF
  obtain ⟨l2, wh2, pu2, db2, ⟨s0, -⟩, -⟩ := id hM
  have e8 : ¬ nI 8 = 0 := nI_ne0 (by omega) (by omega)
  have e64 : ¬ nI 64 = 0 := nI_ne0 (by omega) (by omega)
  have eN : ¬ nI (oN F) = 0 := nI_ne0 (by omega) (by omega)
  refine KCon.of ([some (rf G a), some (.int (nI d)), none, none]) (by decide) rfl (by simp [Value.category]) (Nat.le_of_ble_eq_true rfl) rfl ?_
  refine k_aload_n 1 dX0_actByDraw_0 rfl rfl rfl ?_
  refine k_get 4 dX0_actByDraw_1 rfl fX0_actByDraw_16 (by (repeat (refine Is.ne ?_ (by omega))); first | assumption | exact Is.up (by omega)) (by rfl) ?_
  refine k_get 7 dX0_actByDraw_4 rfl fX0_actByDraw_67 (by (repeat (refine Is.ne ?_ (by omega))); first | assumption | exact Is.up (by omega)) (by rfl) ?_
  refine k_iconst (nI 1) 8 dX0_actByDraw_7 rfl kc_1 ?_
  refine k_icmp_geN 12 11 dX0_actByDraw_8 rfl rfl (by omega) (by omega) (fun c => ?_) (fun c => ?_)
  rotate_left
  · omega
  refine k_iload_n 13 dX0_actByDraw_12 rfl rfl rfl ?_
  refine k_bipush (nI 8) 15 dX0_actByDraw_13 rfl kb_8 ?_
  refine k_idiv _ 16 dX0_actByDraw_15 rfl e8 (pk_div (by omega) (by omega) (by omega)) ?_
  refine k_aload_n 17 dX0_actByDraw_16 rfl rfl rfl ?_
  refine k_get 20 dX0_actByDraw_17 rfl fX0_actByDraw_16 (by (repeat (refine Is.ne ?_ (by omega))); first | assumption | exact Is.up (by omega)) (by rfl) ?_
  refine k_get 23 dX0_actByDraw_20 rfl fX0_actByDraw_67 (by (repeat (refine Is.ne ?_ (by omega))); first | assumption | exact Is.up (by omega)) (by rfl) ?_
  refine k_irem _ 24 dX0_actByDraw_23 rfl eN (pk_rem (by omega) (by omega) (by omega)) ?_
  refine k_istore_n _ 25 dX0_actByDraw_24 rfl rfl (by decide) rfl rfl ?_
  refine k_iload_n 26 dX0_actByDraw_25 rfl rfl rfl ?_
  refine k_bipush (nI 64) 28 dX0_actByDraw_26 rfl kb_64 ?_
  refine k_idiv _ 29 dX0_actByDraw_28 rfl e64 (pk_div (by omega) (by omega) (by omega)) ?_
  refine k_aload_n 30 dX0_actByDraw_29 rfl rfl rfl ?_
  refine k_get 33 dX0_actByDraw_30 rfl fX0_actByDraw_16 (by (repeat (refine Is.ne ?_ (by omega))); first | assumption | exact Is.up (by omega)) (by rfl) ?_
  refine k_get 36 dX0_actByDraw_33 rfl fX0_actByDraw_67 (by (repeat (refine Is.ne ?_ (by omega))); first | assumption | exact Is.up (by omega)) (by rfl) ?_
  refine k_irem _ 37 dX0_actByDraw_36 rfl eN (pk_rem (by omega) (by omega) (by omega)) ?_
  refine k_istore_n _ 38 dX0_actByDraw_37 rfl rfl (by decide) rfl rfl ?_
  refine k_iload_n 39 dX0_actByDraw_38 rfl rfl rfl ?_
  refine k_bipush (nI 8) 41 dX0_actByDraw_39 rfl kb_8 ?_
  refine k_irem _ 42 dX0_actByDraw_41 rfl e8 (pk_rem (by omega) (by omega) (by omega)) ?_
  have hdm : d % 8 < 8 := Nat.mod_lt _ (by omega)
  have fin : ∀ w1 : WD, ScM G N w1 (a + 1) n (act F M d) → Eqx w w1 (a + 1) (a + 6) → KRun G jX0_actByDraw N (fun r w1 => r = none ∧ ScM G N w1 (a + 1) n (act F M d) ∧ Eqx w w1 (a + 1) (a + 6)) 130 [some (rf G a), some (.int (nI d)), some (.int (nI (d / 8 % oN F))), some (.int (nI (d / 64 % oN F)))] [] 0 0 w1 := by
    intro w1 hS hE
    refine k_vret dX0_actByDraw_130 rfl rfl (Nat.le_of_ble_eq_true rfl) ⟨rfl, hS, hE⟩
  by_cases c2 : d % 8 < 2
  · have hc : KRun G jX0_actByDraw N (fun r w1 => r = none ∧ ScM G N w1 (a + 1) n (act F M d) ∧ Eqx w w1 (a + 1) (a + 6)) 72 [some (rf G a), some (.int (nI d)), some (.int (nI (d / 8 % oN F))), some (.int (nI (d / 64 % oN F)))] [] 0 0 w := by
      refine k_aload_n 73 dX0_actByDraw_72 rfl rfl rfl ?_
      refine k_get 76 dX0_actByDraw_73 rfl fX0_actByDraw_10 (by (repeat (refine Is.ne ?_ (by omega))); first | assumption | exact Is.up (by omega)) (by rfl) ?_
      refine k_iload_n 77 dX0_actByDraw_76 rfl rfl rfl ?_
      refine k_V1 (ci := 3) 80 dX0_actByDraw_77 rfl vX0_actByDraw_72 (by (repeat (refine Is.ne ?_ (by omega))); first | assumption | exact Is.up (by omega)) rfl rfl (Nat.le_of_ble_eq_true rfl) rfl ⟨Nat.le_of_ble_eq_true rfl, Nat.le_of_ble_eq_true rfl⟩ (c_X4_isQueued hM hL7 hQ (by omega)) (fun r9 w9 h9 => ?_)
      obtain ⟨h8, h9⟩ := h9
      subst h8
      have h9 := h9.symm
      subst h9
      refine k_if_neB 130 83 dX0_actByDraw_80 rfl rfl (fun c9 => ?_) (fun c9 => ?_)
      · refine fin w ?_ Eqx.rf
        unfold act
        rw [if_pos c2]
        cases e : plc M (d / 8 % oN F) with
        | none => rw [e] at c9; exact absurd c9 (by simp)
        | some k => exact hM
      · cases e : plc M (d / 8 % oN F) with
        | some k => rw [e] at c9; exact absurd c9 (by simp)
        | none =>
          have hfull := ok_full hO q1 (plc_no e)
          refine k_aload_n 84 dX0_actByDraw_83 rfl rfl rfl ?_
          refine k_get 87 dX0_actByDraw_84 rfl fX0_actByDraw_10 (by (repeat (refine Is.ne ?_ (by omega))); first | assumption | exact Is.up (by omega)) (by rfl) ?_
          refine k_iload_n 88 dX0_actByDraw_87 rfl rfl rfl ?_
          refine k_V1 (ci := 3) 91 dX0_actByDraw_88 rfl vX0_actByDraw_75 (by (repeat (refine Is.ne ?_ (by omega))); first | assumption | exact Is.up (by omega)) rfl rfl (Nat.le_of_ble_eq_true rfl) rfl ⟨Nat.le_of_ble_eq_true rfl, Nat.le_of_ble_eq_true rfl⟩ (c_X4_append hM (by omega) (by omega) hn7) (fun r2 w2 x2 => ?_)
          obtain ⟨rfl, hS2, hE2⟩ := x2
          refine k_goto 130 dX0_actByDraw_91 rfl ?_
          refine fin w2 ?_ hE2
          unfold act
          rw [if_pos c2, e]
          exact hS2
    have h2 : d % 8 = 0 ∨ d % 8 = 1 := by omega
    rcases h2 with e | e
    · rw [e]
      refine k_tableIn (off := 30) 72 dX0_actByDraw_42 (by decide) (by decide) (by decide +kernel) rfl ?_
      exact hc
    · rw [e]
      refine k_tableIn (off := 30) 72 dX0_actByDraw_42 (by decide) (by decide) (by decide +kernel) rfl ?_
      exact hc
  · by_cases c3 : d % 8 = 2
    · rw [c3]
      refine k_tableIn (off := 52) 94 dX0_actByDraw_42 (by decide) (by decide) (by decide +kernel) rfl ?_
      refine k_aload_n 95 dX0_actByDraw_94 rfl rfl rfl ?_
      refine k_get 98 dX0_actByDraw_95 rfl fX0_actByDraw_10 (by (repeat (refine Is.ne ?_ (by omega))); first | assumption | exact Is.up (by omega)) (by rfl) ?_
      refine k_iload_n 99 dX0_actByDraw_98 rfl rfl rfl ?_
      refine k_iload_n 100 dX0_actByDraw_99 rfl rfl rfl ?_
      refine k_V2 (ci := 3) 103 dX0_actByDraw_100 rfl vX0_actByDraw_78 (by (repeat (refine Is.ne ?_ (by omega))); first | assumption | exact Is.up (by omega)) rfl rfl (Nat.le_of_ble_eq_true rfl) rfl ⟨Nat.le_of_ble_eq_true rfl, Nat.le_of_ble_eq_true rfl⟩ (c_X4_canLet hM hL7 hQ (by omega) (by omega)) (fun r9 w9 h9 => ?_)
      obtain ⟨h8, h9⟩ := h9
      subst h8
      have h9 := h9.symm
      subst h9
      refine k_if_eqB 130 106 dX0_actByDraw_103 rfl rfl (fun c9 => ?_) (fun c9 => ?_)
      · refine fin w ?_ Eqx.rf
        unfold act
        rw [if_neg c2, if_pos c3, if_neg (by simp [c9])]
        exact hM
      · refine k_aload_n 107 dX0_actByDraw_106 rfl rfl rfl ?_
        refine k_get 110 dX0_actByDraw_107 rfl fX0_actByDraw_10 (by (repeat (refine Is.ne ?_ (by omega))); first | assumption | exact Is.up (by omega)) (by rfl) ?_
        refine k_iload_n 111 dX0_actByDraw_110 rfl rfl rfl ?_
        refine k_iload_n 112 dX0_actByDraw_111 rfl rfl rfl ?_
        refine k_V2 (ci := 3) 115 dX0_actByDraw_112 rfl vX0_actByDraw_82 (by (repeat (refine Is.ne ?_ (by omega))); first | assumption | exact Is.up (by omega)) rfl rfl (Nat.le_of_ble_eq_true rfl) rfl ⟨Nat.le_of_ble_eq_true rfl, Nat.le_of_ble_eq_true rfl⟩ (c_X4_letPast hM hO c9) (fun r2 w2 x2 => ?_)
        obtain ⟨rfl, hS2, hE2⟩ := x2
        refine k_goto 130 dX0_actByDraw_115 rfl ?_
        refine fin w2 ?_ hE2
        unfold act
        rw [if_neg c2, if_pos c3, if_pos c9]
        exact hS2
    · by_cases c4 : d % 8 = 3
      · rw [c4]
        refine k_tableIn (off := 76) 118 dX0_actByDraw_42 (by decide) (by decide) (by decide +kernel) rfl ?_
        refine k_aload_n 119 dX0_actByDraw_118 rfl rfl rfl ?_
        refine k_get 122 dX0_actByDraw_119 rfl fX0_actByDraw_10 (by (repeat (refine Is.ne ?_ (by omega))); first | assumption | exact Is.up (by omega)) (by rfl) ?_
        refine k_iload_n 123 dX0_actByDraw_122 rfl rfl rfl ?_
        refine k_iload_n 124 dX0_actByDraw_123 rfl rfl rfl ?_
        refine k_V2 (ci := 3) 127 dX0_actByDraw_124 rfl vX0_actByDraw_86 (by (repeat (refine Is.ne ?_ (by omega))); first | assumption | exact Is.up (by omega)) rfl rfl (Nat.le_of_ble_eq_true rfl) rfl ⟨Nat.le_of_ble_eq_true rfl, Nat.le_of_ble_eq_true rfl⟩ (c_X4_settle hM hO q1 q2) (fun r2 w2 x2 => ?_)
        obtain ⟨rfl, hS2, hE2⟩ := x2
        refine k_goto 130 dX0_actByDraw_127 rfl ?_
        refine fin w2 ?_ hE2
        unfold act
        rw [if_neg c2, if_neg c3, if_pos c4]
        exact hS2
      · refine k_tableOut 130 dX0_actByDraw_42 (Or.inr ?_) rfl ?_
        · rw [nI_toInt (by omega)]
          omega
        · refine fin w ?_ Eqx.rf
          unfold act
          rw [if_neg c2, if_neg c3, if_neg c4]
          exact hM
theorem c_X0_sceneBehindDay {G : KG} {N : Nat} {w : WD} {a fo b n z m : Nat} {x y : Value} {M : Mo} {F : Fo} (h : Is N w a (ChX G a fo b x y)) (hF : FkM G N w fo F) (hca : fo + 4 ≤ a) (hb : ScM G N w b n M) (hba : b + 5 ≤ a) (ht : TrG G N w (a + 1)) (hO : mOK n M) (hK : oOK F) (hn : n = oN F) (h1n : 1 ≤ n) (hz : z ≤ 9999) (hm : m ≤ 60) (hG : mG M + 500 < 2000) : KCon G jX0_sceneBehindDay N w [rf G a, .int (nI z), .int (nI m)] (fun r w1 => r = some (rf G (a + 1)) ∧ ScM G N w1 (a + 1) n (dyM F M z m) ∧ Eqx w w1 (a + 1) (a + 6)) := by
  have hn7 := hO.2.1
  have hL7 := ok_l7 hO
  obtain ⟨l, wh, pu, db, len, gone, hR⟩ := ht
  obtain ⟨t0, -⟩ := id hR
  refine KCon.of ([some (rf G a), some (.int (nI z)), some (.int (nI m)), none]) (by decide) rfl (by simp [Value.category]) (Nat.le_of_ble_eq_true rfl) rfl ?_
  refine k_aload_n 1 dX0_sceneBehindDay_0 rfl rfl rfl ?_
  refine k_get 4 dX0_sceneBehindDay_1 rfl fX0_sceneBehindDay_10 (by (repeat (refine Is.ne ?_ (by omega))); first | assumption | exact Is.up (by omega)) (by rfl) ?_
  refine k_aload_n 5 dX0_sceneBehindDay_4 rfl rfl rfl ?_
  refine k_get 8 dX0_sceneBehindDay_5 rfl fX0_sceneBehindDay_20 (by (repeat (refine Is.ne ?_ (by omega))); first | assumption | exact Is.up (by omega)) (by rfl) ?_
  refine k_V1 (ci := 3) 11 dX0_sceneBehindDay_8 rfl vX0_sceneBehindDay_42 (by (repeat (refine Is.ne ?_ (by omega))); first | assumption | exact Is.up (by omega)) rfl rfl (Nat.le_of_ble_eq_true rfl) rfl ⟨Nat.le_of_ble_eq_true rfl, Nat.le_of_ble_eq_true rfl⟩ (c_X4_copyFrom hR hb (by omega) hn7 hL7) (fun r1 w1 x1 => ?_)
  obtain ⟨rfl, hS1, hE1⟩ := x1
  refine k_iconst (nI 0) 12 dX0_sceneBehindDay_11 rfl kc_0 ?_
  refine k_istore_n _ 13 dX0_sceneBehindDay_12 rfl rfl (by decide) rfl rfl ?_
  have loop : ∀ d k (w1 : WD), k + d = m → ScM G N w1 (a + 1) n (dyM F M z k) → Eqx w w1 (a + 1) (a + 6) → KRun G jX0_sceneBehindDay N (fun r w1 => r = some (rf G (a + 1)) ∧ ScM G N w1 (a + 1) n (dyM F M z m) ∧ Eqx w w1 (a + 1) (a + 6)) 13 [some (rf G a), some (.int (nI z)), some (.int (nI m)), some (.int (nI k))] [] 0 0 w1 := by
    intro d
    induction d with
    | zero =>
      intro k w1 hk hS hE
      have h1 := h.eqx hE (by omega)
      refine k_iload_n 14 dX0_sceneBehindDay_13 rfl rfl rfl ?_
      refine k_iload_n 15 dX0_sceneBehindDay_14 rfl rfl rfl ?_
      refine k_icmp_geN 45 18 dX0_sceneBehindDay_15 rfl rfl (by omega) (by omega) (fun c => ?_) (fun c => ?_)
      · refine k_aload_n 46 dX0_sceneBehindDay_45 rfl rfl rfl ?_
        refine k_get 49 dX0_sceneBehindDay_46 rfl fX0_sceneBehindDay_10 (by (repeat (refine Is.ne ?_ (by omega))); first | assumption | exact Is.up (by omega)) (by rfl) ?_
        refine k_aret dX0_sceneBehindDay_49 rfl (Or.inr ⟨_, rfl⟩) rfl (Nat.le_of_ble_eq_true rfl) ⟨rfl, by rw [show m = k by omega]; exact hS, hE⟩
      · omega
    | succ d ih =>
      intro k w1 hk hS hE
      have h1 := h.eqx hE (by omega)
      have hF1 := hF.fr hE (by omega)
      obtain ⟨hOk, hGk⟩ := ok_dy (z := z) hO hK hn h1n k (by omega)
      obtain ⟨hOa, hGa⟩ := ok_act (d := drw z k) hOk hn h1n
      have hdr : drw z k < 65521 := Nat.mod_lt _ (by omega)
      refine k_iload_n 14 dX0_sceneBehindDay_13 rfl rfl rfl ?_
      refine k_iload_n 15 dX0_sceneBehindDay_14 rfl rfl rfl ?_
      refine k_icmp_geN 45 18 dX0_sceneBehindDay_15 rfl rfl (by omega) (by omega) (fun c => ?_) (fun c => ?_)
      · omega
      refine k_aload_n 19 dX0_sceneBehindDay_18 rfl rfl rfl ?_
      refine k_iload_n 20 dX0_sceneBehindDay_19 rfl rfl rfl ?_
      refine k_iload_n 21 dX0_sceneBehindDay_20 rfl rfl rfl ?_
      refine k_S2 24 dX0_sceneBehindDay_21 rfl vX0_sceneBehindDay_54 (Nat.le_of_ble_eq_true rfl) rfl ⟨Nat.le_of_ble_eq_true rfl, Nat.le_of_ble_eq_true rfl⟩ (c_X0_drawOf hz (by omega)) (fun r9 w9 h9 => ?_)
      obtain ⟨h8, h9⟩ := h9
      subst h8
      have h9 := h9.symm
      subst h9
      refine k_V1 (ci := 0) 27 dX0_sceneBehindDay_24 rfl vX0_sceneBehindDay_57 (by (repeat (refine Is.ne ?_ (by omega))); first | assumption | exact Is.up (by omega)) rfl rfl (Nat.le_of_ble_eq_true rfl) rfl ⟨Nat.le_of_ble_eq_true rfl, Nat.le_of_ble_eq_true rfl⟩ (c_X0_actByDraw h1 hF1 hS hOk hn h1n hdr) (fun r2 w2 x2 => ?_)
      obtain ⟨rfl, hS2, hE2⟩ := x2
      have h2 := h1.eqx hE2 (by omega)
      have hF2 := hF1.fr hE2 (by omega)
      obtain ⟨l2, wh2, pu2, db2, ⟨s0, -⟩, -⟩ := id hS2
      refine k_aload_n 28 dX0_sceneBehindDay_27 rfl rfl rfl ?_
      refine k_get 31 dX0_sceneBehindDay_28 rfl fX0_sceneBehindDay_10 (by (repeat (refine Is.ne ?_ (by omega))); first | assumption | exact Is.up (by omega)) (by rfl) ?_
      refine k_aload_n 32 dX0_sceneBehindDay_31 rfl rfl rfl ?_
      refine k_get 35 dX0_sceneBehindDay_32 rfl fX0_sceneBehindDay_16 (by (repeat (refine Is.ne ?_ (by omega))); first | assumption | exact Is.up (by omega)) (by rfl) ?_
      refine k_iconst (nI 1) 36 dX0_sceneBehindDay_35 rfl kc_1 ?_
      refine k_V2 (ci := 3) 39 dX0_sceneBehindDay_36 rfl vX0_sceneBehindDay_46 (by (repeat (refine Is.ne ?_ (by omega))); first | assumption | exact Is.up (by omega)) rfl rfl (Nat.le_of_ble_eq_true rfl) rfl ⟨Nat.le_of_ble_eq_true rfl, Nat.le_of_ble_eq_true rfl⟩ (c_X4_runMinute (pb := true) hS2 hF2 (by omega) hOa hK hn (by omega)) (fun r3 w3 x3 => ?_)
      obtain ⟨rfl, hS3, hE3⟩ := x3
      refine k_iinc _ _ 42 dX0_sceneBehindDay_39 rfl rfl (nI_inc _) (by decide) rfl rfl ?_
      refine k_goto 13 dX0_sceneBehindDay_42 rfl ?_
      exact ih (k + 1) w3 (by omega) hS3 ((hE.tr hE2).tr hE3)
  exact loop m 0 w1 (by omega) hS1 hE1
