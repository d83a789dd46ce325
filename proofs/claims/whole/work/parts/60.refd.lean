/-! KerbQueueModel: what is best -/
theorem kb_61 : (Int8.ofInt 61).toInt32 = nI 61 := by decide +kernel
theorem kb_37 : (Int8.ofInt 37).toInt32 = nI 37 := by decide +kernel
theorem letp_W {M : Mo} {a b p : Nat} (h : mW M p = 0) : mW (letp M a b) p = 0 := by
  unfold letp
  cases e1 : plc M a with
  | none => exact h
  | some i =>
    cases e2 : plc M b with
    | none => exact h
    | some j =>
      obtain ⟨hj1, hj2⟩ := plc_some e2
      show sf (sf (mW M) (mQ M j) 2) b 0 p = 0
      rw [hj2, sf_sf]
      by_cases e : p = b
      · rw [e, sf_s]
      · rw [sf_n _ _ e]
        exact h
theorem letp_G (M : Mo) (a b : Nat) : mG (letp M a b) = mG M := by
  unfold letp
  cases plc M a with
  | none => rfl
  | some i =>
    cases plc M b with
    | none => rfl
    | some j => rfl
def hzI (o : Option (Nat × Int)) : Int32 := match o with
  | none => nI 99
  | some (k, _) => nI k
def hzJ (o : Option (Nat × Int)) : Int := match o with
  | none => 61
  | some (_, v) => v
def hzB (o : Option (Nat × Int)) : Prop := ∀ q, o = some q → 1 ≤ q.2 ∧ q.2 ≤ 60
theorem hzJ_b {o : Option (Nat × Int)} (h : hzB o) : 1 ≤ hzJ o ∧ hzJ o ≤ 61 := by
  cases o with
  | none => exact ⟨by decide, by decide⟩
  | some q =>
    have := h q rfl
    exact ⟨this.1, by show q.2 ≤ 61; omega⟩
theorem ofs_lt {o : Option (Nat × Int)} {k i : Nat} (hb : hzB o) (hi : i < 60) (h : ((i + 1 : Nat) : Int) < hzJ o) : ofs o k (some i) = some (k, ((i + 1 : Nat) : Int)) := by
  cases o with
  | none => rfl
  | some q =>
    obtain ⟨c, u⟩ := q
    have h : ((i + 1 : Nat) : Int) < u := h
    simp only [ofs]
    rw [if_pos h]
theorem ofs_ge {o : Option (Nat × Int)} {k i : Nat} (hb : hzB o) (hi : i < 60) (h : ¬ ((i + 1 : Nat) : Int) < hzJ o) : ofs o k (some i) = o := by
  cases o with
  | none => exact absurd (show ((i + 1 : Nat) : Int) < 61 by omega) h
  | some q =>
    obtain ⟨c, u⟩ := q
    have h : ¬ ((i + 1 : Nat) : Int) < u := h
    simp only [ofs]
    rw [if_neg h]
theorem ofs_B {o : Option (Nat × Int)} {k : Nat} {x : Option Nat} (hb : hzB o) (hx : ∀ i, x = some i → i < 60) : hzB (ofs o k x) := by
  cases x with
  | none => exact hb
  | some i =>
    have hi := hx i rfl
    by_cases h : ((i + 1 : Nat) : Int) < hzJ o
    · rw [ofs_lt hb hi h]
      intro q hq
      cases hq
      dsimp only
      omega
    · rw [ofs_ge hb hi h]
      exact hb
theorem hsi_B {F : Fo} {M : Mo} {p one : Nat} : ∀ k o, hzB o → hzB (hsi F M p one k o) := by
  intro k
  induction k with
  | zero => exact fun o h => h
  | succ k ih =>
    intro o h
    simp only [hsi]
    split
    · exact ofs_B (ih o h) (fun i hi => wtn_b i hi)
    · exact ih o h
theorem hso_B {F : Fo} {M : Mo} {p : Nat} : ∀ k, hzB (hso F M p k) := by
  intro k
  induction k with
  | zero => exact ofs_B (fun q hq => by cases hq) (fun i hi => wtn_b i hi)
  | succ k ih => exact hsi_B _ _ ih
theorem mayl_self (M : Mo) (a : Nat) : mayl M a a = false := by
  unfold mayl
  cases plc M a with
  | none => rfl
  | some i => exact decide_eq_false (by omega)
theorem c_X9_haste {G : KG} {N : Nat} {w : WD} {b : Nat} {x y : Int32} {S : St} (h : RsM G N w b S (qM S) none) (hO : sOK S) : KCon G jX9_haste N w [rf G b, .int x, .int y] (RpO G N w b (a_haste S x y)) := by
  obtain ⟨at_, s, to_, g0, g5, v3, g2, v2⟩ := h.ob
  obtain ⟨o1, o2, ⟨o3, o4⟩, o5, o6, -⟩ := hO
  have hn7 := o1.1
  have hL7 := ok_l7 o3
  refine KCon.of ([some (rf G b), some (.int x), some (.int y), none, none, none, none, none]) (by decide) rfl (by simp [Value.category]) (Nat.le_of_ble_eq_true rfl) rfl ?_
  have bad : a_haste S x y = (-1, S) → KRun G jX9_haste N (RpO G N w b (a_haste S x y)) 17 [some (rf G b), some (.int x), some (.int y), none, none, none, none, none] [] 0 0 w := by
    intro ea
    rw [ea]
    refine k_iconst (-1) 18 dX9_haste_17 rfl km_1 ?_
    refine k_iret dX9_haste_18 rfl rfl (Nat.le_of_ble_eq_true rfl) ⟨rfl, h, Eqx.rf⟩
  refine k_aload_n 1 dX9_haste_0 rfl rfl rfl ?_
  refine k_iload_n 2 dX9_haste_1 rfl rfl rfl ?_
  refine k_V1 (ci := 8) 5 dX9_haste_2 rfl vX9_haste_102 (by (repeat (refine Is.ne ?_ (by omega))); first | assumption | exact Is.up (by omega)) rfl rfl (Nat.le_of_ble_eq_true rfl) rfl ⟨Nat.le_of_ble_eq_true rfl, Nat.le_of_ble_eq_true rfl⟩ (c_X9_isOne h o2 hn7) (fun r9 w9 h9 => ?_)
  obtain ⟨h8, h9⟩ := h9
  subst h8
  have h9 := h9.symm
  subst h9
  rcases prs_c hn7 x with ⟨p, hp, rfl, e⟩ | ⟨hno, e⟩
  · rw [e]
    refine k_if_eqB 17 8 dX9_haste_5 rfl rfl (fun c9 => absurd c9 (by simp)) (fun c9 => ?_)
    refine k_iload_n 9 dX9_haste_8 rfl rfl rfl ?_
    refine k_iconst (nI 0) 10 dX9_haste_9 rfl kc_0 ?_
    refine k_iconst (nI 1) 11 dX9_haste_10 rfl kc_1 ?_
    refine k_S3 14 dX9_haste_11 rfl vX9_haste_56 (Nat.le_of_ble_eq_true rfl) rfl ⟨Nat.le_of_ble_eq_true rfl, Nat.le_of_ble_eq_true rfl⟩ (c_X9_inN (by omega) (by omega)) (fun r9 w9 h9 => ?_)
    obtain ⟨h8, h9⟩ := h9
    subst h8
    have h9 := h9.symm
    subst h9
    rcases rgn_c 0 1 y with ⟨u, w1', w2', rfl, e3⟩ | ⟨hz, e3⟩
    · rw [e3]
      refine k_if_neB 19 17 dX9_haste_14 rfl rfl (fun c9 => ?_) (fun c9 => absurd c9 (by simp))
      refine k_aload_n 20 dX9_haste_19 rfl rfl rfl ?_
      refine k_iload_n 21 dX9_haste_20 rfl rfl rfl ?_
      refine k_V1 (ci := 8) 24 dX9_haste_21 rfl vX9_haste_105 (by (repeat (refine Is.ne ?_ (by omega))); first | assumption | exact Is.up (by omega)) rfl rfl (Nat.le_of_ble_eq_true rfl) rfl ⟨Nat.le_of_ble_eq_true rfl, Nat.le_of_ble_eq_true rfl⟩ (c_X9_pl h o3 hp) (fun r9 w9 h9 => ?_)
      obtain ⟨h8, h9⟩ := h9
      subst h8
      have h9 := h9.symm
      subst h9
      refine k_bipush (-4) 26 dX9_haste_24 rfl kbm_4 ?_
      cases e1 : plc (qM S) p with
      | none =>
        have ea : a_haste S (nI p) (nI u) = (-2, S) := by
          unfold a_haste
          rw [e, e3]
          dsimp only
          rw [e1]
          rfl
        rw [ea]
        refine k_icmp_ne 32 29 dX9_haste_26 rfl rfl (fun c => ?_) (fun c => ?_)
        · exact absurd rfl c
        · refine k_bipush (-2) 31 dX9_haste_29 rfl kbm_2 ?_
          refine k_iret dX9_haste_31 rfl rfl (Nat.le_of_ble_eq_true rfl) ⟨rfl, h, Eqx.rf⟩
      | some j =>
        obtain ⟨hj, hjp⟩ := plc_some e1
        have hw0 := plc_w0 o3 hp e1
        have ea : a_haste S (nI p) (nI u) = ((match hso (qF S) (qM S) p (oN (qF S)) with
    | none => -4
    | some (k, v) => if u = 0 then nI k else iZ v), S) := by
          unfold a_haste
          rw [e, e3]
          dsimp only
          rw [e1, if_pos (show (some j : Option Nat).isSome = true from rfl)] <;> rfl
        rw [ea]
        clear ea bad
        generalize hPost : (RpO G N w b ((match hso (qF S) (qM S) p (oN (qF S)) with
    | none => (-4 : Int32)
    | some (k, v) => if u = 0 then nI k else iZ v), S)) = Post
        refine k_icmp_ne 32 29 dX9_haste_26 rfl rfl (fun c => ?_) (fun c => ?_)
        rotate_left
        · exact absurd (Classical.not_not.mp c) (pI_some (by omega))
        have oloop : ∀ d i (w2 : WD) (L3 : Option Value), i + d = oN (qF S) → RsM G N w2 b S (qM S) (some (qM S)) → Eqx w w2 b (b + 12) → KRun G jX9_haste N Post 67 [some (rf G b), some (.int (nI p)), some (.int (nI u)), L3, some (.int (iZ (hzJ (hso (qF S) (qM S) p i)))), some (.int (hzI (hso (qF S) (qM S) p i))), some (.int (nI i)), none] [] 0 0 w2 := by
          intro d
          induction d with
          | zero =>
            intro i w2 L3 hi hR hE
            have hI : i = oN (qF S) := by omega
            subst hI
            have hB := hso_B (F := qF S) (M := qM S) (p := p) (oN (qF S))
            have hJ := hzJ_b hB
            rw [← hPost]
            obtain ⟨at2, s2, to2, j0, j5, t3, j2, t2⟩ := hR.ob
            refine k_iload 69 dX9_haste_67 rfl rfl ?_
            refine k_aload_n 70 dX9_haste_69 rfl rfl rfl ?_
            refine k_get 73 dX9_haste_70 rfl fX9_haste_13 (by (repeat (refine Is.ne ?_ (by omega))); first | assumption | exact Is.up (by omega)) (by rfl) ?_
            refine k_iconst (nI 0) 74 dX9_haste_73 rfl kc_0 ?_
            refine k_ialdN 75 dX9_haste_74 rfl (by (repeat (refine Is.ne ?_ (by omega))); first | assumption | exact Is.up (by omega)) (by omega) (by omega) ?_
            rw [t2.1]
            refine k_icmp_geN 187 78 dX9_haste_75 rfl rfl (by omega) (by omega) (fun c => ?_) (fun c => ?_)
            rotate_left
            · omega
            refine k_iload 189 dX9_haste_187 rfl rfl ?_
            refine k_bipush (nI 60) 191 dX9_haste_189 rfl kb_60 ?_
            cases e5 : hso (qF S) (qM S) p (oN (qF S)) with
            | none =>
              refine k_icmp_le 199 194 dX9_haste_191 rfl rfl (fun c => ?_) (fun c => ?_)
              · exact absurd c (by decide)
              · refine k_bipush (-4) 196 dX9_haste_194 rfl kbm_4 ?_
                refine k_goto 210 dX9_haste_196 rfl ?_
                refine k_iret dX9_haste_210 rfl rfl (Nat.le_of_ble_eq_true rfl) ⟨rfl, hR.drop, hE⟩
            | some q =>
              obtain ⟨k, v⟩ := q
              have hq := hB _ e5
              have hq : 1 ≤ v ∧ v ≤ 60 := hq
              refine k_icmp_le 199 194 dX9_haste_191 rfl rfl (fun c => ?_) (fun c => ?_)
              · refine k_iload_n 200 dX9_haste_199 rfl rfl rfl ?_
                refine k_if_neN 208 203 dX9_haste_200 rfl rfl (by omega) (fun c => ?_) (fun c => ?_)
                · refine k_iload 210 dX9_haste_208 rfl rfl ?_
                  refine k_iret dX9_haste_210 rfl rfl (Nat.le_of_ble_eq_true rfl) ⟨by dsimp only; rw [if_neg (by omega)]; rfl, hR.drop, hE⟩
                · refine k_iload 205 dX9_haste_203 rfl rfl ?_
                  refine k_goto 210 dX9_haste_205 rfl ?_
                  refine k_iret dX9_haste_210 rfl rfl (Nat.le_of_ble_eq_true rfl) ⟨by dsimp only; rw [if_pos (by omega)]; rfl, hR.drop, hE⟩
              · refine absurd ?_ c
                rw [← iZ_nat]
                exact (iZ_le (x := v) (y := ((60 : Nat) : Int)) (by omega) (by omega) (by omega) (by omega)).mpr (by omega)
          | succ d ih =>
            intro i w2 L3 hi hR hE
            obtain ⟨at2, s2, to2, j0, j5, t3, j2, t2⟩ := hR.ob
            refine k_iload 69 dX9_haste_67 rfl rfl ?_
            refine k_aload_n 70 dX9_haste_69 rfl rfl rfl ?_
            refine k_get 73 dX9_haste_70 rfl fX9_haste_13 (by (repeat (refine Is.ne ?_ (by omega))); first | assumption | exact Is.up (by omega)) (by rfl) ?_
            refine k_iconst (nI 0) 74 dX9_haste_73 rfl kc_0 ?_
            refine k_ialdN 75 dX9_haste_74 rfl (by (repeat (refine Is.ne ?_ (by omega))); first | assumption | exact Is.up (by omega)) (by omega) (by omega) ?_
            rw [t2.1]
            refine k_icmp_geN 187 78 dX9_haste_75 rfl rfl (by omega) (by omega) (fun c => ?_) (fun c => ?_)
            · omega
            refine k_iconst (nI 0) 79 dX9_haste_78 rfl kc_0 ?_
            refine k_istore _ 81 dX9_haste_79 rfl (by decide) rfl rfl ?_
            have iloop : ∀ d2 k (w3 : WD) (L3 : Option Value), k + d2 = oN (qF S) → RsM G N w3 b S (qM S) (some (qM S)) → Eqx w w3 b (b + 12) → KRun G jX9_haste N Post 81 [some (rf G b), some (.int (nI p)), some (.int (nI u)), L3, some (.int (iZ (hzJ (hsi (qF S) (qM S) p i k (hso (qF S) (qM S) p i))))), some (.int (hzI (hsi (qF S) (qM S) p i k (hso (qF S) (qM S) p i)))), some (.int (nI i)), some (.int (nI k))] [] 0 0 w3 := by
              intro d2
              induction d2 with
              | zero =>
                intro k w3 L3 hk hR3 hE3
                have hI : k = oN (qF S) := by omega
                subst hI
                obtain ⟨at3, s3, to3, j30, j35, t33, j32, t32⟩ := hR3.ob
                refine k_iload 83 dX9_haste_81 rfl rfl ?_
                refine k_aload_n 84 dX9_haste_83 rfl rfl rfl ?_
                refine k_get 87 dX9_haste_84 rfl fX9_haste_13 (by (repeat (refine Is.ne ?_ (by omega))); first | assumption | exact Is.up (by omega)) (by rfl) ?_
                refine k_iconst (nI 0) 88 dX9_haste_87 rfl kc_0 ?_
                refine k_ialdN 89 dX9_haste_88 rfl (by (repeat (refine Is.ne ?_ (by omega))); first | assumption | exact Is.up (by omega)) (by omega) (by omega) ?_
                rw [t32.1]
                refine k_icmp_geN 181 92 dX9_haste_89 rfl rfl (by omega) (by omega) (fun c => ?_) (fun c => ?_)
                rotate_left
                · omega
                refine k_iinc _ _ 184 dX9_haste_181 rfl rfl (nI_inc _) (by decide) rfl rfl ?_
                refine k_goto 67 dX9_haste_184 rfl ?_
                refine k_loc [some (rf G b), some (.int (nI p)), some (.int (nI u)), L3, some (.int (iZ (hzJ (hsi (qF S) (qM S) p i (oN (qF S)) (hso (qF S) (qM S) p i))))), some (.int (hzI (hsi (qF S) (qM S) p i (oN (qF S)) (hso (qF S) (qM S) p i)))), some (.int (nI (i + 1))), none] ?_ rfl ?_
                · cases L3 with
                  | none => exact ⟨rfl, rfl, rfl, rfl, rfl, rfl, trivial⟩
                  | some v => exact ⟨rfl, rfl, rfl, rfl, rfl, rfl, rfl, trivial⟩
                · exact ih (i + 1) w3 L3 (by omega) hR3 hE3
              | succ d2 ih2 =>
                intro k w3 L3 hk hR3 hE3
                obtain ⟨at3, s3, to3, j30, j35, t33, j32, t32⟩ := hR3.ob
                have hBo := hsi_B (F := qF S) (M := qM S) (p := p) (one := i) k _ (hso_B (F := qF S) (M := qM S) (p := p) i)
                have nx : ∀ (w4 : WD) (L3 : Option Value), RsM G N w4 b S (qM S) (some (qM S)) → Eqx w w4 b (b + 12) → KRun G jX9_haste N Post 175 [some (rf G b), some (.int (nI p)), some (.int (nI u)), L3, some (.int (iZ (hzJ (hsi (qF S) (qM S) p i (k + 1) (hso (qF S) (qM S) p i))))), some (.int (hzI (hsi (qF S) (qM S) p i (k + 1) (hso (qF S) (qM S) p i)))), some (.int (nI i)), some (.int (nI k))] [] 0 0 w4 := by
                  intro w4 L3 hR4 hE4
                  refine k_iinc _ _ 178 dX9_haste_175 rfl rfl (nI_inc _) (by decide) rfl rfl ?_
                  refine k_goto 81 dX9_haste_178 rfl ?_
                  exact ih2 (k + 1) w4 L3 (by omega) hR4 hE4
                generalize ho : hsi (qF S) (qM S) p i k (hso (qF S) (qM S) p i) = o at *
                have hJ := hzJ_b hBo
                have e6 : hsi (qF S) (qM S) p i (k + 1) (hso (qF S) (qM S) p i) = if mayl (qM S) i k = true then ofs o (10 * i + k) (wtn (qF S) (letp (qM S) i k) p) else o := by
                  simp only [hsi]
                  rw [ho]
                rw [e6] at nx
                refine k_iload 83 dX9_haste_81 rfl rfl ?_
                refine k_aload_n 84 dX9_haste_83 rfl rfl rfl ?_
                refine k_get 87 dX9_haste_84 rfl fX9_haste_13 (by (repeat (refine Is.ne ?_ (by omega))); first | assumption | exact Is.up (by omega)) (by rfl) ?_
                refine k_iconst (nI 0) 88 dX9_haste_87 rfl kc_0 ?_
                refine k_ialdN 89 dX9_haste_88 rfl (by (repeat (refine Is.ne ?_ (by omega))); first | assumption | exact Is.up (by omega)) (by omega) (by omega) ?_
                rw [t32.1]
                refine k_icmp_geN 181 92 dX9_haste_89 rfl rfl (by omega) (by omega) (fun c => ?_) (fun c => ?_)
                · omega
                refine k_iload 94 dX9_haste_92 rfl rfl ?_
                refine k_iload 96 dX9_haste_94 rfl rfl ?_
                refine k_icmp_eqN 175 99 dX9_haste_96 rfl rfl (by omega) (by omega) (fun c => ?_) (fun c => ?_)
                · obtain rfl : i = k := by omega
                  rw [mayl_self, if_neg (by simp)] at nx
                  exact nx w3 L3 hR3 hE3
                refine k_aload_n 100 dX9_haste_99 rfl rfl rfl ?_
                refine k_iload 102 dX9_haste_100 rfl rfl ?_
                refine k_iload 104 dX9_haste_102 rfl rfl ?_
                refine k_V2 (ci := 8) 107 dX9_haste_104 rfl vX9_haste_129 (by (repeat (refine Is.ne ?_ (by omega))); first | assumption | exact Is.up (by omega)) rfl rfl (Nat.le_of_ble_eq_true rfl) rfl ⟨Nat.le_of_ble_eq_true rfl, Nat.le_of_ble_eq_true rfl⟩ (c_X9_mayLet hR3 o3 (by omega) (by omega)) (fun r9 w9 h9 => ?_)
                obtain ⟨h8, h9⟩ := h9
                subst h8
                have h9 := h9.symm
                subst h9
                refine k_if_eqB 175 110 dX9_haste_107 rfl rfl (fun c9 => ?_) (fun c9 => ?_)
                · rw [if_neg (by rw [c9]; simp)] at nx
                  exact nx w3 L3 hR3 hE3
                rw [if_pos c9] at nx
                refine k_aload_n 111 dX9_haste_110 rfl rfl rfl ?_
                refine k_iload 113 dX9_haste_111 rfl rfl ?_
                refine k_iload 115 dX9_haste_113 rfl rfl ?_
                refine k_V2 (ci := 8) 118 dX9_haste_115 rfl vX9_haste_133 (by (repeat (refine Is.ne ?_ (by omega))); first | assumption | exact Is.up (by omega)) rfl rfl (Nat.le_of_ble_eq_true rfl) rfl ⟨Nat.le_of_ble_eq_true rfl, Nat.le_of_ble_eq_true rfl⟩ (c_X9_lets hR3 o3 c9) (fun r4 w4 x4 => ?_)
                obtain ⟨rfl, hR4, hE4⟩ := x4
                obtain ⟨at4, s4, to4, j40, j45, t43, j42, t42⟩ := hR4.ob
                refine k_aload_n 119 dX9_haste_118 rfl rfl rfl ?_
                refine k_iload_n 120 dX9_haste_119 rfl rfl rfl ?_
                refine k_V1 (ci := 8) 123 dX9_haste_120 rfl vX9_haste_149 (by (repeat (refine Is.ne ?_ (by omega))); first | assumption | exact Is.up (by omega)) rfl rfl (Nat.le_of_ble_eq_true rfl) rfl ⟨Nat.le_of_ble_eq_true rfl, Nat.le_of_ble_eq_true rfl⟩ (c_X9_servedIn hR4 (ok_letp o3 c9) o1 (by rw [letp_G]; omega) hp (letp_W hw0)) (fun r5 w5 x5 => ?_)
                obtain ⟨rfl, ⟨M5, hR5⟩, hE5⟩ := x5
                obtain ⟨at5, s5, to5, j50, j55, t53, j52, t52⟩ := hR5.ob
                refine k_istore_n _ 124 dX9_haste_123 rfl rfl (by decide) rfl rfl ?_
                refine k_aload_n 125 dX9_haste_124 rfl rfl rfl ?_
                refine k_V0 (ci := 8) 128 dX9_haste_125 rfl vX9_haste_146 (by (repeat (refine Is.ne ?_ (by omega))); first | assumption | exact Is.up (by omega)) rfl rfl (Nat.le_of_ble_eq_true rfl) rfl ⟨Nat.le_of_ble_eq_true rfl, Nat.le_of_ble_eq_true rfl⟩ (c_X9_backs hR5 hn7 hL7) (fun r6 w6 x6 => ?_)
                obtain ⟨rfl, hR6, hE6⟩ := x6
                have hE7 : Eqx w w6 b (b + 12) := ((hE3.tr hE4).tr hE5).tr hE6
                refine k_iload_n 129 dX9_haste_128 rfl rfl rfl ?_
                refine k_bipush (-4) 131 dX9_haste_129 rfl kbm_4 ?_
                cases e7 : wtn (qF S) (letp (qM S) i k) p with
                | none =>
                  rw [e7] at nx
                  refine k_icmp_eq 151 134 dX9_haste_131 rfl rfl (fun c => ?_) (fun c => ?_)
                  rotate_left
                  · exact absurd rfl c
                  refine k_iload 153 dX9_haste_151 rfl rfl ?_
                  refine k_istore _ 155 dX9_haste_153 rfl (by decide) rfl rfl ?_
                  refine k_iload_n 156 dX9_haste_155 rfl rfl rfl ?_
                  refine k_bipush (-4) 158 dX9_haste_156 rfl kbm_4 ?_
                  refine k_icmp_eq 171 161 dX9_haste_158 rfl rfl (fun c => ?_) (fun c => ?_)
                  rotate_left
                  · exact absurd rfl c
                  refine k_iload 173 dX9_haste_171 rfl rfl ?_
                  refine k_istore _ 175 dX9_haste_173 rfl (by decide) rfl rfl ?_
                  exact nx w6 _ hR6 hE7
                | some t =>
                  have ht := wtn_b _ e7
                  rw [e7] at nx
                  have hne : ¬ wI (some t) = -4 := by
                    show ¬ nI (t + 1) = -4
                    intro z
                    have h1 := nI_pos (n := t + 1) (by omega)
                    rw [z] at h1
                    exact h1 (by decide)
                  have hle : (iZ (hzJ o) ≤ wI (some t) ↔ hzJ o ≤ ((t + 1 : Nat) : Int)) := by
                    show iZ (hzJ o) ≤ nI (t + 1) ↔ _
                    rw [← iZ_nat]
                    exact iZ_le (by omega) (by omega) (by omega) (by omega)
                  refine k_icmp_eq 151 134 dX9_haste_131 rfl rfl (fun c => ?_) (fun c => ?_)
                  · exact absurd c hne
                  refine k_iload_n 135 dX9_haste_134 rfl rfl rfl ?_
                  refine k_iload 137 dX9_haste_135 rfl rfl ?_
                  refine k_icmp_ge 151 140 dX9_haste_137 rfl rfl (fun c => ?_) (fun c => ?_)
                  · have c1 := hle.mp c
                    have c2 := c
                    rw [ofs_ge hBo ht (by omega)] at nx
                    refine k_iload 153 dX9_haste_151 rfl rfl ?_
                    refine k_istore _ 155 dX9_haste_153 rfl (by decide) rfl rfl ?_
                    refine k_iload_n 156 dX9_haste_155 rfl rfl rfl ?_
                    refine k_bipush (-4) 158 dX9_haste_156 rfl kbm_4 ?_
                    refine k_icmp_eq 171 161 dX9_haste_158 rfl rfl (fun c => ?_) (fun c => ?_)
                    · exact absurd c hne
                    refine k_iload_n 162 dX9_haste_161 rfl rfl rfl ?_
                    refine k_iload 164 dX9_haste_162 rfl rfl ?_
                    refine k_icmp_ge 171 167 dX9_haste_164 rfl rfl (fun c => ?_) (fun c => ?_)
                    · refine k_iload 173 dX9_haste_171 rfl rfl ?_
                      refine k_istore _ 175 dX9_haste_173 rfl (by decide) rfl rfl ?_
                      exact nx w6 _ hR6 hE7
                    · exact absurd c2 c
                  · have c1 : ¬ hzJ o ≤ ((t + 1 : Nat) : Int) := fun z => c (hle.mpr z)
                    have c2 := c
                    rw [ofs_lt hBo ht (by omega)] at nx
                    refine k_bipush (nI 10) 142 dX9_haste_140 rfl kb_10 ?_
                    refine k_iload 144 dX9_haste_142 rfl rfl ?_
                    first | refine k_imulE _ 145 dX9_haste_144 rfl (pk_mul _ _) ?_ | refine k_imul 145 dX9_haste_144 rfl ?_
                    refine k_iload 147 dX9_haste_145 rfl rfl ?_
                    first | refine k_iaddE _ 148 dX9_haste_147 rfl (nI_add _ _) ?_ | refine k_iadd 148 dX9_haste_147 rfl ?_
                    refine k_goto 153 dX9_haste_148 rfl ?_
                    refine k_istore _ 155 dX9_haste_153 rfl (by decide) rfl rfl ?_
                    refine k_iload_n 156 dX9_haste_155 rfl rfl rfl ?_
                    refine k_bipush (-4) 158 dX9_haste_156 rfl kbm_4 ?_
                    refine k_icmp_eq 171 161 dX9_haste_158 rfl rfl (fun c => ?_) (fun c => ?_)
                    · exact absurd c hne
                    refine k_iload_n 162 dX9_haste_161 rfl rfl rfl ?_
                    refine k_iload 164 dX9_haste_162 rfl rfl ?_
                    refine k_icmp_ge 171 167 dX9_haste_164 rfl rfl (fun c => ?_) (fun c => ?_)
                    · exact absurd c c2
                    · refine k_iload_n 168 dX9_haste_167 rfl rfl rfl ?_
                      refine k_goto 173 dX9_haste_168 rfl ?_
                      refine k_istore _ 175 dX9_haste_173 rfl (by decide) rfl rfl ?_
                      have e8 : iZ (hzJ (some (10 * i + k, ((t + 1 : Nat) : Int)))) = wI (some t) := iZ_nat (t + 1)
                      rw [e8] at nx
                      exact nx w6 _ hR6 hE7
            refine iloop (oN (qF S)) 0 w2 L3 (by omega) hR hE
        refine k_aload_n 33 dX9_haste_32 rfl rfl rfl ?_
        refine k_V0 (ci := 8) 36 dX9_haste_33 rfl vX9_haste_143 (by (repeat (refine Is.ne ?_ (by omega))); first | assumption | exact Is.up (by omega)) rfl rfl (Nat.le_of_ble_eq_true rfl) rfl ⟨Nat.le_of_ble_eq_true rfl, Nat.le_of_ble_eq_true rfl⟩ (c_X9_holds h hn7 hL7) (fun r1 w1 x1 => ?_)
        obtain ⟨rfl, hR1, hE1⟩ := x1
        obtain ⟨at1, s1, to1, q0, q5, u3, q2, u2⟩ := hR1.ob
        refine k_aload_n 37 dX9_haste_36 rfl rfl rfl ?_
        refine k_iload_n 38 dX9_haste_37 rfl rfl rfl ?_
        refine k_V1 (ci := 8) 41 dX9_haste_38 rfl vX9_haste_149 (by (repeat (refine Is.ne ?_ (by omega))); first | assumption | exact Is.up (by omega)) rfl rfl (Nat.le_of_ble_eq_true rfl) rfl ⟨Nat.le_of_ble_eq_true rfl, Nat.le_of_ble_eq_true rfl⟩ (c_X9_servedIn hR1 o3 o1 (by omega) hp hw0) (fun r5 w5 x5 => ?_)
        obtain ⟨rfl, ⟨M5, hR5⟩, hE5⟩ := x5
        obtain ⟨at5, s5, to5, j50, j55, t53, j52, t52⟩ := hR5.ob
        refine k_istore_n _ 42 dX9_haste_41 rfl rfl (by decide) rfl rfl ?_
        refine k_aload_n 43 dX9_haste_42 rfl rfl rfl ?_
        refine k_V0 (ci := 8) 46 dX9_haste_43 rfl vX9_haste_146 (by (repeat (refine Is.ne ?_ (by omega))); first | assumption | exact Is.up (by omega)) rfl rfl (Nat.le_of_ble_eq_true rfl) rfl ⟨Nat.le_of_ble_eq_true rfl, Nat.le_of_ble_eq_true rfl⟩ (c_X9_backs hR5 hn7 hL7) (fun r6 w6 x6 => ?_)
        obtain ⟨rfl, hR6, hE6⟩ := x6
        have hE7 : Eqx w w6 b (b + 12) := (hE1.tr hE5).tr hE6
        refine k_iload_n 47 dX9_haste_46 rfl rfl rfl ?_
        refine k_bipush (-4) 49 dX9_haste_47 rfl kbm_4 ?_
        have o0 := oloop (oN (qF S)) 0 w6 (some (.int (wI (wtn (qF S) (qM S) p)))) (by omega) hR6 hE7
        rw [show hso (qF S) (qM S) p 0 = ofs none 99 (wtn (qF S) (qM S) p) from rfl] at o0
        cases e7 : wtn (qF S) (qM S) p with
        | none =>
          rw [e7] at o0
          refine k_icmp_ne 57 52 dX9_haste_49 rfl rfl (fun c => ?_) (fun c => ?_)
          · exact absurd rfl c
          · refine k_bipush (nI 61) 54 dX9_haste_52 rfl kb_61 ?_
            refine k_goto 58 dX9_haste_54 rfl ?_
            refine k_istore _ 60 dX9_haste_58 rfl (by decide) rfl rfl ?_
            refine k_bipush (nI 99) 62 dX9_haste_60 rfl kb_99 ?_
            refine k_istore _ 64 dX9_haste_62 rfl (by decide) rfl rfl ?_
            refine k_iconst (nI 0) 65 dX9_haste_64 rfl kc_0 ?_
            refine k_istore _ 67 dX9_haste_65 rfl (by decide) rfl rfl ?_
            exact o0
        | some t =>
          have ht := wtn_b _ e7
          rw [e7] at o0
          refine k_icmp_ne 57 52 dX9_haste_49 rfl rfl (fun c => ?_) (fun c => ?_)
          · refine k_iload_n 58 dX9_haste_57 rfl rfl rfl ?_
            refine k_istore _ 60 dX9_haste_58 rfl (by decide) rfl rfl ?_
            refine k_bipush (nI 99) 62 dX9_haste_60 rfl kb_99 ?_
            refine k_istore _ 64 dX9_haste_62 rfl (by decide) rfl rfl ?_
            refine k_iconst (nI 0) 65 dX9_haste_64 rfl kc_0 ?_
            refine k_istore _ 67 dX9_haste_65 rfl (by decide) rfl rfl ?_
            have e8 : iZ (hzJ (ofs none 99 (some t))) = wI (some t) := iZ_nat (t + 1)
            rw [e8] at o0
            exact o0
          · refine absurd (Classical.not_not.mp c) ?_
            show ¬ nI (t + 1) = -4
            intro z
            have h1 := nI_pos (n := t + 1) (by omega)
            rw [z] at h1
            exact h1 (by decide)
    · rw [e3]
      refine k_if_neB 19 17 dX9_haste_14 rfl rfl (fun c9 => absurd c9 (by simp)) (fun c9 => ?_)
      exact bad (by unfold a_haste; rw [e, e3])
  · rw [e]
    refine k_if_eqB 17 8 dX9_haste_5 rfl rfl (fun c9 => ?_) (fun c9 => absurd c9 (by simp))
    exact bad (by unfold a_haste; rw [e])
