/-! KerbQueueModel: clear, miss -/
theorem or_sh7 : ∀ k, k < 7 → ∀ b, b < 128 → b < 2 ^ k → nI b ||| nI (2 ^ k) = nI (b + 2 ^ k) := by decide +kernel
theorem or_0 (x : Int32) : x ||| nI 0 = x := by
  rw [nI_0]
  exact Int32.or_zero
theorem myD_le (D : Nat → Int) : ∀ k, myD D k ≤ k := by
  intro k
  induction k with
  | zero => exact Nat.le_refl _
  | succ k ih =>
    simp only [myD]
    split <;> omega
theorem c_X9_clear {G : KG} {N : Nat} {w : WD} {b : Nat} {S : St} (h : RsM G N w b S (qM S) none) (hO : sOK S) : KCon G jX9_clear N w [rf G b] (RpO G N w b (a_clear S)) := by
  obtain ⟨at_, tx, to_, dr, be, s, pa, im, nt, ah, sd, gr, ro, ⟨g0, g1, g2, g3, g4, g5, g6, g7, g8, g9, g10, g11, g12⟩, v1, v2, v3, v4, v5, v6, v7, v8⟩ := id h
  have hN := g12.1
  obtain ⟨o1, o2, ⟨o3, o4⟩, o5, o6, -⟩ := hO
  have hn7 := o1.1
  have hD : ∀ p, p < 7 → -242520 ≤ due (qM S) p ∧ due (qM S) p ≤ 242520 := fun p hp => ok_due o3 hp
  generalize hDD : due (qM S) = D at *
  generalize hnn : oN (qF S) = n at *
  show KCon G jX9_clear N w [rf G b] (RpO G N w b (iZ (clr (due (qM S)) (oN (qF S))), S))
  rw [hDD, hnn]
  refine KCon.of ([some (rf G b), none, none, none, none, none, none, none]) (by decide) rfl (by simp [Value.category]) (Nat.le_of_ble_eq_true rfl) rfl ?_
  refine k_iconst (nI 0) 1 dX9_clear_0 rfl kc_0 ?_
  refine k_istore_n _ 2 dX9_clear_1 rfl rfl (by decide) rfl rfl ?_
  refine k_iconst (nI 0) 3 dX9_clear_2 rfl kc_0 ?_
  refine k_istore_n _ 4 dX9_clear_3 rfl rfl (by decide) rfl rfl ?_
  refine k_iconst (nI 0) 5 dX9_clear_4 rfl kc_0 ?_
  refine k_istore_n _ 6 dX9_clear_5 rfl rfl (by decide) rfl rfl ?_
  have sloop : ∀ d t (w1 : WD) (f : Nat → Int32), t + d = 128 → 1 ≤ t → RsC G N w1 b (qt S) (qP S).length (qK S).length (qm S) (.int at_) tx to_ dr be s pa im nt ah sd f ro → Eqx w w1 b (b + 12) → (∀ q, q < t → f q = nI (gpp D n q)) → KRun G jX9_clear N (RpO G N w b (iZ (clr D n), S)) 58 [some (rf G b), some (.int (nI (alD D n))), some (.int (nI (myD D n))), some (.int (nI t)), none, none, none, none] [] 0 0 w1 := by
    intro d
    induction d with
    | zero =>
      intro t w1 f ht ht1 hC hE hf
      have hC2 := hC
      obtain ⟨g0, g1, g2, g3, g4, g5, g6, g7, g8, g9, g10, g11, g12⟩ := hC2
      have hal := alD_b D n hn7
      have hmy := myD_le D n
      have hp2 := p2_128 n hn7
      refine k_iload_n 59 dX9_clear_58 rfl rfl rfl ?_
      refine k_sipush (nI 128) 62 dX9_clear_59 rfl ks_128 ?_
      refine k_icmp_geN 169 65 dX9_clear_62 rfl rfl (by omega) (by omega) (fun c => ?_) (fun c => ?_)
      rotate_left
      · omega
      have hR : RsM G N w1 b S (qM S) none := by
        subst hnn
        exact ⟨at_, tx, to_, dr, be, s, pa, im, nt, ah, sd, f, ro, hC, v1, v2, v3, v4, v5, v6, v7, (hf 0 (by omega)).trans (by rw [gpp_0])⟩
      refine k_iload_n 170 dX9_clear_169 rfl rfl rfl ?_
      refine k_if_neN 177 173 dX9_clear_170 rfl rfl (by omega) (fun c => ?_) (fun c => ?_)
      · refine k_iload_n 178 dX9_clear_177 rfl rfl rfl ?_
        refine k_aload_n 179 dX9_clear_178 rfl rfl rfl ?_
        refine k_get 182 dX9_clear_179 rfl fX9_clear_40 (by (repeat (refine Is.ne ?_ (by omega))); first | assumption | exact Is.up (by omega)) (by rfl) ?_
        refine k_iload_n 183 dX9_clear_182 rfl rfl rfl ?_
        refine k_ialdN 184 dX9_clear_183 rfl (by (repeat (refine Is.ne ?_ (by omega))); first | assumption | exact Is.up (by omega)) (by omega) (by omega) ?_
        rw [hf _ (by omega)]
        have hgl := gpp_le D hn7 (alD D n) (by omega)
        refine k_isubE (iZ (clr D n)) 185 dX9_clear_184 rfl (by unfold clr; rw [← iZ_nat, ← iZ_nat, iZ_sub]) ?_
        refine k_iret dX9_clear_185 rfl rfl (Nat.le_of_ble_eq_true rfl) ⟨rfl, hR, hE⟩
      · have hal0 : alD D n = 0 := by omega
        refine k_iconst (nI 0) 174 dX9_clear_173 rfl kc_0 ?_
        refine k_goto 185 dX9_clear_174 rfl ?_
        refine k_iret dX9_clear_185 rfl rfl (Nat.le_of_ble_eq_true rfl) ⟨by unfold clr; rw [hal0, gpp_0, myD_0 D n hal0]; rfl, hR, hE⟩
    | succ d ih =>
      intro t w1 f ht ht1 hC hE hf
      have hC2 := hC
      obtain ⟨g0, g1, g2, g3, g4, g5, g6, g7, g8, g9, g10, g11, g12⟩ := hC2
      have hs : t < 128 := by omega
      have bnd : ∀ k, k ≤ 7 → bsf (gpp D n) t k ≤ 128 := by
        intro k hk
        rcases bsf_at (g := gpp D n) (s := t) k with h | ⟨q, q1, q2, q3⟩
        · omega
        · rw [q3]
          have h8 : t - 2 ^ q < 128 := Nat.lt_of_le_of_lt (Nat.sub_le _ _) hs
          have := gpp_le D hn7 (t - 2 ^ q) h8
          omega
      have hR : RsM G N w1 b S (qM S) none := by
        subst hnn
        exact ⟨at_, tx, to_, dr, be, s, pa, im, nt, ah, sd, f, ro, hC, v1, v2, v3, v4, v5, v6, v7, (hf 0 (by omega)).trans (by rw [gpp_0])⟩
      refine k_iload_n 59 dX9_clear_58 rfl rfl rfl ?_
      refine k_sipush (nI 128) 62 dX9_clear_59 rfl ks_128 ?_
      refine k_icmp_geN 169 65 dX9_clear_62 rfl rfl (by omega) (by omega) (fun c => ?_) (fun c => ?_)
      · omega
      refine k_iconst (nI 0) 66 dX9_clear_65 rfl kc_0 ?_
      refine k_istore _ 68 dX9_clear_66 rfl (by decide) rfl rfl ?_
      refine k_iconst (nI 0) 69 dX9_clear_68 rfl kc_0 ?_
      refine k_istore _ 71 dX9_clear_69 rfl (by decide) rfl rfl ?_
      refine k_iconst (nI 0) 72 dX9_clear_71 rfl kc_0 ?_
      refine k_istore _ 74 dX9_clear_72 rfl (by decide) rfl rfl ?_
      have ploop : ∀ d2 p (L7 : Option Value), p + d2 = n → KRun G jX9_clear N (RpO G N w b (iZ (clr D n), S)) 74 [some (rf G b), some (.int (nI (alD D n))), some (.int (nI (myD D n))), some (.int (nI t)), some (.int (iZ (smf D t p))), some (.int (nI (bsf (gpp D n) t p))), some (.int (nI p)), L7] [] 0 0 w1 := by
        intro d2
        induction d2 with
        | zero =>
          intro p L7 hp
          have hI : p = n := by omega
          subst hI
          have hbn := bnd p (by omega)
          have hsb := smf_b (s := t) hD p hn7
          refine k_iload 76 dX9_clear_74 rfl rfl ?_
          refine k_aload_n 77 dX9_clear_76 rfl rfl rfl ?_
          refine k_get 80 dX9_clear_77 rfl fX9_clear_13 (by (repeat (refine Is.ne ?_ (by omega))); first | assumption | exact Is.up (by omega)) (by rfl) ?_
          refine k_iconst (nI 0) 81 dX9_clear_80 rfl kc_0 ?_
          refine k_ialdN 82 dX9_clear_81 rfl (by (repeat (refine Is.ne ?_ (by omega))); first | assumption | exact Is.up (by omega)) (by omega) (by omega) ?_
          rw [v2.1, hnn]
          refine k_icmp_geN 143 85 dX9_clear_82 rfl rfl (by omega) (by omega) (fun c => ?_) (fun c => ?_)
          rotate_left
          · omega
          have nx : ∀ v : Nat, v = gpp D p t → KRun G jX9_clear N (RpO G N w b (iZ (clr D p), S)) 162 [some (rf G b), some (.int (nI (alD D p))), some (.int (nI (myD D p))), some (.int (nI t)), some (.int (iZ (smf D t p))), some (.int (nI (bsf (gpp D p) t p))), some (.int (nI p)), L7] [.int (nI v), .int (nI t), rf G (b + 11)] 0 0 w1 := by
            intro v hv
            refine k_iastN 163 dX9_clear_162 rfl (by (repeat (refine Is.ne ?_ (by omega))); first | assumption | exact Is.up (by omega)) (by omega) (by omega) ?_
            refine k_iinc _ _ 166 dX9_clear_163 rfl rfl (nI_inc _) (by decide) rfl rfl ?_
            refine k_goto 58 dX9_clear_166 rfl ?_
            refine k_loc [some (rf G b), some (.int (nI (alD D p))), some (.int (nI (myD D p))), some (.int (nI (t + 1))), none, none, none, none] ⟨rfl, rfl, rfl, rfl, trivial⟩ rfl ?_
            refine ih (t + 1) _ (upd f t (nI v)) (by omega) (by omega) ?_ ?_ (fun q hq => ?_)
            · exact ⟨(by (repeat (refine Is.ne ?_ (by omega))); first | assumption | exact Is.up (by omega)), (by (repeat (refine Is.ne ?_ (by omega))); first | assumption | exact Is.up (by omega)), (by (repeat (refine Is.ne ?_ (by omega))); first | assumption | exact Is.up (by omega)), (by (repeat (refine Is.ne ?_ (by omega))); first | assumption | exact Is.up (by omega)), (by (repeat (refine Is.ne ?_ (by omega))); first | assumption | exact Is.up (by omega)), (by (repeat (refine Is.ne ?_ (by omega))); first | assumption | exact Is.up (by omega)), (by (repeat (refine Is.ne ?_ (by omega))); first | assumption | exact Is.up (by omega)), (by (repeat (refine Is.ne ?_ (by omega))); first | assumption | exact Is.up (by omega)), (by (repeat (refine Is.ne ?_ (by omega))); first | assumption | exact Is.up (by omega)), (by (repeat (refine Is.ne ?_ (by omega))); first | assumption | exact Is.up (by omega)), (by (repeat (refine Is.ne ?_ (by omega))); first | assumption | exact Is.up (by omega)), (by (repeat (refine Is.ne ?_ (by omega))); first | assumption | exact Is.up (by omega)), (by (repeat (refine Is.ne ?_ (by omega))); first | assumption | exact Is.up (by omega))⟩
            · exact (by (repeat (refine Eqx.up ?_ (by omega) (by omega))); first | exact Eqx.rf | assumption)
            by_cases eq : q = t
            · rw [eq, upd_s, hv]
            · rw [upd_n _ _ eq]
              exact hf q (by omega)
          have hg := gpp_s D hn7 (show 0 < t by omega) hs
          refine k_aload_n 144 dX9_clear_143 rfl rfl rfl ?_
          refine k_get 147 dX9_clear_144 rfl fX9_clear_40 (by (repeat (refine Is.ne ?_ (by omega))); first | assumption | exact Is.up (by omega)) (by rfl) ?_
          refine k_iload_n 148 dX9_clear_147 rfl rfl rfl ?_
          refine k_iload 150 dX9_clear_148 rfl rfl ?_
          refine k_if_ne 160 153 dX9_clear_150 rfl rfl (fun c => ?_) (fun c => ?_)
          · have c1 : ¬ smf D t p = 0 := fun z => c ((iZ_0 (by omega) (by omega)).mpr z)
            refine k_iload 162 dX9_clear_160 rfl rfl ?_
            exact nx _ (by rw [hg, if_neg c1]; rfl)
          · have c1 : smf D t p = 0 := (iZ_0 (by omega) (by omega)).mp (Classical.not_not.mp c)
            refine k_iload 155 dX9_clear_153 rfl rfl ?_
            refine k_iconst (nI 1) 156 dX9_clear_155 rfl kc_1 ?_
            first | refine k_iaddE _ 157 dX9_clear_156 rfl (nI_add _ _) ?_ | refine k_iadd 157 dX9_clear_156 rfl ?_
            refine k_goto 162 dX9_clear_157 rfl ?_
            exact nx _ (by rw [hg, if_pos c1])
        | succ d2 ih2 =>
          intro p L7 hp
          have hbb := bnd p (by omega)
          have hx := ih2 (p + 1)
          simp only [bsf, smf] at hx
          refine k_iload 76 dX9_clear_74 rfl rfl ?_
          refine k_aload_n 77 dX9_clear_76 rfl rfl rfl ?_
          refine k_get 80 dX9_clear_77 rfl fX9_clear_13 (by (repeat (refine Is.ne ?_ (by omega))); first | assumption | exact Is.up (by omega)) (by rfl) ?_
          refine k_iconst (nI 0) 81 dX9_clear_80 rfl kc_0 ?_
          refine k_ialdN 82 dX9_clear_81 rfl (by (repeat (refine Is.ne ?_ (by omega))); first | assumption | exact Is.up (by omega)) (by omega) (by omega) ?_
          rw [v2.1, hnn]
          refine k_icmp_geN 143 85 dX9_clear_82 rfl rfl (by omega) (by omega) (fun c => ?_) (fun c => ?_)
          · omega
          refine k_iload_n 86 dX9_clear_85 rfl rfl rfl ?_
          refine k_iload 88 dX9_clear_86 rfl rfl ?_
          refine k_ishr 89 dX9_clear_88 rfl ?_
          refine k_iconst (nI 1) 90 dX9_clear_89 rfl kc_1 ?_
          refine k_iandE _ 91 dX9_clear_90 rfl (bit_sh t (by omega) p (by omega)) ?_
          refine k_iconst (nI 1) 92 dX9_clear_91 rfl kc_1 ?_
          refine k_icmp_neN 137 95 dX9_clear_92 rfl rfl (by omega) (by omega) (fun c => ?_) (fun c => ?_)
          · rw [if_neg (by omega), if_neg (by omega), Int.add_zero] at hx
            refine k_iinc _ _ 140 dX9_clear_137 rfl rfl (nI_inc _) (by decide) rfl rfl ?_
            refine k_goto 74 dX9_clear_140 rfl ?_
            exact hx L7 (by omega)
          · have hb : t / 2 ^ p % 2 = 1 := by omega
            have hb1 := (bit_sub t hs p (by omega) hb).1
            have hb2 := Nat.pow_pos (n := p) (show 0 < 2 by omega)
            have hgl := gpp_le D hn7 (t - 2 ^ p) (by omega)
            rw [if_pos hb, if_pos hb] at hx
            refine k_iload 97 dX9_clear_95 rfl rfl ?_
            refine k_aload_n 98 dX9_clear_97 rfl rfl rfl ?_
            refine k_iload 100 dX9_clear_98 rfl rfl ?_
            refine k_V1 (ci := 8) 103 dX9_clear_100 rfl vX9_clear_108 (by (repeat (refine Is.ne ?_ (by omega))); first | assumption | exact Is.up (by omega)) rfl rfl (Nat.le_of_ble_eq_true rfl) rfl ⟨Nat.le_of_ble_eq_true rfl, Nat.le_of_ble_eq_true rfl⟩ (c_X9_due hR (by omega)) (fun r9 w9 h9 => ?_)
            obtain ⟨h8, h9⟩ := h9
            subst h8
            have h9 := h9.symm
            subst h9
            rw [hDD]
            refine k_iaddE _ 104 dX9_clear_103 rfl (iZ_add _ _) ?_
            refine k_istore _ 106 dX9_clear_104 rfl (by decide) rfl rfl ?_
            refine k_aload_n 107 dX9_clear_106 rfl rfl rfl ?_
            refine k_get 110 dX9_clear_107 rfl fX9_clear_40 (by (repeat (refine Is.ne ?_ (by omega))); first | assumption | exact Is.up (by omega)) (by rfl) ?_
            refine k_iload_n 111 dX9_clear_110 rfl rfl rfl ?_
            refine k_iconst (nI 1) 112 dX9_clear_111 rfl kc_1 ?_
            refine k_iload 114 dX9_clear_112 rfl rfl ?_
            refine k_ishl 115 dX9_clear_114 rfl ?_
            refine k_iconst (-1) 116 dX9_clear_115 rfl km_1 ?_
            refine k_ixor 117 dX9_clear_116 rfl ?_
            refine k_iandE _ 118 dX9_clear_117 rfl (msk t hs p (by omega) hb) ?_
            refine k_ialdN 119 dX9_clear_118 rfl (by (repeat (refine Is.ne ?_ (by omega))); first | assumption | exact Is.up (by omega)) (by omega) (by omega) ?_
            rw [hf _ (by omega)]
            refine k_istore _ 121 dX9_clear_119 rfl (by decide) rfl rfl ?_
            refine k_iload 123 dX9_clear_121 rfl rfl ?_
            refine k_iload 125 dX9_clear_123 rfl rfl ?_
            have nx2 : ∀ v : Nat, v = max (bsf (gpp D n) t p) (gpp D n (t - 2 ^ p)) → KRun G jX9_clear N (RpO G N w b (iZ (clr D n), S)) 135 [some (rf G b), some (.int (nI (alD D n))), some (.int (nI (myD D n))), some (.int (nI t)), some (.int (iZ (smf D t p + D p))), some (.int (nI (bsf (gpp D n) t p))), some (.int (nI p)), some (.int (nI (gpp D n (t - 2 ^ p))))] [.int (nI v)] 0 0 w1 := by
              intro v hv
              rw [hv]
              refine k_istore _ 137 dX9_clear_135 rfl (by decide) rfl rfl ?_
              refine k_iinc _ _ 140 dX9_clear_137 rfl rfl (nI_inc _) (by decide) rfl rfl ?_
              refine k_goto 74 dX9_clear_140 rfl ?_
              exact hx _ (by omega)
            refine k_icmp_leN 133 128 dX9_clear_125 rfl rfl (by omega) (by omega) (fun c => ?_) (fun c => ?_)
            · refine k_iload 135 dX9_clear_133 rfl rfl ?_
              exact nx2 _ (by rw [Nat.max_eq_left (by omega)])
            · refine k_iload 130 dX9_clear_128 rfl rfl ?_
              refine k_goto 135 dX9_clear_130 rfl ?_
              exact nx2 _ (by rw [Nat.max_eq_right (by omega)])
      exact ploop n 0 none (by omega)
  have aloop : ∀ d p, p + d = n → KRun G jX9_clear N (RpO G N w b (iZ (clr D n), S)) 6 [some (rf G b), some (.int (nI (alD D p))), some (.int (nI (myD D p))), some (.int (nI p)), none, none, none, none] [] 0 0 w := by
    intro d
    induction d with
    | zero =>
      intro p hp
      have hI : p = n := by omega
      subst hI
      refine k_iload_n 7 dX9_clear_6 rfl rfl rfl ?_
      refine k_aload_n 8 dX9_clear_7 rfl rfl rfl ?_
      refine k_get 11 dX9_clear_8 rfl fX9_clear_13 (by (repeat (refine Is.ne ?_ (by omega))); first | assumption | exact Is.up (by omega)) (by rfl) ?_
      refine k_iconst (nI 0) 12 dX9_clear_11 rfl kc_0 ?_
      refine k_ialdN 13 dX9_clear_12 rfl (by (repeat (refine Is.ne ?_ (by omega))); first | assumption | exact Is.up (by omega)) (by omega) (by omega) ?_
      rw [v2.1, hnn]
      refine k_icmp_geN 56 16 dX9_clear_13 rfl rfl (by omega) (by omega) (fun c => ?_) (fun c => ?_)
      rotate_left
      · omega
      refine k_iconst (nI 1) 57 dX9_clear_56 rfl kc_1 ?_
      refine k_istore_n _ 58 dX9_clear_57 rfl rfl (by decide) rfl rfl ?_
      refine sloop 127 1 w gr (by omega) (by omega) ⟨(by (repeat (refine Is.ne ?_ (by omega))); first | assumption | exact Is.up (by omega)), (by (repeat (refine Is.ne ?_ (by omega))); first | assumption | exact Is.up (by omega)), (by (repeat (refine Is.ne ?_ (by omega))); first | assumption | exact Is.up (by omega)), (by (repeat (refine Is.ne ?_ (by omega))); first | assumption | exact Is.up (by omega)), (by (repeat (refine Is.ne ?_ (by omega))); first | assumption | exact Is.up (by omega)), (by (repeat (refine Is.ne ?_ (by omega))); first | assumption | exact Is.up (by omega)), (by (repeat (refine Is.ne ?_ (by omega))); first | assumption | exact Is.up (by omega)), (by (repeat (refine Is.ne ?_ (by omega))); first | assumption | exact Is.up (by omega)), (by (repeat (refine Is.ne ?_ (by omega))); first | assumption | exact Is.up (by omega)), (by (repeat (refine Is.ne ?_ (by omega))); first | assumption | exact Is.up (by omega)), (by (repeat (refine Is.ne ?_ (by omega))); first | assumption | exact Is.up (by omega)), (by (repeat (refine Is.ne ?_ (by omega))); first | assumption | exact Is.up (by omega)), (by (repeat (refine Is.ne ?_ (by omega))); first | assumption | exact Is.up (by omega))⟩ Eqx.rf (fun q hq => ?_)
      rw [show q = 0 by omega, gpp_0]
      exact v8
    | succ d ih =>
      intro p hp
      have hDp := hD p (by omega)
      have hal := alD_b D p (by omega)
      have hp2 := p2_128 p (by omega)
      have hx := ih (p + 1) (by omega)
      simp only [alD, myD] at hx
      refine k_iload_n 7 dX9_clear_6 rfl rfl rfl ?_
      refine k_aload_n 8 dX9_clear_7 rfl rfl rfl ?_
      refine k_get 11 dX9_clear_8 rfl fX9_clear_13 (by (repeat (refine Is.ne ?_ (by omega))); first | assumption | exact Is.up (by omega)) (by rfl) ?_
      refine k_iconst (nI 0) 12 dX9_clear_11 rfl kc_0 ?_
      refine k_ialdN 13 dX9_clear_12 rfl (by (repeat (refine Is.ne ?_ (by omega))); first | assumption | exact Is.up (by omega)) (by omega) (by omega) ?_
      rw [v2.1, hnn]
      refine k_icmp_geN 56 16 dX9_clear_13 rfl rfl (by omega) (by omega) (fun c => ?_) (fun c => ?_)
      · omega
      refine k_iload_n 17 dX9_clear_16 rfl rfl rfl ?_
      refine k_aload_n 18 dX9_clear_17 rfl rfl rfl ?_
      refine k_iload_n 19 dX9_clear_18 rfl rfl rfl ?_
      refine k_V1 (ci := 8) 22 dX9_clear_19 rfl vX9_clear_108 (by (repeat (refine Is.ne ?_ (by omega))); first | assumption | exact Is.up (by omega)) rfl rfl (Nat.le_of_ble_eq_true rfl) rfl ⟨Nat.le_of_ble_eq_true rfl, Nat.le_of_ble_eq_true rfl⟩ (c_X9_due h (by omega)) (fun r9 w9 h9 => ?_)
      obtain ⟨h8, h9⟩ := h9
      subst h8
      have h9 := h9.symm
      subst h9
      rw [hDD]
      refine k_if_ne 29 25 dX9_clear_22 rfl rfl (fun c => ?_) (fun c => ?_)
      · have c1 : ¬ D p = 0 := fun z => c ((iZ_0 (by omega) (by omega)).mpr z)
        have c2 := c
        rw [if_neg c1, if_neg c1] at hx
        refine k_iconst (nI 1) 30 dX9_clear_29 rfl kc_1 ?_
        refine k_iload_n 31 dX9_clear_30 rfl rfl rfl ?_
        refine k_ishlE _ 32 dX9_clear_31 rfl (one_sh p (by omega)) ?_
        refine k_iorE _ 33 dX9_clear_32 rfl (or_sh7 p (by omega) _ (by omega) hal.1) ?_
        refine k_istore_n _ 34 dX9_clear_33 rfl rfl (by decide) rfl rfl ?_
        refine k_iload_n 35 dX9_clear_34 rfl rfl rfl ?_
        refine k_aload_n 36 dX9_clear_35 rfl rfl rfl ?_
        refine k_iload_n 37 dX9_clear_36 rfl rfl rfl ?_
        refine k_V1 (ci := 8) 40 dX9_clear_37 rfl vX9_clear_108 (by (repeat (refine Is.ne ?_ (by omega))); first | assumption | exact Is.up (by omega)) rfl rfl (Nat.le_of_ble_eq_true rfl) rfl ⟨Nat.le_of_ble_eq_true rfl, Nat.le_of_ble_eq_true rfl⟩ (c_X9_due h (by omega)) (fun r9 w9 h9 => ?_)
        obtain ⟨h8, h9⟩ := h9
        subst h8
        have h9 := h9.symm
        subst h9
        rw [hDD]
        refine k_if_ne 47 43 dX9_clear_40 rfl rfl (fun c => ?_) (fun c => ?_)
        · refine k_iconst (nI 1) 48 dX9_clear_47 rfl kc_1 ?_
          first | refine k_iaddE _ 49 dX9_clear_48 rfl (nI_add _ _) ?_ | refine k_iadd 49 dX9_clear_48 rfl ?_
          refine k_istore_n _ 50 dX9_clear_49 rfl rfl (by decide) rfl rfl ?_
          refine k_iinc _ _ 53 dX9_clear_50 rfl rfl (nI_inc _) (by decide) rfl rfl ?_
          refine k_goto 6 dX9_clear_53 rfl ?_
          exact hx
        · exact absurd c2 c
      · have c1 : D p = 0 := (iZ_0 (by omega) (by omega)).mp (Classical.not_not.mp c)
        have c2 := c
        rw [if_pos c1, if_pos c1] at hx
        refine k_iconst (nI 0) 26 dX9_clear_25 rfl kc_0 ?_
        refine k_goto 32 dX9_clear_26 rfl ?_
        refine k_iorE _ 33 dX9_clear_32 rfl (or_0 _) ?_
        refine k_istore_n _ 34 dX9_clear_33 rfl rfl (by decide) rfl rfl ?_
        refine k_iload_n 35 dX9_clear_34 rfl rfl rfl ?_
        refine k_aload_n 36 dX9_clear_35 rfl rfl rfl ?_
        refine k_iload_n 37 dX9_clear_36 rfl rfl rfl ?_
        refine k_V1 (ci := 8) 40 dX9_clear_37 rfl vX9_clear_108 (by (repeat (refine Is.ne ?_ (by omega))); first | assumption | exact Is.up (by omega)) rfl rfl (Nat.le_of_ble_eq_true rfl) rfl ⟨Nat.le_of_ble_eq_true rfl, Nat.le_of_ble_eq_true rfl⟩ (c_X9_due h (by omega)) (fun r9 w9 h9 => ?_)
        obtain ⟨h8, h9⟩ := h9
        subst h8
        have h9 := h9.symm
        subst h9
        rw [hDD]
        refine k_if_ne 47 43 dX9_clear_40 rfl rfl (fun c => ?_) (fun c => ?_)
        · exact absurd c c2
        · refine k_iconst (nI 0) 44 dX9_clear_43 rfl kc_0 ?_
          refine k_goto 48 dX9_clear_44 rfl ?_
          first | refine k_iaddE _ 49 dX9_clear_48 rfl (nI_add _ _) ?_ | refine k_iadd 49 dX9_clear_48 rfl ?_
          refine k_istore_n _ 50 dX9_clear_49 rfl rfl (by decide) rfl rfl ?_
          refine k_iinc _ _ 53 dX9_clear_50 rfl rfl (nI_inc _) (by decide) rfl rfl ?_
          refine k_goto 6 dX9_clear_53 rfl ?_
          exact hx
  exact aloop n 0 (by omega)
def msB (p : Nat) (o : Option (Nat × Int)) : Prop := ∀ q, o = some q → q.1 < p ∧ -1700000 ≤ q.2 ∧ q.2 ≤ 1700000
theorem c_X9_miss {G : KG} {N : Nat} {w : WD} {b : Nat} {x : Int32} {S : St} (h : RsM G N w b S (qM S) none) (hO : sOK S) : KCon G jX9_miss N w [rf G b, .int x] (RpO G N w b (a_miss S x)) := by
  obtain ⟨at_, s, to_, g0, g5, v3, g2, v2⟩ := h.ob
  obtain ⟨o1, o2, ⟨o3, o4⟩, o5, o6, -⟩ := hO
  have hn7 := o1.1
  have hL7 := ok_l7 o3
  refine KCon.of ([some (rf G b), some (.int x), none, none, none, none, none, none, none]) (by decide) rfl (by simp [Value.category]) (Nat.le_of_ble_eq_true rfl) rfl ?_
  refine k_iload_n 1 dX9_miss_0 rfl rfl rfl ?_
  refine k_iconst (nI 0) 2 dX9_miss_1 rfl kc_0 ?_
  refine k_iconst (nI 1) 3 dX9_miss_2 rfl kc_1 ?_
  refine k_S3 6 dX9_miss_3 rfl vX9_miss_56 (Nat.le_of_ble_eq_true rfl) rfl ⟨Nat.le_of_ble_eq_true rfl, Nat.le_of_ble_eq_true rfl⟩ (c_X9_inN (by omega) (by omega)) (fun r9 w9 h9 => ?_)
  obtain ⟨h8, h9⟩ := h9
  subst h8
  have h9 := h9.symm
  subst h9
  rcases rgn_c 0 1 x with ⟨u, w1', w2', rfl, e⟩ | ⟨hz, e⟩
  · rw [e]
    refine k_if_neB 11 9 dX9_miss_6 rfl rfl (fun c9 => ?_) (fun c9 => absurd c9 (by simp))
    have ea : a_miss S (nI u) = ((match msd (qF S) (qM S) (oN (qF S)) with
    | none => -4
    | some (k, v) => if u = 0 then nI k else iZ (200000 + v)), S) := by
      unfold a_miss
      rw [e] <;> rfl
    rw [ea]
    clear ea
    generalize hPost : (RpO G N w b ((match msd (qF S) (qM S) (oN (qF S)) with
    | none => (-4 : Int32)
    | some (k, v) => if u = 0 then nI k else iZ (200000 + v)), S)) = Post
    refine k_aload_n 12 dX9_miss_11 rfl rfl rfl ?_
    refine k_V0 (ci := 8) 15 dX9_miss_12 rfl vX9_miss_143 (by (repeat (refine Is.ne ?_ (by omega))); first | assumption | exact Is.up (by omega)) rfl rfl (Nat.le_of_ble_eq_true rfl) rfl ⟨Nat.le_of_ble_eq_true rfl, Nat.le_of_ble_eq_true rfl⟩ (c_X9_holds h hn7 hL7) (fun r1 w1 x1 => ?_)
    obtain ⟨rfl, hR1, hE1⟩ := x1
    obtain ⟨at1, s1, to1, q0, q5, u3, q2, u2⟩ := hR1.ob
    refine k_aload_n 16 dX9_miss_15 rfl rfl rfl ?_
    refine k_get 19 dX9_miss_16 rfl fX9_miss_22 (by (repeat (refine Is.ne ?_ (by omega))); first | assumption | exact Is.up (by omega)) (by rfl) ?_
    refine k_iconst (nI 1) 20 dX9_miss_19 rfl kc_1 ?_
    refine k_ialdN 21 dX9_miss_20 rfl (by (repeat (refine Is.ne ?_ (by omega))); first | assumption | exact Is.up (by omega)) (by omega) (by omega) ?_
    rw [u3.2.1]
    refine k_istore_n _ 22 dX9_miss_21 rfl rfl (by decide) rfl rfl ?_
    refine k_bipush (-4) 24 dX9_miss_22 rfl kbm_4 ?_
    refine k_istore_n _ 25 dX9_miss_24 rfl rfl (by decide) rfl rfl ?_
    refine k_bipush (-4) 27 dX9_miss_25 rfl kbm_4 ?_
    refine k_istore _ 29 dX9_miss_27 rfl (by decide) rfl rfl ?_
    refine k_iconst (nI 0) 30 dX9_miss_29 rfl kc_0 ?_
    refine k_istore _ 32 dX9_miss_30 rfl (by decide) rfl rfl ?_
    have loop : ∀ d p (w2 : WD), p + d = oN (qF S) → RsM G N w2 b S (qM S) (some (qM S)) → Eqx w w2 b (b + 12) → msB p (msd (qF S) (qM S) p) → KRun G jX9_miss N Post 32 [some (rf G b), some (.int (nI u)), some (.int (nI (mL (qM S)))), some (.int (iZ (bsJ (msd (qF S) (qM S) p)))), some (.int (bsI (msd (qF S) (qM S) p))), some (.int (nI p)), none, none, none] [] 0 0 w2 := by
      intro d
      induction d with
      | zero =>
        intro p w2 hp hR hE hB
        have hI : p = oN (qF S) := by omega
        subst hI
        obtain ⟨at2, s2, to2, j0, j5, t3, j2, t2⟩ := hR.ob
        rw [← hPost]
        refine k_iload 34 dX9_miss_32 rfl rfl ?_
        refine k_aload_n 35 dX9_miss_34 rfl rfl rfl ?_
        refine k_get 38 dX9_miss_35 rfl fX9_miss_13 (by (repeat (refine Is.ne ?_ (by omega))); first | assumption | exact Is.up (by omega)) (by rfl) ?_
        refine k_iconst (nI 0) 39 dX9_miss_38 rfl kc_0 ?_
        refine k_ialdN 40 dX9_miss_39 rfl (by (repeat (refine Is.ne ?_ (by omega))); first | assumption | exact Is.up (by omega)) (by omega) (by omega) ?_
        rw [t2.1]
        refine k_icmp_geN 184 43 dX9_miss_40 rfl rfl (by omega) (by omega) (fun c => ?_) (fun c => ?_)
        rotate_left
        · omega
        refine k_iload_n 185 dX9_miss_184 rfl rfl rfl ?_
        refine k_if_neN 193 188 dX9_miss_185 rfl rfl (by omega) (fun c => ?_) (fun c => ?_)
        · refine k_iload_n 194 dX9_miss_193 rfl rfl rfl ?_
          refine k_iret dX9_miss_194 rfl rfl (Nat.le_of_ble_eq_true rfl) ⟨?_, hR.drop, hE⟩
          cases msd (qF S) (qM S) (oN (qF S)) with
          | none => rfl
          | some q =>
            obtain ⟨q1, q2⟩ := q
            dsimp only [bsJ]
            rw [if_neg (by omega)]
        · refine k_iload 190 dX9_miss_188 rfl rfl ?_
          refine k_goto 194 dX9_miss_190 rfl ?_
          refine k_iret dX9_miss_194 rfl rfl (Nat.le_of_ble_eq_true rfl) ⟨?_, hR.drop, hE⟩
          cases msd (qF S) (qM S) (oN (qF S)) with
          | none => rfl
          | some q =>
            obtain ⟨q1, q2⟩ := q
            dsimp only [bsI]
            rw [if_pos (by omega)]
      | succ d ih =>
        intro p w2 hp hR hE hB
        have hpn : p < oN (qF S) := by omega
        obtain ⟨at2, s2, to2, j0, j5, t3, j2, t2⟩ := hR.ob
        have nx : ∀ (w3 : WD) (L6 L7 L8 : Option Value), RsM G N w3 b S (qM S) (some (qM S)) → Eqx w w3 b (b + 12) → msB (p + 1) (msd (qF S) (qM S) (p + 1)) → KRun G jX9_miss N Post 178 [some (rf G b), some (.int (nI u)), some (.int (nI (mL (qM S)))), some (.int (iZ (bsJ (msd (qF S) (qM S) (p + 1))))), some (.int (bsI (msd (qF S) (qM S) (p + 1)))), some (.int (nI p)), L6, L7, L8] [] 0 0 w3 := by
          intro w3 L6 L7 L8 hR3 hE3 hB3
          refine k_iinc _ _ 181 dX9_miss_178 rfl rfl (nI_inc _) (by decide) rfl rfl ?_
          refine k_goto 32 dX9_miss_181 rfl ?_
          refine k_loc [some (rf G b), some (.int (nI u)), some (.int (nI (mL (qM S)))), some (.int (iZ (bsJ (msd (qF S) (qM S) (p + 1))))), some (.int (bsI (msd (qF S) (qM S) (p + 1)))), some (.int (nI (p + 1))), none, none, none] ⟨rfl, rfl, rfl, rfl, rfl, rfl, trivial⟩ rfl ?_
          exact ih (p + 1) w3 (by omega) hR3 hE3 hB3
        refine k_iload 34 dX9_miss_32 rfl rfl ?_
        refine k_aload_n 35 dX9_miss_34 rfl rfl rfl ?_
        refine k_get 38 dX9_miss_35 rfl fX9_miss_13 (by (repeat (refine Is.ne ?_ (by omega))); first | assumption | exact Is.up (by omega)) (by rfl) ?_
        refine k_iconst (nI 0) 39 dX9_miss_38 rfl kc_0 ?_
        refine k_ialdN 40 dX9_miss_39 rfl (by (repeat (refine Is.ne ?_ (by omega))); first | assumption | exact Is.up (by omega)) (by omega) (by omega) ?_
        rw [t2.1]
        refine k_icmp_geN 184 43 dX9_miss_40 rfl rfl (by omega) (by omega) (fun c => ?_) (fun c => ?_)
        · omega
        refine k_aload_n 44 dX9_miss_43 rfl rfl rfl ?_
        refine k_iload 46 dX9_miss_44 rfl rfl ?_
        refine k_V1 (ci := 8) 49 dX9_miss_46 rfl vX9_miss_105 (by (repeat (refine Is.ne ?_ (by omega))); first | assumption | exact Is.up (by omega)) rfl rfl (Nat.le_of_ble_eq_true rfl) rfl ⟨Nat.le_of_ble_eq_true rfl, Nat.le_of_ble_eq_true rfl⟩ (c_X9_pl hR o3 hpn) (fun r9 w9 h9 => ?_)
        obtain ⟨h8, h9⟩ := h9
        subst h8
        have h9 := h9.symm
        subst h9
        refine k_bipush (-4) 51 dX9_miss_49 rfl kbm_4 ?_
        cases e1 : plc (qM S) p with
        | none =>
          have em : msd (qF S) (qM S) (p + 1) = msd (qF S) (qM S) p := by
            simp only [msd]
            rw [e1]
          rw [em] at nx
          refine k_icmp_eq 178 54 dX9_miss_51 rfl rfl (fun c => ?_) (fun c => ?_)
          · exact nx w2 _ _ _ hR hE (fun q hq => by have := hB q hq; omega)
          · exact absurd rfl c
        | some j =>
          obtain ⟨hj, hjp⟩ := plc_some e1
          have hrm := ok_rem o3 (k := j) (st := 2) hj (by omega) (by omega)
          have em : msd (qF S) (qM S) (p + 1) = bst (msd (qF S) (qM S) p) p (msm (mns (qF S) (rem (qM S) j 2) 10) (qM S) p (mL (qM S))) := by
            simp only [msd]
            rw [e1]
          rw [em] at nx
          refine k_icmp_eq 178 54 dX9_miss_51 rfl rfl (fun c => ?_) (fun c => ?_)
          · exact absurd c (pI_some (by omega))
          refine k_aload_n 55 dX9_miss_54 rfl rfl rfl ?_
          refine k_aload_n 56 dX9_miss_55 rfl rfl rfl ?_
          refine k_iload 58 dX9_miss_56 rfl rfl ?_
          refine k_V1 (ci := 8) 61 dX9_miss_58 rfl vX9_miss_105 (by (repeat (refine Is.ne ?_ (by omega))); first | assumption | exact Is.up (by omega)) rfl rfl (Nat.le_of_ble_eq_true rfl) rfl ⟨Nat.le_of_ble_eq_true rfl, Nat.le_of_ble_eq_true rfl⟩ (c_X9_pl hR o3 hpn) (fun r9 w9 h9 => ?_)
          obtain ⟨h8, h9⟩ := h9
          subst h8
          have h9 := h9.symm
          subst h9
          rw [e1]
          refine k_tp (.int (nI j)) rfl ?_
          refine k_iconst (nI 2) 62 dX9_miss_61 rfl kc_2 ?_
          refine k_V2 (ci := 8) 65 dX9_miss_62 rfl vX9_miss_115 (by (repeat (refine Is.ne ?_ (by omega))); first | assumption | exact Is.up (by omega)) rfl rfl (Nat.le_of_ble_eq_true rfl) rfl ⟨Nat.le_of_ble_eq_true rfl, Nat.le_of_ble_eq_true rfl⟩ (c_X9_goes (st := 2) hR o3.p hj) (fun r3 w3 x3 => ?_)
          obtain ⟨rfl, hR3, hE3⟩ := x3
          refine k_iconst (nI 0) 66 dX9_miss_65 rfl kc_0 ?_
          refine k_istore _ 68 dX9_miss_66 rfl (by decide) rfl rfl ?_
          generalize hMk : rem (qM S) j 2 = Mk at *
          have hGk : mG Mk = mG (qM S) := by
            rw [← hMk]
            rfl
          have il : ∀ d2 m (w4 : WD), m + d2 = 10 → RsM G N w4 b S (mns (qF S) Mk m) (some (qM S)) → Eqx w w4 b (b + 12) → KRun G jX9_miss N Post 68 [some (rf G b), some (.int (nI u)), some (.int (nI (mL (qM S)))), some (.int (iZ (bsJ (msd (qF S) (qM S) p)))), some (.int (bsI (msd (qF S) (qM S) p))), some (.int (nI p)), some (.int (nI m)), none, none] [] 0 0 w4 := by
            intro d2
            induction d2 with
            | zero =>
              intro m w4 hm hR4 hE4
              have hI : m = 10 := by omega
              subst hI
              obtain ⟨hOm, hGm⟩ := mns_ok hrm o1 (n := 10) (by omega) 10 (by omega)
              obtain ⟨at4, s4, to4, j40, j45, t43, j42, t42⟩ := hR4.ob
              have hmb := msm_b (p := p) hOm o3 (mL (qM S)) (Nat.le_refl _)
              refine k_iload 70 dX9_miss_68 rfl rfl ?_
              refine k_bipush (nI 10) 72 dX9_miss_70 rfl kb_10 ?_
              refine k_icmp_geN 86 75 dX9_miss_72 rfl rfl (by omega) (by omega) (fun c => ?_) (fun c => ?_)
              rotate_left
              · omega
              refine k_ldc ((iZ 200000)) 88 dX9_miss_86 rfl (by decide +kernel) ?_
              refine k_istore _ 90 dX9_miss_88 rfl (by decide) rfl rfl ?_
              refine k_iconst (nI 0) 91 dX9_miss_90 rfl kc_0 ?_
              refine k_istore _ 93 dX9_miss_91 rfl (by decide) rfl rfl ?_
              have jl : ∀ d3 q (L8 : Option Value), q + d3 = mL (qM S) → KRun G jX9_miss N Post 93 [some (rf G b), some (.int (nI u)), some (.int (nI (mL (qM S)))), some (.int (iZ (bsJ (msd (qF S) (qM S) p)))), some (.int (bsI (msd (qF S) (qM S) p))), some (.int (nI p)), some (.int (iZ (200000 + msm (mns (qF S) Mk 10) (qM S) p q))), some (.int (nI q)), L8] [] 0 0 w4 := by
                intro d3
                induction d3 with
                | zero =>
                  intro q L8 hq
                  have hI : q = mL (qM S) := by omega
                  subst hI
                  generalize hv : msm (mns (qF S) Mk 10) (qM S) p (mL (qM S)) = v at *
                  generalize ho : msd (qF S) (qM S) p = o at *
                  have hvb : -1700000 ≤ v ∧ v ≤ 1700000 := by omega
                  have hBn : msB (p + 1) (bst o p v) := by
                    intro q hq
                    cases o with
                    | none =>
                      cases hq
                      exact ⟨by show p < p + 1; omega, hvb.1, hvb.2⟩
                    | some q0 =>
                      obtain ⟨q01, q02⟩ := q0
                      have h0 := hB _ rfl
                      simp only [bst] at hq
                      split at hq
                      · cases hq
                        exact ⟨by show p < p + 1; omega, hvb.1, hvb.2⟩
                      · cases hq
                        exact ⟨by have := h0.1; omega, h0.2⟩
                  have fin : ∀ (L6 L7 : Option Value), KRun G jX9_miss N Post 174 [some (rf G b), some (.int (nI u)), some (.int (nI (mL (qM S)))), some (.int (iZ (bsJ (bst o p v)))), some (.int (bsI (bst o p v))), some (.int (nI p)), L6, L7, L8] [] 0 0 w4 := by
                    intro L6 L7
                    refine k_aload_n 175 dX9_miss_174 rfl rfl rfl ?_
                    refine k_V0 (ci := 8) 178 dX9_miss_175 rfl vX9_miss_146 (by (repeat (refine Is.ne ?_ (by omega))); first | assumption | exact Is.up (by omega)) rfl rfl (Nat.le_of_ble_eq_true rfl) rfl ⟨Nat.le_of_ble_eq_true rfl, Nat.le_of_ble_eq_true rfl⟩ (c_X9_backs hR4 hn7 hL7) (fun r6 w6 x6 => ?_)
                    obtain ⟨rfl, hR6, hE6⟩ := x6
                    exact nx w6 L6 L7 L8 hR6 (hE4.tr hE6) hBn
                  refine k_iload 95 dX9_miss_93 rfl rfl ?_
                  refine k_iload_n 96 dX9_miss_95 rfl rfl rfl ?_
                  refine k_icmp_geN 138 99 dX9_miss_96 rfl rfl (by omega) (by omega) (fun c => ?_) (fun c => ?_)
                  rotate_left
                  · omega
                  have big : bsI (bst o p v) = nI p → bsJ (bst o p v) = 200000 + v → ∀ L6 L7 : Option Value, L6 = some (.int (iZ (200000 + v))) → KRun G jX9_miss N Post 151 [some (rf G b), some (.int (nI u)), some (.int (nI (mL (qM S)))), some (.int (iZ (bsJ o))), some (.int (bsI o)), some (.int (nI p)), L6, L7, L8] [] 0 0 w4 := by
                    intro e5 e6 L6 L7 hL6
                    rw [e5, e6] at fin
                    rw [hL6]
                    refine k_iload 153 dX9_miss_151 rfl rfl ?_
                    refine k_goto 158 dX9_miss_153 rfl ?_
                    refine k_istore _ 160 dX9_miss_158 rfl (by decide) rfl rfl ?_
                    refine k_iload 162 dX9_miss_160 rfl rfl ?_
                    refine k_iload 164 dX9_miss_162 rfl rfl ?_
                    refine k_icmp_neN 172 167 dX9_miss_164 rfl rfl (by omega) (by omega) (fun c => ?_) (fun c => ?_)
                    · omega
                    · refine k_iload 169 dX9_miss_167 rfl rfl ?_
                      refine k_goto 173 dX9_miss_169 rfl ?_
                      refine k_istore_n _ 174 dX9_miss_173 rfl rfl (by decide) rfl rfl ?_
                      exact fin _ _
                  refine k_iload 140 dX9_miss_138 rfl rfl ?_
                  refine k_iload_n 141 dX9_miss_140 rfl rfl rfl ?_
                  cases o with
                  | none =>
                    have hb1 := big rfl rfl
                    refine k_icmp_gt 151 144 dX9_miss_141 rfl rfl (fun c => ?_) (fun c => ?_)
                    · exact hb1 _ _ rfl
                    · refine k_iload 146 dX9_miss_144 rfl rfl ?_
                      refine k_bipush (-4) 148 dX9_miss_146 rfl kbm_4 ?_
                      refine k_icmp_ne 156 151 dX9_miss_148 rfl rfl (fun c => ?_) (fun c => ?_)
                      · exact absurd rfl c
                      · exact hb1 _ _ rfl
                  | some q0 =>
                    obtain ⟨q01, q02⟩ := q0
                    have h0 := hB _ rfl
                    have h0 : q01 < p ∧ -1700000 ≤ q02 ∧ q02 ≤ 1700000 := h0
                    have hlt : (iZ (200000 + v) ≤ iZ (200000 + q02) ↔ 200000 + v ≤ 200000 + q02) := iZ_le (by omega) (by omega) (by omega) (by omega)
                    have hlt2 : (iZ (200000 + q02) < iZ (200000 + v) ↔ ¬ 200000 + v ≤ 200000 + q02) := by
                      rw [← hlt]
                      exact Int32.not_le.symm
                    by_cases c0 : q02 < v
                    · have eb : bst (some (q01, q02)) p v = some (p, v) := by
                        simp only [bst]
                        rw [if_pos c0]
                      have hb1 := big (by rw [eb]; rfl) (by rw [eb]; rfl)
                      refine k_icmp_gt 151 144 dX9_miss_141 rfl rfl (fun c => ?_) (fun c => ?_)
                      · exact hb1 _ _ rfl
                      · exact absurd (hlt2.mpr (by omega)) c
                    · have eb : bst (some (q01, q02)) p v = some (q01, q02) := by
                        simp only [bst]
                        rw [if_neg c0]
                      rw [eb] at fin
                      refine k_icmp_gt 151 144 dX9_miss_141 rfl rfl (fun c => ?_) (fun c => ?_)
                      · have := hlt2.mp c
                        omega
                      · refine k_iload 146 dX9_miss_144 rfl rfl ?_
                        refine k_bipush (-4) 148 dX9_miss_146 rfl kbm_4 ?_
                        refine k_icmp_ne 156 151 dX9_miss_148 rfl rfl (fun c => ?_) (fun c => ?_)
                        · refine k_iload 158 dX9_miss_156 rfl rfl ?_
                          refine k_istore _ 160 dX9_miss_158 rfl (by decide) rfl rfl ?_
                          refine k_iload 162 dX9_miss_160 rfl rfl ?_
                          refine k_iload 164 dX9_miss_162 rfl rfl ?_
                          refine k_icmp_neN (a := q01) (b := p) 172 167 dX9_miss_164 rfl rfl (by omega) (by omega) (fun c => ?_) (fun c => by omega)
                          refine k_iload_n 173 dX9_miss_172 rfl rfl rfl ?_
                          refine k_istore_n _ 174 dX9_miss_173 rfl rfl (by decide) rfl rfl ?_
                          exact fin _ _
                        · refine absurd (Classical.not_not.mp c) ?_
                          show ¬ nI q01 = -4
                          intro z
                          have h1 := nI_pos (n := q01) (by omega)
                          rw [z] at h1
                          exact h1 (by decide)
                | succ d3 ih3 =>
                  intro q L8 hq
                  have hx := ih3 (q + 1)
                  simp only [msm] at hx
                  have hqn := o3.2.2.1 q (by omega)
                  have hR5 := hR4
                  obtain ⟨at5, tx5, to5, dr5, be5, s5, pa5, im5, nt5, ah5, sd5, gr5, ro5, ⟨p0, p1, p2, p3, p4, p5, p6, p7, p8, p9, p10, p11, p12⟩, x1, x2, x3, x4, x5, x6, x7, x8⟩ := hR5
                  refine k_iload 95 dX9_miss_93 rfl rfl ?_
                  refine k_iload_n 96 dX9_miss_95 rfl rfl rfl ?_
                  refine k_icmp_geN 138 99 dX9_miss_96 rfl rfl (by omega) (by omega) (fun c => ?_) (fun c => ?_)
                  · omega
                  refine k_aload_n 100 dX9_miss_99 rfl rfl rfl ?_
                  refine k_get 103 dX9_miss_100 rfl fX9_miss_37 (by (repeat (refine Is.ne ?_ (by omega))); first | assumption | exact Is.up (by omega)) (by rfl) ?_
                  refine k_iconst (nI 2) 104 dX9_miss_103 rfl kc_2 ?_
                  refine k_iload 106 dX9_miss_104 rfl rfl ?_
                  first | refine k_iaddE _ 107 dX9_miss_106 rfl (nI_add _ _) ?_ | refine k_iadd 107 dX9_miss_106 rfl ?_
                  refine k_ialdN 108 dX9_miss_107 rfl (by (repeat (refine Is.ne ?_ (by omega))); first | assumption | exact Is.up (by omega)) (by omega) (by omega) ?_
                  rw [(x7 _ rfl).2.2.1 q (by omega)]
                  refine k_istore _ 110 dX9_miss_108 rfl (by decide) rfl rfl ?_
                  refine k_iload 112 dX9_miss_110 rfl rfl ?_
                  refine k_iload 114 dX9_miss_112 rfl rfl ?_
                  refine k_iload 116 dX9_miss_114 rfl rfl ?_
                  refine k_icmp_neN 123 119 dX9_miss_116 rfl rfl (by omega) (by omega) (fun c => ?_) (fun c => ?_)
                  · have c1 : ¬ mQ (qM S) q = p := by omega
                    rw [if_neg c1] at hx
                    refine k_aload_n 124 dX9_miss_123 rfl rfl rfl ?_
                    refine k_iload 126 dX9_miss_124 rfl rfl ?_
                    refine k_V1 (ci := 8) 129 dX9_miss_126 rfl vX9_miss_108 (by (repeat (refine Is.ne ?_ (by omega))); first | assumption | exact Is.up (by omega)) rfl rfl (Nat.le_of_ble_eq_true rfl) rfl ⟨Nat.le_of_ble_eq_true rfl, Nat.le_of_ble_eq_true rfl⟩ (c_X9_due hR4 (by omega)) (fun r9 w9 h9 => ?_)
                    obtain ⟨h8, h9⟩ := h9
                    subst h8
                    have h9 := h9.symm
                    subst h9
                    refine k_iaddE _ 130 dX9_miss_129 rfl (by rw [iZ_add, Int.add_assoc]) ?_
                    refine k_istore _ 132 dX9_miss_130 rfl (by decide) rfl rfl ?_
                    refine k_iinc _ _ 135 dX9_miss_132 rfl rfl (nI_inc _) (by decide) rfl rfl ?_
                    refine k_goto 93 dX9_miss_135 rfl ?_
                    exact hx _ (by omega)
                  · have c1 : mQ (qM S) q = p := by omega
                    rw [if_pos c1, Int.add_zero] at hx
                    refine k_iconst (nI 0) 120 dX9_miss_119 rfl kc_0 ?_
                    refine k_goto 129 dX9_miss_120 rfl ?_
                    refine k_iaddE (iZ (200000 + msm (mns (qF S) Mk 10) (qM S) p q)) 130 dX9_miss_129 rfl (by rw [← iZ_nat, iZ_add]; exact congrArg iZ (by omega)) ?_
                    refine k_istore _ 132 dX9_miss_130 rfl (by decide) rfl rfl ?_
                    refine k_iinc _ _ 135 dX9_miss_132 rfl rfl (nI_inc _) (by decide) rfl rfl ?_
                    refine k_goto 93 dX9_miss_135 rfl ?_
                    exact hx _ (by omega)
              refine k_loc [some (rf G b), some (.int (nI u)), some (.int (nI (mL (qM S)))), some (.int (iZ (bsJ (msd (qF S) (qM S) p)))), some (.int (bsI (msd (qF S) (qM S) p))), some (.int (nI p)), some (.int (iZ (200000 + msm (mns (qF S) Mk 10) (qM S) p 0))), some (.int (nI 0)), none] ⟨rfl, rfl, rfl, rfl, rfl, rfl, rfl, rfl, trivial⟩ rfl ?_
              exact jl (mL (qM S)) 0 none (by omega)
            | succ d2 ih2 =>
              intro m w4 hm hR4 hE4
              obtain ⟨hOm, hGm⟩ := mns_ok hrm o1 (n := 10) (by omega) m (by omega)
              obtain ⟨at4, s4, to4, j40, j45, t43, j42, t42⟩ := hR4.ob
              refine k_iload 70 dX9_miss_68 rfl rfl ?_
              refine k_bipush (nI 10) 72 dX9_miss_70 rfl kb_10 ?_
              refine k_icmp_geN 86 75 dX9_miss_72 rfl rfl (by omega) (by omega) (fun c => ?_) (fun c => ?_)
              · omega
              refine k_aload_n 76 dX9_miss_75 rfl rfl rfl ?_
              refine k_iconst (nI 1) 77 dX9_miss_76 rfl kc_1 ?_
              refine k_V1 (ci := 8) 80 dX9_miss_77 rfl vX9_miss_122 (by (repeat (refine Is.ne ?_ (by omega))); first | assumption | exact Is.up (by omega)) rfl rfl (Nat.le_of_ble_eq_true rfl) rfl ⟨Nat.le_of_ble_eq_true rfl, Nat.le_of_ble_eq_true rfl⟩ (c_X9_passes (pb := true) hR4 hOm o1 (by omega)) (fun r6 w6 x6 => ?_)
              obtain ⟨rfl, hR6, hE6⟩ := x6
              refine k_iinc _ _ 83 dX9_miss_80 rfl rfl (nI_inc _) (by decide) rfl rfl ?_
              refine k_goto 68 dX9_miss_83 rfl ?_
              exact ih2 (m + 1) w6 (by omega) hR6 (hE4.tr hE6)
          exact il 10 0 w3 (by omega) hR3 (hE.tr hE3)
    refine loop (oN (qF S)) 0 w1 (by omega) hR1 hE1 (fun q hq => by cases hq)
  · rw [e]
    have ea : a_miss S x = (-1, S) := by
      unfold a_miss
      rw [e]
    rw [ea]
    refine k_if_neB 11 9 dX9_miss_6 rfl rfl (fun c9 => absurd c9 (by simp)) (fun c9 => ?_)
    refine k_iconst (-1) 10 dX9_miss_9 rfl km_1 ?_
    refine k_iret dX9_miss_10 rfl rfl (Nat.le_of_ble_eq_true rfl) ⟨rfl, h, Eqx.rf⟩
