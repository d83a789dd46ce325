/-! Chance: rain -/
theorem bit_sh : ∀ s, s < 256 → ∀ i, i < 9 → (nI s >>> (nI i &&& 31)) &&& nI 1 = nI (s / 2 ^ i % 2) := by decide +kernel
theorem one_sh : ∀ n, n < 9 → nI 1 <<< (nI n &&& 31) = nI (2 ^ n) := by decide +kernel
def wgt (s x : Nat) : Nat → Nat
  | 0 => 1
  | i + 1 => wgt s x i * (if s / 2 ^ i % 2 = 1 then x else 10 - x)
def swg (n x : Nat) : Nat → Nat
  | 0 => 0
  | s + 1 => swg n x s + wgt s x n
theorem swg_all : ∀ n, n < 9 → ∀ x, x < 11 → swg n x (2 ^ n) = 10 ^ n := by decide +kernel
theorem swg_mono (n x : Nat) : ∀ {i j : Nat}, i ≤ j → swg n x i ≤ swg n x j := by
  intro i j h
  induction j with
  | zero => rw [Nat.le_zero.mp h]; exact Nat.le_refl _
  | succ j ih =>
    by_cases e : i = j + 1
    · rw [e]; exact Nat.le_refl _
    · have := ih (by omega)
      simp only [swg]
      omega
theorem p10 : ∀ n, n < 9 → 10 ^ n ≤ 100000000 := by decide
theorem p2 : ∀ n, n < 9 → 2 ^ n ≤ 256 := by decide
theorem wgt_b {n x s : Nat} (hn : n < 9) (hx : x < 11) (hs : s < 2 ^ n) : wgt s x n ≤ 100000000 := by
  have h1 := swg_mono n x (i := s + 1) (j := 2 ^ n) (by omega)
  rw [swg_all n hn x hx] at h1
  have h2 := p10 n hn
  simp only [swg] at h1
  omega
def rnm (F : Fo) (M : Mo) (s : Nat) : Nat → Mo
  | 0 => M
  | i + 1 => mnt F (decide (s / 2 ^ i % 2 = 0)) (rnm F M s i)
def hit (F : Fo) (M : Mo) (p n x : Nat) : Nat → Nat
  | 0 => 0
  | s + 1 => hit F M p n x s + if mW (rnm F M s n) p = 1 then wgt s x n else 0
theorem hit_le (F : Fo) (M : Mo) (p n x : Nat) : ∀ s, hit F M p n x s ≤ swg n x s := by
  intro s
  induction s with
  | zero => exact Nat.le_refl _
  | succ s ih =>
    simp only [hit, swg]
    split <;> omega
theorem ok_rnm {n : Nat} {M : Mo} {F : Fo} {s : Nat} (h : mOK n M) (hF : oOK F) (hn : n = oN F) : ∀ i, mG M + i ≤ 2000 → mOK n (rnm F M s i) ∧ mG (rnm F M s i) = mG M + i := by
  intro i
  induction i with
  | zero => exact fun _ => ⟨h, rfl⟩
  | succ i ih =>
    intro hi
    obtain ⟨i1, i2⟩ := ih (by omega)
    exact ⟨ok_mnt i1 hF hn (by omega), by simp only [rnm]; rw [mnt_G, i2]; rfl⟩
theorem c_X0_weightOf {G : KG} {N : Nat} {w : WD} {s n x : Nat} (hs : s < 2 ^ n) (hn : n < 9) (hx : x ≤ 10) : KCon G jX0_weightOf N w [.int (nI s), .int (nI n), .int (nI x)] (fun r w1 => r = some (.int (nI (wgt s x n))) ∧ w1 = w) := by
  have hs2 : s < 256 := Nat.lt_of_lt_of_le hs (p2 n hn)
  refine KCon.of ([some (.int (nI s)), some (.int (nI n)), some (.int (nI x)), none, none]) (by decide) rfl (by simp [Value.category]) (Nat.le_of_ble_eq_true rfl) rfl ?_
  refine k_iconst (nI 1) 1 dX0_weightOf_0 rfl kc_1 ?_
  refine k_istore_n _ 2 dX0_weightOf_1 rfl rfl (by decide) rfl rfl ?_
  refine k_iconst (nI 0) 3 dX0_weightOf_2 rfl kc_0 ?_
  refine k_istore _ 5 dX0_weightOf_3 rfl (by decide) rfl rfl ?_
  have loop : ∀ d i, i + d = n → KRun G jX0_weightOf N (fun r w1 => r = some (.int (nI (wgt s x n))) ∧ w1 = w) 5 [some (.int (nI s)), some (.int (nI n)), some (.int (nI x)), some (.int (nI (wgt s x i))), some (.int (nI i))] [] 0 0 w := by
    intro d
    induction d with
    | zero =>
      intro i hi
      refine k_iload 7 dX0_weightOf_5 rfl rfl ?_
      refine k_iload_n 8 dX0_weightOf_7 rfl rfl rfl ?_
      refine k_icmp_geN 38 11 dX0_weightOf_8 rfl rfl (by omega) (by omega) (fun c => ?_) (fun c => ?_)
      · refine k_iload_n 39 dX0_weightOf_38 rfl rfl rfl ?_
        refine k_iret dX0_weightOf_39 rfl rfl (Nat.le_of_ble_eq_true rfl) ⟨by rw [show i = n by omega], rfl⟩
      · omega
    | succ d ih =>
      intro i hi
      have hb := bit_sh s hs2 i (by omega)
      refine k_iload 7 dX0_weightOf_5 rfl rfl ?_
      refine k_iload_n 8 dX0_weightOf_7 rfl rfl rfl ?_
      refine k_icmp_geN 38 11 dX0_weightOf_8 rfl rfl (by omega) (by omega) (fun c => ?_) (fun c => ?_)
      · omega
      refine k_iload_n 12 dX0_weightOf_11 rfl rfl rfl ?_
      refine k_iload_n 13 dX0_weightOf_12 rfl rfl rfl ?_
      refine k_iload 15 dX0_weightOf_13 rfl rfl ?_
      refine k_ishr 16 dX0_weightOf_15 rfl ?_
      refine k_iconst (nI 1) 17 dX0_weightOf_16 rfl kc_1 ?_
      refine k_iandE _ 18 dX0_weightOf_17 rfl hb ?_
      have hb2 : s / 2 ^ i % 2 < 2 := Nat.mod_lt _ (by omega)
      refine k_iconst (nI 1) 19 dX0_weightOf_18 rfl kc_1 ?_
      generalize hbb : s / 2 ^ i % 2 = bb at *
      refine k_icmp_neN 26 22 dX0_weightOf_19 rfl rfl (by omega) (by omega) (fun c => ?_) (fun c => ?_)
      · refine k_bipush (nI 10) 28 dX0_weightOf_26 rfl kb_10 ?_
        refine k_iload_n 29 dX0_weightOf_28 rfl rfl rfl ?_
        first | refine k_isubE _ 30 dX0_weightOf_29 rfl (pk_sub (by omega)) ?_ | refine k_isub 30 dX0_weightOf_29 rfl ?_
        first | refine k_imulE _ 31 dX0_weightOf_30 rfl (pk_mul _ _) ?_ | refine k_imul 31 dX0_weightOf_30 rfl ?_
        refine k_istore_n _ 32 dX0_weightOf_31 rfl rfl (by decide) rfl rfl ?_
        refine k_iinc _ _ 35 dX0_weightOf_32 rfl rfl (nI_inc _) (by decide) rfl rfl ?_
        refine k_goto 5 dX0_weightOf_35 rfl ?_
        refine k_loc [some (.int (nI s)), some (.int (nI n)), some (.int (nI x)), some (.int (nI (wgt s x (i + 1)))), some (.int (nI (i + 1)))] ⟨rfl, rfl, rfl, ?_, rfl, trivial⟩ rfl ?_
        · show _ = some (Value.int (nI (wgt s x i * (if s / 2 ^ i % 2 = 1 then x else 10 - x))))
          rw [hbb, if_neg c]
        · exact ih (i + 1) (by omega)
      · refine k_iload_n 23 dX0_weightOf_22 rfl rfl rfl ?_
        refine k_goto 30 dX0_weightOf_23 rfl ?_
        first | refine k_imulE _ 31 dX0_weightOf_30 rfl (pk_mul _ _) ?_ | refine k_imul 31 dX0_weightOf_30 rfl ?_
        refine k_istore_n _ 32 dX0_weightOf_31 rfl rfl (by decide) rfl rfl ?_
        refine k_iinc _ _ 35 dX0_weightOf_32 rfl rfl (nI_inc _) (by decide) rfl rfl ?_
        refine k_goto 5 dX0_weightOf_35 rfl ?_
        refine k_loc [some (.int (nI s)), some (.int (nI n)), some (.int (nI x)), some (.int (nI (wgt s x (i + 1)))), some (.int (nI (i + 1)))] ⟨rfl, rfl, rfl, ?_, rfl, trivial⟩ rfl ?_
        · show _ = some (Value.int (nI (wgt s x i * (if s / 2 ^ i % 2 = 1 then x else 10 - x))))
          rw [hbb, if_pos c]
        · exact ih (i + 1) (by omega)
  exact loop n 0 (by omega)
theorem c_X0_commonDivisor {G : KG} {N : Nat} {w : WD} {a b : Nat} (ha : a ≤ 100000000) (hb : b ≤ a) : KCon G jX0_commonDivisor N w [.int (nI a), .int (nI b)] (fun r w1 => r = some (.int (nI (Nat.gcd a b))) ∧ w1 = w) := by
  refine KCon.of ([some (.int (nI a)), some (.int (nI b)), none, none, none, none]) (by decide) rfl (by simp [Value.category]) (Nat.le_of_ble_eq_true rfl) rfl ?_
  refine k_iload_n 1 dX0_commonDivisor_0 rfl rfl rfl ?_
  refine k_istore_n _ 2 dX0_commonDivisor_1 rfl rfl (by decide) rfl rfl ?_
  refine k_iload_n 3 dX0_commonDivisor_2 rfl rfl rfl ?_
  refine k_istore_n _ 4 dX0_commonDivisor_3 rfl rfl (by decide) rfl rfl ?_
  refine k_iconst (nI 0) 5 dX0_commonDivisor_4 rfl kc_0 ?_
  refine k_istore _ 7 dX0_commonDivisor_5 rfl (by decide) rfl rfl ?_
  have loop : ∀ d i x y, i + d = 64 → y ≤ x → x ≤ 100000000 → x * y * 2 ^ i ≤ 10000000000000000 → Nat.gcd x y = Nat.gcd a b → KRun G jX0_commonDivisor N (fun r w1 => r = some (.int (nI (Nat.gcd a b))) ∧ w1 = w) 7 [some (.int (nI a)), some (.int (nI b)), some (.int (nI x)), some (.int (nI y)), some (.int (nI i)), none] [] 0 0 w := by
    intro d
    induction d with
    | zero =>
      intro i x y hi hyx hx hp hg
      have hi : i = 64 := by omega
      have hy : y = 0 := by
        by_cases e : y = 0
        · exact e
        · have h1 : 1 ≤ x * y := Nat.mul_pos (by omega) (by omega)
          have h2 := Nat.mul_le_mul_right (2 ^ i) h1
          rw [hi] at h2 hp
          omega
      subst hy
      refine k_iload 9 dX0_commonDivisor_7 rfl rfl ?_
      refine k_bipush (nI 64) 11 dX0_commonDivisor_9 rfl kb_64 ?_
      refine k_icmp_geN 34 14 dX0_commonDivisor_11 rfl rfl (by omega) (by omega) (fun c => ?_) (fun c => ?_)
      · refine k_iload_n 35 dX0_commonDivisor_34 rfl rfl rfl ?_
        refine k_iret dX0_commonDivisor_35 rfl rfl (Nat.le_of_ble_eq_true rfl) ⟨by rw [← hg, Nat.gcd_zero_right], rfl⟩
      · omega
    | succ d ih =>
      intro i x y hi hyx hx hp hg
      refine k_iload 9 dX0_commonDivisor_7 rfl rfl ?_
      refine k_bipush (nI 64) 11 dX0_commonDivisor_9 rfl kb_64 ?_
      refine k_icmp_geN 34 14 dX0_commonDivisor_11 rfl rfl (by omega) (by omega) (fun c => ?_) (fun c => ?_)
      · omega
      refine k_iload_n 15 dX0_commonDivisor_14 rfl rfl rfl ?_
      refine k_if_leN 34 18 dX0_commonDivisor_15 rfl rfl (by omega) (fun c => ?_) (fun c => ?_)
      · subst c
        refine k_iload_n 35 dX0_commonDivisor_34 rfl rfl rfl ?_
        refine k_iret dX0_commonDivisor_35 rfl rfl (Nat.le_of_ble_eq_true rfl) ⟨by rw [← hg, Nat.gcd_zero_right], rfl⟩
      · refine k_iload_n 19 dX0_commonDivisor_18 rfl rfl rfl ?_
        refine k_iload_n 20 dX0_commonDivisor_19 rfl rfl rfl ?_
        refine k_irem _ 21 dX0_commonDivisor_20 rfl (nI_ne0 c (by omega)) (pk_rem (by omega) c (by omega)) ?_
        refine k_istore _ 23 dX0_commonDivisor_21 rfl (by decide) rfl rfl ?_
        refine k_iload_n 24 dX0_commonDivisor_23 rfl rfl rfl ?_
        refine k_istore_n _ 25 dX0_commonDivisor_24 rfl rfl (by decide) rfl rfl ?_
        refine k_iload 27 dX0_commonDivisor_25 rfl rfl ?_
        refine k_istore_n _ 28 dX0_commonDivisor_27 rfl rfl (by decide) rfl rfl ?_
        refine k_iinc _ _ 31 dX0_commonDivisor_28 rfl rfl (nI_inc _) (by decide) rfl rfl ?_
        refine k_goto 7 dX0_commonDivisor_31 rfl ?_
        refine k_loc [some (.int (nI a)), some (.int (nI b)), some (.int (nI y)), some (.int (nI (x % y))), some (.int (nI (i + 1))), none] ⟨rfl, rfl, rfl, rfl, rfl, trivial⟩ rfl ?_
        have hm := Nat.mod_lt x c
        have hq : x % y * 2 ≤ x := by
          have h1 := Nat.div_add_mod x y
          have h2 : 1 ≤ x / y := Nat.div_pos hyx c
          have h3 := Nat.mul_le_mul_left y h2
          omega
        refine ih (i + 1) y (x % y) (by omega) (by omega) (by omega) ?_ ?_
        · have h4 : y * (x % y) * 2 ≤ x * y := by
            rw [Nat.mul_assoc, Nat.mul_comm x y]
            exact Nat.mul_le_mul_left y hq
          have h5 := Nat.mul_le_mul_right (2 ^ i) h4
          rw [Nat.pow_succ, Nat.mul_comm (2 ^ i) 2, ← Nat.mul_assoc]
          omega
        · rw [← hg, Nat.gcd_comm x y, Nat.gcd_rec y x, Nat.gcd_comm]
  refine loop 64 0 a b (by omega) hb ha ?_ rfl
  have := Nat.mul_le_mul ha (Nat.le_trans hb ha)
  simpa using this
abbrev ChX (G : KG) (a fo b : Nat) (x y : Value) : va_E := ob 0 [x, y, rf G fo, rf G b, rf G (a + 1)]
theorem c_X0_isServedBehind {G : KG} {N : Nat} {w : WD} {a fo b n p m s : Nat} {x y : Value} {M : Mo} {F : Fo} (h : Is N w a (ChX G a fo b x y)) (hF : FkM G N w fo F) (hca : fo + 4 ≤ a) (hb : ScM G N w b n M) (hba : b + 5 ≤ a) (ht : TrG G N w (a + 1)) (hO : mOK n M) (hK : oOK F) (hn : n = oN F) (hp : p < n) (hs : s < 2 ^ m) (hm : m < 9) (hG : mG M + 400 < 2000) : KCon G jX0_isServedBehind N w [rf G a, .int (nI p), .int (nI m), .int (nI s)] (fun r w1 => r = some (.int (bI (decide (mW (rnm F M s m) p = 1)))) ∧ TrG G N w1 (a + 1) ∧ Eqx w w1 (a + 1) (a + 6)) := by
  have hn7 := hO.2.1
  have hL7 := ok_l7 hO
  have hs2 : s < 256 := Nat.lt_of_lt_of_le hs (p2 m hm)
  obtain ⟨l, wh, pu, db, len, gone, hR⟩ := ht
  obtain ⟨t0, -⟩ := id hR
  refine KCon.of ([some (rf G a), some (.int (nI p)), some (.int (nI m)), some (.int (nI s)), none]) (by decide) rfl (by simp [Value.category]) (Nat.le_of_ble_eq_true rfl) rfl ?_
  refine k_aload_n 1 dX0_isServedBehind_0 rfl rfl rfl ?_
  refine k_get 4 dX0_isServedBehind_1 rfl fX0_isServedBehind_10 (by (repeat (refine Is.ne ?_ (by omega))); first | assumption | exact Is.up (by omega)) (by rfl) ?_
  refine k_aload_n 5 dX0_isServedBehind_4 rfl rfl rfl ?_
  refine k_get 8 dX0_isServedBehind_5 rfl fX0_isServedBehind_20 (by (repeat (refine Is.ne ?_ (by omega))); first | assumption | exact Is.up (by omega)) (by rfl) ?_
  refine k_V1 (ci := 3) 11 dX0_isServedBehind_8 rfl vX0_isServedBehind_42 (by (repeat (refine Is.ne ?_ (by omega))); first | assumption | exact Is.up (by omega)) rfl rfl (Nat.le_of_ble_eq_true rfl) rfl ⟨Nat.le_of_ble_eq_true rfl, Nat.le_of_ble_eq_true rfl⟩ (c_X4_copyFrom hR hb (by omega) hn7 hL7) (fun r1 w1 x1 => ?_)
  obtain ⟨rfl, hS1, hE1⟩ := x1
  refine k_iconst (nI 0) 12 dX0_isServedBehind_11 rfl kc_0 ?_
  refine k_istore _ 14 dX0_isServedBehind_12 rfl (by decide) rfl rfl ?_
  have loop : ∀ d i (w1 : WD), i + d = m → ScM G N w1 (a + 1) n (rnm F M s i) → Eqx w w1 (a + 1) (a + 6) → KRun G jX0_isServedBehind N (fun r w1 => r = some (.int (bI (decide (mW (rnm F M s m) p = 1)))) ∧ TrG G N w1 (a + 1) ∧ Eqx w w1 (a + 1) (a + 6)) 14 [some (rf G a), some (.int (nI p)), some (.int (nI m)), some (.int (nI s)), some (.int (nI i))] [] 0 0 w1 := by
    intro d
    induction d with
    | zero =>
      intro i w1 hi hS hE
      have him : i = m := by omega
      subst him
      have h1 := h.eqx hE (by omega)
      obtain ⟨hOi, -⟩ := ok_rnm (s := s) hO hK hn i (by omega)
      obtain ⟨l2, wh2, pu2, db2, ⟨s0, -⟩, -⟩ := id hS
      refine k_iload 16 dX0_isServedBehind_14 rfl rfl ?_
      refine k_iload_n 17 dX0_isServedBehind_16 rfl rfl rfl ?_
      refine k_icmp_geN 51 20 dX0_isServedBehind_17 rfl rfl (by omega) (by omega) (fun c => ?_) (fun c => ?_)
      · refine k_aload_n 52 dX0_isServedBehind_51 rfl rfl rfl ?_
        refine k_get 55 dX0_isServedBehind_52 rfl fX0_isServedBehind_10 (by (repeat (refine Is.ne ?_ (by omega))); first | assumption | exact Is.up (by omega)) (by rfl) ?_
        refine k_iload_n 56 dX0_isServedBehind_55 rfl rfl rfl ?_
        refine k_V1 (ci := 3) 59 dX0_isServedBehind_56 rfl vX0_isServedBehind_50 (by (repeat (refine Is.ne ?_ (by omega))); first | assumption | exact Is.up (by omega)) rfl rfl (Nat.le_of_ble_eq_true rfl) rfl ⟨Nat.le_of_ble_eq_true rfl, Nat.le_of_ble_eq_true rfl⟩ (c_X4_isServed hS hn7 hp (hOi.2.2.2.2.1 p hp).1) (fun r9 w9 h9 => ?_)
        obtain ⟨h8, h9⟩ := h9
        subst h8
        have h9 := h9.symm
        subst h9
        refine k_zretB dX0_isServedBehind_59 rfl rfl (Nat.le_of_ble_eq_true rfl) ⟨rfl, hS.g, hE⟩
      · omega
    | succ d ih =>
      intro i w1 hi hS hE
      have h1 := h.eqx hE (by omega)
      have hF1 := hF.fr hE (by omega)
      obtain ⟨hOi, hGi⟩ := ok_rnm (s := s) hO hK hn i (by omega)
      obtain ⟨l2, wh2, pu2, db2, ⟨s0, -⟩, -⟩ := id hS
      have hbt := bit_sh s hs2 i (by omega)
      have hb2 : s / 2 ^ i % 2 < 2 := Nat.mod_lt _ (by omega)
      refine k_iload 16 dX0_isServedBehind_14 rfl rfl ?_
      refine k_iload_n 17 dX0_isServedBehind_16 rfl rfl rfl ?_
      refine k_icmp_geN 51 20 dX0_isServedBehind_17 rfl rfl (by omega) (by omega) (fun c => ?_) (fun c => ?_)
      · omega
      refine k_aload_n 21 dX0_isServedBehind_20 rfl rfl rfl ?_
      refine k_get 24 dX0_isServedBehind_21 rfl fX0_isServedBehind_10 (by (repeat (refine Is.ne ?_ (by omega))); first | assumption | exact Is.up (by omega)) (by rfl) ?_
      refine k_aload_n 25 dX0_isServedBehind_24 rfl rfl rfl ?_
      refine k_get 28 dX0_isServedBehind_25 rfl fX0_isServedBehind_16 (by (repeat (refine Is.ne ?_ (by omega))); first | assumption | exact Is.up (by omega)) (by rfl) ?_
      refine k_iload_n 29 dX0_isServedBehind_28 rfl rfl rfl ?_
      refine k_iload 31 dX0_isServedBehind_29 rfl rfl ?_
      refine k_ishr 32 dX0_isServedBehind_31 rfl ?_
      refine k_iconst (nI 1) 33 dX0_isServedBehind_32 rfl kc_1 ?_
      refine k_iandE _ 34 dX0_isServedBehind_33 rfl hbt ?_
      have run : KRun G jX0_isServedBehind N (fun r w1 => r = some (.int (bI (decide (mW (rnm F M s m) p = 1)))) ∧ TrG G N w1 (a + 1) ∧ Eqx w w1 (a + 1) (a + 6)) 42 [some (rf G a), some (.int (nI p)), some (.int (nI m)), some (.int (nI s)), some (.int (nI i))] [.int (bI (decide (s / 2 ^ i % 2 = 0))), rf G fo, rf G (a + 1)] 0 0 w1 := by
        refine k_V2 (ci := 3) 45 dX0_isServedBehind_42 rfl vX0_isServedBehind_46 (by (repeat (refine Is.ne ?_ (by omega))); first | assumption | exact Is.up (by omega)) rfl rfl (Nat.le_of_ble_eq_true rfl) rfl ⟨Nat.le_of_ble_eq_true rfl, Nat.le_of_ble_eq_true rfl⟩ (c_X4_runMinute hS hF1 (by omega) hOi hK hn (by omega)) (fun r2 w2 x2 => ?_)
        obtain ⟨rfl, hS2, hE2⟩ := x2
        refine k_iinc _ _ 48 dX0_isServedBehind_45 rfl rfl (nI_inc _) (by decide) rfl rfl ?_
        refine k_goto 14 dX0_isServedBehind_48 rfl ?_
        exact ih (i + 1) w2 (by omega) hS2 (hE.tr hE2)
      refine k_if_neN 41 37 dX0_isServedBehind_34 rfl rfl (by omega) (fun c => ?_) (fun c => ?_)
      · refine k_iconst (nI 0) 42 dX0_isServedBehind_41 rfl kc_0 ?_
        rw [show decide (s / 2 ^ i % 2 = 0) = false by simpa using c] at run
        exact run
      · refine k_iconst (nI 1) 38 dX0_isServedBehind_37 rfl kc_1 ?_
        refine k_goto 42 dX0_isServedBehind_38 rfl ?_
        rw [show decide (s / 2 ^ i % 2 = 0) = true by simpa using c] at run
        exact run
  exact loop m 0 w1 (by omega) hS1 hE1
