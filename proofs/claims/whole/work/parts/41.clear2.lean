/-! fewest payments: all, and those who have dues -/
def alD (D : Nat → Int) : Nat → Nat
  | 0 => 0
  | k + 1 => alD D k + (if D k = 0 then 0 else 2 ^ k)
def myD (D : Nat → Int) : Nat → Nat
  | 0 => 0
  | k + 1 => myD D k + (if D k = 0 then 0 else 1)
def uuD (D : Nat → Int) (n : Nat) : Nat → Nat
  | 0 => alD D n
  | k + 1 => uuD D n k + (if D k = 0 then 2 ^ k else 0)
theorem bit_lt : ∀ k, k < 7 → ∀ s, s < 128 → s < 2 ^ k → s / 2 ^ k % 2 = 0 := by decide +kernel
theorem p2_128 : ∀ k, k ≤ 7 → 2 ^ k ≤ 128 := by decide
theorem alD_b (D : Nat → Int) : ∀ k, k ≤ 7 → alD D k < 2 ^ k ∧ ∀ q, q < 7 → alD D k / 2 ^ q % 2 = if q < k ∧ D q ≠ 0 then 1 else 0 := by
  intro k
  induction k with
  | zero => intro _; exact ⟨by simp [alD], fun q _ => by simp [alD]⟩
  | succ k ih =>
    intro hk
    obtain ⟨i1, i2⟩ := ih (by omega)
    have h7 := p2_128 k (by omega)
    simp only [alD]
    by_cases e : D k = 0
    · rw [if_pos e, Nat.pow_succ]
      refine ⟨by omega, fun q hq => ?_⟩
      rw [Nat.add_zero, i2 q hq]
      have : (q < k ∧ D q ≠ 0) ↔ (q < k + 1 ∧ D q ≠ 0) := by
        refine ⟨fun h => ⟨by omega, h.2⟩, fun h => ⟨?_, h.2⟩⟩
        have : q ≠ k := fun e2 => h.2 (by rw [e2]; exact e)
        omega
      simp only [this]
    · rw [if_neg e, Nat.pow_succ]
      refine ⟨by omega, fun q hq => ?_⟩
      rw [(bit_add _ (by omega) k (by omega) (bit_lt k (by omega) _ (by omega) i1)).2 q hq, i2 q hq]
      by_cases e2 : q = k
      · subst e2
        rw [if_pos rfl, if_pos ⟨by omega, e⟩]
      · rw [if_neg e2]
        have : (q < k ∧ D q ≠ 0) ↔ (q < k + 1 ∧ D q ≠ 0) := ⟨fun h => ⟨by omega, h.2⟩, fun h => ⟨by omega, h.2⟩⟩
        simp only [this]
theorem uuD_b (D : Nat → Int) {n : Nat} (hn : n ≤ 7) : ∀ k, k ≤ n → uuD D n k < 128 ∧ ∀ q, q < 7 → uuD D n k / 2 ^ q % 2 = if q < n ∧ (q < k ∨ D q ≠ 0) then 1 else 0 := by
  intro k
  induction k with
  | zero =>
    intro _
    obtain ⟨h1, h2⟩ := alD_b D n hn
    have h7 := p2_128 n hn
    exact ⟨by simp only [uuD]; omega, fun q hq => by simp only [uuD]; rw [h2 q hq]; simp⟩
  | succ k ih =>
    intro hk
    obtain ⟨i1, i2⟩ := ih (by omega)
    simp only [uuD]
    by_cases e : D k = 0
    · rw [if_pos e]
      have hb : uuD D n k / 2 ^ k % 2 = 0 := by
        rw [i2 k (by omega), if_neg (fun h => by rcases h.2 with h | h; exact absurd h (Nat.lt_irrefl _); exact h e)]
      obtain ⟨j1, j2⟩ := bit_add _ i1 k (by omega) hb
      refine ⟨j1, fun q hq => ?_⟩
      rw [j2 q hq, i2 q hq]
      by_cases e2 : q = k
      · subst e2
        rw [if_pos rfl, if_pos ⟨by omega, Or.inl (by omega)⟩]
      · rw [if_neg e2]
        have : (q < k ∨ D q ≠ 0) ↔ (q < k + 1 ∨ D q ≠ 0) := by
          constructor
          · rintro (h | h)
            · exact Or.inl (by omega)
            · exact Or.inr h
          · rintro (h | h)
            · exact Or.inl (by omega)
            · exact Or.inr h
        simp only [this]
    · rw [if_neg e, Nat.add_zero]
      refine ⟨i1, fun q hq => ?_⟩
      rw [i2 q hq]
      have : (q < k ∨ D q ≠ 0) ↔ (q < k + 1 ∨ D q ≠ 0) := by
        constructor
        · rintro (h | h)
          · exact Or.inl (by omega)
          · exact Or.inr h
        · rintro (h | h)
          · by_cases e2 : q = k
            · exact Or.inr (by rw [e2]; exact e)
            · exact Or.inl (by omega)
          · exact Or.inr h
      simp only [this]
theorem gpp_uu (D : Nat → Int) {n : Nat} (hn : n ≤ 7) : ∀ k, k ≤ n → gpp D n (uuD D n k) + myD D k = gpp D n (alD D n) + k ∧ uuD D n k + alD D k + 1 = alD D n + 2 ^ k := by
  intro k
  induction k with
  | zero => intro _; exact ⟨rfl, by simp [uuD, alD]⟩
  | succ k ih =>
    intro hk
    obtain ⟨i1, i2⟩ := ih (by omega)
    obtain ⟨j1, j2⟩ := uuD_b D hn k (by omega)
    simp only [uuD, myD, alD, Nat.pow_succ]
    by_cases e : D k = 0
    · have hb : uuD D n k / 2 ^ k % 2 = 0 := by
        rw [j2 k (by omega), if_neg (fun h => by rcases h.2 with h | h; exact absurd h (Nat.lt_irrefl _); exact h e)]
      rw [if_pos e, if_pos e, if_pos e, gpp_z hn (by omega) e _ j1 hb]
      exact ⟨by omega, by omega⟩
    · rw [if_neg e, if_neg e, if_neg e, Nat.add_zero]
      exact ⟨by omega, by omega⟩
theorem gpp_all (D : Nat → Int) {n : Nat} (hn : n ≤ 7) : gpp D n (2 ^ n - 1) + myD D n = gpp D n (alD D n) + n := by
  obtain ⟨h1, h2⟩ := gpp_uu D hn n (Nat.le_refl _)
  rw [show 2 ^ n - 1 = uuD D n n by omega]
  exact h1
theorem myD_0 (D : Nat → Int) : ∀ k, alD D k = 0 → myD D k = 0 := by
  intro k
  induction k with
  | zero => intro _; rfl
  | succ k ih =>
    intro h
    have := Nat.pow_pos (n := k) (show 0 < 2 by omega)
    simp only [alD] at h
    simp only [myD]
    by_cases e : D k = 0
    · rw [if_pos e] at h ⊢
      exact ih h
    · rw [if_neg e] at h
      omega
def clr (D : Nat → Int) (n : Nat) : Int := (myD D n : Int) - (gpp D n (alD D n) : Int)
theorem smf_b {D : Nat → Int} {s : Nat} (h : ∀ p, p < 7 → -242520 ≤ D p ∧ D p ≤ 242520) : ∀ k : Nat, k ≤ 7 → -(242520 * (k : Int)) ≤ smf D s k ∧ smf D s k ≤ 242520 * k := by
  intro k
  induction k with
  | zero => intro _; simp [smf]
  | succ k ih =>
    intro hk
    have i := ih (by omega)
    have j := h k (by omega)
    simp only [smf]
    split <;> omega
theorem iZ_0 {x : Int} (h1 : -2147483648 ≤ x) (h2 : x < 2147483648) : iZ x = 0 ↔ x = 0 := by
  refine ⟨fun e => ?_, fun e => by rw [e]; decide⟩
  have := congrArg Int32.toInt e
  rwa [iZ_toInt h1 h2] at this
def ClA (G : KG) (N : Nat) (w : WD) (a : Nat) : Prop := ∃ sm gr : Nat → Int32, Is N w (a + 6) (ia G 128 sm) ∧ Is N w (a + 7) (ia G 128 gr) ∧ sm 0 = nI 0 ∧ gr 0 = nI 0
theorem ClA.fr {G : KG} {N a lo hi : Nat} {w w1 : WD} (h : ClA G N w a) (hE : Eqx w w1 lo hi) (hk : a + 8 ≤ lo ∨ hi ≤ a + 6) : ClA G N w1 a := by
  obtain ⟨sm, gr, h1, h2, h3⟩ := h
  exact ⟨sm, gr, h1.eqx hE (by omega), h2.eqx hE (by omega), h3⟩
theorem c_X2_mostGroupsInParts {G : KG} {N : Nat} {w : WD} {a fo b s : Nat} {x y z : Value} {D : Nat → Int} {gr : Nat → Int32} {F : Fo} (h : Is N w a (FsX G a fo b x y z)) (hF : FkM G N w fo F) (hn : oN F ≤ 7) (hg : Is N w (a + 7) (ia G 128 gr)) (hs : s < 128) (hr : ∀ t, t < s → gr t = nI (gpp D (oN F) t)) : KCon G jX2_mostGroupsInParts N w [rf G a, .int (nI s)] (fun r w1 => r = some (.int (nI (bsf (gpp D (oN F)) s (oN F)))) ∧ w1 = w) := by
  obtain ⟨kd, wo, pe, ⟨f0, -⟩, -⟩ := hF
  refine KCon.of ([some (rf G a), some (.int (nI s)), none, none]) (by decide) rfl (by simp [Value.category]) (Nat.le_of_ble_eq_true rfl) rfl ?_
  refine k_iconst (nI 0) 1 dX2_mostGroupsInParts_0 rfl kc_0 ?_
  refine k_istore_n _ 2 dX2_mostGroupsInParts_1 rfl rfl (by decide) rfl rfl ?_
  refine k_iconst (nI 0) 3 dX2_mostGroupsInParts_2 rfl kc_0 ?_
  refine k_istore_n _ 4 dX2_mostGroupsInParts_3 rfl rfl (by decide) rfl rfl ?_
  have bnd : ∀ k, k ≤ 7 → bsf (gpp D (oN F)) s k ≤ 128 := by
    intro k hk
    rcases bsf_at (g := gpp D (oN F)) (s := s) k with h | ⟨q, q1, q2, q3⟩
    · omega
    · rw [q3]
      have h8 : s - 2 ^ q < 128 := Nat.lt_of_le_of_lt (Nat.sub_le _ _) hs
      have := gpp_le D hn (s - 2 ^ q) h8
      omega
  have loop : ∀ d p, p + d = oN F → KRun G jX2_mostGroupsInParts N (fun r w1 => r = some (.int (nI (bsf (gpp D (oN F)) s (oN F)))) ∧ w1 = w) 4 [some (rf G a), some (.int (nI s)), some (.int (nI (bsf (gpp D (oN F)) s p))), some (.int (nI p))] [] 0 0 w := by
    intro d
    induction d with
    | zero =>
      intro p hp
      refine k_iload_n 5 dX2_mostGroupsInParts_4 rfl rfl rfl ?_
      refine k_aload_n 6 dX2_mostGroupsInParts_5 rfl rfl rfl ?_
      refine k_get 9 dX2_mostGroupsInParts_6 rfl fX2_mostGroupsInParts_25 (by (repeat (refine Is.ne ?_ (by omega))); first | assumption | exact Is.up (by omega)) (by rfl) ?_
      refine k_get 12 dX2_mostGroupsInParts_9 rfl fX2_mostGroupsInParts_76 (by (repeat (refine Is.ne ?_ (by omega))); first | assumption | exact Is.up (by omega)) (by rfl) ?_
      refine k_icmp_geN 49 15 dX2_mostGroupsInParts_12 rfl rfl (by omega) (by omega) (fun c => ?_) (fun c => ?_)
      · refine k_iload_n 50 dX2_mostGroupsInParts_49 rfl rfl rfl ?_
        refine k_iret dX2_mostGroupsInParts_50 rfl rfl (Nat.le_of_ble_eq_true rfl) ⟨by rw [show p = oN F by omega], rfl⟩
      · omega
    | succ d ih =>
      intro p hp
      have hbb := bnd p (by omega)
      refine k_iload_n 5 dX2_mostGroupsInParts_4 rfl rfl rfl ?_
      refine k_aload_n 6 dX2_mostGroupsInParts_5 rfl rfl rfl ?_
      refine k_get 9 dX2_mostGroupsInParts_6 rfl fX2_mostGroupsInParts_25 (by (repeat (refine Is.ne ?_ (by omega))); first | assumption | exact Is.up (by omega)) (by rfl) ?_
      refine k_get 12 dX2_mostGroupsInParts_9 rfl fX2_mostGroupsInParts_76 (by (repeat (refine Is.ne ?_ (by omega))); first | assumption | exact Is.up (by omega)) (by rfl) ?_
      refine k_icmp_geN 49 15 dX2_mostGroupsInParts_12 rfl rfl (by omega) (by omega) (fun c => ?_) (fun c => ?_)
      · omega
      refine k_iload_n 16 dX2_mostGroupsInParts_15 rfl rfl rfl ?_
      refine k_iload_n 17 dX2_mostGroupsInParts_16 rfl rfl rfl ?_
      refine k_ishr 18 dX2_mostGroupsInParts_17 rfl ?_
      refine k_iconst (nI 1) 19 dX2_mostGroupsInParts_18 rfl kc_1 ?_
      refine k_iandE _ 20 dX2_mostGroupsInParts_19 rfl (bit_sh s (by omega) p (by omega)) ?_
      refine k_iconst (nI 1) 21 dX2_mostGroupsInParts_20 rfl kc_1 ?_
      refine k_icmp_neN 43 24 dX2_mostGroupsInParts_21 rfl rfl (by omega) (by omega) (fun c => ?_) (fun c => ?_)
      · refine k_iinc _ _ 46 dX2_mostGroupsInParts_43 rfl rfl (nI_inc _) (by decide) rfl rfl ?_
        refine k_goto 4 dX2_mostGroupsInParts_46 rfl ?_
        have := ih (p + 1) (by omega)
        simp only [bsf] at this
        rw [if_neg (by omega)] at this
        exact this
      · have hb : s / 2 ^ p % 2 = 1 := by omega
        have hb1 := (bit_sub s hs p (by omega) hb).1
        have hb2 := Nat.pow_pos (n := p) (show 0 < 2 by omega)
        have hgl := gpp_le D hn (s - 2 ^ p) (by omega)
        refine k_iload_n 25 dX2_mostGroupsInParts_24 rfl rfl rfl ?_
        refine k_aload_n 26 dX2_mostGroupsInParts_25 rfl rfl rfl ?_
        refine k_get 29 dX2_mostGroupsInParts_26 rfl fX2_mostGroupsInParts_22 (by (repeat (refine Is.ne ?_ (by omega))); first | assumption | exact Is.up (by omega)) (by rfl) ?_
        refine k_iload_n 30 dX2_mostGroupsInParts_29 rfl rfl rfl ?_
        refine k_iconst (nI 1) 31 dX2_mostGroupsInParts_30 rfl kc_1 ?_
        refine k_iload_n 32 dX2_mostGroupsInParts_31 rfl rfl rfl ?_
        refine k_ishl 33 dX2_mostGroupsInParts_32 rfl ?_
        refine k_iconst (-1) 34 dX2_mostGroupsInParts_33 rfl km_1 ?_
        refine k_ixor 35 dX2_mostGroupsInParts_34 rfl ?_
        refine k_iandE _ 36 dX2_mostGroupsInParts_35 rfl (msk s hs p (by omega) hb) ?_
        refine k_S2 39 dX2_mostGroupsInParts_36 rfl vX2_mostGroupsInParts_97 (Nat.le_of_ble_eq_true rfl) rfl ⟨Nat.le_of_ble_eq_true rfl, Nat.le_of_ble_eq_true rfl⟩ (c_X3_at hg (by omega) (by omega)) (fun r9 w9 h9 => ?_)
        obtain ⟨h8, h9⟩ := h9
        subst h8
        have h9 := h9.symm
        subst h9
        rw [hr _ (by omega)]
        refine k_max _ 42 dX2_mostGroupsInParts_39 rfl vX2_mostGroupsInParts_119 (Nat.le_of_ble_eq_true rfl) ⟨Nat.le_of_ble_eq_true rfl, Nat.le_of_ble_eq_true rfl⟩ (nI_max (by omega) (by omega)) ?_
        refine k_istore_n _ 43 dX2_mostGroupsInParts_42 rfl rfl (by decide) rfl rfl ?_
        refine k_iinc _ _ 46 dX2_mostGroupsInParts_43 rfl rfl (nI_inc _) (by decide) rfl rfl ?_
        refine k_goto 4 dX2_mostGroupsInParts_46 rfl ?_
        have := ih (p + 1) (by omega)
        simp only [bsf] at this
        rw [if_pos hb] at this
        exact this
  exact loop (oN F) 0 (by omega)
