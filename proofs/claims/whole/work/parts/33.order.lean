/-! orders, one behind the other -/
def swp (f : Nat → Nat) (a b : Nat) : Nat → Nat := sf (sf f a (f b)) b (f a)
def pv (f : Nat → Nat) : Nat → Option Nat
  | 0 => none
  | r + 1 => if f (r + 1) < f r then pv f r else some r
def hgh (f : Nat → Nat) (r : Nat) : Nat → Nat
  | 0 => 0
  | h + 1 => if r < h + 1 ∧ f (h + 1) < f r then hgh f r h else h + 1
def rvs (f : Nat → Nat) : Nat → Nat → Nat → Nat → Nat
  | 0, _, _ => f
  | n + 1, lo, hi => if lo < hi then rvs (swp f lo hi) n (lo + 1) (hi - 1) else f
def nxt (L : Nat) (f : Nat → Nat) : Option (Nat → Nat) := match pv f (L - 1) with
  | none => none
  | some r => some (rvs (swp f r (hgh f r (L - 1))) L (r + 1) (L - 1))
def dst (L : Nat) (f : Nat → Nat) : Prop := ∀ i j, i < L → j < L → f i = f j → i = j
def cg (f : Nat → Nat) (v lo : Nat) : Nat → Nat
  | 0 => 0
  | h + 1 => cg f v lo h + if lo ≤ h ∧ v < f h then 1 else 0
theorem cg_sf (f : Nat → Nat) (k x v lo : Nat) : ∀ n, cg (sf f k x) v lo n + (if lo ≤ k ∧ k < n ∧ v < f k then 1 else 0) = cg f v lo n + (if lo ≤ k ∧ k < n ∧ v < x then 1 else 0) := by
  intro n
  induction n with
  | zero => simp [cg]
  | succ n ih =>
    simp only [cg]
    by_cases h : n = k
    · subst h
      rw [sf_s]
      have e1 : ¬ (lo ≤ n ∧ n < n ∧ v < f n) := by omega
      have e2 : ¬ (lo ≤ n ∧ n < n ∧ v < x) := by omega
      rw [if_neg e1, if_neg e2] at ih
      have e3 : (lo ≤ n ∧ n < n + 1 ∧ v < f n) ↔ (lo ≤ n ∧ v < f n) := by omega
      have e4 : (lo ≤ n ∧ n < n + 1 ∧ v < x) ↔ (lo ≤ n ∧ v < x) := by omega
      simp only [e3, e4]
      omega
    · rw [sf_n _ _ h]
      have e3 : (lo ≤ k ∧ k < n + 1 ∧ v < f k) ↔ (lo ≤ k ∧ k < n ∧ v < f k) := by omega
      have e4 : (lo ≤ k ∧ k < n + 1 ∧ v < x) ↔ (lo ≤ k ∧ k < n ∧ v < x) := by omega
      simp only [e3, e4]
      omega
theorem cg_swp (f : Nat → Nat) {a b L lo : Nat} (v : Nat) (ha : a < L) (hb : b < L) (h1 : lo ≤ a) (h2 : lo ≤ b) : cg (swp f a b) v lo L = cg f v lo L := by
  unfold swp
  by_cases e : a = b
  · subst e
    have h3 := cg_sf (sf f a (f a)) a (f a) v lo L
    have h4 := cg_sf f a (f a) v lo L
    rw [sf_s] at h3
    omega
  · have h3 := cg_sf (sf f a (f b)) b (f a) v lo L
    have h4 := cg_sf f a (f b) v lo L
    rw [sf_n _ _ (Ne.symm e)] at h3
    have e1 : (lo ≤ a ∧ a < L ∧ v < f a) ↔ v < f a := by omega
    have e2 : (lo ≤ a ∧ a < L ∧ v < f b) ↔ v < f b := by omega
    have e3 : (lo ≤ b ∧ b < L ∧ v < f b) ↔ v < f b := by omega
    have e4 : (lo ≤ b ∧ b < L ∧ v < f a) ↔ v < f a := by omega
    simp only [e1, e2] at h4
    simp only [e3, e4] at h3
    omega
theorem swp_at (f : Nat → Nat) (a b j : Nat) : swp f a b j = f (if j = b then a else if j = a then b else j) := by
  unfold swp sf
  by_cases h1 : j = b
  · rw [if_pos h1, if_pos h1]
  · rw [if_neg h1, if_neg h1]
    by_cases h2 : j = a
    · rw [if_pos h2, if_pos h2]
    · rw [if_neg h2, if_neg h2]
/-- the same in another order from lo on -/
def PrR (lo L : Nat) (f g : Nat → Nat) : Prop := (∀ j, j < lo ∨ L ≤ j → g j = f j) ∧ (∀ v l2, l2 ≤ lo → cg g v l2 L = cg f v l2 L) ∧ (dst L f → dst L g) ∧ ∀ p, (∃ k, k < L ∧ g k = p) ↔ ∃ k, k < L ∧ f k = p
theorem PrR.rf {lo L : Nat} {f : Nat → Nat} : PrR lo L f f := ⟨fun _ _ => rfl, fun _ _ _ => rfl, fun h => h, fun _ => Iff.rfl⟩
theorem PrR.tr {lo L : Nat} {f g h : Nat → Nat} (h1 : PrR lo L f g) (h2 : PrR lo L g h) : PrR lo L f h := ⟨fun j hj => (h2.1 j hj).trans (h1.1 j hj), fun v l2 hl => (h2.2.1 v l2 hl).trans (h1.2.1 v l2 hl), fun hd => h2.2.2.1 (h1.2.2.1 hd), fun p => (h2.2.2.2 p).trans (h1.2.2.2 p)⟩
theorem PrR.wd {lo lo2 L : Nat} {f g : Nat → Nat} (h : PrR lo L f g) (hl : lo2 ≤ lo) : (∀ v l2, l2 ≤ lo2 → cg g v l2 L = cg f v l2 L) := fun v l2 h2 => h.2.1 v l2 (by omega)
theorem PrR_swp {lo L a b : Nat} {f : Nat → Nat} (ha : a < L) (hb : b < L) (h1 : lo ≤ a) (h2 : lo ≤ b) : PrR lo L f (swp f a b) := by
  refine ⟨fun j hj => ?_, fun v l2 hl => cg_swp f v ha hb (by omega) (by omega), fun hd i j hi hj e => ?_, fun p => ⟨fun ⟨k, hk, e⟩ => ?_, fun ⟨k, hk, e⟩ => ?_⟩⟩
  · rw [swp_at, if_neg (by omega), if_neg (by omega)]
  · rw [swp_at, swp_at] at e
    have := hd _ _ (by split <;> (try split) <;> omega) (by split <;> (try split) <;> omega) e
    split at this <;> (try split at this) <;> (try split at this) <;> (try split at this) <;> omega
  · rw [swp_at] at e
    exact ⟨_, by split <;> (try split) <;> omega, e⟩
  · refine ⟨if k = b then a else if k = a then b else k, by split <;> (try split) <;> omega, ?_⟩
    rw [swp_at, ← e]
    congr 1
    split <;> (try split) <;> (try split) <;> omega
theorem PrR_rvs {lo L : Nat} : ∀ (n a b : Nat) (f : Nat → Nat), lo ≤ a → b < L → PrR lo L f (rvs f n a b) := by
  intro n
  induction n with
  | zero => intro a b f _ _; exact PrR.rf
  | succ n ih =>
    intro a b f ha hb
    simp only [rvs]
    split
    · exact (PrR_swp (by omega) hb ha (by omega)).tr (ih (a + 1) (b - 1) _ (by omega) (by omega))
    · exact PrR.rf
theorem pv_some {f : Nat → Nat} : ∀ {m r : Nat}, pv f m = some r → r < m ∧ ¬ f (r + 1) < f r := by
  intro m
  induction m with
  | zero => intro r h; cases h
  | succ m ih =>
    intro r h
    simp only [pv] at h
    split at h
    · have := ih h
      exact ⟨by omega, this.2⟩
    · next hc => cases h; exact ⟨by omega, hc⟩
theorem hgh_b {f : Nat → Nat} {r : Nat} : ∀ {m : Nat}, r < m → f r < f (r + 1) → r < hgh f r m ∧ hgh f r m ≤ m ∧ f r ≤ f (hgh f r m) := by
  intro m
  induction m with
  | zero => intro h; omega
  | succ m ih =>
    intro h hlt
    simp only [hgh]
    split
    · next hc =>
      by_cases e : r = m
      · subst e
        omega
      · have := ih (by omega) hlt
        exact ⟨this.1, by omega, this.2.2⟩
    · next hc => exact ⟨h, Nat.le_refl _, by omega⟩
def fac : Nat → Nat
  | 0 => 1
  | n + 1 => (n + 1) * fac n
def tl (f : Nat → Nat) (L : Nat) : Nat → Nat
  | 0 => 0
  | m + 1 => cg f (f (L - 1 - m)) (L - m) L * fac m + tl f L m
theorem cg_le (f : Nat → Nat) (v lo : Nat) : ∀ n, cg f v lo n ≤ n - lo := by
  intro n
  induction n with
  | zero => simp [cg]
  | succ n ih =>
    simp only [cg]
    split <;> omega
theorem tl_b (f : Nat → Nat) (L : Nat) : ∀ m, m ≤ L → tl f L m + 1 ≤ fac m := by
  intro m
  induction m with
  | zero => intro _; simp [tl, fac]
  | succ m ih =>
    intro hm
    have h1 := ih (by omega)
    have h2 := cg_le f (f (L - 1 - m)) (L - m) L
    have h3 : cg f (f (L - 1 - m)) (L - m) L * fac m ≤ m * fac m := Nat.mul_le_mul_right _ (by omega)
    simp only [tl, fac, Nat.add_mul, Nat.one_mul]
    omega
theorem cg_lo (f : Nat → Nat) (v : Nat) {lo : Nat} : ∀ n, lo < n → cg f v lo n = cg f v (lo + 1) n + if v < f lo then 1 else 0 := by
  intro n
  induction n with
  | zero => intro h; omega
  | succ n ih =>
    intro h
    simp only [cg]
    by_cases e : lo = n
    · subst e
      have h0 : ∀ m, m ≤ lo → cg f v lo m = 0 := by
        intro m
        induction m with
        | zero => intro _; rfl
        | succ m ih2 => intro hm; simp only [cg]; rw [ih2 (by omega), if_neg (by omega)]
      have h1 : ∀ m, m ≤ lo → cg f v (lo + 1) m = 0 := by
        intro m
        induction m with
        | zero => intro _; rfl
        | succ m ih2 => intro hm; simp only [cg]; rw [ih2 (by omega), if_neg (by omega)]
      rw [h0 lo (Nat.le_refl _), h1 lo (Nat.le_refl _)]
      have e1 : (lo ≤ lo ∧ v < f lo) ↔ v < f lo := by omega
      have e2 : ¬ (lo + 1 ≤ lo ∧ v < f lo) := by omega
      simp only [e1, if_neg e2]
    · rw [ih (by omega)]
      have e1 : (lo ≤ n ∧ v < f n) ↔ v < f n := by omega
      have e2 : (lo + 1 ≤ n ∧ v < f n) ↔ v < f n := by omega
      simp only [e1, e2]
      omega
theorem cg_lt (f : Nat → Nat) {u v lo h : Nat} : ∀ n, h < n → lo ≤ h → u < f h → u ≤ v → ¬ v < f h → cg f v lo n + 1 ≤ cg f u lo n := by
  intro n
  induction n with
  | zero => intro h; omega
  | succ n ih =>
    intro h1 h2 h3 h4 h5
    simp only [cg]
    have mono : ∀ m, cg f v lo m ≤ cg f u lo m := by
      intro m
      induction m with
      | zero => exact Nat.le_refl _
      | succ m ih2 =>
        simp only [cg]
        by_cases e : lo ≤ m ∧ v < f m
        · rw [if_pos e, if_pos (by omega)]
          omega
        · rw [if_neg e]
          split <;> omega
    by_cases e : h = n
    · subst e
      rw [if_neg (by omega), if_pos (by omega)]
      have := mono h
      omega
    · have := ih (by omega) h2 h3 h4 h5
      by_cases e2 : lo ≤ n ∧ v < f n
      · rw [if_pos e2, if_pos (by omega)]
        omega
      · rw [if_neg e2]
        split <;> omega
theorem nxt_pr {L : Nat} {f g : Nat → Nat} (hd : dst L f) (h : nxt L f = some g) : PrR 0 L f g ∧ tl g L L < tl f L L := by
  unfold nxt at h
  cases e : pv f (L - 1) with
  | none => rw [e] at h; cases h
  | some r =>
    rw [e] at h
    have h := Option.some.inj h
    obtain ⟨hr, hr2⟩ := pv_some e
    have hne : f r ≠ f (r + 1) := fun z => by
      have := hd r (r + 1) (by omega) (by omega) z
      omega
    obtain ⟨k1, k2, k3⟩ := hgh_b (f := f) (m := L - 1) hr (by omega)
    have hkne : f r ≠ f (hgh f r (L - 1)) := fun z => by
      have := hd r _ (by omega) (by omega) z
      omega
    generalize hgh f r (L - 1) = k at *
    have s1 : PrR r L f (swp f r k) := PrR_swp (by omega) (by omega) (Nat.le_refl _) (by omega)
    have s2 : PrR (r + 1) L (swp f r k) g := by rw [← h]; exact PrR_rvs L (r + 1) (L - 1) _ (Nat.le_refl _) (by omega)
    have gr : g r = f k := by
      rw [s2.1 r (by omega), swp_at, if_neg (by omega), if_pos rfl]
    have gl : ∀ j, j < r → g j = f j := fun j hj => by
      rw [s2.1 j (by omega), s1.1 j (by omega)]
    have gc : ∀ v l2, l2 ≤ r → cg g v l2 L = cg f v l2 L := fun v l2 hl => by
      rw [s2.2.1 v l2 (by omega), s1.2.1 v l2 hl]
    refine ⟨⟨fun j hj => ?_, fun v l2 hl => gc v l2 (by omega), fun h0 => s2.2.2.1 (s1.2.2.1 h0), fun p => (s2.2.2.2 p).trans (s1.2.2.2 p)⟩, ?_⟩
    · rw [s2.1 j (by omega), s1.1 j (by omega)]
    · have h1 : cg g (g r) (r + 1) L + 1 ≤ cg f (f r) (r + 1) L := by
        have a1 := cg_lo g (g r) (lo := r) L (by omega)
        rw [if_neg (by omega), gc _ _ (Nat.le_refl _)] at a1
        have a2 := cg_lo f (g r) (lo := r) L (by omega)
        rw [gr] at a1 a2 ⊢
        rw [if_neg (by omega)] at a2
        have a3 := cg_lt f (u := f r) (v := f k) (lo := r + 1) (h := k) L (by omega) (by omega) (by omega) (by omega) (by omega)
        omega
      have base : tl g L (L - 1 - r + 1) < tl f L (L - 1 - r + 1) := by
        simp only [tl]
        have b1 := tl_b g L (L - 1 - r) (by omega)
        rw [show L - 1 - (L - 1 - r) = r by omega, show L - (L - 1 - r) = r + 1 by omega]
        have b2 := Nat.mul_le_mul_right (fac (L - 1 - r)) h1
        rw [Nat.add_mul, Nat.one_mul] at b2
        omega
      have up : ∀ m, L - 1 - r + 1 ≤ m → m ≤ L → tl g L m < tl f L m := by
        intro m
        induction m with
        | zero => intro h0; omega
        | succ m ih =>
          intro h0 h2
          by_cases e2 : m = L - 1 - r
          · rw [e2]; exact base
          · have i1 := ih (by omega) (by omega)
            simp only [tl]
            rw [gl (L - 1 - m) (by omega), gc _ (L - m) (by omega)]
            omega
      exact up L (by omega) (Nat.le_refl _)
def oseq (L : Nat) : Nat → (Nat → Nat) → List (Nat → Nat)
  | 0, _ => []
  | n + 1, f => f :: (match nxt L f with
    | none => []
    | some g => oseq L n g)
def cor (P : (Nat → Nat) → Bool) (L e : Nat) : Nat → (Nat → Nat) → Nat → Nat × (Nat → Nat)
  | 0, f, c => (c, f)
  | d + 1, f, c => if c + (if P f = true then 1 else 0) < e then (match nxt L f with
      | none => (c + (if P f = true then 1 else 0), f)
      | some g => cor P L e d g (c + (if P f = true then 1 else 0))) else (c + (if P f = true then 1 else 0), f)
theorem cor_all (P : (Nat → Nat) → Bool) (L e : Nat) : ∀ d f c, c + d ≤ e → (cor P L e d f c).1 = c + ((oseq L d f).countP P) := by
  intro d
  induction d with
  | zero => intro f c _; simp [cor, oseq]
  | succ d ih =>
    intro f c hc
    simp only [cor, oseq, List.countP_cons]
    by_cases h : c + (if P f = true then 1 else 0) < e
    · rw [if_pos h]
      cases h2 : nxt L f with
      | none => simp
      | some g =>
        dsimp only
        rw [ih g _ (by split <;> omega)]
        omega
    · rw [if_neg h]
      have hd : d = 0 := by
        split at h <;> omega
      subst hd
      cases h2 : nxt L f with
      | none => simp
      | some g => simp [oseq]
theorem cor_one (P : (Nat → Nat) → Bool) (L : Nat) : ∀ d f, (match (oseq L d f).find? P with
    | none => (cor P L 1 d f 0).1 = 0
    | some g => cor P L 1 d f 0 = (1, g)) := by
  intro d
  induction d with
  | zero => intro f; simp [cor, oseq]
  | succ d ih =>
    intro f
    simp only [cor, oseq, List.find?_cons]
    by_cases h : P f = true
    · simp [h]
    · have h : P f = false := by simpa using h
      simp only [h]
      cases h2 : nxt L f with
      | none => simp
      | some g => simpa using ih g
