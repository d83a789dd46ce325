/-! fewest payments: groups of dues that are none together -/
def smf (D : Nat → Int) (s : Nat) : Nat → Int
  | 0 => 0
  | p + 1 => smf D s p + (if s / 2 ^ p % 2 = 1 then D p else 0)
def bsf (g : Nat → Nat) (s : Nat) : Nat → Nat
  | 0 => 0
  | p + 1 => if s / 2 ^ p % 2 = 1 then max (bsf g s p) (g (s - 2 ^ p)) else bsf g s p
def gtb (D : Nat → Int) (n : Nat) : Nat → Nat → Nat
  | 0 => fun _ => 0
  | s + 1 => sf (gtb D n s) s (if s = 0 then 0 else bsf (gtb D n s) s n + (if smf D s n = 0 then 1 else 0))
def gpp (D : Nat → Int) (n s : Nat) : Nat := gtb D n (s + 1) s
theorem bit_sub : ∀ s, s < 128 → ∀ p, p < 7 → s / 2 ^ p % 2 = 1 → 2 ^ p ≤ s ∧ ∀ q, q < 7 → (s - 2 ^ p) / 2 ^ q % 2 = if q = p then 0 else s / 2 ^ q % 2 := by decide +kernel
theorem bit_add : ∀ s, s < 128 → ∀ p, p < 7 → s / 2 ^ p % 2 = 0 → s + 2 ^ p < 128 ∧ ∀ q, q < 7 → (s + 2 ^ p) / 2 ^ q % 2 = if q = p then 1 else s / 2 ^ q % 2 := by decide +kernel
theorem bit_one : ∀ p, p < 7 → ∀ q, q < 7 → 2 ^ p / 2 ^ q % 2 = if q = p then 1 else 0 := by decide +kernel
theorem bit_top : ∀ p, p < 7 → ∀ s, s < 128 → (2 ^ p ≤ s ∧ s < 2 * 2 ^ p) → s / 2 ^ p % 2 = 1 := by decide +kernel
theorem msk : ∀ s, s < 128 → ∀ p, p < 7 → s / 2 ^ p % 2 = 1 → nI s &&& ((nI 1 <<< (nI p &&& 31)) ^^^ (-1)) = nI (s - 2 ^ p) := by decide +kernel
theorem bsf_cg {g1 g2 : Nat → Nat} {s : Nat} (hs : s < 128) (h : ∀ t, t < s → g1 t = g2 t) : ∀ k, k ≤ 7 → bsf g1 s k = bsf g2 s k := by
  intro k
  induction k with
  | zero => intro _; rfl
  | succ k ih =>
    intro hk
    simp only [bsf]
    rw [ih (by omega)]
    split
    · next hb =>
      have h1 := (bit_sub s hs k (by omega) hb).1
      have h2 := Nat.pow_pos (n := k) (show 0 < 2 by omega)
      rw [h (s - 2 ^ k) (by omega)]
    · rfl
theorem gT_st (D : Nat → Int) (n : Nat) : ∀ k t, t < k → gtb D n k t = gpp D n t := by
  intro k
  induction k with
  | zero => intro t h; omega
  | succ k ih =>
    intro t h
    by_cases e : t = k
    · subst e; rfl
    · rw [← ih t (by omega)]
      simp only [gtb]
      exact sf_n _ _ e
theorem gpp_0 (D : Nat → Int) (n : Nat) : gpp D n 0 = 0 := by simp [gpp, gtb, sf]
theorem gpp_s (D : Nat → Int) {n s : Nat} (hn : n ≤ 7) (h0 : 0 < s) (hs : s < 128) : gpp D n s = bsf (gpp D n) s n + (if smf D s n = 0 then 1 else 0) := by
  rw [gpp, gtb, sf_s, if_neg (by omega), bsf_cg hs (fun t ht => gT_st D n s t ht) n hn]
theorem bsf_ub {g : Nat → Nat} {s p : Nat} : ∀ {n : Nat}, p < n → s / 2 ^ p % 2 = 1 → g (s - 2 ^ p) ≤ bsf g s n := by
  intro n
  induction n with
  | zero => intro h; omega
  | succ n ih =>
    intro h hb
    simp only [bsf]
    by_cases e : p = n
    · subst e
      rw [if_pos hb]
      exact Nat.le_max_right _ _
    · have := ih (by omega) hb
      split
      · exact Nat.le_trans this (Nat.le_max_left _ _)
      · exact this
theorem bsf_at {g : Nat → Nat} {s : Nat} : ∀ n : Nat, bsf g s n = 0 ∨ ∃ p, p < n ∧ s / 2 ^ p % 2 = 1 ∧ bsf g s n = g (s - 2 ^ p) := by
  intro n
  induction n with
  | zero => exact Or.inl rfl
  | succ n ih =>
    have lift : (bsf g s n = 0 ∨ ∃ p, p < n ∧ s / 2 ^ p % 2 = 1 ∧ bsf g s n = g (s - 2 ^ p)) → bsf g s (n + 1) = bsf g s n → (bsf g s (n + 1) = 0 ∨ ∃ p, p < n + 1 ∧ s / 2 ^ p % 2 = 1 ∧ bsf g s (n + 1) = g (s - 2 ^ p)) := by
      intro h e
      rw [e]
      rcases h with h | ⟨p, h1, h2, h3⟩
      · exact Or.inl h
      · exact Or.inr ⟨p, by omega, h2, h3⟩
    by_cases hb : s / 2 ^ n % 2 = 1
    · by_cases hm : bsf g s n ≤ g (s - 2 ^ n)
      · exact Or.inr ⟨n, by omega, hb, by simp only [bsf]; rw [if_pos hb]; exact Nat.max_eq_right hm⟩
      · exact lift ih (by simp only [bsf]; rw [if_pos hb]; exact Nat.max_eq_left (by omega))
    · exact lift ih (by simp only [bsf]; rw [if_neg hb])
theorem gpp_le (D : Nat → Int) {n : Nat} (hn : n ≤ 7) : ∀ s, s < 128 → gpp D n s ≤ s := by
  intro s
  induction s using Nat.strongRecOn with
  | ind s ih =>
    intro hs
    by_cases h0 : s = 0
    · subst h0
      rw [gpp_0]
      exact Nat.le_refl _
    · rw [gpp_s D hn (by omega) hs]
      have h1 : bsf (gpp D n) s n ≤ s - 1 := by
        rcases bsf_at (g := gpp D n) (s := s) n with h | ⟨p, p1, p2, p3⟩
        · omega
        · rw [p3]
          have q1 := (bit_sub s hs p (by omega) p2).1
          have q2 := Nat.pow_pos (n := p) (show 0 < 2 by omega)
          have := ih (s - 2 ^ p) (by omega) (by omega)
          omega
      split <;> omega
theorem smf_sub {D : Nat → Int} {s p : Nat} (hs : s < 128) (hp : p < 7) (hb : s / 2 ^ p % 2 = 1) : ∀ n, n ≤ 7 → smf D s n = smf D (s - 2 ^ p) n + (if p < n then D p else 0) := by
  have h := (bit_sub s hs p hp hb).2
  intro n
  induction n with
  | zero => intro _; simp [smf]
  | succ n ih =>
    intro hn
    simp only [smf]
    rw [ih (by omega), h n (by omega)]
    by_cases e : n = p
    · subst e
      rw [if_pos hb, if_neg (by omega), if_pos rfl, if_neg (by omega), if_pos (by omega)]
    · rw [if_neg e]
      by_cases e2 : p < n
      · rw [if_pos e2, if_pos (show p < n + 1 by omega)]
        omega
      · rw [if_neg e2, if_neg (show ¬ p < n + 1 by omega)]
        omega
theorem smf_z {D : Nat → Int} {s z : Nat} (hs : s < 128) (hz : z < 7) (hb : s / 2 ^ z % 2 = 0) (hD : D z = 0) {n : Nat} (hn : n ≤ 7) : smf D (s + 2 ^ z) n = smf D s n := by
  obtain ⟨h1, h2⟩ := bit_add s hs z hz hb
  have h3 := smf_sub (D := D) h1 hz (by rw [h2 z hz, if_pos rfl]) n hn
  rw [h3, Nat.add_sub_cancel, hD]
  split <;> omega
theorem smf_none {D : Nat → Int} {s : Nat} : ∀ n, (∀ p, p < n → s / 2 ^ p % 2 ≠ 1) → smf D s n = 0 := by
  intro n
  induction n with
  | zero => intro _; rfl
  | succ n ih =>
    intro h
    simp only [smf]
    rw [ih (fun p hp => h p (by omega)), if_neg (h n (by omega))]
    rfl
theorem gpp_z {D : Nat → Int} {n z : Nat} (hn : n ≤ 7) (hz : z < n) (hD : D z = 0) : ∀ s, s < 128 → s / 2 ^ z % 2 = 0 → gpp D n (s + 2 ^ z) = gpp D n s + 1 := by
  intro s
  induction s using Nat.strongRecOn with
  | ind s ih =>
    intro hs hb
    obtain ⟨a1, a2⟩ := bit_add s hs z (by omega) hb
    have hz0 := Nat.pow_pos (n := z) (show 0 < 2 by omega)
    have hbz : (s + 2 ^ z) / 2 ^ z % 2 = 1 := by rw [a2 z (by omega), if_pos rfl]
    rw [gpp_s D hn (by omega) a1, smf_z hs (by omega) hb hD hn]
    have lo : gpp D n s ≤ bsf (gpp D n) (s + 2 ^ z) n := by
      have := bsf_ub (g := gpp D n) (n := n) hz hbz
      rwa [Nat.add_sub_cancel] at this
    have step : ∀ q, q < n → q ≠ z → s / 2 ^ q % 2 = 1 → gpp D n (s + 2 ^ z - 2 ^ q) = gpp D n (s - 2 ^ q) + 1 := by
      intro q hq hqz hqb
      obtain ⟨b1, b2⟩ := bit_sub s hs q (by omega) hqb
      have := Nat.pow_pos (n := q) (show 0 < 2 by omega)
      have h3 := ih (s - 2 ^ q) (by omega) (by omega) (by rw [b2 z (by omega), if_neg (Ne.symm hqz)]; exact hb)
      rw [show s + 2 ^ z - 2 ^ q = s - 2 ^ q + 2 ^ z by omega]
      exact h3
    have att : bsf (gpp D n) (s + 2 ^ z) n ≤ gpp D n s ∨ ∃ q, q < n ∧ q ≠ z ∧ s / 2 ^ q % 2 = 1 ∧ bsf (gpp D n) (s + 2 ^ z) n = gpp D n (s - 2 ^ q) + 1 := by
      rcases bsf_at (g := gpp D n) (s := s + 2 ^ z) n with h | ⟨q, q1, q2, q3⟩
      · exact Or.inl (by omega)
      · by_cases e : q = z
        · subst e
          rw [Nat.add_sub_cancel] at q3
          exact Or.inl (by omega)
        · rw [a2 q (by omega), if_neg e] at q2
          exact Or.inr ⟨q, q1, e, q2, by rw [q3]; exact step q q1 e q2⟩
    by_cases h0 : s = 0
    · subst h0
      rw [smf_none n (fun p _ => by simp), if_pos rfl, gpp_0] at *
      rcases att with h | ⟨q, q1, q2, q3, q4⟩
      · omega
      · simp at q3
    · rw [gpp_s D hn (by omega) hs] at *
      by_cases e : smf D s n = 0
      · rw [if_pos e] at *
        rcases att with h | ⟨q, q1, q2, q3, q4⟩
        · omega
        · have := bsf_ub (g := gpp D n) (n := n) q1 q3
          omega
      · rw [if_neg e] at *
        have hex : ∃ q, q < n ∧ s / 2 ^ q % 2 = 1 ∧ bsf (gpp D n) s n = gpp D n (s - 2 ^ q) := by
          rcases bsf_at (g := gpp D n) (s := s) n with h | h
          · have hb2 : ∃ q, q < n ∧ s / 2 ^ q % 2 = 1 := by
              refine Classical.byContradiction (fun hc => e (smf_none n (fun p hp hb => hc ⟨p, hp, hb⟩)))
            obtain ⟨q, q1, q2⟩ := hb2
            have := bsf_ub (g := gpp D n) (n := n) q1 q2
            exact ⟨q, q1, q2, by omega⟩
          · exact h
        obtain ⟨q, q1, q2, q3⟩ := hex
        have hqz : q ≠ z := fun e => by rw [e] at q2; omega
        have h5 := bsf_ub (g := gpp D n) (n := n) (s := s + 2 ^ z) q1 (by rw [a2 q (by omega), if_neg hqz]; exact q2)
        rw [step q q1 hqz q2] at h5
        rcases att with h | ⟨q', r1, r2, r3, r4⟩
        · omega
        · have := bsf_ub (g := gpp D n) (n := n) r1 r3
          omega
