/-! letting past, paying -/
theorem psum_sf (f : Nat → Nat) {k : Nat} (v : Nat) (h : k < 7) : psum (sf f k v) + f k = psum f + v := by
  have : k = 0 ∨ k = 1 ∨ k = 2 ∨ k = 3 ∨ k = 4 ∨ k = 5 ∨ k = 6 := by omega
  rcases this with rfl | rfl | rfl | rfl | rfl | rfl | rfl <;> simp [psum, sf] <;> omega
theorem psum_le (f : Nat → Nat) {k : Nat} (h : k < 7) : f k ≤ psum f := by
  have : k = 0 ∨ k = 1 ∨ k = 2 ∨ k = 3 ∨ k = 4 ∨ k = 5 ∨ k = 6 := by omega
  rcases this with rfl | rfl | rfl | rfl | rfl | rfl | rfl <;> simp only [psum] <;> omega
theorem owf_le (D : Nat → Nat) : ∀ {n i : Nat}, i < n → D i ≤ owf D n := by
  intro n
  induction n with
  | zero => intro i h; omega
  | succ n ih =>
    intro i h
    simp only [owf]
    by_cases e : i = n
    · subst e; omega
    · have := ih (i := i) (by omega)
      omega
theorem ok_setl {n : Nat} {M : Mo} (h : mOK n M) {a b : Nat} (ha : a < n) (hb : b < n) : mOK n (setl M a b) := by
  obtain ⟨a1, a2, a3, a4, a5, a6, a7, a8, a9⟩ := h
  have hm1 : pyb M a b ≤ mD M (7 * a + b) := Nat.min_le_left _ _
  have hm2 : pyb M a b ≤ mP M a := Nat.min_le_right _ _
  refine ⟨a1, a2, a3, a4, a5, ?_, fun c hc => ?_, ?_, a9⟩
  · show owf (sf (mD M) (7 * a + b) (mD M (7 * a + b) - pyb M a b)) 49 ≤ 2520 + 120 * mG M
    have := owf_sf' (mD M) (i := 7 * a + b) (mD M (7 * a + b) - pyb M a b) (by omega)
    omega
  · show sf (mD M) (7 * a + b) (mD M (7 * a + b) - pyb M a b) (8 * c) = 0
    have h0 := a7 c hc
    by_cases e : 8 * c = 7 * a + b
    · rw [e, sf_s]
      rw [e] at h0
      omega
    · rw [sf_n _ _ e]
      exact h0
  · show psum (fun p => if p = b then sf (mP M) a (mP M a - pyb M a b) b + pyb M a b else sf (mP M) a (mP M a - pyb M a b) p) ≤ 420
    have e1 := psum_sf (mP M) (k := a) (mP M a - pyb M a b) (by omega)
    have e2 := psum_sf (sf (mP M) a (mP M a - pyb M a b)) (k := b) (sf (mP M) a (mP M a - pyb M a b) b + pyb M a b) (by omega)
    have e3 : (fun p => if p = b then sf (mP M) a (mP M a - pyb M a b) b + pyb M a b else sf (mP M) a (mP M a - pyb M a b) p) = sf (sf (mP M) a (mP M a - pyb M a b)) b (sf (mP M) a (mP M a - pyb M a b) b + pyb M a b) := rfl
    rw [e3]
    omega
theorem rem_no {n : Nat} {M : Mo} (h : mOK n M) {k st : Nat} (hk : k < mL M) : ∀ j, j < mL (rem M k st) → mQ (rem M k st) j ≠ mQ M k := by
  intro j hj
  have hj : j < mL M - 1 := hj
  show (if j < k then mQ M j else mQ M (j + 1)) ≠ mQ M k
  split
  · exact fun e => by
      have := h.2.2.2.1 j k (by omega) hk e
      omega
  · exact fun e => by
      have := h.2.2.2.1 (j + 1) k (by omega) hk e
      omega
theorem ok_letp {n : Nat} {M : Mo} (h : mOK n M) {p q : Nat} (hl : mayl M p q = true) : mOK n (letp M p q) := by
  unfold letp
  unfold mayl at hl
  cases e1 : plc M p with
  | none => exact h
  | some a =>
    cases e2 : plc M q with
    | none => exact h
    | some b =>
      rw [e1, e2] at hl
      have hl : a < b := by simpa using hl
      have hb := plc_some e2
      have hr := ok_rem h (k := b) (st := 2) hb.1 (by omega) (by omega)
      have hno := rem_no h (st := 2) hb.1
      rw [hb.2] at hno
      exact ok_ins hr (by have := h.2.2.1 b hb.1; omega) hno (by show a ≤ mL M - 1; omega)
theorem plc_of {n : Nat} {M : Mo} (h : mOK n M) {k : Nat} (hk : k < mL M) : plc M (mQ M k) = some k := ok_plc h hk rfl
theorem plc_ins {n : Nat} {M : Mo} {p k : Nat} (h : mOK n (ins M p k)) (hk : k ≤ mL M) : plc (ins M p k) p = some k :=
  ok_plc h (by show k < mL M + 1; omega) (by show (if k < k then mQ M k else if k = k then p else mQ M (k - 1)) = p; simp)
theorem mOK.w1 {n : Nat} {M : Mo} (h : mOK n M) {p : Nat} (hp : p < n) : (plc M p).isSome = decide (mW M p = 0) := by
  have h5 := (h.2.2.2.2.1 p hp).2
  cases e : plc M p with
  | none =>
    have : ¬ mW M p = 0 := fun z => by
      obtain ⟨k, hk, hq⟩ := h5.mp z
      exact plc_no e k hk hq
    simp [this]
  | some k =>
    have : mW M p = 0 := h5.mpr ⟨k, (plc_some e).1, (plc_some e).2⟩
    simp [this]
