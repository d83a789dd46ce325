/-! the queue's own facts -/
theorem php : ∀ (n L : Nat) (f : Nat → Nat), (∀ k, k < L → f k < n) → (∀ i j, i < L → j < L → f i = f j → i = j) → L ≤ n := by
  intro n
  induction n with
  | zero =>
    intro L f h1 _
    by_cases h : L = 0
    · omega
    · exact absurd (h1 0 (by omega)) (by omega)
  | succ n ih =>
    intro L f h1 h2
    by_cases h : ∃ k0, k0 < L ∧ f k0 = n
    · obtain ⟨k0, hk, hf⟩ := h
      have := ih (L - 1) (fun k => if k < k0 then f k else f (k + 1)) (fun k hk2 => by
        split
        · have a1 := h1 k (by omega)
          have a2 : f k ≠ n := fun e => by
            have := h2 k k0 (by omega) hk (by omega)
            omega
          omega
        · have a1 := h1 (k + 1) (by omega)
          have a2 : f (k + 1) ≠ n := fun e => by
            have := h2 (k + 1) k0 (by omega) hk (by omega)
            omega
          omega) (fun i j hi hj e => by
        split at e <;> split at e
        · exact h2 i j (by omega) (by omega) e
        · have := h2 i (j + 1) (by omega) (by omega) e
          omega
        · have := h2 (i + 1) j (by omega) (by omega) e
          omega
        · have := h2 (i + 1) (j + 1) (by omega) (by omega) e
          omega)
      omega
    · have := ih L f (fun k hk => by
        have a1 := h1 k hk
        have a2 : f k ≠ n := fun e => h ⟨k, hk, e⟩
        omega) h2
      omega
theorem owf_sf (D : Nat → Nat) (i v : Nat) : ∀ n, owf (sf D i v) n + (if i < n then D i else 0) = owf D n + (if i < n then v else 0) := by
  intro n
  induction n with
  | zero => simp [owf]
  | succ n ih =>
    simp only [owf]
    by_cases h : i = n
    · subst h
      simp only [sf_s, Nat.lt_irrefl, if_false, Nat.lt_succ_self, if_true] at ih ⊢
      omega
    · rw [sf_n _ _ (Ne.symm h)]
      by_cases h2 : i < n
      · rw [if_pos h2] at ih
        rw [if_pos h2] at ih
        rw [if_pos (by omega), if_pos (by omega)]
        omega
      · rw [if_neg h2, if_neg h2] at ih
        rw [if_neg (by omega), if_neg (by omega)]
        omega
theorem owf_sf' (D : Nat → Nat) {i : Nat} (v : Nat) (h : i < 49) : owf (sf D i v) 49 + D i = owf D 49 + v := by
  have := owf_sf D i v 49
  rwa [if_pos h, if_pos h] at this
theorem ok_plc {n : Nat} {M : Mo} (h : mOK n M) {p k : Nat} (hk : k < mL M) (hp : mQ M k = p) : plc M p = some k :=
  plc_first hk hp (fun j hj e => by
    have := h.2.2.2.1 j k (by omega) hk (by omega)
    omega)
theorem ok_q7 {n : Nat} {M : Mo} (h : mOK n M) : ∀ k, k < mL M → mQ M k < 7 := fun k hk => by
  have := h.2.2.1 k hk
  have := h.2.1
  omega
theorem ok_l7 {n : Nat} {M : Mo} (h : mOK n M) : mL M ≤ 7 := by
  have := h.1
  have := h.2.1
  omega
theorem ok_rem {n : Nat} {M : Mo} (h : mOK n M) {k st : Nat} (hk : k < mL M) (h1 : 1 ≤ st) (h2 : st ≤ 2) : mOK n (rem M k st) := by
  obtain ⟨a1, a2, a3, a4, a5, a6, a7, a8, a9⟩ := h
  have hq := a3 k hk
  refine ⟨by show mL M - 1 ≤ n; omega, a2, fun j hj => ?_, fun i j hi hj e => ?_, fun p hp => ?_, a6, a7, a8, a9⟩
  · have hj : j < mL M - 1 := hj
    show (if j < k then mQ M j else mQ M (j + 1)) < n
    split
    · exact a3 j (by omega)
    · exact a3 (j + 1) (by omega)
  · have hi : i < mL M - 1 := hi
    have hj : j < mL M - 1 := hj
    have e : (if i < k then mQ M i else mQ M (i + 1)) = (if j < k then mQ M j else mQ M (j + 1)) := e
    split at e <;> split at e
    · exact a4 i j (by omega) (by omega) e
    · have := a4 i (j + 1) (by omega) (by omega) e
      omega
    · have := a4 (i + 1) j (by omega) (by omega) e
      omega
    · have := a4 (i + 1) (j + 1) (by omega) (by omega) e
      omega
  · show sf (mW M) (mQ M k) st p ≤ 2 ∧ (sf (mW M) (mQ M k) st p = 0 ↔ ∃ j, j < mL M - 1 ∧ (if j < k then mQ M j else mQ M (j + 1)) = p)
    by_cases e : p = mQ M k
    · subst e
      rw [sf_s]
      refine ⟨h2, fun e => by omega, fun ⟨j, hj, e⟩ => ?_⟩
      split at e
      · have := a4 j k (by omega) hk e
        omega
      · have := a4 (j + 1) k (by omega) hk e
        omega
    · rw [sf_n _ _ e]
      refine ⟨(a5 p hp).1, ?_⟩
      rw [(a5 p hp).2]
      constructor
      · rintro ⟨j, hj, rfl⟩
        by_cases h3 : j < k
        · exact ⟨j, by omega, by rw [if_pos h3]⟩
        · have h4 : j ≠ k := fun h => e (by rw [h])
          exact ⟨j - 1, by omega, by rw [if_neg (by omega), show j - 1 + 1 = j by omega]⟩
      · rintro ⟨j, hj, e2⟩
        split at e2
        · exact ⟨j, by omega, e2⟩
        · exact ⟨j + 1, by omega, e2⟩
theorem ok_full {n : Nat} {M : Mo} (h : mOK n M) {p : Nat} (hp : p < n) (hno : ∀ k, k < mL M → mQ M k ≠ p) : mL M + 1 ≤ n := by
  refine php n (mL M + 1) (fun k => if k < mL M then mQ M k else p) (fun k hk => ?_) (fun i j hi hj e => ?_)
  · skip
    split
    · exact h.2.2.1 k (by assumption)
    · exact hp
  · skip
    split at e <;> split at e
    · exact h.2.2.2.1 i j (by assumption) (by assumption) e
    · exact absurd e (hno i (by assumption))
    · exact absurd e.symm (hno j (by assumption))
    · omega
theorem ok_ins {n : Nat} {M : Mo} (h : mOK n M) {p k : Nat} (hp : p < n) (hno : ∀ k, k < mL M → mQ M k ≠ p) (hk : k ≤ mL M) : mOK n (ins M p k) := by
  have hf := ok_full h hp hno
  obtain ⟨a1, a2, a3, a4, a5, a6, a7, a8, a9⟩ := h
  refine ⟨hf, a2, fun j hj => ?_, fun i j hi hj e => ?_, fun q hq => ?_, a6, a7, a8, a9⟩
  · have hj : j < mL M + 1 := hj
    show (if j < k then mQ M j else if j = k then p else mQ M (j - 1)) < n
    split
    · exact a3 j (by omega)
    · split
      · exact hp
      · exact a3 (j - 1) (by omega)
  · have hi : i < mL M + 1 := hi
    have hj : j < mL M + 1 := hj
    have e : (if i < k then mQ M i else if i = k then p else mQ M (i - 1)) = (if j < k then mQ M j else if j = k then p else mQ M (j - 1)) := e
    by_cases i1 : i < k
    · rw [if_pos i1] at e
      by_cases j1 : j < k
      · rw [if_pos j1] at e
        exact a4 i j (by omega) (by omega) e
      · rw [if_neg j1] at e
        by_cases j2 : j = k
        · rw [if_pos j2] at e
          exact absurd e (hno i (by omega))
        · rw [if_neg j2] at e
          have := a4 i (j - 1) (by omega) (by omega) e
          omega
    · rw [if_neg i1] at e
      by_cases i2 : i = k
      · rw [if_pos i2] at e
        by_cases j1 : j < k
        · rw [if_pos j1] at e
          exact absurd e.symm (hno j (by omega))
        · rw [if_neg j1] at e
          by_cases j2 : j = k
          · omega
          · rw [if_neg j2] at e
            exact absurd e.symm (hno (j - 1) (by omega))
      · rw [if_neg i2] at e
        by_cases j1 : j < k
        · rw [if_pos j1] at e
          have := a4 (i - 1) j (by omega) (by omega) e
          omega
        · rw [if_neg j1] at e
          by_cases j2 : j = k
          · rw [if_pos j2] at e
            exact absurd e (hno (i - 1) (by omega))
          · rw [if_neg j2] at e
            have := a4 (i - 1) (j - 1) (by omega) (by omega) e
            omega
  · show sf (mW M) p 0 q ≤ 2 ∧ (sf (mW M) p 0 q = 0 ↔ ∃ j, j < mL M + 1 ∧ (if j < k then mQ M j else if j = k then p else mQ M (j - 1)) = q)
    by_cases e : q = p
    · subst e
      rw [sf_s]
      exact ⟨by omega, fun _ => ⟨k, by omega, by simp⟩, fun _ => rfl⟩
    · rw [sf_n _ _ e]
      refine ⟨(a5 q hq).1, ?_⟩
      rw [(a5 q hq).2]
      constructor
      · rintro ⟨j, hj, rfl⟩
        by_cases h3 : j < k
        · exact ⟨j, by omega, by rw [if_pos h3]⟩
        · exact ⟨j + 1, by omega, by rw [if_neg (by omega), if_neg (by omega)]; rfl⟩
      · rintro ⟨j, hj, e2⟩
        split at e2
        · exact ⟨j, by omega, e2⟩
        · split at e2
          · exact absurd e2.symm e
          · exact ⟨j - 1, by omega, e2⟩
/-- what a push leaves as it was -/
theorem pst_L (F : Fo) (g : Nat) (M : Mo) (k : Nat) : mL (pst F g M k) = mL M ∧ mG (pst F g M k) = mG M ∧ mW (pst F g M k) = mW M ∧ mP (pst F g M k) = mP M := by
  unfold pst
  split <;> exact ⟨rfl, rfl, rfl, rfl⟩
theorem pal_L (F : Fo) (g : Nat) (M : Mo) (j : Nat) : mL (pal F g M j) = mL M ∧ mG (pal F g M j) = mG M ∧ mW (pal F g M j) = mW M ∧ mP (pal F g M j) = mP M := by
  induction j with
  | zero => exact ⟨rfl, rfl, rfl, rfl⟩
  | succ j ih =>
    obtain ⟨b1, b2, b3, b4⟩ := pst_L F g (pal F g M j) (j + 1)
    simp only [pal]
    exact ⟨b1.trans ih.1, b2.trans ih.2.1, b3.trans ih.2.2.1, b4.trans ih.2.2.2⟩
/-- all of mOK but how much is owed -/
def mOK' (n : Nat) (M : Mo) : Prop := mL M ≤ n ∧ n ≤ 7 ∧ (∀ k, k < mL M → mQ M k < n) ∧ (∀ i j, i < mL M → j < mL M → mQ M i = mQ M j → i = j) ∧ (∀ p, p < n → mW M p ≤ 2 ∧ (mW M p = 0 ↔ ∃ k, k < mL M ∧ mQ M k = p)) ∧ (∀ a, a < 7 → mD M (8 * a) = 0) ∧ psum (mP M) ≤ 420
theorem swp_eq (f : Nat → Nat) (k j : Nat) (hk : 1 ≤ k) : sf (sf f (k - 1) (f k)) k (f (k - 1)) j = f (if j = k then k - 1 else if j = k - 1 then k else j) := by
  simp only [sf]
  by_cases h1 : j = k
  · rw [if_pos h1, if_pos h1]
  · rw [if_neg h1, if_neg h1]
    by_cases h2 : j = k - 1
    · rw [if_pos h2, if_pos h2]
    · rw [if_neg h2, if_neg h2]
theorem ok_pst {n g : Nat} {M : Mo} {F : Fo} (h : mOK' n M) (hF : oOK F) (hn : n = oN F) {k : Nat} (hk : 1 ≤ k) (hk2 : k < mL M) : mOK' n (pst F g M k) ∧ owf (mD (pst F g M k)) 49 ≤ owf (mD M) 49 + 20 := by
  obtain ⟨a1, a2, a3, a4, a5, a7, a8⟩ := h
  unfold pst
  split
  · next hc =>
    have q1 := a3 k hk2
    have q2 := a3 (k - 1) (by omega)
    have hne : mQ M k ≠ mQ M (k - 1) := fun e => by
      have := a4 k (k - 1) hk2 (by omega) e
      omega
    have hw := (hF.2.2 (mQ M k) (by omega)).2.1
    refine ⟨⟨a1, a2, fun j hj => ?_, fun i j hi hj e => ?_, fun p hp => ⟨(a5 p hp).1, ?_⟩, fun a ha => ?_, a8⟩, ?_⟩
    · show sf (sf (mQ M) (k - 1) (mQ M k)) k (mQ M (k - 1)) j < n
      have hj : j < mL M := hj
      rw [swp_eq _ _ _ hk]
      exact a3 _ (by split <;> (try split) <;> omega)
    · have e : sf (sf (mQ M) (k - 1) (mQ M k)) k (mQ M (k - 1)) i = sf (sf (mQ M) (k - 1) (mQ M k)) k (mQ M (k - 1)) j := e
      have hi : i < mL M := hi
      have hj : j < mL M := hj
      rw [swp_eq _ _ _ hk, swp_eq _ _ _ hk] at e
      have := a4 _ _ (by split <;> (try split) <;> omega) (by split <;> (try split) <;> omega) e
      split at this <;> (try split at this) <;> (try split at this) <;> (try split at this) <;> omega
    · show mW M p = 0 ↔ ∃ j, j < mL M ∧ sf (sf (mQ M) (k - 1) (mQ M k)) k (mQ M (k - 1)) j = p
      rw [(a5 p hp).2]
      constructor
      · rintro ⟨j, hj, rfl⟩
        refine ⟨if j = k then k - 1 else if j = k - 1 then k else j, by split <;> (try split) <;> omega, ?_⟩
        rw [swp_eq _ _ _ hk]
        congr 1
        by_cases h1 : j = k
        · subst h1
          simp
        · by_cases h2 : j = k - 1
          · subst h2
            simp
          · simp [h1, h2]
      · rintro ⟨j, hj, e⟩
        rw [swp_eq _ _ _ hk] at e
        exact ⟨_, by split <;> (try split) <;> omega, e⟩
    · show sf (mD M) (7 * mQ M k + mQ M (k - 1)) _ (8 * a) = 0
      rw [sf_n _ _ (by omega)]
      exact a7 a ha
    · show owf (sf (mD M) (7 * mQ M k + mQ M (k - 1)) _) 49 ≤ _
      have := owf_sf' (mD M) (i := 7 * mQ M k + mQ M (k - 1)) (mD M (7 * mQ M k + mQ M (k - 1)) + (oW F (mQ M k) - oW F (mQ M (k - 1)))) (by omega)
      omega
  · exact ⟨⟨a1, a2, a3, a4, a5, a7, a8⟩, by omega⟩
theorem ok_pal {n g : Nat} {M : Mo} {F : Fo} (h : mOK' n M) (hF : oOK F) (hn : n = oN F) : ∀ j, j < mL M ∨ j = 0 → mOK' n (pal F g M j) ∧ owf (mD (pal F g M j)) 49 ≤ owf (mD M) 49 + 20 * j := by
  intro j
  induction j with
  | zero => exact fun _ => ⟨h, by simp [pal]⟩
  | succ j ih =>
    intro hj
    obtain ⟨i1, i2⟩ := ih (by omega)
    have := ok_pst (g := g) i1 hF hn (k := j + 1) (by omega) (by rw [(pal_L F g M j).1]; omega)
    exact ⟨this.1, Nat.le_trans this.2 (by omega)⟩
theorem ok_mnt {n : Nat} {M : Mo} {F : Fo} {b : Bool} (h : mOK n M) (hF : oOK F) (hn : n = oN F) (hg : mG M < 2000) : mOK n (mnt F b M) := by
  obtain ⟨a1, a2, a3, a4, a5, a6, a7, a8, a9⟩ := h
  have h0 : mOK' n (mG M + 1, M.2) := ⟨a1, a2, a3, a4, a5, a7, a8⟩
  have hl : mL M - 1 ≤ 6 := by omega
  have h1 : mOK n (if b = true then pal F (mG M + 1) (mG M + 1, M.2) (mL M - 1) else (mG M + 1, M.2)) ∧ mL (if b = true then pal F (mG M + 1) (mG M + 1, M.2) (mL M - 1) else (mG M + 1, M.2)) = mL M := by
    split
    · have hj : mL M - 1 < mL (mG M + 1, M.2) ∨ mL M - 1 = 0 := by
        show mL M - 1 < mL M ∨ _
        omega
      obtain ⟨⟨b1, b2, b3, b4, b5, b7, b8⟩, b6⟩ := ok_pal (g := mG M + 1) h0 hF hn (mL M - 1) hj
      obtain ⟨c1, c2, -, -⟩ := pal_L F (mG M + 1) (mG M + 1, M.2) (mL M - 1)
      refine ⟨⟨b1, b2, b3, b4, b5, ?_, b7, b8, ?_⟩, c1⟩
      · rw [c2]
        show _ ≤ 2520 + 120 * (mG M + 1)
        have b6 : _ ≤ owf (mD M) 49 + 20 * (mL M - 1) := b6
        omega
      · rw [c2]
        show mG M + 1 ≤ 2000
        omega
    · exact ⟨⟨a1, a2, a3, a4, a5, by show _ ≤ 2520 + 120 * (mG M + 1); exact Nat.le_trans a6 (by omega), a7, a8, by show mG M + 1 ≤ 2000; omega⟩, rfl⟩
  simp only [mnt]
  split
  · next hc => exact ok_rem h1.1 (by rw [h1.2]; exact hc.1) (by omega) (by omega)
  · exact h1.1
