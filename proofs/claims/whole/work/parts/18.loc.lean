/-! fewer locals; small facts of numbers -/
def lc_le : List (Option Value) → List (Option Value) → Prop
  | [], _ => True
  | none :: t, x => match x with
    | [] => True
    | _ :: t2 => lc_le t t2
  | some v :: t, x => match x with
    | [] => False
    | y :: t2 => y = some v ∧ lc_le t t2
theorem lc_le_get : ∀ (L1 L : List (Option Value)), lc_le L1 L → ∀ (i : Nat) (v : Value), L1[i]? = some (some v) → L[i]? = some (some v) ∨ L.length ≤ i := by
  intro L1
  induction L1 with
  | nil => intro L _ i v h; simp at h
  | cons x t ih =>
    intro L hle i v h
    cases L with
    | nil => exact Or.inr (Nat.zero_le _)
    | cons y t2 =>
      cases i with
      | zero =>
        simp at h
        subst h
        exact Or.inl (by simp [hle.1])
      | succ i =>
        simp at h
        have h2 : lc_le t t2 := by
          cases x with
          | none => exact hle
          | some u => exact hle.2
        rcases ih t2 h2 i v h with h3 | h3
        · exact Or.inl (by simpa using h3)
        · exact Or.inr (by simpa using h3)
theorem k_loc {G : KG} {J : KJ} {N : Nat} {Post : Option Value → WD → Prop} {pc : Nat} {L : List (Option Value)} {st : List Value} {cl sl : Nat} {w : WD} (L1 : List (Option Value)) (hl : lc_le L1 L) (hlen : L1.length = L.length) (h : KRun G J N Post pc L1 st cl sl w) : KRun G J N Post pc L st cl sl w := by
  intro p l e s m args below meth c H locs ls hC hP hL
  refine h p l e s m args below meth c H locs ls hC hP ⟨hL.1, hL.2.1, fun i v hi => ?_⟩
  rcases lc_le_get L1 L hl i v hi with h3 | h3
  · exact hL.2.2 i v h3
  · have := (List.getElem?_eq_some_iff.mp hi).1
    omega
theorem nI_min {a b : Nat} (ha : a < 2 ^ 31) (hb : b < 2 ^ 31) : (if nI b < nI a then nI b else nI a) = nI (min a b) := by
  by_cases h : b < a
  · rw [if_pos (nI_lt h ha), Nat.min_eq_right (by omega)]
  · rw [if_neg (nI_nlt (by omega) hb), Nat.min_eq_left (by omega)]
theorem gain_le {x y : Nat} (hx : x < 1000) (hy : y < 1000) : nI x - nI y ≤ 0 ↔ x ≤ y := by
  by_cases h : x ≤ y
  · refine ⟨fun _ => h, fun _ => ?_⟩
    by_cases e : x = y
    · subst e
      rw [pk_sub (Nat.le_refl _), Nat.sub_self]
      decide
    · exact Int32.le_of_lt (pk_sneg (by omega) (by omega))
  · refine ⟨fun z => absurd z ?_, fun z => absurd z h⟩
    rw [pk_sub (by omega)]
    exact nI_nle (by omega) (by omega)
theorem gain_max {x y : Nat} (hx : x < 1000) (hy : y < 1000) : (if nI 0 < nI x - nI y then nI x - nI y else nI 0) = nI (x - y) := by
  by_cases h : x ≤ y
  · have h1 : ¬ nI 0 < nI x - nI y := by
      rw [Int32.not_lt]
      exact (gain_le hx hy).mpr h
    rw [if_neg h1, Nat.sub_eq_zero_of_le h]
  · rw [pk_sub (by omega), if_pos (nI_lt (by omega) (by omega))]
theorem upd_nI {f : Nat → Int32} {F : Nat → Nat} {n : Nat} (h : ∀ r, r < n → f r = nI (F r)) (k v : Nat) : ∀ r, r < n → upd f k (nI v) r = nI (sf F k v r) := by
  intro r hr
  by_cases e : r = k
  · subst e
    rw [upd_s, sf_s]
  · rw [upd_n _ _ e, sf_n _ _ e, h r hr]
def sD (M : Mo) (i v : Nat) : Mo := (mG M, mL M, mQ M, mW M, mP M, sf (mD M) i v)
theorem ok_d {n : Nat} {M : Mo} (h : mOK n M) {i : Nat} (hi : i < 49) : mD M i < 300000 := by
  have h1 := owf_le (mD M) hi
  have h2 := h.2.2.2.2.2.1
  have h3 := h.2.2.2.2.2.2.2.2
  omega
theorem ok_p {n : Nat} {M : Mo} (h : mOK n M) {p : Nat} (hp : p < 7) : mP M p ≤ 420 := by
  have h1 := psum_le (mP M) hp
  have h2 := h.2.2.2.2.2.2.2.1
  omega
theorem k_nm {G : KG} {J : KJ} {N : Nat} {Post : Option Value → WD → Prop} {pc : Nat} {L : List (Option Value)} {st : List Value} {cl sl : Nat} {w : WD} (h : ∀ w2 : WD, w2 = w → KRun G J N Post pc L st cl sl w2) : KRun G J N Post pc L st cl sl w := h w rfl
theorem ok_tick {n : Nat} {M : Mo} (h : mOK n M) (hg : mG M < 2000) : mOK n (mG M + 1, M.2) := by
  obtain ⟨a1, a2, a3, a4, a5, a6, a7, a8, a9⟩ := h
  exact ⟨a1, a2, a3, a4, a5, by show _ ≤ 2520 + 120 * (mG M + 1); exact Nat.le_trans a6 (by omega), a7, a8, by show mG M + 1 ≤ 2000; omega⟩
theorem mnt_G (F : Fo) (b : Bool) (M : Mo) : mG (mnt F b M) = mG M + 1 := by
  simp only [mnt]
  have h1 : mG (if b = true then pal F (mG M + 1) (mG M + 1, M.2) (mL M - 1) else (mG M + 1, M.2)) = mG M + 1 := by
    split
    · exact (pal_L F (mG M + 1) (mG M + 1, M.2) (mL M - 1)).2.1
    · rfl
  split
  · exact h1
  · exact h1
theorem ok_mns {n : Nat} {M : Mo} {F : Fo} (h : mOK n M) (hF : oOK F) (hn : n = oN F) : ∀ i, mG M + i ≤ 2000 → mOK n (mns F M i) ∧ mG (mns F M i) = mG M + i := by
  intro i
  induction i with
  | zero => exact fun _ => ⟨h, rfl⟩
  | succ i ih =>
    intro hi
    obtain ⟨i1, i2⟩ := ih (by omega)
    exact ⟨ok_mnt i1 hF hn (by omega), by simp only [mns]; rw [mnt_G, i2]; rfl⟩
/-- another name for what lies on top -/
theorem k_tp {G : KG} {J : KJ} {N : Nat} {Post : Option Value → WD → Prop} {pc : Nat} {L : List (Option Value)} {st : List Value} {cl sl : Nat} {w : WD} {x : Value} (y : Value) (e : x = y) (h : KRun G J N Post pc L (y :: st) cl sl w) : KRun G J N Post pc L (x :: st) cl sl w := e ▸ h
theorem ok_p' {n : Nat} {M : Mo} (h : mOK' n M) {p : Nat} (hp : p < 7) : mP M p ≤ 420 := by
  have h1 := psum_le (mP M) hp
  have h2 := h.2.2.2.2.2.2
  omega
theorem mOK.p {n : Nat} {M : Mo} (h : mOK n M) : mOK' n M := ⟨h.1, h.2.1, h.2.2.1, h.2.2.2.1, h.2.2.2.2.1, h.2.2.2.2.2.2.1, h.2.2.2.2.2.2.2.1⟩
