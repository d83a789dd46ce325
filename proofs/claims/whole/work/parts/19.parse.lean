/-! the text and what it tells -/
def ltA (T : Nat → Nat) (t i : Nat) : Nat := if i < t then T i else 0
def isF (c : Nat) : Bool := decide (48 ≤ c) && decide (c ≤ 57)
def rdn (T : Nat → Nat) (t i : Nat) : Option (Nat × Nat) :=
  if isF (ltA T t i) = true then
    (if isF (ltA T t (i + 1)) = true then some (10 * (ltA T t i - 48) + (ltA T t (i + 1) - 48), i + 2) else some (ltA T t i - 48, i + 1))
  else none
def rds (T : Nat → Nat) (t : Nat) : Nat → Nat → Option (List Nat × Nat)
  | 0, i => some ([], i)
  | m + 1, i => match rdn T t i with
    | none => none
    | some (v, j) => if ltA T t j = (if m = 0 then 59 else 44) then (match rds T t m (j + 1) with
      | none => none
      | some (l, e) => some (v :: l, e)) else none
def addF (F : Fo) (k v o : Nat) : Fo := (oN F + 1, oS F, sf (oK F) (oN F) k, sf (oW F) (oN F) v, sf (oT F) (oN F) o)
def addM (F : Fo) (M : Mo) (h : Nat) : Mo := (mG M, mL M + 1, sf (mQ M) (mL M) (oN F), sf (mW M) (oN F) 0, sf (mP M) (oN F) h, mD M)
def setS (F : Fo) (v : Nat) : Fo := (oN F, v, oK F, oW F, oT F)
def itm (T : Nat → Nat) (t : Nat) (S : Fo × Mo) (i : Nat) : Option ((Fo × Mo) × Nat) :=
  if ltA T t i = 112 then (match rds T t 4 (i + 1) with
    | none => none
    | some (l, j) => if l.getD 0 0 ≤ 3 ∧ l.getD 1 0 ≤ 20 ∧ 1 ≤ l.getD 2 0 ∧ l.getD 2 0 ≤ 9 ∧ l.getD 3 0 ≤ 60 ∧ oN S.1 < 7 then some ((addF S.1 (l.getD 0 0) (l.getD 1 0) (l.getD 2 0), addM S.1 S.2 (l.getD 3 0)), j) else none)
  else if ltA T t i = 115 then (match rds T t 1 (i + 1) with
    | none => none
    | some (l, j) => if 1 ≤ l.getD 0 0 ∧ l.getD 0 0 ≤ 9 then some ((setS S.1 (l.getD 0 0), S.2), j) else none)
  else if ltA T t i = 100 then (match rds T t 3 (i + 1) with
    | none => none
    | some (l, j) => if l.getD 0 0 < oN S.1 ∧ l.getD 1 0 < oN S.1 ∧ l.getD 0 0 ≠ l.getD 1 0 ∧ l.getD 2 0 ≤ 60 then some ((S.1, sD S.2 (7 * l.getD 0 0 + l.getD 1 0) (l.getD 2 0)), j) else none)
  else none
def rda (T : Nat → Nat) (t : Nat) : Nat → Fo × Mo → Nat → (Fo × Mo) ⊕ Nat
  | 0, S, _ => .inl S
  | f + 1, S, i => if i < t then (match itm T t S i with
    | none => .inr i
    | some (S1, j) => rda T t f S1 j) else .inl S
def oF0 : Fo := (0, 3, fun _ => 0, fun _ => 0, fun _ => 0)
def oM0 : Mo := (0, 0, fun _ => 0, fun _ => 0, fun _ => 0, fun _ => 0)
/-- the text read from its start -/
def rdT (T : Nat → Nat) (t : Nat) : (Fo × Mo) ⊕ Nat := rda T t 200 (oF0, oM0) 0
theorem ltA_lt {T : Nat → Nat} {t i : Nat} (h : isF (ltA T t i) = true) : i < t := by
  unfold ltA at h
  split at h
  · assumption
  · exact absurd h (by decide)
theorem isF_le {c : Nat} (h : isF c = true) : 48 ≤ c ∧ c ≤ 57 := by
  simpa [isF] using h
theorem rdn_le {T : Nat → Nat} {t i v j : Nat} (h : rdn T t i = some (v, j)) : i < j ∧ j ≤ t ∧ v < 100 := by
  unfold rdn at h
  split at h
  · next h1 =>
    have a1 := ltA_lt h1
    have a2 := isF_le h1
    split at h
    · next h2 =>
      have b1 := ltA_lt h2
      have b2 := isF_le h2
      simp only [Option.some.injEq, Prod.mk.injEq] at h
      omega
    · simp only [Option.some.injEq, Prod.mk.injEq] at h
      omega
  · cases h
theorem rds_le {T : Nat → Nat} {t : Nat} : ∀ {m i : Nat} {l : List Nat} {e : Nat}, rds T t m i = some (l, e) → l.length = m ∧ i ≤ e ∧ (0 < m → i < e ∧ e ≤ t) ∧ ∀ q, l.getD q 0 < 100 := by
  intro m
  induction m with
  | zero =>
    intro i l e h
    simp only [rds, Option.some.injEq, Prod.mk.injEq] at h
    obtain ⟨rfl, rfl⟩ := h
    exact ⟨rfl, Nat.le_refl _, fun h => absurd h (by omega), fun q => by simp⟩
  | succ m ih =>
    intro i l e h
    simp only [rds] at h
    cases h1 : rdn T t i with
    | none => rw [h1] at h; cases h
    | some vj =>
      obtain ⟨v, j⟩ := vj
      rw [h1] at h
      have a1 := rdn_le h1
      dsimp only at h
      by_cases h2 : ltA T t j = (if m = 0 then 59 else 44)
      · rw [if_pos h2] at h
        have hj : j < t := by
          unfold ltA at h2
          split at h2
          · assumption
          · split at h2 <;> omega
        cases h3 : rds T t m (j + 1) with
        | none => rw [h3] at h; cases h
        | some le =>
          obtain ⟨l1, e1⟩ := le
          rw [h3] at h
          simp only [Option.some.injEq, Prod.mk.injEq] at h
          obtain ⟨rfl, rfl⟩ := h
          obtain ⟨b1, b2, b3, b4⟩ := ih h3
          refine ⟨by simp [b1], by omega, fun _ => ⟨by omega, ?_⟩, fun q => ?_⟩
          · by_cases hm : m = 0
            · subst hm
              simp only [rds, Option.some.injEq, Prod.mk.injEq] at h3
              omega
            · exact (b3 (by omega)).2
          · cases q with
            | zero => simpa using a1.2.2
            | succ q => simpa using b4 q
      · rw [if_neg h2] at h
        cases h
theorem itm_le {T : Nat → Nat} {t i j : Nat} {S S1 : Fo × Mo} (h : itm T t S i = some (S1, j)) : i < j ∧ j ≤ t := by
  unfold itm at h
  split at h
  · cases h1 : rds T t 4 (i + 1) with
    | none => rw [h1] at h; cases h
    | some le =>
      obtain ⟨l, e⟩ := le
      rw [h1] at h
      dsimp only at h
      split at h
      · have := (rds_le h1).2.2.1 (by omega)
        simp only [Option.some.injEq, Prod.mk.injEq] at h
        omega
      · cases h
  · split at h
    · cases h1 : rds T t 1 (i + 1) with
      | none => rw [h1] at h; cases h
      | some le =>
        obtain ⟨l, e⟩ := le
        rw [h1] at h
        dsimp only at h
        split at h
        · have := (rds_le h1).2.2.1 (by omega)
          simp only [Option.some.injEq, Prod.mk.injEq] at h
          omega
        · cases h
    · split at h
      · cases h1 : rds T t 3 (i + 1) with
        | none => rw [h1] at h; cases h
        | some le =>
          obtain ⟨l, e⟩ := le
          rw [h1] at h
          dsimp only at h
          split at h
          · have := (rds_le h1).2.2.1 (by omega)
            simp only [Option.some.injEq, Prod.mk.injEq] at h
            omega
          · cases h
      · cases h
/-- what holds of a text read so far -/
def pOK (S : Fo × Mo) : Prop := oOK S.1 ∧ mL S.2 = oN S.1 ∧ (∀ k, k < oN S.1 → mQ S.2 k = k) ∧ (∀ p, p < oN S.1 → mW S.2 p = 0) ∧ (∀ p, mP S.2 p ≤ 60) ∧ (∀ i, i < 49 → mD S.2 i ≤ 60) ∧ (∀ a, a < 7 → mD S.2 (8 * a) = 0) ∧ mG S.2 = 0
theorem pOK_0 : pOK (oF0, oM0) := ⟨⟨by decide, ⟨by decide, by decide⟩, fun p hp => absurd hp (Nat.not_lt_zero p)⟩, rfl, fun k hk => absurd hk (Nat.not_lt_zero k), fun p hp => absurd hp (Nat.not_lt_zero p), fun p => Nat.zero_le _, fun i _ => Nat.zero_le _, fun a _ => rfl, rfl⟩
theorem pOK_itm {T : Nat → Nat} {t i j : Nat} {S S1 : Fo × Mo} (hS : pOK S) (h : itm T t S i = some (S1, j)) : pOK S1 := by
  obtain ⟨⟨c1, c2, c3⟩, a2, a3, a4, a5, a6, a7, a8⟩ := hS
  unfold itm at h
  split at h
  · cases h1 : rds T t 4 (i + 1) with
    | none => rw [h1] at h; cases h
    | some le =>
      obtain ⟨l, e⟩ := le
      rw [h1] at h
      dsimp only at h
      split at h
      · next hc =>
        obtain ⟨d1, d2, d3, d4, d5, d6⟩ := hc
        simp only [Option.some.injEq, Prod.mk.injEq] at h
        obtain ⟨rfl, rfl⟩ := h
        refine ⟨⟨d6, c2, fun p hp => ?_⟩, by show mL S.2 + 1 = oN S.1 + 1; omega, fun k hk => ?_, fun p hp => ?_, fun p => ?_, a6, a7, a8⟩
        · have hp : p < oN S.1 + 1 := hp
          show sf (oK S.1) (oN S.1) _ p ≤ 3 ∧ sf (oW S.1) (oN S.1) _ p ≤ 20 ∧ 1 ≤ sf (oT S.1) (oN S.1) _ p ∧ sf (oT S.1) (oN S.1) _ p ≤ 9
          by_cases e : p = oN S.1
          · subst e
            rw [sf_s, sf_s, sf_s]
            exact ⟨d1, d2, d3, d4⟩
          · rw [sf_n _ _ e, sf_n _ _ e, sf_n _ _ e]
            exact c3 p (by omega)
        · have hk : k < oN S.1 + 1 := hk
          show sf (mQ S.2) (mL S.2) (oN S.1) k = k
          by_cases e : k = mL S.2
          · subst e
            rw [sf_s, a2]
          · rw [sf_n _ _ e]
            exact a3 k (by omega)
        · have hp : p < oN S.1 + 1 := hp
          show sf (mW S.2) (oN S.1) 0 p = 0
          by_cases e : p = oN S.1
          · subst e
            rw [sf_s]
          · rw [sf_n _ _ e]
            exact a4 p (by omega)
        · show sf (mP S.2) (oN S.1) _ p ≤ 60
          by_cases e : p = oN S.1
          · subst e
            rw [sf_s]
            exact d5
          · rw [sf_n _ _ e]
            exact a5 p
      · cases h
  · split at h
    · cases h1 : rds T t 1 (i + 1) with
      | none => rw [h1] at h; cases h
      | some le =>
        obtain ⟨l, e⟩ := le
        rw [h1] at h
        dsimp only at h
        split at h
        · next hc =>
          simp only [Option.some.injEq, Prod.mk.injEq] at h
          obtain ⟨rfl, rfl⟩ := h
          exact ⟨⟨c1, hc, c3⟩, a2, a3, a4, a5, a6, a7, a8⟩
        · cases h
    · split at h
      · cases h1 : rds T t 3 (i + 1) with
        | none => rw [h1] at h; cases h
        | some le =>
          obtain ⟨l, e⟩ := le
          rw [h1] at h
          dsimp only at h
          split at h
          · next hc =>
            obtain ⟨d1, d2, d3, d4⟩ := hc
            simp only [Option.some.injEq, Prod.mk.injEq] at h
            obtain ⟨rfl, rfl⟩ := h
            refine ⟨⟨c1, c2, c3⟩, a2, a3, a4, a5, fun q hq => ?_, fun a ha => ?_, a8⟩
            · show sf (mD S.2) _ _ q ≤ 60
              by_cases e : q = 7 * l.getD 0 0 + l.getD 1 0
              · subst e
                rw [sf_s]
                exact d4
              · rw [sf_n _ _ e]
                exact a6 q hq
            · show sf (mD S.2) _ _ (8 * a) = 0
              rw [sf_n _ _ (by omega)]
              exact a7 a ha
          · cases h
      · cases h
theorem rda_ok {T : Nat → Nat} {t : Nat} : ∀ (f : Nat) (S : Fo × Mo) (i : Nat) (S1 : Fo × Mo), pOK S → rda T t f S i = .inl S1 → pOK S1 := by
  intro f
  induction f with
  | zero =>
    intro S i S1 h e
    simp only [rda, Sum.inl.injEq] at e
    exact e ▸ h
  | succ f ih =>
    intro S i S1 h e
    simp only [rda] at e
    split at e
    · cases h1 : itm T t S i with
      | none => rw [h1] at e; cases e
      | some x =>
        obtain ⟨S2, j⟩ := x
        rw [h1] at e
        exact ih S2 j S1 (pOK_itm h h1) e
    · cases e
      exact h
/-- more steps say the same -/
theorem rda_more {T : Nat → Nat} {t : Nat} : ∀ (f g : Nat) (S : Fo × Mo) (i : Nat), t ≤ i + f → t ≤ i + g → rda T t f S i = rda T t g S i := by
  intro f
  induction f with
  | zero =>
    intro g S i h1 h2
    cases g with
    | zero => rfl
    | succ g => simp only [rda]; rw [if_neg (by omega)]
  | succ f ih =>
    intro g S i h1 h2
    cases g with
    | zero => simp only [rda]; rw [if_neg (by omega)]
    | succ g =>
      simp only [rda]
      split
      · cases h3 : itm T t S i with
        | none => rfl
        | some x =>
          obtain ⟨S2, j⟩ := x
          have := itm_le h3
          exact ih g S2 j (by omega) (by omega)
      · rfl
theorem pOK_m {S : Fo × Mo} (h : pOK S) : mOK (oN S.1) S.2 := by
  obtain ⟨⟨c1, c2, c3⟩, a2, a3, a4, a5, a6, a7, a8⟩ := h
  refine ⟨by omega, c1, fun k hk => by rw [a3 k (by omega)]; omega, fun i j hi hj e => by rw [a3 i (by omega), a3 j (by omega)] at e; exact e, fun p hp => ⟨by rw [a4 p hp]; omega, fun _ => ⟨p, by omega, a3 p hp⟩, fun _ => a4 p hp⟩, ?_, a7, ?_, by omega⟩
  · have e0 : ∀ k, k ≤ 49 → owf (mD S.2) k ≤ 60 * k := by
      intro k
      induction k with
      | zero => intro _; simp [owf]
      | succ k ih =>
        intro hk
        have := ih (by omega)
        have := a6 k (by omega)
        simp only [owf]
        omega
    have d0 := a7 0 (by omega)
    have d1 := a7 1 (by omega)
    have d2 := a7 2 (by omega)
    have d3 := a7 3 (by omega)
    have d4 := a7 4 (by omega)
    have d5 := a7 5 (by omega)
    have d6 := a7 6 (by omega)
    have all : ∀ i, i < 49 → mD S.2 i ≤ 60 := a6
    have big : owf (mD S.2) 49 + (60 * 7) ≤ 60 * 49 := by
      have g : ∀ k, k ≤ 49 → owf (mD S.2) k + 60 * ((k + 7) / 8) ≤ 60 * k := by
        intro k
        induction k with
        | zero => intro _; simp [owf]
        | succ k ih =>
          intro hk
          have h1 := ih (by omega)
          have h2 := a6 k (by omega)
          simp only [owf]
          by_cases e : k % 8 = 0
          · have h3 : mD S.2 k = 0 := by
              have := a7 (k / 8) (by omega)
              rwa [show 8 * (k / 8) = k by omega] at this
            omega
          · omega
      have := g 49 (by omega)
      omega
    omega
  · simp only [psum]
    have b0 := a5 0
    have b1 := a5 1
    have b2 := a5 2
    have b3 := a5 3
    have b4 := a5 4
    have b5 := a5 5
    have b6 := a5 6
    omega
