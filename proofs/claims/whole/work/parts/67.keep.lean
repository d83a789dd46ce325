/-! what holds of a queue always, kept by every call -/
theorem sOK_setN {S : St} {M : Mo} (h : sOK S) (hM : mOK (oN (qF S)) M) (hG : mG M ≤ 999) : sOK (setN S M) := by
  obtain ⟨o1, o2, o3, o5, o6, o7, o8, o9, o10, o11⟩ := h
  refine ⟨o1, o2, ⟨hM, hG⟩, fun X hX => ?_, ?_, o7, o8, o9, o10, o11⟩
  · have hX : X ∈ pshM 8 (qP S) (qM S) := hX
    unfold pshM at hX
    rcases List.mem_append.mp hX with h1 | h1
    · split at h1
      · exact o5 X (List.mem_of_mem_drop h1)
      · exact o5 X h1
    · rw [List.mem_singleton.mp h1]
      exact o3
  · show (pshM 8 (qP S) (qM S)).length ≤ 8
    unfold pshM
    split
    · simp
      omega
    · simp
      omega
theorem sOK_write {S : St} (h : sOK S) (x : Int32) : sOK (a_write S x).2 := by
  unfold a_write
  rcases rgn_c 32 126 x with ⟨k, k1, k2, rfl, e⟩ | ⟨hx, e⟩
  · rw [e]
    dsimp only
    by_cases c : 200 ≤ qt S
    · rw [if_pos c]
      exact h
    · rw [if_neg c]
      obtain ⟨o1, o2, o3, o5, o6, o7, o8, o9, o10, o11⟩ := h
      refine ⟨o1, o2, o3, o5, o6, o7, o8, o9, by show qt S + 1 ≤ 200; omega, fun i => ?_⟩
      show sf (qT S) (qt S) k i < 200
      by_cases z : i = qt S
      · rw [z, sf_s]
        omega
      · rw [sf_n _ _ z]
        exact o11 i
  · rw [e]
    exact h
theorem sOK_wipe {S : St} (h : sOK S) : sOK (a_wipe S).2 := by
  obtain ⟨o1, o2, o3, o5, o6, o7, o8, o9, o10, o11⟩ := h
  exact ⟨o1, o2, o3, o5, o6, o7, o8, o9, Nat.zero_le _, o11⟩
theorem sOK_forget {S : St} (h : sOK S) : sOK (a_forget S).2 := by
  obtain ⟨o1, o2, o3, o5, o6, o7, o8, o9, o10, o11⟩ := h
  exact ⟨o1, o2, o3, o5, o6, o7, o8, Nat.zero_le _, o10, o11⟩
theorem sOK_lay {S : St} (h : sOK S) : sOK (a_lay S).2 := by
  unfold a_lay
  cases e : rdT (qT S) (qt S) with
  | inr i => exact h
  | inl X =>
    dsimp only
    by_cases c : oN X.1 = 0
    · rw [if_pos c]
      exact h
    · rw [if_neg c]
      have hp : pOK X := rda_ok 200 (oF0, oM0) 0 X pOK_0 e
      obtain ⟨o1, o2, o3, o5, o6, o7, o8, o9, o10, o11⟩ := h
      exact ⟨hp.1, by show 1 ≤ oN X.1; omega, ⟨pOK_m hp, by show mG X.2 ≤ 999; rw [hp.2.2.2.2.2.2.2]; omega⟩, (fun Y hY => by cases hY), Nat.zero_le _, (fun Y hY => by cases hY), Nat.zero_le _, Nat.zero_le _, o10, o11⟩
theorem sOK_pass {S : St} (h : sOK S) (x : Int32) : sOK (a_pass S x).2 := by
  unfold a_pass
  rcases rgn_c 1 24 x with ⟨k, k1, k2, rfl, e⟩ | ⟨hx, e⟩
  · rw [e]
    dsimp only
    by_cases c : 999 < mG (qM S) + k
    · rw [if_pos c]
      exact h
    · rw [if_neg c]
      obtain ⟨q1, q2⟩ := ok_mns (i := k) h.2.2.1.1 h.1 rfl (by omega)
      exact sOK_setN h q1 (by omega)
  · rw [e]
    exact h
theorem sOK_let {S : St} (h : sOK S) (x y : Int32) : sOK (a_let S x y).2 := by
  unfold a_let
  rcases two_c h.1.1 x y with ⟨p, q, hp, hq, hpq, -, -, e⟩ | e
  · rw [e]
    dsimp only
    by_cases c : mayl (qM S) p q = true
    · rw [if_pos c]
      exact sOK_setN h (ok_letp h.2.2.1.1 c) (by rw [letp_G]; exact h.2.2.1.2)
    · rw [if_neg c]
      exact h
  · rw [e]
    exact h
theorem sOK_leave {S : St} (h : sOK S) (x : Int32) : sOK (a_leave S x).2 := by
  unfold a_leave
  rcases prs_c h.1.1 x with ⟨p, hp, rfl, e⟩ | ⟨hno, e⟩
  · rw [e]
    dsimp only
    cases e1 : plc (qM S) p with
    | none => exact h
    | some k => exact sOK_setN h (ok_rem h.2.2.1.1 (plc_some e1).1 (by omega) (by omega)) h.2.2.1.2
  · rw [e]
    exact h
theorem sOK_come {S : St} (h : sOK S) (x : Int32) : sOK (a_come S x).2 := by
  unfold a_come
  rcases prs_c h.1.1 x with ⟨p, hp, rfl, e⟩ | ⟨hno, e⟩
  · rw [e]
    dsimp only
    cases e1 : plc (qM S) p with
    | some k => exact h
    | none => exact sOK_setN h (ok_ins h.2.2.1.1 hp (plc_no e1) (Nat.le_refl _)) h.2.2.1.2
  · rw [e]
    exact h
theorem sOK_pay {S : St} (h : sOK S) (x y : Int32) : sOK (a_pay S x y).2 := by
  unfold a_pay
  rcases two_c h.1.1 x y with ⟨p, q, hp, hq, hpq, -, -, e⟩ | e
  · rw [e]
    dsimp only
    by_cases c : pyb (qM S) p q = 0
    · rw [if_pos c]
      exact h
    · rw [if_neg c]
      exact sOK_setN h (ok_setl h.2.2.1.1 hp hq) h.2.2.1.2
  · rw [e]
    exact h
theorem sOK_undo {S : St} (h : sOK S) : sOK (a_undo S).2 := by
  unfold a_undo
  obtain ⟨o1, o2, o3, o5, o6, o7, o8, o9, o10, o11⟩ := id h
  rcases List.eq_nil_or_concat (qP S) with e | ⟨L, M1, e⟩
  · rw [e]
    exact h
  · have e : qP S = L ++ [M1] := by rw [e]; simp
    have e2 : (qP S).getLast? = some M1 := by rw [e]; simp
    have e3 : (qP S).dropLast = L := by rw [e]; simp
    rw [e2]
    dsimp only
    rw [e3]
    refine ⟨o1, o2, o5 M1 (by rw [e]; simp), fun X hX => o5 X (by rw [e]; exact List.mem_append_left _ hX), ?_, o7, o8, o9, o10, o11⟩
    show L.length ≤ 8
    rw [e] at o6
    simp at o6
    omega
theorem sOK_keep {S : St} (h : sOK S) : sOK (a_keep S).2 := by
  unfold a_keep
  obtain ⟨o1, o2, o3, o5, o6, o7, o8, o9, o10, o11⟩ := id h
  by_cases c : 2 ≤ (qK S).length
  · rw [if_pos c]
    exact h
  · rw [if_neg c]
    refine ⟨o1, o2, o3, o5, o6, fun X hX => ?_, ?_, o9, o10, o11⟩
    · have hX : X ∈ qK S ++ [qM S] := hX
      rcases List.mem_append.mp hX with h1 | h1
      · exact o7 X h1
      · rw [List.mem_singleton.mp h1]
        exact o3
    · show (qK S ++ [qM S]).length ≤ 2
      simp
      omega
theorem sOK_back {S : St} (h : sOK S) : sOK (a_back S).2 := by
  unfold a_back
  obtain ⟨o1, o2, o3, o5, o6, o7, o8, o9, o10, o11⟩ := id h
  rcases List.eq_nil_or_concat (qK S) with e | ⟨L, M1, e⟩
  · rw [e]
    exact h
  · have e : qK S = L ++ [M1] := by rw [e]; simp
    have e2 : (qK S).getLast? = some M1 := by rw [e]; simp
    have e3 : (qK S).dropLast = L := by rw [e]; simp
    rw [e2]
    dsimp only
    rw [e3]
    refine ⟨o1, o2, o7 M1 (by rw [e]; simp), (fun X hX => by cases hX), Nat.zero_le _, fun X hX => o7 X (by rw [e]; exact List.mem_append_left _ hX), ?_, o9, o10, o11⟩
    show L.length ≤ 2
    rw [e] at o8
    simp at o8
    omega
theorem sOK_see {S : St} (h : sOK S) (x y z : Int32) : sOK (a_see S x y z).2 := by
  unfold a_see
  rcases prs_c h.1.1 x with ⟨p, hp, rfl, e⟩ | ⟨hno, e⟩
  · rw [e]
    rcases rgn_c 1 20 y with ⟨n, n1, n2, rfl, e2⟩ | ⟨hy, e2⟩
    · rw [e2]
      rcases rgn_c 0 400000 z with ⟨v, v1, v2, rfl, e3⟩ | ⟨hz, e3⟩
      · rw [e3]
        dsimp only
        by_cases c : 6 ≤ qm S
        · rw [if_pos c]
          exact h
        · rw [if_neg c]
          obtain ⟨o1, o2, o3, o5, o6, o7, o8, o9, o10, o11⟩ := h
          exact ⟨o1, o2, o3, o5, o6, o7, o8, by show qm S + 1 ≤ 6; omega, o10, o11⟩
      · rw [e3]
        exact h
    · rw [e2]
      exact h
  · rw [e]
    exact h
