/-! the whole queue with its text, its past, its notes: what the public methods answer and leave -/
abbrev St : Type := Fo × Mo × List Mo × List Mo × Nat × (Nat → Nt) × Nat × (Nat → Nat)
def qF (S : St) : Fo := S.1
def qM (S : St) : Mo := S.2.1
def qP (S : St) : List Mo := S.2.2.1
def qK (S : St) : List Mo := S.2.2.2.1
def qm (S : St) : Nat := S.2.2.2.2.1
def qN (S : St) : Nat → Nt := S.2.2.2.2.2.1
def qt (S : St) : Nat := S.2.2.2.2.2.2.1
def qT (S : St) : Nat → Nat := S.2.2.2.2.2.2.2
def prs (n : Nat) (x : Int32) : Option Nat := if 0 ≤ x.toInt ∧ x.toInt < (n : Int) then some x.toInt.toNat else none
def rgn (lo hi : Nat) (x : Int32) : Option Nat := if (lo : Int) ≤ x.toInt ∧ x.toInt ≤ (hi : Int) then some x.toInt.toNat else none
theorem nI_tN {x : Int32} (h : 0 ≤ x.toInt) : x = nI x.toInt.toNat := by
  apply Int32.toInt_inj.mp
  have := Int32.toInt_lt x
  rw [nI_toInt (by omega)]
  omega
theorem prs_c {n : Nat} (hn : n ≤ 7) (x : Int32) : (∃ p, p < n ∧ x = nI p ∧ prs n x = some p) ∨ ((∀ p, p < n → x ≠ nI p) ∧ prs n x = none) := by
  by_cases h : 0 ≤ x.toInt ∧ x.toInt < (n : Int)
  · exact Or.inl ⟨x.toInt.toNat, by omega, nI_tN h.1, if_pos h⟩
  · refine Or.inr ⟨fun p hp e => h ?_, if_neg h⟩
    subst e
    rw [nI_toInt (by omega)]
    omega
theorem rgn_c (lo hi : Nat) (x : Int32) : (∃ k, lo ≤ k ∧ k ≤ hi ∧ x = nI k ∧ rgn lo hi x = some k) ∨ ((x.toInt < (lo : Int) ∨ (hi : Int) < x.toInt) ∧ rgn lo hi x = none) := by
  by_cases h : (lo : Int) ≤ x.toInt ∧ x.toInt ≤ (hi : Int)
  · exact Or.inl ⟨x.toInt.toNat, by omega, by omega, nI_tN (by omega), if_pos h⟩
  · exact Or.inr ⟨by omega, if_neg h⟩
theorem prs_nI {n p : Nat} (hn : n ≤ 7) (hp : p < n) : prs n (nI p) = some p := by
  unfold prs
  rw [nI_toInt (by omega), if_pos (by omega)]
  rfl
theorem ltI {x : Int32} {k : Nat} (hk : k < 2 ^ 31) : x < nI k ↔ x.toInt < (k : Int) := by rw [Int32.lt_iff_toInt_lt, nI_toInt hk]
theorem leI {x : Int32} {k : Nat} (hk : k < 2 ^ 31) : x ≤ nI k ↔ x.toInt ≤ (k : Int) := by rw [Int32.le_iff_toInt_le, nI_toInt hk]
theorem lt0I {x : Int32} : x < 0 ↔ x.toInt < 0 := by rw [Int32.lt_iff_toInt_lt]; exact Iff.rfl
def two (n : Nat) (x y : Int32) : Option (Nat × Nat) := match prs n x, prs n y with
  | some a, some b => if a = b then none else some (a, b)
  | _, _ => none
def a_write (S : St) (x : Int32) : Int32 × St := match rgn 32 126 x with
  | none => (-1, S)
  | some k => if 200 ≤ qt S then (-3, S) else (nI (qt S + 1), (qF S, qM S, qP S, qK S, qm S, qN S, qt S + 1, sf (qT S) (qt S) k))
def a_wipe (S : St) : Int32 × St := (nI (qt S), (qF S, qM S, qP S, qK S, qm S, qN S, 0, qT S))
def a_fault (S : St) : Int32 × St := (rdI (rdT (qT S) (qt S)), S)
def a_lay (S : St) : Int32 × St := match rdT (qT S) (qt S) with
  | .inr _ => (-2, S)
  | .inl X => if oN X.1 = 0 then (-2, S) else (nI (oN X.1), (X.1, X.2, [], [], 0, qN S, qt S, qT S))
def a_person (S : St) (x y : Int32) : Int32 × St := ((match prs (oN (qF S)) x with
  | none => -1
  | some p => (match rgn 0 6 y with
    | none => -1
    | some k => if k = 0 then nI (oK (qF S) p) else if k = 1 then nI (oW (qF S) p) else if k = 2 then nI (oT (qF S) p) else if k = 3 then nI (mP (qM S) p) else if k = 4 then pI (plc (qM S) p) else if k = 5 then nI (mW (qM S) p) else iZ (200000 + due (qM S) p))), S)
def a_owes (S : St) (x y : Int32) : Int32 × St := ((match two (oN (qF S)) x y with
  | none => -1
  | some (a, b) => nI (mD (qM S) (7 * a + b))), S)
def a_place (S : St) (x : Int32) : Int32 × St := ((match rgn 0 6 x with
  | none => -1
  | some k => if k < mL (qM S) then nI (mQ (qM S) k) else -4), S)
def a_would (S : St) (x : Int32) : Int32 × St := ((match prs (oN (qF S)) x with
  | none => -1
  | some p => (match plc (qM S) p with
    | none => -2
    | some k => if k = 0 then -2 else bI (wnt (qF S) (qM S) p (mQ (qM S) (k - 1))))), S)
/-- another queue, the one before kept -/
def setN (S : St) (M : Mo) : St := (qF S, M, pshM 8 (qP S) (qM S), qK S, qm S, qN S, qt S, qT S)
def a_pass (S : St) (x : Int32) : Int32 × St := match rgn 1 24 x with
  | none => (-1, S)
  | some n => if 999 < mG (qM S) + n then (-2, S) else (nI (mG (qM S) + n), setN S (mns (qF S) (qM S) n))
def a_let (S : St) (x y : Int32) : Int32 × St := match two (oN (qF S)) x y with
  | none => (-1, S)
  | some (p, q) => if mayl (qM S) p q = true then (pI (plc (letp (qM S) p q) q), setN S (letp (qM S) p q)) else (-2, S)
def a_leave (S : St) (x : Int32) : Int32 × St := match prs (oN (qF S)) x with
  | none => (-1, S)
  | some p => (match plc (qM S) p with
    | none => (-2, S)
    | some k => (nI (mL (rem (qM S) k 2)), setN S (rem (qM S) k 2)))
def a_come (S : St) (x : Int32) : Int32 × St := match prs (oN (qF S)) x with
  | none => (-1, S)
  | some p => (match plc (qM S) p with
    | none => (pI (plc (ins (qM S) p (mL (qM S))) p), setN S (ins (qM S) p (mL (qM S))))
    | some _ => (-2, S))
def a_pay (S : St) (x y : Int32) : Int32 × St := match two (oN (qF S)) x y with
  | none => (-1, S)
  | some (a, b) => if pyb (qM S) a b = 0 then (-2, S) else (nI (pyb (qM S) a b), setN S (setl (qM S) a b))
def a_undo (S : St) : Int32 × St := match (qP S).getLast? with
  | none => (-2, S)
  | some M => (nI ((qP S).length - 1), (qF S, M, (qP S).dropLast, qK S, qm S, qN S, qt S, qT S))
def a_behind (S : St) (x y z : Int32) : Int32 × St := ((match rgn 0 40 x, prs (oN (qF S)) y, rgn 0 1 z with
  | some n, some p, some u => if u = 0 then pI (plc (mns (qF S) (qM S) n) p) else iZ (200000 + due (mns (qF S) (qM S) n) p)
  | _, _, _ => -1), S)
def a_served (S : St) (x : Int32) : Int32 × St := ((match prs (oN (qF S)) x with
  | none => -1
  | some p => if (plc (qM S) p).isSome = true then wI (wtn (qF S) (qM S) p) else -2), S)
def a_stand (S : St) (x y z : Int32) : Int32 × St := ((match prs (oN (qF S)) x, rgn 1 40 y, rgn 0 1 z with
  | some p, some n, some u => if (plc (qM S) p).isSome = true then (match std (qF S) (qM S) p n (mL (qM S)) with
    | none => -4
    | some (k, v) => if u = 0 then nI k else iZ (200000 + v)) else -2
  | _, _, _ => -1), S)
def a_haste (S : St) (x y : Int32) : Int32 × St := ((match prs (oN (qF S)) x, rgn 0 1 y with
  | some p, some u => if (plc (qM S) p).isSome = true then (match hso (qF S) (qM S) p (oN (qF S)) with
    | none => -4
    | some (k, v) => if u = 0 then nI k else iZ v) else -2
  | _, _ => -1), S)
def a_clear (S : St) : Int32 × St := (iZ (clr (due (qM S)) (oN (qF S))), S)
def a_miss (S : St) (x : Int32) : Int32 × St := ((match rgn 0 1 x with
  | none => -1
  | some u => (match msd (qF S) (qM S) (oN (qF S)) with
    | none => -4
    | some (k, v) => if u = 0 then nI k else iZ (200000 + v))), S)
def a_see (S : St) (x y z : Int32) : Int32 × St := match prs (oN (qF S)) x, rgn 1 20 y, rgn 0 400000 z with
  | some p, some n, some v => if 6 ≤ qm S then (-3, S) else (nI (qm S + 1), (qF S, qM S, qP S, qK S, qm S + 1, (fun i => if i = qm S then (p, n, v) else qN S i), qt S, qT S))
  | _, _, _ => (-1, S)
def a_forget (S : St) : Int32 × St := (nI (qm S), (qF S, qM S, qP S, qK S, 0, qN S, qt S, qT S))
def corS (S : St) (e : Nat) : Nat × (Nat → Nat) := cor (soP (qN S) (qm S) (qF S) (qM S)) (mL (qM S)) e 5040 (sof (qM S) (oN (qF S))).2 0
def a_orders (S : St) (x : Int32) : Int32 × St := ((if x = -1 then nI (corS S 5040).1 else match rgn 0 6 x with
  | none => -1
  | some k => if k < mL (qM S) then (if (corS S 1).1 = 0 then -4 else nI ((corS S 1).2 k)) else -4), S)
def a_kinds (S : St) (x : Int32) : Int32 × St := ((match prs (oN (qF S)) x with
  | none => -1
  | some p => if (plc (qM S) p).isSome = true then nI (fkd (qN S) (qm S) (qF S) (qM S) p 4) else -2), S)
def a_rain (S : St) (x y z u : Int32) : Int32 × St := ((match prs (oN (qF S)) x, rgn 0 8 y, rgn 0 10 z, rgn 0 1 u with
  | some p, some n, some t, some v => if v = 0 then nI (hit (qF S) (qM S) p n t (2 ^ n) / Nat.gcd (10 ^ n) (hit (qF S) (qM S) p n t (2 ^ n))) else nI (10 ^ n / Nat.gcd (10 ^ n) (hit (qF S) (qM S) p n t (2 ^ n)))
  | _, _, _, _ => -1), S)
def a_day (S : St) (x y z : Int32) : Int32 × St := ((match rgn 0 9999 x, rgn 1 60 y, rgn 0 1 z with
  | some d, some n, some u => if u = 0 then nI (mL (dyM (qF S) (qM S) d n)) else nI (owf (mD (dyM (qF S) (qM S) d n)) 49)
  | _, _, _ => -1), S)
def a_keep (S : St) : Int32 × St := if 2 ≤ (qK S).length then (-3, S) else (nI ((qK S).length + 1), (qF S, qM S, qP S, qK S ++ [qM S], qm S, qN S, qt S, qT S))
def a_back (S : St) : Int32 × St := match (qK S).getLast? with
  | none => (-2, S)
  | some M => (nI ((qK S).length - 1), (qF S, M, [], (qK S).dropLast, qm S, qN S, qt S, qT S))
def a_count (S : St) (x : Int32) : Int32 × St := ((match rgn 0 10 x with
  | none => -1
  | some k => if k = 0 then nI (oN (qF S)) else if k = 1 then nI (oS (qF S)) else if k = 2 then nI (mG (qM S)) else if k = 3 then nI (mL (qM S)) else if k = 4 then nI (cnt (mW (qM S)) 1 (oN (qF S))) else if k = 5 then nI (cnt (mW (qM S)) 2 (oN (qF S))) else if k = 6 then nI (owf (mD (qM S)) 49) else if k = 7 then nI (qm S) else if k = 8 then nI (qP S).length else if k = 9 then nI (qK S).length else nI (qt S)), S)
/-- what holds of it always -/
def sOK (S : St) : Prop := oOK (qF S) ∧ 1 ≤ oN (qF S) ∧ (mOK (oN (qF S)) (qM S) ∧ mG (qM S) ≤ 999) ∧ (∀ X, X ∈ qP S → mOK (oN (qF S)) X ∧ mG X ≤ 999) ∧ (qP S).length ≤ 8 ∧ (∀ X, X ∈ qK S → mOK (oN (qF S)) X ∧ mG X ≤ 999) ∧ (qK S).length ≤ 2 ∧ qm S ≤ 6 ∧ qt S ≤ 200 ∧ ∀ i, qT S i < 200
