/-! what a queue IS: numbers and functions, no machine -/
def bI (b : Bool) : Int32 := if b then nI 1 else nI 0
theorem bI_nar (b : Bool) : narrow .boolean (.int (bI b)) = .int (bI b) := by cases b <;> rfl
section KB
variable {G : KG} {J : KJ} {N : Nat} {Post : Option Value → WD → Prop} {pc : Nat} {L : List (Option Value)} {st : List Value} {cl sl : Nat} {w : WD}
theorem k_if_eqB {b : Bool} {off : Int} (t q : Nat) (hd : decode J.2.1 pc = .ok (.ifCond .eq off, 3)) (ht : (pc : Int) + off = (t : Int)) (hq : pc + 3 = q) (kt : b = false → KRun G J N Post t L st cl sl w) (kf : b = true → KRun G J N Post q L st cl sl w) : KRun G J N Post pc L (.int (bI b) :: st) cl sl w := by
  refine k_if_eq t q hd ht hq (fun c => ?_) (fun c => ?_)
  · cases b
    · exact kt rfl
    · exact absurd c (by decide)
  · cases b
    · exact absurd rfl c
    · exact kf rfl
theorem k_if_neB {b : Bool} {off : Int} (t q : Nat) (hd : decode J.2.1 pc = .ok (.ifCond .ne off, 3)) (ht : (pc : Int) + off = (t : Int)) (hq : pc + 3 = q) (kt : b = true → KRun G J N Post t L st cl sl w) (kf : b = false → KRun G J N Post q L st cl sl w) : KRun G J N Post pc L (.int (bI b) :: st) cl sl w := by
  refine k_if_ne t q hd ht hq (fun c => ?_) (fun c => ?_)
  · cases b
    · exact absurd rfl c
    · exact kt rfl
  · cases b
    · exact kf rfl
    · exact absurd (show ¬ bI true = 0 by decide) c
theorem k_zretB {b : Bool} (hd : decode J.2.1 pc = .ok (.ireturn, 1)) (hr : J.2.2.2.2.1 = some .boolean) (hc : cl = J.2.2.2.2.2.2.1) (hs : sl ≤ J.2.2.2.2.2.2.2) (hp : Post (some (.int (bI b))) w) : KRun G J N Post pc L [.int (bI b)] cl sl w := k_zret hd hr (bI_nar b) hc hs hp
end KB
abbrev Fo : Type := Nat × Nat × (Nat → Nat) × (Nat → Nat) × (Nat → Nat)
abbrev Mo : Type := Nat × Nat × (Nat → Nat) × (Nat → Nat) × (Nat → Nat) × (Nat → Nat)
def oN (F : Fo) : Nat := F.1
def oS (F : Fo) : Nat := F.2.1
def oK (F : Fo) : Nat → Nat := F.2.2.1
def oW (F : Fo) : Nat → Nat := F.2.2.2.1
def oT (F : Fo) : Nat → Nat := F.2.2.2.2
/-- minutes gone, how many in the queue, who stands where, where one is, what one has, who owes whom -/
def mG (M : Mo) : Nat := M.1
def mL (M : Mo) : Nat := M.2.1
def mQ (M : Mo) : Nat → Nat := M.2.2.1
def mW (M : Mo) : Nat → Nat := M.2.2.2.1
def mP (M : Mo) : Nat → Nat := M.2.2.2.2.1
def mD (M : Mo) : Nat → Nat := M.2.2.2.2.2
def sf (f : Nat → Nat) (k v : Nat) : Nat → Nat := fun j => if j = k then v else f j
theorem sf_s (f : Nat → Nat) (k v : Nat) : sf f k v k = v := by simp [sf]
theorem sf_n (f : Nat → Nat) {k j : Nat} (v : Nat) (h : j ≠ k) : sf f k v j = f j := by simp [sf, h]
/-- the place of one, first found -/
def plc (M : Mo) (p : Nat) : Option Nat := (List.range (mL M)).find? (fun k => mQ M k == p)
def pI (o : Option Nat) : Int32 := match o with
  | some k => nI k
  | none => -4
theorem plc_none {M : Mo} {p : Nat} (h : ∀ k, k < mL M → mQ M k ≠ p) : plc M p = none := by
  simp only [plc, List.find?_eq_none, List.mem_range, beq_iff_eq]
  exact fun k hk => h k hk
theorem plc_first {M : Mo} {p k : Nat} (hk : k < mL M) (h : mQ M k = p) (hf : ∀ j, j < k → mQ M j ≠ p) : plc M p = some k := by
  simp only [plc, List.find?_range_eq_some, beq_iff_eq, List.mem_range, Bool.not_eq_true', beq_eq_false_iff_ne]
  exact ⟨h, hk, hf⟩
theorem plc_some {M : Mo} {p k : Nat} (h : plc M p = some k) : k < mL M ∧ mQ M k = p := by
  simp only [plc, List.find?_range_eq_some, beq_iff_eq, List.mem_range] at h
  exact ⟨h.2.1, h.1⟩
theorem plc_no {M : Mo} {p : Nat} (h : plc M p = none) : ∀ k, k < mL M → mQ M k ≠ p := by
  simp only [plc, List.find?_eq_none, List.mem_range, beq_iff_eq] at h
  exact fun k hk => h k hk
def rem (M : Mo) (k st : Nat) : Mo := (mG M, mL M - 1, (fun j => if j < k then mQ M j else mQ M (j + 1)), sf (mW M) (mQ M k) st, mP M, mD M)
def ins (M : Mo) (p k : Nat) : Mo := (mG M, mL M + 1, (fun j => if j < k then mQ M j else if j = k then p else mQ M (j - 1)), sf (mW M) p 0, mP M, mD M)
def wnt (F : Fo) (M : Mo) (p o : Nat) : Bool := if oK F p = 0 then decide (oW F o < oW F p) else if oK F p = 1 then false else if oK F p = 2 then true else decide (oW F o < oW F p) && decide (oW F p - oW F o ≤ mP M p)
def pst (F : Fo) (g : Nat) (M : Mo) (k : Nat) : Mo :=
  if g % oT F (mQ M k) = 0 ∧ wnt F M (mQ M k) (mQ M (k - 1)) = true then
    (mG M, mL M, sf (sf (mQ M) (k - 1) (mQ M k)) k (mQ M (k - 1)), mW M, mP M, sf (mD M) (7 * mQ M k + mQ M (k - 1)) (mD M (7 * mQ M k + mQ M (k - 1)) + (oW F (mQ M k) - oW F (mQ M (k - 1)))))
  else M
def pal (F : Fo) (g : Nat) (M : Mo) : Nat → Mo
  | 0 => M
  | j + 1 => pst F g (pal F g M j) (j + 1)
/-- a minute -/
def mnt (F : Fo) (push : Bool) (M : Mo) : Mo :=
  let M0 : Mo := (mG M + 1, M.2)
  let M1 : Mo := if push = true then pal F (mG M + 1) M0 (mL M - 1) else M0
  if 0 < mL M ∧ (mG M + 1) % oS F = 0 then rem M1 0 1 else M1
def mns (F : Fo) (M : Mo) : Nat → Mo
  | 0 => M
  | n + 1 => mnt F true (mns F M n)
/-- one lets another past -/
def letp (M : Mo) (p q : Nat) : Mo := match plc M p, plc M q with
  | some a, some b => ins (rem M b 2) q a
  | _, _ => M
def mayl (M : Mo) (p q : Nat) : Bool := match plc M p, plc M q with
  | some a, some b => decide (a < b)
  | _, _ => false
def pyb (M : Mo) (a b : Nat) : Nat := min (mD M (7 * a + b)) (mP M a)
def setl (M : Mo) (a b : Nat) : Mo :=
  (mG M, mL M, mQ M, mW M, (fun p => if p = b then sf (mP M) a (mP M a - pyb M a b) b + pyb M a b else sf (mP M) a (mP M a - pyb M a b) p), sf (mD M) (7 * a + b) (mD M (7 * a + b) - pyb M a b))
def dzf (D : Nat → Nat) (p : Nat) : Nat → Int
  | 0 => 0
  | q + 1 => dzf D p q + ((D (7 * q + p) : Int) - (D (7 * p + q) : Int))
def due (M : Mo) (p : Nat) : Int := dzf (mD M) p 7
def owf (D : Nat → Nat) : Nat → Nat
  | 0 => 0
  | i + 1 => owf D i + D i
def iZ (z : Int) : Int32 := Int32.ofInt z
def oOK (F : Fo) : Prop := oN F ≤ 7 ∧ (1 ≤ oS F ∧ oS F ≤ 9) ∧ ∀ p, p < oN F → oK F p ≤ 3 ∧ oW F p ≤ 20 ∧ 1 ≤ oT F p ∧ oT F p ≤ 9
def psum (f : Nat → Nat) : Nat := f 0 + f 1 + f 2 + f 3 + f 4 + f 5 + f 6
def mOK (n : Nat) (M : Mo) : Prop := mL M ≤ n ∧ n ≤ 7 ∧ (∀ k, k < mL M → mQ M k < n) ∧ (∀ i j, i < mL M → j < mL M → mQ M i = mQ M j → i = j) ∧ (∀ p, p < n → mW M p ≤ 2 ∧ (mW M p = 0 ↔ ∃ k, k < mL M ∧ mQ M k = p)) ∧ owf (mD M) 49 ≤ 2520 + 120 * mG M ∧ (∀ a, a < 7 → mD M (8 * a) = 0) ∧ psum (mP M) ≤ 420 ∧ mG M ≤ 2000
