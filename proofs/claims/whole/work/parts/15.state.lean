/-! what the cells say of a queue -/
def Eqx (w w1 : WD) (lo hi : Nat) : Prop := ∀ k, k < lo ∨ hi ≤ k → w1 k = w k
theorem Eqx.rf {w : WD} {lo hi : Nat} : Eqx w w lo hi := fun _ _ => rfl
theorem Eqx.tr {w w1 w2 : WD} {lo hi : Nat} (h : Eqx w w1 lo hi) (h2 : Eqx w1 w2 lo hi) : Eqx w w2 lo hi := fun k hk => (h2 k hk).trans (h k hk)
theorem Eqx.wd {w w1 : WD} {lo hi lo2 hi2 : Nat} (h : Eqx w w1 lo hi) (h1 : lo2 ≤ lo) (h2 : hi ≤ hi2) : Eqx w w1 lo2 hi2 := fun k hk => h k (by omega)
theorem Eqx.up {w w1 : WD} {lo hi k : Nat} {e : va_E} (h : Eqx w w1 lo hi) (h1 : lo ≤ k) (h2 : k < hi) : Eqx w (va_up w1 k e) lo hi := fun j hj => by
  rw [va_up_ne _ _ (by omega)]
  exact h j hj
theorem Is.eqx {N k lo hi : Nat} {w w1 : WD} {e : va_E} (h : Is N w k e) (hE : Eqx w w1 lo hi) (hk : k < lo ∨ hi ≤ k) : Is N w1 k e := ⟨h.1, by rw [hE k hk]; exact h.2⟩
theorem va_up_up {w : WD} {k : Nat} {e e1 : va_E} : va_up (va_up w k e) k e1 = va_up w k e1 := by
  funext j
  simp only [va_up]
  split <;> rfl
theorem va_up_eq {w : WD} {k : Nat} {e : va_E} (h : w k = e) : va_up w k e = w := by
  funext j
  simp only [va_up]
  split
  · next h1 => rw [h1, h]
  · rfl
def FkR (G : KG) (N : Nat) (w : WD) (a : Nat) (kd wo pe : Nat → Int32) (num se : Nat) : Prop := Is N w a (ob 1 [rf G (a + 1), rf G (a + 2), rf G (a + 3), .int (nI num), .int (nI se)]) ∧ Is N w (a + 1) (ia G 7 kd) ∧ Is N w (a + 2) (ia G 7 wo) ∧ Is N w (a + 3) (ia G 7 pe)
/-- the persons that are told, at the cells a .. a + 3 -/
def FkM (G : KG) (N : Nat) (w : WD) (a : Nat) (F : Fo) : Prop := ∃ kd wo pe : Nat → Int32, FkR G N w a kd wo pe (oN F) (oS F) ∧ ∀ p, p < oN F → kd p = nI (oK F p) ∧ wo p = nI (oW F p) ∧ pe p = nI (oT F p)
def ScR (G : KG) (N : Nat) (w : WD) (a : Nat) (l wh pu db : Nat → Int32) (len gone : Nat) : Prop := Is N w a (ob 3 [rf G (a + 1), rf G (a + 2), rf G (a + 3), rf G (a + 4), .int (nI len), .int (nI gone)]) ∧ Is N w (a + 1) (ia G 7 l) ∧ Is N w (a + 2) (ia G 7 wh) ∧ Is N w (a + 3) (ia G 7 pu) ∧ Is N w (a + 4) (ia G 49 db)
/-- a queue of n persons at the cells a .. a + 4 -/
def ScM (G : KG) (N : Nat) (w : WD) (a n : Nat) (M : Mo) : Prop := ∃ l wh pu db : Nat → Int32, ScR G N w a l wh pu db (mL M) (mG M) ∧ (∀ k, k < mL M → l k = nI (mQ M k)) ∧ (∀ p, p < n → wh p = nI (mW M p)) ∧ (∀ p, p < n → pu p = nI (mP M p)) ∧ (∀ i, i < 49 → db i = nI (mD M i))
theorem FkR.fr {G : KG} {N a : Nat} {w w1 : WD} {kd wo pe : Nat → Int32} {num se : Nat} (h : FkR G N w a kd wo pe num se) (hE : ∀ k, a ≤ k → k < a + 4 → w1 k = w k) : FkR G N w1 a kd wo pe num se :=
  ⟨⟨h.1.1, by rw [hE _ (by omega) (by omega)]; exact h.1.2⟩, ⟨h.2.1.1, by rw [hE _ (by omega) (by omega)]; exact h.2.1.2⟩, ⟨h.2.2.1.1, by rw [hE _ (by omega) (by omega)]; exact h.2.2.1.2⟩, ⟨h.2.2.2.1, by rw [hE _ (by omega) (by omega)]; exact h.2.2.2.2⟩⟩
theorem FkM.fr {G : KG} {N a lo hi : Nat} {w w1 : WD} {F : Fo} (h : FkM G N w a F) (hE : Eqx w w1 lo hi) (hk : a + 4 ≤ lo ∨ hi ≤ a) : FkM G N w1 a F := by
  obtain ⟨kd, wo, pe, h1, h2⟩ := h
  exact ⟨kd, wo, pe, h1.fr (fun k _ _ => hE k (by omega)), h2⟩
theorem ScR.fr {G : KG} {N a : Nat} {w w1 : WD} {l wh pu db : Nat → Int32} {len gone : Nat} (h : ScR G N w a l wh pu db len gone) (hE : ∀ k, a ≤ k → k < a + 5 → w1 k = w k) : ScR G N w1 a l wh pu db len gone :=
  ⟨⟨h.1.1, by rw [hE _ (by omega) (by omega)]; exact h.1.2⟩, ⟨h.2.1.1, by rw [hE _ (by omega) (by omega)]; exact h.2.1.2⟩, ⟨h.2.2.1.1, by rw [hE _ (by omega) (by omega)]; exact h.2.2.1.2⟩, ⟨h.2.2.2.1.1, by rw [hE _ (by omega) (by omega)]; exact h.2.2.2.1.2⟩, ⟨h.2.2.2.2.1, by rw [hE _ (by omega) (by omega)]; exact h.2.2.2.2.2⟩⟩
theorem ScM.fr {G : KG} {N a n lo hi : Nat} {w w1 : WD} {M : Mo} (h : ScM G N w a n M) (hE : Eqx w w1 lo hi) (hk : a + 5 ≤ lo ∨ hi ≤ a) : ScM G N w1 a n M := by
  obtain ⟨l, wh, pu, db, h1, h2⟩ := h
  exact ⟨l, wh, pu, db, h1.fr (fun k _ _ => hE k (by omega)), h2⟩
theorem upd_s (f : Nat → Int32) (k : Nat) (x : Int32) : upd f k x k = x := by simp [upd]
theorem upd_n (f : Nat → Int32) {k j : Nat} (x : Int32) (h : j ≠ k) : upd f k x j = f j := by simp [upd, h]
theorem cpy0 (f g : Nat → Int32) {n k : Nat} (h : k < n) : va_cpy f g 0 0 n k = f k := by simp [va_cpy, h]
theorem iZ_add (a b : Int) : iZ a + iZ b = iZ (a + b) := (Int32.ofInt_add a b).symm
theorem iZ_sub (a b : Int) : iZ a - iZ b = iZ (a - b) := (Int32.ofInt_sub a b).symm
theorem iZ_nat (n : Nat) : iZ (n : Int) = nI n := by
  first | exact Int32.ofInt_eq_ofNat | exact (Int32.ofInt_natCast n) | exact Int32.toBitVec_inj.mp (by simp [iZ, nI])
theorem KCon.imp {G : KG} {J : KJ} {N : Nat} {w : WD} {As : List Value} {P Q : Option Value → WD → Prop} (h : KCon G J N w As P) (hi : ∀ r w1, P r w1 → Q r w1) : KCon G J N w As Q := by
  intro l p e ha hc hk s m args below hf hr hP hK
  obtain ⟨k, o, h1, h2, h3, ⟨⟨v, w1, g1, g2, g3⟩, hF⟩, h5⟩ := h l p e ha hc hk s m args below hf hr hP hK
  exact ⟨k, o, h1, h2, h3, ⟨⟨v, w1, g1, hi v w1 g2, g3⟩, hF⟩, h5⟩
