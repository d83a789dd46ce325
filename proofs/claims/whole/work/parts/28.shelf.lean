/-! Shelf -/
def ShR (G : KG) (N : Nat) (w : WD) (a room num : Nat) (loc : Nat → Nat) (f : Nat → Option Nat) : Prop := Is N w a (ob 5 [.int (nI num), rf G (a + 1)]) ∧ Is N w (a + 1) (ra G room f) ∧ (∀ i, i < room → f i = some (ad G (loc i)) ∧ (∃ j, j < room ∧ loc i = a + 2 + 5 * j) ∧ ∃ (l wh pu db : Nat → Int32) (len gone : Nat), ScR G N w (loc i) l wh pu db len gone) ∧ ∀ i j, i < room → j < room → loc i = loc j → i = j
/-- a shelf of room scenes at the cells a .. a + 1 + 5 room; what lies on it, the lowest first -/
def ShM (G : KG) (N : Nat) (w : WD) (a room n : Nat) (L : List Mo) : Prop := ∃ (loc : Nat → Nat) (f : Nat → Option Nat), ShR G N w a room L.length loc f ∧ L.length ≤ room ∧ ∀ i, i < L.length → ScM G N w (loc i) n (L.getD i oM0)
theorem ShR.fr {G : KG} {N a room num : Nat} {w w1 : WD} {loc : Nat → Nat} {f : Nat → Option Nat} (h : ShR G N w a room num loc f) (hE : ∀ k, a ≤ k → k < a + 2 + 5 * room → w1 k = w k) : ShR G N w1 a room num loc f := by
  obtain ⟨h0, h1, h2, h3⟩ := h
  refine ⟨⟨h0.1, by rw [hE _ (by omega) (by omega)]; exact h0.2⟩, ⟨h1.1, by rw [hE _ (by omega) (by omega)]; exact h1.2⟩, fun i hi => ?_, h3⟩
  obtain ⟨g1, ⟨j, hj, e⟩, l, wh, pu, db, len, gone, g3⟩ := h2 i hi
  exact ⟨g1, ⟨j, hj, e⟩, l, wh, pu, db, len, gone, g3.fr (fun k _ _ => hE k (by omega) (by omega))⟩
theorem ShM.fr {G : KG} {N a room n lo hi : Nat} {w w1 : WD} {L : List Mo} (h : ShM G N w a room n L) (hE : Eqx w w1 lo hi) (hk : a + 2 + 5 * room ≤ lo ∨ hi ≤ a) : ShM G N w1 a room n L := by
  obtain ⟨loc, f, h1, h2, h3⟩ := h
  refine ⟨loc, f, h1.fr (fun k _ _ => hE k (by omega)), h2, fun i hi => ?_⟩
  obtain ⟨-, ⟨j, hj, e⟩, -⟩ := h1.2.2.1 i (by omega)
  exact (h3 i hi).fr hE (by omega)
theorem ShM.nil {G : KG} {N a room n n2 : Nat} {w : WD} (h : ShM G N w a room n []) : ShM G N w a room n2 [] := by
  obtain ⟨loc, f, h1, h2, -⟩ := h
  exact ⟨loc, f, h1, h2, fun i hi => absurd hi (Nat.not_lt_zero i)⟩
theorem c_X6_slotAt {G : KG} {N : Nat} {w : WD} {a room num i : Nat} {loc : Nat → Nat} {f : Nat → Option Nat} (h : ShR G N w a room num loc f) (hi : i < room) (hr : room < 100) : KCon G jX6_slotAt N w [rf G a, .int (nI i)] (fun r w1 => r = some (rf G (loc i)) ∧ w1 = w) := by
  obtain ⟨h0, h1, h2, h3⟩ := h
  refine KCon.of ([some (rf G a), some (.int (nI i))]) (by decide) rfl (by simp [Value.category]) (Nat.le_of_ble_eq_true rfl) rfl ?_
  refine k_iload_n 1 dX6_slotAt_0 rfl rfl rfl ?_
  refine k_if_ltN 22 4 dX6_slotAt_1 rfl rfl (by omega) (fun c => ?_) (fun c => ?_)
  · omega
  refine k_iload_n 5 dX6_slotAt_4 rfl rfl rfl ?_
  refine k_aload_n 6 dX6_slotAt_5 rfl rfl rfl ?_
  refine k_get 9 dX6_slotAt_6 rfl fX6_slotAt_15 (by (repeat (refine Is.ne ?_ (by omega))); first | assumption | exact Is.up (by omega)) (by rfl) ?_
  refine k_alenR 10 dX6_slotAt_9 rfl (by (repeat (refine Is.ne ?_ (by omega))); first | assumption | exact Is.up (by omega)) ?_
  refine k_icmp_geN 22 13 dX6_slotAt_10 rfl rfl (by omega) (by omega) (fun c => ?_) (fun c => ?_)
  · omega
  refine k_aload_n 14 dX6_slotAt_13 rfl rfl rfl ?_
  refine k_get 17 dX6_slotAt_14 rfl fX6_slotAt_15 (by (repeat (refine Is.ne ?_ (by omega))); first | assumption | exact Is.up (by omega)) (by rfl) ?_
  refine k_iload_n 18 dX6_slotAt_17 rfl rfl rfl ?_
  refine k_aald 19 dX6_slotAt_18 rfl (by (repeat (refine Is.ne ?_ (by omega))); first | assumption | exact Is.up (by omega)) (by omega) (by omega) ?_
  rw [(h2 i hi).1]
  refine k_tp (rf G (loc i)) rfl ?_
  refine k_goto 23 dX6_slotAt_19 rfl ?_
  refine k_aret dX6_slotAt_23 rfl (Or.inr ⟨_, rfl⟩) rfl (Nat.le_of_ble_eq_true rfl) ⟨rfl, rfl⟩
theorem c_X6_turn {G : KG} {N : Nat} {w : WD} {a room num : Nat} {loc : Nat → Nat} {f : Nat → Option Nat} (h : ShR G N w a room num loc f) (h0r : 0 < room) (hr : room < 100) : KCon G jX6_turn N w [rf G a] (fun r w1 => r = none ∧ ∃ f1 : Nat → Option Nat, w1 = va_up w (a + 1) (ra G room f1) ∧ ∀ i, i < room → f1 i = if i + 1 < room then f (i + 1) else f 0) := by
  have h9 := h
  obtain ⟨h0, h1, h2, h3⟩ := h9
  have hN := h1.1
  have sc : ∀ i, i < room → ∃ vs : List Value, Is N w (loc i) (ob 3 vs) ∧ a + 2 ≤ loc i := by
    intro i hi
    obtain ⟨-, ⟨j, hj, e⟩, l, wh, pu, db, len, gone, g3⟩ := h2 i hi
    exact ⟨_, g3.1, by omega⟩
  refine KCon.of ([some (rf G a), none, none]) (by decide) rfl (by simp [Value.category]) (Nat.le_of_ble_eq_true rfl) rfl ?_
  refine k_aload_n 1 dX6_turn_0 rfl rfl rfl ?_
  refine k_iconst (nI 0) 2 dX6_turn_1 rfl kc_0 ?_
  refine k_V1 (ci := 5) 5 dX6_turn_2 rfl vX6_turn_29 (by (repeat (refine Is.ne ?_ (by omega))); first | assumption | exact Is.up (by omega)) rfl rfl (Nat.le_of_ble_eq_true rfl) rfl ⟨Nat.le_of_ble_eq_true rfl, Nat.le_of_ble_eq_true rfl⟩ (c_X6_slotAt h h0r hr) (fun r9 w9 h9 => ?_)
  obtain ⟨h8, h9⟩ := h9
  subst h8
  have h9 := h9.symm
  subst h9
  refine k_astore_n _ 6 dX6_turn_5 rfl rfl (by decide) rfl rfl ?_
  refine k_iconst (nI 1) 7 dX6_turn_6 rfl kc_1 ?_
  refine k_istore_n _ 8 dX6_turn_7 rfl rfl (by decide) rfl rfl ?_
  have loop : ∀ d i (f1 : Nat → Option Nat), i + d = room → 1 ≤ i → (∀ j, j < room → f1 j = if j + 1 < i then f (j + 1) else f j) → KRun G jX6_turn N (fun r w1 => r = none ∧ ∃ f1 : Nat → Option Nat, w1 = va_up w (a + 1) (ra G room f1) ∧ ∀ i, i < room → f1 i = if i + 1 < room then f (i + 1) else f 0) 8 [some (rf G a), some (rf G (loc 0)), some (.int (nI i))] [] 0 0 (va_up w (a + 1) (ra G room f1)) := by
    intro d
    induction d with
    | zero =>
      intro i f1 hi hi1 hf
      refine k_iload_n 9 dX6_turn_8 rfl rfl rfl ?_
      refine k_aload_n 10 dX6_turn_9 rfl rfl rfl ?_
      refine k_get 13 dX6_turn_10 rfl fX6_turn_15 (by (repeat (refine Is.ne ?_ (by omega))); first | assumption | exact Is.up (by omega)) (by rfl) ?_
      refine k_alenR 14 dX6_turn_13 rfl (by (repeat (refine Is.ne ?_ (by omega))); first | assumption | exact Is.up (by omega)) ?_
      refine k_icmp_geN 37 17 dX6_turn_14 rfl rfl (by omega) (by omega) (fun c => ?_) (fun c => ?_)
      · refine k_aload_n 38 dX6_turn_37 rfl rfl rfl ?_
        refine k_get 41 dX6_turn_38 rfl fX6_turn_15 (by (repeat (refine Is.ne ?_ (by omega))); first | assumption | exact Is.up (by omega)) (by rfl) ?_
        refine k_alenR 42 dX6_turn_41 rfl (by (repeat (refine Is.ne ?_ (by omega))); first | assumption | exact Is.up (by omega)) ?_
        refine k_if_leN 58 45 dX6_turn_42 rfl rfl (by omega) (fun c => ?_) (fun c => ?_)
        · omega
        · refine k_aload_n 46 dX6_turn_45 rfl rfl rfl ?_
          refine k_get 49 dX6_turn_46 rfl fX6_turn_15 (by (repeat (refine Is.ne ?_ (by omega))); first | assumption | exact Is.up (by omega)) (by rfl) ?_
          refine k_aload_n 50 dX6_turn_49 rfl rfl rfl ?_
          refine k_get 53 dX6_turn_50 rfl fX6_turn_15 (by (repeat (refine Is.ne ?_ (by omega))); first | assumption | exact Is.up (by omega)) (by rfl) ?_
          refine k_alenR 54 dX6_turn_53 rfl (by (repeat (refine Is.ne ?_ (by omega))); first | assumption | exact Is.up (by omega)) ?_
          refine k_iconst (nI 1) 55 dX6_turn_54 rfl kc_1 ?_
          first | refine k_isubE _ 56 dX6_turn_55 rfl (pk_sub (by omega)) ?_ | refine k_isub 56 dX6_turn_55 rfl ?_
          refine k_aload_n 57 dX6_turn_56 rfl rfl rfl ?_
          obtain ⟨vs, hv, hva⟩ := sc 0 h0r
          refine k_aast 58 dX6_turn_57 rfl (by (repeat (refine Is.ne ?_ (by omega))); first | assumption | exact Is.up (by omega)) (by (repeat (refine Is.ne ?_ (by omega))); first | assumption | exact Is.up (by omega)) (by omega) (by omega) ?_
          rw [va_up_up]
          refine k_vret dX6_turn_58 rfl rfl (Nat.le_of_ble_eq_true rfl) ⟨rfl, _, rfl, fun j hj => ?_⟩
          by_cases e : j = room - 1
          · subst e
            rw [va_up_self, if_neg (by omega), (h2 0 h0r).1]
          · rw [va_up_ne _ _ e, hf j hj, if_pos (by omega), if_pos (by omega)]
      · omega
    | succ d ih =>
      intro i f1 hi hi1 hf
      refine k_iload_n 9 dX6_turn_8 rfl rfl rfl ?_
      refine k_aload_n 10 dX6_turn_9 rfl rfl rfl ?_
      refine k_get 13 dX6_turn_10 rfl fX6_turn_15 (by (repeat (refine Is.ne ?_ (by omega))); first | assumption | exact Is.up (by omega)) (by rfl) ?_
      refine k_alenR 14 dX6_turn_13 rfl (by (repeat (refine Is.ne ?_ (by omega))); first | assumption | exact Is.up (by omega)) ?_
      refine k_icmp_geN 37 17 dX6_turn_14 rfl rfl (by omega) (by omega) (fun c => ?_) (fun c => ?_)
      · omega
      · refine k_aload_n 18 dX6_turn_17 rfl rfl rfl ?_
        refine k_get 21 dX6_turn_18 rfl fX6_turn_15 (by (repeat (refine Is.ne ?_ (by omega))); first | assumption | exact Is.up (by omega)) (by rfl) ?_
        refine k_iload_n 22 dX6_turn_21 rfl rfl rfl ?_
        refine k_iconst (nI 1) 23 dX6_turn_22 rfl kc_1 ?_
        first | refine k_isubE _ 24 dX6_turn_23 rfl (pk_sub (by omega)) ?_ | refine k_isub 24 dX6_turn_23 rfl ?_
        refine k_aload_n 25 dX6_turn_24 rfl rfl rfl ?_
        refine k_get 28 dX6_turn_25 rfl fX6_turn_15 (by (repeat (refine Is.ne ?_ (by omega))); first | assumption | exact Is.up (by omega)) (by rfl) ?_
        refine k_iload_n 29 dX6_turn_28 rfl rfl rfl ?_
        refine k_aald 30 dX6_turn_29 rfl (by (repeat (refine Is.ne ?_ (by omega))); first | assumption | exact Is.up (by omega)) (by omega) (by omega) ?_
        have e1 : f1 i = some (ad G (loc i)) := by
          rw [hf i (by omega), if_neg (by omega)]
          exact (h2 i (by omega)).1
        rw [e1]
        refine k_tp (rf G (loc i)) rfl ?_
        obtain ⟨vs, hv, hva⟩ := sc i (by omega)
        refine k_aast 31 dX6_turn_30 rfl (by (repeat (refine Is.ne ?_ (by omega))); first | assumption | exact Is.up (by omega)) (by (repeat (refine Is.ne ?_ (by omega))); first | assumption | exact Is.up (by omega)) (by omega) (by omega) ?_
        rw [va_up_up]
        refine k_iinc _ _ 34 dX6_turn_31 rfl rfl (nI_inc _) (by decide) rfl rfl ?_
        refine k_goto 8 dX6_turn_34 rfl ?_
        refine ih (i + 1) _ (by omega) (by omega) (fun j hj => ?_)
        by_cases e : j = i - 1
        · subst e
          rw [va_up_self, if_pos (by omega), show i - 1 + 1 = i by omega, (h2 i (by omega)).1]
        · rw [va_up_ne _ _ e, hf j hj]
          by_cases e2 : j + 1 < i
          · rw [if_pos e2, if_pos (by omega)]
          · rw [if_neg e2, if_neg (by omega)]
  refine k_wd (va_up_eq h1.2).symm ?_
  exact loop (room - 1) 1 f (by omega) (by omega) (fun j hj => by rw [if_neg (by omega)])
/-- what a push leaves -/
def pshM (room : Nat) (L : List Mo) (M : Mo) : List Mo := (if L.length = room then L.drop 1 else L) ++ [M]
theorem c_X6_push {G : KG} {N : Nat} {w : WD} {a b room n : Nat} {L : List Mo} {M : Mo} (h : ShM G N w a room n L) (hM : ScM G N w b n M) (hab : b + 5 ≤ a) (h0r : 0 < room) (hr : room < 100) (hn : n ≤ 7) (hL : mL M ≤ 7) : KCon G jX6_push N w [rf G a, rf G b] (fun r w1 => r = none ∧ ShM G N w1 a room n (pshM room L M) ∧ Eqx w w1 a (a + 2 + 5 * room)) := by
  obtain ⟨loc, f, hR, hle, hS⟩ := h
  refine KCon.of ([some (rf G a), some (rf G b), none]) (by decide) rfl (by simp [Value.category]) (Nat.le_of_ble_eq_true rfl) rfl ?_
  have tail : ∀ (w1 : WD) (L1 : List Mo) (loc : Nat → Nat) (f : Nat → Option Nat), ShR G N w1 a room L1.length loc f → L1.length < room → (∀ i, i < L1.length → ScM G N w1 (loc i) n (L1.getD i oM0)) → ScM G N w1 b n M → Eqx w w1 a (a + 2 + 5 * room) → L1 ++ [M] = pshM room L M → KRun G jX6_push N (fun r w1 => r = none ∧ ShM G N w1 a room n (pshM room L M) ∧ Eqx w w1 a (a + 2 + 5 * room)) 27 [some (rf G a), some (rf G b), none] [] 0 0 w1 := by
    intro w1 L1 loc f hR hlt hS hM hE hLL
    have hR9 := hR
    obtain ⟨h0, h1, h2, h3⟩ := hR9
    obtain ⟨-, ⟨j, hj, e⟩, l, wh, pu, db, len, gone, g3⟩ := h2 L1.length hlt
    refine k_aload_n 28 dX6_push_27 rfl rfl rfl ?_
    refine k_aload_n 29 dX6_push_28 rfl rfl rfl ?_
    refine k_get 32 dX6_push_29 rfl fX6_push_22 (by (repeat (refine Is.ne ?_ (by omega))); first | assumption | exact Is.up (by omega)) (by rfl) ?_
    refine k_V1 (ci := 5) 35 dX6_push_32 rfl vX6_push_29 (by (repeat (refine Is.ne ?_ (by omega))); first | assumption | exact Is.up (by omega)) rfl rfl (Nat.le_of_ble_eq_true rfl) rfl ⟨Nat.le_of_ble_eq_true rfl, Nat.le_of_ble_eq_true rfl⟩ (c_X6_slotAt hR hlt hr) (fun r9 w9 h9 => ?_)
    obtain ⟨h8, h9⟩ := h9
    subst h8
    have h9 := h9.symm
    subst h9
    refine k_tp (rf G (loc L1.length)) rfl ?_
    refine k_astore_n _ 36 dX6_push_35 rfl rfl (by decide) rfl rfl ?_
    refine k_aload_n 37 dX6_push_36 rfl rfl rfl ?_
    refine k_ifnull 40 dX6_push_37 rfl ?_
    have g0 := g3.1
    refine k_aload_n 41 dX6_push_40 rfl rfl rfl ?_
    refine k_aload_n 42 dX6_push_41 rfl rfl rfl ?_
    refine k_V1 (ci := 3) 45 dX6_push_42 rfl vX6_push_33 (by (repeat (refine Is.ne ?_ (by omega))); first | assumption | exact Is.up (by omega)) rfl rfl (Nat.le_of_ble_eq_true rfl) rfl ⟨Nat.le_of_ble_eq_true rfl, Nat.le_of_ble_eq_true rfl⟩ (c_X4_copyFrom g3 hM (by omega) hn hL) (fun r2 w2 x2 => ?_)
    obtain ⟨rfl, hM2, hE2⟩ := x2
    have h02 := h0.eqx hE2 (by omega)
    have h12 := h1.eqx hE2 (by omega)
    have hN := h12.1
    refine k_aload_n 46 dX6_push_45 rfl rfl rfl ?_
    refine k_dup 47 dX6_push_46 rfl rfl ?_
    refine k_get 50 dX6_push_47 rfl fX6_push_22 (by (repeat (refine Is.ne ?_ (by omega))); first | assumption | exact Is.up (by omega)) (by rfl) ?_
    refine k_iconst (nI 1) 51 dX6_push_50 rfl kc_1 ?_
    first | refine k_iaddE _ 52 dX6_push_51 rfl (nI_add _ _) ?_ | refine k_iadd 52 dX6_push_51 rfl ?_
    refine k_put 55 dX6_push_52 rfl pX6_push_22 (by (repeat (refine Is.ne ?_ (by omega))); first | assumption | exact Is.up (by omega)) (Nat.le_of_ble_eq_true rfl) rfl rfl ?_
    refine k_nm (fun w3 hw3 => ?_)
    have hE3 : Eqx w2 w3 a (a + 1) := by
      rw [hw3]
      exact (by (repeat (refine Eqx.up ?_ (by omega) (by omega))); first | exact Eqx.rf | assumption)
    have h03 : Is N w3 a (ob 5 [.int (nI (L1.length + 1)), rf G (a + 1)]) := by
      rw [hw3]
      exact (by (repeat (refine Is.ne ?_ (by omega))); first | assumption | exact Is.up (by omega))
    clear hw3
    refine k_vret dX6_push_55 rfl rfl (Nat.le_of_ble_eq_true rfl) ⟨rfl, ?_, (hE.tr (hE2.wd (by omega) (by omega))).tr (hE3.wd (by omega) (by omega))⟩
    rw [← hLL]
    refine ⟨loc, f, ⟨by rw [List.length_append]; exact h03, h12.eqx hE3 (by omega), fun i hi => ?_, h3⟩, by rw [List.length_append]; exact hlt, fun i hi => ?_⟩
    · obtain ⟨k1, ⟨j1, hj1, e1⟩, l1, wh1, pu1, db1, len1, gone1, k3⟩ := h2 i hi
      refine ⟨k1, ⟨j1, hj1, e1⟩, ?_⟩
      by_cases hii : i = L1.length
      · subst hii
        obtain ⟨l4, wh4, pu4, db4, k4, -⟩ := hM2
        exact ⟨l4, wh4, pu4, db4, _, _, k4.fr (fun k _ _ => hE3 k (by omega))⟩
      · have hne : loc i ≠ loc L1.length := fun z => hii (h3 i L1.length hi hlt z)
        exact ⟨l1, wh1, pu1, db1, len1, gone1, (k3.fr (w1 := w2) (fun k _ _ => hE2 k (by omega))).fr (fun k _ _ => hE3 k (by omega))⟩
    · rw [List.length_append] at hi
      have hi : i < L1.length + 1 := hi
      obtain ⟨k1, ⟨j1, hj1, e1⟩, -⟩ := h2 i (by omega)
      by_cases hii : i = L1.length
      · subst hii
        have e5 : (L1 ++ [M]).getD L1.length oM0 = M := by simp
        rw [e5]
        exact hM2.fr hE3 (by omega)
      · have hne : loc i ≠ loc L1.length := fun z => hii (h3 i L1.length (by omega) hlt z)
        have e5 : (L1 ++ [M]).getD i oM0 = L1.getD i oM0 := by
          simp [List.getElem?_append, show i < L1.length by omega]
        rw [e5]
        exact ((hS i (by omega)).fr hE2 (by omega)).fr hE3 (by omega)
  have hR9 := hR
  obtain ⟨h0, h1, h2, h3⟩ := hR9
  have hN := h1.1
  refine k_aload_n 1 dX6_push_0 rfl rfl rfl ?_
  refine k_get 4 dX6_push_1 rfl fX6_push_22 (by (repeat (refine Is.ne ?_ (by omega))); first | assumption | exact Is.up (by omega)) (by rfl) ?_
  refine k_aload_n 5 dX6_push_4 rfl rfl rfl ?_
  refine k_get 8 dX6_push_5 rfl fX6_push_15 (by (repeat (refine Is.ne ?_ (by omega))); first | assumption | exact Is.up (by omega)) (by rfl) ?_
  refine k_alenR 9 dX6_push_8 rfl (by (repeat (refine Is.ne ?_ (by omega))); first | assumption | exact Is.up (by omega)) ?_
  refine k_icmp_ltN 27 12 dX6_push_9 rfl rfl (by omega) (by omega) (fun c => ?_) (fun c => ?_)
  · exact tail w L loc f hR (by omega) hS hM Eqx.rf (by simp [pshM]; omega)
  · refine k_aload_n 13 dX6_push_12 rfl rfl rfl ?_
    refine k_V0 (ci := 5) 16 dX6_push_13 rfl vX6_push_26 (by (repeat (refine Is.ne ?_ (by omega))); first | assumption | exact Is.up (by omega)) rfl rfl (Nat.le_of_ble_eq_true rfl) rfl ⟨Nat.le_of_ble_eq_true rfl, Nat.le_of_ble_eq_true rfl⟩ (c_X6_turn hR h0r hr) (fun r1 w1 x1 => ?_)
    obtain ⟨rfl, f1, hw1, hf1⟩ := x1
    subst hw1
    refine k_aload_n 17 dX6_push_16 rfl rfl rfl ?_
    refine k_aload_n 18 dX6_push_17 rfl rfl rfl ?_
    refine k_get 21 dX6_push_18 rfl fX6_push_15 (by (repeat (refine Is.ne ?_ (by omega))); first | assumption | exact Is.up (by omega)) (by rfl) ?_
    refine k_alenR 22 dX6_push_21 rfl (by (repeat (refine Is.ne ?_ (by omega))); first | assumption | exact Is.up (by omega)) ?_
    refine k_iconst (nI 1) 23 dX6_push_22 rfl kc_1 ?_
    first | refine k_isubE _ 24 dX6_push_23 rfl (pk_sub (by omega)) ?_ | refine k_isub 24 dX6_push_23 rfl ?_
    refine k_put 27 dX6_push_24 rfl pX6_push_22 (by (repeat (refine Is.ne ?_ (by omega))); first | assumption | exact Is.up (by omega)) (Nat.le_of_ble_eq_true rfl) rfl rfl ?_
    refine k_nm (fun w3 hw3 => ?_)
    have hE3 : Eqx w w3 a (a + 2) := by
      rw [hw3]
      exact (by (repeat (refine Eqx.up ?_ (by omega) (by omega))); first | exact Eqx.rf | assumption)
    have h03 : Is N w3 a (ob 5 [.int (nI (room - 1)), rf G (a + 1)]) := by
      rw [hw3]
      exact (by (repeat (refine Is.ne ?_ (by omega))); first | assumption | exact Is.up (by omega))
    have h13 : Is N w3 (a + 1) (ra G room f1) := by
      rw [hw3]
      exact (by (repeat (refine Is.ne ?_ (by omega))); first | assumption | exact Is.up (by omega))
    clear hw3
    have hlen : (L.drop 1).length = room - 1 := by
      rw [List.length_drop]
      omega
    refine tail w3 (L.drop 1) (fun i => if i + 1 < room then loc (i + 1) else loc 0) f1 ⟨by rw [hlen]; exact h03, h13, fun i hi => ?_, fun i j hi hj e => ?_⟩ (by omega) (fun i hi => ?_) (hM.fr hE3 (by omega)) (hE3.wd (by omega) (by omega)) (by unfold pshM; rw [if_pos (by omega)])
    · rw [hf1 i hi]
      by_cases e : i + 1 < room
      · obtain ⟨k1, ⟨j1, hj1, e1⟩, l1, wh1, pu1, db1, len1, gone1, k3⟩ := h2 (i + 1) e
        rw [if_pos e]
        try dsimp only
        rw [if_pos e]
        exact ⟨k1, ⟨j1, hj1, e1⟩, l1, wh1, pu1, db1, len1, gone1, k3.fr (fun k _ _ => hE3 k (by omega))⟩
      · obtain ⟨k1, ⟨j1, hj1, e1⟩, l1, wh1, pu1, db1, len1, gone1, k3⟩ := h2 0 h0r
        rw [if_neg e]
        try dsimp only
        rw [if_neg e]
        exact ⟨k1, ⟨j1, hj1, e1⟩, l1, wh1, pu1, db1, len1, gone1, k3.fr (fun k _ _ => hE3 k (by omega))⟩
    · try dsimp only at e
      split at e <;> split at e
      · have := h3 _ _ (by omega) (by omega) e
        omega
      · have := h3 _ _ (by omega) (by omega) e
        omega
      · have := h3 _ _ (by omega) (by omega) e
        omega
      · omega
    · rw [hlen] at hi
      try dsimp only
      rw [if_pos (by omega)]
      obtain ⟨k1, ⟨j1, hj1, e1⟩, -⟩ := h2 (i + 1) (by omega)
      have e5 : (L.drop 1).getD i oM0 = L.getD (i + 1) oM0 := by
        simp [Nat.add_comm]
      rw [e5]
      exact (hS (i + 1) (by omega)).fr hE3 (by omega)
theorem c_X6_popInto {G : KG} {N : Nat} {w : WD} {a b room n L0 g0 : Nat} {l0 wh0 pu0 db0 : Nat → Int32} {L : List Mo} {M : Mo} (h : ShM G N w a room n (L ++ [M])) (hb : ScR G N w b l0 wh0 pu0 db0 L0 g0) (hab : b + 5 ≤ a) (hr : room < 100) (hn : n ≤ 7) (hL : mL M ≤ 7) : KCon G jX6_popInto N w [rf G a, rf G b] (fun r w1 => r = none ∧ ShM G N w1 a room n L ∧ ScM G N w1 b n M ∧ ∀ k, k ≠ a → (k < b ∨ b + 5 ≤ k) → w1 k = w k) := by
  obtain ⟨loc, f, hR, hle, hS⟩ := h
  have hlen : (L ++ [M]).length = L.length + 1 := by simp
  rw [hlen] at hR hle hS
  have hR9 := hR
  obtain ⟨h0, h1, h2, h3⟩ := hR9
  have hN := h1.1
  obtain ⟨-, ⟨j, hj, e⟩, -⟩ := h2 L.length (by omega)
  have hM := hS L.length (by omega)
  have e5 : (L ++ [M]).getD L.length oM0 = M := by simp
  rw [e5] at hM
  have b0 := hb.1
  refine KCon.of ([some (rf G a), some (rf G b), none]) (by decide) rfl (by simp [Value.category]) (Nat.le_of_ble_eq_true rfl) rfl ?_
  refine k_aload_n 1 dX6_popInto_0 rfl rfl rfl ?_
  refine k_aload_n 2 dX6_popInto_1 rfl rfl rfl ?_
  refine k_get 5 dX6_popInto_2 rfl fX6_popInto_22 (by (repeat (refine Is.ne ?_ (by omega))); first | assumption | exact Is.up (by omega)) (by rfl) ?_
  refine k_iconst (nI 1) 6 dX6_popInto_5 rfl kc_1 ?_
  first | refine k_isubE _ 7 dX6_popInto_6 rfl (pk_sub (by omega)) ?_ | refine k_isub 7 dX6_popInto_6 rfl ?_
  refine k_V1 (ci := 5) 10 dX6_popInto_7 rfl vX6_popInto_29 (by (repeat (refine Is.ne ?_ (by omega))); first | assumption | exact Is.up (by omega)) rfl rfl (Nat.le_of_ble_eq_true rfl) rfl ⟨Nat.le_of_ble_eq_true rfl, Nat.le_of_ble_eq_true rfl⟩ (c_X6_slotAt hR (by omega) hr) (fun r9 w9 h9 => ?_)
  obtain ⟨h8, h9⟩ := h9
  subst h8
  have h9 := h9.symm
  subst h9
  rw [show L.length + 1 - 1 = L.length from rfl]
  refine k_tp (rf G (loc L.length)) rfl ?_
  refine k_astore_n _ 11 dX6_popInto_10 rfl rfl (by decide) rfl rfl ?_
  refine k_aload_n 12 dX6_popInto_11 rfl rfl rfl ?_
  refine k_ifnull 15 dX6_popInto_12 rfl ?_
  refine k_aload_n 16 dX6_popInto_15 rfl rfl rfl ?_
  refine k_aload_n 17 dX6_popInto_16 rfl rfl rfl ?_
  refine k_V1 (ci := 3) 20 dX6_popInto_17 rfl vX6_popInto_33 (by (repeat (refine Is.ne ?_ (by omega))); first | assumption | exact Is.up (by omega)) rfl rfl (Nat.le_of_ble_eq_true rfl) rfl ⟨Nat.le_of_ble_eq_true rfl, Nat.le_of_ble_eq_true rfl⟩ (c_X4_copyFrom hb hM (by omega) hn hL) (fun r2 w2 x2 => ?_)
  obtain ⟨rfl, hM2, hE2⟩ := x2
  have h02 := h0.eqx hE2 (by omega)
  have h12 := h1.eqx hE2 (by omega)
  refine k_aload_n 21 dX6_popInto_20 rfl rfl rfl ?_
  refine k_dup 22 dX6_popInto_21 rfl rfl ?_
  refine k_get 25 dX6_popInto_22 rfl fX6_popInto_22 (by (repeat (refine Is.ne ?_ (by omega))); first | assumption | exact Is.up (by omega)) (by rfl) ?_
  refine k_iconst (nI 1) 26 dX6_popInto_25 rfl kc_1 ?_
  first | refine k_isubE _ 27 dX6_popInto_26 rfl (pk_sub (by omega)) ?_ | refine k_isub 27 dX6_popInto_26 rfl ?_
  refine k_put 30 dX6_popInto_27 rfl pX6_popInto_22 (by (repeat (refine Is.ne ?_ (by omega))); first | assumption | exact Is.up (by omega)) (Nat.le_of_ble_eq_true rfl) rfl rfl ?_
  refine k_nm (fun w3 hw3 => ?_)
  have hE3 : Eqx w2 w3 a (a + 1) := by
    rw [hw3]
    exact (by (repeat (refine Eqx.up ?_ (by omega) (by omega))); first | exact Eqx.rf | assumption)
  have h03 : Is N w3 a (ob 5 [.int (nI L.length), rf G (a + 1)]) := by
    rw [hw3]
    exact (by (repeat (refine Is.ne ?_ (by omega))); first | assumption | exact Is.up (by omega))
  clear hw3
  refine k_vret dX6_popInto_30 rfl rfl (Nat.le_of_ble_eq_true rfl) ⟨rfl, ⟨loc, f, ⟨h03, h12.eqx hE3 (by omega), fun i hi => ?_, h3⟩, by omega, fun i hi => ?_⟩, hM2.fr hE3 (by omega), fun k hk1 hk2 => (hE3 k (by omega)).trans (hE2 k hk2)⟩
  · obtain ⟨k1, ⟨j1, hj1, e1⟩, l1, wh1, pu1, db1, len1, gone1, k3⟩ := h2 i hi
    exact ⟨k1, ⟨j1, hj1, e1⟩, l1, wh1, pu1, db1, len1, gone1, (k3.fr (w1 := w2) (fun k _ _ => hE2 k (by omega))).fr (fun k _ _ => hE3 k (by omega))⟩
  · obtain ⟨k1, ⟨j1, hj1, e1⟩, -⟩ := h2 i (by omega)
    have e6 : (L ++ [M]).getD i oM0 = L.getD i oM0 := by
      simp [List.getElem?_append, hi]
    have := hS i (by omega)
    rw [e6] at this
    exact (this.fr hE2 (by omega)).fr hE3 (by omega)
