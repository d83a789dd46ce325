/-! KerbQueueModel: its cells, what they say, what is read -/
def MdX (G : KG) (b : Nat) (ty kn ke no at_ : Value) : va_E := ob 8 [rf G (b + 1), ty, rf G (b + 2), rf G (b + 3), rf G (b + 4), rf G (b + 5), rf G (b + 6), kn, rf G (b + 7), ke, rf G (b + 8), no, at_, rf G (b + 9), rf G (b + 10), rf G (b + 11), rf G (b + 12)]
/-- the cells b .. b + 12 -/
def RsC (G : KG) (N : Nat) (w : WD) (b ty kn ke no : Nat) (at_ : Value) (tx to_ dr be s pa im nt ah sd gr ro : Nat → Int32) : Prop := Is N w b (ob 8 [rf G (b + 1), .int (nI ty), rf G (b + 2), rf G (b + 3), rf G (b + 4), rf G (b + 5), rf G (b + 6), .int (nI kn), rf G (b + 7), .int (nI ke), rf G (b + 8), .int (nI no), at_, rf G (b + 9), rf G (b + 10), rf G (b + 11), rf G (b + 12)]) ∧ Is N w (b + 1) (ia G 200 tx) ∧ Is N w (b + 2) (ia G 23 to_) ∧ Is N w (b + 3) (ia G 23 dr) ∧ Is N w (b + 4) (ia G 72 be) ∧ Is N w (b + 5) (ia G 72 s) ∧ Is N w (b + 6) (ia G 576 pa) ∧ Is N w (b + 7) (ia G 144 im) ∧ Is N w (b + 8) (ia G 18 nt) ∧ Is N w (b + 9) (ia G 7 ah) ∧ Is N w (b + 10) (ia G 72 sd) ∧ Is N w (b + 11) (ia G 128 gr) ∧ Is N w (b + 12) (ia G 7 ro)
def V23 (f : Nat → Int32) (F : Fo) : Prop := f 0 = nI (oN F) ∧ f 1 = nI (oS F) ∧ ∀ p, p < oN F → f (2 + p) = nI (oK F p) ∧ f (9 + p) = nI (oW F p) ∧ f (16 + p) = nI (oT F p)
def V72 (f : Nat → Int32) (n : Nat) (M : Mo) : Prop := f 0 = nI (mG M) ∧ f 1 = nI (mL M) ∧ (∀ k, k < mL M → f (2 + k) = nI (mQ M k)) ∧ (∀ p, p < n → f (9 + p) = nI (mW M p) ∧ f (16 + p) = nI (mP M p)) ∧ ∀ i, i < 49 → f (23 + i) = nI (mD M i)
theorem V72.d {f : Nat → Int32} {n : Nat} {M : Mo} (h : V72 f n M) {a c : Nat} (ha : a < 7) (hc : c < 7) : f (23 + 7 * a + c) = nI (mD M (7 * a + c)) := by
  rw [Nat.add_assoc]
  exact h.2.2.2.2 _ (by omega)
theorem V72.cg {f g : Nat → Int32} {n : Nat} {M : Mo} (h : V72 f n M) (hn : n ≤ 7) (hL : mL M ≤ 7) (hfg : ∀ j, j < 72 → g j = f j) : V72 g n M :=
  ⟨(hfg 0 (by omega)).trans h.1, (hfg 1 (by omega)).trans h.2.1, fun k hk => (hfg _ (by omega)).trans (h.2.2.1 k hk), fun p hp => ⟨(hfg _ (by omega)).trans (h.2.2.2.1 p hp).1, (hfg _ (by omega)).trans (h.2.2.2.1 p hp).2⟩, fun i hi => (hfg _ (by omega)).trans (h.2.2.2.2 i hi)⟩
theorem V23.cg {f g : Nat → Int32} {F : Fo} (h : V23 f F) (hn : oN F ≤ 7) (hfg : ∀ j, j < 23 → g j = f j) : V23 g F :=
  ⟨(hfg 0 (by omega)).trans h.1, (hfg 1 (by omega)).trans h.2.1, fun p hp => ⟨(hfg _ (by omega)).trans (h.2.2 p hp).1, (hfg _ (by omega)).trans (h.2.2 p hp).2.1, (hfg _ (by omega)).trans (h.2.2 p hp).2.2⟩⟩
/-- what the cells say: the persons, the queue that stands, the one that is held aside -/
def RsV (S : St) (M : Mo) (oA : Option Mo) (tx to_ s pa im nt sd gr : Nat → Int32) : Prop := (∀ i, i < qt S → tx i = nI (qT S i)) ∧ V23 to_ (qF S) ∧ V72 s (oN (qF S)) M ∧ (∀ i, i < (qP S).length → V72 (fun j => pa (72 * i + j)) (oN (qF S)) ((qP S).getD i oM0)) ∧ (∀ i, i < (qK S).length → V72 (fun j => im (72 * i + j)) (oN (qF S)) ((qK S).getD i oM0)) ∧ (∀ i, i < qm S → nt (3 * i) = nI (qN S i).1 ∧ nt (3 * i + 1) = nI (qN S i).2.1 ∧ nt (3 * i + 2) = nI (qN S i).2.2 ∧ (qN S i).1 < 7 ∧ 1 ≤ (qN S i).2.1 ∧ (qN S i).2.1 ≤ 20 ∧ (qN S i).2.2 ≤ 400000) ∧ (∀ A, oA = some A → V72 sd (oN (qF S)) A) ∧ gr 0 = nI 0
def RsM (G : KG) (N : Nat) (w : WD) (b : Nat) (S : St) (M : Mo) (oA : Option Mo) : Prop := ∃ (at_ : Int32) (tx to_ dr be s pa im nt ah sd gr ro : Nat → Int32), RsC G N w b (qt S) (qP S).length (qK S).length (qm S) (.int at_) tx to_ dr be s pa im nt ah sd gr ro ∧ RsV S M oA tx to_ s pa im nt sd gr
def RqO (G : KG) (N : Nat) (w : WD) (b : Nat) (v : Option Value) (S : St) (M : Mo) (oA : Option Mo) (r : Option Value) (w1 : WD) : Prop := r = v ∧ RsM G N w1 b S M oA ∧ Eqx w w1 b (b + 12)
theorem RsC.eqx {G : KG} {N : Nat} {w w1 : WD} {b ty kn ke no lo hi : Nat} {at_ : Value} {tx to_ dr be s pa im nt ah sd gr ro : Nat → Int32} (h : RsC G N w b ty kn ke no at_ tx to_ dr be s pa im nt ah sd gr ro) (hE : Eqx w w1 lo hi) (hk : b + 13 ≤ lo ∨ hi ≤ b) : RsC G N w1 b ty kn ke no at_ tx to_ dr be s pa im nt ah sd gr ro := by
  obtain ⟨h0, h1, h2, h3, h4, h5, h6, h7, h8, h9, h10, h11, h12⟩ := h
  exact ⟨h0.eqx hE (by omega), h1.eqx hE (by omega), h2.eqx hE (by omega), h3.eqx hE (by omega), h4.eqx hE (by omega), h5.eqx hE (by omega), h6.eqx hE (by omega), h7.eqx hE (by omega), h8.eqx hE (by omega), h9.eqx hE (by omega), h10.eqx hE (by omega), h11.eqx hE (by omega), h12.eqx hE (by omega)⟩
theorem RsM.fr {G : KG} {N : Nat} {w w1 : WD} {b lo hi : Nat} {S : St} {M : Mo} {oA : Option Mo} (h : RsM G N w b S M oA) (hE : Eqx w w1 lo hi) (hk : b + 13 ≤ lo ∨ hi ≤ b) : RsM G N w1 b S M oA := by
  obtain ⟨at_, tx, to_, dr, be, s, pa, im, nt, ah, sd, gr, ro, hC, hv⟩ := h
  exact ⟨at_, tx, to_, dr, be, s, pa, im, nt, ah, sd, gr, ro, hC.eqx hE hk, hv⟩
theorem RsM.drop {G : KG} {N : Nat} {w : WD} {b : Nat} {S : St} {M : Mo} {oA : Option Mo} (h : RsM G N w b S M oA) : RsM G N w b S M none := by
  obtain ⟨at_, tx, to_, dr, be, s, pa, im, nt, ah, sd, gr, ro, hC, v1, v2, v3, v4, v5, v6, v7, v8⟩ := h
  exact ⟨at_, tx, to_, dr, be, s, pa, im, nt, ah, sd, gr, ro, hC, v1, v2, v3, v4, v5, v6, (fun A hA => by cases hA), v8⟩
theorem c_X9_in {G : KG} {N : Nat} {w : WD} {x lo hi : Int32} : KCon G jX9_in N w [.int x, .int lo, .int hi] (fun r w1 => r = some (.int (bI (decide (lo.toInt ≤ x.toInt ∧ x.toInt ≤ hi.toInt)))) ∧ w1 = w) := by
  refine KCon.of ([some (.int x), some (.int lo), some (.int hi)]) (by decide) rfl (by simp [Value.category]) (Nat.le_of_ble_eq_true rfl) rfl ?_
  refine k_iload_n 1 dX9_in_0 rfl rfl rfl ?_
  refine k_iload_n 2 dX9_in_1 rfl rfl rfl ?_
  refine k_icmp_lt 14 5 dX9_in_2 rfl rfl (fun c => ?_) (fun c => ?_)
  · have c1 := Int32.lt_iff_toInt_lt.mp c
    rw [decide_eq_false (fun z => by omega)]
    refine k_iconst (nI 0) 15 dX9_in_14 rfl kc_0 ?_
    refine k_zret dX9_in_15 rfl rfl rfl (Nat.le_of_ble_eq_true rfl) ⟨rfl, rfl⟩
  · have c1 : ¬ x.toInt < lo.toInt := fun z => c (Int32.lt_iff_toInt_lt.mpr z)
    refine k_iload_n 6 dX9_in_5 rfl rfl rfl ?_
    refine k_iload_n 7 dX9_in_6 rfl rfl rfl ?_
    refine k_icmp_gt 14 10 dX9_in_7 rfl rfl (fun c => ?_) (fun c => ?_)
    · have c2 := Int32.lt_iff_toInt_lt.mp c
      rw [decide_eq_false (fun z => by omega)]
      refine k_iconst (nI 0) 15 dX9_in_14 rfl kc_0 ?_
      refine k_zret dX9_in_15 rfl rfl rfl (Nat.le_of_ble_eq_true rfl) ⟨rfl, rfl⟩
    · have c2 : ¬ hi.toInt < x.toInt := fun z => c (Int32.lt_iff_toInt_lt.mpr z)
      rw [decide_eq_true (by omega)]
      refine k_iconst (nI 1) 11 dX9_in_10 rfl kc_1 ?_
      refine k_goto 15 dX9_in_11 rfl ?_
      refine k_zret dX9_in_15 rfl rfl rfl (Nat.le_of_ble_eq_true rfl) ⟨rfl, rfl⟩
theorem c_X9_inN {G : KG} {N : Nat} {w : WD} {x : Int32} {lo hi : Nat} (h1 : lo < 2 ^ 31) (h2 : hi < 2 ^ 31) : KCon G jX9_in N w [.int x, .int (nI lo), .int (nI hi)] (fun r w1 => r = some (.int (bI (rgn lo hi x).isSome)) ∧ w1 = w) := by
  refine c_X9_in.imp (fun r w1 hx => ?_)
  rw [nI_toInt h1, nI_toInt h2] at hx
  have e : decide ((lo : Int) ≤ x.toInt ∧ x.toInt ≤ (hi : Int)) = (rgn lo hi x).isSome := by
    unfold rgn
    by_cases c : (lo : Int) ≤ x.toInt ∧ x.toInt ≤ (hi : Int)
    · rw [if_pos c, decide_eq_true c]
      rfl
    · rw [if_neg c, decide_eq_false c]
      rfl
  rw [e] at hx
  exact hx
theorem prs_rgn {n : Nat} (h : 1 ≤ n) (x : Int32) : rgn 0 (n - 1) x = prs n x := by
  unfold rgn prs
  by_cases c : 0 ≤ x.toInt ∧ x.toInt < (n : Int)
  · rw [if_pos c, if_pos (by omega)]
  · rw [if_neg c, if_neg (by omega)]
theorem c_X9_isOne {G : KG} {N : Nat} {w : WD} {b : Nat} {x : Int32} {S : St} {M : Mo} {oA : Option Mo} (h : RsM G N w b S M oA) (h1 : 1 ≤ oN (qF S)) (hn : oN (qF S) ≤ 7) : KCon G jX9_isOne N w [rf G b, .int x] (fun r w1 => r = some (.int (bI (prs (oN (qF S)) x).isSome)) ∧ w1 = w) := by
  obtain ⟨at_, tx, to_, dr, be, s, pa, im, nt, ah, sd, gr, ro, ⟨g0, g1, g2, g3, g4, g5, g6, g7, g8, g9, g10, g11, g12⟩, v1, v2, v3, v4, v5, v6, v7, v8⟩ := h
  refine KCon.of ([some (rf G b), some (.int x)]) (by decide) rfl (by simp [Value.category]) (Nat.le_of_ble_eq_true rfl) rfl ?_
  refine k_iload_n 1 dX9_isOne_0 rfl rfl rfl ?_
  refine k_iconst (nI 0) 2 dX9_isOne_1 rfl kc_0 ?_
  refine k_aload_n 3 dX9_isOne_2 rfl rfl rfl ?_
  refine k_get 6 dX9_isOne_3 rfl fX9_isOne_13 (by (repeat (refine Is.ne ?_ (by omega))); first | assumption | exact Is.up (by omega)) (by rfl) ?_
  refine k_iconst (nI 0) 7 dX9_isOne_6 rfl kc_0 ?_
  refine k_ialdN 8 dX9_isOne_7 rfl (by (repeat (refine Is.ne ?_ (by omega))); first | assumption | exact Is.up (by omega)) (by omega) (by omega) ?_
  rw [v2.1]
  refine k_iconst (nI 1) 9 dX9_isOne_8 rfl kc_1 ?_
  first | refine k_isubE _ 10 dX9_isOne_9 rfl (pk_sub (by omega)) ?_ | refine k_isub 10 dX9_isOne_9 rfl ?_
  refine k_S3 13 dX9_isOne_10 rfl vX9_isOne_56 (Nat.le_of_ble_eq_true rfl) rfl ⟨Nat.le_of_ble_eq_true rfl, Nat.le_of_ble_eq_true rfl⟩ (c_X9_inN (by omega) (by omega)) (fun r9 w9 h9 => ?_)
  obtain ⟨h8, h9⟩ := h9
  subst h8
  have h9 := h9.symm
  subst h9
  rw [prs_rgn h1]
  refine k_zretB dX9_isOne_13 rfl rfl (Nat.le_of_ble_eq_true rfl) ⟨rfl, rfl⟩
theorem c_X9_placeOf {G : KG} {N : Nat} {w : WD} {b p : Nat} {S : St} {M : Mo} {oA : Option Mo} (h : RsM G N w b S M oA) (hL : mL M ≤ 7) (hQ : ∀ k, k < mL M → mQ M k < 7) (hU : ∀ i j, i < mL M → j < mL M → mQ M i = mQ M j → i = j) (hp : p < 7) : KCon G jX9_placeOf N w [rf G b, .int (nI p)] (fun r w1 => r = some (.int (pI (plc M p))) ∧ w1 = w) := by
  obtain ⟨at_, tx, to_, dr, be, s, pa, im, nt, ah, sd, gr, ro, ⟨g0, g1, g2, g3, g4, g5, g6, g7, g8, g9, g10, g11, g12⟩, v1, v2, v3, v4, v5, v6, v7, v8⟩ := h
  refine KCon.of ([some (rf G b), some (.int (nI p)), none, none]) (by decide) rfl (by simp [Value.category]) (Nat.le_of_ble_eq_true rfl) rfl ?_
  refine k_bipush (-4) 2 dX9_placeOf_0 rfl kbm_4 ?_
  refine k_istore_n _ 3 dX9_placeOf_2 rfl rfl (by decide) rfl rfl ?_
  refine k_iconst (nI 0) 4 dX9_placeOf_3 rfl kc_0 ?_
  refine k_istore_n _ 5 dX9_placeOf_4 rfl rfl (by decide) rfl rfl ?_
  have loop : ∀ d i (v : Int32), i + d = mL M → ((∀ k, k < i → mQ M k ≠ p) ∧ v = -4 ∨ ∃ k, k < i ∧ mQ M k = p ∧ v = nI k) → KRun G jX9_placeOf N (fun r w1 => r = some (.int (pI (plc M p))) ∧ w1 = w) 5 [some (rf G b), some (.int (nI p)), some (.int v), some (.int (nI i))] [] 0 0 w := by
    intro d
    induction d with
    | zero =>
      intro i v hi hv
      refine k_iload_n 6 dX9_placeOf_5 rfl rfl rfl ?_
      refine k_aload_n 7 dX9_placeOf_6 rfl rfl rfl ?_
      refine k_get 10 dX9_placeOf_7 rfl fX9_placeOf_22 (by (repeat (refine Is.ne ?_ (by omega))); first | assumption | exact Is.up (by omega)) (by rfl) ?_
      refine k_iconst (nI 1) 11 dX9_placeOf_10 rfl kc_1 ?_
      refine k_ialdN 12 dX9_placeOf_11 rfl (by (repeat (refine Is.ne ?_ (by omega))); first | assumption | exact Is.up (by omega)) (by omega) (by omega) ?_
      rw [v3.2.1]
      refine k_icmp_geN 39 15 dX9_placeOf_12 rfl rfl (by omega) (by omega) (fun c => ?_) (fun c => ?_)
      · refine k_iload_n 40 dX9_placeOf_39 rfl rfl rfl ?_
        refine k_iret dX9_placeOf_40 rfl rfl (Nat.le_of_ble_eq_true rfl) ⟨?_, rfl⟩
        rcases hv with ⟨hno, rfl⟩ | ⟨k, hk, hkp, rfl⟩
        · rw [plc_none (fun k hk => hno k (by omega))]
          rfl
        · rw [plc_first (k := k) (by omega) hkp (fun j hj e => by
            have := hU j k (by omega) (by omega) (by omega)
            omega)]
          rfl
      · omega
    | succ d ih =>
      intro i v hi hv
      refine k_iload_n 6 dX9_placeOf_5 rfl rfl rfl ?_
      refine k_aload_n 7 dX9_placeOf_6 rfl rfl rfl ?_
      refine k_get 10 dX9_placeOf_7 rfl fX9_placeOf_22 (by (repeat (refine Is.ne ?_ (by omega))); first | assumption | exact Is.up (by omega)) (by rfl) ?_
      refine k_iconst (nI 1) 11 dX9_placeOf_10 rfl kc_1 ?_
      refine k_ialdN 12 dX9_placeOf_11 rfl (by (repeat (refine Is.ne ?_ (by omega))); first | assumption | exact Is.up (by omega)) (by omega) (by omega) ?_
      rw [v3.2.1]
      refine k_icmp_geN 39 15 dX9_placeOf_12 rfl rfl (by omega) (by omega) (fun c => ?_) (fun c => ?_)
      · omega
      · have hq := hQ i (by omega)
        refine k_aload_n 16 dX9_placeOf_15 rfl rfl rfl ?_
        refine k_get 19 dX9_placeOf_16 rfl fX9_placeOf_22 (by (repeat (refine Is.ne ?_ (by omega))); first | assumption | exact Is.up (by omega)) (by rfl) ?_
        refine k_iconst (nI 2) 20 dX9_placeOf_19 rfl kc_2 ?_
        refine k_iload_n 21 dX9_placeOf_20 rfl rfl rfl ?_
        first | refine k_iaddE _ 22 dX9_placeOf_21 rfl (nI_add _ _) ?_ | refine k_iadd 22 dX9_placeOf_21 rfl ?_
        refine k_ialdN 23 dX9_placeOf_22 rfl (by (repeat (refine Is.ne ?_ (by omega))); first | assumption | exact Is.up (by omega)) (by omega) (by omega) ?_
        rw [v3.2.2.1 i (by omega)]
        refine k_iload_n 24 dX9_placeOf_23 rfl rfl rfl ?_
        refine k_icmp_neN 31 27 dX9_placeOf_24 rfl rfl (by omega) (by omega) (fun c => ?_) (fun c => ?_)
        · refine k_iload_n 32 dX9_placeOf_31 rfl rfl rfl ?_
          refine k_istore_n _ 33 dX9_placeOf_32 rfl rfl (by decide) rfl rfl ?_
          refine k_iinc _ _ 36 dX9_placeOf_33 rfl rfl (nI_inc _) (by decide) rfl rfl ?_
          refine k_goto 5 dX9_placeOf_36 rfl ?_
          refine ih (i + 1) v (by omega) ?_
          rcases hv with ⟨hno, rfl⟩ | ⟨k, hk, hkp, rfl⟩
          · exact Or.inl ⟨fun k hk e => by
              by_cases z : k = i
              · subst z
                omega
              · exact hno k (by omega) e, rfl⟩
          · exact Or.inr ⟨k, by omega, hkp, rfl⟩
        · refine k_iload_n 28 dX9_placeOf_27 rfl rfl rfl ?_
          refine k_goto 32 dX9_placeOf_28 rfl ?_
          refine k_istore_n _ 33 dX9_placeOf_32 rfl rfl (by decide) rfl rfl ?_
          refine k_iinc _ _ 36 dX9_placeOf_33 rfl rfl (nI_inc _) (by decide) rfl rfl ?_
          refine k_goto 5 dX9_placeOf_36 rfl ?_
          exact ih (i + 1) (nI i) (by omega) (Or.inr ⟨i, by omega, by omega, rfl⟩)
  exact loop (mL M) 0 (-4) (by omega) (Or.inl ⟨fun k hk => by omega, rfl⟩)
theorem c_X9_pl {G : KG} {N : Nat} {w : WD} {b p n : Nat} {S : St} {M : Mo} {oA : Option Mo} (h : RsM G N w b S M oA) (hO : mOK n M) (hp : p < n) : KCon G jX9_placeOf N w [rf G b, .int (nI p)] (fun r w1 => r = some (.int (pI (plc M p))) ∧ w1 = w) :=
  c_X9_placeOf h (ok_l7 hO) (ok_q7 hO) hO.2.2.2.1 (by have := hO.2.1; omega)
theorem c_X9_due {G : KG} {N : Nat} {w : WD} {b p : Nat} {S : St} {M : Mo} {oA : Option Mo} (h : RsM G N w b S M oA) (hp : p < 7) : KCon G jX9_due N w [rf G b, .int (nI p)] (fun r w1 => r = some (.int (iZ (due M p))) ∧ w1 = w) := by
  obtain ⟨at_, tx, to_, dr, be, s, pa, im, nt, ah, sd, gr, ro, ⟨g0, g1, g2, g3, g4, g5, g6, g7, g8, g9, g10, g11, g12⟩, v1, v2, v3, v4, v5, v6, v7, v8⟩ := h
  refine KCon.of ([some (rf G b), some (.int (nI p)), none, none]) (by decide) rfl (by simp [Value.category]) (Nat.le_of_ble_eq_true rfl) rfl ?_
  refine k_iconst (nI 0) 1 dX9_due_0 rfl kc_0 ?_
  refine k_istore_n _ 2 dX9_due_1 rfl rfl (by decide) rfl rfl ?_
  refine k_iconst (nI 0) 3 dX9_due_2 rfl kc_0 ?_
  refine k_istore_n _ 4 dX9_due_3 rfl rfl (by decide) rfl rfl ?_
  have loop : ∀ d q, q + d = 7 → KRun G jX9_due N (fun r w1 => r = some (.int (iZ (due M p))) ∧ w1 = w) 4 [some (rf G b), some (.int (nI p)), some (.int (iZ (dzf (mD M) p q))), some (.int (nI q))] [] 0 0 w := by
    intro d
    induction d with
    | zero =>
      intro q hq
      refine k_iload_n 5 dX9_due_4 rfl rfl rfl ?_
      refine k_bipush (nI 7) 7 dX9_due_5 rfl kb_7 ?_
      refine k_icmp_geN 48 10 dX9_due_7 rfl rfl (by omega) (by omega) (fun c => ?_) (fun c => ?_)
      · refine k_iload_n 49 dX9_due_48 rfl rfl rfl ?_
        refine k_iret dX9_due_49 rfl rfl (Nat.le_of_ble_eq_true rfl) ⟨by rw [show q = 7 by omega]; rfl, rfl⟩
      · omega
    | succ d ih =>
      intro q hq
      refine k_iload_n 5 dX9_due_4 rfl rfl rfl ?_
      refine k_bipush (nI 7) 7 dX9_due_5 rfl kb_7 ?_
      refine k_icmp_geN 48 10 dX9_due_7 rfl rfl (by omega) (by omega) (fun c => ?_) (fun c => ?_)
      · omega
      · refine k_iload_n 11 dX9_due_10 rfl rfl rfl ?_
        refine k_aload_n 12 dX9_due_11 rfl rfl rfl ?_
        refine k_get 15 dX9_due_12 rfl fX9_due_22 (by (repeat (refine Is.ne ?_ (by omega))); first | assumption | exact Is.up (by omega)) (by rfl) ?_
        refine k_bipush (nI 23) 17 dX9_due_15 rfl kb_23 ?_
        refine k_bipush (nI 7) 19 dX9_due_17 rfl kb_7 ?_
        refine k_iload_n 20 dX9_due_19 rfl rfl rfl ?_
        first | refine k_imulE _ 21 dX9_due_20 rfl (pk_mul _ _) ?_ | refine k_imul 21 dX9_due_20 rfl ?_
        first | refine k_iaddE _ 22 dX9_due_21 rfl (nI_add _ _) ?_ | refine k_iadd 22 dX9_due_21 rfl ?_
        refine k_iload_n 23 dX9_due_22 rfl rfl rfl ?_
        first | refine k_iaddE _ 24 dX9_due_23 rfl (nI_add _ _) ?_ | refine k_iadd 24 dX9_due_23 rfl ?_
        refine k_ialdN 25 dX9_due_24 rfl (by (repeat (refine Is.ne ?_ (by omega))); first | assumption | exact Is.up (by omega)) (by omega) (by omega) ?_
        rw [v3.d (a := q) (c := p) (by omega) hp]
        refine k_aload_n 26 dX9_due_25 rfl rfl rfl ?_
        refine k_get 29 dX9_due_26 rfl fX9_due_22 (by (repeat (refine Is.ne ?_ (by omega))); first | assumption | exact Is.up (by omega)) (by rfl) ?_
        refine k_bipush (nI 23) 31 dX9_due_29 rfl kb_23 ?_
        refine k_bipush (nI 7) 33 dX9_due_31 rfl kb_7 ?_
        refine k_iload_n 34 dX9_due_33 rfl rfl rfl ?_
        first | refine k_imulE _ 35 dX9_due_34 rfl (pk_mul _ _) ?_ | refine k_imul 35 dX9_due_34 rfl ?_
        first | refine k_iaddE _ 36 dX9_due_35 rfl (nI_add _ _) ?_ | refine k_iadd 36 dX9_due_35 rfl ?_
        refine k_iload_n 37 dX9_due_36 rfl rfl rfl ?_
        first | refine k_iaddE _ 38 dX9_due_37 rfl (nI_add _ _) ?_ | refine k_iadd 38 dX9_due_37 rfl ?_
        refine k_ialdN 39 dX9_due_38 rfl (by (repeat (refine Is.ne ?_ (by omega))); first | assumption | exact Is.up (by omega)) (by omega) (by omega) ?_
        rw [v3.d (a := p) (c := q) hp (by omega)]
        refine k_isubE (iZ ((mD M (7 * q + p) : Int) - (mD M (7 * p + q) : Int))) 40 dX9_due_39 rfl (by rw [← iZ_nat, ← iZ_nat, iZ_sub]) ?_
        refine k_iaddE _ 41 dX9_due_40 rfl (iZ_add _ _) ?_
        refine k_istore_n _ 42 dX9_due_41 rfl rfl (by decide) rfl rfl ?_
        refine k_iinc _ _ 45 dX9_due_42 rfl rfl (nI_inc _) (by decide) rfl rfl ?_
        refine k_goto 4 dX9_due_45 rfl ?_
        exact ih (q + 1) (by omega)
  exact loop 7 0 (by omega)
theorem c_X9_owedInAll {G : KG} {N : Nat} {w : WD} {b : Nat} {S : St} {M : Mo} {oA : Option Mo} (h : RsM G N w b S M oA) : KCon G jX9_owedInAll N w [rf G b] (fun r w1 => r = some (.int (nI (owf (mD M) 49))) ∧ w1 = w) := by
  obtain ⟨at_, tx, to_, dr, be, s, pa, im, nt, ah, sd, gr, ro, ⟨g0, g1, g2, g3, g4, g5, g6, g7, g8, g9, g10, g11, g12⟩, v1, v2, v3, v4, v5, v6, v7, v8⟩ := h
  refine KCon.of ([some (rf G b), none, none]) (by decide) rfl (by simp [Value.category]) (Nat.le_of_ble_eq_true rfl) rfl ?_
  refine k_iconst (nI 0) 1 dX9_owedInAll_0 rfl kc_0 ?_
  refine k_istore_n _ 2 dX9_owedInAll_1 rfl rfl (by decide) rfl rfl ?_
  refine k_bipush (nI 23) 4 dX9_owedInAll_2 rfl kb_23 ?_
  refine k_istore_n _ 5 dX9_owedInAll_4 rfl rfl (by decide) rfl rfl ?_
  have loop : ∀ d i, i + d = 49 → KRun G jX9_owedInAll N (fun r w1 => r = some (.int (nI (owf (mD M) 49))) ∧ w1 = w) 5 [some (rf G b), some (.int (nI (owf (mD M) i))), some (.int (nI (23 + i)))] [] 0 0 w := by
    intro d
    induction d with
    | zero =>
      intro i hi
      refine k_iload_n 6 dX9_owedInAll_5 rfl rfl rfl ?_
      refine k_bipush (nI 72) 8 dX9_owedInAll_6 rfl kb_72 ?_
      refine k_icmp_geN 26 11 dX9_owedInAll_8 rfl rfl (by omega) (by omega) (fun c => ?_) (fun c => ?_)
      · refine k_iload_n 27 dX9_owedInAll_26 rfl rfl rfl ?_
        refine k_iret dX9_owedInAll_27 rfl rfl (Nat.le_of_ble_eq_true rfl) ⟨by rw [show i = 49 by omega], rfl⟩
      · omega
    | succ d ih =>
      intro i hi
      refine k_iload_n 6 dX9_owedInAll_5 rfl rfl rfl ?_
      refine k_bipush (nI 72) 8 dX9_owedInAll_6 rfl kb_72 ?_
      refine k_icmp_geN 26 11 dX9_owedInAll_8 rfl rfl (by omega) (by omega) (fun c => ?_) (fun c => ?_)
      · omega
      · refine k_iload_n 12 dX9_owedInAll_11 rfl rfl rfl ?_
        refine k_aload_n 13 dX9_owedInAll_12 rfl rfl rfl ?_
        refine k_get 16 dX9_owedInAll_13 rfl fX9_owedInAll_22 (by (repeat (refine Is.ne ?_ (by omega))); first | assumption | exact Is.up (by omega)) (by rfl) ?_
        refine k_iload_n 17 dX9_owedInAll_16 rfl rfl rfl ?_
        refine k_ialdN 18 dX9_owedInAll_17 rfl (by (repeat (refine Is.ne ?_ (by omega))); first | assumption | exact Is.up (by omega)) (by omega) (by omega) ?_
        rw [v3.2.2.2.2 i (by omega)]
        first | refine k_iaddE _ 19 dX9_owedInAll_18 rfl (nI_add _ _) ?_ | refine k_iadd 19 dX9_owedInAll_18 rfl ?_
        refine k_istore_n _ 20 dX9_owedInAll_19 rfl rfl (by decide) rfl rfl ?_
        refine k_iinc _ _ 23 dX9_owedInAll_20 rfl rfl (nI_inc _) (by decide) rfl rfl ?_
        refine k_goto 5 dX9_owedInAll_23 rfl ?_
        exact ih (i + 1) (by omega)
  exact loop 49 0 (by omega)
theorem c_X9_countOf {G : KG} {N : Nat} {w : WD} {b v : Nat} {S : St} {M : Mo} {oA : Option Mo} (h : RsM G N w b S M oA) (hn7 : oN (qF S) ≤ 7) (hw : ∀ p, p < oN (qF S) → mW M p ≤ 2) (hv : v ≤ 2) : KCon G jX9_countOf N w [rf G b, .int (nI v)] (fun r w1 => r = some (.int (nI (cnt (mW M) v (oN (qF S))))) ∧ w1 = w) := by
  obtain ⟨at_, tx, to_, dr, be, s, pa, im, nt, ah, sd, gr, ro, ⟨g0, g1, g2, g3, g4, g5, g6, g7, g8, g9, g10, g11, g12⟩, v1, v2, v3, v4, v5, v6, v7, v8⟩ := h
  refine KCon.of ([some (rf G b), some (.int (nI v)), none, none]) (by decide) rfl (by simp [Value.category]) (Nat.le_of_ble_eq_true rfl) rfl ?_
  refine k_iconst (nI 0) 1 dX9_countOf_0 rfl kc_0 ?_
  refine k_istore_n _ 2 dX9_countOf_1 rfl rfl (by decide) rfl rfl ?_
  refine k_iconst (nI 0) 3 dX9_countOf_2 rfl kc_0 ?_
  refine k_istore_n _ 4 dX9_countOf_3 rfl rfl (by decide) rfl rfl ?_
  have loop : ∀ d i, i + d = oN (qF S) → KRun G jX9_countOf N (fun r w1 => r = some (.int (nI (cnt (mW M) v (oN (qF S))))) ∧ w1 = w) 4 [some (rf G b), some (.int (nI v)), some (.int (nI (cnt (mW M) v i))), some (.int (nI i))] [] 0 0 w := by
    intro d
    induction d with
    | zero =>
      intro i hi
      refine k_iload_n 5 dX9_countOf_4 rfl rfl rfl ?_
      refine k_aload_n 6 dX9_countOf_5 rfl rfl rfl ?_
      refine k_get 9 dX9_countOf_6 rfl fX9_countOf_13 (by (repeat (refine Is.ne ?_ (by omega))); first | assumption | exact Is.up (by omega)) (by rfl) ?_
      refine k_iconst (nI 0) 10 dX9_countOf_9 rfl kc_0 ?_
      refine k_ialdN 11 dX9_countOf_10 rfl (by (repeat (refine Is.ne ?_ (by omega))); first | assumption | exact Is.up (by omega)) (by omega) (by omega) ?_
      rw [v2.1]
      refine k_icmp_geN 41 14 dX9_countOf_11 rfl rfl (by omega) (by omega) (fun c => ?_) (fun c => ?_)
      · refine k_iload_n 42 dX9_countOf_41 rfl rfl rfl ?_
        refine k_iret dX9_countOf_42 rfl rfl (Nat.le_of_ble_eq_true rfl) ⟨by rw [show i = oN (qF S) by omega], rfl⟩
      · omega
    | succ d ih =>
      intro i hi
      have hwi := hw i (by omega)
      refine k_iload_n 5 dX9_countOf_4 rfl rfl rfl ?_
      refine k_aload_n 6 dX9_countOf_5 rfl rfl rfl ?_
      refine k_get 9 dX9_countOf_6 rfl fX9_countOf_13 (by (repeat (refine Is.ne ?_ (by omega))); first | assumption | exact Is.up (by omega)) (by rfl) ?_
      refine k_iconst (nI 0) 10 dX9_countOf_9 rfl kc_0 ?_
      refine k_ialdN 11 dX9_countOf_10 rfl (by (repeat (refine Is.ne ?_ (by omega))); first | assumption | exact Is.up (by omega)) (by omega) (by omega) ?_
      rw [v2.1]
      refine k_icmp_geN 41 14 dX9_countOf_11 rfl rfl (by omega) (by omega) (fun c => ?_) (fun c => ?_)
      · omega
      · refine k_iload_n 15 dX9_countOf_14 rfl rfl rfl ?_
        refine k_aload_n 16 dX9_countOf_15 rfl rfl rfl ?_
        refine k_get 19 dX9_countOf_16 rfl fX9_countOf_22 (by (repeat (refine Is.ne ?_ (by omega))); first | assumption | exact Is.up (by omega)) (by rfl) ?_
        refine k_bipush (nI 9) 21 dX9_countOf_19 rfl kb_9 ?_
        refine k_iload_n 22 dX9_countOf_21 rfl rfl rfl ?_
        first | refine k_iaddE _ 23 dX9_countOf_22 rfl (nI_add _ _) ?_ | refine k_iadd 23 dX9_countOf_22 rfl ?_
        refine k_ialdN 24 dX9_countOf_23 rfl (by (repeat (refine Is.ne ?_ (by omega))); first | assumption | exact Is.up (by omega)) (by omega) (by omega) ?_
        rw [(v3.2.2.2.1 i (by omega)).1]
        refine k_iload_n 25 dX9_countOf_24 rfl rfl rfl ?_
        refine k_icmp_neN 32 28 dX9_countOf_25 rfl rfl (by omega) (by omega) (fun c => ?_) (fun c => ?_)
        · refine k_iconst (nI 0) 33 dX9_countOf_32 rfl kc_0 ?_
          first | refine k_iaddE _ 34 dX9_countOf_33 rfl (nI_add _ _) ?_ | refine k_iadd 34 dX9_countOf_33 rfl ?_
          refine k_istore_n _ 35 dX9_countOf_34 rfl rfl (by decide) rfl rfl ?_
          refine k_iinc _ _ 38 dX9_countOf_35 rfl rfl (nI_inc _) (by decide) rfl rfl ?_
          refine k_goto 4 dX9_countOf_38 rfl ?_
          have := ih (i + 1) (by omega)
          simp only [cnt, if_neg c] at this
          exact this
        · refine k_iconst (nI 1) 29 dX9_countOf_28 rfl kc_1 ?_
          refine k_goto 33 dX9_countOf_29 rfl ?_
          first | refine k_iaddE _ 34 dX9_countOf_33 rfl (nI_add _ _) ?_ | refine k_iadd 34 dX9_countOf_33 rfl ?_
          refine k_istore_n _ 35 dX9_countOf_34 rfl rfl (by decide) rfl rfl ?_
          refine k_iinc _ _ 38 dX9_countOf_35 rfl rfl (nI_inc _) (by decide) rfl rfl ?_
          refine k_goto 4 dX9_countOf_38 rfl ?_
          have := ih (i + 1) (by omega)
          simp only [cnt, if_pos c] at this
          exact this
  exact loop (oN (qF S)) 0 (by omega)
theorem c_X9_wouldAt {G : KG} {N : Nat} {w : WD} {b k : Nat} {S : St} {M : Mo} {oA : Option Mo} (h : RsM G N w b S M oA) (hO : mOK' (oN (qF S)) M) (hK : oOK (qF S)) (hk1 : 1 ≤ k) (hk : k < mL M) : KCon G jX9_wouldAt N w [rf G b, .int (nI k)] (fun r w1 => r = some (.int (bI (wnt (qF S) M (mQ M k) (mQ M (k - 1))))) ∧ w1 = w) := by
  obtain ⟨at_, tx, to_, dr, be, s, pa, im, nt, ah, sd, gr, ro, ⟨g0, g1, g2, g3, g4, g5, g6, g7, g8, g9, g10, g11, g12⟩, v1, v2, v3, v4, v5, v6, v7, v8⟩ := h
  have hn7 := hO.2.1
  have hLn := hO.1
  have hp := hO.2.2.1 k hk
  have ho := hO.2.2.1 (k - 1) (by omega)
  obtain ⟨k1, k2, -, -⟩ := hK.2.2 (mQ M k) hp
  obtain ⟨-, k4, -, -⟩ := hK.2.2 (mQ M (k - 1)) ho
  have hb2 := ok_p' hO (p := mQ M k) (by omega)
  have hg := gain_le (x := oW (qF S) (mQ M k)) (y := oW (qF S) (mQ M (k - 1))) (by omega) (by omega)
  refine KCon.of ([some (rf G b), some (.int (nI k)), none, none]) (by decide) rfl (by simp [Value.category]) (Nat.le_of_ble_eq_true rfl) rfl ?_
  refine k_aload_n 1 dX9_wouldAt_0 rfl rfl rfl ?_
  refine k_get 4 dX9_wouldAt_1 rfl fX9_wouldAt_22 (by (repeat (refine Is.ne ?_ (by omega))); first | assumption | exact Is.up (by omega)) (by rfl) ?_
  refine k_iconst (nI 2) 5 dX9_wouldAt_4 rfl kc_2 ?_
  refine k_iload_n 6 dX9_wouldAt_5 rfl rfl rfl ?_
  first | refine k_iaddE _ 7 dX9_wouldAt_6 rfl (nI_add _ _) ?_ | refine k_iadd 7 dX9_wouldAt_6 rfl ?_
  refine k_ialdN 8 dX9_wouldAt_7 rfl (by (repeat (refine Is.ne ?_ (by omega))); first | assumption | exact Is.up (by omega)) (by omega) (by omega) ?_
  rw [v3.2.2.1 k hk]
  refine k_istore_n _ 9 dX9_wouldAt_8 rfl rfl (by decide) rfl rfl ?_
  refine k_aload_n 10 dX9_wouldAt_9 rfl rfl rfl ?_
  refine k_get 13 dX9_wouldAt_10 rfl fX9_wouldAt_13 (by (repeat (refine Is.ne ?_ (by omega))); first | assumption | exact Is.up (by omega)) (by rfl) ?_
  refine k_bipush (nI 9) 15 dX9_wouldAt_13 rfl kb_9 ?_
  refine k_iload_n 16 dX9_wouldAt_15 rfl rfl rfl ?_
  first | refine k_iaddE _ 17 dX9_wouldAt_16 rfl (nI_add _ _) ?_ | refine k_iadd 17 dX9_wouldAt_16 rfl ?_
  refine k_ialdN 18 dX9_wouldAt_17 rfl (by (repeat (refine Is.ne ?_ (by omega))); first | assumption | exact Is.up (by omega)) (by omega) (by omega) ?_
  rw [(v2.2.2 _ hp).2.1]
  refine k_aload_n 19 dX9_wouldAt_18 rfl rfl rfl ?_
  refine k_get 22 dX9_wouldAt_19 rfl fX9_wouldAt_13 (by (repeat (refine Is.ne ?_ (by omega))); first | assumption | exact Is.up (by omega)) (by rfl) ?_
  refine k_bipush (nI 9) 24 dX9_wouldAt_22 rfl kb_9 ?_
  refine k_aload_n 25 dX9_wouldAt_24 rfl rfl rfl ?_
  refine k_get 28 dX9_wouldAt_25 rfl fX9_wouldAt_22 (by (repeat (refine Is.ne ?_ (by omega))); first | assumption | exact Is.up (by omega)) (by rfl) ?_
  refine k_iconst (nI 2) 29 dX9_wouldAt_28 rfl kc_2 ?_
  refine k_iload_n 30 dX9_wouldAt_29 rfl rfl rfl ?_
  first | refine k_iaddE _ 31 dX9_wouldAt_30 rfl (nI_add _ _) ?_ | refine k_iadd 31 dX9_wouldAt_30 rfl ?_
  refine k_iconst (nI 1) 32 dX9_wouldAt_31 rfl kc_1 ?_
  first | refine k_isubE _ 33 dX9_wouldAt_32 rfl (pk_sub (by omega)) ?_ | refine k_isub 33 dX9_wouldAt_32 rfl ?_
  refine k_ialdN 34 dX9_wouldAt_33 rfl (by (repeat (refine Is.ne ?_ (by omega))); first | assumption | exact Is.up (by omega)) (by omega) (by omega) ?_
  rw [show 2 + k - 1 = 2 + (k - 1) by omega, v3.2.2.1 (k - 1) (by omega)]
  first | refine k_iaddE _ 35 dX9_wouldAt_34 rfl (nI_add _ _) ?_ | refine k_iadd 35 dX9_wouldAt_34 rfl ?_
  refine k_ialdN 36 dX9_wouldAt_35 rfl (by (repeat (refine Is.ne ?_ (by omega))); first | assumption | exact Is.up (by omega)) (by omega) (by omega) ?_
  rw [(v2.2.2 _ ho).2.1]
  refine k_isub 37 dX9_wouldAt_36 rfl ?_
  refine k_istore_n _ 38 dX9_wouldAt_37 rfl rfl (by decide) rfl rfl ?_
  refine k_aload_n 39 dX9_wouldAt_38 rfl rfl rfl ?_
  refine k_get 42 dX9_wouldAt_39 rfl fX9_wouldAt_13 (by (repeat (refine Is.ne ?_ (by omega))); first | assumption | exact Is.up (by omega)) (by rfl) ?_
  refine k_iconst (nI 2) 43 dX9_wouldAt_42 rfl kc_2 ?_
  refine k_iload_n 44 dX9_wouldAt_43 rfl rfl rfl ?_
  first | refine k_iaddE _ 45 dX9_wouldAt_44 rfl (nI_add _ _) ?_ | refine k_iadd 45 dX9_wouldAt_44 rfl ?_
  refine k_ialdN 46 dX9_wouldAt_45 rfl (by (repeat (refine Is.ne ?_ (by omega))); first | assumption | exact Is.up (by omega)) (by omega) (by omega) ?_
  rw [(v2.2.2 _ hp).1]
  generalize hpp : mQ M k = p at *
  generalize hoo : mQ M (k - 1) = o at *
  have h4 : oK (qF S) p = 0 ∨ oK (qF S) p = 1 ∨ oK (qF S) p = 2 ∨ oK (qF S) p = 3 := by omega
  rcases h4 with e | e | e | e
  · rw [e]
    refine k_tableIn (off := 26) 72 dX9_wouldAt_46 (by decide) (by decide) (by decide +kernel) rfl ?_
    refine k_iload_n 73 dX9_wouldAt_72 rfl rfl rfl ?_
    refine k_if_le 80 76 dX9_wouldAt_73 rfl rfl (fun c => ?_) (fun c => ?_)
    · refine k_iconst (nI 0) 81 dX9_wouldAt_80 rfl kc_0 ?_
      refine k_zret dX9_wouldAt_81 rfl rfl rfl (Nat.le_of_ble_eq_true rfl) ⟨by simp [wnt, e, bI, Nat.not_lt.mpr (hg.mp c)], rfl⟩
    · refine k_iconst (nI 1) 77 dX9_wouldAt_76 rfl kc_1 ?_
      refine k_goto 81 dX9_wouldAt_77 rfl ?_
      refine k_zret dX9_wouldAt_81 rfl rfl rfl (Nat.le_of_ble_eq_true rfl) ⟨by simp [wnt, e, bI, Nat.not_le.mp (fun z => c (hg.mpr z))], rfl⟩
  · rw [e]
    refine k_tableIn (off := 36) 82 dX9_wouldAt_46 (by decide) (by decide) (by decide +kernel) rfl ?_
    refine k_iconst (nI 0) 83 dX9_wouldAt_82 rfl kc_0 ?_
    refine k_zret dX9_wouldAt_83 rfl rfl rfl (Nat.le_of_ble_eq_true rfl) ⟨by simp [wnt, e, bI], rfl⟩
  · rw [e]
    refine k_tableIn (off := 38) 84 dX9_wouldAt_46 (by decide) (by decide) (by decide +kernel) rfl ?_
    refine k_iconst (nI 1) 85 dX9_wouldAt_84 rfl kc_1 ?_
    refine k_zret dX9_wouldAt_85 rfl rfl rfl (Nat.le_of_ble_eq_true rfl) ⟨by simp [wnt, e, bI], rfl⟩
  · rw [e]
    refine k_tableOut 86 dX9_wouldAt_46 (Or.inr (by decide)) rfl ?_
    refine k_iload_n 87 dX9_wouldAt_86 rfl rfl rfl ?_
    refine k_if_le 107 90 dX9_wouldAt_87 rfl rfl (fun c => ?_) (fun c => ?_)
    · refine k_iconst (nI 0) 108 dX9_wouldAt_107 rfl kc_0 ?_
      refine k_zret dX9_wouldAt_108 rfl rfl rfl (Nat.le_of_ble_eq_true rfl) ⟨by simp [wnt, e, bI, Nat.not_lt.mpr (hg.mp c)], rfl⟩
    · have hlt := Nat.not_le.mp (fun z => c (hg.mpr z))
      rw [pk_sub (by omega)]
      refine k_aload_n 91 dX9_wouldAt_90 rfl rfl rfl ?_
      refine k_get 94 dX9_wouldAt_91 rfl fX9_wouldAt_22 (by (repeat (refine Is.ne ?_ (by omega))); first | assumption | exact Is.up (by omega)) (by rfl) ?_
      refine k_bipush (nI 16) 96 dX9_wouldAt_94 rfl kb_16 ?_
      refine k_iload_n 97 dX9_wouldAt_96 rfl rfl rfl ?_
      first | refine k_iaddE _ 98 dX9_wouldAt_97 rfl (nI_add _ _) ?_ | refine k_iadd 98 dX9_wouldAt_97 rfl ?_
      refine k_ialdN 99 dX9_wouldAt_98 rfl (by (repeat (refine Is.ne ?_ (by omega))); first | assumption | exact Is.up (by omega)) (by omega) (by omega) ?_
      rw [(v3.2.2.2.1 p hp).2]
      refine k_iload_n 100 dX9_wouldAt_99 rfl rfl rfl ?_
      refine k_icmp_ltN 107 103 dX9_wouldAt_100 rfl rfl (by omega) (by omega) (fun c => ?_) (fun c => ?_)
      · refine k_iconst (nI 0) 108 dX9_wouldAt_107 rfl kc_0 ?_
        refine k_zret dX9_wouldAt_108 rfl rfl rfl (Nat.le_of_ble_eq_true rfl) ⟨by simp [wnt, e, bI, hlt]; omega, rfl⟩
      · refine k_iconst (nI 1) 104 dX9_wouldAt_103 rfl kc_1 ?_
        refine k_goto 108 dX9_wouldAt_104 rfl ?_
        refine k_zret dX9_wouldAt_108 rfl rfl rfl (Nat.le_of_ble_eq_true rfl) ⟨by simp [wnt, e, bI, hlt]; omega, rfl⟩
theorem c_X9_letterAt {G : KG} {N : Nat} {w : WD} {b k t : Nat} {ty kn ke no : Nat} {at_ : Value} {tx to_ dr be s pa im nt ah sd gr ro : Nat → Int32} {T : Nat → Nat} (h : RsC G N w b t kn ke no at_ tx to_ dr be s pa im nt ah sd gr ro) (hT : ∀ i, i < t → tx i = nI (T i)) (ht : t ≤ 200) (hk : k < 100000) : KCon G jX9_letterAt N w [rf G b, .int (nI k)] (fun r w1 => r = some (.int (if k < t then nI (T k) else -1)) ∧ w1 = w) := by
  obtain ⟨g0, g1, g2, g3, g4, g5, g6, g7, g8, g9, g10, g11, g12⟩ := h
  refine KCon.of ([some (rf G b), some (.int (nI k))]) (by decide) rfl (by simp [Value.category]) (Nat.le_of_ble_eq_true rfl) rfl ?_
  refine k_iload_n 1 dX9_letterAt_0 rfl rfl rfl ?_
  refine k_aload_n 2 dX9_letterAt_1 rfl rfl rfl ?_
  refine k_get 5 dX9_letterAt_2 rfl fX9_letterAt_60 (by (repeat (refine Is.ne ?_ (by omega))); first | assumption | exact Is.up (by omega)) (by rfl) ?_
  refine k_icmp_geN 17 8 dX9_letterAt_5 rfl rfl (by omega) (by omega) (fun c => ?_) (fun c => ?_)
  · refine k_iconst (-1) 18 dX9_letterAt_17 rfl km_1 ?_
    refine k_iret dX9_letterAt_18 rfl rfl (Nat.le_of_ble_eq_true rfl) ⟨by rw [if_neg (by omega)], rfl⟩
  · refine k_aload_n 9 dX9_letterAt_8 rfl rfl rfl ?_
    refine k_get 12 dX9_letterAt_9 rfl fX9_letterAt_7 (by (repeat (refine Is.ne ?_ (by omega))); first | assumption | exact Is.up (by omega)) (by rfl) ?_
    refine k_iload_n 13 dX9_letterAt_12 rfl rfl rfl ?_
    refine k_ialdN 14 dX9_letterAt_13 rfl (by (repeat (refine Is.ne ?_ (by omega))); first | assumption | exact Is.up (by omega)) (by omega) (by omega) ?_
    rw [hT k c]
    refine k_goto 18 dX9_letterAt_14 rfl ?_
    refine k_iret dX9_letterAt_18 rfl rfl (Nat.le_of_ble_eq_true rfl) ⟨by rw [if_pos c], rfl⟩
