/-! KerbQueueModel: goes, comes, holds, backs, lets, pays -/
theorem sf_sf (f : Nat → Nat) (k u v : Nat) : sf (sf f k u) k v = sf f k v := by
  funext j
  simp only [sf]
  by_cases h : j = k
  · rw [if_pos h, if_pos h]
  · rw [if_neg h, if_neg h, if_neg h]
theorem ins_rem {M : Mo} {q j k u v : Nat} (h : mQ M j = q) : ins (rem M j u) q k = ins (rem M j v) q k := by
  show (_, _, _, sf (sf (mW M) (mQ M j) u) q 0, _, _) = (_, _, _, sf (sf (mW M) (mQ M j) v) q 0, _, _)
  rw [h, sf_sf, sf_sf]
  rfl
theorem V72_rem {s f : Nat → Int32} {n k st : Nat} {M : Mo} (h : V72 s n M) (hn : n ≤ 7) (hL : mL M ≤ 7) (hq : mQ M k < n) (hk : k < mL M) (hf : ∀ j, f j = if 2 + k ≤ j ∧ j < 2 + (mL M - 1) then upd s (9 + mQ M k) (nI st) (j + 1) else upd s (9 + mQ M k) (nI st) j) : V72 (upd f 1 (nI (mL M - 1))) n (rem M k st) := by
  refine ⟨?_, ?_, fun j hj => ?_, fun p hp => ⟨?_, ?_⟩, fun i hi => ?_⟩
  · rw [upd_n _ _ (by omega), hf, if_neg (by omega), upd_n _ _ (by omega)]
    exact h.1
  · rw [upd_s]
    rfl
  · have hj : j < mL M - 1 := hj
    rw [upd_n _ _ (by omega), hf]
    show _ = nI (if j < k then mQ M j else mQ M (j + 1))
    by_cases e : j < k
    · rw [if_neg (by omega), if_pos e, upd_n _ _ (by omega)]
      exact h.2.2.1 j (by omega)
    · rw [if_pos (by omega), if_neg e, upd_n _ _ (by omega), show 2 + j + 1 = 2 + (j + 1) by omega]
      exact h.2.2.1 (j + 1) (by omega)
  · rw [upd_n _ _ (by omega), hf, if_neg (by omega)]
    show _ = nI (sf (mW M) (mQ M k) st p)
    by_cases e : p = mQ M k
    · rw [e, upd_s, sf_s]
    · rw [upd_n _ _ (by omega), sf_n _ _ e]
      exact (h.2.2.2.1 p hp).1
  · rw [upd_n _ _ (by omega), hf, if_neg (by omega), upd_n _ _ (by omega)]
    exact (h.2.2.2.1 p hp).2
  · rw [upd_n _ _ (by omega), hf, if_neg (by omega), upd_n _ _ (by omega)]
    exact h.2.2.2.2 i hi
theorem V72_ins {s f : Nat → Int32} {n k p : Nat} {M : Mo} (h : V72 s n M) (hn : n ≤ 7) (hL : mL M < 7) (hp : p < n) (hk : k ≤ mL M) (hf : ∀ j, f j = if 2 + k < j ∧ j ≤ 2 + mL M then s (j - 1) else s j) : V72 (upd (upd (upd f (2 + k) (nI p)) 1 (nI (mL M + 1))) (9 + p) (nI 0)) n (ins M p k) := by
  refine ⟨?_, ?_, fun j hj => ?_, fun q hq => ⟨?_, ?_⟩, fun i hi => ?_⟩
  · rw [upd_n _ _ (by omega), upd_n _ _ (by omega), upd_n _ _ (by omega), hf, if_neg (by omega)]
    exact h.1
  · rw [upd_n _ _ (by omega), upd_s]
    rfl
  · have hj : j < mL M + 1 := hj
    rw [upd_n _ _ (by omega), upd_n _ _ (by omega)]
    show _ = nI (if j < k then mQ M j else if j = k then p else mQ M (j - 1))
    by_cases e : j < k
    · rw [if_pos e, upd_n _ _ (by omega), hf, if_neg (by omega)]
      exact h.2.2.1 j (by omega)
    · rw [if_neg e]
      by_cases e2 : j = k
      · rw [if_pos e2, e2, upd_s]
      · rw [if_neg e2, upd_n _ _ (by omega), hf, if_pos (by omega), show 2 + j - 1 = 2 + (j - 1) by omega]
        exact h.2.2.1 (j - 1) (by omega)
  · show _ = nI (sf (mW M) p 0 q)
    by_cases e : q = p
    · rw [e, upd_s, sf_s]
    · rw [upd_n _ _ (by omega), sf_n _ _ e, upd_n _ _ (by omega), upd_n _ _ (by omega), hf, if_neg (by omega)]
      exact (h.2.2.2.1 q hq).1
  · rw [upd_n _ _ (by omega), upd_n _ _ (by omega), upd_n _ _ (by omega), hf, if_neg (by omega)]
    exact (h.2.2.2.1 q hq).2
  · rw [upd_n _ _ (by omega), upd_n _ _ (by omega), upd_n _ _ (by omega), hf, if_neg (by omega)]
    exact h.2.2.2.2 i hi
theorem c_X9_goes {G : KG} {N : Nat} {w : WD} {b k st : Nat} {S : St} {M : Mo} {oA : Option Mo} (h : RsM G N w b S M oA) (hO : mOK' (oN (qF S)) M) (hk : k < mL M) : KCon G jX9_goes N w [rf G b, .int (nI k), .int (nI st)] (RqO G N w b none S (rem M k st) oA) := by
  obtain ⟨at_, tx, to_, dr, be, s, pa, im, nt, ah, sd, gr, ro, ⟨g0, g1, g2, g3, g4, g5, g6, g7, g8, g9, g10, g11, g12⟩, v1, v2, v3, v4, v5, v6, v7, v8⟩ := h
  have hN := g12.1
  have hn7 := hO.2.1
  have hLn := hO.1
  have hq := hO.2.2.1 k hk
  refine KCon.of ([some (rf G b), some (.int (nI k)), some (.int (nI st)), none]) (by decide) rfl (by simp [Value.category]) (Nat.le_of_ble_eq_true rfl) rfl ?_
  refine k_aload_n 1 dX9_goes_0 rfl rfl rfl ?_
  refine k_get 4 dX9_goes_1 rfl fX9_goes_22 (by (repeat (refine Is.ne ?_ (by omega))); first | assumption | exact Is.up (by omega)) (by rfl) ?_
  refine k_bipush (nI 9) 6 dX9_goes_4 rfl kb_9 ?_
  refine k_aload_n 7 dX9_goes_6 rfl rfl rfl ?_
  refine k_get 10 dX9_goes_7 rfl fX9_goes_22 (by (repeat (refine Is.ne ?_ (by omega))); first | assumption | exact Is.up (by omega)) (by rfl) ?_
  refine k_iconst (nI 2) 11 dX9_goes_10 rfl kc_2 ?_
  refine k_iload_n 12 dX9_goes_11 rfl rfl rfl ?_
  first | refine k_iaddE _ 13 dX9_goes_12 rfl (nI_add _ _) ?_ | refine k_iadd 13 dX9_goes_12 rfl ?_
  refine k_ialdN 14 dX9_goes_13 rfl (by (repeat (refine Is.ne ?_ (by omega))); first | assumption | exact Is.up (by omega)) (by omega) (by omega) ?_
  rw [v3.2.2.1 k hk]
  first | refine k_iaddE _ 15 dX9_goes_14 rfl (nI_add _ _) ?_ | refine k_iadd 15 dX9_goes_14 rfl ?_
  refine k_iload_n 16 dX9_goes_15 rfl rfl rfl ?_
  refine k_iastN 17 dX9_goes_16 rfl (by (repeat (refine Is.ne ?_ (by omega))); first | assumption | exact Is.up (by omega)) (by omega) (by omega) ?_
  refine k_iload_n 18 dX9_goes_17 rfl rfl rfl ?_
  refine k_istore_n _ 19 dX9_goes_18 rfl rfl (by decide) rfl rfl ?_
  have loop : ∀ d i (w1 : WD) (f : Nat → Int32), i + d = mL M - 1 → k ≤ i → RsC G N w1 b (qt S) (qP S).length (qK S).length (qm S) (.int at_) tx to_ dr be f pa im nt ah sd gr ro → Eqx w w1 b (b + 12) → (∀ j, f j = if 2 + k ≤ j ∧ j < 2 + i then upd s (9 + mQ M k) (nI st) (j + 1) else upd s (9 + mQ M k) (nI st) j) → KRun G jX9_goes N (RqO G N w b none S (rem M k st) oA) 19 [some (rf G b), some (.int (nI k)), some (.int (nI st)), some (.int (nI i))] [] 0 0 w1 := by
    intro d
    induction d with
    | zero =>
      intro i w1 f hi hki ⟨g0, g1, g2, g3, g4, g5, g6, g7, g8, g9, g10, g11, g12⟩ hE hf
      have f1 : f 1 = nI (mL M) := by
        rw [hf, if_neg (by omega), upd_n _ _ (by omega)]
        exact v3.2.1
      refine k_iload_n 20 dX9_goes_19 rfl rfl rfl ?_
      refine k_aload_n 21 dX9_goes_20 rfl rfl rfl ?_
      refine k_get 24 dX9_goes_21 rfl fX9_goes_22 (by (repeat (refine Is.ne ?_ (by omega))); first | assumption | exact Is.up (by omega)) (by rfl) ?_
      refine k_iconst (nI 1) 25 dX9_goes_24 rfl kc_1 ?_
      refine k_ialdN 26 dX9_goes_25 rfl (by (repeat (refine Is.ne ?_ (by omega))); first | assumption | exact Is.up (by omega)) (by omega) (by omega) ?_
      rw [f1]
      refine k_iconst (nI 1) 27 dX9_goes_26 rfl kc_1 ?_
      first | refine k_isubE _ 28 dX9_goes_27 rfl (pk_sub (by omega)) ?_ | refine k_isub 28 dX9_goes_27 rfl ?_
      refine k_icmp_geN 55 31 dX9_goes_28 rfl rfl (by omega) (by omega) (fun c => ?_) (fun c => ?_)
      · refine k_aload_n 56 dX9_goes_55 rfl rfl rfl ?_
        refine k_get 59 dX9_goes_56 rfl fX9_goes_22 (by (repeat (refine Is.ne ?_ (by omega))); first | assumption | exact Is.up (by omega)) (by rfl) ?_
        refine k_iconst (nI 1) 60 dX9_goes_59 rfl kc_1 ?_
        refine k_dup2 61 dX9_goes_60 rfl rfl rfl ?_
        refine k_ialdN 62 dX9_goes_61 rfl (by (repeat (refine Is.ne ?_ (by omega))); first | assumption | exact Is.up (by omega)) (by omega) (by omega) ?_
        rw [f1]
        refine k_iconst (nI 1) 63 dX9_goes_62 rfl kc_1 ?_
        first | refine k_isubE _ 64 dX9_goes_63 rfl (pk_sub (by omega)) ?_ | refine k_isub 64 dX9_goes_63 rfl ?_
        refine k_iastN 65 dX9_goes_64 rfl (by (repeat (refine Is.ne ?_ (by omega))); first | assumption | exact Is.up (by omega)) (by omega) (by omega) ?_
        refine k_vret dX9_goes_65 rfl rfl (Nat.le_of_ble_eq_true rfl) ⟨rfl, ⟨at_, tx, to_, dr, be, _, pa, im, nt, ah, sd, gr, ro, ⟨(by (repeat (refine Is.ne ?_ (by omega))); first | assumption | exact Is.up (by omega)), (by (repeat (refine Is.ne ?_ (by omega))); first | assumption | exact Is.up (by omega)), (by (repeat (refine Is.ne ?_ (by omega))); first | assumption | exact Is.up (by omega)), (by (repeat (refine Is.ne ?_ (by omega))); first | assumption | exact Is.up (by omega)), (by (repeat (refine Is.ne ?_ (by omega))); first | assumption | exact Is.up (by omega)), (by (repeat (refine Is.ne ?_ (by omega))); first | assumption | exact Is.up (by omega)), (by (repeat (refine Is.ne ?_ (by omega))); first | assumption | exact Is.up (by omega)), (by (repeat (refine Is.ne ?_ (by omega))); first | assumption | exact Is.up (by omega)), (by (repeat (refine Is.ne ?_ (by omega))); first | assumption | exact Is.up (by omega)), (by (repeat (refine Is.ne ?_ (by omega))); first | assumption | exact Is.up (by omega)), (by (repeat (refine Is.ne ?_ (by omega))); first | assumption | exact Is.up (by omega)), (by (repeat (refine Is.ne ?_ (by omega))); first | assumption | exact Is.up (by omega)), (by (repeat (refine Is.ne ?_ (by omega))); first | assumption | exact Is.up (by omega))⟩, v1, v2, V72_rem v3 hn7 (by omega) hq hk (fun j => by rw [hf j, show i = mL M - 1 by omega]), v4, v5, v6, v7, v8⟩, (by (repeat (refine Eqx.up ?_ (by omega) (by omega))); first | exact Eqx.rf | assumption)⟩
      · omega
    | succ d ih =>
      intro i w1 f hi hki ⟨g0, g1, g2, g3, g4, g5, g6, g7, g8, g9, g10, g11, g12⟩ hE hf
      have f1 : f 1 = nI (mL M) := by
        rw [hf, if_neg (by omega), upd_n _ _ (by omega)]
        exact v3.2.1
      refine k_iload_n 20 dX9_goes_19 rfl rfl rfl ?_
      refine k_aload_n 21 dX9_goes_20 rfl rfl rfl ?_
      refine k_get 24 dX9_goes_21 rfl fX9_goes_22 (by (repeat (refine Is.ne ?_ (by omega))); first | assumption | exact Is.up (by omega)) (by rfl) ?_
      refine k_iconst (nI 1) 25 dX9_goes_24 rfl kc_1 ?_
      refine k_ialdN 26 dX9_goes_25 rfl (by (repeat (refine Is.ne ?_ (by omega))); first | assumption | exact Is.up (by omega)) (by omega) (by omega) ?_
      rw [f1]
      refine k_iconst (nI 1) 27 dX9_goes_26 rfl kc_1 ?_
      first | refine k_isubE _ 28 dX9_goes_27 rfl (pk_sub (by omega)) ?_ | refine k_isub 28 dX9_goes_27 rfl ?_
      refine k_icmp_geN 55 31 dX9_goes_28 rfl rfl (by omega) (by omega) (fun c => ?_) (fun c => ?_)
      · omega
      · refine k_aload_n 32 dX9_goes_31 rfl rfl rfl ?_
        refine k_get 35 dX9_goes_32 rfl fX9_goes_22 (by (repeat (refine Is.ne ?_ (by omega))); first | assumption | exact Is.up (by omega)) (by rfl) ?_
        refine k_iconst (nI 2) 36 dX9_goes_35 rfl kc_2 ?_
        refine k_iload_n 37 dX9_goes_36 rfl rfl rfl ?_
        first | refine k_iaddE _ 38 dX9_goes_37 rfl (nI_add _ _) ?_ | refine k_iadd 38 dX9_goes_37 rfl ?_
        refine k_aload_n 39 dX9_goes_38 rfl rfl rfl ?_
        refine k_get 42 dX9_goes_39 rfl fX9_goes_22 (by (repeat (refine Is.ne ?_ (by omega))); first | assumption | exact Is.up (by omega)) (by rfl) ?_
        refine k_iconst (nI 2) 43 dX9_goes_42 rfl kc_2 ?_
        refine k_iload_n 44 dX9_goes_43 rfl rfl rfl ?_
        first | refine k_iaddE _ 45 dX9_goes_44 rfl (nI_add _ _) ?_ | refine k_iadd 45 dX9_goes_44 rfl ?_
        refine k_iconst (nI 1) 46 dX9_goes_45 rfl kc_1 ?_
        first | refine k_iaddE _ 47 dX9_goes_46 rfl (nI_add _ _) ?_ | refine k_iadd 47 dX9_goes_46 rfl ?_
        refine k_ialdN 48 dX9_goes_47 rfl (by (repeat (refine Is.ne ?_ (by omega))); first | assumption | exact Is.up (by omega)) (by omega) (by omega) ?_
        refine k_iastN 49 dX9_goes_48 rfl (by (repeat (refine Is.ne ?_ (by omega))); first | assumption | exact Is.up (by omega)) (by omega) (by omega) ?_
        refine k_iinc _ _ 52 dX9_goes_49 rfl rfl (nI_inc _) (by decide) rfl rfl ?_
        refine k_goto 19 dX9_goes_52 rfl ?_
        refine ih (i + 1) _ (upd f (2 + i) (f (2 + i + 1))) (by omega) (by omega) ?_ ?_ (fun j => ?_)
        · exact ⟨(by (repeat (refine Is.ne ?_ (by omega))); first | assumption | exact Is.up (by omega)), (by (repeat (refine Is.ne ?_ (by omega))); first | assumption | exact Is.up (by omega)), (by (repeat (refine Is.ne ?_ (by omega))); first | assumption | exact Is.up (by omega)), (by (repeat (refine Is.ne ?_ (by omega))); first | assumption | exact Is.up (by omega)), (by (repeat (refine Is.ne ?_ (by omega))); first | assumption | exact Is.up (by omega)), (by (repeat (refine Is.ne ?_ (by omega))); first | assumption | exact Is.up (by omega)), (by (repeat (refine Is.ne ?_ (by omega))); first | assumption | exact Is.up (by omega)), (by (repeat (refine Is.ne ?_ (by omega))); first | assumption | exact Is.up (by omega)), (by (repeat (refine Is.ne ?_ (by omega))); first | assumption | exact Is.up (by omega)), (by (repeat (refine Is.ne ?_ (by omega))); first | assumption | exact Is.up (by omega)), (by (repeat (refine Is.ne ?_ (by omega))); first | assumption | exact Is.up (by omega)), (by (repeat (refine Is.ne ?_ (by omega))); first | assumption | exact Is.up (by omega)), (by (repeat (refine Is.ne ?_ (by omega))); first | assumption | exact Is.up (by omega))⟩
        · exact (by (repeat (refine Eqx.up ?_ (by omega) (by omega))); first | exact Eqx.rf | assumption)
        by_cases e : j = 2 + i
        · subst e
          rw [upd_s, hf, if_neg (by omega), if_pos (by omega)]
        · rw [upd_n _ _ e, hf j]
          by_cases e2 : 2 + k ≤ j ∧ j < 2 + i
          · rw [if_pos e2, if_pos (by omega)]
          · rw [if_neg e2, if_neg (by omega)]
  refine loop (mL M - 1 - k) k _ (upd s (9 + mQ M k) (nI st)) (by omega) (by omega) ?_ ?_ (fun j => by rw [if_neg (by omega)])
  · exact ⟨(by (repeat (refine Is.ne ?_ (by omega))); first | assumption | exact Is.up (by omega)), (by (repeat (refine Is.ne ?_ (by omega))); first | assumption | exact Is.up (by omega)), (by (repeat (refine Is.ne ?_ (by omega))); first | assumption | exact Is.up (by omega)), (by (repeat (refine Is.ne ?_ (by omega))); first | assumption | exact Is.up (by omega)), (by (repeat (refine Is.ne ?_ (by omega))); first | assumption | exact Is.up (by omega)), (by (repeat (refine Is.ne ?_ (by omega))); first | assumption | exact Is.up (by omega)), (by (repeat (refine Is.ne ?_ (by omega))); first | assumption | exact Is.up (by omega)), (by (repeat (refine Is.ne ?_ (by omega))); first | assumption | exact Is.up (by omega)), (by (repeat (refine Is.ne ?_ (by omega))); first | assumption | exact Is.up (by omega)), (by (repeat (refine Is.ne ?_ (by omega))); first | assumption | exact Is.up (by omega)), (by (repeat (refine Is.ne ?_ (by omega))); first | assumption | exact Is.up (by omega)), (by (repeat (refine Is.ne ?_ (by omega))); first | assumption | exact Is.up (by omega)), (by (repeat (refine Is.ne ?_ (by omega))); first | assumption | exact Is.up (by omega))⟩
  · exact (by (repeat (refine Eqx.up ?_ (by omega) (by omega))); first | exact Eqx.rf | assumption)
theorem c_X9_comes {G : KG} {N : Nat} {w : WD} {b p k : Nat} {S : St} {M : Mo} {oA : Option Mo} (h : RsM G N w b S M oA) (hn7 : oN (qF S) ≤ 7) (hL : mL M < 7) (hp : p < oN (qF S)) (hk : k ≤ mL M) : KCon G jX9_comes N w [rf G b, .int (nI p), .int (nI k)] (RqO G N w b none S (ins M p k) oA) := by
  obtain ⟨at_, tx, to_, dr, be, s, pa, im, nt, ah, sd, gr, ro, ⟨g0, g1, g2, g3, g4, g5, g6, g7, g8, g9, g10, g11, g12⟩, v1, v2, v3, v4, v5, v6, v7, v8⟩ := h
  have hN := g12.1
  refine KCon.of ([some (rf G b), some (.int (nI p)), some (.int (nI k)), none]) (by decide) rfl (by simp [Value.category]) (Nat.le_of_ble_eq_true rfl) rfl ?_
  refine k_aload_n 1 dX9_comes_0 rfl rfl rfl ?_
  refine k_get 4 dX9_comes_1 rfl fX9_comes_22 (by (repeat (refine Is.ne ?_ (by omega))); first | assumption | exact Is.up (by omega)) (by rfl) ?_
  refine k_iconst (nI 1) 5 dX9_comes_4 rfl kc_1 ?_
  refine k_ialdN 6 dX9_comes_5 rfl (by (repeat (refine Is.ne ?_ (by omega))); first | assumption | exact Is.up (by omega)) (by omega) (by omega) ?_
  rw [v3.2.1]
  refine k_istore_n _ 7 dX9_comes_6 rfl rfl (by decide) rfl rfl ?_
  have loop : ∀ d i (w1 : WD) (f : Nat → Int32), k + d = i → i ≤ mL M → RsC G N w1 b (qt S) (qP S).length (qK S).length (qm S) (.int at_) tx to_ dr be f pa im nt ah sd gr ro → Eqx w w1 b (b + 12) → (∀ j, f j = if 2 + i < j ∧ j ≤ 2 + mL M then s (j - 1) else s j) → KRun G jX9_comes N (RqO G N w b none S (ins M p k) oA) 7 [some (rf G b), some (.int (nI p)), some (.int (nI k)), some (.int (nI i))] [] 0 0 w1 := by
    intro d
    induction d with
    | zero =>
      intro i w1 f hi hiL ⟨g0, g1, g2, g3, g4, g5, g6, g7, g8, g9, g10, g11, g12⟩ hE hf
      have f1 : upd f (2 + k) (nI p) 1 = nI (mL M) := by
        rw [upd_n _ _ (by omega), hf, if_neg (by omega)]
        exact v3.2.1
      refine k_iload_n 8 dX9_comes_7 rfl rfl rfl ?_
      refine k_iload_n 9 dX9_comes_8 rfl rfl rfl ?_
      refine k_icmp_leN 36 12 dX9_comes_9 rfl rfl (by omega) (by omega) (fun c => ?_) (fun c => ?_)
      · refine k_aload_n 37 dX9_comes_36 rfl rfl rfl ?_
        refine k_get 40 dX9_comes_37 rfl fX9_comes_22 (by (repeat (refine Is.ne ?_ (by omega))); first | assumption | exact Is.up (by omega)) (by rfl) ?_
        refine k_iconst (nI 2) 41 dX9_comes_40 rfl kc_2 ?_
        refine k_iload_n 42 dX9_comes_41 rfl rfl rfl ?_
        first | refine k_iaddE _ 43 dX9_comes_42 rfl (nI_add _ _) ?_ | refine k_iadd 43 dX9_comes_42 rfl ?_
        refine k_iload_n 44 dX9_comes_43 rfl rfl rfl ?_
        refine k_iastN 45 dX9_comes_44 rfl (by (repeat (refine Is.ne ?_ (by omega))); first | assumption | exact Is.up (by omega)) (by omega) (by omega) ?_
        refine k_aload_n 46 dX9_comes_45 rfl rfl rfl ?_
        refine k_get 49 dX9_comes_46 rfl fX9_comes_22 (by (repeat (refine Is.ne ?_ (by omega))); first | assumption | exact Is.up (by omega)) (by rfl) ?_
        refine k_iconst (nI 1) 50 dX9_comes_49 rfl kc_1 ?_
        refine k_dup2 51 dX9_comes_50 rfl rfl rfl ?_
        refine k_ialdN 52 dX9_comes_51 rfl (by (repeat (refine Is.ne ?_ (by omega))); first | assumption | exact Is.up (by omega)) (by omega) (by omega) ?_
        rw [f1]
        refine k_iconst (nI 1) 53 dX9_comes_52 rfl kc_1 ?_
        first | refine k_iaddE _ 54 dX9_comes_53 rfl (nI_add _ _) ?_ | refine k_iadd 54 dX9_comes_53 rfl ?_
        refine k_iastN 55 dX9_comes_54 rfl (by (repeat (refine Is.ne ?_ (by omega))); first | assumption | exact Is.up (by omega)) (by omega) (by omega) ?_
        refine k_aload_n 56 dX9_comes_55 rfl rfl rfl ?_
        refine k_get 59 dX9_comes_56 rfl fX9_comes_22 (by (repeat (refine Is.ne ?_ (by omega))); first | assumption | exact Is.up (by omega)) (by rfl) ?_
        refine k_bipush (nI 9) 61 dX9_comes_59 rfl kb_9 ?_
        refine k_iload_n 62 dX9_comes_61 rfl rfl rfl ?_
        first | refine k_iaddE _ 63 dX9_comes_62 rfl (nI_add _ _) ?_ | refine k_iadd 63 dX9_comes_62 rfl ?_
        refine k_iconst (nI 0) 64 dX9_comes_63 rfl kc_0 ?_
        refine k_iastN 65 dX9_comes_64 rfl (by (repeat (refine Is.ne ?_ (by omega))); first | assumption | exact Is.up (by omega)) (by omega) (by omega) ?_
        refine k_vret dX9_comes_65 rfl rfl (Nat.le_of_ble_eq_true rfl) ⟨rfl, ⟨at_, tx, to_, dr, be, _, pa, im, nt, ah, sd, gr, ro, ⟨(by (repeat (refine Is.ne ?_ (by omega))); first | assumption | exact Is.up (by omega)), (by (repeat (refine Is.ne ?_ (by omega))); first | assumption | exact Is.up (by omega)), (by (repeat (refine Is.ne ?_ (by omega))); first | assumption | exact Is.up (by omega)), (by (repeat (refine Is.ne ?_ (by omega))); first | assumption | exact Is.up (by omega)), (by (repeat (refine Is.ne ?_ (by omega))); first | assumption | exact Is.up (by omega)), (by (repeat (refine Is.ne ?_ (by omega))); first | assumption | exact Is.up (by omega)), (by (repeat (refine Is.ne ?_ (by omega))); first | assumption | exact Is.up (by omega)), (by (repeat (refine Is.ne ?_ (by omega))); first | assumption | exact Is.up (by omega)), (by (repeat (refine Is.ne ?_ (by omega))); first | assumption | exact Is.up (by omega)), (by (repeat (refine Is.ne ?_ (by omega))); first | assumption | exact Is.up (by omega)), (by (repeat (refine Is.ne ?_ (by omega))); first | assumption | exact Is.up (by omega)), (by (repeat (refine Is.ne ?_ (by omega))); first | assumption | exact Is.up (by omega)), (by (repeat (refine Is.ne ?_ (by omega))); first | assumption | exact Is.up (by omega))⟩, v1, v2, V72_ins v3 hn7 hL hp hk (fun j => by rw [hf j, show i = k by omega]), v4, v5, v6, v7, v8⟩, (by (repeat (refine Eqx.up ?_ (by omega) (by omega))); first | exact Eqx.rf | assumption)⟩
      · omega
    | succ d ih =>
      intro i w1 f hi hiL ⟨g0, g1, g2, g3, g4, g5, g6, g7, g8, g9, g10, g11, g12⟩ hE hf
      obtain ⟨i, rfl⟩ : ∃ z, i = z + 1 := ⟨i - 1, by omega⟩
      refine k_iload_n 8 dX9_comes_7 rfl rfl rfl ?_
      refine k_iload_n 9 dX9_comes_8 rfl rfl rfl ?_
      refine k_icmp_leN 36 12 dX9_comes_9 rfl rfl (by omega) (by omega) (fun c => ?_) (fun c => ?_)
      · omega
      · refine k_aload_n 13 dX9_comes_12 rfl rfl rfl ?_
        refine k_get 16 dX9_comes_13 rfl fX9_comes_22 (by (repeat (refine Is.ne ?_ (by omega))); first | assumption | exact Is.up (by omega)) (by rfl) ?_
        refine k_iconst (nI 2) 17 dX9_comes_16 rfl kc_2 ?_
        refine k_iload_n 18 dX9_comes_17 rfl rfl rfl ?_
        first | refine k_iaddE _ 19 dX9_comes_18 rfl (nI_add _ _) ?_ | refine k_iadd 19 dX9_comes_18 rfl ?_
        refine k_aload_n 20 dX9_comes_19 rfl rfl rfl ?_
        refine k_get 23 dX9_comes_20 rfl fX9_comes_22 (by (repeat (refine Is.ne ?_ (by omega))); first | assumption | exact Is.up (by omega)) (by rfl) ?_
        refine k_iconst (nI 2) 24 dX9_comes_23 rfl kc_2 ?_
        refine k_iload_n 25 dX9_comes_24 rfl rfl rfl ?_
        first | refine k_iaddE _ 26 dX9_comes_25 rfl (nI_add _ _) ?_ | refine k_iadd 26 dX9_comes_25 rfl ?_
        refine k_iconst (nI 1) 27 dX9_comes_26 rfl kc_1 ?_
        first | refine k_isubE _ 28 dX9_comes_27 rfl (pk_sub (by omega)) ?_ | refine k_isub 28 dX9_comes_27 rfl ?_
        refine k_ialdN 29 dX9_comes_28 rfl (by (repeat (refine Is.ne ?_ (by omega))); first | assumption | exact Is.up (by omega)) (by omega) (by omega) ?_
        refine k_iastN 30 dX9_comes_29 rfl (by (repeat (refine Is.ne ?_ (by omega))); first | assumption | exact Is.up (by omega)) (by omega) (by omega) ?_
        refine k_iinc _ _ 33 dX9_comes_30 rfl rfl (nI_dec _) (by decide) rfl rfl ?_
        refine k_goto 7 dX9_comes_33 rfl ?_
        refine ih i _ (upd f (2 + (i + 1)) (f (2 + (i + 1) - 1))) (by omega) (by omega) ?_ ?_ (fun j => ?_)
        · exact ⟨(by (repeat (refine Is.ne ?_ (by omega))); first | assumption | exact Is.up (by omega)), (by (repeat (refine Is.ne ?_ (by omega))); first | assumption | exact Is.up (by omega)), (by (repeat (refine Is.ne ?_ (by omega))); first | assumption | exact Is.up (by omega)), (by (repeat (refine Is.ne ?_ (by omega))); first | assumption | exact Is.up (by omega)), (by (repeat (refine Is.ne ?_ (by omega))); first | assumption | exact Is.up (by omega)), (by (repeat (refine Is.ne ?_ (by omega))); first | assumption | exact Is.up (by omega)), (by (repeat (refine Is.ne ?_ (by omega))); first | assumption | exact Is.up (by omega)), (by (repeat (refine Is.ne ?_ (by omega))); first | assumption | exact Is.up (by omega)), (by (repeat (refine Is.ne ?_ (by omega))); first | assumption | exact Is.up (by omega)), (by (repeat (refine Is.ne ?_ (by omega))); first | assumption | exact Is.up (by omega)), (by (repeat (refine Is.ne ?_ (by omega))); first | assumption | exact Is.up (by omega)), (by (repeat (refine Is.ne ?_ (by omega))); first | assumption | exact Is.up (by omega)), (by (repeat (refine Is.ne ?_ (by omega))); first | assumption | exact Is.up (by omega))⟩
        · exact (by (repeat (refine Eqx.up ?_ (by omega) (by omega))); first | exact Eqx.rf | assumption)
        by_cases e : j = 2 + (i + 1)
        · subst e
          rw [upd_s, hf, if_neg (by omega), if_pos (by omega)]
        · rw [upd_n _ _ e, hf j]
          by_cases e2 : 2 + (i + 1) < j ∧ j ≤ 2 + mL M
          · rw [if_pos e2, if_pos (by omega)]
          · rw [if_neg e2, if_neg (by omega)]
  refine loop (mL M - k) (mL M) _ s (by omega) (by omega) ?_ ?_ (fun j => by rw [if_neg (by omega)])
  · exact ⟨(by (repeat (refine Is.ne ?_ (by omega))); first | assumption | exact Is.up (by omega)), (by (repeat (refine Is.ne ?_ (by omega))); first | assumption | exact Is.up (by omega)), (by (repeat (refine Is.ne ?_ (by omega))); first | assumption | exact Is.up (by omega)), (by (repeat (refine Is.ne ?_ (by omega))); first | assumption | exact Is.up (by omega)), (by (repeat (refine Is.ne ?_ (by omega))); first | assumption | exact Is.up (by omega)), (by (repeat (refine Is.ne ?_ (by omega))); first | assumption | exact Is.up (by omega)), (by (repeat (refine Is.ne ?_ (by omega))); first | assumption | exact Is.up (by omega)), (by (repeat (refine Is.ne ?_ (by omega))); first | assumption | exact Is.up (by omega)), (by (repeat (refine Is.ne ?_ (by omega))); first | assumption | exact Is.up (by omega)), (by (repeat (refine Is.ne ?_ (by omega))); first | assumption | exact Is.up (by omega)), (by (repeat (refine Is.ne ?_ (by omega))); first | assumption | exact Is.up (by omega)), (by (repeat (refine Is.ne ?_ (by omega))); first | assumption | exact Is.up (by omega)), (by (repeat (refine Is.ne ?_ (by omega))); first | assumption | exact Is.up (by omega))⟩
  · exact (by (repeat (refine Eqx.up ?_ (by omega) (by omega))); first | exact Eqx.rf | assumption)
theorem c_X9_holds {G : KG} {N : Nat} {w : WD} {b : Nat} {S : St} {M : Mo} {oA : Option Mo} (h : RsM G N w b S M oA) (hn7 : oN (qF S) ≤ 7) (hL : mL M ≤ 7) : KCon G jX9_holds N w [rf G b] (RqO G N w b none S M (some M)) := by
  obtain ⟨at_, tx, to_, dr, be, s, pa, im, nt, ah, sd, gr, ro, ⟨g0, g1, g2, g3, g4, g5, g6, g7, g8, g9, g10, g11, g12⟩, v1, v2, v3, v4, v5, v6, v7, v8⟩ := h
  have hN := g12.1
  refine KCon.of ([some (rf G b), none]) (by decide) rfl (by simp [Value.category]) (Nat.le_of_ble_eq_true rfl) rfl ?_
  refine k_iconst (nI 0) 1 dX9_holds_0 rfl kc_0 ?_
  refine k_istore_n _ 2 dX9_holds_1 rfl rfl (by decide) rfl rfl ?_
  have loop : ∀ d i (w1 : WD) (f : Nat → Int32), i + d = 72 → RsC G N w1 b (qt S) (qP S).length (qK S).length (qm S) (.int at_) tx to_ dr be s pa im nt ah f gr ro → Eqx w w1 b (b + 12) → (∀ j, j < i → f j = s j) → KRun G jX9_holds N (RqO G N w b none S M (some M)) 2 [some (rf G b), some (.int (nI i))] [] 0 0 w1 := by
    intro d
    induction d with
    | zero =>
      intro i w1 f hi hC hE hf
      refine k_iload_n 3 dX9_holds_2 rfl rfl rfl ?_
      refine k_bipush (nI 72) 5 dX9_holds_3 rfl kb_72 ?_
      refine k_icmp_geN 26 8 dX9_holds_5 rfl rfl (by omega) (by omega) (fun c => ?_) (fun c => ?_)
      · refine k_vret dX9_holds_26 rfl rfl (Nat.le_of_ble_eq_true rfl) ⟨rfl, ⟨at_, tx, to_, dr, be, s, pa, im, nt, ah, f, gr, ro, hC, v1, v2, v3, v4, v5, v6, (fun A hA => by cases hA; exact v3.cg hn7 hL (fun j hj => hf j (by omega))), v8⟩, hE⟩
      · omega
    | succ d ih =>
      intro i w1 f hi ⟨g0, g1, g2, g3, g4, g5, g6, g7, g8, g9, g10, g11, g12⟩ hE hf
      refine k_iload_n 3 dX9_holds_2 rfl rfl rfl ?_
      refine k_bipush (nI 72) 5 dX9_holds_3 rfl kb_72 ?_
      refine k_icmp_geN 26 8 dX9_holds_5 rfl rfl (by omega) (by omega) (fun c => ?_) (fun c => ?_)
      · omega
      · refine k_aload_n 9 dX9_holds_8 rfl rfl rfl ?_
        refine k_get 12 dX9_holds_9 rfl fX9_holds_37 (by (repeat (refine Is.ne ?_ (by omega))); first | assumption | exact Is.up (by omega)) (by rfl) ?_
        refine k_iload_n 13 dX9_holds_12 rfl rfl rfl ?_
        refine k_aload_n 14 dX9_holds_13 rfl rfl rfl ?_
        refine k_get 17 dX9_holds_14 rfl fX9_holds_22 (by (repeat (refine Is.ne ?_ (by omega))); first | assumption | exact Is.up (by omega)) (by rfl) ?_
        refine k_iload_n 18 dX9_holds_17 rfl rfl rfl ?_
        refine k_ialdN 19 dX9_holds_18 rfl (by (repeat (refine Is.ne ?_ (by omega))); first | assumption | exact Is.up (by omega)) (by omega) (by omega) ?_
        refine k_iastN 20 dX9_holds_19 rfl (by (repeat (refine Is.ne ?_ (by omega))); first | assumption | exact Is.up (by omega)) (by omega) (by omega) ?_
        refine k_iinc _ _ 23 dX9_holds_20 rfl rfl (nI_inc _) (by decide) rfl rfl ?_
        refine k_goto 2 dX9_holds_23 rfl ?_
        refine ih (i + 1) _ (upd f i (s i)) (by omega) ?_ ?_ (fun j hj => ?_)
        · exact ⟨(by (repeat (refine Is.ne ?_ (by omega))); first | assumption | exact Is.up (by omega)), (by (repeat (refine Is.ne ?_ (by omega))); first | assumption | exact Is.up (by omega)), (by (repeat (refine Is.ne ?_ (by omega))); first | assumption | exact Is.up (by omega)), (by (repeat (refine Is.ne ?_ (by omega))); first | assumption | exact Is.up (by omega)), (by (repeat (refine Is.ne ?_ (by omega))); first | assumption | exact Is.up (by omega)), (by (repeat (refine Is.ne ?_ (by omega))); first | assumption | exact Is.up (by omega)), (by (repeat (refine Is.ne ?_ (by omega))); first | assumption | exact Is.up (by omega)), (by (repeat (refine Is.ne ?_ (by omega))); first | assumption | exact Is.up (by omega)), (by (repeat (refine Is.ne ?_ (by omega))); first | assumption | exact Is.up (by omega)), (by (repeat (refine Is.ne ?_ (by omega))); first | assumption | exact Is.up (by omega)), (by (repeat (refine Is.ne ?_ (by omega))); first | assumption | exact Is.up (by omega)), (by (repeat (refine Is.ne ?_ (by omega))); first | assumption | exact Is.up (by omega)), (by (repeat (refine Is.ne ?_ (by omega))); first | assumption | exact Is.up (by omega))⟩
        · exact (by (repeat (refine Eqx.up ?_ (by omega) (by omega))); first | exact Eqx.rf | assumption)
        by_cases e : j = i
        · rw [e, upd_s]
        · rw [upd_n _ _ e, hf j (by omega)]
  refine loop 72 0 _ sd (by omega) ?_ ?_ (fun j hj => by omega)
  · exact ⟨(by (repeat (refine Is.ne ?_ (by omega))); first | assumption | exact Is.up (by omega)), (by (repeat (refine Is.ne ?_ (by omega))); first | assumption | exact Is.up (by omega)), (by (repeat (refine Is.ne ?_ (by omega))); first | assumption | exact Is.up (by omega)), (by (repeat (refine Is.ne ?_ (by omega))); first | assumption | exact Is.up (by omega)), (by (repeat (refine Is.ne ?_ (by omega))); first | assumption | exact Is.up (by omega)), (by (repeat (refine Is.ne ?_ (by omega))); first | assumption | exact Is.up (by omega)), (by (repeat (refine Is.ne ?_ (by omega))); first | assumption | exact Is.up (by omega)), (by (repeat (refine Is.ne ?_ (by omega))); first | assumption | exact Is.up (by omega)), (by (repeat (refine Is.ne ?_ (by omega))); first | assumption | exact Is.up (by omega)), (by (repeat (refine Is.ne ?_ (by omega))); first | assumption | exact Is.up (by omega)), (by (repeat (refine Is.ne ?_ (by omega))); first | assumption | exact Is.up (by omega)), (by (repeat (refine Is.ne ?_ (by omega))); first | assumption | exact Is.up (by omega)), (by (repeat (refine Is.ne ?_ (by omega))); first | assumption | exact Is.up (by omega))⟩
  · exact (by (repeat (refine Eqx.up ?_ (by omega) (by omega))); first | exact Eqx.rf | assumption)
theorem c_X9_backs {G : KG} {N : Nat} {w : WD} {b : Nat} {S : St} {M A : Mo} (h : RsM G N w b S M (some A)) (hn7 : oN (qF S) ≤ 7) (hL : mL A ≤ 7) : KCon G jX9_backs N w [rf G b] (RqO G N w b none S A (some A)) := by
  obtain ⟨at_, tx, to_, dr, be, s, pa, im, nt, ah, sd, gr, ro, ⟨g0, g1, g2, g3, g4, g5, g6, g7, g8, g9, g10, g11, g12⟩, v1, v2, v3, v4, v5, v6, v7, v8⟩ := h
  have hN := g12.1
  refine KCon.of ([some (rf G b), none]) (by decide) rfl (by simp [Value.category]) (Nat.le_of_ble_eq_true rfl) rfl ?_
  refine k_iconst (nI 0) 1 dX9_backs_0 rfl kc_0 ?_
  refine k_istore_n _ 2 dX9_backs_1 rfl rfl (by decide) rfl rfl ?_
  have loop : ∀ d i (w1 : WD) (f : Nat → Int32), i + d = 72 → RsC G N w1 b (qt S) (qP S).length (qK S).length (qm S) (.int at_) tx to_ dr be f pa im nt ah sd gr ro → Eqx w w1 b (b + 12) → (∀ j, j < i → f j = sd j) → KRun G jX9_backs N (RqO G N w b none S A (some A)) 2 [some (rf G b), some (.int (nI i))] [] 0 0 w1 := by
    intro d
    induction d with
    | zero =>
      intro i w1 f hi hC hE hf
      refine k_iload_n 3 dX9_backs_2 rfl rfl rfl ?_
      refine k_bipush (nI 72) 5 dX9_backs_3 rfl kb_72 ?_
      refine k_icmp_geN 26 8 dX9_backs_5 rfl rfl (by omega) (by omega) (fun c => ?_) (fun c => ?_)
      · refine k_vret dX9_backs_26 rfl rfl (Nat.le_of_ble_eq_true rfl) ⟨rfl, ⟨at_, tx, to_, dr, be, f, pa, im, nt, ah, sd, gr, ro, hC, v1, v2, (v7 A rfl).cg hn7 hL (fun j hj => hf j (by omega)), v4, v5, v6, v7, v8⟩, hE⟩
      · omega
    | succ d ih =>
      intro i w1 f hi ⟨g0, g1, g2, g3, g4, g5, g6, g7, g8, g9, g10, g11, g12⟩ hE hf
      refine k_iload_n 3 dX9_backs_2 rfl rfl rfl ?_
      refine k_bipush (nI 72) 5 dX9_backs_3 rfl kb_72 ?_
      refine k_icmp_geN 26 8 dX9_backs_5 rfl rfl (by omega) (by omega) (fun c => ?_) (fun c => ?_)
      · omega
      · refine k_aload_n 9 dX9_backs_8 rfl rfl rfl ?_
        refine k_get 12 dX9_backs_9 rfl fX9_backs_22 (by (repeat (refine Is.ne ?_ (by omega))); first | assumption | exact Is.up (by omega)) (by rfl) ?_
        refine k_iload_n 13 dX9_backs_12 rfl rfl rfl ?_
        refine k_aload_n 14 dX9_backs_13 rfl rfl rfl ?_
        refine k_get 17 dX9_backs_14 rfl fX9_backs_37 (by (repeat (refine Is.ne ?_ (by omega))); first | assumption | exact Is.up (by omega)) (by rfl) ?_
        refine k_iload_n 18 dX9_backs_17 rfl rfl rfl ?_
        refine k_ialdN 19 dX9_backs_18 rfl (by (repeat (refine Is.ne ?_ (by omega))); first | assumption | exact Is.up (by omega)) (by omega) (by omega) ?_
        refine k_iastN 20 dX9_backs_19 rfl (by (repeat (refine Is.ne ?_ (by omega))); first | assumption | exact Is.up (by omega)) (by omega) (by omega) ?_
        refine k_iinc _ _ 23 dX9_backs_20 rfl rfl (nI_inc _) (by decide) rfl rfl ?_
        refine k_goto 2 dX9_backs_23 rfl ?_
        refine ih (i + 1) _ (upd f i (sd i)) (by omega) ?_ ?_ (fun j hj => ?_)
        · exact ⟨(by (repeat (refine Is.ne ?_ (by omega))); first | assumption | exact Is.up (by omega)), (by (repeat (refine Is.ne ?_ (by omega))); first | assumption | exact Is.up (by omega)), (by (repeat (refine Is.ne ?_ (by omega))); first | assumption | exact Is.up (by omega)), (by (repeat (refine Is.ne ?_ (by omega))); first | assumption | exact Is.up (by omega)), (by (repeat (refine Is.ne ?_ (by omega))); first | assumption | exact Is.up (by omega)), (by (repeat (refine Is.ne ?_ (by omega))); first | assumption | exact Is.up (by omega)), (by (repeat (refine Is.ne ?_ (by omega))); first | assumption | exact Is.up (by omega)), (by (repeat (refine Is.ne ?_ (by omega))); first | assumption | exact Is.up (by omega)), (by (repeat (refine Is.ne ?_ (by omega))); first | assumption | exact Is.up (by omega)), (by (repeat (refine Is.ne ?_ (by omega))); first | assumption | exact Is.up (by omega)), (by (repeat (refine Is.ne ?_ (by omega))); first | assumption | exact Is.up (by omega)), (by (repeat (refine Is.ne ?_ (by omega))); first | assumption | exact Is.up (by omega)), (by (repeat (refine Is.ne ?_ (by omega))); first | assumption | exact Is.up (by omega))⟩
        · exact (by (repeat (refine Eqx.up ?_ (by omega) (by omega))); first | exact Eqx.rf | assumption)
        by_cases e : j = i
        · rw [e, upd_s]
        · rw [upd_n _ _ e, hf j (by omega)]
  refine loop 72 0 _ s (by omega) ?_ ?_ (fun j hj => by omega)
  · exact ⟨(by (repeat (refine Is.ne ?_ (by omega))); first | assumption | exact Is.up (by omega)), (by (repeat (refine Is.ne ?_ (by omega))); first | assumption | exact Is.up (by omega)), (by (repeat (refine Is.ne ?_ (by omega))); first | assumption | exact Is.up (by omega)), (by (repeat (refine Is.ne ?_ (by omega))); first | assumption | exact Is.up (by omega)), (by (repeat (refine Is.ne ?_ (by omega))); first | assumption | exact Is.up (by omega)), (by (repeat (refine Is.ne ?_ (by omega))); first | assumption | exact Is.up (by omega)), (by (repeat (refine Is.ne ?_ (by omega))); first | assumption | exact Is.up (by omega)), (by (repeat (refine Is.ne ?_ (by omega))); first | assumption | exact Is.up (by omega)), (by (repeat (refine Is.ne ?_ (by omega))); first | assumption | exact Is.up (by omega)), (by (repeat (refine Is.ne ?_ (by omega))); first | assumption | exact Is.up (by omega)), (by (repeat (refine Is.ne ?_ (by omega))); first | assumption | exact Is.up (by omega)), (by (repeat (refine Is.ne ?_ (by omega))); first | assumption | exact Is.up (by omega)), (by (repeat (refine Is.ne ?_ (by omega))); first | assumption | exact Is.up (by omega))⟩
  · exact (by (repeat (refine Eqx.up ?_ (by omega) (by omega))); first | exact Eqx.rf | assumption)
theorem c_X9_mayLet {G : KG} {N : Nat} {w : WD} {b p q n : Nat} {S : St} {M : Mo} {oA : Option Mo} (h : RsM G N w b S M oA) (hO : mOK n M) (hp : p < n) (hq : q < n) : KCon G jX9_mayLet N w [rf G b, .int (nI p), .int (nI q)] (fun r w1 => r = some (.int (bI (mayl M p q))) ∧ w1 = w) := by
  have h' := h
  obtain ⟨at_, tx, to_, dr, be, s, pa, im, nt, ah, sd, gr, ro, ⟨g0, -⟩, -⟩ := h'
  have hL7 := ok_l7 hO
  refine KCon.of ([some (rf G b), some (.int (nI p)), some (.int (nI q))]) (by decide) rfl (by simp [Value.category]) (Nat.le_of_ble_eq_true rfl) rfl ?_
  refine k_aload_n 1 dX9_mayLet_0 rfl rfl rfl ?_
  refine k_iload_n 2 dX9_mayLet_1 rfl rfl rfl ?_
  refine k_V1 (ci := 8) 5 dX9_mayLet_2 rfl vX9_mayLet_105 (by (repeat (refine Is.ne ?_ (by omega))); first | assumption | exact Is.up (by omega)) rfl rfl (Nat.le_of_ble_eq_true rfl) rfl ⟨Nat.le_of_ble_eq_true rfl, Nat.le_of_ble_eq_true rfl⟩ (c_X9_pl h hO hp) (fun r9 w9 h9 => ?_)
  obtain ⟨h8, h9⟩ := h9
  subst h8
  have h9 := h9.symm
  subst h9
  cases e1 : plc M p with
  | none =>
    have e : mayl M p q = false := by
      unfold mayl
      rw [e1]
    rw [e]
    refine k_tp (.int (-4)) rfl ?_
    refine k_if_lt 25 8 dX9_mayLet_5 rfl rfl (fun c => ?_) (fun c => ?_)
    · refine k_iconst (nI 0) 26 dX9_mayLet_25 rfl kc_0 ?_
      refine k_zret dX9_mayLet_26 rfl rfl rfl (Nat.le_of_ble_eq_true rfl) ⟨rfl, rfl⟩
    · exact absurd (show (-4 : Int32) < 0 by decide) c
  | some i =>
    have hi := (plc_some e1).1
    refine k_tp (.int (nI i)) rfl ?_
    refine k_if_ltN 25 8 dX9_mayLet_5 rfl rfl (by omega) (fun c => ?_) (fun c => ?_)
    · omega
    · refine k_aload_n 9 dX9_mayLet_8 rfl rfl rfl ?_
      refine k_iload_n 10 dX9_mayLet_9 rfl rfl rfl ?_
      refine k_V1 (ci := 8) 13 dX9_mayLet_10 rfl vX9_mayLet_105 (by (repeat (refine Is.ne ?_ (by omega))); first | assumption | exact Is.up (by omega)) rfl rfl (Nat.le_of_ble_eq_true rfl) rfl ⟨Nat.le_of_ble_eq_true rfl, Nat.le_of_ble_eq_true rfl⟩ (c_X9_pl h hO hq) (fun r9 w9 h9 => ?_)
      obtain ⟨h8, h9⟩ := h9
      subst h8
      have h9 := h9.symm
      subst h9
      refine k_aload_n 14 dX9_mayLet_13 rfl rfl rfl ?_
      refine k_iload_n 15 dX9_mayLet_14 rfl rfl rfl ?_
      refine k_V1 (ci := 8) 18 dX9_mayLet_15 rfl vX9_mayLet_105 (by (repeat (refine Is.ne ?_ (by omega))); first | assumption | exact Is.up (by omega)) rfl rfl (Nat.le_of_ble_eq_true rfl) rfl ⟨Nat.le_of_ble_eq_true rfl, Nat.le_of_ble_eq_true rfl⟩ (c_X9_pl h hO hp) (fun r9 w9 h9 => ?_)
      obtain ⟨h8, h9⟩ := h9
      subst h8
      have h9 := h9.symm
      subst h9
      rw [e1]
      cases e2 : plc M q with
      | none =>
        have e : mayl M p q = false := by
          unfold mayl
          rw [e1, e2]
        rw [e]
        refine k_tp (.int (nI i)) rfl ?_
        refine k_icmp_le 25 21 dX9_mayLet_18 rfl rfl (fun c => ?_) (fun c => absurd ?_ c)
        · refine k_iconst (nI 0) 26 dX9_mayLet_25 rfl kc_0 ?_
          refine k_zret dX9_mayLet_26 rfl rfl rfl (Nat.le_of_ble_eq_true rfl) ⟨rfl, rfl⟩
        · show (-4 : Int32) ≤ nI i
          rw [Int32.le_iff_toInt_le, nI_toInt (by omega), show (-4 : Int32).toInt = -4 from rfl]
          omega
      | some j =>
        have hj := (plc_some e2).1
        have e : mayl M p q = decide (i < j) := by
          unfold mayl
          rw [e1, e2]
        rw [e]
        refine k_icmp_leN (a := j) (b := i) 25 21 dX9_mayLet_18 rfl rfl (by omega) (by omega) (fun c => ?_) (fun c => ?_)
        · rw [decide_eq_false (by omega)]
          refine k_iconst (nI 0) 26 dX9_mayLet_25 rfl kc_0 ?_
          refine k_zret dX9_mayLet_26 rfl rfl rfl (Nat.le_of_ble_eq_true rfl) ⟨rfl, rfl⟩
        · rw [decide_eq_true (by omega)]
          refine k_iconst (nI 1) 22 dX9_mayLet_21 rfl kc_1 ?_
          refine k_goto 26 dX9_mayLet_22 rfl ?_
          refine k_zret dX9_mayLet_26 rfl rfl rfl (Nat.le_of_ble_eq_true rfl) ⟨rfl, rfl⟩
theorem c_X9_lets {G : KG} {N : Nat} {w : WD} {b p q : Nat} {S : St} {M : Mo} {oA : Option Mo} (h : RsM G N w b S M oA) (hO : mOK (oN (qF S)) M) (hl : mayl M p q = true) : KCon G jX9_lets N w [rf G b, .int (nI p), .int (nI q)] (RqO G N w b none S (letp M p q) oA) := by
  have hn7 := hO.2.1
  have hL7 := ok_l7 hO
  unfold mayl at hl
  cases e1 : plc M p with
  | none => rw [e1] at hl; exact absurd hl (by simp)
  | some i =>
    cases e2 : plc M q with
    | none => rw [e1, e2] at hl; exact absurd hl (by simp)
    | some j =>
      rw [e1, e2] at hl
      have hij : i < j := by simpa using hl
      obtain ⟨hi1, hi2⟩ := plc_some e1
      obtain ⟨hj1, hj2⟩ := plc_some e2
      have hp := hO.2.2.1 i hi1
      have hq := hO.2.2.1 j hj1
      rw [hi2] at hp
      rw [hj2] at hq
      have hr := ok_rem hO (k := j) (st := 2) hj1 (by omega) (by omega)
      have hl7 := ok_l7 hr
      have hq7 := ok_q7 hr
      have hu7 := hr.2.2.2.1
      have e3 : letp M p q = ins (rem M j 0) q i := by
        unfold letp
        rw [e1, e2]
        exact ins_rem hj2
      have e4 : plc (rem M j 0) p = some i := by
        have : plc (rem M j 2) p = some i := ok_plc hr (k := i) (by show i < mL M - 1; omega) (by show (if i < j then mQ M i else mQ M (i + 1)) = p; rw [if_pos hij]; exact hi2)
        exact this
      have h' := h
      obtain ⟨at_, tx, to_, dr, be, s, pa, im, nt, ah, sd, gr, ro, ⟨g0, -⟩, -⟩ := h'
      refine KCon.of ([some (rf G b), some (.int (nI p)), some (.int (nI q))]) (by decide) rfl (by simp [Value.category]) (Nat.le_of_ble_eq_true rfl) rfl ?_
      refine k_aload_n 1 dX9_lets_0 rfl rfl rfl ?_
      refine k_aload_n 2 dX9_lets_1 rfl rfl rfl ?_
      refine k_iload_n 3 dX9_lets_2 rfl rfl rfl ?_
      refine k_V1 (ci := 8) 6 dX9_lets_3 rfl vX9_lets_105 (by (repeat (refine Is.ne ?_ (by omega))); first | assumption | exact Is.up (by omega)) rfl rfl (Nat.le_of_ble_eq_true rfl) rfl ⟨Nat.le_of_ble_eq_true rfl, Nat.le_of_ble_eq_true rfl⟩ (c_X9_pl h hO hq) (fun r9 w9 h9 => ?_)
      obtain ⟨h8, h9⟩ := h9
      subst h8
      have h9 := h9.symm
      subst h9
      rw [e2]
      refine k_tp (.int (nI j)) rfl ?_
      refine k_iconst (nI 0) 7 dX9_lets_6 rfl kc_0 ?_
      refine k_V2 (ci := 8) 10 dX9_lets_7 rfl vX9_lets_115 (by (repeat (refine Is.ne ?_ (by omega))); first | assumption | exact Is.up (by omega)) rfl rfl (Nat.le_of_ble_eq_true rfl) rfl ⟨Nat.le_of_ble_eq_true rfl, Nat.le_of_ble_eq_true rfl⟩ (c_X9_goes h hO.p hj1) (fun r1 w1 x1 => ?_)
      obtain ⟨rfl, hR1, hE1⟩ := x1
      have h1' := hR1
      obtain ⟨at1, tx1, to1, dr1, be1, s1, pa1, im1, nt1, ah1, sd1, gr1, ro1, ⟨g01, -⟩, -⟩ := h1'
      refine k_aload_n 11 dX9_lets_10 rfl rfl rfl ?_
      refine k_iload_n 12 dX9_lets_11 rfl rfl rfl ?_
      refine k_aload_n 13 dX9_lets_12 rfl rfl rfl ?_
      refine k_iload_n 14 dX9_lets_13 rfl rfl rfl ?_
      refine k_V1 (ci := 8) 17 dX9_lets_14 rfl vX9_lets_105 (by (repeat (refine Is.ne ?_ (by omega))); first | assumption | exact Is.up (by omega)) rfl rfl (Nat.le_of_ble_eq_true rfl) rfl ⟨Nat.le_of_ble_eq_true rfl, Nat.le_of_ble_eq_true rfl⟩ (c_X9_placeOf hR1 hl7 hq7 hu7 (by omega)) (fun r9 w9 h9 => ?_)
      obtain ⟨h8, h9⟩ := h9
      subst h8
      have h9 := h9.symm
      subst h9
      rw [e4]
      refine k_tp (.int (nI i)) rfl ?_
      refine k_V2 (ci := 8) 20 dX9_lets_17 rfl vX9_lets_126 (by (repeat (refine Is.ne ?_ (by omega))); first | assumption | exact Is.up (by omega)) rfl rfl (Nat.le_of_ble_eq_true rfl) rfl ⟨Nat.le_of_ble_eq_true rfl, Nat.le_of_ble_eq_true rfl⟩ (c_X9_comes hR1 hn7 (show mL M - 1 < 7 by omega) hq (show i ≤ mL M - 1 by omega)) (fun r2 w2 x2 => ?_)
      obtain ⟨rfl, hR2, hE2⟩ := x2
      refine k_vret dX9_lets_20 rfl rfl (Nat.le_of_ble_eq_true rfl) ⟨rfl, e3 ▸ hR2, hE1.tr hE2⟩
theorem c_X9_canPay {G : KG} {N : Nat} {w : WD} {b p q : Nat} {S : St} {M : Mo} {oA : Option Mo} (h : RsM G N w b S M oA) (hO : mOK (oN (qF S)) M) (hp : p < oN (qF S)) (hq : q < oN (qF S)) : KCon G jX9_canPay N w [rf G b, .int (nI p), .int (nI q)] (fun r w1 => r = some (.int (nI (pyb M p q))) ∧ w1 = w) := by
  obtain ⟨at_, tx, to_, dr, be, s, pa, im, nt, ah, sd, gr, ro, ⟨g0, g1, g2, g3, g4, g5, g6, g7, g8, g9, g10, g11, g12⟩, v1, v2, v3, v4, v5, v6, v7, v8⟩ := h
  have hn7 := hO.2.1
  have hb1 := ok_d hO (i := 7 * p + q) (by omega)
  have hb2 := ok_p hO (p := p) (by omega)
  refine KCon.of ([some (rf G b), some (.int (nI p)), some (.int (nI q)), none]) (by decide) rfl (by simp [Value.category]) (Nat.le_of_ble_eq_true rfl) rfl ?_
  refine k_aload_n 1 dX9_canPay_0 rfl rfl rfl ?_
  refine k_get 4 dX9_canPay_1 rfl fX9_canPay_22 (by (repeat (refine Is.ne ?_ (by omega))); first | assumption | exact Is.up (by omega)) (by rfl) ?_
  refine k_bipush (nI 23) 6 dX9_canPay_4 rfl kb_23 ?_
  refine k_bipush (nI 7) 8 dX9_canPay_6 rfl kb_7 ?_
  refine k_iload_n 9 dX9_canPay_8 rfl rfl rfl ?_
  first | refine k_imulE _ 10 dX9_canPay_9 rfl (pk_mul _ _) ?_ | refine k_imul 10 dX9_canPay_9 rfl ?_
  first | refine k_iaddE _ 11 dX9_canPay_10 rfl (nI_add _ _) ?_ | refine k_iadd 11 dX9_canPay_10 rfl ?_
  refine k_iload_n 12 dX9_canPay_11 rfl rfl rfl ?_
  first | refine k_iaddE _ 13 dX9_canPay_12 rfl (nI_add _ _) ?_ | refine k_iadd 13 dX9_canPay_12 rfl ?_
  refine k_ialdN 14 dX9_canPay_13 rfl (by (repeat (refine Is.ne ?_ (by omega))); first | assumption | exact Is.up (by omega)) (by omega) (by omega) ?_
  rw [v3.d (a := p) (c := q) (by omega) (by omega)]
  refine k_istore_n _ 15 dX9_canPay_14 rfl rfl (by decide) rfl rfl ?_
  refine k_iload_n 16 dX9_canPay_15 rfl rfl rfl ?_
  refine k_aload_n 17 dX9_canPay_16 rfl rfl rfl ?_
  refine k_get 20 dX9_canPay_17 rfl fX9_canPay_22 (by (repeat (refine Is.ne ?_ (by omega))); first | assumption | exact Is.up (by omega)) (by rfl) ?_
  refine k_bipush (nI 16) 22 dX9_canPay_20 rfl kb_16 ?_
  refine k_iload_n 23 dX9_canPay_22 rfl rfl rfl ?_
  first | refine k_iaddE _ 24 dX9_canPay_23 rfl (nI_add _ _) ?_ | refine k_iadd 24 dX9_canPay_23 rfl ?_
  refine k_ialdN 25 dX9_canPay_24 rfl (by (repeat (refine Is.ne ?_ (by omega))); first | assumption | exact Is.up (by omega)) (by omega) (by omega) ?_
  rw [(v3.2.2.2.1 p hp).2]
  unfold pyb
  refine k_icmp_geN 32 28 dX9_canPay_25 rfl rfl (by omega) (by omega) (fun c => ?_) (fun c => ?_)
  · refine k_aload_n 33 dX9_canPay_32 rfl rfl rfl ?_
    refine k_get 36 dX9_canPay_33 rfl fX9_canPay_22 (by (repeat (refine Is.ne ?_ (by omega))); first | assumption | exact Is.up (by omega)) (by rfl) ?_
    refine k_bipush (nI 16) 38 dX9_canPay_36 rfl kb_16 ?_
    refine k_iload_n 39 dX9_canPay_38 rfl rfl rfl ?_
    first | refine k_iaddE _ 40 dX9_canPay_39 rfl (nI_add _ _) ?_ | refine k_iadd 40 dX9_canPay_39 rfl ?_
    refine k_ialdN 41 dX9_canPay_40 rfl (by (repeat (refine Is.ne ?_ (by omega))); first | assumption | exact Is.up (by omega)) (by omega) (by omega) ?_
    rw [(v3.2.2.2.1 p hp).2]
    refine k_iret dX9_canPay_41 rfl rfl (Nat.le_of_ble_eq_true rfl) ⟨by rw [Nat.min_eq_right c], rfl⟩
  · refine k_iload_n 29 dX9_canPay_28 rfl rfl rfl ?_
    refine k_goto 41 dX9_canPay_29 rfl ?_
    refine k_iret dX9_canPay_41 rfl rfl (Nat.le_of_ble_eq_true rfl) ⟨by rw [Nat.min_eq_left (by omega)], rfl⟩
theorem V72_pay {s : Nat → Int32} {n p q : Nat} {M : Mo} (h : V72 s n M) (hn : n ≤ 7) (hL : mL M ≤ 7) (hp : p < n) (hq : q < n) : V72 (upd (upd (upd s (23 + 7 * p + q) (nI (mD M (7 * p + q) - pyb M p q))) (16 + p) (nI (mP M p - pyb M p q))) (16 + q) (nI (sf (mP M) p (mP M p - pyb M p q) q + pyb M p q))) n (setl M p q) := by
  refine ⟨?_, ?_, fun j hj => ?_, fun r hr => ⟨?_, ?_⟩, fun i hi => ?_⟩
  · rw [upd_n _ _ (by omega), upd_n _ _ (by omega), upd_n _ _ (by omega)]
    exact h.1
  · rw [upd_n _ _ (by omega), upd_n _ _ (by omega), upd_n _ _ (by omega)]
    exact h.2.1
  · have hj : j < mL M := hj
    rw [upd_n _ _ (by omega), upd_n _ _ (by omega), upd_n _ _ (by omega)]
    exact h.2.2.1 j hj
  · rw [upd_n _ _ (by omega), upd_n _ _ (by omega), upd_n _ _ (by omega)]
    exact (h.2.2.2.1 r hr).1
  · show _ = nI (if r = q then sf (mP M) p (mP M p - pyb M p q) q + pyb M p q else sf (mP M) p (mP M p - pyb M p q) r)
    by_cases e : r = q
    · rw [e, upd_s, if_pos rfl]
    · rw [upd_n _ _ (by omega), if_neg e]
      by_cases e2 : r = p
      · rw [e2, upd_s, sf_s]
      · rw [upd_n _ _ (by omega), sf_n _ _ e2, upd_n _ _ (by omega)]
        exact (h.2.2.2.1 r hr).2
  · show _ = nI (sf (mD M) (7 * p + q) (mD M (7 * p + q) - pyb M p q) i)
    rw [upd_n _ _ (by omega), upd_n _ _ (by omega)]
    by_cases e : i = 7 * p + q
    · rw [e, ← Nat.add_assoc, upd_s, sf_s]
    · rw [upd_n _ _ (by omega), sf_n _ _ e]
      exact h.2.2.2.2 i hi
theorem c_X9_pays {G : KG} {N : Nat} {w : WD} {b p q : Nat} {S : St} {M : Mo} {oA : Option Mo} (h : RsM G N w b S M oA) (hO : mOK (oN (qF S)) M) (hp : p < oN (qF S)) (hq : q < oN (qF S)) : KCon G jX9_pays N w [rf G b, .int (nI p), .int (nI q)] (RqO G N w b none S (setl M p q) oA) := by
  have h' := h
  obtain ⟨at_, tx, to_, dr, be, s, pa, im, nt, ah, sd, gr, ro, ⟨g0, g1, g2, g3, g4, g5, g6, g7, g8, g9, g10, g11, g12⟩, v1, v2, v3, v4, v5, v6, v7, v8⟩ := h'
  have hN := g12.1
  have hn7 := hO.2.1
  have hm1 : pyb M p q ≤ mD M (7 * p + q) := Nat.min_le_left _ _
  have hm2 : pyb M p q ≤ mP M p := Nat.min_le_right _ _
  refine KCon.of ([some (rf G b), some (.int (nI p)), some (.int (nI q)), none]) (by decide) rfl (by simp [Value.category]) (Nat.le_of_ble_eq_true rfl) rfl ?_
  refine k_aload_n 1 dX9_pays_0 rfl rfl rfl ?_
  refine k_iload_n 2 dX9_pays_1 rfl rfl rfl ?_
  refine k_iload_n 3 dX9_pays_2 rfl rfl rfl ?_
  refine k_V2 (ci := 8) 6 dX9_pays_3 rfl vX9_pays_136 (by (repeat (refine Is.ne ?_ (by omega))); first | assumption | exact Is.up (by omega)) rfl rfl (Nat.le_of_ble_eq_true rfl) rfl ⟨Nat.le_of_ble_eq_true rfl, Nat.le_of_ble_eq_true rfl⟩ (c_X9_canPay h hO hp hq) (fun r9 w9 h9 => ?_)
  obtain ⟨h8, h9⟩ := h9
  subst h8
  have h9 := h9.symm
  subst h9
  refine k_istore_n _ 7 dX9_pays_6 rfl rfl (by decide) rfl rfl ?_
  refine k_aload_n 8 dX9_pays_7 rfl rfl rfl ?_
  refine k_get 11 dX9_pays_8 rfl fX9_pays_22 (by (repeat (refine Is.ne ?_ (by omega))); first | assumption | exact Is.up (by omega)) (by rfl) ?_
  refine k_bipush (nI 23) 13 dX9_pays_11 rfl kb_23 ?_
  refine k_bipush (nI 7) 15 dX9_pays_13 rfl kb_7 ?_
  refine k_iload_n 16 dX9_pays_15 rfl rfl rfl ?_
  first | refine k_imulE _ 17 dX9_pays_16 rfl (pk_mul _ _) ?_ | refine k_imul 17 dX9_pays_16 rfl ?_
  first | refine k_iaddE _ 18 dX9_pays_17 rfl (nI_add _ _) ?_ | refine k_iadd 18 dX9_pays_17 rfl ?_
  refine k_iload_n 19 dX9_pays_18 rfl rfl rfl ?_
  first | refine k_iaddE _ 20 dX9_pays_19 rfl (nI_add _ _) ?_ | refine k_iadd 20 dX9_pays_19 rfl ?_
  refine k_dup2 21 dX9_pays_20 rfl rfl rfl ?_
  refine k_ialdN 22 dX9_pays_21 rfl (by (repeat (refine Is.ne ?_ (by omega))); first | assumption | exact Is.up (by omega)) (by omega) (by omega) ?_
  rw [v3.d (a := p) (c := q) (by omega) (by omega)]
  refine k_iload_n 23 dX9_pays_22 rfl rfl rfl ?_
  first | refine k_isubE _ 24 dX9_pays_23 rfl (pk_sub (by omega)) ?_ | refine k_isub 24 dX9_pays_23 rfl ?_
  refine k_iastN 25 dX9_pays_24 rfl (by (repeat (refine Is.ne ?_ (by omega))); first | assumption | exact Is.up (by omega)) (by omega) (by omega) ?_
  refine k_aload_n 26 dX9_pays_25 rfl rfl rfl ?_
  refine k_get 29 dX9_pays_26 rfl fX9_pays_22 (by (repeat (refine Is.ne ?_ (by omega))); first | assumption | exact Is.up (by omega)) (by rfl) ?_
  refine k_bipush (nI 16) 31 dX9_pays_29 rfl kb_16 ?_
  refine k_iload_n 32 dX9_pays_31 rfl rfl rfl ?_
  first | refine k_iaddE _ 33 dX9_pays_32 rfl (nI_add _ _) ?_ | refine k_iadd 33 dX9_pays_32 rfl ?_
  refine k_dup2 34 dX9_pays_33 rfl rfl rfl ?_
  refine k_ialdN 35 dX9_pays_34 rfl (by (repeat (refine Is.ne ?_ (by omega))); first | assumption | exact Is.up (by omega)) (by omega) (by omega) ?_
  rw [upd_n _ _ (by omega), (v3.2.2.2.1 p hp).2]
  refine k_iload_n 36 dX9_pays_35 rfl rfl rfl ?_
  first | refine k_isubE _ 37 dX9_pays_36 rfl (pk_sub (by omega)) ?_ | refine k_isub 37 dX9_pays_36 rfl ?_
  refine k_iastN 38 dX9_pays_37 rfl (by (repeat (refine Is.ne ?_ (by omega))); first | assumption | exact Is.up (by omega)) (by omega) (by omega) ?_
  refine k_aload_n 39 dX9_pays_38 rfl rfl rfl ?_
  refine k_get 42 dX9_pays_39 rfl fX9_pays_22 (by (repeat (refine Is.ne ?_ (by omega))); first | assumption | exact Is.up (by omega)) (by rfl) ?_
  refine k_bipush (nI 16) 44 dX9_pays_42 rfl kb_16 ?_
  refine k_iload_n 45 dX9_pays_44 rfl rfl rfl ?_
  first | refine k_iaddE _ 46 dX9_pays_45 rfl (nI_add _ _) ?_ | refine k_iadd 46 dX9_pays_45 rfl ?_
  refine k_dup2 47 dX9_pays_46 rfl rfl rfl ?_
  refine k_ialdN 48 dX9_pays_47 rfl (by (repeat (refine Is.ne ?_ (by omega))); first | assumption | exact Is.up (by omega)) (by omega) (by omega) ?_
  have e3 : upd (upd s (23 + 7 * p + q) (nI (mD M (7 * p + q) - pyb M p q))) (16 + p) (nI (mP M p - pyb M p q)) (16 + q) = nI (sf (mP M) p (mP M p - pyb M p q) q) := by
    by_cases e : q = p
    · rw [e, upd_s, sf_s]
    · rw [upd_n _ _ (by omega), upd_n _ _ (by omega), sf_n _ _ e]
      exact (v3.2.2.2.1 q hq).2
  rw [e3]
  refine k_iload_n 49 dX9_pays_48 rfl rfl rfl ?_
  first | refine k_iaddE _ 50 dX9_pays_49 rfl (nI_add _ _) ?_ | refine k_iadd 50 dX9_pays_49 rfl ?_
  refine k_iastN 51 dX9_pays_50 rfl (by (repeat (refine Is.ne ?_ (by omega))); first | assumption | exact Is.up (by omega)) (by omega) (by omega) ?_
  refine k_vret dX9_pays_51 rfl rfl (Nat.le_of_ble_eq_true rfl) ⟨rfl, ⟨at_, tx, to_, dr, be, _, pa, im, nt, ah, sd, gr, ro, ⟨(by (repeat (refine Is.ne ?_ (by omega))); first | assumption | exact Is.up (by omega)), (by (repeat (refine Is.ne ?_ (by omega))); first | assumption | exact Is.up (by omega)), (by (repeat (refine Is.ne ?_ (by omega))); first | assumption | exact Is.up (by omega)), (by (repeat (refine Is.ne ?_ (by omega))); first | assumption | exact Is.up (by omega)), (by (repeat (refine Is.ne ?_ (by omega))); first | assumption | exact Is.up (by omega)), (by (repeat (refine Is.ne ?_ (by omega))); first | assumption | exact Is.up (by omega)), (by (repeat (refine Is.ne ?_ (by omega))); first | assumption | exact Is.up (by omega)), (by (repeat (refine Is.ne ?_ (by omega))); first | assumption | exact Is.up (by omega)), (by (repeat (refine Is.ne ?_ (by omega))); first | assumption | exact Is.up (by omega)), (by (repeat (refine Is.ne ?_ (by omega))); first | assumption | exact Is.up (by omega)), (by (repeat (refine Is.ne ?_ (by omega))); first | assumption | exact Is.up (by omega)), (by (repeat (refine Is.ne ?_ (by omega))); first | assumption | exact Is.up (by omega)), (by (repeat (refine Is.ne ?_ (by omega))); first | assumption | exact Is.up (by omega))⟩, v1, v2, V72_pay v3 hn7 (ok_l7 hO) hp hq, v4, v5, v6, v7, v8⟩, (by (repeat (refine Eqx.up ?_ (by omega) (by omega))); first | exact Eqx.rf | assumption)⟩
