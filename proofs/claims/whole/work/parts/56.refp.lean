/-! KerbQueueModel: keeps, a minute, being served -/
theorem pst_tk (F : Fo) (g x k : Nat) (M : Mo) : pst F g ((x, M.2) : Mo) k = ((x, (pst F g M k).2) : Mo) := by
  unfold pst
  by_cases c : g % oT F (mQ M k) = 0 ∧ wnt F M (mQ M k) (mQ M (k - 1)) = true
  · rw [if_pos c, if_pos (show g % oT F (mQ ((x, M.2) : Mo) k) = 0 ∧ wnt F ((x, M.2) : Mo) (mQ ((x, M.2) : Mo) k) (mQ ((x, M.2) : Mo) (k - 1)) = true from c)]
    rfl
  · rw [if_neg c, if_neg (show ¬ (g % oT F (mQ ((x, M.2) : Mo) k) = 0 ∧ wnt F ((x, M.2) : Mo) (mQ ((x, M.2) : Mo) k) (mQ ((x, M.2) : Mo) (k - 1)) = true) from c)]
theorem pal_tk (F : Fo) (g x : Nat) (M : Mo) : ∀ j, pal F g ((x, M.2) : Mo) j = ((x, (pal F g M j).2) : Mo) := by
  intro j
  induction j with
  | zero => rfl
  | succ j ih =>
    show pst F g (pal F g ((x, M.2) : Mo) j) (j + 1) = _
    rw [ih, pst_tk]
    rfl
theorem pal_q (F : Fo) (g : Nat) (M : Mo) : ∀ j i, j < i → mQ (pal F g M j) i = mQ M i := by
  intro j
  induction j with
  | zero => intro i _; rfl
  | succ j ih =>
    intro i hi
    have h1 := ih i (by omega)
    show mQ (pst F g (pal F g M j) (j + 1)) i = _
    unfold pst
    split
    · show sf (sf (mQ (pal F g M j)) (j + 1 - 1) _) (j + 1) _ i = _
      rw [sf_n _ _ (by omega), sf_n _ _ (by omega)]
      exact h1
    · exact h1
theorem mnt_tk (F : Fo) (pb : Bool) (M : Mo) : mnt F pb M = ((mG M + 1, (if 0 < mL M ∧ (mG M + 1) % oS F = 0 then rem (if pb = true then pal F (mG M + 1) M (mL M - 1) else M) 0 1 else (if pb = true then pal F (mG M + 1) M (mL M - 1) else M)).2) : Mo) := by
  simp only [mnt]
  rw [pal_tk]
  cases pb
  · by_cases c : 0 < mL M ∧ (mG M + 1) % oS F = 0
    · rw [if_pos c, if_pos c]
      rfl
    · rw [if_neg c, if_neg c]
      rfl
  · by_cases c : 0 < mL M ∧ (mG M + 1) % oS F = 0
    · rw [if_pos c, if_pos c]
      rfl
    · rw [if_neg c, if_neg c]
      rfl
theorem V72_tk {s : Nat → Int32} {n x : Nat} {M : Mo} (h : V72 s n M) : V72 (upd s 0 (nI x)) n ((x, M.2) : Mo) := by
  refine ⟨?_, ?_, fun j hj => ?_, fun r hr => ⟨?_, ?_⟩, fun i hi => ?_⟩
  · rw [upd_s]
    rfl
  · rw [upd_n _ _ (by omega)]
    exact h.2.1
  · rw [upd_n _ _ (by omega)]
    exact h.2.2.1 j hj
  · rw [upd_n _ _ (by omega)]
    exact (h.2.2.2.1 r hr).1
  · rw [upd_n _ _ (by omega)]
    exact (h.2.2.2.1 r hr).2
  · rw [upd_n _ _ (by omega)]
    exact h.2.2.2.2 i hi
theorem V72_pst {s : Nat → Int32} {n k v : Nat} {M : Mo} (h : V72 s n M) (hn : n ≤ 7) (hL : mL M ≤ 7) (hk1 : 1 ≤ k) (hk : k < mL M) (hp : mQ M k < n) (ho : mQ M (k - 1) < n) : V72 (upd (upd (upd s (23 + 7 * mQ M k + mQ M (k - 1)) (nI v)) (2 + k - 1) (nI (mQ M k))) (2 + k) (nI (mQ M (k - 1)))) n (mG M, mL M, sf (sf (mQ M) (k - 1) (mQ M k)) k (mQ M (k - 1)), mW M, mP M, sf (mD M) (7 * mQ M k + mQ M (k - 1)) v) := by
  refine ⟨?_, ?_, fun j hj => ?_, fun r hr => ⟨?_, ?_⟩, fun i hi => ?_⟩
  · rw [upd_n _ _ (by omega), upd_n _ _ (by omega), upd_n _ _ (by omega)]
    exact h.1
  · rw [upd_n _ _ (by omega), upd_n _ _ (by omega), upd_n _ _ (by omega)]
    exact h.2.1
  · have hj : j < mL M := hj
    show _ = nI (sf (sf (mQ M) (k - 1) (mQ M k)) k (mQ M (k - 1)) j)
    by_cases e : j = k
    · rw [e, upd_s, sf_s]
    · rw [upd_n _ _ (by omega), sf_n _ _ e]
      by_cases e2 : j = k - 1
      · rw [show 2 + j = 2 + k - 1 by omega, upd_s, e2, sf_s]
      · rw [upd_n _ _ (by omega), sf_n _ _ e2, upd_n _ _ (by omega)]
        exact h.2.2.1 j hj
  · rw [upd_n _ _ (by omega), upd_n _ _ (by omega), upd_n _ _ (by omega)]
    exact (h.2.2.2.1 r hr).1
  · rw [upd_n _ _ (by omega), upd_n _ _ (by omega), upd_n _ _ (by omega)]
    exact (h.2.2.2.1 r hr).2
  · show _ = nI (sf (mD M) (7 * mQ M k + mQ M (k - 1)) v i)
    rw [upd_n _ _ (by omega), upd_n _ _ (by omega)]
    by_cases e : i = 7 * mQ M k + mQ M (k - 1)
    · rw [e, ← Nat.add_assoc, upd_s, sf_s]
    · rw [upd_n _ _ (by omega), sf_n _ _ e]
      exact h.2.2.2.2 i hi
def setP (S : St) (P : List Mo) : St := (qF S, qM S, P, qK S, qm S, qN S, qt S, qT S)
theorem c_X9_keeps {G : KG} {N : Nat} {w : WD} {b : Nat} {S : St} {M : Mo} {oA : Option Mo} (h : RsM G N w b S M oA) (hn7 : oN (qF S) ≤ 7) (hL : mL M ≤ 7) (h8 : (qP S).length ≤ 8) (hPL : ∀ X, X ∈ qP S → mL X ≤ 7) : KCon G jX9_keeps N w [rf G b] (RqO G N w b none (setP S (pshM 8 (qP S) M)) M oA) := by
  obtain ⟨at_, tx, to_, dr, be, s, pa, im, nt, ah, sd, gr, ro, ⟨g0, g1, g2, g3, g4, g5, g6, g7, g8, g9, g10, g11, g12⟩, v1, v2, v3, v4, v5, v6, v7, v8⟩ := h
  have hN := g12.1
  refine KCon.of ([some (rf G b), none]) (by decide) rfl (by simp [Value.category]) (Nat.le_of_ble_eq_true rfl) rfl ?_
  have ph2 : ∀ (P1 : List Mo) (w1 : WD) (pa1 : Nat → Int32) (L2 : Option Value), P1.length < 8 → (∀ X, X ∈ P1 → mL X ≤ 7) → (if (qP S).length = 8 then (qP S).drop 1 else qP S) = P1 → RsC G N w1 b (qt S) P1.length (qK S).length (qm S) (.int at_) tx to_ dr be s pa1 im nt ah sd gr ro → Eqx w w1 b (b + 12) → (∀ i, i < P1.length → V72 (fun j => pa1 (72 * i + j)) (oN (qF S)) (P1.getD i oM0)) → KRun G jX9_keeps N (RqO G N w b none (setP S (pshM 8 (qP S) M)) M oA) 49 [some (rf G b), L2] [] 0 0 w1 := by
    intro P1 w1 pa1 L2 hl8 hPl hP1 hC1 hE1 hv1
    have hlen : (pshM 8 (qP S) M).length = P1.length + 1 := by
      unfold pshM
      rw [hP1]
      simp
    obtain ⟨g0, g1, g2, g3, g4, g5, g6, g7, g8, g9, g10, g11, g12⟩ := hC1
    refine k_iconst (nI 0) 50 dX9_keeps_49 rfl kc_0 ?_
    refine k_istore_n _ 51 dX9_keeps_50 rfl rfl (by decide) rfl rfl ?_
    have loop : ∀ d i (w2 : WD) (f : Nat → Int32), i + d = 72 → RsC G N w2 b (qt S) P1.length (qK S).length (qm S) (.int at_) tx to_ dr be s f im nt ah sd gr ro → Eqx w w2 b (b + 12) → (∀ j, f j = if 72 * P1.length ≤ j ∧ j < 72 * P1.length + i then s (j - 72 * P1.length) else pa1 j) → KRun G jX9_keeps N (RqO G N w b none (setP S (pshM 8 (qP S) M)) M oA) 51 [some (rf G b), some (.int (nI i))] [] 0 0 w2 := by
      intro d
      induction d with
      | zero =>
        intro i w2 f hi ⟨g0, g1, g2, g3, g4, g5, g6, g7, g8, g9, g10, g11, g12⟩ hE hf
        refine k_iload_n 52 dX9_keeps_51 rfl rfl rfl ?_
        refine k_bipush (nI 72) 54 dX9_keeps_52 rfl kb_72 ?_
        refine k_icmp_geN 83 57 dX9_keeps_54 rfl rfl (by omega) (by omega) (fun c => ?_) (fun c => ?_)
        · refine k_aload_n 84 dX9_keeps_83 rfl rfl rfl ?_
          refine k_dup 85 dX9_keeps_84 rfl rfl ?_
          refine k_get 88 dX9_keeps_85 rfl fX9_keeps_93 (by (repeat (refine Is.ne ?_ (by omega))); first | assumption | exact Is.up (by omega)) (by rfl) ?_
          refine k_iconst (nI 1) 89 dX9_keeps_88 rfl kc_1 ?_
          first | refine k_iaddE _ 90 dX9_keeps_89 rfl (nI_add _ _) ?_ | refine k_iadd 90 dX9_keeps_89 rfl ?_
          refine k_put 93 dX9_keeps_90 rfl pX9_keeps_93 (by (repeat (refine Is.ne ?_ (by omega))); first | assumption | exact Is.up (by omega)) (Nat.le_of_ble_eq_true rfl) rfl rfl ?_
          have hC2 : RsC G N (va_up w2 b (ob 8 [rf G (b + 1), .int (nI (qt S)), rf G (b + 2), rf G (b + 3), rf G (b + 4), rf G (b + 5), rf G (b + 6), .int (nI (P1.length + 1)), rf G (b + 7), .int (nI (qK S).length), rf G (b + 8), .int (nI (qm S)), .int at_, rf G (b + 9), rf G (b + 10), rf G (b + 11), rf G (b + 12)])) b (qt S) (P1.length + 1) (qK S).length (qm S) (.int at_) tx to_ dr be s f im nt ah sd gr ro := ⟨(by (repeat (refine Is.ne ?_ (by omega))); first | assumption | exact Is.up (by omega)), (by (repeat (refine Is.ne ?_ (by omega))); first | assumption | exact Is.up (by omega)), (by (repeat (refine Is.ne ?_ (by omega))); first | assumption | exact Is.up (by omega)), (by (repeat (refine Is.ne ?_ (by omega))); first | assumption | exact Is.up (by omega)), (by (repeat (refine Is.ne ?_ (by omega))); first | assumption | exact Is.up (by omega)), (by (repeat (refine Is.ne ?_ (by omega))); first | assumption | exact Is.up (by omega)), (by (repeat (refine Is.ne ?_ (by omega))); first | assumption | exact Is.up (by omega)), (by (repeat (refine Is.ne ?_ (by omega))); first | assumption | exact Is.up (by omega)), (by (repeat (refine Is.ne ?_ (by omega))); first | assumption | exact Is.up (by omega)), (by (repeat (refine Is.ne ?_ (by omega))); first | assumption | exact Is.up (by omega)), (by (repeat (refine Is.ne ?_ (by omega))); first | assumption | exact Is.up (by omega)), (by (repeat (refine Is.ne ?_ (by omega))); first | assumption | exact Is.up (by omega)), (by (repeat (refine Is.ne ?_ (by omega))); first | assumption | exact Is.up (by omega))⟩
          refine k_vret dX9_keeps_93 rfl rfl (Nat.le_of_ble_eq_true rfl) ⟨rfl, ⟨at_, tx, to_, dr, be, s, f, im, nt, ah, sd, gr, ro, ?_, v1, v2, v3, fun q hq => ?_, v5, v6, v7, v8⟩, (by (repeat (refine Eqx.up ?_ (by omega) (by omega))); first | exact Eqx.rf | assumption)⟩
          · rw [show (qP (setP S (pshM 8 (qP S) M))).length = P1.length + 1 from hlen]
            exact hC2
          · have hq : q < (pshM 8 (qP S) M).length := hq
            rw [hlen] at hq
            show V72 _ (oN (qF S)) ((pshM 8 (qP S) M).getD q oM0)
            unfold pshM
            rw [hP1]
            by_cases e : q = P1.length
            · have e1 : (P1 ++ [M]).getD q oM0 = M := by rw [e]; simp
              rw [e1]
              refine v3.cg hn7 hL (fun j hj => ?_)
              show f (72 * q + j) = s j
              rw [hf, if_pos (by omega), show 72 * q + j - 72 * P1.length = j by omega]
            · have e1 : (P1 ++ [M]).getD q oM0 = P1.getD q oM0 := by
                simp only [List.getD_eq_getElem?_getD]
                rw [List.getElem?_append_left (by omega)]
              rw [e1]
              have hm : P1.getD q oM0 ∈ P1 := by
                simp only [List.getD_eq_getElem?_getD]
                rw [List.getElem?_eq_getElem (by omega)]
                exact List.getElem_mem _
              refine (hv1 q (by omega)).cg hn7 (hPl _ hm) (fun j hj => ?_)
              show f (72 * q + j) = pa1 (72 * q + j)
              rw [hf, if_neg (by omega)]
        · omega
      | succ d ih =>
        intro i w2 f hi ⟨g0, g1, g2, g3, g4, g5, g6, g7, g8, g9, g10, g11, g12⟩ hE hf
        refine k_iload_n 52 dX9_keeps_51 rfl rfl rfl ?_
        refine k_bipush (nI 72) 54 dX9_keeps_52 rfl kb_72 ?_
        refine k_icmp_geN 83 57 dX9_keeps_54 rfl rfl (by omega) (by omega) (fun c => ?_) (fun c => ?_)
        · omega
        · refine k_aload_n 58 dX9_keeps_57 rfl rfl rfl ?_
          refine k_get 61 dX9_keeps_58 rfl fX9_keeps_25 (by (repeat (refine Is.ne ?_ (by omega))); first | assumption | exact Is.up (by omega)) (by rfl) ?_
          refine k_bipush (nI 72) 63 dX9_keeps_61 rfl kb_72 ?_
          refine k_aload_n 64 dX9_keeps_63 rfl rfl rfl ?_
          refine k_get 67 dX9_keeps_64 rfl fX9_keeps_93 (by (repeat (refine Is.ne ?_ (by omega))); first | assumption | exact Is.up (by omega)) (by rfl) ?_
          first | refine k_imulE _ 68 dX9_keeps_67 rfl (pk_mul _ _) ?_ | refine k_imul 68 dX9_keeps_67 rfl ?_
          refine k_iload_n 69 dX9_keeps_68 rfl rfl rfl ?_
          first | refine k_iaddE _ 70 dX9_keeps_69 rfl (nI_add _ _) ?_ | refine k_iadd 70 dX9_keeps_69 rfl ?_
          refine k_aload_n 71 dX9_keeps_70 rfl rfl rfl ?_
          refine k_get 74 dX9_keeps_71 rfl fX9_keeps_22 (by (repeat (refine Is.ne ?_ (by omega))); first | assumption | exact Is.up (by omega)) (by rfl) ?_
          refine k_iload_n 75 dX9_keeps_74 rfl rfl rfl ?_
          refine k_ialdN 76 dX9_keeps_75 rfl (by (repeat (refine Is.ne ?_ (by omega))); first | assumption | exact Is.up (by omega)) (by omega) (by omega) ?_
          refine k_iastN 77 dX9_keeps_76 rfl (by (repeat (refine Is.ne ?_ (by omega))); first | assumption | exact Is.up (by omega)) (by omega) (by omega) ?_
          refine k_iinc _ _ 80 dX9_keeps_77 rfl rfl (nI_inc _) (by decide) rfl rfl ?_
          refine k_goto 51 dX9_keeps_80 rfl ?_
          refine ih (i + 1) _ (upd f (72 * P1.length + i) (s i)) (by omega) ?_ ?_ (fun j => ?_)
          · exact ⟨(by (repeat (refine Is.ne ?_ (by omega))); first | assumption | exact Is.up (by omega)), (by (repeat (refine Is.ne ?_ (by omega))); first | assumption | exact Is.up (by omega)), (by (repeat (refine Is.ne ?_ (by omega))); first | assumption | exact Is.up (by omega)), (by (repeat (refine Is.ne ?_ (by omega))); first | assumption | exact Is.up (by omega)), (by (repeat (refine Is.ne ?_ (by omega))); first | assumption | exact Is.up (by omega)), (by (repeat (refine Is.ne ?_ (by omega))); first | assumption | exact Is.up (by omega)), (by (repeat (refine Is.ne ?_ (by omega))); first | assumption | exact Is.up (by omega)), (by (repeat (refine Is.ne ?_ (by omega))); first | assumption | exact Is.up (by omega)), (by (repeat (refine Is.ne ?_ (by omega))); first | assumption | exact Is.up (by omega)), (by (repeat (refine Is.ne ?_ (by omega))); first | assumption | exact Is.up (by omega)), (by (repeat (refine Is.ne ?_ (by omega))); first | assumption | exact Is.up (by omega)), (by (repeat (refine Is.ne ?_ (by omega))); first | assumption | exact Is.up (by omega)), (by (repeat (refine Is.ne ?_ (by omega))); first | assumption | exact Is.up (by omega))⟩
          · exact (by (repeat (refine Eqx.up ?_ (by omega) (by omega))); first | exact Eqx.rf | assumption)
          by_cases e : j = 72 * P1.length + i
          · rw [e, upd_s, if_pos (by omega), show 72 * P1.length + i - 72 * P1.length = i by omega]
          · rw [upd_n _ _ e, hf j]
            by_cases e2 : 72 * P1.length ≤ j ∧ j < 72 * P1.length + i
            · rw [if_pos e2, if_pos (by omega)]
            · rw [if_neg e2, if_neg (by omega)]
    refine loop 72 0 _ pa1 (by omega) ?_ hE1 (fun j => by rw [if_neg (by omega)])
    exact ⟨(by (repeat (refine Is.ne ?_ (by omega))); first | assumption | exact Is.up (by omega)), (by (repeat (refine Is.ne ?_ (by omega))); first | assumption | exact Is.up (by omega)), (by (repeat (refine Is.ne ?_ (by omega))); first | assumption | exact Is.up (by omega)), (by (repeat (refine Is.ne ?_ (by omega))); first | assumption | exact Is.up (by omega)), (by (repeat (refine Is.ne ?_ (by omega))); first | assumption | exact Is.up (by omega)), (by (repeat (refine Is.ne ?_ (by omega))); first | assumption | exact Is.up (by omega)), (by (repeat (refine Is.ne ?_ (by omega))); first | assumption | exact Is.up (by omega)), (by (repeat (refine Is.ne ?_ (by omega))); first | assumption | exact Is.up (by omega)), (by (repeat (refine Is.ne ?_ (by omega))); first | assumption | exact Is.up (by omega)), (by (repeat (refine Is.ne ?_ (by omega))); first | assumption | exact Is.up (by omega)), (by (repeat (refine Is.ne ?_ (by omega))); first | assumption | exact Is.up (by omega)), (by (repeat (refine Is.ne ?_ (by omega))); first | assumption | exact Is.up (by omega)), (by (repeat (refine Is.ne ?_ (by omega))); first | assumption | exact Is.up (by omega))⟩
  refine k_aload_n 1 dX9_keeps_0 rfl rfl rfl ?_
  refine k_get 4 dX9_keeps_1 rfl fX9_keeps_93 (by (repeat (refine Is.ne ?_ (by omega))); first | assumption | exact Is.up (by omega)) (by rfl) ?_
  refine k_bipush (nI 8) 6 dX9_keeps_4 rfl kb_8 ?_
  refine k_icmp_neN 49 9 dX9_keeps_6 rfl rfl (by omega) (by omega) (fun c => ?_) (fun c => ?_)
  · refine ph2 (qP S) w pa none (by omega) hPL (if_neg c) ⟨(by (repeat (refine Is.ne ?_ (by omega))); first | assumption | exact Is.up (by omega)), (by (repeat (refine Is.ne ?_ (by omega))); first | assumption | exact Is.up (by omega)), (by (repeat (refine Is.ne ?_ (by omega))); first | assumption | exact Is.up (by omega)), (by (repeat (refine Is.ne ?_ (by omega))); first | assumption | exact Is.up (by omega)), (by (repeat (refine Is.ne ?_ (by omega))); first | assumption | exact Is.up (by omega)), (by (repeat (refine Is.ne ?_ (by omega))); first | assumption | exact Is.up (by omega)), (by (repeat (refine Is.ne ?_ (by omega))); first | assumption | exact Is.up (by omega)), (by (repeat (refine Is.ne ?_ (by omega))); first | assumption | exact Is.up (by omega)), (by (repeat (refine Is.ne ?_ (by omega))); first | assumption | exact Is.up (by omega)), (by (repeat (refine Is.ne ?_ (by omega))); first | assumption | exact Is.up (by omega)), (by (repeat (refine Is.ne ?_ (by omega))); first | assumption | exact Is.up (by omega)), (by (repeat (refine Is.ne ?_ (by omega))); first | assumption | exact Is.up (by omega)), (by (repeat (refine Is.ne ?_ (by omega))); first | assumption | exact Is.up (by omega))⟩ Eqx.rf v4
  · have c0 := c
    have hd7 : ((qP S).drop 1).length = 7 := by simp [c]
    rw [c] at g0
    refine k_iconst (nI 0) 10 dX9_keeps_9 rfl kc_0 ?_
    refine k_istore_n _ 11 dX9_keeps_10 rfl rfl (by decide) rfl rfl ?_
    have loop : ∀ d i (w2 : WD) (f : Nat → Int32), i + d = 504 → RsC G N w2 b (qt S) 8 (qK S).length (qm S) (.int at_) tx to_ dr be s f im nt ah sd gr ro → Eqx w w2 b (b + 12) → (∀ j, f j = if j < i then pa (j + 72) else pa j) → KRun G jX9_keeps N (RqO G N w b none (setP S (pshM 8 (qP S) M)) M oA) 11 [some (rf G b), some (.int (nI i))] [] 0 0 w2 := by
      intro d
      induction d with
      | zero =>
        intro i w2 f hi ⟨g0, g1, g2, g3, g4, g5, g6, g7, g8, g9, g10, g11, g12⟩ hE hf
        refine k_iload_n 12 dX9_keeps_11 rfl rfl rfl ?_
        refine k_sipush (nI 504) 15 dX9_keeps_12 rfl ks_504 ?_
        refine k_icmp_geN 39 18 dX9_keeps_15 rfl rfl (by omega) (by omega) (fun c => ?_) (fun c => ?_)
        · refine k_aload_n 40 dX9_keeps_39 rfl rfl rfl ?_
          refine k_dup 41 dX9_keeps_40 rfl rfl ?_
          refine k_get 44 dX9_keeps_41 rfl fX9_keeps_93 (by (repeat (refine Is.ne ?_ (by omega))); first | assumption | exact Is.up (by omega)) (by rfl) ?_
          refine k_iconst (nI 1) 45 dX9_keeps_44 rfl kc_1 ?_
          first | refine k_isubE _ 46 dX9_keeps_45 rfl (pk_sub (by omega)) ?_ | refine k_isub 46 dX9_keeps_45 rfl ?_
          refine k_put 49 dX9_keeps_46 rfl pX9_keeps_93 (by (repeat (refine Is.ne ?_ (by omega))); first | assumption | exact Is.up (by omega)) (Nat.le_of_ble_eq_true rfl) rfl rfl ?_
          refine ph2 ((qP S).drop 1) _ f _ (by omega) (fun X hX => hPL X (List.mem_of_mem_drop hX)) (if_pos c0) ?_ ?_ (fun q hq => ?_)
          · rw [hd7]
            exact ⟨(by (repeat (refine Is.ne ?_ (by omega))); first | assumption | exact Is.up (by omega)), (by (repeat (refine Is.ne ?_ (by omega))); first | assumption | exact Is.up (by omega)), (by (repeat (refine Is.ne ?_ (by omega))); first | assumption | exact Is.up (by omega)), (by (repeat (refine Is.ne ?_ (by omega))); first | assumption | exact Is.up (by omega)), (by (repeat (refine Is.ne ?_ (by omega))); first | assumption | exact Is.up (by omega)), (by (repeat (refine Is.ne ?_ (by omega))); first | assumption | exact Is.up (by omega)), (by (repeat (refine Is.ne ?_ (by omega))); first | assumption | exact Is.up (by omega)), (by (repeat (refine Is.ne ?_ (by omega))); first | assumption | exact Is.up (by omega)), (by (repeat (refine Is.ne ?_ (by omega))); first | assumption | exact Is.up (by omega)), (by (repeat (refine Is.ne ?_ (by omega))); first | assumption | exact Is.up (by omega)), (by (repeat (refine Is.ne ?_ (by omega))); first | assumption | exact Is.up (by omega)), (by (repeat (refine Is.ne ?_ (by omega))); first | assumption | exact Is.up (by omega)), (by (repeat (refine Is.ne ?_ (by omega))); first | assumption | exact Is.up (by omega))⟩
          · exact (by (repeat (refine Eqx.up ?_ (by omega) (by omega))); first | exact Eqx.rf | assumption)
          · have e1 : ((qP S).drop 1).getD q oM0 = (qP S).getD (q + 1) oM0 := by
              simp only [List.getD_eq_getElem?_getD, List.getElem?_drop]
              rw [Nat.add_comm 1 q]
            rw [e1]
            have hm : (qP S).getD (q + 1) oM0 ∈ qP S := by
              simp only [List.getD_eq_getElem?_getD]
              rw [List.getElem?_eq_getElem (by omega)]
              exact List.getElem_mem _
            refine (v4 (q + 1) (by omega)).cg hn7 (hPL _ hm) (fun j hj => ?_)
            show f (72 * q + j) = pa (72 * (q + 1) + j)
            rw [hf, if_pos (by omega), show 72 * q + j + 72 = 72 * (q + 1) + j by omega]
        · omega
      | succ d ih =>
        intro i w2 f hi ⟨g0, g1, g2, g3, g4, g5, g6, g7, g8, g9, g10, g11, g12⟩ hE hf
        refine k_iload_n 12 dX9_keeps_11 rfl rfl rfl ?_
        refine k_sipush (nI 504) 15 dX9_keeps_12 rfl ks_504 ?_
        refine k_icmp_geN 39 18 dX9_keeps_15 rfl rfl (by omega) (by omega) (fun c => ?_) (fun c => ?_)
        · omega
        · refine k_aload_n 19 dX9_keeps_18 rfl rfl rfl ?_
          refine k_get 22 dX9_keeps_19 rfl fX9_keeps_25 (by (repeat (refine Is.ne ?_ (by omega))); first | assumption | exact Is.up (by omega)) (by rfl) ?_
          refine k_iload_n 23 dX9_keeps_22 rfl rfl rfl ?_
          refine k_aload_n 24 dX9_keeps_23 rfl rfl rfl ?_
          refine k_get 27 dX9_keeps_24 rfl fX9_keeps_25 (by (repeat (refine Is.ne ?_ (by omega))); first | assumption | exact Is.up (by omega)) (by rfl) ?_
          refine k_iload_n 28 dX9_keeps_27 rfl rfl rfl ?_
          refine k_bipush (nI 72) 30 dX9_keeps_28 rfl kb_72 ?_
          first | refine k_iaddE _ 31 dX9_keeps_30 rfl (nI_add _ _) ?_ | refine k_iadd 31 dX9_keeps_30 rfl ?_
          refine k_ialdN 32 dX9_keeps_31 rfl (by (repeat (refine Is.ne ?_ (by omega))); first | assumption | exact Is.up (by omega)) (by omega) (by omega) ?_
          refine k_iastN 33 dX9_keeps_32 rfl (by (repeat (refine Is.ne ?_ (by omega))); first | assumption | exact Is.up (by omega)) (by omega) (by omega) ?_
          refine k_iinc _ _ 36 dX9_keeps_33 rfl rfl (nI_inc _) (by decide) rfl rfl ?_
          refine k_goto 11 dX9_keeps_36 rfl ?_
          refine ih (i + 1) _ (upd f i (f (i + 72))) (by omega) ?_ ?_ (fun j => ?_)
          · exact ⟨(by (repeat (refine Is.ne ?_ (by omega))); first | assumption | exact Is.up (by omega)), (by (repeat (refine Is.ne ?_ (by omega))); first | assumption | exact Is.up (by omega)), (by (repeat (refine Is.ne ?_ (by omega))); first | assumption | exact Is.up (by omega)), (by (repeat (refine Is.ne ?_ (by omega))); first | assumption | exact Is.up (by omega)), (by (repeat (refine Is.ne ?_ (by omega))); first | assumption | exact Is.up (by omega)), (by (repeat (refine Is.ne ?_ (by omega))); first | assumption | exact Is.up (by omega)), (by (repeat (refine Is.ne ?_ (by omega))); first | assumption | exact Is.up (by omega)), (by (repeat (refine Is.ne ?_ (by omega))); first | assumption | exact Is.up (by omega)), (by (repeat (refine Is.ne ?_ (by omega))); first | assumption | exact Is.up (by omega)), (by (repeat (refine Is.ne ?_ (by omega))); first | assumption | exact Is.up (by omega)), (by (repeat (refine Is.ne ?_ (by omega))); first | assumption | exact Is.up (by omega)), (by (repeat (refine Is.ne ?_ (by omega))); first | assumption | exact Is.up (by omega)), (by (repeat (refine Is.ne ?_ (by omega))); first | assumption | exact Is.up (by omega))⟩
          · exact (by (repeat (refine Eqx.up ?_ (by omega) (by omega))); first | exact Eqx.rf | assumption)
          by_cases e : j = i
          · rw [e, upd_s, if_pos (by omega), hf, if_neg (by omega)]
          · rw [upd_n _ _ e, hf j]
            by_cases e2 : j < i
            · rw [if_pos e2, if_pos (by omega)]
            · rw [if_neg e2, if_neg (by omega)]
    refine loop 504 0 _ pa (by omega) ?_ Eqx.rf (fun j => by rw [if_neg (by omega)])
    exact ⟨(by (repeat (refine Is.ne ?_ (by omega))); first | assumption | exact Is.up (by omega)), (by (repeat (refine Is.ne ?_ (by omega))); first | assumption | exact Is.up (by omega)), (by (repeat (refine Is.ne ?_ (by omega))); first | assumption | exact Is.up (by omega)), (by (repeat (refine Is.ne ?_ (by omega))); first | assumption | exact Is.up (by omega)), (by (repeat (refine Is.ne ?_ (by omega))); first | assumption | exact Is.up (by omega)), (by (repeat (refine Is.ne ?_ (by omega))); first | assumption | exact Is.up (by omega)), (by (repeat (refine Is.ne ?_ (by omega))); first | assumption | exact Is.up (by omega)), (by (repeat (refine Is.ne ?_ (by omega))); first | assumption | exact Is.up (by omega)), (by (repeat (refine Is.ne ?_ (by omega))); first | assumption | exact Is.up (by omega)), (by (repeat (refine Is.ne ?_ (by omega))); first | assumption | exact Is.up (by omega)), (by (repeat (refine Is.ne ?_ (by omega))); first | assumption | exact Is.up (by omega)), (by (repeat (refine Is.ne ?_ (by omega))); first | assumption | exact Is.up (by omega)), (by (repeat (refine Is.ne ?_ (by omega))); first | assumption | exact Is.up (by omega))⟩
theorem c_X9_passes {G : KG} {N : Nat} {w : WD} {b : Nat} {S : St} {M : Mo} {oA : Option Mo} {pb : Bool} (h : RsM G N w b S M oA) (hO : mOK (oN (qF S)) M) (hK : oOK (qF S)) (hG : mG M + 1 < 2000) : KCon G jX9_passes N w [rf G b, .int (bI pb)] (RqO G N w b none S (mnt (qF S) pb M) oA) := by
  have hn7 := hO.2.1
  have hLn := hO.1
  have hL7 := ok_l7 hO
  have hs9 := hK.2.1
  obtain ⟨at_, tx, to_, dr, be, s, pa, im, nt, ah, sd, gr, ro, ⟨g0, g1, g2, g3, g4, g5, g6, g7, g8, g9, g10, g11, g12⟩, v1, v2, v3, v4, v5, v6, v7, v8⟩ := h
  have hN := g12.1
  refine KCon.of ([some (rf G b), some (.int (bI pb)), none, none, none, none, none, none, none]) (by decide) rfl (by simp [Value.category]) (Nat.le_of_ble_eq_true rfl) rfl ?_
  refine k_aload_n 1 dX9_passes_0 rfl rfl rfl ?_
  refine k_get 4 dX9_passes_1 rfl fX9_passes_22 (by (repeat (refine Is.ne ?_ (by omega))); first | assumption | exact Is.up (by omega)) (by rfl) ?_
  refine k_iconst (nI 0) 5 dX9_passes_4 rfl kc_0 ?_
  refine k_ialdN 6 dX9_passes_5 rfl (by (repeat (refine Is.ne ?_ (by omega))); first | assumption | exact Is.up (by omega)) (by omega) (by omega) ?_
  rw [v3.1]
  refine k_iconst (nI 1) 7 dX9_passes_6 rfl kc_1 ?_
  first | refine k_iaddE _ 8 dX9_passes_7 rfl (nI_add _ _) ?_ | refine k_iadd 8 dX9_passes_7 rfl ?_
  refine k_istore_n _ 9 dX9_passes_8 rfl rfl (by decide) rfl rfl ?_
  refine k_aload_n 10 dX9_passes_9 rfl rfl rfl ?_
  refine k_get 13 dX9_passes_10 rfl fX9_passes_22 (by (repeat (refine Is.ne ?_ (by omega))); first | assumption | exact Is.up (by omega)) (by rfl) ?_
  refine k_iconst (nI 1) 14 dX9_passes_13 rfl kc_1 ?_
  refine k_ialdN 15 dX9_passes_14 rfl (by (repeat (refine Is.ne ?_ (by omega))); first | assumption | exact Is.up (by omega)) (by omega) (by omega) ?_
  rw [v3.2.1]
  refine k_istore_n _ 16 dX9_passes_15 rfl rfl (by decide) rfl rfl ?_
  refine k_iconst (nI 0) 17 dX9_passes_16 rfl kc_0 ?_
  refine k_istore _ 19 dX9_passes_17 rfl (by decide) rfl rfl ?_
  have tail : ∀ (w1 : WD) (M1 : Mo) (x : Option Value), RsM G N w1 b S M1 oA → Eqx w w1 b (b + 12) → mOK' (oN (qF S)) M1 → mL M1 = mL M → mG M1 = mG M → (if pb = true then pal (qF S) (mG M + 1) M (mL M - 1) else M) = M1 → KRun G jX9_passes N (RqO G N w b none S (mnt (qF S) pb M) oA) 197 [some (rf G b), some (.int (bI pb)), some (.int (nI (mG M + 1))), some (.int (nI (mL M))), x, none, none, none, none] [] 0 0 w1 := by
    intro w1 M1 x hR1 hE1 hO1 hL1 hG1 hM1
    have hm : mnt (qF S) pb M = ((mG M + 1, (if 0 < mL M ∧ (mG M + 1) % oS (qF S) = 0 then rem M1 0 1 else M1).2) : Mo) := by
      rw [← hM1]
      exact mnt_tk _ _ _
    have fin : ∀ (w2 : WD) (M2 : Mo), RsM G N w2 b S M2 oA → Eqx w w2 b (b + 12) → (if 0 < mL M ∧ (mG M + 1) % oS (qF S) = 0 then rem M1 0 1 else M1) = M2 → KRun G jX9_passes N (RqO G N w b none S (mnt (qF S) pb M) oA) 218 [some (rf G b), some (.int (bI pb)), some (.int (nI (mG M + 1))), some (.int (nI (mL M))), x, none, none, none, none] [] 0 0 w2 := by
      intro w2 M2 hR2 hE2 hM2
      rw [hM2] at hm
      obtain ⟨at_, tx, to_, dr, be, s, pa, im, nt, ah, sd, gr, ro, ⟨g0, g1, g2, g3, g4, g5, g6, g7, g8, g9, g10, g11, g12⟩, v1, v2, v3, v4, v5, v6, v7, v8⟩ := hR2
      refine k_aload_n 219 dX9_passes_218 rfl rfl rfl ?_
      refine k_get 222 dX9_passes_219 rfl fX9_passes_22 (by (repeat (refine Is.ne ?_ (by omega))); first | assumption | exact Is.up (by omega)) (by rfl) ?_
      refine k_iconst (nI 0) 223 dX9_passes_222 rfl kc_0 ?_
      refine k_iload_n 224 dX9_passes_223 rfl rfl rfl ?_
      refine k_iastN 225 dX9_passes_224 rfl (by (repeat (refine Is.ne ?_ (by omega))); first | assumption | exact Is.up (by omega)) (by omega) (by omega) ?_
      refine k_vret dX9_passes_225 rfl rfl (Nat.le_of_ble_eq_true rfl) ⟨rfl, ⟨at_, tx, to_, dr, be, _, pa, im, nt, ah, sd, gr, ro, ⟨(by (repeat (refine Is.ne ?_ (by omega))); first | assumption | exact Is.up (by omega)), (by (repeat (refine Is.ne ?_ (by omega))); first | assumption | exact Is.up (by omega)), (by (repeat (refine Is.ne ?_ (by omega))); first | assumption | exact Is.up (by omega)), (by (repeat (refine Is.ne ?_ (by omega))); first | assumption | exact Is.up (by omega)), (by (repeat (refine Is.ne ?_ (by omega))); first | assumption | exact Is.up (by omega)), (by (repeat (refine Is.ne ?_ (by omega))); first | assumption | exact Is.up (by omega)), (by (repeat (refine Is.ne ?_ (by omega))); first | assumption | exact Is.up (by omega)), (by (repeat (refine Is.ne ?_ (by omega))); first | assumption | exact Is.up (by omega)), (by (repeat (refine Is.ne ?_ (by omega))); first | assumption | exact Is.up (by omega)), (by (repeat (refine Is.ne ?_ (by omega))); first | assumption | exact Is.up (by omega)), (by (repeat (refine Is.ne ?_ (by omega))); first | assumption | exact Is.up (by omega)), (by (repeat (refine Is.ne ?_ (by omega))); first | assumption | exact Is.up (by omega)), (by (repeat (refine Is.ne ?_ (by omega))); first | assumption | exact Is.up (by omega))⟩, v1, v2, hm ▸ V72_tk v3, v4, v5, v6, v7, v8⟩, (by (repeat (refine Eqx.up ?_ (by omega) (by omega))); first | exact Eqx.rf | assumption)⟩
    have h' := hR1
    obtain ⟨at_, tx, to_, dr, be, s, pa, im, nt, ah, sd, gr, ro, ⟨g0, g1, g2, g3, g4, g5, g6, g7, g8, g9, g10, g11, g12⟩, v1, v2, v3, v4, v5, v6, v7, v8⟩ := h'
    refine k_iload_n 198 dX9_passes_197 rfl rfl rfl ?_
    refine k_aload_n 199 dX9_passes_198 rfl rfl rfl ?_
    refine k_get 202 dX9_passes_199 rfl fX9_passes_13 (by (repeat (refine Is.ne ?_ (by omega))); first | assumption | exact Is.up (by omega)) (by rfl) ?_
    refine k_iconst (nI 1) 203 dX9_passes_202 rfl kc_1 ?_
    refine k_ialdN 204 dX9_passes_203 rfl (by (repeat (refine Is.ne ?_ (by omega))); first | assumption | exact Is.up (by omega)) (by omega) (by omega) ?_
    rw [v2.2.1]
    refine k_irem _ 205 dX9_passes_204 rfl (nI_ne0 (by omega) (by omega)) (pk_rem (by omega) (by omega) (by omega)) ?_
    have hmod : (mG M + 1) % oS (qF S) < 10 := Nat.lt_of_lt_of_le (Nat.mod_lt _ (by omega)) (by omega)
    refine k_if_neN 218 208 dX9_passes_205 rfl rfl (by omega) (fun c => ?_) (fun c => ?_)
    · exact fin w1 M1 hR1 hE1 (if_neg (fun z => c z.2))
    · refine k_iload_n 209 dX9_passes_208 rfl rfl rfl ?_
      refine k_if_leN 218 212 dX9_passes_209 rfl rfl (by omega) (fun c => ?_) (fun c => ?_)
      · exact fin w1 M1 hR1 hE1 (if_neg (fun z => by omega))
      · rename_i c2
        refine k_aload_n 213 dX9_passes_212 rfl rfl rfl ?_
        refine k_iconst (nI 0) 214 dX9_passes_213 rfl kc_0 ?_
        refine k_iconst (nI 1) 215 dX9_passes_214 rfl kc_1 ?_
        refine k_V2 (ci := 8) 218 dX9_passes_215 rfl vX9_passes_115 (by (repeat (refine Is.ne ?_ (by omega))); first | assumption | exact Is.up (by omega)) rfl rfl (Nat.le_of_ble_eq_true rfl) rfl ⟨Nat.le_of_ble_eq_true rfl, Nat.le_of_ble_eq_true rfl⟩ (c_X9_goes hR1 hO1 (k := 0) (by omega)) (fun r2 w2 x2 => ?_)
        obtain ⟨rfl, hR2, hE2⟩ := x2
        exact fin w2 _ hR2 (hE1.tr hE2) (if_pos ⟨by omega, by omega⟩)
  have cploop : ∀ d i (w1 : WD) (f : Nat → Int32), i + d = mL M → RsC G N w1 b (qt S) (qP S).length (qK S).length (qm S) (.int at_) tx to_ dr be s pa im nt f sd gr ro → Eqx w w1 b (b + 12) → (∀ j, j < i → f j = nI (mQ M j)) → KRun G jX9_passes N (RqO G N w b none S (mnt (qF S) pb M) oA) 19 [some (rf G b), some (.int (bI pb)), some (.int (nI (mG M + 1))), some (.int (nI (mL M))), some (.int (nI i)), none, none, none, none] [] 0 0 w1 := by
    intro d
    induction d with
    | zero =>
      intro i w1 ah1 hi hC1 hE1 hah
      have hI : i = mL M := by omega
      subst hI
      refine k_iload 21 dX9_passes_19 rfl rfl ?_
      refine k_iload_n 22 dX9_passes_21 rfl rfl rfl ?_
      refine k_icmp_geN 47 25 dX9_passes_22 rfl rfl (by omega) (by omega) (fun c => ?_) (fun c => ?_)
      rotate_left
      · omega
      refine k_iconst (nI 1) 48 dX9_passes_47 rfl kc_1 ?_
      refine k_istore _ 50 dX9_passes_48 rfl (by decide) rfl rfl ?_
      have ploop : ∀ d j (w2 : WD) (s2 : Nat → Int32), (j + d = mL M ∨ d = 0 ∧ mL M ≤ j ∧ j = 1) → 1 ≤ j → pb = true → RsC G N w2 b (qt S) (qP S).length (qK S).length (qm S) (.int at_) tx to_ dr be s2 pa im nt ah1 sd gr ro → V72 s2 (oN (qF S)) (pal (qF S) (mG M + 1) M (j - 1)) → Eqx w w2 b (b + 12) → KRun G jX9_passes N (RqO G N w b none S (mnt (qF S) pb M) oA) 50 [some (rf G b), some (.int (bI pb)), some (.int (nI (mG M + 1))), some (.int (nI (mL M))), some (.int (nI j)), none, none, none, none] [] 0 0 w2 := by
        intro d
        induction d with
        | zero =>
          intro j w2 s2 hj hj1 hpb hC2 hV2 hE2
          have e1 : pal (qF S) (mG M + 1) M (j - 1) = pal (qF S) (mG M + 1) M (mL M - 1) := by
            congr 1
            omega
          rw [e1] at hV2
          obtain ⟨hOk, -⟩ := ok_pal (g := mG M + 1) hO.p hK rfl (mL M - 1) (by omega)
          obtain ⟨pl1, pl2, -, -⟩ := pal_L (qF S) (mG M + 1) M (mL M - 1)
          refine k_iload 52 dX9_passes_50 rfl rfl ?_
          refine k_iload_n 53 dX9_passes_52 rfl rfl rfl ?_
          refine k_icmp_geN 197 56 dX9_passes_53 rfl rfl (by omega) (by omega) (fun c => ?_) (fun c => ?_)
          · exact tail w2 _ _ ⟨at_, tx, to_, dr, be, s2, pa, im, nt, ah1, sd, gr, ro, hC2, v1, v2, hV2, v4, v5, v6, v7, v8⟩ hE2 hOk pl1 pl2 (by rw [if_pos hpb])
          · omega
        | succ d ih =>
          intro j w2 s2 hj hj1 hpb hC2 hV2 hE2
          have hjL : j < mL M := by omega
          obtain ⟨hOk, -⟩ := ok_pal (g := mG M + 1) hO.p hK rfl (j - 1) (by omega)
          obtain ⟨pl1, pl2, -, -⟩ := pal_L (qF S) (mG M + 1) M (j - 1)
          have hqj := pal_q (qF S) (mG M + 1) M (j - 1) j (by omega)
          have hnext : pal (qF S) (mG M + 1) M j = pst (qF S) (mG M + 1) (pal (qF S) (mG M + 1) M (j - 1)) j := by
            obtain ⟨z, rfl⟩ : ∃ z, j = z + 1 := ⟨j - 1, by omega⟩
            rfl
          have hR2 : RsM G N w2 b S (pal (qF S) (mG M + 1) M (j - 1)) oA := ⟨at_, tx, to_, dr, be, s2, pa, im, nt, ah1, sd, gr, ro, hC2, v1, v2, hV2, v4, v5, v6, v7, v8⟩
          generalize hMk : pal (qF S) (mG M + 1) M (j - 1) = Mk at *
          have hjk : j < mL Mk := by omega
          have hp := hOk.2.2.1 j hjk
          have ho := hOk.2.2.1 (j - 1) (by omega)
          obtain ⟨-, hwp, ht1, ht2⟩ := hK.2.2 (mQ Mk j) hp
          obtain ⟨-, hwo, -, -⟩ := hK.2.2 (mQ Mk (j - 1)) ho
          have hpl : plc Mk (mQ Mk j) = some j := plc_first hjk rfl (fun i hi e => by
            have := hOk.2.2.2.1 i j (by omega) hjk e
            omega)
          obtain ⟨g0, g1, g2, g3, g4, g5, g6, g7, g8, g9, g10, g11, g12⟩ := hC2
          have skip : pst (qF S) (mG M + 1) Mk j = Mk → ∀ L5 L6 L7 L8 : Option Value, KRun G jX9_passes N (RqO G N w b none S (mnt (qF S) pb M) oA) 191 [some (rf G b), some (.int (bI pb)), some (.int (nI (mG M + 1))), some (.int (nI (mL M))), some (.int (nI j)), L5, L6, L7, L8] [] 0 0 w2 := by
            intro e L5 L6 L7 L8
            refine k_iinc _ _ 194 dX9_passes_191 rfl rfl (nI_inc _) (by decide) rfl rfl ?_
            refine k_goto 50 dX9_passes_194 rfl ?_
            refine k_loc [some (rf G b), some (.int (bI pb)), some (.int (nI (mG M + 1))), some (.int (nI (mL M))), some (.int (nI (j + 1))), none, none, none, none] ⟨rfl, rfl, rfl, rfl, rfl, trivial⟩ rfl ?_
            refine ih (j + 1) w2 s2 (by omega) (by omega) hpb ⟨(by (repeat (refine Is.ne ?_ (by omega))); first | assumption | exact Is.up (by omega)), (by (repeat (refine Is.ne ?_ (by omega))); first | assumption | exact Is.up (by omega)), (by (repeat (refine Is.ne ?_ (by omega))); first | assumption | exact Is.up (by omega)), (by (repeat (refine Is.ne ?_ (by omega))); first | assumption | exact Is.up (by omega)), (by (repeat (refine Is.ne ?_ (by omega))); first | assumption | exact Is.up (by omega)), (by (repeat (refine Is.ne ?_ (by omega))); first | assumption | exact Is.up (by omega)), (by (repeat (refine Is.ne ?_ (by omega))); first | assumption | exact Is.up (by omega)), (by (repeat (refine Is.ne ?_ (by omega))); first | assumption | exact Is.up (by omega)), (by (repeat (refine Is.ne ?_ (by omega))); first | assumption | exact Is.up (by omega)), (by (repeat (refine Is.ne ?_ (by omega))); first | assumption | exact Is.up (by omega)), (by (repeat (refine Is.ne ?_ (by omega))); first | assumption | exact Is.up (by omega)), (by (repeat (refine Is.ne ?_ (by omega))); first | assumption | exact Is.up (by omega)), (by (repeat (refine Is.ne ?_ (by omega))); first | assumption | exact Is.up (by omega))⟩ ?_ hE2
            rw [Nat.add_sub_cancel, hnext, e]
            exact hV2
          refine k_iload 52 dX9_passes_50 rfl rfl ?_
          refine k_iload_n 53 dX9_passes_52 rfl rfl rfl ?_
          refine k_icmp_geN 197 56 dX9_passes_53 rfl rfl (by omega) (by omega) (fun c => ?_) (fun c => ?_)
          · omega
          refine k_iload_n 57 dX9_passes_56 rfl rfl rfl ?_
          refine k_if_eqB 197 60 dX9_passes_57 rfl rfl (fun c9 => absurd c9 (by rw [hpb]; simp)) (fun c9 => ?_)
          refine k_aload_n 61 dX9_passes_60 rfl rfl rfl ?_
          refine k_get 64 dX9_passes_61 rfl fX9_passes_34 (by (repeat (refine Is.ne ?_ (by omega))); first | assumption | exact Is.up (by omega)) (by rfl) ?_
          refine k_iload 66 dX9_passes_64 rfl rfl ?_
          refine k_ialdN 67 dX9_passes_66 rfl (by (repeat (refine Is.ne ?_ (by omega))); first | assumption | exact Is.up (by omega)) (by omega) (by omega) ?_
          rw [hah j hjL, ← hqj]
          refine k_istore _ 69 dX9_passes_67 rfl (by decide) rfl rfl ?_
          refine k_aload_n 70 dX9_passes_69 rfl rfl rfl ?_
          refine k_iload 72 dX9_passes_70 rfl rfl ?_
          refine k_V1 (ci := 8) 75 dX9_passes_72 rfl vX9_passes_105 (by (repeat (refine Is.ne ?_ (by omega))); first | assumption | exact Is.up (by omega)) rfl rfl (Nat.le_of_ble_eq_true rfl) rfl ⟨Nat.le_of_ble_eq_true rfl, Nat.le_of_ble_eq_true rfl⟩ (c_X9_placeOf hR2 (by omega) (fun k hk => by have := hOk.2.2.1 k hk; omega) hOk.2.2.2.1 (by omega)) (fun r9 w9 h9 => ?_)
          obtain ⟨h8, h9⟩ := h9
          subst h8
          have h9 := h9.symm
          subst h9
          rw [hpl]
          refine k_tp (.int (nI j)) rfl ?_
          refine k_istore _ 77 dX9_passes_75 rfl (by decide) rfl rfl ?_
          refine k_iload_n 78 dX9_passes_77 rfl rfl rfl ?_
          refine k_aload_n 79 dX9_passes_78 rfl rfl rfl ?_
          refine k_get 82 dX9_passes_79 rfl fX9_passes_13 (by (repeat (refine Is.ne ?_ (by omega))); first | assumption | exact Is.up (by omega)) (by rfl) ?_
          refine k_bipush (nI 16) 84 dX9_passes_82 rfl kb_16 ?_
          refine k_iload 86 dX9_passes_84 rfl rfl ?_
          first | refine k_iaddE _ 87 dX9_passes_86 rfl (nI_add _ _) ?_ | refine k_iadd 87 dX9_passes_86 rfl ?_
          refine k_ialdN 88 dX9_passes_87 rfl (by (repeat (refine Is.ne ?_ (by omega))); first | assumption | exact Is.up (by omega)) (by omega) (by omega) ?_
          rw [(v2.2.2 _ hp).2.2]
          refine k_irem _ 89 dX9_passes_88 rfl (nI_ne0 (by omega) (by omega)) (pk_rem (by omega) (by omega) (by omega)) ?_
          have hmod : (mG M + 1) % oT (qF S) (mQ Mk j) < 10 := Nat.lt_of_lt_of_le (Nat.mod_lt _ (by omega)) (by omega)
          refine k_if_neN 191 92 dX9_passes_89 rfl rfl (by omega) (fun c => ?_) (fun c => ?_)
          · refine skip ?_ _ _ _ _
            unfold pst
            rw [if_neg (fun z => c z.1)]
          refine k_aload_n 93 dX9_passes_92 rfl rfl rfl ?_
          refine k_iload 95 dX9_passes_93 rfl rfl ?_
          refine k_V1 (ci := 8) 98 dX9_passes_95 rfl vX9_passes_112 (by (repeat (refine Is.ne ?_ (by omega))); first | assumption | exact Is.up (by omega)) rfl rfl (Nat.le_of_ble_eq_true rfl) rfl ⟨Nat.le_of_ble_eq_true rfl, Nat.le_of_ble_eq_true rfl⟩ (c_X9_wouldAt hR2 hOk hK hj1 hjk) (fun r9 w9 h9 => ?_)
          obtain ⟨h8, h9⟩ := h9
          subst h8
          have h9 := h9.symm
          subst h9
          refine k_if_eqB 191 101 dX9_passes_98 rfl rfl (fun c8 => ?_) (fun c8 => ?_)
          · refine skip ?_ _ _ _ _
            unfold pst
            rw [if_neg (fun z => by rw [c8] at z; simp at z)]
          have epst : pst (qF S) (mG M + 1) Mk j = (mG Mk, mL Mk, sf (sf (mQ Mk) (j - 1) (mQ Mk j)) j (mQ Mk (j - 1)), mW Mk, mP Mk, sf (mD Mk) (7 * mQ Mk j + mQ Mk (j - 1)) (mD Mk (7 * mQ Mk j + mQ Mk (j - 1)) + (oW (qF S) (mQ Mk j) - oW (qF S) (mQ Mk (j - 1))))) := by
            unfold pst
            rw [if_pos ⟨c, c8⟩]
          refine k_aload_n 102 dX9_passes_101 rfl rfl rfl ?_
          refine k_get 105 dX9_passes_102 rfl fX9_passes_22 (by (repeat (refine Is.ne ?_ (by omega))); first | assumption | exact Is.up (by omega)) (by rfl) ?_
          refine k_iconst (nI 2) 106 dX9_passes_105 rfl kc_2 ?_
          refine k_iload 108 dX9_passes_106 rfl rfl ?_
          first | refine k_iaddE _ 109 dX9_passes_108 rfl (nI_add _ _) ?_ | refine k_iadd 109 dX9_passes_108 rfl ?_
          refine k_iconst (nI 1) 110 dX9_passes_109 rfl kc_1 ?_
          first | refine k_isubE _ 111 dX9_passes_110 rfl (pk_sub (by omega)) ?_ | refine k_isub 111 dX9_passes_110 rfl ?_
          refine k_ialdN 112 dX9_passes_111 rfl (by (repeat (refine Is.ne ?_ (by omega))); first | assumption | exact Is.up (by omega)) (by omega) (by omega) ?_
          rw [show 2 + j - 1 = 2 + (j - 1) by omega, hV2.2.2.1 (j - 1) (by omega)]
          refine k_istore _ 114 dX9_passes_112 rfl (by decide) rfl rfl ?_
          refine k_aload_n 115 dX9_passes_114 rfl rfl rfl ?_
          refine k_get 118 dX9_passes_115 rfl fX9_passes_13 (by (repeat (refine Is.ne ?_ (by omega))); first | assumption | exact Is.up (by omega)) (by rfl) ?_
          refine k_bipush (nI 9) 120 dX9_passes_118 rfl kb_9 ?_
          refine k_iload 122 dX9_passes_120 rfl rfl ?_
          first | refine k_iaddE _ 123 dX9_passes_122 rfl (nI_add _ _) ?_ | refine k_iadd 123 dX9_passes_122 rfl ?_
          refine k_ialdN 124 dX9_passes_123 rfl (by (repeat (refine Is.ne ?_ (by omega))); first | assumption | exact Is.up (by omega)) (by omega) (by omega) ?_
          rw [(v2.2.2 _ hp).2.1]
          refine k_aload_n 125 dX9_passes_124 rfl rfl rfl ?_
          refine k_get 128 dX9_passes_125 rfl fX9_passes_13 (by (repeat (refine Is.ne ?_ (by omega))); first | assumption | exact Is.up (by omega)) (by rfl) ?_
          refine k_bipush (nI 9) 130 dX9_passes_128 rfl kb_9 ?_
          refine k_iload 132 dX9_passes_130 rfl rfl ?_
          first | refine k_iaddE _ 133 dX9_passes_132 rfl (nI_add _ _) ?_ | refine k_iadd 133 dX9_passes_132 rfl ?_
          refine k_ialdN 134 dX9_passes_133 rfl (by (repeat (refine Is.ne ?_ (by omega))); first | assumption | exact Is.up (by omega)) (by omega) (by omega) ?_
          rw [(v2.2.2 _ ho).2.1]
          refine k_isub 135 dX9_passes_134 rfl ?_
          refine k_istore _ 137 dX9_passes_135 rfl (by decide) rfl rfl ?_
          refine k_aload_n 138 dX9_passes_137 rfl rfl rfl ?_
          refine k_get 141 dX9_passes_138 rfl fX9_passes_22 (by (repeat (refine Is.ne ?_ (by omega))); first | assumption | exact Is.up (by omega)) (by rfl) ?_
          refine k_bipush (nI 23) 143 dX9_passes_141 rfl kb_23 ?_
          refine k_bipush (nI 7) 145 dX9_passes_143 rfl kb_7 ?_
          refine k_iload 147 dX9_passes_145 rfl rfl ?_
          first | refine k_imulE _ 148 dX9_passes_147 rfl (pk_mul _ _) ?_ | refine k_imul 148 dX9_passes_147 rfl ?_
          first | refine k_iaddE _ 149 dX9_passes_148 rfl (nI_add _ _) ?_ | refine k_iadd 149 dX9_passes_148 rfl ?_
          refine k_iload 151 dX9_passes_149 rfl rfl ?_
          first | refine k_iaddE _ 152 dX9_passes_151 rfl (nI_add _ _) ?_ | refine k_iadd 152 dX9_passes_151 rfl ?_
          refine k_dup2 153 dX9_passes_152 rfl rfl rfl ?_
          refine k_ialdN 154 dX9_passes_153 rfl (by (repeat (refine Is.ne ?_ (by omega))); first | assumption | exact Is.up (by omega)) (by omega) (by omega) ?_
          rw [hV2.d (a := mQ Mk j) (c := mQ Mk (j - 1)) (by omega) (by omega)]
          have fin : KRun G jX9_passes N (RqO G N w b none S (mnt (qF S) pb M) oA) 165 [some (rf G b), some (.int (bI pb)), some (.int (nI (mG M + 1))), some (.int (nI (mL M))), some (.int (nI j)), some (.int (nI (mQ Mk j))), some (.int (nI j)), some (.int (nI (mQ Mk (j - 1)))), some (.int (nI (oW (qF S) (mQ Mk j)) - nI (oW (qF S) (mQ Mk (j - 1)))))] [.int (nI (oW (qF S) (mQ Mk j) - oW (qF S) (mQ Mk (j - 1)))), .int (nI (mD Mk (7 * mQ Mk j + mQ Mk (j - 1)))), .int (nI (23 + 7 * mQ Mk j + mQ Mk (j - 1))), rf G (b + 5)] 0 0 w2 := by
            first | refine k_iaddE _ 166 dX9_passes_165 rfl (nI_add _ _) ?_ | refine k_iadd 166 dX9_passes_165 rfl ?_
            refine k_iastN 167 dX9_passes_166 rfl (by (repeat (refine Is.ne ?_ (by omega))); first | assumption | exact Is.up (by omega)) (by omega) (by omega) ?_
            refine k_aload_n 168 dX9_passes_167 rfl rfl rfl ?_
            refine k_get 171 dX9_passes_168 rfl fX9_passes_22 (by (repeat (refine Is.ne ?_ (by omega))); first | assumption | exact Is.up (by omega)) (by rfl) ?_
            refine k_iconst (nI 2) 172 dX9_passes_171 rfl kc_2 ?_
            refine k_iload 174 dX9_passes_172 rfl rfl ?_
            first | refine k_iaddE _ 175 dX9_passes_174 rfl (nI_add _ _) ?_ | refine k_iadd 175 dX9_passes_174 rfl ?_
            refine k_iconst (nI 1) 176 dX9_passes_175 rfl kc_1 ?_
            first | refine k_isubE _ 177 dX9_passes_176 rfl (pk_sub (by omega)) ?_ | refine k_isub 177 dX9_passes_176 rfl ?_
            refine k_iload 179 dX9_passes_177 rfl rfl ?_
            refine k_iastN 180 dX9_passes_179 rfl (by (repeat (refine Is.ne ?_ (by omega))); first | assumption | exact Is.up (by omega)) (by omega) (by omega) ?_
            refine k_aload_n 181 dX9_passes_180 rfl rfl rfl ?_
            refine k_get 184 dX9_passes_181 rfl fX9_passes_22 (by (repeat (refine Is.ne ?_ (by omega))); first | assumption | exact Is.up (by omega)) (by rfl) ?_
            refine k_iconst (nI 2) 185 dX9_passes_184 rfl kc_2 ?_
            refine k_iload 187 dX9_passes_185 rfl rfl ?_
            first | refine k_iaddE _ 188 dX9_passes_187 rfl (nI_add _ _) ?_ | refine k_iadd 188 dX9_passes_187 rfl ?_
            refine k_iload 190 dX9_passes_188 rfl rfl ?_
            refine k_iastN 191 dX9_passes_190 rfl (by (repeat (refine Is.ne ?_ (by omega))); first | assumption | exact Is.up (by omega)) (by omega) (by omega) ?_
            refine k_iinc _ _ 194 dX9_passes_191 rfl rfl (nI_inc _) (by decide) rfl rfl ?_
            refine k_goto 50 dX9_passes_194 rfl ?_
            refine k_loc [some (rf G b), some (.int (bI pb)), some (.int (nI (mG M + 1))), some (.int (nI (mL M))), some (.int (nI (j + 1))), none, none, none, none] ⟨rfl, rfl, rfl, rfl, rfl, trivial⟩ rfl ?_
            refine ih (j + 1) _ (upd (upd (upd s2 (23 + 7 * mQ Mk j + mQ Mk (j - 1)) (nI (mD Mk (7 * mQ Mk j + mQ Mk (j - 1)) + (oW (qF S) (mQ Mk j) - oW (qF S) (mQ Mk (j - 1)))))) (2 + j - 1) (nI (mQ Mk j))) (2 + j) (nI (mQ Mk (j - 1)))) (by omega) (by omega) hpb ?_ ?_ ?_
            · exact ⟨(by (repeat (refine Is.ne ?_ (by omega))); first | assumption | exact Is.up (by omega)), (by (repeat (refine Is.ne ?_ (by omega))); first | assumption | exact Is.up (by omega)), (by (repeat (refine Is.ne ?_ (by omega))); first | assumption | exact Is.up (by omega)), (by (repeat (refine Is.ne ?_ (by omega))); first | assumption | exact Is.up (by omega)), (by (repeat (refine Is.ne ?_ (by omega))); first | assumption | exact Is.up (by omega)), (by (repeat (refine Is.ne ?_ (by omega))); first | assumption | exact Is.up (by omega)), (by (repeat (refine Is.ne ?_ (by omega))); first | assumption | exact Is.up (by omega)), (by (repeat (refine Is.ne ?_ (by omega))); first | assumption | exact Is.up (by omega)), (by (repeat (refine Is.ne ?_ (by omega))); first | assumption | exact Is.up (by omega)), (by (repeat (refine Is.ne ?_ (by omega))); first | assumption | exact Is.up (by omega)), (by (repeat (refine Is.ne ?_ (by omega))); first | assumption | exact Is.up (by omega)), (by (repeat (refine Is.ne ?_ (by omega))); first | assumption | exact Is.up (by omega)), (by (repeat (refine Is.ne ?_ (by omega))); first | assumption | exact Is.up (by omega))⟩
            · rw [Nat.add_sub_cancel, hnext, epst]
              exact V72_pst hV2 hn7 (by omega) hj1 hjk hp ho
            · exact (by (repeat (refine Eqx.up ?_ (by omega) (by omega))); first | exact Eqx.rf | assumption)
          have hgl := gain_le (x := oW (qF S) (mQ Mk j)) (y := oW (qF S) (mQ Mk (j - 1))) (by omega) (by omega)
          refine k_iload 156 dX9_passes_154 rfl rfl ?_
          refine k_if_le 164 159 dX9_passes_156 rfl rfl (fun c => ?_) (fun c => ?_)
          · have hle := hgl.mp c
            refine k_iconst (nI 0) 165 dX9_passes_164 rfl kc_0 ?_
            refine k_tp (.int (nI (oW (qF S) (mQ Mk j) - oW (qF S) (mQ Mk (j - 1))))) (by rw [show oW (qF S) (mQ Mk j) - oW (qF S) (mQ Mk (j - 1)) = 0 by omega]) ?_
            exact fin
          · have hlt := Nat.not_le.mp (fun z => c (hgl.mpr z))
            refine k_iload 161 dX9_passes_159 rfl rfl ?_
            refine k_goto 165 dX9_passes_161 rfl ?_
            refine k_tp (.int (nI (oW (qF S) (mQ Mk j) - oW (qF S) (mQ Mk (j - 1))))) (by rw [pk_sub (by omega)]) ?_
            exact fin
      cases hpb : pb with
      | true =>
        subst hpb
        exact ploop (mL M - 1) 1 w1 s (by omega) (by omega) rfl hC1 v3 hE1
      | false =>
        subst hpb
        refine k_iload 52 dX9_passes_50 rfl rfl ?_
        refine k_iload_n 53 dX9_passes_52 rfl rfl rfl ?_
        refine k_icmp_geN 197 56 dX9_passes_53 rfl rfl (by omega) (by omega) (fun c => ?_) (fun c => ?_)
        · exact tail w1 M _ ⟨at_, tx, to_, dr, be, s, pa, im, nt, ah1, sd, gr, ro, hC1, v1, v2, v3, v4, v5, v6, v7, v8⟩ hE1 hO.p rfl rfl rfl
        · refine k_iload_n 57 dX9_passes_56 rfl rfl rfl ?_
          refine k_if_eqB (b := false) 197 60 dX9_passes_57 rfl rfl (fun c9 => ?_) (fun c9 => absurd c9 (by simp))
          exact tail w1 M _ ⟨at_, tx, to_, dr, be, s, pa, im, nt, ah1, sd, gr, ro, hC1, v1, v2, v3, v4, v5, v6, v7, v8⟩ hE1 hO.p rfl rfl rfl
    | succ d ih =>
      intro i w1 f hi ⟨g0, g1, g2, g3, g4, g5, g6, g7, g8, g9, g10, g11, g12⟩ hE hf
      refine k_iload 21 dX9_passes_19 rfl rfl ?_
      refine k_iload_n 22 dX9_passes_21 rfl rfl rfl ?_
      refine k_icmp_geN 47 25 dX9_passes_22 rfl rfl (by omega) (by omega) (fun c => ?_) (fun c => ?_)
      · omega
      · refine k_aload_n 26 dX9_passes_25 rfl rfl rfl ?_
        refine k_get 29 dX9_passes_26 rfl fX9_passes_34 (by (repeat (refine Is.ne ?_ (by omega))); first | assumption | exact Is.up (by omega)) (by rfl) ?_
        refine k_iload 31 dX9_passes_29 rfl rfl ?_
        refine k_aload_n 32 dX9_passes_31 rfl rfl rfl ?_
        refine k_get 35 dX9_passes_32 rfl fX9_passes_22 (by (repeat (refine Is.ne ?_ (by omega))); first | assumption | exact Is.up (by omega)) (by rfl) ?_
        refine k_iconst (nI 2) 36 dX9_passes_35 rfl kc_2 ?_
        refine k_iload 38 dX9_passes_36 rfl rfl ?_
        first | refine k_iaddE _ 39 dX9_passes_38 rfl (nI_add _ _) ?_ | refine k_iadd 39 dX9_passes_38 rfl ?_
        refine k_ialdN 40 dX9_passes_39 rfl (by (repeat (refine Is.ne ?_ (by omega))); first | assumption | exact Is.up (by omega)) (by omega) (by omega) ?_
        rw [v3.2.2.1 i (by omega)]
        refine k_iastN 41 dX9_passes_40 rfl (by (repeat (refine Is.ne ?_ (by omega))); first | assumption | exact Is.up (by omega)) (by omega) (by omega) ?_
        refine k_iinc _ _ 44 dX9_passes_41 rfl rfl (nI_inc _) (by decide) rfl rfl ?_
        refine k_goto 19 dX9_passes_44 rfl ?_
        refine ih (i + 1) _ (upd f i (nI (mQ M i))) (by omega) ?_ ?_ (fun j hj => ?_)
        · exact ⟨(by (repeat (refine Is.ne ?_ (by omega))); first | assumption | exact Is.up (by omega)), (by (repeat (refine Is.ne ?_ (by omega))); first | assumption | exact Is.up (by omega)), (by (repeat (refine Is.ne ?_ (by omega))); first | assumption | exact Is.up (by omega)), (by (repeat (refine Is.ne ?_ (by omega))); first | assumption | exact Is.up (by omega)), (by (repeat (refine Is.ne ?_ (by omega))); first | assumption | exact Is.up (by omega)), (by (repeat (refine Is.ne ?_ (by omega))); first | assumption | exact Is.up (by omega)), (by (repeat (refine Is.ne ?_ (by omega))); first | assumption | exact Is.up (by omega)), (by (repeat (refine Is.ne ?_ (by omega))); first | assumption | exact Is.up (by omega)), (by (repeat (refine Is.ne ?_ (by omega))); first | assumption | exact Is.up (by omega)), (by (repeat (refine Is.ne ?_ (by omega))); first | assumption | exact Is.up (by omega)), (by (repeat (refine Is.ne ?_ (by omega))); first | assumption | exact Is.up (by omega)), (by (repeat (refine Is.ne ?_ (by omega))); first | assumption | exact Is.up (by omega)), (by (repeat (refine Is.ne ?_ (by omega))); first | assumption | exact Is.up (by omega))⟩
        · exact (by (repeat (refine Eqx.up ?_ (by omega) (by omega))); first | exact Eqx.rf | assumption)
        by_cases e : j = i
        · rw [e, upd_s]
        · rw [upd_n _ _ e, hf j (by omega)]
  refine cploop (mL M) 0 w ah (by omega) ⟨(by (repeat (refine Is.ne ?_ (by omega))); first | assumption | exact Is.up (by omega)), (by (repeat (refine Is.ne ?_ (by omega))); first | assumption | exact Is.up (by omega)), (by (repeat (refine Is.ne ?_ (by omega))); first | assumption | exact Is.up (by omega)), (by (repeat (refine Is.ne ?_ (by omega))); first | assumption | exact Is.up (by omega)), (by (repeat (refine Is.ne ?_ (by omega))); first | assumption | exact Is.up (by omega)), (by (repeat (refine Is.ne ?_ (by omega))); first | assumption | exact Is.up (by omega)), (by (repeat (refine Is.ne ?_ (by omega))); first | assumption | exact Is.up (by omega)), (by (repeat (refine Is.ne ?_ (by omega))); first | assumption | exact Is.up (by omega)), (by (repeat (refine Is.ne ?_ (by omega))); first | assumption | exact Is.up (by omega)), (by (repeat (refine Is.ne ?_ (by omega))); first | assumption | exact Is.up (by omega)), (by (repeat (refine Is.ne ?_ (by omega))); first | assumption | exact Is.up (by omega)), (by (repeat (refine Is.ne ?_ (by omega))); first | assumption | exact Is.up (by omega)), (by (repeat (refine Is.ne ?_ (by omega))); first | assumption | exact Is.up (by omega))⟩ Eqx.rf (fun j hj => by omega)
