/-! KerbQueueModel: items, fault, lay -/
def RdX (G : KG) (N : Nat) (w : WD) (b t kn ke no i : Nat) (tx to_ s pa im nt ah sd gr ro : Nat → Int32) (T : Nat → Nat) (X : Fo × Mo) (r : Option Value) (w1 : WD) : Prop := ∃ (i1 : Nat) (dr1 be1 : Nat → Int32), RsC G N w1 b t kn ke no (.int (nI i1)) tx to_ dr1 be1 s pa im nt ah sd gr ro ∧ Eqx w w1 b (b + 12) ∧ (itm T t X i = none ∧ r = some (.int (bI false)) ∨ ∃ X1, itm T t X i = some (X1, i1) ∧ r = some (.int (bI true)) ∧ DrI dr1 be1 X1)
theorem c_X9_readsPerson {G : KG} {N : Nat} {w : WD} {b t kn ke no i : Nat} {tx to_ dr be s pa im nt ah sd gr ro : Nat → Int32} {T : Nat → Nat} {X : Fo × Mo} (h : RsC G N w b t kn ke no (.int (nI (i + 1))) tx to_ dr be s pa im nt ah sd gr ro) (hT : ∀ k, k < t → tx k = nI (T k)) (hT2 : ∀ k, T k < 200) (ht : t ≤ 200) (hi : i < t) (hl : ltA T t i = 112) (hD : DrI dr be X) (hX : pOK X) : KCon G jX9_readsPerson N w [rf G b] (RdX G N w b t kn ke no i tx to_ s pa im nt ah sd gr ro T X) := by
  obtain ⟨g0, g1, g2, g3, g4, g5, g6, g7, g8, g9, g10, g11, g12⟩ := id h
  have hN := g12.1
  have hX7 := hX.1.1
  have none_ : (∀ k i1 v i2 o i3 m i4, num T t (i + 1) 0 4 44 = some (k, i1) → num T t i1 0 21 44 = some (v, i2) → num T t i2 1 10 44 = some (o, i3) → num T t i3 0 61 59 = some (m, i4) → oN X.1 < 7 → False) → itm T t X i = none := by
    intro hc
    cases e : itm T t X i with
    | none => rfl
    | some q =>
      obtain ⟨X1, j⟩ := q
      obtain ⟨k, i1, v, i2, o, i3, m, a1, a2, a3, a4, a5⟩ := itp_inv hl e
      exact (hc k i1 v i2 o i3 m j a1 a2 a3 a4 a5).elim
  refine KCon.of ([some (rf G b), none, none, none, none]) (by decide) rfl (by simp [Value.category]) (Nat.le_of_ble_eq_true rfl) rfl ?_
  have out : ∀ (w2 : WD) (j : Nat) (L : List (Option Value)), RsC G N w2 b t kn ke no (.int (nI j)) tx to_ dr be s pa im nt ah sd gr ro → Eqx w w2 b (b + 12) → itm T t X i = none → KRun G jX9_readsPerson N (RdX G N w b t kn ke no i tx to_ s pa im nt ah sd gr ro T X) 80 L [] 0 0 w2 := by
    intro w2 j L hC hE hn
    refine k_iconst (nI 0) 81 dX9_readsPerson_80 rfl kc_0 ?_
    refine k_zret dX9_readsPerson_81 rfl rfl rfl (Nat.le_of_ble_eq_true rfl) ⟨j, dr, be, hC, hE, Or.inl ⟨hn, rfl⟩⟩
  have f4 : ∀ (w2 : WD) (j : Nat) (L1 L2 L3 : Option Value), lc_ok [some (rf G b), L1, L2, L3, none] 4 = true → RsC G N w2 b t kn ke no (.int (nI j)) tx to_ dr be s pa im nt ah sd gr ro → Eqx w w2 b (b + 12) → itm T t X i = none → KRun G jX9_readsPerson N (RdX G N w b t kn ke no i tx to_ s pa im nt ah sd gr ro T X) 62 [some (rf G b), L1, L2, L3, none] [.int (-1)] 0 0 w2 := by
    intro w2 j L1 L2 L3 hlc hC hE hn
    refine k_istore _ 64 dX9_readsPerson_62 rfl (by decide) hlc rfl ?_
    refine k_iload 66 dX9_readsPerson_64 rfl rfl ?_
    refine k_if_lt 80 69 dX9_readsPerson_66 rfl rfl (fun c => ?_) (fun c => ?_)
    · exact out w2 j _ hC hE hn
    · exact absurd (show (-1 : Int32) < 0 by decide) c
  have f3 : ∀ (w2 : WD) (j : Nat) (L1 L2 : Option Value), lc_ok [some (rf G b), L1, L2, none, none] 3 = true → RsC G N w2 b t kn ke no (.int (nI j)) tx to_ dr be s pa im nt ah sd gr ro → Eqx w w2 b (b + 12) → itm T t X i = none → KRun G jX9_readsPerson N (RdX G N w b t kn ke no i tx to_ s pa im nt ah sd gr ro T X) 44 [some (rf G b), L1, L2, none, none] [.int (-1)] 0 0 w2 := by
    intro w2 j L1 L2 hlc hC hE hn
    refine k_istore_n _ 45 dX9_readsPerson_44 rfl rfl (by decide) hlc rfl ?_
    refine k_iload_n 46 dX9_readsPerson_45 rfl rfl rfl ?_
    refine k_if_ge 53 49 dX9_readsPerson_46 rfl rfl (fun c => ?_) (fun c => ?_)
    · exact absurd c (by decide)
    · refine k_iconst (-1) 50 dX9_readsPerson_49 rfl km_1 ?_
      refine k_goto 62 dX9_readsPerson_50 rfl ?_
      exact f4 w2 j _ _ _ rfl hC hE hn
  have f2 : ∀ (w2 : WD) (j : Nat) (L1 : Option Value), lc_ok [some (rf G b), L1, none, none, none] 2 = true → RsC G N w2 b t kn ke no (.int (nI j)) tx to_ dr be s pa im nt ah sd gr ro → Eqx w w2 b (b + 12) → itm T t X i = none → KRun G jX9_readsPerson N (RdX G N w b t kn ke no i tx to_ s pa im nt ah sd gr ro T X) 26 [some (rf G b), L1, none, none, none] [.int (-1)] 0 0 w2 := by
    intro w2 j L1 hlc hC hE hn
    refine k_istore_n _ 27 dX9_readsPerson_26 rfl rfl (by decide) hlc rfl ?_
    refine k_iload_n 28 dX9_readsPerson_27 rfl rfl rfl ?_
    refine k_if_ge 35 31 dX9_readsPerson_28 rfl rfl (fun c => ?_) (fun c => ?_)
    · exact absurd c (by decide)
    · refine k_iconst (-1) 32 dX9_readsPerson_31 rfl km_1 ?_
      refine k_goto 44 dX9_readsPerson_32 rfl ?_
      exact f3 w2 j _ _ rfl hC hE hn
  refine k_aload_n 1 dX9_readsPerson_0 rfl rfl rfl ?_
  refine k_iconst (nI 0) 2 dX9_readsPerson_1 rfl kc_0 ?_
  refine k_iconst (nI 3) 3 dX9_readsPerson_2 rfl kc_3 ?_
  refine k_bipush (nI 44) 5 dX9_readsPerson_3 rfl kb_44 ?_
  refine k_V3 (ci := 8) 8 dX9_readsPerson_5 rfl vX9_readsPerson_75 (by (repeat (refine Is.ne ?_ (by omega))); first | assumption | exact Is.up (by omega)) rfl rfl (Nat.le_of_ble_eq_true rfl) rfl ⟨Nat.le_of_ble_eq_true rfl, Nat.le_of_ble_eq_true rfl⟩ (c_X9_number (lo := 0) (hx := 4) (hi := nI 3) (e := 44) h hT hT2 ht (by omega) (by omega) (by rw [nI_toInt (by omega)]; rfl) (by omega) (by omega)) (fun r1 w1 x1 => ?_)
  obtain ⟨i1, hC1, hE1, x1⟩ := x1
  clear g0 g1 g2 g3 g4 g5 g6 g7 g8 g9 g10 g11 g12
  rcases x1 with ⟨n1, rfl⟩ | ⟨k, hk, hi1, n1, rfl⟩
  · refine k_istore_n _ 9 dX9_readsPerson_8 rfl rfl (by decide) rfl rfl ?_
    refine k_iload_n 10 dX9_readsPerson_9 rfl rfl rfl ?_
    refine k_if_ge 17 13 dX9_readsPerson_10 rfl rfl (fun c => ?_) (fun c => ?_)
    · exact absurd c (by decide)
    · refine k_iconst (-1) 14 dX9_readsPerson_13 rfl km_1 ?_
      refine k_goto 26 dX9_readsPerson_14 rfl ?_
      exact f2 w1 i1 _ rfl hC1 hE1 (none_ (fun k i1 v i2 o i3 m i4 a1 a2 a3 a4 a5 => by rw [n1] at a1; cases a1))
  obtain ⟨g0, -⟩ := id hC1
  refine k_istore_n _ 9 dX9_readsPerson_8 rfl rfl (by decide) rfl rfl ?_
  refine k_iload_n 10 dX9_readsPerson_9 rfl rfl rfl ?_
  refine k_if_geN 17 13 dX9_readsPerson_10 rfl rfl (by omega) (fun c => ?_) (fun c => ?_)
  rotate_left
  · omega
  refine k_aload_n 18 dX9_readsPerson_17 rfl rfl rfl ?_
  refine k_iconst (nI 0) 19 dX9_readsPerson_18 rfl kc_0 ?_
  refine k_bipush (nI 20) 21 dX9_readsPerson_19 rfl kb_20 ?_
  refine k_bipush (nI 44) 23 dX9_readsPerson_21 rfl kb_44 ?_
  refine k_V3 (ci := 8) 26 dX9_readsPerson_23 rfl vX9_readsPerson_75 (by (repeat (refine Is.ne ?_ (by omega))); first | assumption | exact Is.up (by omega)) rfl rfl (Nat.le_of_ble_eq_true rfl) rfl ⟨Nat.le_of_ble_eq_true rfl, Nat.le_of_ble_eq_true rfl⟩ (c_X9_number (lo := 0) (hx := 21) (hi := nI 20) (e := 44) hC1 hT hT2 ht (by omega) (by omega) (by rw [nI_toInt (by omega)]; rfl) (by omega) (by omega)) (fun r2 w2 x2 => ?_)
  obtain ⟨i2, hC2, hE2, x2⟩ := x2
  clear g0
  have hE2' := hE1.tr hE2
  rcases x2 with ⟨n2, rfl⟩ | ⟨v, hv, hi2, n2, rfl⟩
  · exact f2 w2 i2 _ rfl hC2 hE2' (none_ (fun k i1 v i2 o i3 m i4 a1 a2 a3 a4 a5 => by rw [n1] at a1; cases a1; rw [n2] at a2; cases a2))
  obtain ⟨g0, -⟩ := id hC2
  refine k_istore_n _ 27 dX9_readsPerson_26 rfl rfl (by decide) rfl rfl ?_
  refine k_iload_n 28 dX9_readsPerson_27 rfl rfl rfl ?_
  refine k_if_geN 35 31 dX9_readsPerson_28 rfl rfl (by omega) (fun c => ?_) (fun c => ?_)
  rotate_left
  · omega
  refine k_aload_n 36 dX9_readsPerson_35 rfl rfl rfl ?_
  refine k_iconst (nI 1) 37 dX9_readsPerson_36 rfl kc_1 ?_
  refine k_bipush (nI 9) 39 dX9_readsPerson_37 rfl kb_9 ?_
  refine k_bipush (nI 44) 41 dX9_readsPerson_39 rfl kb_44 ?_
  refine k_V3 (ci := 8) 44 dX9_readsPerson_41 rfl vX9_readsPerson_75 (by (repeat (refine Is.ne ?_ (by omega))); first | assumption | exact Is.up (by omega)) rfl rfl (Nat.le_of_ble_eq_true rfl) rfl ⟨Nat.le_of_ble_eq_true rfl, Nat.le_of_ble_eq_true rfl⟩ (c_X9_number (lo := 1) (hx := 10) (hi := nI 9) (e := 44) hC2 hT hT2 ht (by omega) (by omega) (by rw [nI_toInt (by omega)]; rfl) (by omega) (by omega)) (fun r3 w3 x3 => ?_)
  obtain ⟨i3, hC3, hE3, x3⟩ := x3
  clear g0
  have hE3' := hE2'.tr hE3
  rcases x3 with ⟨n3, rfl⟩ | ⟨o, ho, hi3, n3, rfl⟩
  · exact f3 w3 i3 _ _ rfl hC3 hE3' (none_ (fun k i1 v i2 o i3 m i4 a1 a2 a3 a4 a5 => by rw [n1] at a1; cases a1; rw [n2] at a2; cases a2; rw [n3] at a3; cases a3))
  obtain ⟨g0, -⟩ := id hC3
  refine k_istore_n _ 45 dX9_readsPerson_44 rfl rfl (by decide) rfl rfl ?_
  refine k_iload_n 46 dX9_readsPerson_45 rfl rfl rfl ?_
  refine k_if_geN 53 49 dX9_readsPerson_46 rfl rfl (by omega) (fun c => ?_) (fun c => ?_)
  rotate_left
  · omega
  refine k_aload_n 54 dX9_readsPerson_53 rfl rfl rfl ?_
  refine k_iconst (nI 0) 55 dX9_readsPerson_54 rfl kc_0 ?_
  refine k_bipush (nI 60) 57 dX9_readsPerson_55 rfl kb_60 ?_
  refine k_bipush (nI 59) 59 dX9_readsPerson_57 rfl kb_59 ?_
  refine k_V3 (ci := 8) 62 dX9_readsPerson_59 rfl vX9_readsPerson_75 (by (repeat (refine Is.ne ?_ (by omega))); first | assumption | exact Is.up (by omega)) rfl rfl (Nat.le_of_ble_eq_true rfl) rfl ⟨Nat.le_of_ble_eq_true rfl, Nat.le_of_ble_eq_true rfl⟩ (c_X9_number (lo := 0) (hx := 61) (hi := nI 60) (e := 59) hC3 hT hT2 ht (by omega) (by omega) (by rw [nI_toInt (by omega)]; rfl) (by omega) (by omega)) (fun r4 w4 x4 => ?_)
  obtain ⟨i4, hC4, hE4, x4⟩ := x4
  clear g0
  have hE4' := hE3'.tr hE4
  rcases x4 with ⟨n4, rfl⟩ | ⟨m, hm, hi4, n4, rfl⟩
  · exact f4 w4 i4 _ _ _ rfl hC4 hE4' (none_ (fun k i1 v i2 o i3 m i4 a1 a2 a3 a4 a5 => by rw [n1] at a1; cases a1; rw [n2] at a2; cases a2; rw [n3] at a3; cases a3; rw [n4] at a4; cases a4))
  obtain ⟨g0, g1, g2, g3, g4, g5, g6, g7, g8, g9, g10, g11, g12⟩ := id hC4
  refine k_istore _ 64 dX9_readsPerson_62 rfl (by decide) rfl rfl ?_
  refine k_iload 66 dX9_readsPerson_64 rfl rfl ?_
  refine k_if_ltN 80 69 dX9_readsPerson_66 rfl rfl (by omega) (fun c => ?_) (fun c => ?_)
  · omega
  refine k_aload_n 70 dX9_readsPerson_69 rfl rfl rfl ?_
  refine k_get 73 dX9_readsPerson_70 rfl fX9_readsPerson_16 (by (repeat (refine Is.ne ?_ (by omega))); first | assumption | exact Is.up (by omega)) (by rfl) ?_
  refine k_iconst (nI 0) 74 dX9_readsPerson_73 rfl kc_0 ?_
  refine k_ialdN 75 dX9_readsPerson_74 rfl (by (repeat (refine Is.ne ?_ (by omega))); first | assumption | exact Is.up (by omega)) (by omega) (by omega) ?_
  rw [hD.1.1]
  refine k_bipush (nI 7) 77 dX9_readsPerson_75 rfl kb_7 ?_
  refine k_icmp_neN 82 80 dX9_readsPerson_77 rfl rfl (by omega) (by omega) (fun c => ?_) (fun c => ?_)
  · refine k_aload_n 83 dX9_readsPerson_82 rfl rfl rfl ?_
    refine k_iload_n 84 dX9_readsPerson_83 rfl rfl rfl ?_
    refine k_iload_n 85 dX9_readsPerson_84 rfl rfl rfl ?_
    refine k_iload_n 86 dX9_readsPerson_85 rfl rfl rfl ?_
    refine k_iload 88 dX9_readsPerson_86 rfl rfl ?_
    refine k_V4 (ci := 8) 91 dX9_readsPerson_88 rfl vX9_readsPerson_49 (by (repeat (refine Is.ne ?_ (by omega))); first | assumption | exact Is.up (by omega)) rfl rfl (Nat.le_of_ble_eq_true rfl) rfl ⟨Nat.le_of_ble_eq_true rfl, Nat.le_of_ble_eq_true rfl⟩ (c_X9_stands hC4 hD hX.2.1 (by omega)) (fun r5 w5 x5 => ?_)
    obtain ⟨rfl, dr1, be1, hC5, hD5, hE5⟩ := x5
    refine k_iconst (nI 1) 92 dX9_readsPerson_91 rfl kc_1 ?_
    refine k_zret dX9_readsPerson_92 rfl rfl rfl (Nat.le_of_ble_eq_true rfl) ⟨i4, dr1, be1, hC5, hE4'.tr hE5, Or.inr ⟨_, itp_mk hl n1 n2 n3 n4 (by omega), rfl, hD5⟩⟩
  · exact out w4 i4 _ hC4 hE4' (none_ (fun k i1 v i2 o i3 m i4 a1 a2 a3 a4 a5 => by omega))
theorem c_X9_readsEach {G : KG} {N : Nat} {w : WD} {b t kn ke no i : Nat} {tx to_ dr be s pa im nt ah sd gr ro : Nat → Int32} {T : Nat → Nat} {X : Fo × Mo} (h : RsC G N w b t kn ke no (.int (nI (i + 1))) tx to_ dr be s pa im nt ah sd gr ro) (hT : ∀ k, k < t → tx k = nI (T k)) (hT2 : ∀ k, T k < 200) (ht : t ≤ 200) (hi : i < t) (hl : ltA T t i = 115) (hD : DrI dr be X) (hX : pOK X) : KCon G jX9_readsEach N w [rf G b] (RdX G N w b t kn ke no i tx to_ s pa im nt ah sd gr ro T X) := by
  obtain ⟨g0, g1, g2, g3, g4, g5, g6, g7, g8, g9, g10, g11, g12⟩ := id h
  have hN := g12.1
  have hX7 := hX.1.1
  refine KCon.of ([some (rf G b), none]) (by decide) rfl (by simp [Value.category]) (Nat.le_of_ble_eq_true rfl) rfl ?_
  refine k_aload_n 1 dX9_readsEach_0 rfl rfl rfl ?_
  refine k_iconst (nI 1) 2 dX9_readsEach_1 rfl kc_1 ?_
  refine k_bipush (nI 9) 4 dX9_readsEach_2 rfl kb_9 ?_
  refine k_bipush (nI 59) 6 dX9_readsEach_4 rfl kb_59 ?_
  refine k_V3 (ci := 8) 9 dX9_readsEach_6 rfl vX9_readsEach_75 (by (repeat (refine Is.ne ?_ (by omega))); first | assumption | exact Is.up (by omega)) rfl rfl (Nat.le_of_ble_eq_true rfl) rfl ⟨Nat.le_of_ble_eq_true rfl, Nat.le_of_ble_eq_true rfl⟩ (c_X9_number (lo := 1) (hx := 10) (hi := nI 9) (e := 59) h hT hT2 ht (by omega) (by omega) (by rw [nI_toInt (by omega)]; rfl) (by omega) (by omega)) (fun r1 w1 x1 => ?_)
  obtain ⟨i1, hC1, hE1, x1⟩ := x1
  clear g0 g1 g2 g3 g4 g5 g6 g7 g8 g9 g10 g11 g12
  rcases x1 with ⟨n1, rfl⟩ | ⟨k, hk, hi1, n1, rfl⟩
  · have hno : itm T t X i = none := by
      cases e : itm T t X i with
      | none => rfl
      | some q =>
        obtain ⟨X1, j⟩ := q
        obtain ⟨v, a1⟩ := its_inv hl e
        rw [n1] at a1
        cases a1
    refine k_istore_n _ 10 dX9_readsEach_9 rfl rfl (by decide) rfl rfl ?_
    refine k_iload_n 11 dX9_readsEach_10 rfl rfl rfl ?_
    refine k_if_le 21 14 dX9_readsEach_11 rfl rfl (fun c => ?_) (fun c => ?_)
    · refine k_iload_n 22 dX9_readsEach_21 rfl rfl rfl ?_
      refine k_if_le 29 25 dX9_readsEach_22 rfl rfl (fun c => ?_) (fun c => ?_)
      · refine k_iconst (nI 0) 30 dX9_readsEach_29 rfl kc_0 ?_
        refine k_zret dX9_readsEach_30 rfl rfl rfl (Nat.le_of_ble_eq_true rfl) ⟨i1, dr, be, hC1, hE1, Or.inl ⟨hno, rfl⟩⟩
      · exact absurd (show (-1 : Int32) ≤ 0 by decide) c
    · exact absurd (show (-1 : Int32) ≤ 0 by decide) c
  obtain ⟨j1, -, -, b1, b2, -⟩ := num_inv n1
  obtain ⟨g0, g1, g2, g3, g4, g5, g6, g7, g8, g9, g10, g11, g12⟩ := id hC1
  refine k_istore_n _ 10 dX9_readsEach_9 rfl rfl (by decide) rfl rfl ?_
  refine k_iload_n 11 dX9_readsEach_10 rfl rfl rfl ?_
  refine k_if_leN 21 14 dX9_readsEach_11 rfl rfl (by omega) (fun c => ?_) (fun c => ?_)
  · omega
  refine k_aload_n 15 dX9_readsEach_14 rfl rfl rfl ?_
  refine k_get 18 dX9_readsEach_15 rfl fX9_readsEach_16 (by (repeat (refine Is.ne ?_ (by omega))); first | assumption | exact Is.up (by omega)) (by rfl) ?_
  refine k_iconst (nI 1) 19 dX9_readsEach_18 rfl kc_1 ?_
  refine k_iload_n 20 dX9_readsEach_19 rfl rfl rfl ?_
  refine k_iastN 21 dX9_readsEach_20 rfl (by (repeat (refine Is.ne ?_ (by omega))); first | assumption | exact Is.up (by omega)) (by omega) (by omega) ?_
  refine k_iload_n 22 dX9_readsEach_21 rfl rfl rfl ?_
  refine k_if_leN 29 25 dX9_readsEach_22 rfl rfl (by omega) (fun c => ?_) (fun c => ?_)
  · omega
  refine k_iconst (nI 1) 26 dX9_readsEach_25 rfl kc_1 ?_
  refine k_goto 30 dX9_readsEach_26 rfl ?_
  refine k_zret dX9_readsEach_30 rfl rfl rfl (Nat.le_of_ble_eq_true rfl) ⟨i1, _, be, ⟨(by (repeat (refine Is.ne ?_ (by omega))); first | assumption | exact Is.up (by omega)), (by (repeat (refine Is.ne ?_ (by omega))); first | assumption | exact Is.up (by omega)), (by (repeat (refine Is.ne ?_ (by omega))); first | assumption | exact Is.up (by omega)), (by (repeat (refine Is.ne ?_ (by omega))); first | assumption | exact Is.up (by omega)), (by (repeat (refine Is.ne ?_ (by omega))); first | assumption | exact Is.up (by omega)), (by (repeat (refine Is.ne ?_ (by omega))); first | assumption | exact Is.up (by omega)), (by (repeat (refine Is.ne ?_ (by omega))); first | assumption | exact Is.up (by omega)), (by (repeat (refine Is.ne ?_ (by omega))); first | assumption | exact Is.up (by omega)), (by (repeat (refine Is.ne ?_ (by omega))); first | assumption | exact Is.up (by omega)), (by (repeat (refine Is.ne ?_ (by omega))); first | assumption | exact Is.up (by omega)), (by (repeat (refine Is.ne ?_ (by omega))); first | assumption | exact Is.up (by omega)), (by (repeat (refine Is.ne ?_ (by omega))); first | assumption | exact Is.up (by omega)), (by (repeat (refine Is.ne ?_ (by omega))); first | assumption | exact Is.up (by omega))⟩, (by (repeat (refine Eqx.up ?_ (by omega) (by omega))); first | exact Eqx.rf | assumption), Or.inr ⟨_, its_mk hl n1, rfl, ⟨?_, ?_, fun p hp => ⟨?_, ?_, ?_⟩⟩, hD.2.1, hD.2.2⟩⟩
  · rw [upd_n _ _ (by omega)]
    exact hD.1.1
  · rw [upd_s]
    rfl
  · rw [upd_n _ _ (by omega)]
    exact (hD.1.2.2 p hp).1
  · rw [upd_n _ _ (by omega)]
    exact (hD.1.2.2 p hp).2.1
  · rw [upd_n _ _ (by omega)]
    exact (hD.1.2.2 p hp).2.2
theorem V72_sD {s : Nat → Int32} {n p q v : Nat} {M : Mo} (h : V72 s n M) (hn : n ≤ 7) (hL : mL M ≤ 7) (hp : p < 7) (hq : q < 7) : V72 (upd s (23 + 7 * p + q) (nI v)) n (sD M (7 * p + q) v) := by
  refine ⟨?_, ?_, fun j hj => ?_, fun r hr => ⟨?_, ?_⟩, fun i hi => ?_⟩
  · rw [upd_n _ _ (by omega)]
    exact h.1
  · rw [upd_n _ _ (by omega)]
    exact h.2.1
  · have hj : j < mL M := hj
    rw [upd_n _ _ (by omega)]
    exact h.2.2.1 j hj
  · rw [upd_n _ _ (by omega)]
    exact (h.2.2.2.1 r hr).1
  · rw [upd_n _ _ (by omega)]
    exact (h.2.2.2.1 r hr).2
  · show _ = nI (sf (mD M) (7 * p + q) v i)
    by_cases e : i = 7 * p + q
    · rw [e, ← Nat.add_assoc, upd_s, sf_s]
    · rw [upd_n _ _ (by omega), sf_n _ _ e]
      exact h.2.2.2.2 i hi
theorem c_X9_readsDebt {G : KG} {N : Nat} {w : WD} {b t kn ke no i : Nat} {tx to_ dr be s pa im nt ah sd gr ro : Nat → Int32} {T : Nat → Nat} {X : Fo × Mo} (h : RsC G N w b t kn ke no (.int (nI (i + 1))) tx to_ dr be s pa im nt ah sd gr ro) (hT : ∀ k, k < t → tx k = nI (T k)) (hT2 : ∀ k, T k < 200) (ht : t ≤ 200) (hi : i < t) (hl : ltA T t i = 100) (hD : DrI dr be X) (hX : pOK X) : KCon G jX9_readsDebt N w [rf G b] (RdX G N w b t kn ke no i tx to_ s pa im nt ah sd gr ro T X) := by
  obtain ⟨g0, g1, g2, g3, g4, g5, g6, g7, g8, g9, g10, g11, g12⟩ := id h
  have hN := g12.1
  have hX7 := hX.1.1
  have hL7 := hX.2.1
  have none_ : (∀ a i1 c i2 m i3, num T t (i + 1) 0 (oN X.1) 44 = some (a, i1) → num T t i1 0 (oN X.1) 44 = some (c, i2) → num T t i2 0 61 59 = some (m, i3) → a ≠ c → False) → itm T t X i = none := by
    intro hc
    cases e : itm T t X i with
    | none => rfl
    | some q =>
      obtain ⟨X1, j⟩ := q
      obtain ⟨a, i1, c, i2, m, a1, a2, a3, a4⟩ := itd_inv hl e
      exact (hc a i1 c i2 m j a1 a2 a3 a4).elim
  refine KCon.of ([some (rf G b), none, none, none]) (by decide) rfl (by simp [Value.category]) (Nat.le_of_ble_eq_true rfl) rfl ?_
  have out : ∀ (w2 : WD) (j : Nat) (L : List (Option Value)), RsC G N w2 b t kn ke no (.int (nI j)) tx to_ dr be s pa im nt ah sd gr ro → Eqx w w2 b (b + 12) → itm T t X i = none → KRun G jX9_readsDebt N (RdX G N w b t kn ke no i tx to_ s pa im nt ah sd gr ro T X) 67 L [] 0 0 w2 := by
    intro w2 j L hC hE hn
    refine k_iconst (nI 0) 68 dX9_readsDebt_67 rfl kc_0 ?_
    refine k_zret dX9_readsDebt_68 rfl rfl rfl (Nat.le_of_ble_eq_true rfl) ⟨j, dr, be, hC, hE, Or.inl ⟨hn, rfl⟩⟩
  have f3 : ∀ (w2 : WD) (j : Nat) (L1 L2 : Option Value), lc_ok [some (rf G b), L1, L2, none] 3 = true → RsC G N w2 b t kn ke no (.int (nI j)) tx to_ dr be s pa im nt ah sd gr ro → Eqx w w2 b (b + 12) → itm T t X i = none → KRun G jX9_readsDebt N (RdX G N w b t kn ke no i tx to_ s pa im nt ah sd gr ro T X) 57 [some (rf G b), L1, L2, none] [.int (-1)] 0 0 w2 := by
    intro w2 j L1 L2 hlc hC hE hn
    refine k_istore_n _ 58 dX9_readsDebt_57 rfl rfl (by decide) hlc rfl ?_
    refine k_iload_n 59 dX9_readsDebt_58 rfl rfl rfl ?_
    refine k_if_lt 67 62 dX9_readsDebt_59 rfl rfl (fun c => ?_) (fun c => ?_)
    · exact out w2 j _ hC hE hn
    · exact absurd (show (-1 : Int32) < 0 by decide) c
  have f2 : ∀ (w2 : WD) (j : Nat) (L1 : Option Value), lc_ok [some (rf G b), L1, none, none] 2 = true → RsC G N w2 b t kn ke no (.int (nI j)) tx to_ dr be s pa im nt ah sd gr ro → Eqx w w2 b (b + 12) → itm T t X i = none → KRun G jX9_readsDebt N (RdX G N w b t kn ke no i tx to_ s pa im nt ah sd gr ro T X) 39 [some (rf G b), L1, none, none] [.int (-1)] 0 0 w2 := by
    intro w2 j L1 hlc hC hE hn
    refine k_istore_n _ 40 dX9_readsDebt_39 rfl rfl (by decide) hlc rfl ?_
    refine k_iload_n 41 dX9_readsDebt_40 rfl rfl rfl ?_
    refine k_if_ge 48 44 dX9_readsDebt_41 rfl rfl (fun c => ?_) (fun c => ?_)
    · exact absurd c (by decide)
    · refine k_iconst (-1) 45 dX9_readsDebt_44 rfl km_1 ?_
      refine k_goto 57 dX9_readsDebt_45 rfl ?_
      exact f3 w2 j _ _ rfl hC hE hn
  have hhi : (nI (oN X.1) - nI 1).toInt = (oN X.1 : Int) - 1 := pk_sub_toInt (by omega) (by omega)
  refine k_aload_n 1 dX9_readsDebt_0 rfl rfl rfl ?_
  refine k_iconst (nI 0) 2 dX9_readsDebt_1 rfl kc_0 ?_
  refine k_aload_n 3 dX9_readsDebt_2 rfl rfl rfl ?_
  refine k_get 6 dX9_readsDebt_3 rfl fX9_readsDebt_16 (by (repeat (refine Is.ne ?_ (by omega))); first | assumption | exact Is.up (by omega)) (by rfl) ?_
  refine k_iconst (nI 0) 7 dX9_readsDebt_6 rfl kc_0 ?_
  refine k_ialdN 8 dX9_readsDebt_7 rfl (by (repeat (refine Is.ne ?_ (by omega))); first | assumption | exact Is.up (by omega)) (by omega) (by omega) ?_
  rw [hD.1.1]
  refine k_iconst (nI 1) 9 dX9_readsDebt_8 rfl kc_1 ?_
  refine k_isub 10 dX9_readsDebt_9 rfl ?_
  refine k_bipush (nI 44) 12 dX9_readsDebt_10 rfl kb_44 ?_
  refine k_V3 (ci := 8) 15 dX9_readsDebt_12 rfl vX9_readsDebt_75 (by (repeat (refine Is.ne ?_ (by omega))); first | assumption | exact Is.up (by omega)) rfl rfl (Nat.le_of_ble_eq_true rfl) rfl ⟨Nat.le_of_ble_eq_true rfl, Nat.le_of_ble_eq_true rfl⟩ (c_X9_number (lo := 0) (hx := oN X.1) (hi := nI (oN X.1) - nI 1) (e := 44) h hT hT2 ht (by omega) (by omega) hhi (by omega) (by omega)) (fun r1 w1 x1 => ?_)
  obtain ⟨i1, hC1, hE1, x1⟩ := x1
  clear g0 g1 g2 g3 g4 g5 g6 g7 g8 g9 g10 g11 g12
  rcases x1 with ⟨n1, rfl⟩ | ⟨k, hk, hi1, n1, rfl⟩
  · refine k_istore_n _ 16 dX9_readsDebt_15 rfl rfl (by decide) rfl rfl ?_
    refine k_iload_n 17 dX9_readsDebt_16 rfl rfl rfl ?_
    refine k_if_ge 24 20 dX9_readsDebt_17 rfl rfl (fun c => ?_) (fun c => ?_)
    · exact absurd c (by decide)
    · refine k_iconst (-1) 21 dX9_readsDebt_20 rfl km_1 ?_
      refine k_goto 39 dX9_readsDebt_21 rfl ?_
      exact f2 w1 i1 _ rfl hC1 hE1 (none_ (fun a i1 c i2 m i3 a1 a2 a3 a4 => by rw [n1] at a1; cases a1))
  obtain ⟨-, -, -, -, hkn, -⟩ := num_inv n1
  obtain ⟨g0, g1, g2, g3, g4, g5, g6, g7, g8, g9, g10, g11, g12⟩ := id hC1
  refine k_istore_n _ 16 dX9_readsDebt_15 rfl rfl (by decide) rfl rfl ?_
  refine k_iload_n 17 dX9_readsDebt_16 rfl rfl rfl ?_
  refine k_if_geN 24 20 dX9_readsDebt_17 rfl rfl (by omega) (fun c => ?_) (fun c => ?_)
  rotate_left
  · omega
  refine k_aload_n 25 dX9_readsDebt_24 rfl rfl rfl ?_
  refine k_iconst (nI 0) 26 dX9_readsDebt_25 rfl kc_0 ?_
  refine k_aload_n 27 dX9_readsDebt_26 rfl rfl rfl ?_
  refine k_get 30 dX9_readsDebt_27 rfl fX9_readsDebt_16 (by (repeat (refine Is.ne ?_ (by omega))); first | assumption | exact Is.up (by omega)) (by rfl) ?_
  refine k_iconst (nI 0) 31 dX9_readsDebt_30 rfl kc_0 ?_
  refine k_ialdN 32 dX9_readsDebt_31 rfl (by (repeat (refine Is.ne ?_ (by omega))); first | assumption | exact Is.up (by omega)) (by omega) (by omega) ?_
  rw [hD.1.1]
  refine k_iconst (nI 1) 33 dX9_readsDebt_32 rfl kc_1 ?_
  refine k_isub 34 dX9_readsDebt_33 rfl ?_
  refine k_bipush (nI 44) 36 dX9_readsDebt_34 rfl kb_44 ?_
  refine k_V3 (ci := 8) 39 dX9_readsDebt_36 rfl vX9_readsDebt_75 (by (repeat (refine Is.ne ?_ (by omega))); first | assumption | exact Is.up (by omega)) rfl rfl (Nat.le_of_ble_eq_true rfl) rfl ⟨Nat.le_of_ble_eq_true rfl, Nat.le_of_ble_eq_true rfl⟩ (c_X9_number (lo := 0) (hx := oN X.1) (hi := nI (oN X.1) - nI 1) (e := 44) hC1 hT hT2 ht (by omega) (by omega) hhi (by omega) (by omega)) (fun r2 w2 x2 => ?_)
  obtain ⟨i2, hC2, hE2, x2⟩ := x2
  clear g0 g1 g2 g3 g4 g5 g6 g7 g8 g9 g10 g11 g12
  have hE2' := hE1.tr hE2
  rcases x2 with ⟨n2, rfl⟩ | ⟨v, hv, hi2, n2, rfl⟩
  · exact f2 w2 i2 _ rfl hC2 hE2' (none_ (fun a i1 c i2 m i3 a1 a2 a3 a4 => by rw [n1] at a1; cases a1; rw [n2] at a2; cases a2))
  obtain ⟨-, -, -, -, hvn, -⟩ := num_inv n2
  obtain ⟨g0, -⟩ := id hC2
  refine k_istore_n _ 40 dX9_readsDebt_39 rfl rfl (by decide) rfl rfl ?_
  refine k_iload_n 41 dX9_readsDebt_40 rfl rfl rfl ?_
  refine k_if_geN 48 44 dX9_readsDebt_41 rfl rfl (by omega) (fun c => ?_) (fun c => ?_)
  rotate_left
  · omega
  refine k_aload_n 49 dX9_readsDebt_48 rfl rfl rfl ?_
  refine k_iconst (nI 0) 50 dX9_readsDebt_49 rfl kc_0 ?_
  refine k_bipush (nI 60) 52 dX9_readsDebt_50 rfl kb_60 ?_
  refine k_bipush (nI 59) 54 dX9_readsDebt_52 rfl kb_59 ?_
  refine k_V3 (ci := 8) 57 dX9_readsDebt_54 rfl vX9_readsDebt_75 (by (repeat (refine Is.ne ?_ (by omega))); first | assumption | exact Is.up (by omega)) rfl rfl (Nat.le_of_ble_eq_true rfl) rfl ⟨Nat.le_of_ble_eq_true rfl, Nat.le_of_ble_eq_true rfl⟩ (c_X9_number (lo := 0) (hx := 61) (hi := nI 60) (e := 59) hC2 hT hT2 ht (by omega) (by omega) (by rw [nI_toInt (by omega)]; rfl) (by omega) (by omega)) (fun r3 w3 x3 => ?_)
  obtain ⟨i3, hC3, hE3, x3⟩ := x3
  clear g0
  have hE3' := hE2'.tr hE3
  rcases x3 with ⟨n3, rfl⟩ | ⟨m, hm, hi3, n3, rfl⟩
  · exact f3 w3 i3 _ _ rfl hC3 hE3' (none_ (fun a i1 c i2 m i3 a1 a2 a3 a4 => by rw [n1] at a1; cases a1; rw [n2] at a2; cases a2; rw [n3] at a3; cases a3))
  obtain ⟨g0, g1, g2, g3, g4, g5, g6, g7, g8, g9, g10, g11, g12⟩ := id hC3
  refine k_istore_n _ 58 dX9_readsDebt_57 rfl rfl (by decide) rfl rfl ?_
  refine k_iload_n 59 dX9_readsDebt_58 rfl rfl rfl ?_
  refine k_if_ltN 67 62 dX9_readsDebt_59 rfl rfl (by omega) (fun c => ?_) (fun c => ?_)
  · omega
  refine k_iload_n 63 dX9_readsDebt_62 rfl rfl rfl ?_
  refine k_iload_n 64 dX9_readsDebt_63 rfl rfl rfl ?_
  refine k_icmp_neN 69 67 dX9_readsDebt_64 rfl rfl (by omega) (by omega) (fun c => ?_) (fun c => ?_)
  · refine k_aload_n 70 dX9_readsDebt_69 rfl rfl rfl ?_
    refine k_get 73 dX9_readsDebt_70 rfl fX9_readsDebt_19 (by (repeat (refine Is.ne ?_ (by omega))); first | assumption | exact Is.up (by omega)) (by rfl) ?_
    refine k_bipush (nI 23) 75 dX9_readsDebt_73 rfl kb_23 ?_
    refine k_bipush (nI 7) 77 dX9_readsDebt_75 rfl kb_7 ?_
    refine k_iload_n 78 dX9_readsDebt_77 rfl rfl rfl ?_
    first | refine k_imulE _ 79 dX9_readsDebt_78 rfl (pk_mul _ _) ?_ | refine k_imul 79 dX9_readsDebt_78 rfl ?_
    first | refine k_iaddE _ 80 dX9_readsDebt_79 rfl (nI_add _ _) ?_ | refine k_iadd 80 dX9_readsDebt_79 rfl ?_
    refine k_iload_n 81 dX9_readsDebt_80 rfl rfl rfl ?_
    first | refine k_iaddE _ 82 dX9_readsDebt_81 rfl (nI_add _ _) ?_ | refine k_iadd 82 dX9_readsDebt_81 rfl ?_
    refine k_iload_n 83 dX9_readsDebt_82 rfl rfl rfl ?_
    refine k_iastN 84 dX9_readsDebt_83 rfl (by (repeat (refine Is.ne ?_ (by omega))); first | assumption | exact Is.up (by omega)) (by omega) (by omega) ?_
    refine k_iconst (nI 1) 85 dX9_readsDebt_84 rfl kc_1 ?_
    have hn7 : oN X.1 ≤ 7 := hX7
    refine k_zret dX9_readsDebt_85 rfl rfl rfl (Nat.le_of_ble_eq_true rfl) ⟨i3, dr, _, ⟨(by (repeat (refine Is.ne ?_ (by omega))); first | assumption | exact Is.up (by omega)), (by (repeat (refine Is.ne ?_ (by omega))); first | assumption | exact Is.up (by omega)), (by (repeat (refine Is.ne ?_ (by omega))); first | assumption | exact Is.up (by omega)), (by (repeat (refine Is.ne ?_ (by omega))); first | assumption | exact Is.up (by omega)), (by (repeat (refine Is.ne ?_ (by omega))); first | assumption | exact Is.up (by omega)), (by (repeat (refine Is.ne ?_ (by omega))); first | assumption | exact Is.up (by omega)), (by (repeat (refine Is.ne ?_ (by omega))); first | assumption | exact Is.up (by omega)), (by (repeat (refine Is.ne ?_ (by omega))); first | assumption | exact Is.up (by omega)), (by (repeat (refine Is.ne ?_ (by omega))); first | assumption | exact Is.up (by omega)), (by (repeat (refine Is.ne ?_ (by omega))); first | assumption | exact Is.up (by omega)), (by (repeat (refine Is.ne ?_ (by omega))); first | assumption | exact Is.up (by omega)), (by (repeat (refine Is.ne ?_ (by omega))); first | assumption | exact Is.up (by omega)), (by (repeat (refine Is.ne ?_ (by omega))); first | assumption | exact Is.up (by omega))⟩, (by (repeat (refine Eqx.up ?_ (by omega) (by omega))); first | exact Eqx.rf | assumption), Or.inr ⟨_, itd_mk hl n1 n2 n3 c, rfl, hD.1, V72_sD hD.2.1 hX7 (by omega) (by omega) (by omega), fun p hp => ?_⟩⟩
    rw [upd_n _ _ (by omega)]
    exact hD.2.2 p hp
  · exact out w3 i3 _ hC3 hE3' (none_ (fun a i1 c i2 m i3 a1 a2 a3 a4 => by rw [n1] at a1; cases a1; rw [n2] at a2; cases a2; omega))
theorem c_X9_readsAll {G : KG} {N : Nat} {w : WD} {b t kn ke no : Nat} {at_ : Int32} {tx to_ dr be s pa im nt ah sd gr ro : Nat → Int32} {T : Nat → Nat} (h : RsC G N w b t kn ke no (.int at_) tx to_ dr be s pa im nt ah sd gr ro) (hT : ∀ k, k < t → tx k = nI (T k)) (hT2 : ∀ k, T k < 200) (ht : t ≤ 200) : KCon G jX9_readsAll N w [rf G b] (fun r w1 => r = some (.int (rdI (rdT T t))) ∧ ∃ (at1 : Int32) (dr1 be1 : Nat → Int32), RsC G N w1 b t kn ke no (.int at1) tx to_ dr1 be1 s pa im nt ah sd gr ro ∧ Eqx w w1 b (b + 12) ∧ ∀ X, rdT T t = .inl X → DrI dr1 be1 X ∧ pOK X) := by
  obtain ⟨g0, -⟩ := id h
  refine KCon.of ([some (rf G b), none, none, none]) (by decide) rfl (by simp [Value.category]) (Nat.le_of_ble_eq_true rfl) rfl ?_
  refine k_aload_n 1 dX9_readsAll_0 rfl rfl rfl ?_
  refine k_V0 (ci := 8) 4 dX9_readsAll_1 rfl vX9_readsAll_46 (by (repeat (refine Is.ne ?_ (by omega))); first | assumption | exact Is.up (by omega)) rfl rfl (Nat.le_of_ble_eq_true rfl) rfl ⟨Nat.le_of_ble_eq_true rfl, Nat.le_of_ble_eq_true rfl⟩ (c_X9_begins h) (fun r1 w1 x1 => ?_)
  obtain ⟨rfl, dr1, be1, hC1, hD1, hE1⟩ := x1
  clear g0
  obtain ⟨g0, g1, g2, g3, g4, g5, g6, g7, g8, g9, g10, g11, g12⟩ := id hC1
  have hN := g12.1
  refine k_aload_n 5 dX9_readsAll_4 rfl rfl rfl ?_
  refine k_iconst (nI 0) 6 dX9_readsAll_5 rfl kc_0 ?_
  refine k_put 9 dX9_readsAll_6 rfl pX9_readsAll_64 (by (repeat (refine Is.ne ?_ (by omega))); first | assumption | exact Is.up (by omega)) (Nat.le_of_ble_eq_true rfl) rfl rfl ?_
  have loop : ∀ f i (w2 : WD) (dr2 be2 : Nat → Int32) (X : Fo × Mo), RsC G N w2 b t kn ke no (.int (nI i)) tx to_ dr2 be2 s pa im nt ah sd gr ro → Eqx w w2 b (b + 12) → DrI dr2 be2 X → pOK X → rda T t f X i = rdT T t → i ≤ t → t ≤ i + f → KRun G jX9_readsAll N (fun r w1 => r = some (.int (rdI (rdT T t))) ∧ ∃ (at1 : Int32) (dr1 be1 : Nat → Int32), RsC G N w1 b t kn ke no (.int at1) tx to_ dr1 be1 s pa im nt ah sd gr ro ∧ Eqx w w1 b (b + 12) ∧ ∀ X, rdT T t = .inl X → DrI dr1 be1 X ∧ pOK X) 9 [some (rf G b), none, none, none] [] 0 0 w2 := by
    intro f
    induction f with
    | zero =>
      intro i w2 dr2 be2 X hC hE hD hX hr hit hif
      have hr : rdT T t = .inl X := hr.symm
      obtain ⟨g0, -⟩ := id hC
      have hif : t ≤ i := hif
      refine k_aload_n 10 dX9_readsAll_9 rfl rfl rfl ?_
      refine k_get 13 dX9_readsAll_10 rfl fX9_readsAll_64 (by (repeat (refine Is.ne ?_ (by omega))); first | assumption | exact Is.up (by omega)) (by rfl) ?_
      refine k_aload_n 14 dX9_readsAll_13 rfl rfl rfl ?_
      refine k_get 17 dX9_readsAll_14 rfl fX9_readsAll_60 (by (repeat (refine Is.ne ?_ (by omega))); first | assumption | exact Is.up (by omega)) (by rfl) ?_
      refine k_icmp_geN 96 20 dX9_readsAll_17 rfl rfl (by omega) (by omega) (fun c => ?_) (fun c => ?_)
      · refine k_bipush (-4) 98 dX9_readsAll_96 rfl kbm_4 ?_
        refine k_iret dX9_readsAll_98 rfl rfl (Nat.le_of_ble_eq_true rfl) ⟨by rw [hr]; rfl, _, dr2, be2, hC, hE, fun Y hY => by rw [hr] at hY; cases hY; exact ⟨hD, hX⟩⟩
      · omega
    | succ f ih =>
      intro i w2 dr2 be2 X hC hE hD hX hr hit hif
      obtain ⟨g0, g1, g2, g3, g4, g5, g6, g7, g8, g9, g10, g11, g12⟩ := id hC
      refine k_aload_n 10 dX9_readsAll_9 rfl rfl rfl ?_
      refine k_get 13 dX9_readsAll_10 rfl fX9_readsAll_64 (by (repeat (refine Is.ne ?_ (by omega))); first | assumption | exact Is.up (by omega)) (by rfl) ?_
      refine k_aload_n 14 dX9_readsAll_13 rfl rfl rfl ?_
      refine k_get 17 dX9_readsAll_14 rfl fX9_readsAll_60 (by (repeat (refine Is.ne ?_ (by omega))); first | assumption | exact Is.up (by omega)) (by rfl) ?_
      refine k_icmp_geN 96 20 dX9_readsAll_17 rfl rfl (by omega) (by omega) (fun c => ?_) (fun c => ?_)
      · have hr : rdT T t = .inl X := by
          rw [← hr]
          simp only [rda]
          rw [if_neg (by omega)]
        refine k_bipush (-4) 98 dX9_readsAll_96 rfl kbm_4 ?_
        refine k_iret dX9_readsAll_98 rfl rfl (Nat.le_of_ble_eq_true rfl) ⟨by rw [hr]; rfl, _, dr2, be2, hC, hE, fun Y hY => by rw [hr] at hY; cases hY; exact ⟨hD, hX⟩⟩
      have hi := c
      have hlt : ltA T t i = T i := by
        unfold ltA
        rw [if_pos hi]
      have hTi := hT2 i
      refine k_aload_n 21 dX9_readsAll_20 rfl rfl rfl ?_
      refine k_get 24 dX9_readsAll_21 rfl fX9_readsAll_64 (by (repeat (refine Is.ne ?_ (by omega))); first | assumption | exact Is.up (by omega)) (by rfl) ?_
      refine k_istore_n _ 25 dX9_readsAll_24 rfl rfl (by decide) rfl rfl ?_
      refine k_aload_n 26 dX9_readsAll_25 rfl rfl rfl ?_
      refine k_get 29 dX9_readsAll_26 rfl fX9_readsAll_7 (by (repeat (refine Is.ne ?_ (by omega))); first | assumption | exact Is.up (by omega)) (by rfl) ?_
      refine k_iload_n 30 dX9_readsAll_29 rfl rfl rfl ?_
      refine k_ialdN 31 dX9_readsAll_30 rfl (by (repeat (refine Is.ne ?_ (by omega))); first | assumption | exact Is.up (by omega)) (by omega) (by omega) ?_
      rw [hT i hi, ← hlt]
      refine k_istore_n _ 32 dX9_readsAll_31 rfl rfl (by decide) rfl rfl ?_
      refine k_aload_n 33 dX9_readsAll_32 rfl rfl rfl ?_
      refine k_dup 34 dX9_readsAll_33 rfl rfl ?_
      refine k_get 37 dX9_readsAll_34 rfl fX9_readsAll_64 (by (repeat (refine Is.ne ?_ (by omega))); first | assumption | exact Is.up (by omega)) (by rfl) ?_
      refine k_iconst (nI 1) 38 dX9_readsAll_37 rfl kc_1 ?_
      first | refine k_iaddE _ 39 dX9_readsAll_38 rfl (nI_add _ _) ?_ | refine k_iadd 39 dX9_readsAll_38 rfl ?_
      refine k_put 42 dX9_readsAll_39 rfl pX9_readsAll_64 (by (repeat (refine Is.ne ?_ (by omega))); first | assumption | exact Is.up (by omega)) (Nat.le_of_ble_eq_true rfl) rfl rfl ?_
      refine k_nm (fun w3 hw3 => ?_)
      have hC3 : RsC G N w3 b t kn ke no (.int (nI (i + 1))) tx to_ dr2 be2 s pa im nt ah sd gr ro := by
        rw [hw3]
        exact ⟨(by (repeat (refine Is.ne ?_ (by omega))); first | assumption | exact Is.up (by omega)), (by (repeat (refine Is.ne ?_ (by omega))); first | assumption | exact Is.up (by omega)), (by (repeat (refine Is.ne ?_ (by omega))); first | assumption | exact Is.up (by omega)), (by (repeat (refine Is.ne ?_ (by omega))); first | assumption | exact Is.up (by omega)), (by (repeat (refine Is.ne ?_ (by omega))); first | assumption | exact Is.up (by omega)), (by (repeat (refine Is.ne ?_ (by omega))); first | assumption | exact Is.up (by omega)), (by (repeat (refine Is.ne ?_ (by omega))); first | assumption | exact Is.up (by omega)), (by (repeat (refine Is.ne ?_ (by omega))); first | assumption | exact Is.up (by omega)), (by (repeat (refine Is.ne ?_ (by omega))); first | assumption | exact Is.up (by omega)), (by (repeat (refine Is.ne ?_ (by omega))); first | assumption | exact Is.up (by omega)), (by (repeat (refine Is.ne ?_ (by omega))); first | assumption | exact Is.up (by omega)), (by (repeat (refine Is.ne ?_ (by omega))); first | assumption | exact Is.up (by omega)), (by (repeat (refine Is.ne ?_ (by omega))); first | assumption | exact Is.up (by omega))⟩
      have hE3 : Eqx w w3 b (b + 12) := by
        rw [hw3]
        exact (by (repeat (refine Eqx.up ?_ (by omega) (by omega))); first | exact Eqx.rf | assumption)
      clear hw3 g0 g1 g2 g3 g4 g5 g6 g7 g8 g9 g10 g11 g12
      obtain ⟨g0, -⟩ := id hC3
      have good : ∀ (w4 : WD) (X1 : Fo × Mo) (i1 : Nat) (dr3 be3 : Nat → Int32), RsC G N w4 b t kn ke no (.int (nI i1)) tx to_ dr3 be3 s pa im nt ah sd gr ro → Eqx w w4 b (b + 12) → itm T t X i = some (X1, i1) → DrI dr3 be3 X1 → KRun G jX9_readsAll N (fun r w1 => r = some (.int (rdI (rdT T t))) ∧ ∃ (at1 : Int32) (dr1 be1 : Nat → Int32), RsC G N w1 b t kn ke no (.int at1) tx to_ dr1 be1 s pa im nt ah sd gr ro ∧ Eqx w w1 b (b + 12) ∧ ∀ X, rdT T t = .inl X → DrI dr1 be1 X ∧ pOK X) 86 [some (rf G b), some (.int (nI i)), some (.int (nI (ltA T t i))), none] [.int (bI true)] 0 0 w4 := by
        intro w4 X1 i1 dr3 be3 hC4 hE4 hit4 hD4
        refine k_istore_n _ 87 dX9_readsAll_86 rfl rfl (by decide) rfl rfl ?_
        refine k_iload_n 88 dX9_readsAll_87 rfl rfl rfl ?_
        refine k_if_neB (b := true) 93 91 dX9_readsAll_88 rfl rfl (fun c9 => ?_) (fun c9 => absurd c9 (by simp))
        refine k_goto 9 dX9_readsAll_93 rfl ?_
        refine k_loc [some (rf G b), none, none, none] ⟨rfl, trivial⟩ rfl ?_
        have hle := itm_le hit4
        refine ih i1 w4 dr3 be3 X1 hC4 hE4 hD4 (pOK_itm hX hit4) ?_ (by omega) (by omega)
        rw [← hr]
        simp only [rda]
        rw [if_pos hi, hit4]
      have bad : ∀ (w4 : WD) (at1 : Int32) (dr3 be3 : Nat → Int32), RsC G N w4 b t kn ke no (.int at1) tx to_ dr3 be3 s pa im nt ah sd gr ro → Eqx w w4 b (b + 12) → itm T t X i = none → KRun G jX9_readsAll N (fun r w1 => r = some (.int (rdI (rdT T t))) ∧ ∃ (at1 : Int32) (dr1 be1 : Nat → Int32), RsC G N w1 b t kn ke no (.int at1) tx to_ dr1 be1 s pa im nt ah sd gr ro ∧ Eqx w w1 b (b + 12) ∧ ∀ X, rdT T t = .inl X → DrI dr1 be1 X ∧ pOK X) 86 [some (rf G b), some (.int (nI i)), some (.int (nI (ltA T t i))), none] [.int (bI false)] 0 0 w4 := by
        intro w4 at1 dr3 be3 hC4 hE4 hit4
        have hr : rdT T t = .inr i := by
          rw [← hr]
          simp only [rda]
          rw [if_pos hi, hit4]
        refine k_istore_n _ 87 dX9_readsAll_86 rfl rfl (by decide) rfl rfl ?_
        refine k_iload_n 88 dX9_readsAll_87 rfl rfl rfl ?_
        refine k_if_neB (b := false) 93 91 dX9_readsAll_88 rfl rfl (fun c9 => absurd c9 (by simp)) (fun c9 => ?_)
        refine k_iload_n 92 dX9_readsAll_91 rfl rfl rfl ?_
        refine k_iret dX9_readsAll_92 rfl rfl (Nat.le_of_ble_eq_true rfl) ⟨by rw [hr]; rfl, at1, dr3, be3, hC4, hE4, fun Y hY => by rw [hr] at hY; cases hY⟩
      have hlb : ltA T t i < 200 := by rw [hlt]; exact hTi
      refine k_iload_n 43 dX9_readsAll_42 rfl rfl rfl ?_
      refine k_bipush (nI 112) 45 dX9_readsAll_43 rfl kb_112 ?_
      refine k_icmp_neN 55 48 dX9_readsAll_45 rfl rfl (by omega) (by omega) (fun c => ?_) (fun c => ?_)
      rotate_left
      · refine k_aload_n 49 dX9_readsAll_48 rfl rfl rfl ?_
        refine k_V0 (ci := 8) 52 dX9_readsAll_49 rfl vX9_readsAll_79 (by (repeat (refine Is.ne ?_ (by omega))); first | assumption | exact Is.up (by omega)) rfl rfl (Nat.le_of_ble_eq_true rfl) rfl ⟨Nat.le_of_ble_eq_true rfl, Nat.le_of_ble_eq_true rfl⟩ (c_X9_readsPerson hC3 hT hT2 ht hi (by omega) hD hX) (fun r4 w4 x4 => ?_)
        obtain ⟨i1, dr3, be3, hC4, hE4, x4⟩ := x4
        rcases x4 with ⟨hn, rfl⟩ | ⟨X1, hs, rfl, hD4⟩
        · refine k_goto 86 dX9_readsAll_52 rfl ?_
          exact bad w4 _ dr3 be3 hC4 (hE3.tr hE4) hn
        · refine k_goto 86 dX9_readsAll_52 rfl ?_
          exact good w4 X1 i1 dr3 be3 hC4 (hE3.tr hE4) hs hD4
      have k1 := c
      refine k_iload_n 56 dX9_readsAll_55 rfl rfl rfl ?_
      refine k_bipush (nI 115) 58 dX9_readsAll_56 rfl kb_115 ?_
      refine k_icmp_neN 68 61 dX9_readsAll_58 rfl rfl (by omega) (by omega) (fun c => ?_) (fun c => ?_)
      rotate_left
      · refine k_aload_n 62 dX9_readsAll_61 rfl rfl rfl ?_
        refine k_V0 (ci := 8) 65 dX9_readsAll_62 rfl vX9_readsAll_83 (by (repeat (refine Is.ne ?_ (by omega))); first | assumption | exact Is.up (by omega)) rfl rfl (Nat.le_of_ble_eq_true rfl) rfl ⟨Nat.le_of_ble_eq_true rfl, Nat.le_of_ble_eq_true rfl⟩ (c_X9_readsEach hC3 hT hT2 ht hi (by omega) hD hX) (fun r4 w4 x4 => ?_)
        obtain ⟨i1, dr3, be3, hC4, hE4, x4⟩ := x4
        rcases x4 with ⟨hn, rfl⟩ | ⟨X1, hs, rfl, hD4⟩
        · refine k_goto 86 dX9_readsAll_65 rfl ?_
          exact bad w4 _ dr3 be3 hC4 (hE3.tr hE4) hn
        · refine k_goto 86 dX9_readsAll_65 rfl ?_
          exact good w4 X1 i1 dr3 be3 hC4 (hE3.tr hE4) hs hD4
      have k2 := c
      refine k_iload_n 69 dX9_readsAll_68 rfl rfl rfl ?_
      refine k_bipush (nI 100) 71 dX9_readsAll_69 rfl kb_100 ?_
      refine k_icmp_neN 85 74 dX9_readsAll_71 rfl rfl (by omega) (by omega) (fun c => ?_) (fun c => ?_)
      · refine k_iconst (nI 0) 86 dX9_readsAll_85 rfl kc_0 ?_
        exact bad w3 _ dr2 be2 hC3 hE3 (itm_no k1 k2 (by assumption))
      · refine k_aload_n 75 dX9_readsAll_74 rfl rfl rfl ?_
        refine k_V0 (ci := 8) 78 dX9_readsAll_75 rfl vX9_readsAll_86 (by (repeat (refine Is.ne ?_ (by omega))); first | assumption | exact Is.up (by omega)) rfl rfl (Nat.le_of_ble_eq_true rfl) rfl ⟨Nat.le_of_ble_eq_true rfl, Nat.le_of_ble_eq_true rfl⟩ (c_X9_readsDebt hC3 hT hT2 ht hi (by omega) hD hX) (fun r4 w4 x4 => ?_)
        obtain ⟨i1, dr3, be3, hC4, hE4, x4⟩ := x4
        rcases x4 with ⟨hn, rfl⟩ | ⟨X1, hs, rfl, hD4⟩
        · refine k_if_eqB (b := false) 85 81 dX9_readsAll_78 rfl rfl (fun c9 => ?_) (fun c9 => absurd c9 (by simp))
          refine k_iconst (nI 0) 86 dX9_readsAll_85 rfl kc_0 ?_
          exact bad w4 _ dr3 be3 hC4 (hE3.tr hE4) hn
        · refine k_if_eqB (b := true) 85 81 dX9_readsAll_78 rfl rfl (fun c9 => absurd c9 (by simp)) (fun c9 => ?_)
          refine k_iconst (nI 1) 82 dX9_readsAll_81 rfl kc_1 ?_
          refine k_goto 86 dX9_readsAll_82 rfl ?_
          exact good w4 X1 i1 dr3 be3 hC4 (hE3.tr hE4) hs hD4
  refine loop 200 0 _ dr1 be1 (oF0, oM0) ?_ ?_ hD1 pOK_0 rfl (Nat.zero_le _) (by omega)
  · exact ⟨(by (repeat (refine Is.ne ?_ (by omega))); first | assumption | exact Is.up (by omega)), (by (repeat (refine Is.ne ?_ (by omega))); first | assumption | exact Is.up (by omega)), (by (repeat (refine Is.ne ?_ (by omega))); first | assumption | exact Is.up (by omega)), (by (repeat (refine Is.ne ?_ (by omega))); first | assumption | exact Is.up (by omega)), (by (repeat (refine Is.ne ?_ (by omega))); first | assumption | exact Is.up (by omega)), (by (repeat (refine Is.ne ?_ (by omega))); first | assumption | exact Is.up (by omega)), (by (repeat (refine Is.ne ?_ (by omega))); first | assumption | exact Is.up (by omega)), (by (repeat (refine Is.ne ?_ (by omega))); first | assumption | exact Is.up (by omega)), (by (repeat (refine Is.ne ?_ (by omega))); first | assumption | exact Is.up (by omega)), (by (repeat (refine Is.ne ?_ (by omega))); first | assumption | exact Is.up (by omega)), (by (repeat (refine Is.ne ?_ (by omega))); first | assumption | exact Is.up (by omega)), (by (repeat (refine Is.ne ?_ (by omega))); first | assumption | exact Is.up (by omega)), (by (repeat (refine Is.ne ?_ (by omega))); first | assumption | exact Is.up (by omega))⟩
  · exact (by (repeat (refine Eqx.up ?_ (by omega) (by omega))); first | exact Eqx.rf | assumption)
theorem c_X9_fault {G : KG} {N : Nat} {w : WD} {b : Nat} {S : St} (h : RsM G N w b S (qM S) none) (hO : sOK S) : KCon G jX9_fault N w [rf G b] (RpO G N w b (a_fault S)) := by
  obtain ⟨at_, tx, to_, dr, be, s, pa, im, nt, ah, sd, gr, ro, hC, v1, v2, v3, v4, v5, v6, v7, v8⟩ := h
  obtain ⟨g0, -⟩ := id hC
  refine KCon.of ([some (rf G b)]) (by decide) rfl (by simp [Value.category]) (Nat.le_of_ble_eq_true rfl) rfl ?_
  refine k_aload_n 1 dX9_fault_0 rfl rfl rfl ?_
  refine k_V0 (ci := 8) 4 dX9_fault_1 rfl vX9_fault_89 (by (repeat (refine Is.ne ?_ (by omega))); first | assumption | exact Is.up (by omega)) rfl rfl (Nat.le_of_ble_eq_true rfl) rfl ⟨Nat.le_of_ble_eq_true rfl, Nat.le_of_ble_eq_true rfl⟩ (c_X9_readsAll hC v1 hO.2.2.2.2.2.2.2.2.2 hO.2.2.2.2.2.2.2.2.1) (fun r1 w1 x1 => ?_)
  obtain ⟨rfl, at1, dr1, be1, hC1, hE1, -⟩ := x1
  refine k_iret dX9_fault_4 rfl rfl (Nat.le_of_ble_eq_true rfl) ⟨rfl, ⟨at1, tx, to_, dr1, be1, s, pa, im, nt, ah, sd, gr, ro, hC1, v1, v2, v3, v4, v5, v6, v7, v8⟩, hE1⟩
theorem c_X9_lays {G : KG} {N : Nat} {w : WD} {b t kn ke no : Nat} {at_ : Int32} {tx to_ dr be s pa im nt ah sd gr ro : Nat → Int32} {X : Fo × Mo} (h : RsC G N w b t kn ke no (.int at_) tx to_ dr be s pa im nt ah sd gr ro) (hD : DrI dr be X) (hn7 : oN X.1 ≤ 7) (hL : mL X.2 ≤ 7) : KCon G jX9_lays N w [rf G b] (fun r w1 => r = none ∧ ∃ to1 s1, RsC G N w1 b t 0 0 0 (.int at_) tx to1 dr be s1 pa im nt ah sd gr ro ∧ V23 to1 X.1 ∧ V72 s1 (oN X.1) X.2 ∧ Eqx w w1 b (b + 12)) := by
  have hN := h.2.2.2.2.2.2.2.2.2.2.2.2.1
  refine KCon.of ([some (rf G b), none]) (by decide) rfl (by simp [Value.category]) (Nat.le_of_ble_eq_true rfl) rfl ?_
  refine k_iconst (nI 0) 1 dX9_lays_0 rfl kc_0 ?_
  refine k_istore_n _ 2 dX9_lays_1 rfl rfl (by decide) rfl rfl ?_
  have loop2 : ∀ d i (w2 : WD) (f g : Nat → Int32), i + d = 72 → RsC G N w2 b t kn ke no (.int at_) tx f dr be g pa im nt ah sd gr ro → Eqx w w2 b (b + 12) → (∀ j, j < 23 → f j = dr j) → (∀ j, j < i → g j = be j) → KRun G jX9_lays N (fun r w1 => r = none ∧ ∃ to1 s1, RsC G N w1 b t 0 0 0 (.int at_) tx to1 dr be s1 pa im nt ah sd gr ro ∧ V23 to1 X.1 ∧ V72 s1 (oN X.1) X.2 ∧ Eqx w w1 b (b + 12)) 28 [some (rf G b), some (.int (nI i))] [] 0 0 w2 := by
    intro d
    induction d with
    | zero =>
      intro i w2 f g hi ⟨g0, g1, g2, g3, g4, g5, g6, g7, g8, g9, g10, g11, g12⟩ hE hf hg
      refine k_iload_n 29 dX9_lays_28 rfl rfl rfl ?_
      refine k_bipush (nI 72) 31 dX9_lays_29 rfl kb_72 ?_
      refine k_icmp_geN 52 34 dX9_lays_31 rfl rfl (by omega) (by omega) (fun c => ?_) (fun c => ?_)
      · refine k_aload_n 53 dX9_lays_52 rfl rfl rfl ?_
        refine k_iconst (nI 0) 54 dX9_lays_53 rfl kc_0 ?_
        refine k_put 57 dX9_lays_54 rfl pX9_lays_93 (by (repeat (refine Is.ne ?_ (by omega))); first | assumption | exact Is.up (by omega)) (Nat.le_of_ble_eq_true rfl) rfl rfl ?_
        refine k_aload_n 58 dX9_lays_57 rfl rfl rfl ?_
        refine k_iconst (nI 0) 59 dX9_lays_58 rfl kc_0 ?_
        refine k_put 62 dX9_lays_59 rfl pX9_lays_96 (by (repeat (refine Is.ne ?_ (by omega))); first | assumption | exact Is.up (by omega)) (Nat.le_of_ble_eq_true rfl) rfl rfl ?_
        refine k_aload_n 63 dX9_lays_62 rfl rfl rfl ?_
        refine k_iconst (nI 0) 64 dX9_lays_63 rfl kc_0 ?_
        refine k_put 67 dX9_lays_64 rfl pX9_lays_99 (by (repeat (refine Is.ne ?_ (by omega))); first | assumption | exact Is.up (by omega)) (Nat.le_of_ble_eq_true rfl) rfl rfl ?_
        refine k_vret dX9_lays_67 rfl rfl (Nat.le_of_ble_eq_true rfl) ⟨rfl, f, g, ⟨(by (repeat (refine Is.ne ?_ (by omega))); first | assumption | exact Is.up (by omega)), (by (repeat (refine Is.ne ?_ (by omega))); first | assumption | exact Is.up (by omega)), (by (repeat (refine Is.ne ?_ (by omega))); first | assumption | exact Is.up (by omega)), (by (repeat (refine Is.ne ?_ (by omega))); first | assumption | exact Is.up (by omega)), (by (repeat (refine Is.ne ?_ (by omega))); first | assumption | exact Is.up (by omega)), (by (repeat (refine Is.ne ?_ (by omega))); first | assumption | exact Is.up (by omega)), (by (repeat (refine Is.ne ?_ (by omega))); first | assumption | exact Is.up (by omega)), (by (repeat (refine Is.ne ?_ (by omega))); first | assumption | exact Is.up (by omega)), (by (repeat (refine Is.ne ?_ (by omega))); first | assumption | exact Is.up (by omega)), (by (repeat (refine Is.ne ?_ (by omega))); first | assumption | exact Is.up (by omega)), (by (repeat (refine Is.ne ?_ (by omega))); first | assumption | exact Is.up (by omega)), (by (repeat (refine Is.ne ?_ (by omega))); first | assumption | exact Is.up (by omega)), (by (repeat (refine Is.ne ?_ (by omega))); first | assumption | exact Is.up (by omega))⟩, hD.1.cg hn7 hf, hD.2.1.cg hn7 hL (fun j hj => hg j (by omega)), (by (repeat (refine Eqx.up ?_ (by omega) (by omega))); first | exact Eqx.rf | assumption)⟩
      · omega
    | succ d ih =>
      intro i w2 f g hi ⟨g0, g1, g2, g3, g4, g5, g6, g7, g8, g9, g10, g11, g12⟩ hE hf hg
      refine k_iload_n 29 dX9_lays_28 rfl rfl rfl ?_
      refine k_bipush (nI 72) 31 dX9_lays_29 rfl kb_72 ?_
      refine k_icmp_geN 52 34 dX9_lays_31 rfl rfl (by omega) (by omega) (fun c => ?_) (fun c => ?_)
      · omega
      · refine k_aload_n 35 dX9_lays_34 rfl rfl rfl ?_
        refine k_get 38 dX9_lays_35 rfl fX9_lays_22 (by (repeat (refine Is.ne ?_ (by omega))); first | assumption | exact Is.up (by omega)) (by rfl) ?_
        refine k_iload_n 39 dX9_lays_38 rfl rfl rfl ?_
        refine k_aload_n 40 dX9_lays_39 rfl rfl rfl ?_
        refine k_get 43 dX9_lays_40 rfl fX9_lays_19 (by (repeat (refine Is.ne ?_ (by omega))); first | assumption | exact Is.up (by omega)) (by rfl) ?_
        refine k_iload_n 44 dX9_lays_43 rfl rfl rfl ?_
        refine k_ialdN 45 dX9_lays_44 rfl (by (repeat (refine Is.ne ?_ (by omega))); first | assumption | exact Is.up (by omega)) (by omega) (by omega) ?_
        refine k_iastN 46 dX9_lays_45 rfl (by (repeat (refine Is.ne ?_ (by omega))); first | assumption | exact Is.up (by omega)) (by omega) (by omega) ?_
        refine k_iinc _ _ 49 dX9_lays_46 rfl rfl (nI_inc _) (by decide) rfl rfl ?_
        refine k_goto 28 dX9_lays_49 rfl ?_
        refine ih (i + 1) _ f (upd g i (be i)) (by omega) ?_ ?_ hf (fun j hj => ?_)
        · exact ⟨(by (repeat (refine Is.ne ?_ (by omega))); first | assumption | exact Is.up (by omega)), (by (repeat (refine Is.ne ?_ (by omega))); first | assumption | exact Is.up (by omega)), (by (repeat (refine Is.ne ?_ (by omega))); first | assumption | exact Is.up (by omega)), (by (repeat (refine Is.ne ?_ (by omega))); first | assumption | exact Is.up (by omega)), (by (repeat (refine Is.ne ?_ (by omega))); first | assumption | exact Is.up (by omega)), (by (repeat (refine Is.ne ?_ (by omega))); first | assumption | exact Is.up (by omega)), (by (repeat (refine Is.ne ?_ (by omega))); first | assumption | exact Is.up (by omega)), (by (repeat (refine Is.ne ?_ (by omega))); first | assumption | exact Is.up (by omega)), (by (repeat (refine Is.ne ?_ (by omega))); first | assumption | exact Is.up (by omega)), (by (repeat (refine Is.ne ?_ (by omega))); first | assumption | exact Is.up (by omega)), (by (repeat (refine Is.ne ?_ (by omega))); first | assumption | exact Is.up (by omega)), (by (repeat (refine Is.ne ?_ (by omega))); first | assumption | exact Is.up (by omega)), (by (repeat (refine Is.ne ?_ (by omega))); first | assumption | exact Is.up (by omega))⟩
        · exact (by (repeat (refine Eqx.up ?_ (by omega) (by omega))); first | exact Eqx.rf | assumption)
        by_cases e : j = i
        · rw [e, upd_s]
        · rw [upd_n _ _ e]
          exact hg j (by omega)
  have loop1 : ∀ d i (w2 : WD) (f : Nat → Int32), i + d = 23 → RsC G N w2 b t kn ke no (.int at_) tx f dr be s pa im nt ah sd gr ro → Eqx w w2 b (b + 12) → (∀ j, j < i → f j = dr j) → KRun G jX9_lays N (fun r w1 => r = none ∧ ∃ to1 s1, RsC G N w1 b t 0 0 0 (.int at_) tx to1 dr be s1 pa im nt ah sd gr ro ∧ V23 to1 X.1 ∧ V72 s1 (oN X.1) X.2 ∧ Eqx w w1 b (b + 12)) 2 [some (rf G b), some (.int (nI i))] [] 0 0 w2 := by
    intro d
    induction d with
    | zero =>
      intro i w2 f hi hC hE hf
      refine k_iload_n 3 dX9_lays_2 rfl rfl rfl ?_
      refine k_bipush (nI 23) 5 dX9_lays_3 rfl kb_23 ?_
      refine k_icmp_geN 26 8 dX9_lays_5 rfl rfl (by omega) (by omega) (fun c => ?_) (fun c => ?_)
      · refine k_iconst (nI 0) 27 dX9_lays_26 rfl kc_0 ?_
        refine k_istore_n _ 28 dX9_lays_27 rfl rfl (by decide) rfl rfl ?_
        exact loop2 72 0 w2 f s (by omega) hC hE (fun j hj => hf j (by omega)) (fun j hj => by omega)
      · omega
    | succ d ih =>
      intro i w2 f hi ⟨g0, g1, g2, g3, g4, g5, g6, g7, g8, g9, g10, g11, g12⟩ hE hf
      refine k_iload_n 3 dX9_lays_2 rfl rfl rfl ?_
      refine k_bipush (nI 23) 5 dX9_lays_3 rfl kb_23 ?_
      refine k_icmp_geN 26 8 dX9_lays_5 rfl rfl (by omega) (by omega) (fun c => ?_) (fun c => ?_)
      · omega
      · refine k_aload_n 9 dX9_lays_8 rfl rfl rfl ?_
        refine k_get 12 dX9_lays_9 rfl fX9_lays_13 (by (repeat (refine Is.ne ?_ (by omega))); first | assumption | exact Is.up (by omega)) (by rfl) ?_
        refine k_iload_n 13 dX9_lays_12 rfl rfl rfl ?_
        refine k_aload_n 14 dX9_lays_13 rfl rfl rfl ?_
        refine k_get 17 dX9_lays_14 rfl fX9_lays_16 (by (repeat (refine Is.ne ?_ (by omega))); first | assumption | exact Is.up (by omega)) (by rfl) ?_
        refine k_iload_n 18 dX9_lays_17 rfl rfl rfl ?_
        refine k_ialdN 19 dX9_lays_18 rfl (by (repeat (refine Is.ne ?_ (by omega))); first | assumption | exact Is.up (by omega)) (by omega) (by omega) ?_
        refine k_iastN 20 dX9_lays_19 rfl (by (repeat (refine Is.ne ?_ (by omega))); first | assumption | exact Is.up (by omega)) (by omega) (by omega) ?_
        refine k_iinc _ _ 23 dX9_lays_20 rfl rfl (nI_inc _) (by decide) rfl rfl ?_
        refine k_goto 2 dX9_lays_23 rfl ?_
        refine ih (i + 1) _ (upd f i (dr i)) (by omega) ?_ ?_ (fun j hj => ?_)
        · exact ⟨(by (repeat (refine Is.ne ?_ (by omega))); first | assumption | exact Is.up (by omega)), (by (repeat (refine Is.ne ?_ (by omega))); first | assumption | exact Is.up (by omega)), (by (repeat (refine Is.ne ?_ (by omega))); first | assumption | exact Is.up (by omega)), (by (repeat (refine Is.ne ?_ (by omega))); first | assumption | exact Is.up (by omega)), (by (repeat (refine Is.ne ?_ (by omega))); first | assumption | exact Is.up (by omega)), (by (repeat (refine Is.ne ?_ (by omega))); first | assumption | exact Is.up (by omega)), (by (repeat (refine Is.ne ?_ (by omega))); first | assumption | exact Is.up (by omega)), (by (repeat (refine Is.ne ?_ (by omega))); first | assumption | exact Is.up (by omega)), (by (repeat (refine Is.ne ?_ (by omega))); first | assumption | exact Is.up (by omega)), (by (repeat (refine Is.ne ?_ (by omega))); first | assumption | exact Is.up (by omega)), (by (repeat (refine Is.ne ?_ (by omega))); first | assumption | exact Is.up (by omega)), (by (repeat (refine Is.ne ?_ (by omega))); first | assumption | exact Is.up (by omega)), (by (repeat (refine Is.ne ?_ (by omega))); first | assumption | exact Is.up (by omega))⟩
        · exact (by (repeat (refine Eqx.up ?_ (by omega) (by omega))); first | exact Eqx.rf | assumption)
        by_cases e : j = i
        · rw [e, upd_s]
        · rw [upd_n _ _ e]
          exact hf j (by omega)
  exact loop1 23 0 w to_ (by omega) h Eqx.rf (fun j hj => by omega)
theorem c_X9_lay {G : KG} {N : Nat} {w : WD} {b : Nat} {S : St} (h : RsM G N w b S (qM S) none) (hO : sOK S) : KCon G jX9_lay N w [rf G b] (RpO G N w b (a_lay S)) := by
  obtain ⟨at_, tx, to_, dr, be, s, pa, im, nt, ah, sd, gr, ro, hC, v1, v2, v3, v4, v5, v6, v7, v8⟩ := h
  obtain ⟨g0, -⟩ := id hC
  have ht := hO.2.2.2.2.2.2.2.2.1
  refine KCon.of ([some (rf G b)]) (by decide) rfl (by simp [Value.category]) (Nat.le_of_ble_eq_true rfl) rfl ?_
  refine k_aload_n 1 dX9_lay_0 rfl rfl rfl ?_
  refine k_V0 (ci := 8) 4 dX9_lay_1 rfl vX9_lay_89 (by (repeat (refine Is.ne ?_ (by omega))); first | assumption | exact Is.up (by omega)) rfl rfl (Nat.le_of_ble_eq_true rfl) rfl ⟨Nat.le_of_ble_eq_true rfl, Nat.le_of_ble_eq_true rfl⟩ (c_X9_readsAll hC v1 hO.2.2.2.2.2.2.2.2.2 ht) (fun r1 w1 x1 => ?_)
  obtain ⟨rfl, at1, dr1, be1, hC1, hE1, hx⟩ := x1
  clear g0
  obtain ⟨g0, g1, g2, g3, g4, g5, g6, g7, g8, g9, g10, g11, g12⟩ := id hC1
  have no : a_lay S = (-2, S) → KRun G jX9_lay N (RpO G N w b (a_lay S)) 18 [some (rf G b)] [] 0 0 w1 := by
    intro e
    rw [e]
    refine k_bipush (-2) 20 dX9_lay_18 rfl kbm_2 ?_
    refine k_iret dX9_lay_20 rfl rfl (Nat.le_of_ble_eq_true rfl) ⟨rfl, ⟨at1, tx, to_, dr1, be1, s, pa, im, nt, ah, sd, gr, ro, hC1, v1, v2, v3, v4, v5, v6, v7, v8⟩, hE1⟩
  refine k_bipush (-4) 6 dX9_lay_4 rfl kbm_4 ?_
  cases e : rdT (qT S) (qt S) with
  | inr i =>
    have hit : i < qt S := rda_in _ _ _ _ e
    refine k_icmp_ne 18 9 dX9_lay_6 rfl rfl (fun c => ?_) (fun c => ?_)
    · exact no (by unfold a_lay; rw [e])
    · exact absurd (Classical.not_not.mp c) (pI_some (k := i) (by omega))
  | inl X =>
    obtain ⟨hD, hpX⟩ := hx X e
    have hX7 : oN X.1 ≤ 7 := hpX.1.1
    have hXL := hpX.2.1
    refine k_icmp_ne 18 9 dX9_lay_6 rfl rfl (fun c => ?_) (fun c => ?_)
    · exact absurd rfl c
    · refine k_aload_n 10 dX9_lay_9 rfl rfl rfl ?_
      refine k_get 13 dX9_lay_10 rfl fX9_lay_16 (by (repeat (refine Is.ne ?_ (by omega))); first | assumption | exact Is.up (by omega)) (by rfl) ?_
      refine k_iconst (nI 0) 14 dX9_lay_13 rfl kc_0 ?_
      refine k_ialdN 15 dX9_lay_14 rfl (by (repeat (refine Is.ne ?_ (by omega))); first | assumption | exact Is.up (by omega)) (by omega) (by omega) ?_
      rw [hD.1.1]
      refine k_if_neN 21 18 dX9_lay_15 rfl rfl (by omega) (fun c => ?_) (fun c => ?_)
      rotate_left
      · exact no (by unfold a_lay; rw [e]; dsimp only; rw [if_pos (by omega)])
      · have ea : a_lay S = (nI (oN X.1), (X.1, X.2, [], [], 0, qN S, qt S, qT S)) := by
          unfold a_lay
          rw [e]
          dsimp only
          rw [if_neg (by omega)]
        rw [ea]
        refine k_aload_n 22 dX9_lay_21 rfl rfl rfl ?_
        refine k_V0 (ci := 8) 25 dX9_lay_22 rfl vX9_lay_53 (by (repeat (refine Is.ne ?_ (by omega))); first | assumption | exact Is.up (by omega)) rfl rfl (Nat.le_of_ble_eq_true rfl) rfl ⟨Nat.le_of_ble_eq_true rfl, Nat.le_of_ble_eq_true rfl⟩ (c_X9_lays hC1 hD hX7 (by omega)) (fun r2 w2 x2 => ?_)
        obtain ⟨rfl, to2, s2, hC2, hv2, hv7, hE2⟩ := x2
        clear g0 g1 g2 g3 g4 g5 g6 g7 g8 g9 g10 g11 g12
        obtain ⟨g0, g1, g2, -⟩ := id hC2
        refine k_aload_n 26 dX9_lay_25 rfl rfl rfl ?_
        refine k_get 29 dX9_lay_26 rfl fX9_lay_13 (by (repeat (refine Is.ne ?_ (by omega))); first | assumption | exact Is.up (by omega)) (by rfl) ?_
        refine k_iconst (nI 0) 30 dX9_lay_29 rfl kc_0 ?_
        refine k_ialdN 31 dX9_lay_30 rfl (by (repeat (refine Is.ne ?_ (by omega))); first | assumption | exact Is.up (by omega)) (by omega) (by omega) ?_
        rw [hv2.1]
        refine k_iret dX9_lay_31 rfl rfl (Nat.le_of_ble_eq_true rfl) ⟨rfl, ⟨at1, tx, to2, dr1, be1, s2, pa, im, nt, ah, sd, gr, ro, hC2, v1, hv2, hv7, fun q hq => absurd hq (Nat.not_lt_zero q), fun q hq => absurd hq (Nat.not_lt_zero q), fun q hq => absurd hq (Nat.not_lt_zero q), (fun A hA => by cases hA), v8⟩, hE1.tr hE2⟩
