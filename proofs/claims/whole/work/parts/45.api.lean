/-! public methods: the text, looking -/
def QpO (G : KG) (N : Nat) (w : WD) (a : Nat) (f : Int32 × St) (r : Option Value) (w1 : WD) : Prop := r = some (.int f.1) ∧ QsM G N w1 a f.2 ∧ Eqx w w1 a (a + 104)
theorem c_X5_add2 {G : KG} {N : Nat} {w : WD} {a t at_ x : Nat} {T : Nat → Nat} {nums : Nat → Int32} (h : ScrI G N w a T t at_ nums) (ht : t < 200) (hx : x < 200) : KCon G jX5_add N w [rf G a, .int (nI x)] (fun r w1 => r = none ∧ ScrI G N w1 a (sf T t x) (t + 1) at_ nums ∧ ∀ k, k ≠ a → k ≠ a + 10 → w1 k = w k) := by
  obtain ⟨h0, ⟨lt, h1, hl⟩, h2, ht2, hT⟩ := h
  have hN := h2.1
  refine KCon.of ([some (rf G a), some (.int (nI x))]) (by decide) rfl (by simp [Value.category]) (Nat.le_of_ble_eq_true rfl) rfl ?_
  refine k_aload_n 1 dX5_add_0 rfl rfl rfl ?_
  refine k_get 4 dX5_add_1 rfl fX5_add_25 (by (repeat (refine Is.ne ?_ (by omega))); first | assumption | exact Is.up (by omega)) (by rfl) ?_
  refine k_aload_n 5 dX5_add_4 rfl rfl rfl ?_
  refine k_get 8 dX5_add_5 rfl fX5_add_32 (by (repeat (refine Is.ne ?_ (by omega))); first | assumption | exact Is.up (by omega)) (by rfl) ?_
  refine k_iload_n 9 dX5_add_8 rfl rfl rfl ?_
  refine k_S3 12 dX5_add_9 rfl vX5_add_36 (Nat.le_of_ble_eq_true rfl) rfl ⟨Nat.le_of_ble_eq_true rfl, Nat.le_of_ble_eq_true rfl⟩ (c_X3_put h1 (by omega) (by omega)) (fun r9 w9 h9 => ?_)
  obtain ⟨h8, h9⟩ := h9
  subst h8
  have h9 := h9.symm
  subst h9
  refine k_aload_n 13 dX5_add_12 rfl rfl rfl ?_
  refine k_dup 14 dX5_add_13 rfl rfl ?_
  refine k_get 17 dX5_add_14 rfl fX5_add_32 (by (repeat (refine Is.ne ?_ (by omega))); first | assumption | exact Is.up (by omega)) (by rfl) ?_
  refine k_iconst (nI 1) 18 dX5_add_17 rfl kc_1 ?_
  first | refine k_iaddE _ 19 dX5_add_18 rfl (nI_add _ _) ?_ | refine k_iadd 19 dX5_add_18 rfl ?_
  refine k_put 22 dX5_add_19 rfl pX5_add_32 (by (repeat (refine Is.ne ?_ (by omega))); first | assumption | exact Is.up (by omega)) (Nat.le_of_ble_eq_true rfl) rfl rfl ?_
  refine k_vret dX5_add_22 rfl rfl (Nat.le_of_ble_eq_true rfl) ⟨rfl, ⟨(by (repeat (refine Is.ne ?_ (by omega))); first | assumption | exact Is.up (by omega)), ⟨_, (by (repeat (refine Is.ne ?_ (by omega))); first | assumption | exact Is.up (by omega)), fun i hi => ?_⟩, (by (repeat (refine Is.ne ?_ (by omega))); first | assumption | exact Is.up (by omega)), by omega, fun i => ?_⟩, fun k g1 g2 => ?_⟩
  · by_cases e : i = t
    · subst e
      rw [upd_s, sf_s]
    · rw [upd_n _ _ e, sf_n _ _ e, hl i (by omega)]
  · by_cases e : i = t
    · subst e
      rw [sf_s]
      exact hx
    · rw [sf_n _ _ e]
      exact hT i
  · rw [va_up_ne _ _ g1, va_up_ne _ _ g2]
theorem c_X8_write {G : KG} {N : Nat} {w : WD} {a : Nat} {x : Int32} {S : St} (h : QsM G N w a S) : KCon G jX8_write N w [rf G a, .int x] (QpO G N w a (a_write S x)) := by
  have h9 := h
  obtain ⟨hQ, hF, hM, hS, hP, hK, hf, hi, hc⟩ := h9
  obtain ⟨at_, nums, hScr, hsF, hsM⟩ := hS
  have z0 := hScr.1
  refine KCon.of ([some (rf G a), some (.int x)]) (by decide) rfl (by simp [Value.category]) (Nat.le_of_ble_eq_true rfl) rfl ?_
  rcases rgn_c 32 126 x with ⟨k, k1, k2, rfl, e⟩ | ⟨hx, e⟩
  · by_cases ht : 200 ≤ qt S
    · have ea : a_write S (nI k) = (-3, S) := by
        unfold a_write
        rw [e]
        dsimp only
        rw [if_pos ht]
      rw [ea]
      refine k_iload_n 1 dX8_write_0 rfl rfl rfl ?_
      refine k_bipush (nI 32) 3 dX8_write_1 rfl kb_32 ?_
      refine k_icmp_ltN 12 6 dX8_write_3 rfl rfl (by omega) (by omega) (fun c => ?_) (fun c => ?_)
      · omega
      refine k_iload_n 7 dX8_write_6 rfl rfl rfl ?_
      refine k_bipush (nI 126) 9 dX8_write_7 rfl kb_126 ?_
      refine k_icmp_leN 14 12 dX8_write_9 rfl rfl (by omega) (by omega) (fun c => ?_) (fun c => ?_)
      rotate_left
      · omega
      refine k_aload_n 15 dX8_write_14 rfl rfl rfl ?_
      refine k_get 18 dX8_write_15 rfl fX8_write_26 (by (repeat (refine Is.ne ?_ (by omega))); first | assumption | exact Is.up (by omega)) (by rfl) ?_
      refine k_get 21 dX8_write_18 rfl fX8_write_86 (by (repeat (refine Is.ne ?_ (by omega))); first | assumption | exact Is.up (by omega)) (by rfl) ?_
      refine k_sipush (nI 200) 24 dX8_write_21 rfl ks_200 ?_
      have h200 := hScr.2.2.2.1
      refine k_icmp_ltN 30 27 dX8_write_24 rfl rfl (by omega) (by omega) (fun c => ?_) (fun c => ?_)
      · omega
      refine k_bipush (-3) 29 dX8_write_27 rfl kbm_3 ?_
      refine k_iret dX8_write_29 rfl rfl (Nat.le_of_ble_eq_true rfl) ⟨rfl, h, Eqx.rf⟩
    · have ea : a_write S (nI k) = (nI (qt S + 1), (qF S, qM S, qP S, qK S, qm S, qN S, qt S + 1, sf (qT S) (qt S) k)) := by
        unfold a_write
        rw [e]
        dsimp only
        rw [if_neg ht]
      rw [ea]
      refine k_iload_n 1 dX8_write_0 rfl rfl rfl ?_
      refine k_bipush (nI 32) 3 dX8_write_1 rfl kb_32 ?_
      refine k_icmp_ltN 12 6 dX8_write_3 rfl rfl (by omega) (by omega) (fun c => ?_) (fun c => ?_)
      · omega
      refine k_iload_n 7 dX8_write_6 rfl rfl rfl ?_
      refine k_bipush (nI 126) 9 dX8_write_7 rfl kb_126 ?_
      refine k_icmp_leN 14 12 dX8_write_9 rfl rfl (by omega) (by omega) (fun c => ?_) (fun c => ?_)
      rotate_left
      · omega
      refine k_aload_n 15 dX8_write_14 rfl rfl rfl ?_
      refine k_get 18 dX8_write_15 rfl fX8_write_26 (by (repeat (refine Is.ne ?_ (by omega))); first | assumption | exact Is.up (by omega)) (by rfl) ?_
      refine k_get 21 dX8_write_18 rfl fX8_write_86 (by (repeat (refine Is.ne ?_ (by omega))); first | assumption | exact Is.up (by omega)) (by rfl) ?_
      refine k_sipush (nI 200) 24 dX8_write_21 rfl ks_200 ?_
      refine k_icmp_ltN 30 27 dX8_write_24 rfl rfl (by omega) (by omega) (fun c => ?_) (fun c => ?_)
      rotate_left
      · omega
      refine k_aload_n 31 dX8_write_30 rfl rfl rfl ?_
      refine k_get 34 dX8_write_31 rfl fX8_write_26 (by (repeat (refine Is.ne ?_ (by omega))); first | assumption | exact Is.up (by omega)) (by rfl) ?_
      refine k_iload_n 35 dX8_write_34 rfl rfl rfl ?_
      refine k_V1 (ci := 4) 38 dX8_write_35 rfl vX8_write_77 (by (repeat (refine Is.ne ?_ (by omega))); first | assumption | exact Is.up (by omega)) rfl rfl (Nat.le_of_ble_eq_true rfl) rfl ⟨Nat.le_of_ble_eq_true rfl, Nat.le_of_ble_eq_true rfl⟩ (c_X5_add2 hScr (by omega) (show k < 200 by omega)) (fun r1 w1 x1 => ?_)
      obtain ⟨rfl, hS1, hE0⟩ := x1
      have hE1 : Eqx w w1 (a + 10) (a + 22) := fun j hj => hE0 j (by omega) (by omega)
      have z1 := hS1.1
      have hQ1 := hQ.fr hE1 (by omega)
      refine k_aload_n 39 dX8_write_38 rfl rfl rfl ?_
      refine k_get 42 dX8_write_39 rfl fX8_write_26 (by (repeat (refine Is.ne ?_ (by omega))); first | assumption | exact Is.up (by omega)) (by rfl) ?_
      refine k_get 45 dX8_write_42 rfl fX8_write_86 (by (repeat (refine Is.ne ?_ (by omega))); first | assumption | exact Is.up (by omega)) (by rfl) ?_
      refine k_iret dX8_write_45 rfl rfl (Nat.le_of_ble_eq_true rfl) ⟨rfl, ⟨hQ1, hF.fr hE1 (by omega), hM.fr hE1 (by omega), ⟨at_, nums, hS1, ?_, ?_⟩, hP.fr hE1 (by omega), hK.fr hE1 (by omega), hf.fr hE1 (by omega), hi.fr hE1 (by omega), hc.fr hE1 (by omega)⟩, hE1.wd (by omega) (by omega)⟩
      · obtain ⟨kd, wo, pe, num, se, g⟩ := hsF
        exact ⟨kd, wo, pe, num, se, g.fr (fun j _ _ => hE0 j (by omega) (by omega))⟩
      · obtain ⟨l, wh, pu, db, len, gone, g⟩ := hsM
        exact ⟨l, wh, pu, db, len, gone, g.fr (fun j _ _ => hE0 j (by omega) (by omega))⟩
  · have ea : a_write S x = (-1, S) := by
      unfold a_write
      rw [e]
    rw [ea]
    have bad : KRun G jX8_write N (QpO G N w a (-1, S)) 12 [some (rf G a), some (.int x)] [] 0 0 w := by
      refine k_iconst (-1) 13 dX8_write_12 rfl km_1 ?_
      refine k_iret dX8_write_13 rfl rfl (Nat.le_of_ble_eq_true rfl) ⟨rfl, h, Eqx.rf⟩
    refine k_iload_n 1 dX8_write_0 rfl rfl rfl ?_
    refine k_bipush (nI 32) 3 dX8_write_1 rfl kb_32 ?_
    refine k_icmp_lt 12 6 dX8_write_3 rfl rfl (fun c => ?_) (fun c => ?_)
    · exact bad
    · have c1 : ¬ x.toInt < 32 := fun z => c ((ltI (k := 32) (by omega)).mpr z)
      refine k_iload_n 7 dX8_write_6 rfl rfl rfl ?_
      refine k_bipush (nI 126) 9 dX8_write_7 rfl kb_126 ?_
      refine k_icmp_le 14 12 dX8_write_9 rfl rfl (fun c => ?_) (fun c => ?_)
      · have c2 := (leI (x := x) (k := 126) (by omega)).mp c
        omega
      · exact bad
theorem c_X8_wipe {G : KG} {N : Nat} {w : WD} {a : Nat} {S : St} (h : QsM G N w a S) : KCon G jX8_wipe N w [rf G a] (QpO G N w a (a_wipe S)) := by
  obtain ⟨hQ, hF, hM, hS, hP, hK, hf, hi, hc⟩ := h
  obtain ⟨at_, nums, hScr, hsF, hsM⟩ := hS
  obtain ⟨z0, ⟨lt, z1, z2⟩, z3, z4, z5⟩ := hScr
  have hN := z3.1
  refine KCon.of ([some (rf G a), none]) (by decide) rfl (by simp [Value.category]) (Nat.le_of_ble_eq_true rfl) rfl ?_
  refine k_aload_n 1 dX8_wipe_0 rfl rfl rfl ?_
  refine k_get 4 dX8_wipe_1 rfl fX8_wipe_26 (by (repeat (refine Is.ne ?_ (by omega))); first | assumption | exact Is.up (by omega)) (by rfl) ?_
  refine k_get 7 dX8_wipe_4 rfl fX8_wipe_86 (by (repeat (refine Is.ne ?_ (by omega))); first | assumption | exact Is.up (by omega)) (by rfl) ?_
  refine k_istore_n _ 8 dX8_wipe_7 rfl rfl (by decide) rfl rfl ?_
  refine k_aload_n 9 dX8_wipe_8 rfl rfl rfl ?_
  refine k_get 12 dX8_wipe_9 rfl fX8_wipe_26 (by (repeat (refine Is.ne ?_ (by omega))); first | assumption | exact Is.up (by omega)) (by rfl) ?_
  refine k_iconst (nI 0) 13 dX8_wipe_12 rfl kc_0 ?_
  refine k_put 16 dX8_wipe_13 rfl pX8_wipe_86 (by (repeat (refine Is.ne ?_ (by omega))); first | assumption | exact Is.up (by omega)) (Nat.le_of_ble_eq_true rfl) rfl rfl ?_
  refine k_nm (fun w1 hw1 => ?_)
  have hE0 : Eqx w w1 (a + 10) (a + 11) := by
    rw [hw1]
    exact (by (repeat (refine Eqx.up ?_ (by omega) (by omega))); first | exact Eqx.rf | assumption)
  have hz : Is N w1 (a + 10) (ob 4 [rf G (a + 10 + 1), rf G (a + 10 + 5), .int (nI 0), rf G (a + 10 + 10), rf G (a + 10 + 11), .int (nI at_)]) := by
    rw [hw1]
    exact (by (repeat (refine Is.ne ?_ (by omega))); first | assumption | exact Is.up (by omega))
  clear hw1
  refine k_iload_n 17 dX8_wipe_16 rfl rfl rfl ?_
  refine k_iret dX8_wipe_17 rfl rfl (Nat.le_of_ble_eq_true rfl) ⟨rfl, ⟨hQ.fr hE0 (by omega), hF.fr hE0 (by omega), hM.fr hE0 (by omega), ⟨at_, nums, ⟨hz, ⟨lt, z1.eqx hE0 (by omega), fun i hi => absurd hi (Nat.not_lt_zero i)⟩, z3.eqx hE0 (by omega), Nat.zero_le _, z5⟩, hsF.fr hE0 (by omega), hsM.fr hE0 (by omega)⟩, hP.fr hE0 (by omega), hK.fr hE0 (by omega), hf.fr hE0 (by omega), hi.fr hE0 (by omega), hc.fr hE0 (by omega)⟩, hE0.wd (by omega) (by omega)⟩
theorem c_X8_fault {G : KG} {N : Nat} {w : WD} {a : Nat} {S : St} (h : QsM G N w a S) : KCon G jX8_fault N w [rf G a] (QpO G N w a (a_fault S)) := by
  obtain ⟨hQ, hF, hM, hS, hP, hK, hf, hi, hc⟩ := h
  obtain ⟨at_, nums, hScr, ⟨kd, wo, pe, num, se, hsF⟩, ⟨l, wh, pu, db, len, gone, hsM⟩⟩ := hS
  have z0 := hScr.1
  refine KCon.of ([some (rf G a)]) (by decide) rfl (by simp [Value.category]) (Nat.le_of_ble_eq_true rfl) rfl ?_
  refine k_aload_n 1 dX8_fault_0 rfl rfl rfl ?_
  refine k_get 4 dX8_fault_1 rfl fX8_fault_26 (by (repeat (refine Is.ne ?_ (by omega))); first | assumption | exact Is.up (by omega)) (by rfl) ?_
  refine k_V0 (ci := 4) 7 dX8_fault_4 rfl vX8_fault_80 (by (repeat (refine Is.ne ?_ (by omega))); first | assumption | exact Is.up (by omega)) rfl rfl (Nat.le_of_ble_eq_true rfl) rfl ⟨Nat.le_of_ble_eq_true rfl, Nat.le_of_ble_eq_true rfl⟩ (c_X5_read hScr hsF hsM) (fun r1 w1 x1 => ?_)
  obtain ⟨rfl, X, j, nums1, -, -, h1, h2, h3, hE1⟩ := x1
  refine k_iret dX8_fault_7 rfl rfl (Nat.le_of_ble_eq_true rfl) ⟨rfl, ⟨hQ.fr hE1 (by omega), hF.fr hE1 (by omega), hM.fr hE1 (by omega), ⟨j, nums1, h1, h2.g, h3.g⟩, hP.fr hE1 (by omega), hK.fr hE1 (by omega), hf.fr hE1 (by omega), hi.fr hE1 (by omega), hc.fr hE1 (by omega)⟩, hE1.wd (by omega) (by omega)⟩
