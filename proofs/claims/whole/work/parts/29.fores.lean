/-! Foresight: what comes, what is best (but clear) -/
theorem iZ_toInt {x : Int} (h1 : -2147483648 ≤ x) (h2 : x < 2147483648) : (iZ x).toInt = x := by
  have : (iZ x).toInt = x.bmod (2 ^ 32) := Int32.toInt_ofInt
  rw [this]
  simp only [Int.bmod]
  omega
theorem iZ_le {x y : Int} (h1 : -2147483648 ≤ x) (h2 : x < 2147483648) (h3 : -2147483648 ≤ y) (h4 : y < 2147483648) : iZ x ≤ iZ y ↔ x ≤ y := by
  rw [Int32.le_iff_toInt_le, iZ_toInt h1 h2, iZ_toInt h3 h4]
theorem due_b {M : Mo} {p : Nat} (hp : p < 7) : -(owf (mD M) 49 : Int) ≤ due M p ∧ due M p ≤ owf (mD M) 49 := by
  have : p = 0 ∨ p = 1 ∨ p = 2 ∨ p = 3 ∨ p = 4 ∨ p = 5 ∨ p = 6 := by omega
  rcases this with rfl | rfl | rfl | rfl | rfl | rfl | rfl <;> simp only [due, dzf, owf, Nat.reduceMul, Nat.reduceAdd] <;> omega
theorem ok_due {n : Nat} {M : Mo} (h : mOK n M) {p : Nat} (hp : p < 7) : -242520 ≤ due M p ∧ due M p ≤ 242520 := by
  have h1 := due_b (M := M) hp
  have h2 := h.2.2.2.2.2.1
  have h3 := h.2.2.2.2.2.2.2.2
  omega
/-- a queue's cells, whatever they hold -/
def TrG (G : KG) (N : Nat) (w : WD) (a : Nat) : Prop := ∃ (l wh pu db : Nat → Int32) (len gone : Nat), ScR G N w a l wh pu db len gone
theorem ScM.g {G : KG} {N a n : Nat} {w : WD} {M : Mo} (h : ScM G N w a n M) : TrG G N w a := by
  obtain ⟨l, wh, pu, db, h1, -⟩ := h
  exact ⟨l, wh, pu, db, _, _, h1⟩
theorem TrG.fr {G : KG} {N a lo hi : Nat} {w w1 : WD} (h : TrG G N w a) (hE : Eqx w w1 lo hi) (hk : a + 5 ≤ lo ∨ hi ≤ a) : TrG G N w1 a := by
  obtain ⟨l, wh, pu, db, len, gone, h1⟩ := h
  exact ⟨l, wh, pu, db, len, gone, h1.fr (fun k _ _ => hE k (by omega))⟩
abbrev FsX (G : KG) (a fo b : Nat) (x y z : Value) : va_E := ob 2 [x, y, z, rf G fo, rf G b, rf G (a + 1), rf G (a + 6), rf G (a + 7)]
def FsB (G : KG) (N : Nat) (w : WD) (a fo b : Nat) (o : Option (Nat × Int)) : Prop := ∃ ch va : Int32, Is N w a (FsX G a fo b (.int (bI o.isSome)) (.int ch) (.int va)) ∧ ∀ x, o = some x → ch = nI x.1 ∧ va = iZ x.2 ∧ -2000000 ≤ x.2 ∧ x.2 ≤ 2000000
theorem FsB.fr {G : KG} {N a fo b lo hi : Nat} {w w1 : WD} {o : Option (Nat × Int)} (h : FsB G N w a fo b o) (hE : Eqx w w1 lo hi) (hk : a < lo ∨ hi ≤ a) : FsB G N w1 a fo b o := by
  obtain ⟨ch, va, h1, h2⟩ := h
  exact ⟨ch, va, h1.eqx hE hk, h2⟩
def wtn (F : Fo) (M : Mo) (p : Nat) : Option Nat := (List.range 60).find? (fun i => mW (mns F M (i + 1)) p == 1)
def wI (o : Option Nat) : Int32 := match o with
  | some i => nI (i + 1)
  | none => -4
def bst (o : Option (Nat × Int)) (k : Nat) (v : Int) : Option (Nat × Int) := match o with
  | none => some (k, v)
  | some (c, u) => if u < v then some (k, v) else some (c, u)
def ofs (o : Option (Nat × Int)) (k : Nat) (x : Option Nat) : Option (Nat × Int) := match x with
  | none => o
  | some i => (match o with
    | none => some (k, ((i + 1 : Nat) : Int))
    | some (c, u) => if ((i + 1 : Nat) : Int) < u then some (k, ((i + 1 : Nat) : Int)) else some (c, u))
def stM (F : Fo) (M : Mo) (p k m : Nat) : Mo := mns F (ins (match plc M p with
  | some j => rem M j 2
  | none => M) p k) m
def std (F : Fo) (M : Mo) (p m : Nat) : Nat → Option (Nat × Int)
  | 0 => none
  | k + 1 => if mW (stM F M p k m) p = 1 then bst (std F M p m k) k (due (stM F M p k m) p) else std F M p m k
def hsi (F : Fo) (M : Mo) (p one : Nat) : Nat → Option (Nat × Int) → Option (Nat × Int)
  | 0, o => o
  | k + 1, o => if mayl M one k = true then ofs (hsi F M p one k o) (10 * one + k) (wtn F (letp M one k) p) else hsi F M p one k o
def hso (F : Fo) (M : Mo) (p : Nat) : Nat → Option (Nat × Int)
  | 0 => ofs none 99 (wtn F M p)
  | i + 1 => hsi F M p i (oN F) (hso F M p i)
def msm (M1 M : Mo) (p : Nat) : Nat → Int
  | 0 => 0
  | k + 1 => msm M1 M p k + (if mQ M k = p then 0 else due M1 (mQ M k))
def msd (F : Fo) (M : Mo) : Nat → Option (Nat × Int)
  | 0 => none
  | p + 1 => match plc M p with
    | some j => bst (msd F M p) p (msm (mns F (rem M j 2) 10) M p (mL M))
    | none => msd F M p
theorem c_X2_take {G : KG} {N : Nat} {w : WD} {a fo b : Nat} {x y z : Value} {i v : Int32} (h : Is N w a (FsX G a fo b x y z)) : KCon G jX2_take N w [rf G a, .int i, .int v] (fun r w1 => r = none ∧ Is N w1 a (FsX G a fo b (.int (nI 1)) (.int i) (.int v)) ∧ Eqx w w1 a (a + 1)) := by
  have hN := h.1
  refine KCon.of ([some (rf G a), some (.int i), some (.int v)]) (by decide) rfl (by simp [Value.category]) (Nat.le_of_ble_eq_true rfl) rfl ?_
  refine k_aload_n 1 dX2_take_0 rfl rfl rfl ?_
  refine k_iconst (nI 1) 2 dX2_take_1 rfl kc_1 ?_
  refine k_put 5 dX2_take_2 rfl pX2_take_52 (by (repeat (refine Is.ne ?_ (by omega))); first | assumption | exact Is.up (by omega)) (Nat.le_of_ble_eq_true rfl) rfl rfl ?_
  refine k_aload_n 6 dX2_take_5 rfl rfl rfl ?_
  refine k_iload_n 7 dX2_take_6 rfl rfl rfl ?_
  refine k_put 10 dX2_take_7 rfl pX2_take_109 (by (repeat (refine Is.ne ?_ (by omega))); first | assumption | exact Is.up (by omega)) (Nat.le_of_ble_eq_true rfl) rfl rfl ?_
  refine k_aload_n 11 dX2_take_10 rfl rfl rfl ?_
  refine k_iload_n 12 dX2_take_11 rfl rfl rfl ?_
  refine k_put 15 dX2_take_12 rfl pX2_take_103 (by (repeat (refine Is.ne ?_ (by omega))); first | assumption | exact Is.up (by omega)) (Nat.le_of_ble_eq_true rfl) rfl rfl ?_
  refine k_vret dX2_take_15 rfl rfl (Nat.le_of_ble_eq_true rfl) ⟨rfl, (by (repeat (refine Is.ne ?_ (by omega))); first | assumption | exact Is.up (by omega)), (by (repeat (refine Eqx.up ?_ (by omega) (by omega))); first | exact Eqx.rf | assumption)⟩
theorem c_X2_offerMost {G : KG} {N : Nat} {w : WD} {a fo b k : Nat} {v : Int} {o : Option (Nat × Int)} (h : FsB G N w a fo b o) (h1 : -2000000 ≤ v) (h2 : v ≤ 2000000) : KCon G jX2_offerMost N w [rf G a, .int (nI k), .int (iZ v)] (fun r w1 => r = none ∧ FsB G N w1 a fo b (bst o k v) ∧ Eqx w w1 a (a + 1)) := by
  obtain ⟨ch, va, h0, hx⟩ := h
  refine KCon.of ([some (rf G a), some (.int (nI k)), some (.int (iZ v))]) (by decide) rfl (by simp [Value.category]) (Nat.le_of_ble_eq_true rfl) rfl ?_
  have tk : bst o k v = some (k, v) → KRun G jX2_offerMost N (fun r w1 => r = none ∧ FsB G N w1 a fo b (bst o k v) ∧ Eqx w w1 a (a + 1)) 15 [some (rf G a), some (.int (nI k)), some (.int (iZ v))] [] 0 0 w := by
    intro e
    refine k_aload_n 16 dX2_offerMost_15 rfl rfl rfl ?_
    refine k_iload_n 17 dX2_offerMost_16 rfl rfl rfl ?_
    refine k_iload_n 18 dX2_offerMost_17 rfl rfl rfl ?_
    refine k_V2 (ci := 2) 21 dX2_offerMost_18 rfl vX2_offerMost_106 (by (repeat (refine Is.ne ?_ (by omega))); first | assumption | exact Is.up (by omega)) rfl rfl (Nat.le_of_ble_eq_true rfl) rfl ⟨Nat.le_of_ble_eq_true rfl, Nat.le_of_ble_eq_true rfl⟩ (c_X2_take h0) (fun r1 w1 x1 => ?_)
    obtain ⟨rfl, h3, hE⟩ := x1
    refine k_vret dX2_offerMost_21 rfl rfl (Nat.le_of_ble_eq_true rfl) ⟨rfl, by rw [e]; exact ⟨_, _, h3, fun x e => by cases e; exact ⟨rfl, rfl, h1, h2⟩⟩, hE⟩
  cases o with
  | none =>
    refine k_aload_n 1 dX2_offerMost_0 rfl rfl rfl ?_
    refine k_get 4 dX2_offerMost_1 rfl fX2_offerMost_52 (by (repeat (refine Is.ne ?_ (by omega))); first | assumption | exact Is.up (by omega)) (by rfl) ?_
    refine k_if_eqB 15 7 dX2_offerMost_4 rfl rfl (fun c9 => ?_) (fun c9 => ?_)
    · exact tk rfl
    · exact absurd c9 (by simp)
  | some cu =>
    obtain ⟨c0, u⟩ := cu
    obtain ⟨rfl, rfl, h3, h4⟩ := hx _ rfl
    refine k_aload_n 1 dX2_offerMost_0 rfl rfl rfl ?_
    refine k_get 4 dX2_offerMost_1 rfl fX2_offerMost_52 (by (repeat (refine Is.ne ?_ (by omega))); first | assumption | exact Is.up (by omega)) (by rfl) ?_
    refine k_if_eqB 15 7 dX2_offerMost_4 rfl rfl (fun c9 => ?_) (fun c9 => ?_)
    · exact absurd c9 (by simp)
    · refine k_iload_n 8 dX2_offerMost_7 rfl rfl rfl ?_
      refine k_aload_n 9 dX2_offerMost_8 rfl rfl rfl ?_
      refine k_get 12 dX2_offerMost_9 rfl fX2_offerMost_103 (by (repeat (refine Is.ne ?_ (by omega))); first | assumption | exact Is.up (by omega)) (by rfl) ?_
      refine k_icmp_le 21 15 dX2_offerMost_12 rfl rfl (fun c => ?_) (fun c => ?_)
      · have c := (iZ_le (by omega) (by omega) (by omega) (by omega)).mp c
        refine k_vret dX2_offerMost_21 rfl rfl (Nat.le_of_ble_eq_true rfl) ⟨rfl, ?_, Eqx.rf⟩
        simp only [bst]
        rw [if_neg (by omega)]
        exact ⟨_, _, h0, fun x e => by cases e; exact ⟨rfl, rfl, h3, h4⟩⟩
      · have c : ¬ v ≤ u := fun z => c ((iZ_le (by omega) (by omega) (by omega) (by omega)).mpr z)
        exact tk (by simp only [bst]; rw [if_pos (by omega)])
theorem c_X2_offerSoonest {G : KG} {N : Nat} {w : WD} {a fo b k : Nat} {x : Option Nat} {o : Option (Nat × Int)} (h : FsB G N w a fo b o) (hx : ∀ i, x = some i → i < 100) : KCon G jX2_offerSoonest N w [rf G a, .int (nI k), .int (wI x)] (fun r w1 => r = none ∧ FsB G N w1 a fo b (ofs o k x) ∧ Eqx w w1 a (a + 1)) := by
  obtain ⟨ch, va, h0, hv⟩ := h
  refine KCon.of ([some (rf G a), some (.int (nI k)), some (.int (wI x))]) (by decide) rfl (by simp [Value.category]) (Nat.le_of_ble_eq_true rfl) rfl ?_
  refine k_iload_n 1 dX2_offerSoonest_0 rfl rfl rfl ?_
  refine k_bipush (-4) 3 dX2_offerSoonest_1 rfl kbm_4 ?_
  cases x with
  | none =>
    refine k_icmp_eq 27 6 dX2_offerSoonest_3 rfl rfl (fun c => ?_) (fun c => ?_)
    · refine k_vret dX2_offerSoonest_27 rfl rfl (Nat.le_of_ble_eq_true rfl) ⟨rfl, ⟨ch, va, h0, hv⟩, Eqx.rf⟩
    · exact absurd rfl c
  | some i =>
    have hi := hx i rfl
    refine k_icmp_eq 27 6 dX2_offerSoonest_3 rfl rfl (fun c => ?_) (fun c => ?_)
    · exact absurd c (pI_some (k := i + 1) (by omega))
    · have tk : ofs o k (some i) = some (k, ((i + 1 : Nat) : Int)) → KRun G jX2_offerSoonest N (fun r w1 => r = none ∧ FsB G N w1 a fo b (ofs o k (some i)) ∧ Eqx w w1 a (a + 1)) 21 [some (rf G a), some (.int (nI k)), some (.int (wI (some i)))] [] 0 0 w := by
        intro e
        refine k_aload_n 22 dX2_offerSoonest_21 rfl rfl rfl ?_
        refine k_iload_n 23 dX2_offerSoonest_22 rfl rfl rfl ?_
        refine k_iload_n 24 dX2_offerSoonest_23 rfl rfl rfl ?_
        refine k_V2 (ci := 2) 27 dX2_offerSoonest_24 rfl vX2_offerSoonest_106 (by (repeat (refine Is.ne ?_ (by omega))); first | assumption | exact Is.up (by omega)) rfl rfl (Nat.le_of_ble_eq_true rfl) rfl ⟨Nat.le_of_ble_eq_true rfl, Nat.le_of_ble_eq_true rfl⟩ (c_X2_take h0) (fun r1 w1 x1 => ?_)
        obtain ⟨rfl, h3, hE⟩ := x1
        refine k_vret dX2_offerSoonest_27 rfl rfl (Nat.le_of_ble_eq_true rfl) ⟨rfl, by rw [e]; exact ⟨_, _, h3, fun x e => by cases e; exact ⟨rfl, (iZ_nat (i + 1)).symm, by omega, by omega⟩⟩, hE⟩
      cases o with
      | none =>
        refine k_aload_n 7 dX2_offerSoonest_6 rfl rfl rfl ?_
        refine k_get 10 dX2_offerSoonest_7 rfl fX2_offerSoonest_52 (by (repeat (refine Is.ne ?_ (by omega))); first | assumption | exact Is.up (by omega)) (by rfl) ?_
        refine k_if_eqB 21 13 dX2_offerSoonest_10 rfl rfl (fun c9 => ?_) (fun c9 => ?_)
        · exact tk rfl
        · exact absurd c9 (by simp)
      | some cu =>
        obtain ⟨c0, u⟩ := cu
        obtain ⟨rfl, rfl, h3, h4⟩ := hv _ rfl
        refine k_aload_n 7 dX2_offerSoonest_6 rfl rfl rfl ?_
        refine k_get 10 dX2_offerSoonest_7 rfl fX2_offerSoonest_52 (by (repeat (refine Is.ne ?_ (by omega))); first | assumption | exact Is.up (by omega)) (by rfl) ?_
        refine k_if_eqB 21 13 dX2_offerSoonest_10 rfl rfl (fun c9 => ?_) (fun c9 => ?_)
        · exact absurd c9 (by simp)
        · refine k_iload_n 14 dX2_offerSoonest_13 rfl rfl rfl ?_
          refine k_aload_n 15 dX2_offerSoonest_14 rfl rfl rfl ?_
          refine k_get 18 dX2_offerSoonest_15 rfl fX2_offerSoonest_103 (by (repeat (refine Is.ne ?_ (by omega))); first | assumption | exact Is.up (by omega)) (by rfl) ?_
          have hle : iZ u ≤ wI (some i) ↔ u ≤ ((i + 1 : Nat) : Int) := by
            show iZ u ≤ nI (i + 1) ↔ _
            rw [← iZ_nat]
            exact iZ_le (by omega) (by omega) (by omega) (by omega)
          refine k_icmp_ge 27 21 dX2_offerSoonest_18 rfl rfl (fun c => ?_) (fun c => ?_)
          · have c := hle.mp c
            refine k_vret dX2_offerSoonest_27 rfl rfl (Nat.le_of_ble_eq_true rfl) ⟨rfl, ?_, Eqx.rf⟩
            simp only [ofs]
            rw [if_neg (by omega)]
            exact ⟨_, _, h0, fun x e => by cases e; exact ⟨rfl, rfl, h3, h4⟩⟩
          · have c : ¬ u ≤ ((i + 1 : Nat) : Int) := fun z => c (hle.mpr z)
            exact tk (by simp only [ofs]; rw [if_pos (by omega)])
theorem c_X2_waitInTrialOf {G : KG} {N : Nat} {w : WD} {a fo b n p : Nat} {x y z : Value} {M : Mo} {F : Fo} (h : Is N w a (FsX G a fo b x y z)) (hF : FkM G N w fo F) (hca : fo + 4 ≤ a) (hM : ScM G N w (a + 1) n M) (hO : mOK n M) (hK : oOK F) (hn : n = oN F) (hp : p < n) (hG : mG M + 400 < 2000) : KCon G jX2_waitInTrialOf N w [rf G a, .int (nI p)] (fun r w1 => r = some (.int (wI (wtn F M p))) ∧ TrG G N w1 (a + 1) ∧ Eqx w w1 (a + 1) (a + 6)) := by
  have hn7 := hO.2.1
  refine KCon.of ([some (rf G a), some (.int (nI p)), none]) (by decide) rfl (by simp [Value.category]) (Nat.le_of_ble_eq_true rfl) rfl ?_
  refine k_iconst (nI 1) 1 dX2_waitInTrialOf_0 rfl kc_1 ?_
  refine k_istore_n _ 2 dX2_waitInTrialOf_1 rfl rfl (by decide) rfl rfl ?_
  have loop : ∀ d m (w1 : WD), m + d = 61 → 1 ≤ m → ScM G N w1 (a + 1) n (mns F M (m - 1)) → Eqx w w1 (a + 1) (a + 6) → (∀ j, j + 1 < m → mW (mns F M (j + 1)) p ≠ 1) → KRun G jX2_waitInTrialOf N (fun r w1 => r = some (.int (wI (wtn F M p))) ∧ TrG G N w1 (a + 1) ∧ Eqx w w1 (a + 1) (a + 6)) 2 [some (rf G a), some (.int (nI p)), some (.int (nI m))] [] 0 0 w1 := by
    intro d
    induction d with
    | zero =>
      intro m w1 hm hm1 hS hE hno
      have e1 : wtn F M p = none := by
        simp only [wtn, List.find?_eq_none, List.mem_range, beq_iff_eq]
        exact fun i hi => hno i (by omega)
      refine k_iload_n 3 dX2_waitInTrialOf_2 rfl rfl rfl ?_
      refine k_bipush (nI 60) 5 dX2_waitInTrialOf_3 rfl kb_60 ?_
      refine k_icmp_gtN 39 8 dX2_waitInTrialOf_5 rfl rfl (by omega) (by omega) (fun c => ?_) (fun c => ?_)
      · refine k_bipush (-4) 41 dX2_waitInTrialOf_39 rfl kbm_4 ?_
        refine k_iret dX2_waitInTrialOf_41 rfl rfl (Nat.le_of_ble_eq_true rfl) ⟨by rw [e1]; rfl, hS.g, hE⟩
      · omega
    | succ d ih =>
      intro m w1 hm hm1 hS hE hno
      obtain ⟨m, rfl⟩ : ∃ i, m = i + 1 := ⟨m - 1, by omega⟩
      rw [Nat.add_sub_cancel] at hS
      obtain ⟨hOi, hGi⟩ := ok_mns hO hK hn m (by omega)
      have hF1 := hF.fr hE (by omega)
      have h1 := h.eqx hE (by omega)
      obtain ⟨l2, wh2, pu2, db2, ⟨s0, s1, s2, s3, s4⟩, -⟩ := id hS
      refine k_iload_n 3 dX2_waitInTrialOf_2 rfl rfl rfl ?_
      refine k_bipush (nI 60) 5 dX2_waitInTrialOf_3 rfl kb_60 ?_
      refine k_icmp_gtN 39 8 dX2_waitInTrialOf_5 rfl rfl (by omega) (by omega) (fun c => ?_) (fun c => ?_)
      · omega
      refine k_aload_n 9 dX2_waitInTrialOf_8 rfl rfl rfl ?_
      refine k_get 12 dX2_waitInTrialOf_9 rfl fX2_waitInTrialOf_12 (by (repeat (refine Is.ne ?_ (by omega))); first | assumption | exact Is.up (by omega)) (by rfl) ?_
      refine k_aload_n 13 dX2_waitInTrialOf_12 rfl rfl rfl ?_
      refine k_get 16 dX2_waitInTrialOf_13 rfl fX2_waitInTrialOf_25 (by (repeat (refine Is.ne ?_ (by omega))); first | assumption | exact Is.up (by omega)) (by rfl) ?_
      refine k_iconst (nI 1) 17 dX2_waitInTrialOf_16 rfl kc_1 ?_
      refine k_V2 (ci := 3) 20 dX2_waitInTrialOf_17 rfl vX2_waitInTrialOf_44 (by (repeat (refine Is.ne ?_ (by omega))); first | assumption | exact Is.up (by omega)) rfl rfl (Nat.le_of_ble_eq_true rfl) rfl ⟨Nat.le_of_ble_eq_true rfl, Nat.le_of_ble_eq_true rfl⟩ (c_X4_runMinute (pb := true) hS hF1 (by omega) hOi hK hn (by omega)) (fun r2 w2 x2 => ?_)
      obtain ⟨rfl, hS2, hE2⟩ := x2
      have h2 := h1.eqx hE2 (by omega)
      have hOi2 := ok_mnt (b := true) hOi hK hn (by omega)
      obtain ⟨l3, wh3, pu3, db3, ⟨s0, s1, s2, s3, s4⟩, -⟩ := id hS2
      refine k_aload_n 21 dX2_waitInTrialOf_20 rfl rfl rfl ?_
      refine k_get 24 dX2_waitInTrialOf_21 rfl fX2_waitInTrialOf_12 (by (repeat (refine Is.ne ?_ (by omega))); first | assumption | exact Is.up (by omega)) (by rfl) ?_
      refine k_iload_n 25 dX2_waitInTrialOf_24 rfl rfl rfl ?_
      refine k_V1 (ci := 3) 28 dX2_waitInTrialOf_25 rfl vX2_waitInTrialOf_48 (by (repeat (refine Is.ne ?_ (by omega))); first | assumption | exact Is.up (by omega)) rfl rfl (Nat.le_of_ble_eq_true rfl) rfl ⟨Nat.le_of_ble_eq_true rfl, Nat.le_of_ble_eq_true rfl⟩ (c_X4_isServed hS2 hn7 hp (hOi2.2.2.2.2.1 p hp).1) (fun r9 w9 h9 => ?_)
      obtain ⟨h8, h9⟩ := h9
      subst h8
      have h9 := h9.symm
      subst h9
      refine k_if_eqB 33 31 dX2_waitInTrialOf_28 rfl rfl (fun c9 => ?_) (fun c9 => ?_)
      · have c8 := of_decide_eq_false c9
        refine k_iinc _ _ 36 dX2_waitInTrialOf_33 rfl rfl (nI_inc _) (by decide) rfl rfl ?_
        refine k_goto 2 dX2_waitInTrialOf_36 rfl ?_
        refine ih (m + 1 + 1) w2 (by omega) (by omega) hS2 (hE.tr (hE2.wd (by omega) (by omega))) (fun j hj => ?_)
        by_cases e : j = m
        · subst e
          exact c8
        · exact hno j (by omega)
      · have c8 := of_decide_eq_true c9
        have e1 : wtn F M p = some m := by
          simp only [wtn, List.find?_range_eq_some, beq_iff_eq, List.mem_range, Bool.not_eq_true', beq_eq_false_iff_ne]
          exact ⟨c8, by omega, fun j hj => hno j (by omega)⟩
        refine k_iload_n 32 dX2_waitInTrialOf_31 rfl rfl rfl ?_
        refine k_iret dX2_waitInTrialOf_32 rfl rfl (Nat.le_of_ble_eq_true rfl) ⟨by rw [e1]; rfl, hS2.g, hE.tr (hE2.wd (by omega) (by omega))⟩
  exact loop 60 1 w (by omega) (by omega) hM Eqx.rf (fun j hj => by omega)
theorem wtn_b {F : Fo} {M : Mo} {p : Nat} : ∀ i, wtn F M p = some i → i < 60 := by
  intro i h
  simp only [wtn, List.find?_range_eq_some, List.mem_range] at h
  exact h.2.1
theorem c_X2_sceneBehind {G : KG} {N : Nat} {w : WD} {a fo b n m : Nat} {x y z : Value} {M : Mo} {F : Fo} (h : Is N w a (FsX G a fo b x y z)) (hF : FkM G N w fo F) (hca : fo + 4 ≤ a) (hb : ScM G N w b n M) (hba : b + 5 ≤ a) (ht : TrG G N w (a + 1)) (hO : mOK n M) (hK : oOK F) (hn : n = oN F) (hG : mG M + m + 400 < 2000) : KCon G jX2_sceneBehind N w [rf G a, .int (nI m)] (fun r w1 => r = some (rf G (a + 1)) ∧ ScM G N w1 (a + 1) n (mns F M m) ∧ Eqx w w1 (a + 1) (a + 6)) := by
  have hn7 := hO.2.1
  have hL7 := ok_l7 hO
  obtain ⟨l, wh, pu, db, len, gone, hR⟩ := ht
  obtain ⟨g0, -⟩ := id hR
  refine KCon.of ([some (rf G a), some (.int (nI m))]) (by decide) rfl (by simp [Value.category]) (Nat.le_of_ble_eq_true rfl) rfl ?_
  refine k_aload_n 1 dX2_sceneBehind_0 rfl rfl rfl ?_
  refine k_get 4 dX2_sceneBehind_1 rfl fX2_sceneBehind_12 (by (repeat (refine Is.ne ?_ (by omega))); first | assumption | exact Is.up (by omega)) (by rfl) ?_
  refine k_aload_n 5 dX2_sceneBehind_4 rfl rfl rfl ?_
  refine k_get 8 dX2_sceneBehind_5 rfl fX2_sceneBehind_29 (by (repeat (refine Is.ne ?_ (by omega))); first | assumption | exact Is.up (by omega)) (by rfl) ?_
  refine k_V1 (ci := 3) 11 dX2_sceneBehind_8 rfl vX2_sceneBehind_32 (by (repeat (refine Is.ne ?_ (by omega))); first | assumption | exact Is.up (by omega)) rfl rfl (Nat.le_of_ble_eq_true rfl) rfl ⟨Nat.le_of_ble_eq_true rfl, Nat.le_of_ble_eq_true rfl⟩ (c_X4_copyFrom hR hb (by omega) hn7 hL7) (fun r1 w1 x1 => ?_)
  obtain ⟨rfl, hS1, hE1⟩ := x1
  have h1 := h.eqx hE1 (by omega)
  have hF1 := hF.fr hE1 (by omega)
  obtain ⟨l2, wh2, pu2, db2, ⟨s0, s1, s2, s3, s4⟩, -⟩ := id hS1
  refine k_aload_n 12 dX2_sceneBehind_11 rfl rfl rfl ?_
  refine k_get 15 dX2_sceneBehind_12 rfl fX2_sceneBehind_12 (by (repeat (refine Is.ne ?_ (by omega))); first | assumption | exact Is.up (by omega)) (by rfl) ?_
  refine k_aload_n 16 dX2_sceneBehind_15 rfl rfl rfl ?_
  refine k_get 19 dX2_sceneBehind_16 rfl fX2_sceneBehind_25 (by (repeat (refine Is.ne ?_ (by omega))); first | assumption | exact Is.up (by omega)) (by rfl) ?_
  refine k_iload_n 20 dX2_sceneBehind_19 rfl rfl rfl ?_
  refine k_V2 (ci := 3) 23 dX2_sceneBehind_20 rfl vX2_sceneBehind_36 (by (repeat (refine Is.ne ?_ (by omega))); first | assumption | exact Is.up (by omega)) rfl rfl (Nat.le_of_ble_eq_true rfl) rfl ⟨Nat.le_of_ble_eq_true rfl, Nat.le_of_ble_eq_true rfl⟩ (c_X4_run hS1 hF1 (by omega) hO hK hn (by omega)) (fun r2 w2 x2 => ?_)
  obtain ⟨rfl, hS2, hE2⟩ := x2
  have h2 := h1.eqx hE2 (by omega)
  refine k_aload_n 24 dX2_sceneBehind_23 rfl rfl rfl ?_
  refine k_get 27 dX2_sceneBehind_24 rfl fX2_sceneBehind_12 (by (repeat (refine Is.ne ?_ (by omega))); first | assumption | exact Is.up (by omega)) (by rfl) ?_
  refine k_aret dX2_sceneBehind_27 rfl (Or.inr ⟨_, rfl⟩) rfl (Nat.le_of_ble_eq_true rfl) ⟨rfl, hS2, hE1.tr hE2⟩
theorem c_X2_waitOf {G : KG} {N : Nat} {w : WD} {a fo b n p : Nat} {x y z : Value} {M : Mo} {F : Fo} (h : Is N w a (FsX G a fo b x y z)) (hF : FkM G N w fo F) (hca : fo + 4 ≤ a) (hb : ScM G N w b n M) (hba : b + 5 ≤ a) (ht : TrG G N w (a + 1)) (hO : mOK n M) (hK : oOK F) (hn : n = oN F) (hp : p < n) (hG : mG M + 400 < 2000) : KCon G jX2_waitOf N w [rf G a, .int (nI p)] (fun r w1 => r = some (.int (wI (wtn F M p))) ∧ TrG G N w1 (a + 1) ∧ Eqx w w1 (a + 1) (a + 6)) := by
  have hn7 := hO.2.1
  have hL7 := ok_l7 hO
  obtain ⟨l, wh, pu, db, len, gone, hR⟩ := ht
  obtain ⟨g0, -⟩ := id hR
  refine KCon.of ([some (rf G a), some (.int (nI p))]) (by decide) rfl (by simp [Value.category]) (Nat.le_of_ble_eq_true rfl) rfl ?_
  refine k_aload_n 1 dX2_waitOf_0 rfl rfl rfl ?_
  refine k_get 4 dX2_waitOf_1 rfl fX2_waitOf_12 (by (repeat (refine Is.ne ?_ (by omega))); first | assumption | exact Is.up (by omega)) (by rfl) ?_
  refine k_aload_n 5 dX2_waitOf_4 rfl rfl rfl ?_
  refine k_get 8 dX2_waitOf_5 rfl fX2_waitOf_29 (by (repeat (refine Is.ne ?_ (by omega))); first | assumption | exact Is.up (by omega)) (by rfl) ?_
  refine k_V1 (ci := 3) 11 dX2_waitOf_8 rfl vX2_waitOf_32 (by (repeat (refine Is.ne ?_ (by omega))); first | assumption | exact Is.up (by omega)) rfl rfl (Nat.le_of_ble_eq_true rfl) rfl ⟨Nat.le_of_ble_eq_true rfl, Nat.le_of_ble_eq_true rfl⟩ (c_X4_copyFrom hR hb (by omega) hn7 hL7) (fun r1 w1 x1 => ?_)
  obtain ⟨rfl, hS1, hE1⟩ := x1
  have h1 := h.eqx hE1 (by omega)
  have hF1 := hF.fr hE1 (by omega)
  refine k_aload_n 12 dX2_waitOf_11 rfl rfl rfl ?_
  refine k_iload_n 13 dX2_waitOf_12 rfl rfl rfl ?_
  refine k_V1 (ci := 2) 16 dX2_waitOf_13 rfl vX2_waitOf_40 (by (repeat (refine Is.ne ?_ (by omega))); first | assumption | exact Is.up (by omega)) rfl rfl (Nat.le_of_ble_eq_true rfl) rfl ⟨Nat.le_of_ble_eq_true rfl, Nat.le_of_ble_eq_true rfl⟩ (c_X2_waitInTrialOf h1 hF1 hca hS1 hO hK hn hp hG) (fun r2 w2 x2 => ?_)
  obtain ⟨rfl, hT, hE2⟩ := x2
  refine k_iret dX2_waitOf_16 rfl rfl (Nat.le_of_ble_eq_true rfl) ⟨rfl, hT, hE1.tr hE2⟩
