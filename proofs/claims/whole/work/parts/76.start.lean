/-! THE CLAIM OUT OF ONE WALK OF THE LAW'S BODY. Your part is whole_start (and what it stands on); all else here is the same for every law, but numbers. -/
def R_law : String := "KerbQueueLaw"
def lw_P (b : Addr) (xs : List Int32) (args : Array Value) (s : State) : Prop := args = #[.ref b] ∧ s.IntsAt b xs ∧ xs.length ≤ 2560 ∧ (Jvm.Cond.and given_1 narrow_1).before args s = true
def lw_Q (_ : Array Value) (s : State) (o : Outcome) (t : State) : Prop := o = .returned (some (.int 1)) ∧ Framed s o t [] 600000 7302250
def lw_Z (below : List Frame) (a : Array Value) (s : State) : State → Prop := fun t => ∃ o, t.status = .running ∧ Ended t below o ∧ lw_Q a s o t
/-- the law's own end, with 1 on the stack, nothing written that was there before, its room as the claim has it -/
theorem lw_ret {p : Program} {l : Launch} {e : Env} {s : State} {m : MethodId} {below : List Frame} {meth : Method} {c : Code} {b : Nat} (hx : p.tables.exec = Jvm.exec) (hb : c.code = code) (hr : meth.sig.returnType = ret) (hlocks : meth.locks = false) {pc : Nat} {H : Heap} {ls : Array Slot} (hdg : decode code pc = .ok (.ireturn, 1)) : W p l e room_1 s m #[Value.ref b] below meth c H [] 600000 7302250 (lw_Z below #[Value.ref b] s) (F0 m pc ls [.int 1]) := by
  intro T hT X
  obtain ⟨fs, hret, hrun, hended, hW, hframe⟩ := X.leave (v := some (.int 1)) (hlocks := hlocks) (fun h => by rw [hr] at h; cases h)
  have hmeth' : T.vm.method? m = some meth := X.method'
  refine ⟨T.setFrames fs, ?_, .returned (some (.int 1)), hrun, hended, rfl, ⟨_, rfl⟩, hW, hframe⟩
  jvm_step X.here [X.here.top, hx, hb, hdg, hmeth', hr, ret, narrow_b1]
  (try refine ⟨rfl, ?_⟩); (try refine ⟨rfl, ?_⟩)
  first | (intro acts; rw [hret _ acts rfl rfl rfl]) | rw [hret _ _ rfl rfl rfl]
  exact Steps.refl _
/-- what holds at the law's entry: the machine, the code, the tables' words (any of lw_tbl by 'hts w (by decide +kernel)'), the script of L ints xs at the cell b, what the Statement gives of the start (any of its parts by flat_of_before) -/
def lw_At (p : Program) (s : State) (m : MethodId) (meth : Method) (c : Code) (b L : Nat) (xs : Nat → Int32) : Prop :=
  p.tables.exec = Jvm.exec ∧ c.code = code ∧ meth.sig.returnType = ret ∧ c.maxLocals = 4 ∧ s.vm.findClass R_law = some m.cls ∧ (∀ w ∈ lw_tbl, w.before #[Value.ref b] s = true) ∧ va_X b L xs s s.heap ∧ b < s.heap.size ∧ meth.locks = false ∧ (Jvm.Cond.and given_1 narrow_1).before #[Value.ref b] s = true
theorem lw_of {G : KG} {N b : Nat} {s t : State} {below : List Frame} (hA : ∀ q, gA G q → s.heap.size ≤ q) (h : MQ below (KQC G N (fun r _ => r = some (.int (nI 1)))) #[Value.ref b] s 117 3112 (gA G) t) : lw_Z below #[Value.ref b] s t := by
  obtain ⟨o, h1, h2, ⟨⟨v, w, ho, hv, -⟩, -⟩, L, hF, hL⟩ := h
  subst hv
  exact ⟨o, h1, h2, ho, hF.1, hF.2.1, hF.2.2.weaken (fun y hy hlt => absurd hlt (Nat.not_lt.mpr (hA _ (hL y hy)))) (Nat.le_of_ble_eq_true rfl) (Nat.le_of_ble_eq_true rfl)⟩
theorem lw_str : ∀ j, j < 77 → (Jvm.Cond.eq (.elem (.field (.string "KerbQueue" 65) "java/lang/String" "value" "[B") (.int (Int32.ofNat j))) (.int (kqBytes.getD j 0))) ∈ flatC (Jvm.Cond.and given_1 narrow_1) := by decide +kernel
set_option maxRecDepth 20000 in
theorem lw_nest : ∀ q ∈ kqNest, Jvm.Cond.methodLinkNest q.1 q.2.1 q.2.2 "KerbQueue" ∈ lw_tbl := by decide +kernel
theorem whole_start {p : Program} {e : Env} {s : State} {m : MethodId} {below : List Frame} {meth : Method} {c : Code} (l : Launch) (hflags : l.flags = flags0) {b L : Nat} {xs : Nat → Int32} (hL : L ≤ 2560) (C0 : lw_At p s m meth c b L xs) : W p l e room_1 s m #[Value.ref b] below meth c s.heap [] 0 0 (lw_Z below #[Value.ref b] s) (entryFrame m ([Value.ref b] : List Value).toArray 4) := by
  obtain ⟨hx, hb, hr, hml, hown, hts, hX, hbl, hlocks, hgv⟩ := C0
  have hf := flat_of_before _ hgv
  obtain ⟨c0, i0, k0⟩ := u_known (C := RX0) (T := TX0) (N := 5) (n := 5) hts inX0 (hts (.instantiable RX0 5) (by decide +kernel))
  obtain ⟨c1, i1, k1⟩ := u_known (C := RX1) (T := TX1) (N := 5) (n := 5) hts inX1 (hts (.instantiable RX1 5) (by decide +kernel))
  obtain ⟨c2, i2, k2⟩ := u_known (C := RX2) (T := TX2) (N := 8) (n := 8) hts inX2 (hts (.instantiable RX2 8) (by decide +kernel))
  obtain ⟨c4, i4, k4⟩ := u_known (C := RX4) (T := TX4) (N := 6) (n := 6) hts inX4 (hts (.instantiable RX4 6) (by decide +kernel))
  obtain ⟨c5, i5, k5⟩ := u_known (C := RX5) (T := TX5) (N := 6) (n := 6) hts inX5 (hts (.instantiable RX5 6) (by decide +kernel))
  obtain ⟨c6, i6, k6⟩ := u_known (C := RX6) (T := TX6) (N := 2) (n := 2) hts inX6 (hts (.instantiable RX6 2) (by decide +kernel))
  obtain ⟨c7, i7, k7⟩ := u_known (C := RX7) (T := TX7) (N := 9) (n := 9) hts inX7 (hts (.instantiable RX7 9) (by decide +kernel))
  obtain ⟨c8, i8, k8⟩ := u_known (C := RX8) (T := TX8) (N := 8) (n := 8) hts inX8 (hts (.instantiable RX8 8) (by decide +kernel))
  obtain ⟨c9, i9, k9⟩ := u_known (C := RX9) (T := TX9) (N := 17) (n := 17) hts inX9 (hts (.instantiable RX9 17) (by decide +kernel))
  obtain ⟨cI, kI, compI, a1, a2, a3⟩ := Cond.arrayClass_spec (hts (.arrayClass .int) (by decide +kernel))
  have hAO := hts (.arrayOver (.object "KerbQueue$Scene")) (by decide +kernel)
  obtain ⟨compS, cS, kS, b1, -, b3, b4, b5⟩ := Cond.arrayOver_spec (n := "KerbQueue$Scene") hAO
  have hA : ∀ q : Nat, q < s.heap.size → ¬ (s.heap.size ≤ q) := fun q hq h => absurd hq (Nat.not_lt.mpr h)
  obtain ⟨adK, adV, hS, hSe⟩ := vk_Sof (N := 1) (tm := fun _ => .string "KerbQueue" 65) (len := [77]) (byt := [kqBytes]) (A := fun q => s.heap.size ≤ q)
    (fun i hi => by
      have : i = 0 := by omega
      subst this
      decide)
    (fun i hi => hf (.exactly (.string "KerbQueue" 65) "java/lang/String") (by decide +kernel)) (fun i hi => hf (.eq (.field (.string "KerbQueue" 65) "java/lang/String" "coder" "B") (.int 0)) (by decide +kernel))
    (fun i hi => hf (.arrayOf (.field (.string "KerbQueue" 65) "java/lang/String" "value" "[B") .byte) (by decide +kernel))
    (fun i hi => by
      have : i = 0 := by omega
      subst this
      exact hf (.eq (.length (.field (.string "KerbQueue" 65) "java/lang/String" "value" "[B")) (.int 77)) (by decide +kernel))
    (fun i hi j hj => by
      have : i = 0 := by omega
      subst this
      exact hf _ (lw_str j hj))
    (fun i j hi hj hij => by omega) hA
  have h1 := hSe 0 (by omega)
  let G : KG := ((fun c => match c with | 0 => c0 | 1 => c1 | 2 => c2 | 3 => c4 | 4 => c5 | 5 => c6 | 6 => c7 | 7 => c8 | _ => c9, fun c => match c with | 0 => i0 | 1 => i1 | 2 => i2 | 3 => i4 | 4 => i5 | 5 => i6 | 6 => i7 | 7 => i8 | _ => i9), cI, cS, s.heap.size, (fun q => s.heap.size ≤ q), True, b, L, xs)
  have hK : va_K G.1 vwCl (gT G) s := by
    refine ⟨fun c q hq => ?_, fun k q hk => ?_⟩
    · rcases c with _ | _ | _ | _ | _ | _ | _ | _ | _ | c
      · cases hq; exact k0
      · cases hq; exact k1
      · cases hq; exact k2
      · cases hq; exact k4
      · cases hq; exact k5
      · cases hq; exact k6
      · cases hq; exact k7
      · cases hq; exact k8
      · cases hq; exact k9
      · simp at hq
    · rcases k with _ | _ | k
      · cases hk
        exact ⟨fun n z => ⟨(fun k h => by cases h), kI, a2, compI, a3⟩, a1⟩
      · cases hk
        exact ⟨fun n z => ⟨(fun k h => by cases h), kS, b3, compS, b4⟩, kS, compS, b3, b4, b1, b5⟩
      · simp [gT] at hk
  have hKX : KX G s s.heap := by
    refine ⟨fun q hq => ?_, ⟨adK, adV, hS, vk_R.of (hts (.stringRef "KerbQueue" 65 kqText) (by decide +kernel)) h1⟩, va_Zof (hts (.laysStatic "java/lang/String" "COMPACT_STRINGS" "Z") (by decide +kernel)) (hts (.initialized "java/lang/String") (by decide +kernel)) (va_eqt (hf (.eq (.static "java/lang/String" "COMPACT_STRINGS" "Z") (.int 1)) (by decide +kernel))) hA, ⟨va_Zqof (hts (.laysStatic "jdk/internal/util/Preconditions" "SIOOBE_FORMATTER" "Ljava/util/function/BiFunction;") (by decide +kernel)) (hts (.initialized "jdk/internal/util/Preconditions") (by decide +kernel)) (hf (.isRef (.static "jdk/internal/util/Preconditions" "SIOOBE_FORMATTER" "Ljava/util/function/BiFunction;")) (by decide +kernel)) hA, va_AO.of hAO⟩, hX, hA b hbl⟩
    exact va_tabs rfl rfl (hts _ (lw_nest q hq))
  rw [lg_entry_eq]
  have hl := lv_entry [Value.ref b] (n := 4) (by rw [lc_sl [Value.ref b] (by simp [Value.category])]; exact (show 1 ≤ 4 from by omega))
  have kk := law_run (G := G) (nm := meth.name) (w := fun _ => ia G 0 (fun _ => 0)) trivial hL p l e s m #[Value.ref b] below meth c s.heap [] _ ⟨hx, hb, hr, hml, hown, fun w hw => hts w (wsL_law_in w hw), hlocks, hK, rfl, fun _ q => Iff.rfl, fun _ => rfl, fun _ => hKX⟩ ⟨fun k q hk => by simp [wl] at hk, fun k hk => absurd hk (Nat.not_lt_zero k), va_S.rf⟩ ⟨hl.1, hl.2.1, fun i v hi => by
    rcases i with _ | i
    · cases hi
      exact hl.2.2 (0, Value.ref b) (lc_args [Value.ref b] (by simp [Value.category]) 0 0 _ rfl)
    · rcases i with _ | _ | _ | i
      · cases hi
      · cases hi
      · cases hi
      · simp at hi⟩
  intro T hT X
  obtain ⟨t, h1, h2⟩ := kk T hT X
  exact ⟨t, h1, lw_of (G := G) (N := 0 + 117) (fun _ hq => hq) h2⟩
