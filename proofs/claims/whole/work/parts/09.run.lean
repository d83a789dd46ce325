/-! THE WALK IN SHORT: one judgement KRun over a world of cells by number, its rows out of the kit's; KCon: a method's contract over that world -/
abbrev KG : Type := va_G × ClassId × ClassId × Nat × (Nat → Prop) × Prop × Nat × Nat × (Nat → Int32)
abbrev KJ : Type := MethodName × ByteArray × List Cond × Nat × Option FieldType × Room × Nat × Nat
abbrev WD : Type := Nat → va_E
def ad (G : KG) (k : Nat) : Nat := G.2.2.2.1 + k
def gA (G : KG) : Nat → Prop := G.2.2.2.2.1
def gL (G : KG) : Prop := G.2.2.2.2.2.1
/-- the script: its cell, its length, its ints -/
def gb (G : KG) : Nat := G.2.2.2.2.2.2.1
def gn (G : KG) : Nat := G.2.2.2.2.2.2.2.1
def gx (G : KG) : Nat → Int32 := G.2.2.2.2.2.2.2.2
abbrev gT (G : KG) : List (ClassId × FieldType) := [(G.2.1, .int), (G.2.2.1, .object "KerbQueue$Scene")]
def ia (G : KG) (n : Nat) (f : Nat → Int32) : va_E := .inl (G.2.1, n, .inl f)
def ra (G : KG) (n : Nat) (f : Nat → Option Nat) : va_E := .inl (G.2.2.1, n, .inr (.inr (.inr (.inr f))))
abbrev ob (ci : Nat) (fs : List Value) : va_E := .inr (ci, fs)
abbrev rf (G : KG) (k : Nat) : Value := .ref (ad G k)
def wl (G : KG) (N : Nat) (w : WD) : va_W := (List.range N).map (fun k => (ad G k, w k))
/-- the cell k of the world holds e -/
def Is (N : Nat) (w : WD) (k : Nat) (e : va_E) : Prop := k < N ∧ w k = e
theorem wl_get {G : KG} {N k : Nat} {w : WD} (h : k < N) : (wl G N w)[k]? = some (ad G k, w k) := by
  simp [wl, h]
theorem wl_inv {G : KG} {N k : Nat} {w : WD} {q : Nat × va_E} (h : (wl G N w)[k]? = some q) : k < N ∧ q = (ad G k, w k) := by
  have hk : k < N := by
    have := (List.getElem?_eq_some_iff.mp h).1
    simpa [wl] using this
  rw [wl_get hk] at h
  exact ⟨hk, (Option.some.inj h).symm⟩
theorem wl_is {G : KG} {N k : Nat} {w : WD} {e : va_E} (h : Is N w k e) : (wl G N w)[k]? = some (ad G k, e) := by
  rw [wl_get h.1, h.2]
theorem wl_set {G : KG} {N k : Nat} {w : WD} {e : va_E} : (wl G N w).set k (ad G k, e) = wl G N (va_up w k e) := by
  apply List.ext_getElem?
  intro i
  rw [List.getElem?_set]
  by_cases hi : i < N
  · rw [wl_get hi, wl_get hi]
    by_cases h : k = i
    · subst h
      simp [wl, hi, va_up]
    · rw [if_neg h]
      simp [va_up, Ne.symm h]
  · have h1 : (wl G N w)[i]? = none := by simp [wl]; omega
    have h2 : (wl G N (va_up w k e))[i]? = none := by simp [wl]; omega
    rw [h1, h2]
    by_cases h : k = i
    · subst h
      simp [wl, hi]
    · rw [if_neg h]
theorem wl_push {G : KG} {N : Nat} {w : WD} {e : va_E} : wl G N w ++ [(ad G N, e)] = wl G (N + 1) (va_up w N e) := by
  apply List.ext_getElem?
  intro i
  by_cases hi : i < N
  · rw [List.getElem?_append_left (by simpa [wl] using hi), wl_get hi, wl_get (by omega)]
    simp [va_up, Nat.ne_of_lt hi]
  · rw [List.getElem?_append_right (by simp [wl]; omega)]
    by_cases h : i = N
    · subst h
      rw [wl_get (by omega)]
      simp [wl, va_up]
    · have h2 : (wl G (N + 1) (va_up w N e))[i]? = none := by simp [wl]; omega
      rw [h2]
      simp [wl]
      omega
theorem wl_D {G : KG} {N : Nat} {w : WD} (h : ∀ k, k < N → gA G (ad G k)) : va_D (gA G) (wl G N w) := by
  refine ⟨fun i j p q hi hj e => ?_, fun k q hk => ?_⟩
  · obtain ⟨-, rfl⟩ := wl_inv hi
    obtain ⟨-, rfl⟩ := wl_inv hj
    simp only [ad] at e
    omega
  · obtain ⟨h1, rfl⟩ := wl_inv hk
    exact h k h1
theorem Is.up {N : Nat} {w : WD} {k : Nat} {e : va_E} (h : k < N) : Is N (va_up w k e) k e := ⟨h, va_up_self _ _ _⟩
theorem Is.ne {N : Nat} {w : WD} {k j : Nat} {e e' : va_E} (h : Is N w j e') (hn : j ≠ k) : Is N (va_up w k e) j e' := ⟨h.1, by rw [va_up_ne _ _ hn]; exact h.2⟩
def kqText : String := "p0,5,3,20;p1,9,2,4;p2,7,2,30;p3,12,4,15;p0,3,1,9;p2,15,5,60;s4;d5,1,6;d2,0,3;"
def kqBytes : List Int32 := [112, 48, 44, 53, 44, 51, 44, 50, 48, 59, 112, 49, 44, 57, 44, 50, 44, 52, 59, 112, 50, 44, 55, 44, 50, 44, 51, 48, 59, 112, 51, 44, 49, 50, 44, 52, 44, 49, 53, 59, 112, 48, 44, 51, 44, 49, 44, 57, 59, 112, 50, 44, 49, 53, 44, 53, 44, 54, 48, 59, 115, 52, 59, 100, 53, 44, 49, 44, 54, 59, 100, 50, 44, 48, 44, 51, 59]
def kqNest : List (String × Nat × MethodName) := [(RX8, 9, yX1_init), (RX8, 18, yX4_init), (RX8, 25, yX5_init), (RX0, 9, yX4_init), (RX2, 11, yX4_init), (RX5, 11, yX1_init), (RX5, 20, yX4_init), (RX6, 21, yX4_init), (RX7, 26, yX1_init), (RX7, 33, yX4_init)]
/-- what the makers need beside their words: the private constructors' links, the text that the class has written in it, two statics of the JDK -/
def KX (G : KG) (U : State) (H : Heap) : Prop := (∀ q ∈ kqNest, va_Nw (.methodLinkNest q.1 q.2.1 q.2.2 "KerbQueue") U) ∧ (∃ adK adV : Nat → Nat, vk_S 1 [77] [kqBytes] adK adV (gA G) U H ∧ vk_R "KerbQueue" 65 kqText (adK 0) U) ∧ va_Z "java/lang/String" "COMPACT_STRINGS" "Z" (.int 1) (gA G) U H ∧ (va_Zq "jdk/internal/util/Preconditions" "SIOOBE_FORMATTER" "Ljava/util/function/BiFunction;" (gA G) U H ∧ va_AO "KerbQueue$Scene" U) ∧ va_X (gb G) (gn G) (gx G) U H ∧ ¬ gA G (gb G)
theorem KX.moved {G : KG} {s U : State} {H : Heap} {locs : List Loc} (h : KX G s s.heap) (hW : s.WarmedH U.vm) (hS : va_S (gA G) s.heap H locs) : KX G U H := by
  obtain ⟨h1, ⟨adK, adV, h2, h3⟩, h4, h5, h6, h7⟩ := h
  have hb : gb G < s.heap.size := by
    obtain ⟨scr, g1, -⟩ := h6
    exact (Array.getElem?_eq_some_iff.mp g1).1
  exact ⟨fun q hq => va_Nw.warmM hW (h1 q hq), ⟨adK, adV, vk_S.moved hW.alike (h2.kept hS.2.1), vk_R.warm hW h3⟩, va_Z.moved hW.alike (h4.kept hS.2.1), ⟨va_Zq.moved hW.alike (h5.1.kept hS.2.1), va_AO.moved hW.alike h5.2⟩, va_X.moved hW.alike (h6.kept (hS.2.1 _ hb h7)), h7⟩
theorem KX.same {G : KG} {u U : State} {H : Heap} (h : KX G u H) (hv : u.vm = U.vm) : KX G U H := by
  have ha : u.vm.Alike U.vm := hv ▸ Vm.Alike.refl u.vm
  obtain ⟨h1, ⟨adK, adV, h2, h3⟩, h4, h5, h6, h7⟩ := h
  exact ⟨fun q hq => va_Nw.same rfl hv (h1 q hq), ⟨adK, adV, vk_S.moved ha h2, vk_R.same hv.symm h3⟩, va_Z.moved ha h4, ⟨va_Zq.moved ha h5.1, va_AO.moved ha h5.2⟩, va_X.moved ha h6, h7⟩
def KCtx (G : KG) (J : KJ) (N : Nat) (p : Program) (s : State) (m : MethodId) (args : Array Value) (meth : Method) (c : Code) : Prop :=
  p.tables.exec = Jvm.exec ∧ c.code = J.2.1 ∧ meth.sig.returnType = J.2.2.2.2.1 ∧ c.maxLocals = J.2.2.2.1 ∧ s.vm.findClass J.1.cls = some m.cls ∧ (∀ w ∈ J.2.2.1, w.before args s = true) ∧ meth.locks = false ∧ va_K G.1 vwCl (gT G) s ∧ meth.name = J.1.name ∧ (gL G → ∀ q, gA G q ↔ ad G 0 ≤ q) ∧ (gL G → s.heap.size = ad G N) ∧ (gL G → KX G s s.heap)
def KPic (G : KG) (N : Nat) (w : WD) (H0 H : Heap) (locs : List Loc) : Prop := va_P G.1 vwCl (wl G N w) H ∧ (∀ k, k < N → gA G (ad G k)) ∧ va_S (gA G) H0 H locs
def KLoc (n : Nat) (L : List (Option Value)) (ls : Array Slot) : Prop := ls.size = n ∧ lv_wf ls ∧ ∀ (i : Nat) (v : Value), L[i]? = some (some v) → ls[i]? = some (.val v)
def KPre (G : KG) (N : Nat) (w : WD) (U : State) : Prop := va_P G.1 vwCl (wl G N w) U.heap ∧ (∀ k, k < N → gA G (ad G k)) ∧ va_K G.1 vwCl (gT G) U ∧ (gL G → ∀ q, gA G q ↔ ad G 0 ≤ q) ∧ (gL G → U.heap.size = ad G N) ∧ (gL G → KX G U U.heap)
def KQC (G : KG) (N : Nat) (Post : Option Value → WD → Prop) : Array Value → State → Outcome → State → Prop := fun _ st o t => (∃ (v : Option Value) (w : WD), o = .returned v ∧ Post v w ∧ va_P G.1 vwCl (wl G N w) t.heap ∧ (∀ k, k < N → gA G (ad G k)) ∧ (gL G → t.heap.size = ad G N)) ∧ va_F (gA G) st t
def KRun (G : KG) (J : KJ) (N : Nat) (Post : Option Value → WD → Prop) (pc : Nat) (L : List (Option Value)) (st : List Value) (cl sl : Nat) (w : WD) : Prop :=
  ∀ (p : Program) (l : Launch) (e : Env) (s : State) (m : MethodId) (args : Array Value) (below : List Frame) (meth : Method) (c : Code) (H : Heap) (locs : List Loc) (ls : Array Slot),
    KCtx G J N p s m args meth c → KPic G (N + cl) w s.heap H locs → KLoc J.2.2.2.1 L ls →
    W p l e J.2.2.2.2.2.1 s m args below meth c H locs cl sl (MQ below (KQC G (N + J.2.2.2.2.2.2.1) Post) args s J.2.2.2.2.2.2.1 J.2.2.2.2.2.2.2 (gA G)) (F0 m pc ls st)
def KCon (G : KG) (J : KJ) (N : Nat) (w : WD) (As : List Value) (Post : Option Value → WD → Prop) : Prop :=
  ∀ l : Launch, Met l J.1 J.2.2.1 J.2.2.2.2.2.1 (va_Pc As (KPre G N w)) (KQC G (N + J.2.2.2.2.2.2.1) Post) J.2.2.2.2.2.2.1 J.2.2.2.2.2.2.2 (gA G)
theorem lc_args (vs : List Value) (h : ∀ v ∈ vs, v.category = 1) : ∀ (b i : Nat) (v : Value), vs[i]? = some v → (b + i, v) ∈ lv_args b vs := by
  induction vs with
  | nil => intro b i v hi; simp at hi
  | cons x t ih =>
    intro b i v hi
    have hx : x.category = 1 := h x (by simp)
    simp only [lv_args, hx]
    cases i with
    | zero =>
      simp at hi
      subst hi
      simp
    | succ i =>
      simp at hi
      have := ih (fun v hv => h v (by simp [hv])) (b + 1) i v hi
      simp
      rw [show b + (i + 1) = b + 1 + i by omega]
      exact this
theorem lc_sl (vs : List Value) (h : ∀ v ∈ vs, v.category = 1) : (lg_sl vs).length = vs.length := by
  induction vs with
  | nil => rfl
  | cons x t ih =>
    have hx : x.category = 1 := h x (by simp)
    have := ih (fun v hv => h v (by simp [hv]))
    simp only [lg_sl, List.flatMap_cons, hx] at this ⊢
    simp [this]
/-- a contract out of the walk of the body -/
theorem KCon.of {G : KG} {J : KJ} {N : Nat} {w : WD} {As : List Value} {Post : Option Value → WD → Prop} (L0 : List (Option Value)) {ws' : List Cond} (hy : plainName J.1.cls = true) (hT : J.2.2.1 = .code J.1 J.2.1 J.2.2.2.1 J.2.2.2.2.1 :: ws')
    (hcat : ∀ v ∈ As, v.category = 1) (hle : As.length ≤ J.2.2.2.1) (hL : L0 = As.map some ++ List.replicate (J.2.2.2.1 - As.length) none)
    (h : KRun G J N Post 0 L0 [] 0 0 w) : KCon G J N w As Post := by
  intro l
  refine Met.ofW (cc := J.2.1) (maxL := J.2.2.2.1) (ret := J.2.2.2.2.1) hy hT ?_
  intro p e s m args below meth c s₁ B hml hv
  obtain ⟨rfl, hP, hA, hK, hLi, hLs, hLx⟩ := hv
  have hts := atoms_spec (ws := J.2.2.1) B.pre
  have hown : s.vm.findClass J.1.cls = some m.cls := findClass_of_methodNamed B.named
  have hnm : meth.name = J.1.name := (name_of_methodNamed B.named B.method).1
  rw [lg_entry_eq]
  refine h p l e s m As.toArray below meth c s.heap [] _ ⟨B.exec, B.bytes, B.returns, hml, hown, hts, B.notSynchronized, hK, hnm, hLi, hLs, hLx⟩ ⟨hP, hA, va_S.rf⟩ ?_
  have hl := lv_entry As (n := J.2.2.2.1) (by rw [lc_sl As hcat]; exact hle)
  refine ⟨hl.1, hl.2.1, fun i v hi => ?_⟩
  subst hL
  have h1 : As[i]? = some v := by
    by_cases hi2 : i < As.length
    · rw [List.getElem?_append_left (by simpa using hi2), List.getElem?_map] at hi
      cases h1 : As[i]? with
      | none => rw [h1] at hi; cases hi
      | some a => rw [h1] at hi; cases hi; rfl
    · rw [List.getElem?_append_right (by simpa using hi2)] at hi
      simp [List.getElem?_replicate] at hi
  have := lc_args As hcat 0 i v h1
  rw [Nat.zero_add] at this
  exact hl.2.2 (i, v) this
/-! locals -/
def lc_ok (L : List (Option Value)) (i : Nat) : Bool := i == 0 || (match L[i - 1]? with
  | some (some u) => u.category == 1
  | _ => true)
def lc_pr (L : List (Option Value)) : List (Nat × Value) := (List.range L.length).filterMap (fun j => match L[j]? with
  | some (some v) => some (j, v)
  | _ => none)
theorem lc_pr_mem {L : List (Option Value)} {j : Nat} {v : Value} : (j, v) ∈ lc_pr L ↔ L[j]? = some (some v) := by
  simp only [lc_pr, List.mem_filterMap, List.mem_range]
  constructor
  · rintro ⟨k, hk, h⟩
    cases h1 : L[k]? with
    | none => rw [h1] at h; simp at h
    | some o =>
      cases o with
      | none => rw [h1] at h; simp at h
      | some u =>
        rw [h1] at h
        simp at h
        obtain ⟨rfl, rfl⟩ := h
        exact h1
  · intro h
    exact ⟨j, (List.getElem?_eq_some_iff.mp h).1, by rw [h]⟩
theorem KLoc.has {n : Nat} {L : List (Option Value)} {ls : Array Slot} (h : KLoc n L ls) : lv_has ls n (lc_pr L) := ⟨h.1, h.2.1, fun q hq => h.2.2 q.1 q.2 (lc_pr_mem.mp hq)⟩
theorem KLoc.store {n : Nat} {L : List (Option Value)} {ls' : Array Slot} {i : Nat} {v : Value} (hp : lc_ok L i = true) (h : lv_has ls' n ((i, v) :: (lc_pr L).filter (fun q => !(q.1 == i) && !(q.1 + 1 == i && q.2.category == 2)))) : KLoc n (L.set i (some v)) ls' := by
  refine ⟨h.1, h.2.1, fun j u hj => ?_⟩
  by_cases hji : j = i
  · subst hji
    have hlt : j < L.length := by
      have := (List.getElem?_eq_some_iff.mp hj).1
      simpa using this
    simp [List.getElem?_set, hlt] at hj
    subst hj
    exact h.2.2 (j, v) (by simp)
  · rw [List.getElem?_set_ne (Ne.symm hji)] at hj
    refine h.2.2 (j, u) ?_
    refine List.mem_cons_of_mem _ (List.mem_filter.mpr ⟨lc_pr_mem.mpr hj, ?_⟩)
    simp only [Bool.and_eq_true, Bool.not_eq_true', beq_eq_false_iff_ne, ne_eq, Bool.and_eq_false_imp, beq_iff_eq]
    refine ⟨hji, fun hj1 => ?_⟩
    subst hj1
    simp only [lc_ok, Nat.add_eq_zero_iff, Nat.one_ne_zero, and_false, Bool.or_eq_true, beq_iff_eq, false_or, Nat.add_sub_cancel, hj] at hp
    omega
theorem KLoc.store2 {n : Nat} {L : List (Option Value)} {ls' : Array Slot} {i : Nat} {v : Value} (hp : lc_ok L i = true) (h : lv_has ls' n ((i, v) :: (lc_pr L).filter (fun q => !(q.1 == i) && (!(q.1 == i + 1) && !(q.1 + 1 == i && q.2.category == 2))))) : KLoc n ((L.set i (some v)).set (i + 1) none) ls' := by
  refine ⟨h.1, h.2.1, fun j u hj => ?_⟩
  by_cases hj2 : j = i + 1
  · subst hj2
    rw [List.getElem?_set] at hj
    simp at hj
  rw [List.getElem?_set_ne (Ne.symm hj2)] at hj
  by_cases hji : j = i
  · subst hji
    have hlt : j < L.length := by
      have := (List.getElem?_eq_some_iff.mp hj).1
      simpa using this
    simp [List.getElem?_set, hlt] at hj
    subst hj
    exact h.2.2 (j, v) (by simp)
  · rw [List.getElem?_set_ne (Ne.symm hji)] at hj
    refine h.2.2 (j, u) ?_
    refine List.mem_cons_of_mem _ (List.mem_filter.mpr ⟨lc_pr_mem.mpr hj, ?_⟩)
    simp only [Bool.and_eq_true, Bool.not_eq_true', beq_eq_false_iff_ne, ne_eq, Bool.and_eq_false_imp, beq_iff_eq]
    refine ⟨hji, hj2, fun hj1 => ?_⟩
    subst hj1
    simp only [lc_ok, Nat.add_eq_zero_iff, Nat.one_ne_zero, and_false, Bool.or_eq_true, beq_iff_eq, false_or, Nat.add_sub_cancel, hj] at hp
    omega
