/-! calls, and what is made -/
section KC
variable {G : KG} {J J' : KJ} {N : Nat} {Post P2 : Option Value → WD → Prop} {pc : Nat} {L : List (Option Value)} {st rest : List Value} {cl sl : Nat} {w : WD}
/-- the callee's start at the call -/
theorem KPre.at {N' : Nat} {p : Program} {s : State} {m : MethodId} {args : Array Value} {meth : Method} {c : Code} {H : Heap} {locs : List Loc} (hC : KCtx G J N p s m args meth c) (hP : KPic G N' w s.heap H locs) (hs : gL G → H.size = ad G N') (As : List Value) : FrameBlind (va_Pc As (KPre G N' w)) ∧ ∀ U : State, U.heap = H → s.WarmedH U.vm → va_Pc As (KPre G N' w) As.toArray U := by
  refine ⟨fun a U g mk q => ?_, fun U hU hW => ?_⟩
  · obtain ⟨q0, q1, q2, q3, q4, q5, q6⟩ := q
    exact ⟨q0, q1, q2, va_K.moved (u := U) (U := U.calling g mk a) (Vm.Alike.refl U.vm) q3, q4, q5, fun hg => KX.same (u := U) (U := U.calling g mk a) (q6 hg) rfl⟩
  · exact ⟨rfl, by rw [hU]; exact hP.1, hP.2.1, va_K.moved hW.alike hC.2.2.2.2.2.2.2.1, hC.2.2.2.2.2.2.2.2.2.1, by rw [hU]; exact hs, fun hg => by rw [hU]; exact KX.moved (hC.2.2.2.2.2.2.2.2.2.2.2 hg) hW hP.2.2⟩
theorem k_runX {p : Program} {l : Launch} {e : Env} {R : Room} {s : State} {m : MethodId} {args : Array Value} {below : List Frame} {meth : Method} {c : Code} {H : Heap} {locs : List Loc} {Q : State → Prop} {ls : Array Slot} {st0 : List Value} {a : Array Value} {mc ms N' : Nat}
    (hr : va_Run p l e R s m args below meth c H locs cl sl mc ms (F0 m pc ls st0) rest (KQC G N' P2 a) (gA G)) (hS : va_S (gA G) s.heap H locs)
    (kk : ∀ (v : Option Value) (w1 : WD) (H1 : Heap) (locs1 : List Loc), P2 v w1 → KPic G N' w1 s.heap H1 locs1 → W p l e R s m args below meth c H1 locs1 (cl + mc) (sl + ms) Q (F0 m (pc + 3) ls (v.toList ++ rest))) : W p l e R s m args below meth c H locs cl sl Q (F0 m pc ls st0) := by
  intro T hT X
  obtain ⟨v, st₀, t, T', L, h0, X', hL, e1, e2, ⟨⟨v2, w1, hv, hp, hP1, hA1, -⟩, hz, hk⟩, stp⟩ := hr T hT X
  cases hv
  rw [h0] at hz hk
  obtain ⟨t2, a1, b1⟩ := kk v w1 T'.heap (locs ++ L) hp ⟨by rw [e1]; exact hP1, hA1, Nat.le_trans hS.1 (by rw [e1]; exact hz), fun q h1 h2 => by rw [e1, hk q (Nat.lt_of_lt_of_le h1 hS.1) h2]; exact hS.2.1 q h1 h2, fun q hq => by
    rcases List.mem_append.mp hq with h | h
    · exact hS.2.2 q h
    · exact hL q h⟩ T' rfl X'
  exact ⟨t2, stp t2 a1, b1⟩
/-- a callee's own: its code stands first among its words; its room in the caller's -/
def KCb (J J' : KJ) (n : Nat) : Prop := (∃ ws' : List Cond, J'.2.2.1 = Cond.code J'.1 J'.2.1 J'.2.2.2.1 J'.2.2.2.2.1 :: ws') ∧ (J'.1.cls ≠ "java/lang/invoke/MethodHandle" ∧ J'.1.cls ≠ "java/lang/invoke/VarHandle" ∧ (parseMethodDescriptor J'.1.desc).map (fun d => d.parameters.length) = some n) ∧ (J'.2.2.2.2.2.1.frames + 1 ≤ J.2.2.2.2.2.1.frames ∧ 8 + (J'.2.2.2.1 + 11) + J'.2.2.2.2.2.1.locals ≤ J.2.2.2.2.2.1.locals) ∧ J'.2.2.2.2.2.1.cells = J'.2.2.2.2.2.2.1 ∧ J'.2.2.2.2.2.1.slots = J'.2.2.2.2.2.2.2
def KCV (J : KJ) (idx : Nat) (J' : KJ) (n : Nat) : Prop := GoodIn J.2.2.1 (wsV J.1.cls idx J'.1.cls J'.1 J'.2.2.1) ∧ KCb J J' n
def KCS (J : KJ) (idx : Nat) (J' : KJ) (n : Nat) : Prop := GoodIn J.2.2.1 (va_wsS J.1.cls idx J'.1 J'.2.2.1) ∧ KCb J J' n
def KCI (J : KJ) (idx : Nat) (J' : KJ) (n : Nat) : Prop := GoodIn J.2.2.1 J'.2.2.1 ∧ Cond.initialized J'.1.cls ∈ J.2.2.1 ∧ Cond.methodLink J.1.cls idx J'.1 ∈ J.2.2.1 ∧ Cond.instanceMethod J'.1 ∈ J.2.2.1 ∧ J'.1.name = "<init>" ∧ J'.2.2.2.2.1 = none ∧ KCb J J' n
def KCIN (J : KJ) (idx : Nat) (J' : KJ) (n : Nat) : Prop := GoodIn J.2.2.1 J'.2.2.1 ∧ Cond.initialized J'.1.cls ∈ J.2.2.1 ∧ (J.1.cls, idx, J'.1) ∈ kqNest ∧ Cond.instanceMethod J'.1 ∈ J.2.2.1 ∧ J'.1.name = "<init>" ∧ J'.2.2.2.2.1 = none ∧ KCb J J' n
theorem k_callV {idx n ci a : Nat} {fs As : List Value} {r : vw_C} (q : Nat) (hd : decode J.2.1 pc = .ok (.invokevirtual idx, 3)) (hq : pc + 3 = q) (hV : KCV J idx J' n) (ha : Is (N + cl) w a (ob ci fs)) (hci : vwCl[ci]? = some r) (hcl : r.1 = J'.1.cls) (hn : As.length = n) (hst : st = As.reverse ++ .ref (ad G a) :: rest) (hcat : (rest.map fun v => v.category).sum ≤ 8) (hf : cl + J'.2.2.2.2.2.2.1 ≤ J.2.2.2.2.2.1.cells ∧ sl + J'.2.2.2.2.2.2.2 ≤ J.2.2.2.2.2.1.slots)
    (hM : KCon G J' (N + cl) w (.ref (ad G a) :: As) P2)
    (h : ∀ (v : Option Value) (w1 : WD), P2 v w1 → KRun G J N Post q L (v.toList ++ rest) (cl + J'.2.2.2.2.2.2.1) (sl + J'.2.2.2.2.2.2.2) w1) : KRun G J N Post pc L st cl sl w := by
  subst hq
  intro p l e s m args below meth c H locs ls hC hP hL T hT X
  obtain ⟨hg, ⟨ws', hw⟩, hy, hR, hrc, hrs⟩ := hV
  have hpre := KPre.at hC hP (hP.size hC hT X) (.ref (ad G a) :: As)
  have hrecv := va_recv (D := G.1) (cl := vwCl) hC.2.2.2.2.2.2.2.1 hP.1 hci (wl_is ha)
  rw [hcl] at hrecv
  refine k_runX (va_runV (cc := J.2.1) (nL := J.2.2.2.1) (Ts := J.2.2.1) (own := J.1.cls) (As := As) (rest := rest) ⟨hC.1, hC.2.1, hC.2.2.2.1, hC.2.2.2.2.1, hC.2.2.2.2.2.1⟩ (hM l) (cwV n hC.2.2.2.2.2.1 hg hw hrc hrs ⟨rfl, hy⟩ hR) ⟨hpre.1, hrecv, hpre.2⟩ rfl hn hL.1 hst (lv_room (rest := st) hcat) hd hf) hP.2.2 (fun v w1 H1 locs1 hp hP1 => ?_) T hT X
  have hP2 : KPic G (N + (cl + J'.2.2.2.2.2.2.1)) w1 s.heap H1 locs1 := by rw [← Nat.add_assoc]; exact hP1
  exact h v w1 hp p l e s m args below meth c H1 locs1 ls hC hP2 hL
theorem k_callS {idx n : Nat} {As : List Value} (q : Nat) (hd : decode J.2.1 pc = .ok (.invokestatic idx, 3)) (hq : pc + 3 = q) (hV : KCS J idx J' n) (hn : As.length = n) (hst : st = As.reverse ++ rest) (hcat : (rest.map fun v => v.category).sum ≤ 8) (hf : cl + J'.2.2.2.2.2.2.1 ≤ J.2.2.2.2.2.1.cells ∧ sl + J'.2.2.2.2.2.2.2 ≤ J.2.2.2.2.2.1.slots)
    (hM : KCon G J' (N + cl) w As P2)
    (h : ∀ (v : Option Value) (w1 : WD), P2 v w1 → KRun G J N Post q L (v.toList ++ rest) (cl + J'.2.2.2.2.2.2.1) (sl + J'.2.2.2.2.2.2.2) w1) : KRun G J N Post pc L st cl sl w := by
  subst hq
  intro p l e s m args below meth c H locs ls hC hP hL T hT X
  obtain ⟨hg, ⟨ws', hw⟩, hy, hR, hrc, hrs⟩ := hV
  have hpre := KPre.at hC hP (hP.size hC hT X) As
  refine k_runX (va_runS (cc := J.2.1) (nL := J.2.2.2.1) (Ts := J.2.2.1) (own := J.1.cls) (As := As) (rest := rest) ⟨hC.1, hC.2.1, hC.2.2.2.1, hC.2.2.2.2.1, hC.2.2.2.2.2.1⟩ (hM l) (va_cwS n hC.2.2.2.2.2.1 hg hw hrc hrs hy hR) hpre rfl hn hL.1 hst (lv_room (rest := st) hcat) hd hf) hP.2.2 (fun v w1 H1 locs1 hp hP1 => ?_) T hT X
  have hP2 : KPic G (N + (cl + J'.2.2.2.2.2.2.1)) w1 s.heap H1 locs1 := by rw [← Nat.add_assoc]; exact hP1
  exact h v w1 hp p l e s m args below meth c H1 locs1 ls hC hP2 hL
theorem k_callI {idx n a : Nat} {As : List Value} (q : Nat) (hd : decode J.2.1 pc = .ok (.invokespecial idx, 3)) (hq : pc + 3 = q) (hV : KCI J idx J' n) (hn : As.length = n) (hst : st = As.reverse ++ .ref (ad G a) :: rest) (hcat : (rest.map fun v => v.category).sum ≤ 8) (hf : cl + J'.2.2.2.2.2.2.1 ≤ J.2.2.2.2.2.1.cells ∧ sl + J'.2.2.2.2.2.2.2 ≤ J.2.2.2.2.2.1.slots)
    (hM : KCon G J' (N + cl) w (.ref (ad G a) :: As) P2)
    (h : ∀ (v : Option Value) (w1 : WD), P2 v w1 → KRun G J N Post q L (v.toList ++ rest) (cl + J'.2.2.2.2.2.2.1) (sl + J'.2.2.2.2.2.2.2) w1) : KRun G J N Post pc L st cl sl w := by
  subst hq
  intro p l e s m args below meth c H locs ls hC hP hL T hT X
  obtain ⟨hg, hin, hlk, him, hnm, hrt, ⟨ws', hw⟩, hy, hR, hrc, hrs⟩ := hV
  rw [hrt] at hw
  have hpre := KPre.at hC hP (hP.size hC hT X) (.ref (ad G a) :: As)
  have ht := hC.2.2.2.2.2.1
  refine k_runX (va_runI (cc := J.2.1) (nL := J.2.2.2.1) (Ts := J.2.2.1) (own := J.1.cls) (As := As) (rest := rest) ⟨hC.1, hC.2.1, hC.2.2.2.1, hC.2.2.2.2.1, ht⟩ (hM l) (cwI n ht hg hw hrc hrs (ht _ hin) (ht _ hlk) (ht _ him) hnm hy hR) hpre rfl hn hL.1 hst (lv_room (rest := st) hcat) hd hf) hP.2.2 (fun v w1 H1 locs1 hp hP1 => ?_) T hT X
  have hP2 : KPic G (N + (cl + J'.2.2.2.2.2.2.1)) w1 s.heap H1 locs1 := by rw [← Nat.add_assoc]; exact hP1
  exact h v w1 hp p l e s m args below meth c H1 locs1 ls hC hP2 hL
theorem k_callIN {idx n a : Nat} {As : List Value} (q : Nat) (hg0 : gL G) (hd : decode J.2.1 pc = .ok (.invokespecial idx, 3)) (hq : pc + 3 = q) (hV : KCIN J idx J' n) (hn : As.length = n) (hst : st = As.reverse ++ .ref (ad G a) :: rest) (hcat : (rest.map fun v => v.category).sum ≤ 8) (hf : cl + J'.2.2.2.2.2.2.1 ≤ J.2.2.2.2.2.1.cells ∧ sl + J'.2.2.2.2.2.2.2 ≤ J.2.2.2.2.2.1.slots)
    (hM : KCon G J' (N + cl) w (.ref (ad G a) :: As) P2)
    (h : ∀ (v : Option Value) (w1 : WD), P2 v w1 → KRun G J N Post q L (v.toList ++ rest) (cl + J'.2.2.2.2.2.2.1) (sl + J'.2.2.2.2.2.2.2) w1) : KRun G J N Post pc L st cl sl w := by
  subst hq
  intro p l e s m args below meth c H locs ls hC hP hL T hT X
  obtain ⟨hg, hin, hlk, him, hnm, hrt, ⟨ws', hw⟩, hy, hR, hrc, hrs⟩ := hV
  rw [hrt] at hw
  have hpre := KPre.at hC hP (hP.size hC hT X) (.ref (ad G a) :: As)
  have ht := hC.2.2.2.2.2.1
  have hx := (hC.2.2.2.2.2.2.2.2.2.2.2 hg0).1 _ hlk
  refine k_runX (va_runIN (cc := J.2.1) (nL := J.2.2.2.1) (Ts := J.2.2.1) (own := J.1.cls) (As := As) (rest := rest) ⟨hC.1, hC.2.1, hC.2.2.2.1, hC.2.2.2.2.1, ht⟩ (hM l) ⟨va_cnB n ht hg hw hrc hrs hx (ht _ hin) hy hR, hnm, ht _ him⟩ hpre rfl hn hL.1 hst (lv_room (rest := st) hcat) hd hf) hP.2.2 (fun v w1 H1 locs1 hp hP1 => ?_) T hT X
  have hP2 : KPic G (N + (cl + J'.2.2.2.2.2.2.1)) w1 s.heap H1 locs1 := by rw [← Nat.add_assoc]; exact hP1
  exact h v w1 hp p l e s m args below meth c H1 locs1 ls hC hP2 hL
/-- Object.<init> -/
theorem k_objInit {idx a : Nat} (q : Nat) (hd : decode J.2.1 pc = .ok (.invokespecial idx, 3)) (hq : pc + 3 = q) (hw : Cond.methodLink J.1.cls idx objectInit ∈ J.2.2.1 ∧ Cond.instanceMethod objectInit ∈ J.2.2.1 ∧ Cond.code objectInit ⟨#[0xb1]⟩ 1 none ∈ J.2.2.1) (hf : 1 ≤ J.2.2.2.2.2.1.frames) (hl : (st.map fun v => v.category).sum + 12 ≤ J.2.2.2.2.2.1.locals) (h : KRun G J N Post q L st cl sl w) : KRun G J N Post pc L (.ref (ad G a) :: st) cl sl w := by
  subst hq
  intro p l e s m args below meth c H locs ls hC hP hL
  have ht := hC.2.2.2.2.2.1
  refine W.objInit hC.1 hC.2.1 hC.2.2.2.2.1 (ht _ hw.1) (ht _ hw.2.1) (ht _ hw.2.2) (g := F0 m pc ls (.ref (ad G a) :: st)) (rest := st) (a := ad G a) rfl (hL.1.trans hC.2.2.2.1.symm) rfl hd hf ?_ (h p l e s m args below meth c H locs ls hC hP hL)
  show 2 * 0 + _ + 12 ≤ _
  omega
/-- which address the new cell has -/
theorem k_fresh {p : Program} {l : Launch} {e : Env} {s : State} {m : MethodId} {args : Array Value} {below : List Frame} {meth : Method} {c : Code} {H1 : Heap} {locs : List Loc} {T : State} {sl1 a1 : Nat} {e1 : va_E} (hC : KCtx G J N p s m args meth c) (hg : gL G) (hP1 : va_P G.1 vwCl (wl G (N + cl) w ++ [(a1, e1)]) H1) (hD1 : va_D (gA G) (wl G (N + cl) w ++ [(a1, e1)])) (hT : T.heap = H1) (X : Stand p l e J.2.2.2.2.2.1 s m args below meth c T locs (cl + 1) sl1) : a1 = ad G (N + cl) := by
  have h0 := hC.2.2.2.2.2.2.2.2.2.2.1 hg
  have h1 := X.heapSize
  rw [hT, h0] at h1
  have hlen : (wl G (N + cl) w).length = N + cl := by simp [wl]
  have hk : (wl G (N + cl) w ++ [(a1, e1)])[N + cl]? = some (a1, e1) := by
    rw [List.getElem?_append_right (by omega), hlen]
    simp
  have h2 : a1 < H1.size := (hP1 _ _ hk).lt
  have h3 : ad G 0 ≤ a1 := (hC.2.2.2.2.2.2.2.2.2.1 hg a1).mp (hD1.2 _ _ hk)
  have h4 : ∀ k, k < N + cl → ad G k ≠ a1 := by
    intro k hk2 e2
    have h5 : (wl G (N + cl) w ++ [(a1, e1)])[k]? = some (ad G k, w k) := by
      rw [List.getElem?_append_left (by omega)]
      exact wl_get hk2
    have := hD1.1 k (N + cl) _ _ h5 hk e2
    omega
  simp only [ad] at h1 h3 h4 ⊢
  by_cases h5 : a1 = G.2.2.2.1 + (N + cl)
  · exact h5
  · exact absurd (by omega) (h4 (a1 - G.2.2.2.1) (by omega))
/-- new -/
theorem k_new {idx ci : Nat} {C : String} {T : u_T} {Nf : Nat} (q : Nat) (hg : gL G) (hd : decode J.2.1 pc = .ok (.new idx, 3)) (hq : pc + 3 = q) (fs : List Value) (hci : vwCl[ci]? = some (C, T, Nf)) (hin : ∀ w ∈ u_ws C T Nf, w ∈ J.2.2.1) (ty : Nat → FieldType) (hty : ∀ k, k < Nf → parseFieldDescriptor (T k).2.2.1 = some (ty k)) (hw : Cond.classLink J.1.cls idx C ∈ J.2.2.1 ∧ Cond.instantiable C Nf ∈ J.2.2.1 ∧ Cond.initialized C ∈ J.2.2.1) (hfs : ∀ j, j < Nf → defaultValue (ty j) = vp_V fs j) (hf : cl + 1 ≤ J.2.2.2.2.2.1.cells ∧ sl + Nf ≤ J.2.2.2.2.2.1.slots) (h : KRun G J N Post q L (.ref (ad G (N + cl)) :: st) (cl + 1) (sl + Nf) (va_up w (N + cl) (ob ci fs))) : KRun G J N Post pc L st cl sl w := by
  subst hq
  intro p l e s m args below meth c H locs ls hC hP hL
  have ht := hC.2.2.2.2.2.1
  have hA0 : ∀ q : Nat, s.heap.size ≤ q → gA G q := fun q hq => by
    rw [hC.2.2.2.2.2.2.2.2.2.1 hg q]
    have h0 := hC.2.2.2.2.2.2.2.2.2.2.1 hg
    simp only [ad] at h0 ⊢
    omega
  refine va_new (D := G.1) (cl := vwCl) (tys := gT G) (ws := wl G (N + cl) w) (ci := ci) (fs := fs) hC.1 hC.2.1 ht hin ty hty hC.2.2.2.2.1 (ht _ hw.1) (ht _ hw.2.1) (ht _ hw.2.2) hC.2.2.2.2.2.2.2.1 hP.1 (wl_D hP.2.1) hP.2.2 hA0 hci hfs hf.1 hf.2 hd (fun a1 H1 hP1 hD1 hS1 => ?_)
  intro T1 hT X
  have he := k_fresh hC hg hP1 hD1 hT X
  subst he
  rw [wl_push] at hP1
  refine h p l e s m args below meth c H1 locs ls hC ⟨hP1, fun k hk => ?_, hS1⟩ hL T1 hT X
  rw [hC.2.2.2.2.2.2.2.2.2.1 hg]
  simp only [ad]
  omega
theorem va_RA_int {U : State} {cA : ClassId} (h : va_RA U cA .int) : U.vm.findClass ("[" ++ FieldType.int.toString) = some cA := h
/-- newarray of ints -/
theorem k_newa {n : Nat} (q : Nat) (hg : gL G) (hd : decode J.2.1 pc = .ok (.newarray .int, 2)) (hq : pc + 2 = q) (hw : Cond.arrayClass .int ∈ J.2.2.1) (hn : n < 100000) (hf : cl + 1 ≤ J.2.2.2.2.2.1.cells ∧ sl + n ≤ J.2.2.2.2.2.1.slots) (h : KRun G J N Post q L (.ref (ad G (N + cl)) :: st) (cl + 1) (sl + n) (va_up w (N + cl) (ia G n (fun _ => 0)))) : KRun G J N Post pc L (.int (nI n) :: st) cl sl w := by
  subst hq
  intro p l e s m args below meth c H locs ls hC hP hL
  have ht := hC.2.2.2.2.2.1
  have hA0 : ∀ q : Nat, s.heap.size ≤ q → gA G q := fun q hq => by
    rw [hC.2.2.2.2.2.2.2.2.2.1 hg q]
    have h0 := hC.2.2.2.2.2.2.2.2.2.2.1 hg
    simp only [ad] at h0 ⊢
    omega
  refine va_newa (D := G.1) (cl := vwCl) (tys := gT G) (ws := wl G (N + cl) w) (atype := .int) (ty := .int) (a0 := (n, .inl (fun _ => 0))) (N' := n) hC.1 hC.2.1 (ht _ hw) rfl hC.2.2.2.2.2.2.2.1 hP.1 (wl_D hP.2.1) hP.2.2 hA0 (fun cA => rfl) (nI_pos (by omega)) (nI_clamp (by omega)) (by show n * 4 ≤ _; omega) hf.1 hf.2 hd (fun a1 cA H1 hK1 hP1 hD1 hS1 => ?_)
  intro T1 hT X
  have he := k_fresh hC hg hP1 hD1 hT X
  subst he
  have hc : cA = G.2.1 := by
    have h1 := va_RA_int (hK1.2 2 (cA, .int) rfl).2
    have h2 := va_RA_int (hK1.2 0 (G.2.1, .int) rfl).2
    exact Option.some.inj (h1.symm.trans h2)
  subst hc
  have hP2 : va_P G.1 vwCl (wl G (N + cl) w ++ [(ad G (N + cl), ia G n (fun _ => 0))]) H1 := hP1
  rw [wl_push] at hP2
  refine h p l e s m args below meth c H1 locs ls hC ⟨hP2, fun k hk => ?_, hS1⟩ hL T1 hT X
  rw [hC.2.2.2.2.2.2.2.2.2.1 hg]
  simp only [ad]
  omega
/-- anewarray of scenes -/
theorem k_newq {n idx : Nat} (q : Nat) (hg : gL G) (hd : decode J.2.1 pc = .ok (.anewarray idx, 3)) (hq : pc + 3 = q) (hw : Cond.classLink J.1.cls idx "KerbQueue$Scene" ∈ J.2.2.1) (hn : n < 100000) (hf : cl + 1 ≤ J.2.2.2.2.2.1.cells ∧ sl + n ≤ J.2.2.2.2.2.1.slots) (h : KRun G J N Post q L (.ref (ad G (N + cl)) :: st) (cl + 1) (sl + n) (va_up w (N + cl) (ra G n (fun _ => none)))) : KRun G J N Post pc L (.int (nI n) :: st) cl sl w := by
  subst hq
  intro p l e s m args below meth c H locs ls hC hP hL
  have ht := hC.2.2.2.2.2.1
  have hA0 : ∀ q : Nat, s.heap.size ≤ q → gA G q := fun q hq => by
    rw [hC.2.2.2.2.2.2.2.2.2.1 hg q]
    have h0 := hC.2.2.2.2.2.2.2.2.2.2.1 hg
    simp only [ad] at h0 ⊢
    omega
  refine va_newq (D := G.1) (cl := vwCl) (tys := gT G) (ws := wl G (N + cl) w) (N' := n) hC.1 hC.2.1 hC.2.2.2.2.1 (ht _ hw) (hC.2.2.2.2.2.2.2.2.2.2.2 hg).2.2.2.1.2 hC.2.2.2.2.2.2.2.1 hP.1 (wl_D hP.2.1) hP.2.2 hA0 (nI_pos (by omega)) (nI_clamp (by omega)) (by omega) hf.1 hf.2 hd (fun a1 cA H1 hK1 hP1 hD1 hS1 => ?_)
  intro T1 hT X
  have he := k_fresh hC hg hP1 hD1 hT X
  subst he
  have hc : cA = G.2.2.1 := by
    obtain ⟨_, _, -, -, -, h1⟩ := (hK1.2 2 (cA, .object "KerbQueue$Scene") rfl).2
    obtain ⟨_, _, -, -, -, h2⟩ := (hK1.2 1 (G.2.2.1, .object "KerbQueue$Scene") rfl).2
    exact Option.some.inj (h1.symm.trans h2)
  subst hc
  have hP2 : va_P G.1 vwCl (wl G (N + cl) w ++ [(ad G (N + cl), ra G n (fun _ => none))]) H1 := hP1
  rw [wl_push] at hP2
  refine h p l e s m args below meth c H1 locs ls hC ⟨hP2, fun k hk => ?_, hS1⟩ hL T1 hT X
  rw [hC.2.2.2.2.2.2.2.2.2.1 hg]
  simp only [ad]
  omega
/-- System.arraycopy of ints -/
theorem k_copy {idx a0 a1 n0 n1 sp dp n : Nat} {f g : Nat → Int32} (q : Nat) (hd : decode J.2.1 pc = .ok (.invokestatic idx, 3)) (hq : pc + 3 = q) (hw : Cond.methodLink J.1.cls idx arraycopyName ∈ J.2.2.1 ∧ Cond.native arraycopyName ∈ J.2.2.1 ∧ Cond.static arraycopyName ∈ J.2.2.1 ∧ Cond.initialized "java/lang/System" ∈ J.2.2.1) (h0 : Is (N + cl) w a0 (ia G n0 f)) (h1 : Is (N + cl) w a1 (ia G n1 g)) (hs : sp + n ≤ n0 ∧ n0 < 100000) (hdp : dp + n ≤ n1 ∧ n1 < 100000) (hf : 1 ≤ J.2.2.2.2.2.1.frames) (hl : (st.map fun v => v.category).sum + 18 ≤ J.2.2.2.2.2.1.locals) (h : KRun G J N Post q L st cl sl (va_up w a1 (ia G n1 (va_cpy f g sp dp n)))) : KRun G J N Post pc L (.int (nI n) :: .int (nI dp) :: .ref (ad G a1) :: .int (nI sp) :: .ref (ad G a0) :: st) cl sl w := by
  subst hq
  intro p l e s m args below meth c H locs ls hC hP hL
  have ht := hC.2.2.2.2.2.1
  have en : (nI n).toNatClampNeg = n := nI_clamp (by omega)
  have es : (nI sp).toNatClampNeg = sp := nI_clamp (by omega)
  have ed : (nI dp).toNatClampNeg = dp := nI_clamp (by omega)
  refine va_copyi (D := G.1) (cl := vwCl) (tys := gT G) hC.1 hC.2.1 (hC.2.2.2.1.trans hL.1.symm) hC.2.2.2.2.1 (ht _ hw.1) (ht _ hw.2.1) (ht _ hw.2.2.1) (ht _ hw.2.2.2) hC.2.2.2.2.2.2.2.1 hP.1 (wl_D hP.2.1) hP.2.2 a0 a1 0 0 (wl_is h0) (wl_is h1) rfl rfl rfl (nI_pos (by omega)) (nI_pos (by omega)) (nI_pos (by omega)) (by rw [es, en]; exact hs.1) (by rw [ed, en]; exact hdp.1) (fun i _ => rfl) hf (by show _ + ((5 + 2) + 11) ≤ _; omega) hd ?_
  intro H1 locs1 hP1 _ hS1
  rw [en, es, ed, wl_set] at hP1
  exact h p l e s m args below meth c H1 locs1 ls hC ⟨hP1, hP.2.1, hS1⟩ hL
def KMx (J : KJ) (idx : Nat) : Prop := Cond.methodLink J.1.cls idx Lib.Math.max.name ∈ J.2.2.1 ∧ Cond.static Lib.Math.max.name ∈ J.2.2.1 ∧ Cond.initialized "java/lang/Math" ∈ J.2.2.1 ∧ Cond.code Lib.Math.max.name Lib.Math.max.code 2 (some .int) ∈ J.2.2.1 ∧ 1 ≤ J.2.2.2.2.2.1.frames
def KMn (J : KJ) (idx : Nat) : Prop := Cond.methodLink J.1.cls idx Lib.Math.min.name ∈ J.2.2.1 ∧ Cond.static Lib.Math.min.name ∈ J.2.2.1 ∧ Cond.initialized "java/lang/Math" ∈ J.2.2.1 ∧ Cond.code Lib.Math.min.name Lib.Math.min.code 2 (some .int) ∈ J.2.2.1 ∧ 1 ≤ J.2.2.2.2.2.1.frames
theorem k_max {idx : Nat} {x y : Int32} (v : Int32) (q : Nat) (hd : decode J.2.1 pc = .ok (.invokestatic idx, 3)) (hq : pc + 3 = q) (hw : KMx J idx) (hl : (st.map fun v => v.category).sum + 13 ≤ J.2.2.2.2.2.1.locals) (hf : cl ≤ J.2.2.2.2.2.1.cells ∧ sl ≤ J.2.2.2.2.2.1.slots) (hv : (if x < y then y else x) = v) (h : KRun G J N Post q L (.int v :: st) cl sl w) : KRun G J N Post pc L (.int y :: .int x :: st) cl sl w := by
  subst hq
  subst hv
  intro p l e s m args below meth c H locs ls hC hP hL
  have ht := hC.2.2.2.2.2.1
  exact va_mmax hC.1 hC.2.1 (hC.2.2.2.1.trans hL.1.symm) hC.2.2.2.2.1 (ht _ hw.1) (ht _ hw.2.1) (ht _ hw.2.2.1) (ht _ hw.2.2.2.1) hw.2.2.2.2 hl hf.1 hf.2 hd (h p l e s m args below meth c H locs ls hC hP hL)
theorem k_min {idx : Nat} {x y : Int32} (v : Int32) (q : Nat) (hd : decode J.2.1 pc = .ok (.invokestatic idx, 3)) (hq : pc + 3 = q) (hw : KMn J idx) (hl : (st.map fun v => v.category).sum + 13 ≤ J.2.2.2.2.2.1.locals) (hf : cl ≤ J.2.2.2.2.2.1.cells ∧ sl ≤ J.2.2.2.2.2.1.slots) (hv : (if y < x then y else x) = v) (h : KRun G J N Post q L (.int v :: st) cl sl w) : KRun G J N Post pc L (.int y :: .int x :: st) cl sl w := by
  subst hq
  subst hv
  intro p l e s m args below meth c H locs ls hC hP hL
  have ht := hC.2.2.2.2.2.1
  exact va_mmin hC.1 hC.2.1 (hC.2.2.2.1.trans hL.1.symm) hC.2.2.2.2.1 (ht _ hw.1) (ht _ hw.2.1) (ht _ hw.2.2.1) (ht _ hw.2.2.2.1) hw.2.2.2.2 hl hf.1 hf.2 hd (h p l e s m args below meth c H locs ls hC hP hL)
/-- the script's own -/
theorem k_sld {i : Nat} (q : Nat) (hg : gL G) (hd : decode J.2.1 pc = .ok (.iaload, 1)) (hq : pc + 1 = q) (hi : i < gn G) (hn : gn G < 2 ^ 31) (h : KRun G J N Post q L (.int (gx G i) :: st) cl sl w) : KRun G J N Post pc L (.int (nI i) :: .ref (gb G) :: st) cl sl w := by
  subst hq
  intro p l e s m args below meth c H locs ls hC hP hL
  obtain ⟨-, -, -, -, hX, hA⟩ := hC.2.2.2.2.2.2.2.2.2.2.2 hg
  have hb : gb G < s.heap.size := by
    obtain ⟨scr, g1, -⟩ := hX
    exact (Array.getElem?_eq_some_iff.mp g1).1
  refine va_sld hC.1 hC.2.1 hX hb hA hP.2.2 (vp_in_nI hi hn) hd ?_
  rw [nI_clamp (by omega)]
  exact h p l e s m args below meth c H locs ls hC hP hL
theorem k_slen (q : Nat) (hg : gL G) (hd : decode J.2.1 pc = .ok (.arraylength, 1)) (hq : pc + 1 = q) (h : KRun G J N Post q L (.int (nI (gn G)) :: st) cl sl w) : KRun G J N Post pc L (.ref (gb G) :: st) cl sl w := by
  subst hq
  intro p l e s m args below meth c H locs ls hC hP hL
  obtain ⟨-, -, -, -, hX, hA⟩ := hC.2.2.2.2.2.2.2.2.2.2.2 hg
  have hb : gb G < s.heap.size := by
    obtain ⟨scr, g1, -⟩ := hX
    exact (Array.getElem?_eq_some_iff.mp g1).1
  exact va_slen hC.1 hC.2.1 hX hb hA hP.2.2 hd (h p l e s m args below meth c H locs ls hC hP hL)
end KC
