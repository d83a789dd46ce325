/-! the text that the class has written in it: String.length, String.charAt -/
/-- a String constant of 77 letters lies at aK, its bytes at aV -/
def ZPre (G : KG) (aK aV : Nat) (U : State) : Prop := (va_O "java/lang/String" aK (gA G) U U.heap ∧ va_OF "java/lang/String" "coder" "B" (.int 0) aK (gA G) U U.heap ∧ va_OF "java/lang/String" "value" "[B" (.ref aV) aK (gA G) U U.heap ∧ va_T .byte aV 77 (fun j => .int (kqBytes.getD j 0)) (gA G) U U.heap) ∧ va_Z "java/lang/String" "COMPACT_STRINGS" "Z" (.int 1) (gA G) U U.heap ∧ va_Zq "jdk/internal/util/Preconditions" "SIOOBE_FORMATTER" "Ljava/util/function/BiFunction;" (gA G) U U.heap
theorem ZPre.moved {G : KG} {aK aV : Nat} {s U : State} {locs : List Loc} (h : ZPre G aK aV s) (hW : s.WarmedH U.vm) (hS : va_S (gA G) s.heap U.heap locs) : ZPre G aK aV U := by
  obtain ⟨⟨h1, h2, h3, h4⟩, h5, h6⟩ := h
  exact ⟨⟨va_O.moved hW.alike (h1.kept hS.2.1), va_OF.moved hW.alike (h2.kept hS.2.1), va_OF.moved hW.alike (h3.kept hS.2.1), va_T.moved hW.alike (h4.kept hS.2.1)⟩, va_Z.moved hW.alike (h5.kept hS.2.1), va_Zq.moved hW.alike (h6.kept hS.2.1)⟩
theorem ZPre.same {G : KG} {aK aV : Nat} {u U : State} (h : ZPre G aK aV u) (hv : u.vm.Alike U.vm) (hh : U.heap = u.heap) : ZPre G aK aV U := by
  obtain ⟨⟨h1, h2, h3, h4⟩, h5, h6⟩ := h
  rw [← hh] at h1 h2 h3 h4 h5 h6
  exact ⟨⟨va_O.moved hv h1, va_OF.moved hv h2, va_OF.moved hv h3, va_T.moved hv h4⟩, va_Z.moved hv h5, va_Zq.moved hv h6⟩
def KRunS (G : KG) (J : KJ) (N : Nat) (aK aV : Nat) (Post : Option Value → WD → Prop) (pc : Nat) (L : List (Option Value)) (st : List Value) (w : WD) : Prop :=
  ∀ (p : Program) (l : Launch) (e : Env) (s : State) (m : MethodId) (args : Array Value) (below : List Frame) (meth : Method) (c : Code) (H : Heap) (locs : List Loc) (ls : Array Slot),
    KCtx G J N p s m args meth c → ZPre G aK aV s → KPic G N w s.heap H locs → KLoc J.2.2.2.1 L ls →
    W p l e J.2.2.2.2.2.1 s m args below meth c H locs 0 0 (MQ below (KQC G (N + J.2.2.2.2.2.2.1) Post) args s J.2.2.2.2.2.2.1 J.2.2.2.2.2.2.2 (gA G)) (F0 m pc ls st)
def KConS (G : KG) (J : KJ) (N : Nat) (aK aV : Nat) (w : WD) (As : List Value) (Post : Option Value → WD → Prop) : Prop :=
  ∀ l : Launch, Met l J.1 J.2.2.1 J.2.2.2.2.2.1 (va_Pc As (fun U => KPre G N w U ∧ ZPre G aK aV U)) (KQC G (N + J.2.2.2.2.2.2.1) Post) J.2.2.2.2.2.2.1 J.2.2.2.2.2.2.2 (gA G)
theorem KCon.s {G : KG} {J : KJ} {N aK aV : Nat} {w : WD} {As : List Value} {P : Option Value → WD → Prop} (h : KCon G J N w As P) : KConS G J N aK aV w As P := by
  intro l p e ha hc hk s m args below hf hr hP hK
  exact h l p e ha hc hk s m args below hf hr ⟨hP.1, hP.2.1⟩ hK
theorem KConS.of {G : KG} {J : KJ} {N aK aV : Nat} {w : WD} {As : List Value} {Post : Option Value → WD → Prop} (L0 : List (Option Value)) {ws' : List Cond} (hy : plainName J.1.cls = true) (hT : J.2.2.1 = .code J.1 J.2.1 J.2.2.2.1 J.2.2.2.2.1 :: ws')
    (hcat : ∀ v ∈ As, v.category = 1) (hle : As.length ≤ J.2.2.2.1) (hL : L0 = As.map some ++ List.replicate (J.2.2.2.1 - As.length) none)
    (h : KRunS G J N aK aV Post 0 L0 [] w) : KConS G J N aK aV w As Post := by
  intro l
  refine Met.ofW (cc := J.2.1) (maxL := J.2.2.2.1) (ret := J.2.2.2.2.1) hy hT ?_
  intro p e s m args below meth c s₁ B hml hv
  obtain ⟨rfl, ⟨hP, hA, hK, hLi, hLs, hLx⟩, hz⟩ := hv
  have hts := atoms_spec (ws := J.2.2.1) B.pre
  have hown : s.vm.findClass J.1.cls = some m.cls := findClass_of_methodNamed B.named
  have hnm : meth.name = J.1.name := (name_of_methodNamed B.named B.method).1
  rw [lg_entry_eq]
  refine h p l e s m As.toArray below meth c s.heap [] _ ⟨B.exec, B.bytes, B.returns, hml, hown, hts, B.notSynchronized, hK, hnm, hLi, hLs, hLx⟩ hz ⟨hP, hA, va_S.rf⟩ ?_
  have hl := lv_entry As (n := J.2.2.2.1) (by rw [lc_sl As hcat]; exact hle)
  refine ⟨hl.1, hl.2.1, fun i v hi => ?_⟩
  subst hL
  have h1 : As[i]? = some v := by
    by_cases hi2 : i < As.length
    · rw [List.getElem?_append_left (by simpa using hi2), List.getElem?_map] at hi
      cases h1 : As[i]? with
      | none => rw [h1] at hi; cases hi
      | some a => rw [h1] at hi; cases hi; rfl
    · rw [List.getElem?_append_right (by simpa using hi2)] at hi
      simp [List.getElem?_replicate] at hi
  have := lc_args As hcat 0 i v h1
  rw [Nat.zero_add] at this
  exact hl.2.2 (i, v) this
theorem KPre.atS {G : KG} {J : KJ} {N N' aK aV : Nat} {w : WD} {p : Program} {s : State} {m : MethodId} {args : Array Value} {meth : Method} {c : Code} {H : Heap} {locs : List Loc} (hC : KCtx G J N p s m args meth c) (hz : ZPre G aK aV s) (hP : KPic G N' w s.heap H locs) (hs : gL G → H.size = ad G N') (As : List Value) : FrameBlind (va_Pc As (fun U => KPre G N' w U ∧ ZPre G aK aV U)) ∧ ∀ U : State, U.heap = H → s.WarmedH U.vm → va_Pc As (fun U => KPre G N' w U ∧ ZPre G aK aV U) As.toArray U := by
  obtain ⟨h1, h2⟩ := KPre.at hC hP hs As
  refine ⟨fun a U g mk q => ?_, fun U hU hW => ?_⟩
  · obtain ⟨q0, q1, q2⟩ := q
    exact ⟨q0, (h1 a U g mk ⟨q0, q1⟩).2, ZPre.same (U := U.calling g mk a) q2 (Vm.Alike.refl U.vm) rfl⟩
  · exact ⟨rfl, (h2 U hU hW).2, hz.moved hW (by rw [hU]; exact hP.2.2)⟩
section KZ
variable {G : KG} {J J' : KJ} {N aK aV : Nat} {Post P2 : Option Value → WD → Prop} {pc : Nat} {L : List (Option Value)} {st rest : List Value} {w : WD}
theorem z_aload_n {k : Fin 4} {i : Nat} {x : Nat} (q : Nat) (hd : decode J.2.1 pc = .ok (.aload_n k, 1)) (hq : pc + 1 = q) (hi : (k : Nat) = i) (hx : L[i]? = some (some (.ref x))) (h : KRunS G J N aK aV Post q L (.ref x :: st) w) : KRunS G J N aK aV Post pc L st w := by
  subst hq
  intro p l e s m args below meth c H locs ls hC hz hP hL
  exact lv_aload_n hC.1 hC.2.1 hd hi (hL.2.2 _ _ hx) (h p l e s m args below meth c H locs ls hC hz hP hL)
theorem z_iload_n {k : Fin 4} {i : Nat} {x : Int32} (q : Nat) (hd : decode J.2.1 pc = .ok (.iload_n k, 1)) (hq : pc + 1 = q) (hi : (k : Nat) = i) (hx : L[i]? = some (some (.int x))) (h : KRunS G J N aK aV Post q L (.int x :: st) w) : KRunS G J N aK aV Post pc L st w := by
  subst hq
  intro p l e s m args below meth c H locs ls hC hz hP hL
  exact lv_iload_n hC.1 hC.2.1 hd hi (hL.2.2 _ _ hx) (h p l e s m args below meth c H locs ls hC hz hP hL)
theorem z_iconst {n : Int} (v : Int32) (q : Nat) (hd : decode J.2.1 pc = .ok (.iconst n, 1)) (hq : pc + 1 = q) (hv : Int32.ofInt n = v) (h : KRunS G J N aK aV Post q L (.int v :: st) w) : KRunS G J N aK aV Post pc L st w := by
  subst hq
  intro p l e s m args below meth c H locs ls hC hz hP hL
  exact lv_iconst hC.1 hC.2.1 hd hv (h p l e s m args below meth c H locs ls hC hz hP hL)
theorem z_sipush {n : Int} (v : Int32) (q : Nat) (hd : decode J.2.1 pc = .ok (.sipush n, 3)) (hq : pc + 3 = q) (hv : (Int16.ofInt n).toInt32 = v) (h : KRunS G J N aK aV Post q L (.int v :: st) w) : KRunS G J N aK aV Post pc L st w := by
  subst hq
  intro p l e s m args below meth c H locs ls hC hz hP hL
  exact lv_sipush hC.1 hC.2.1 hd hv (h p l e s m args below meth c H locs ls hC hz hP hL)
theorem z_goto {off : Int} (t : Nat) (hd : decode J.2.1 pc = .ok (.goto off, 3)) (ht : (pc : Int) + off = (t : Int)) (h : KRunS G J N aK aV Post t L st w) : KRunS G J N aK aV Post pc L st w := by
  intro p l e s m args below meth c H locs ls hC hz hP hL
  exact lv_goto hC.1 hC.2.1 hd ht (h p l e s m args below meth c H locs ls hC hz hP hL)
theorem z_pop {va : Value} (q : Nat) (hd : decode J.2.1 pc = .ok (.pop, 1)) (hq : pc + 1 = q) (hva : va.category = 1) (h : KRunS G J N aK aV Post q L st w) : KRunS G J N aK aV Post pc L (va :: st) w := by
  subst hq
  intro p l e s m args below meth c H locs ls hC hz hP hL
  exact lv_pop hC.1 hC.2.1 hd hva (h p l e s m args below meth c H locs ls hC hz hP hL)
theorem z_iand {x y : Int32} (q : Nat) (hd : decode J.2.1 pc = .ok (.iand, 1)) (hq : pc + 1 = q) (h : KRunS G J N aK aV Post q L (.int (x &&& y) :: st) w) : KRunS G J N aK aV Post pc L (.int y :: .int x :: st) w := by
  subst hq
  intro p l e s m args below meth c H locs ls hC hz hP hL
  exact lv_iand hC.1 hC.2.1 hd (h p l e s m args below meth c H locs ls hC hz hP hL)
theorem z_ishr {x y : Int32} (q : Nat) (hd : decode J.2.1 pc = .ok (.ishr, 1)) (hq : pc + 1 = q) (h : KRunS G J N aK aV Post q L (.int (x >>> (y &&& 31)) :: st) w) : KRunS G J N aK aV Post pc L (.int y :: .int x :: st) w := by
  subst hq
  intro p l e s m args below meth c H locs ls hC hz hP hL
  exact lv_ishr hC.1 hC.2.1 hd (h p l e s m args below meth c H locs ls hC hz hP hL)
theorem z_i2c {x : Int32} (v : Int32) (q : Nat) (hd : decode J.2.1 pc = .ok (.i2c, 1)) (hq : pc + 1 = q) (hv : (x.toUInt32 % 65536).toInt32 = v) (h : KRunS G J N aK aV Post q L (.int v :: st) w) : KRunS G J N aK aV Post pc L (.int x :: st) w := by
  subst hq
  intro p l e s m args below meth c H locs ls hC hz hP hL
  exact lv_i2c hC.1 hC.2.1 hd hv (h p l e s m args below meth c H locs ls hC hz hP hL)
theorem z_compact {idx : Nat} (q : Nat) (hd : decode J.2.1 pc = .ok (.getstatic idx, 3)) (hq : pc + 3 = q) (hw : Cond.fieldLink J.1.cls idx "java/lang/String" "COMPACT_STRINGS" "Z" ∈ J.2.2.1) (h : KRunS G J N aK aV Post q L (.int 1 :: st) w) : KRunS G J N aK aV Post pc L st w := by
  subst hq
  intro p l e s m args below meth c H locs ls hC hz hP hL
  exact va_gets hC.1 hC.2.1 hz.2.1 hP.2.2 hC.2.2.2.2.1 (hC.2.2.2.2.2.1 _ hw) (fun x hx => hx) hd (h p l e s m args below meth c H locs ls hC hz hP hL)
theorem z_former {idx : Nat} (q : Nat) (hd : decode J.2.1 pc = .ok (.getstatic idx, 3)) (hq : pc + 3 = q) (hw : Cond.fieldLink J.1.cls idx "jdk/internal/util/Preconditions" "SIOOBE_FORMATTER" "Ljava/util/function/BiFunction;" ∈ J.2.2.1) (h : ∀ v : Value, v.category = 1 → KRunS G J N aK aV Post q L (v :: st) w) : KRunS G J N aK aV Post pc L st w := by
  subst hq
  intro p l e s m args below meth c H locs ls hC hz hP hL
  rcases hz.2.2 with h1 | ⟨t, h1⟩
  · exact va_gets hC.1 hC.2.1 h1 hP.2.2 hC.2.2.2.2.1 (hC.2.2.2.2.2.1 _ hw) (fun x hx => hx) hd (h _ rfl p l e s m args below meth c H locs ls hC hz hP hL)
  · exact va_gets hC.1 hC.2.1 h1 hP.2.2 hC.2.2.2.2.1 (hC.2.2.2.2.2.1 _ hw) (fun x hx => hx) hd (h _ rfl p l e s m args below meth c H locs ls hC hz hP hL)
theorem z_coder {idx : Nat} (q : Nat) (hd : decode J.2.1 pc = .ok (.getfield idx, 3)) (hq : pc + 3 = q) (hw : Cond.fieldLink J.1.cls idx "java/lang/String" "coder" "B" ∈ J.2.2.1) (h : KRunS G J N aK aV Post q L (.int 0 :: st) w) : KRunS G J N aK aV Post pc L (.ref aK :: st) w := by
  subst hq
  intro p l e s m args below meth c H locs ls hC hz hP hL
  exact vk_getf hC.1 hC.2.1 hz.1.2.1 hP.2.2 hC.2.2.2.2.1 (hC.2.2.2.2.2.1 _ hw) (fun x hx => hx) hd (h p l e s m args below meth c H locs ls hC hz hP hL)
theorem z_value {idx : Nat} (q : Nat) (hd : decode J.2.1 pc = .ok (.getfield idx, 3)) (hq : pc + 3 = q) (hw : Cond.fieldLink J.1.cls idx "java/lang/String" "value" "[B" ∈ J.2.2.1) (h : KRunS G J N aK aV Post q L (.ref aV :: st) w) : KRunS G J N aK aV Post pc L (.ref aK :: st) w := by
  subst hq
  intro p l e s m args below meth c H locs ls hC hz hP hL
  exact vk_getf hC.1 hC.2.1 hz.1.2.2.1 hP.2.2 hC.2.2.2.2.1 (hC.2.2.2.2.2.1 _ hw) (fun x hx => hx) hd (h p l e s m args below meth c H locs ls hC hz hP hL)
theorem z_alen (q : Nat) (hd : decode J.2.1 pc = .ok (.arraylength, 1)) (hq : pc + 1 = q) (h : KRunS G J N aK aV Post q L (.int (nI 77) :: st) w) : KRunS G J N aK aV Post pc L (.ref aV :: st) w := by
  subst hq
  intro p l e s m args below meth c H locs ls hC hz hP hL
  exact va_tlen hC.1 hC.2.1 hz.1.2.2.2 hP.2.2 rfl hd (h p l e s m args below meth c H locs ls hC hz hP hL)
theorem z_bald {i : Nat} (q : Nat) (hd : decode J.2.1 pc = .ok (.baload, 1)) (hq : pc + 1 = q) (hi : i < 77) (h : KRunS G J N aK aV Post q L (.int (kqBytes.getD i 0) :: st) w) : KRunS G J N aK aV Post pc L (.int (nI i) :: .ref aV :: st) w := by
  subst hq
  intro p l e s m args below meth c H locs ls hC hz hP hL
  exact va_tb hC.1 hC.2.1 hz.1.2.2.2 hP.2.2 (vp_in_nI hi (by omega)) (by rw [nI_clamp (by omega)]) hd (h p l e s m args below meth c H locs ls hC hz hP hL)
theorem z_if_eq {x : Int32} {off : Int} (t q : Nat) (hd : decode J.2.1 pc = .ok (.ifCond .eq off, 3)) (ht : (pc : Int) + off = (t : Int)) (hq : pc + 3 = q) (kt : x = 0 → KRunS G J N aK aV Post t L st w) (kf : ¬ (x = 0) → KRunS G J N aK aV Post q L st w) : KRunS G J N aK aV Post pc L (.int x :: st) w := by
  subst hq
  intro p l e s m args below meth c H locs ls hC hz hP hL
  exact lv_if_eq hC.1 hC.2.1 hd ht (fun c1 => kt c1 p l e s m args below meth c H locs ls hC hz hP hL) (fun c1 => kf c1 p l e s m args below meth c H locs ls hC hz hP hL)
theorem z_if_ne {x : Int32} {off : Int} (t q : Nat) (hd : decode J.2.1 pc = .ok (.ifCond .ne off, 3)) (ht : (pc : Int) + off = (t : Int)) (hq : pc + 3 = q) (kt : ¬ (x = 0) → KRunS G J N aK aV Post t L st w) (kf : ¬ ¬ (x = 0) → KRunS G J N aK aV Post q L st w) : KRunS G J N aK aV Post pc L (.int x :: st) w := by
  subst hq
  intro p l e s m args below meth c H locs ls hC hz hP hL
  exact lv_if_ne hC.1 hC.2.1 hd ht (fun c1 => kt c1 p l e s m args below meth c H locs ls hC hz hP hL) (fun c1 => kf (fun z => z c1) p l e s m args below meth c H locs ls hC hz hP hL)
theorem z_ret {v : Int32} {ty : FieldType} (hd : decode J.2.1 pc = .ok (.ireturn, 1)) (hr : J.2.2.2.2.1 = some ty) (hv : narrow ty (.int v) = .int v) (hc : J.2.2.2.2.2.2.1 = 0) (hp : Post (some (.int v)) w) : KRunS G J N aK aV Post pc L [.int v] w := by
  intro p l e s m args below meth c H locs ls hC hz hP hL
  intro T hT X
  have hP : KPic G (N + 0) w s.heap H locs := hP
  rw [← hc] at hP
  exact W.widen (Nat.zero_le _) (Nat.zero_le _) (W.zret hC.1 hC.2.1 (hC.2.2.1.trans hr) hv (fun t ht _ => KQC.mk hp hP (by rw [hc] at hP ⊢; exact hP.size (cl := 0) hC hT X) ht) hP.2.2.2.2 hd hC.2.2.2.2.2.2.1) T hT X
theorem z_vret (hd : decode J.2.1 pc = .ok (.return_, 1)) (hr : J.2.2.2.2.1 = none) (hc : J.2.2.2.2.2.2.1 = 0) (hp : Post none w) : KRunS G J N aK aV Post pc L [] w := by
  intro p l e s m args below meth c H locs ls hC hz hP hL
  intro T hT X
  have hP : KPic G (N + 0) w s.heap H locs := hP
  rw [← hc] at hP
  exact W.widen (Nat.zero_le _) (Nat.zero_le _) (W.vret hC.1 hC.2.1 (hC.2.2.1.trans hr) (fun t ht _ => KQC.mk hp hP (by rw [hc] at hP ⊢; exact hP.size (cl := 0) hC hT X) ht) hP.2.2.2.2 hd hC.2.2.2.2.2.2.1) T hT X
theorem z_callV {idx n : Nat} {As : List Value} (q : Nat) (hd : decode J.2.1 pc = .ok (.invokevirtual idx, 3)) (hq : pc + 3 = q) (hV : KCV J idx J' n) (hcl : "java/lang/String" = J'.1.cls) (hn : As.length = n) (hst : st = As.reverse ++ .ref aK :: rest) (hcat : (rest.map fun v => v.category).sum ≤ 8) (hz : J'.2.2.2.2.2.2 = (0, 0))
    (hM : KConS G J' N aK aV w (.ref aK :: As) P2)
    (h : ∀ (v : Option Value) (w1 : WD), P2 v w1 → KRunS G J N aK aV Post q L (v.toList ++ rest) w1) : KRunS G J N aK aV Post pc L st w := by
  subst hq
  intro p l e s m args below meth c H locs ls hC hz2 hP hL T hT X
  have h1 : J'.2.2.2.2.2.2.1 = 0 := by rw [hz]
  have h2 : J'.2.2.2.2.2.2.2 = 0 := by rw [hz]
  obtain ⟨hg, ⟨ws', hw⟩, hy, hR, hrc, hrs⟩ := hV
  have hP0 : KPic G (N + 0) w s.heap H locs := hP
  have hpre := KPre.atS hC hz2 hP (hP0.size hC hT X) (.ref aK :: As)
  have hrecv : ∃ cell : Cell, H[aK]? = some cell ∧ cell.vm.isStatics = false ∧ s.vm.findClass "java/lang/String" = some cell.cls := by
    obtain ⟨cell, q1, q2, q3, -⟩ := hz2.1.1.kept hP.2.2.2.1
    exact ⟨cell, q1, q2, q3⟩
  rw [hcl] at hrecv
  refine k_runX (va_runV (cc := J.2.1) (nL := J.2.2.2.1) (Ts := J.2.2.1) (own := J.1.cls) (As := As) (rest := rest) ⟨hC.1, hC.2.1, hC.2.2.2.1, hC.2.2.2.2.1, hC.2.2.2.2.2.1⟩ (hM l) (cwV n hC.2.2.2.2.2.1 hg hw hrc hrs ⟨rfl, hy⟩ hR) ⟨hpre.1, hrecv, hpre.2⟩ rfl hn hL.1 hst (lv_room (rest := st) hcat) hd ⟨by rw [h1]; exact Nat.zero_le _, by rw [h2]; exact Nat.zero_le _⟩) hP.2.2 (fun v w1 H1 locs1 hp hP1 => ?_) T hT X
  rw [h1] at hP1 ⊢
  rw [h2]
  exact h v w1 hp p l e s m args below meth c H1 locs1 ls hC hz2 hP1 hL
theorem z_callS {idx n : Nat} {As : List Value} (q : Nat) (hd : decode J.2.1 pc = .ok (.invokestatic idx, 3)) (hq : pc + 3 = q) (hV : KCS J idx J' n) (hn : As.length = n) (hst : st = As.reverse ++ rest) (hcat : (rest.map fun v => v.category).sum ≤ 8) (hz : J'.2.2.2.2.2.2 = (0, 0))
    (hM : KConS G J' N aK aV w As P2)
    (h : ∀ (v : Option Value) (w1 : WD), P2 v w1 → KRunS G J N aK aV Post q L (v.toList ++ rest) w1) : KRunS G J N aK aV Post pc L st w := by
  subst hq
  intro p l e s m args below meth c H locs ls hC hz2 hP hL T hT X
  have h1 : J'.2.2.2.2.2.2.1 = 0 := by rw [hz]
  have h2 : J'.2.2.2.2.2.2.2 = 0 := by rw [hz]
  obtain ⟨hg, ⟨ws', hw⟩, hy, hR, hrc, hrs⟩ := hV
  have hP0 : KPic G (N + 0) w s.heap H locs := hP
  have hpre := KPre.atS hC hz2 hP (hP0.size hC hT X) As
  refine k_runX (va_runS (cc := J.2.1) (nL := J.2.2.2.1) (Ts := J.2.2.1) (own := J.1.cls) (As := As) (rest := rest) ⟨hC.1, hC.2.1, hC.2.2.2.1, hC.2.2.2.2.1, hC.2.2.2.2.2.1⟩ (hM l) (va_cwS n hC.2.2.2.2.2.1 hg hw hrc hrs hy hR) hpre rfl hn hL.1 hst (lv_room (rest := st) hcat) hd ⟨by rw [h1]; exact Nat.zero_le _, by rw [h2]; exact Nat.zero_le _⟩) hP.2.2 (fun v w1 H1 locs1 hp hP1 => ?_) T hT X
  rw [h1] at hP1 ⊢
  rw [h2]
  exact h v w1 hp p l e s m args below meth c H1 locs1 ls hC hz2 hP1 hL
end KZ
theorem c_J0_coder {G : KG} {N aK aV : Nat} {w : WD} : KConS G jJ0_coder_7d493 N aK aV w [.ref aK] (fun r w1 => r = some (.int 0) ∧ w1 = w) := by
  refine KConS.of [some (.ref aK)] (by decide) rfl (by simp [Value.category]) (Nat.le_of_ble_eq_true rfl) rfl ?_
  refine z_compact 3 dJ0_coder_7d493_0 rfl (List.mem_of_getElem? (i := 1) rfl) ?_
  refine z_if_eq 13 6 dJ0_coder_7d493_3 rfl rfl (fun c => absurd c (by decide)) (fun c => ?_)
  refine z_aload_n 7 dJ0_coder_7d493_6 rfl rfl rfl ?_
  refine z_coder 10 dJ0_coder_7d493_7 rfl (List.mem_of_getElem? (i := 2) rfl) ?_
  refine z_goto 14 dJ0_coder_7d493_10 rfl ?_
  exact z_ret dJ0_coder_7d493_14 rfl (by decide) rfl ⟨rfl, rfl⟩
theorem c_J0_length {G : KG} {N aK aV : Nat} {w : WD} : KConS G jJ0_length_8abf5 N aK aV w [.ref aK] (fun r w1 => r = some (.int (nI 77)) ∧ w1 = w) := by
  refine KConS.of [some (.ref aK)] (by decide) rfl (by simp [Value.category]) (Nat.le_of_ble_eq_true rfl) rfl ?_
  refine z_aload_n 1 dJ0_length_8abf5_0 rfl rfl rfl ?_
  refine z_value 4 dJ0_length_8abf5_1 rfl (List.mem_of_getElem? (i := 1) rfl) ?_
  refine z_alen 5 dJ0_length_8abf5_4 rfl ?_
  refine z_aload_n 6 dJ0_length_8abf5_5 rfl rfl rfl ?_
  refine z_callV (As := []) (rest := [.int (nI 77)]) 9 dJ0_length_8abf5_6 rfl vJ0_length_8abf5_335 rfl rfl rfl (Nat.le_of_ble_eq_true rfl) rfl c_J0_coder (fun r9 w9 h9 => ?_)
  obtain ⟨rfl, rfl⟩ := h9
  refine z_ishr 10 dJ0_length_8abf5_9 rfl ?_
  exact z_ret dJ0_length_8abf5_10 rfl rfl rfl ⟨by decide, rfl⟩
theorem c_J0_isLatin1 {G : KG} {N aK aV : Nat} {w : WD} : KConS G jJ0_isLatin1_aae02 N aK aV w [.ref aK] (fun r w1 => r = some (.int (nI 1)) ∧ w1 = w) := by
  refine KConS.of [some (.ref aK)] (by decide) rfl (by simp [Value.category]) (Nat.le_of_ble_eq_true rfl) rfl ?_
  refine z_compact 3 dJ0_isLatin1_aae02_0 rfl (List.mem_of_getElem? (i := 1) rfl) ?_
  refine z_if_eq 17 6 dJ0_isLatin1_aae02_3 rfl rfl (fun c => absurd c (by decide)) (fun c => ?_)
  refine z_aload_n 7 dJ0_isLatin1_aae02_6 rfl rfl rfl ?_
  refine z_coder 10 dJ0_isLatin1_aae02_7 rfl (List.mem_of_getElem? (i := 2) rfl) ?_
  refine z_if_ne 17 13 dJ0_isLatin1_aae02_10 rfl rfl (fun c => absurd rfl c) (fun c => ?_)
  refine z_iconst (nI 1) 14 dJ0_isLatin1_aae02_13 rfl kc_1 ?_
  refine z_goto 18 dJ0_isLatin1_aae02_14 rfl ?_
  exact z_ret dJ0_isLatin1_aae02_18 rfl rfl rfl ⟨rfl, rfl⟩
theorem c_J3_checkIndex {G : KG} {N k n : Nat} {w : WD} {v : Value} (hv : v.category = 1) (hk : k < n) (hn : n < 2 ^ 31) : KCon G jJ3_checkIndex_8e157 N w [.int (nI k), .int (nI n), v] (fun r w1 => r = some (.int (nI k)) ∧ w1 = w) := by
  refine KCon.of [some (.int (nI k)), some (.int (nI n)), some v] (by decide) rfl (fun u hu => by simp only [List.mem_cons, List.not_mem_nil, or_false] at hu; rcases hu with rfl | rfl | rfl <;> first | rfl | exact hv) (Nat.le_of_ble_eq_true rfl) rfl ?_
  refine k_iload_n 1 dJ3_checkIndex_8e157_0 rfl rfl rfl ?_
  refine k_if_ltN 9 4 dJ3_checkIndex_8e157_1 rfl rfl (by omega) (fun c => ?_) (fun c => ?_)
  · omega
  refine k_iload_n 5 dJ3_checkIndex_8e157_4 rfl rfl rfl ?_
  refine k_iload_n 6 dJ3_checkIndex_8e157_5 rfl rfl rfl ?_
  refine k_icmp_ltN 16 9 dJ3_checkIndex_8e157_6 rfl rfl (by omega) (by omega) (fun c => ?_) (fun c => ?_)
  · refine k_iload_n 17 dJ3_checkIndex_8e157_16 rfl rfl rfl ?_
    refine k_iret dJ3_checkIndex_8e157_17 rfl rfl (Nat.le_of_ble_eq_true rfl) ⟨rfl, rfl⟩
  · omega
theorem c_J0_checkIndex {G : KG} {N aK aV k n : Nat} {w : WD} (hk : k < n) (hn : n < 2 ^ 31) : KConS G jJ0_checkIndex_df160 N aK aV w [.int (nI k), .int (nI n)] (fun r w1 => r = none ∧ w1 = w) := by
  refine KConS.of [some (.int (nI k)), some (.int (nI n))] (by decide) rfl (by simp [Value.category]) (Nat.le_of_ble_eq_true rfl) rfl ?_
  refine z_iload_n 1 dJ0_checkIndex_df160_0 rfl rfl rfl ?_
  refine z_iload_n 2 dJ0_checkIndex_df160_1 rfl rfl rfl ?_
  refine z_former 5 dJ0_checkIndex_df160_2 rfl (List.mem_of_getElem? (i := 1) rfl) (fun v hv => ?_)
  refine z_callS (As := [.int (nI k), .int (nI n), v]) (rest := []) 8 dJ0_checkIndex_df160_5 rfl vJ0_checkIndex_df160_1059 rfl rfl (Nat.le_of_ble_eq_true rfl) rfl (c_J3_checkIndex hv hk hn).s (fun r9 w9 h9 => ?_)
  obtain ⟨rfl, rfl⟩ := h9
  refine z_pop 9 dJ0_checkIndex_df160_8 rfl rfl ?_
  exact z_vret dJ0_checkIndex_df160_9 rfl rfl ⟨rfl, rfl⟩
/-- the text's letters -/
def kqT (k : Nat) : Nat := (kqBytes.getD k 0).toInt.toNat
theorem kqT_ok : ∀ k, k < 77 → (((kqBytes.getD k 0) &&& 255).toUInt32 % 65536).toInt32 = nI (kqT k) ∧ narrow .char (.int (nI (kqT k))) = .int (nI (kqT k)) ∧ kqT k < 200 := by decide +kernel
theorem c_J1_charAt {G : KG} {N aK aV k : Nat} {w : WD} (hk : k < 77) : KConS G jJ1_charAt_3b067 N aK aV w [.ref aV, .int (nI k)] (fun r w1 => r = some (.int (nI (kqT k))) ∧ w1 = w) := by
  obtain ⟨e1, e2, -⟩ := kqT_ok k hk
  refine KConS.of [some (.ref aV), some (.int (nI k))] (by decide) rfl (by simp [Value.category]) (Nat.le_of_ble_eq_true rfl) rfl ?_
  refine z_iload_n 1 dJ1_charAt_3b067_0 rfl rfl rfl ?_
  refine z_aload_n 2 dJ1_charAt_3b067_1 rfl rfl rfl ?_
  refine z_alen 3 dJ1_charAt_3b067_2 rfl ?_
  refine z_callS (As := [.int (nI k), .int (nI 77)]) (rest := []) 6 dJ1_charAt_3b067_3 rfl vJ1_charAt_3b067_9 rfl rfl (Nat.le_of_ble_eq_true rfl) rfl (c_J0_checkIndex hk (by omega)) (fun r9 w9 h9 => ?_)
  obtain ⟨rfl, rfl⟩ := h9
  refine z_aload_n 7 dJ1_charAt_3b067_6 rfl rfl rfl ?_
  refine z_iload_n 8 dJ1_charAt_3b067_7 rfl rfl rfl ?_
  refine z_bald 9 dJ1_charAt_3b067_8 rfl hk ?_
  refine z_sipush 255 12 dJ1_charAt_3b067_9 rfl (by decide) ?_
  refine z_iand 13 dJ1_charAt_3b067_12 rfl ?_
  refine z_i2c _ 14 dJ1_charAt_3b067_13 rfl e1 ?_
  exact z_ret dJ1_charAt_3b067_14 rfl e2 rfl ⟨rfl, rfl⟩
theorem c_J0_charAt {G : KG} {N aK aV k : Nat} {w : WD} (hk : k < 77) : KConS G jJ0_charAt_5068e N aK aV w [.ref aK, .int (nI k)] (fun r w1 => r = some (.int (nI (kqT k))) ∧ w1 = w) := by
  obtain ⟨e1, e2, -⟩ := kqT_ok k hk
  refine KConS.of [some (.ref aK), some (.int (nI k))] (by decide) rfl (by simp [Value.category]) (Nat.le_of_ble_eq_true rfl) rfl ?_
  refine z_aload_n 1 dJ0_charAt_5068e_0 rfl rfl rfl ?_
  refine z_callV (As := []) (rest := []) 4 dJ0_charAt_5068e_1 rfl vJ0_charAt_5068e_492 rfl rfl rfl (Nat.le_of_ble_eq_true rfl) rfl c_J0_isLatin1 (fun r9 w9 h9 => ?_)
  obtain ⟨rfl, rfl⟩ := h9
  refine z_if_eq 16 7 dJ0_charAt_5068e_4 rfl rfl (fun c => absurd c (by decide)) (fun c => ?_)
  refine z_aload_n 8 dJ0_charAt_5068e_7 rfl rfl rfl ?_
  refine z_value 11 dJ0_charAt_5068e_8 rfl (List.mem_of_getElem? (i := 1) rfl) ?_
  refine z_iload_n 12 dJ0_charAt_5068e_11 rfl rfl rfl ?_
  refine z_callS (As := [.ref aV, .int (nI k)]) (rest := []) 15 dJ0_charAt_5068e_12 rfl vJ0_charAt_5068e_495 rfl rfl (Nat.le_of_ble_eq_true rfl) rfl (c_J1_charAt hk) (fun r9 w9 h9 => ?_)
  obtain ⟨rfl, rfl⟩ := h9
  exact z_ret dJ0_charAt_5068e_15 rfl e2 rfl ⟨rfl, rfl⟩
/-! in the class's own maker -/
section KZ2
variable {G : KG} {J : KJ} {N : Nat} {Post : Option Value → WD → Prop} {pc : Nat} {L : List (Option Value)} {st : List Value} {cl sl : Nat} {w : WD}
theorem KX.z {G : KG} {s : State} (h : KX G s s.heap) : ∃ aK aV, ZPre G aK aV s ∧ vk_R "KerbQueue" 65 kqText aK s := by
  obtain ⟨-, ⟨adK, adV, h1, h2⟩, h3, h4, -⟩ := h
  exact ⟨adK 0, adV 0, ⟨h1.1 0 (by decide), h3, h4.1⟩, h2⟩
theorem k_txlen {idx : Nat} (q : Nat) (hg : gL G) (hown : J.1.cls = "KerbQueue") (hd1 : decode J.2.1 pc = .ok (.ldc 65, 2)) (hd2 : decode J.2.1 (pc + 2) = .ok (.invokevirtual idx, 3)) (hq : pc + 2 + 3 = q) (hV : KCV J idx jJ0_length_8abf5 0) (hcat : (st.map fun v => v.category).sum ≤ 8) (hf : cl ≤ J.2.2.2.2.2.1.cells ∧ sl ≤ J.2.2.2.2.2.1.slots) (h : KRun G J N Post q L (.int (nI 77) :: st) cl sl w) : KRun G J N Post pc L st cl sl w := by
  subst hq
  intro p l e s m args below meth c H locs ls hC hP hL
  obtain ⟨aK, aV, hz, hR⟩ := (hC.2.2.2.2.2.2.2.2.2.2.2 hg).z
  refine va_ldcS hC.1 hC.2.1 (by rw [← hown]; exact hC.2.2.2.2.1) hR hd1 ?_
  intro T hT X
  obtain ⟨hg2, ⟨ws', hw⟩, hy, hRm, hrc, hrs⟩ := hV
  have hpre := KPre.atS hC hz hP (hP.size hC hT X) [.ref aK]
  have hrecv : ∃ cell : Cell, H[aK]? = some cell ∧ cell.vm.isStatics = false ∧ s.vm.findClass jJ0_length_8abf5.1.cls = some cell.cls := by
    obtain ⟨cell, q1, q2, q3, -⟩ := hz.1.1.kept hP.2.2.2.1
    exact ⟨cell, q1, q2, q3⟩
  refine k_runX (va_runV (cc := J.2.1) (nL := J.2.2.2.1) (Ts := J.2.2.1) (own := J.1.cls) (As := []) (rest := st) ⟨hC.1, hC.2.1, hC.2.2.2.1, hC.2.2.2.2.1, hC.2.2.2.2.2.1⟩ (c_J0_length (N := N + cl) (w := w) l) (cwV 0 hC.2.2.2.2.2.1 hg2 hw hrc hrs ⟨rfl, hy⟩ hRm) ⟨hpre.1, hrecv, hpre.2⟩ rfl rfl hL.1 rfl (lv_room (rest := .ref aK :: st) hcat) hd2 hf) hP.2.2 (fun v w1 H1 locs1 hp hP1 => ?_) T hT X
  obtain ⟨rfl, rfl⟩ := hp
  exact h p l e s m args below meth c H1 locs1 ls hC hP1 hL
theorem k_txchar {idx i k : Nat} {kk : Fin 4} (q : Nat) (hg : gL G) (hown : J.1.cls = "KerbQueue") (hd1 : decode J.2.1 pc = .ok (.ldc 65, 2)) (hd0 : decode J.2.1 (pc + 2) = .ok (.iload_n kk, 1)) (hi : (kk : Nat) = i) (hx : L[i]? = some (some (.int (nI k)))) (hd2 : decode J.2.1 (pc + 2 + 1) = .ok (.invokevirtual idx, 3)) (hq : pc + 2 + 1 + 3 = q) (hk : k < 77) (hV : KCV J idx jJ0_charAt_5068e 1) (hcat : (st.map fun v => v.category).sum ≤ 8) (hf : cl ≤ J.2.2.2.2.2.1.cells ∧ sl ≤ J.2.2.2.2.2.1.slots) (h : KRun G J N Post q L (.int (nI (kqT k)) :: st) cl sl w) : KRun G J N Post pc L st cl sl w := by
  subst hq
  intro p l e s m args below meth c H locs ls hC hP hL
  obtain ⟨aK, aV, hz, hR⟩ := (hC.2.2.2.2.2.2.2.2.2.2.2 hg).z
  refine va_ldcS hC.1 hC.2.1 (by rw [← hown]; exact hC.2.2.2.2.1) hR hd1 ?_
  refine lv_iload_n hC.1 hC.2.1 hd0 hi (hL.2.2 _ _ hx) ?_
  intro T hT X
  obtain ⟨hg2, ⟨ws', hw⟩, hy, hRm, hrc, hrs⟩ := hV
  have hpre := KPre.atS hC hz hP (hP.size hC hT X) [.ref aK, .int (nI k)]
  have hrecv : ∃ cell : Cell, H[aK]? = some cell ∧ cell.vm.isStatics = false ∧ s.vm.findClass jJ0_charAt_5068e.1.cls = some cell.cls := by
    obtain ⟨cell, q1, q2, q3, -⟩ := hz.1.1.kept hP.2.2.2.1
    exact ⟨cell, q1, q2, q3⟩
  refine k_runX (va_runV (cc := J.2.1) (nL := J.2.2.2.1) (Ts := J.2.2.1) (own := J.1.cls) (As := [.int (nI k)]) (rest := st) ⟨hC.1, hC.2.1, hC.2.2.2.1, hC.2.2.2.2.1, hC.2.2.2.2.2.1⟩ (c_J0_charAt (N := N + cl) (w := w) hk l) (cwV 1 hC.2.2.2.2.2.1 hg2 hw hrc hrs ⟨rfl, hy⟩ hRm) ⟨hpre.1, hrecv, hpre.2⟩ rfl rfl hL.1 rfl (lv_room (rest := .int (nI k) :: .ref aK :: st) hcat) hd2 hf) hP.2.2 (fun v w1 H1 locs1 hp hP1 => ?_) T hT X
  obtain ⟨rfl, rfl⟩ := hp
  exact h p l e s m args below meth c H1 locs1 ls hC hP1 hL
end KZ2
