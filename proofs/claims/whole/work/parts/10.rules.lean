/-! the rows of KRun: an instruction, a row (written by wip/tools/gen_rules.py) -/
section KR
variable {G : KG} {J : KJ} {N : Nat} {Post : Option Value → WD → Prop} {pc : Nat} {L : List (Option Value)} {st : List Value} {cl sl : Nat} {w : WD}
theorem k_iconst {n : Int} (v : Int32) (q : Nat) (hd : decode J.2.1 pc = .ok (.iconst n, 1)) (hq : pc + 1 = q) (hv : Int32.ofInt n = v) (h : KRun G J N Post q L (.int v :: st) cl sl w) : KRun G J N Post pc L (st) cl sl w := by
  subst hq
  intro p l e s m args below meth c H locs ls hC hP hL
  exact lv_iconst hC.1 hC.2.1 hd hv (h p l e s m args below meth c H locs ls hC hP hL)
theorem k_bipush {n : Int} (v : Int32) (q : Nat) (hd : decode J.2.1 pc = .ok (.bipush n, 2)) (hq : pc + 2 = q) (hv : (Int8.ofInt n).toInt32 = v) (h : KRun G J N Post q L (.int v :: st) cl sl w) : KRun G J N Post pc L (st) cl sl w := by
  subst hq
  intro p l e s m args below meth c H locs ls hC hP hL
  exact lv_bipush hC.1 hC.2.1 hd hv (h p l e s m args below meth c H locs ls hC hP hL)
theorem k_sipush {n : Int} (v : Int32) (q : Nat) (hd : decode J.2.1 pc = .ok (.sipush n, 3)) (hq : pc + 3 = q) (hv : (Int16.ofInt n).toInt32 = v) (h : KRun G J N Post q L (.int v :: st) cl sl w) : KRun G J N Post pc L (st) cl sl w := by
  subst hq
  intro p l e s m args below meth c H locs ls hC hP hL
  exact lv_sipush hC.1 hC.2.1 hd hv (h p l e s m args below meth c H locs ls hC hP hL)
theorem k_lconst {n : Fin 2} (v : Int64) (q : Nat) (hd : decode J.2.1 pc = .ok (.lconst n, 1)) (hq : pc + 1 = q) (hv : Int64.ofNat (n : Nat) = v) (h : KRun G J N Post q L (.long v :: st) cl sl w) : KRun G J N Post pc L (st) cl sl w := by
  subst hq
  intro p l e s m args below meth c H locs ls hC hP hL
  exact lv_lconst hC.1 hC.2.1 hd hv (h p l e s m args below meth c H locs ls hC hP hL)
theorem k_null (q : Nat) (hd : decode J.2.1 pc = .ok (.aconst_null, 1)) (hq : pc + 1 = q) (h : KRun G J N Post q L (.null :: st) cl sl w) : KRun G J N Post pc L (st) cl sl w := by
  subst hq
  intro p l e s m args below meth c H locs ls hC hP hL
  exact lv_null hC.1 hC.2.1 hd (h p l e s m args below meth c H locs ls hC hP hL)
theorem k_ldc {idx : Nat} (v : Int32) (q : Nat) (hd : decode J.2.1 pc = .ok (.ldc idx, 2)) (hq : pc + 2 = q) (hw : Cond.constant J.1.cls idx v ∈ J.2.2.1) (h : KRun G J N Post q L (.int v :: st) cl sl w) : KRun G J N Post pc L (st) cl sl w := by
  subst hq
  intro p l e s m args below meth c H locs ls hC hP hL
  exact lv_ldc hC.1 hC.2.1 hC.2.2.2.2.1 (hC.2.2.2.2.2.1 _ hw) hd (h p l e s m args below meth c H locs ls hC hP hL)
theorem k_ldc2 {idx : Nat} (v : Int64) (q : Nat) (hd : decode J.2.1 pc = .ok (.ldc2_w idx, 3)) (hq : pc + 3 = q) (hw : Cond.constantLong J.1.cls idx v ∈ J.2.2.1) (h : KRun G J N Post q L (.long v :: st) cl sl w) : KRun G J N Post pc L (st) cl sl w := by
  subst hq
  intro p l e s m args below meth c H locs ls hC hP hL
  exact lv_ldc2 hC.1 hC.2.1 hC.2.2.2.2.1 (hC.2.2.2.2.2.1 _ hw) hd (h p l e s m args below meth c H locs ls hC hP hL)
theorem k_iload_n {k : Fin 4} {i : Nat} {x : Int32} (q : Nat) (hd : decode J.2.1 pc = .ok (.iload_n k, 1)) (hq : pc + 1 = q) (hi : (k : Nat) = i) (hx : L[i]? = some (some (.int x))) (h : KRun G J N Post q L (.int x :: st) cl sl w) : KRun G J N Post pc L (st) cl sl w := by
  subst hq
  intro p l e s m args below meth c H locs ls hC hP hL
  exact lv_iload_n hC.1 hC.2.1 hd hi (hL.2.2 _ _ hx) (h p l e s m args below meth c H locs ls hC hP hL)
theorem k_iload {i : Nat} {x : Int32} (q : Nat) (hd : decode J.2.1 pc = .ok (.iload i, 2)) (hq : pc + 2 = q) (hx : L[i]? = some (some (.int x))) (h : KRun G J N Post q L (.int x :: st) cl sl w) : KRun G J N Post pc L (st) cl sl w := by
  subst hq
  intro p l e s m args below meth c H locs ls hC hP hL
  exact lv_iload hC.1 hC.2.1 hd (hL.2.2 _ _ hx) (h p l e s m args below meth c H locs ls hC hP hL)
theorem k_lload_n {k : Fin 4} {i : Nat} {x : Int64} (q : Nat) (hd : decode J.2.1 pc = .ok (.lload_n k, 1)) (hq : pc + 1 = q) (hi : (k : Nat) = i) (hx : L[i]? = some (some (.long x))) (h : KRun G J N Post q L (.long x :: st) cl sl w) : KRun G J N Post pc L (st) cl sl w := by
  subst hq
  intro p l e s m args below meth c H locs ls hC hP hL
  exact lv_lload_n hC.1 hC.2.1 hd hi (hL.2.2 _ _ hx) (h p l e s m args below meth c H locs ls hC hP hL)
theorem k_lload {i : Nat} {x : Int64} (q : Nat) (hd : decode J.2.1 pc = .ok (.lload i, 2)) (hq : pc + 2 = q) (hx : L[i]? = some (some (.long x))) (h : KRun G J N Post q L (.long x :: st) cl sl w) : KRun G J N Post pc L (st) cl sl w := by
  subst hq
  intro p l e s m args below meth c H locs ls hC hP hL
  exact lv_lload hC.1 hC.2.1 hd (hL.2.2 _ _ hx) (h p l e s m args below meth c H locs ls hC hP hL)
theorem k_aload_n {k : Fin 4} {i : Nat} {x : Nat} (q : Nat) (hd : decode J.2.1 pc = .ok (.aload_n k, 1)) (hq : pc + 1 = q) (hi : (k : Nat) = i) (hx : L[i]? = some (some (.ref x))) (h : KRun G J N Post q L (.ref x :: st) cl sl w) : KRun G J N Post pc L (st) cl sl w := by
  subst hq
  intro p l e s m args below meth c H locs ls hC hP hL
  exact lv_aload_n hC.1 hC.2.1 hd hi (hL.2.2 _ _ hx) (h p l e s m args below meth c H locs ls hC hP hL)
theorem k_aload {i : Nat} {x : Nat} (q : Nat) (hd : decode J.2.1 pc = .ok (.aload i, 2)) (hq : pc + 2 = q) (hx : L[i]? = some (some (.ref x))) (h : KRun G J N Post q L (.ref x :: st) cl sl w) : KRun G J N Post pc L (st) cl sl w := by
  subst hq
  intro p l e s m args below meth c H locs ls hC hP hL
  exact lv_aload hC.1 hC.2.1 hd (hL.2.2 _ _ hx) (h p l e s m args below meth c H locs ls hC hP hL)
theorem k_istore_n {k : Fin 4} {i : Nat} {x : Int32} (L1 : List (Option Value)) (q : Nat) (hd : decode J.2.1 pc = .ok (.istore_n k, 1)) (hq : pc + 1 = q) (hi : (k : Nat) = i) (hi2 : i < J.2.2.2.1) (hp : lc_ok L i = true) (hl1 : (L.set i (some (.int x))) = L1) (h : KRun G J N Post q L1 st cl sl w) : KRun G J N Post pc L (.int x :: st) cl sl w := by
  subst hq
  subst hl1
  intro p l e s m args below meth c H locs ls hC hP hL
  exact lv_istore_n hC.1 hC.2.1 hd hi hL.has hi2 rfl (fun ls1 hl1 => h p l e s m args below meth c H locs ls1 hC hP (KLoc.store hp hl1))
theorem k_istore {i : Nat} {x : Int32} (L1 : List (Option Value)) (q : Nat) (hd : decode J.2.1 pc = .ok (.istore i, 2)) (hq : pc + 2 = q) (hi2 : i < J.2.2.2.1) (hp : lc_ok L i = true) (hl1 : (L.set i (some (.int x))) = L1) (h : KRun G J N Post q L1 st cl sl w) : KRun G J N Post pc L (.int x :: st) cl sl w := by
  subst hq
  subst hl1
  intro p l e s m args below meth c H locs ls hC hP hL
  exact lv_istore hC.1 hC.2.1 hd hL.has hi2 rfl (fun ls1 hl1 => h p l e s m args below meth c H locs ls1 hC hP (KLoc.store hp hl1))
theorem k_astore_n {k : Fin 4} {i : Nat} {x : Nat} (L1 : List (Option Value)) (q : Nat) (hd : decode J.2.1 pc = .ok (.astore_n k, 1)) (hq : pc + 1 = q) (hi : (k : Nat) = i) (hi2 : i < J.2.2.2.1) (hp : lc_ok L i = true) (hl1 : (L.set i (some (.ref x))) = L1) (h : KRun G J N Post q L1 st cl sl w) : KRun G J N Post pc L (.ref x :: st) cl sl w := by
  subst hq
  subst hl1
  intro p l e s m args below meth c H locs ls hC hP hL
  exact lv_astore_n hC.1 hC.2.1 hd hi hL.has hi2 rfl (fun ls1 hl1 => h p l e s m args below meth c H locs ls1 hC hP (KLoc.store hp hl1))
theorem k_astore {i : Nat} {x : Nat} (L1 : List (Option Value)) (q : Nat) (hd : decode J.2.1 pc = .ok (.astore i, 2)) (hq : pc + 2 = q) (hi2 : i < J.2.2.2.1) (hp : lc_ok L i = true) (hl1 : (L.set i (some (.ref x))) = L1) (h : KRun G J N Post q L1 st cl sl w) : KRun G J N Post pc L (.ref x :: st) cl sl w := by
  subst hq
  subst hl1
  intro p l e s m args below meth c H locs ls hC hP hL
  exact lv_astore hC.1 hC.2.1 hd hL.has hi2 rfl (fun ls1 hl1 => h p l e s m args below meth c H locs ls1 hC hP (KLoc.store hp hl1))
theorem k_lstore_n {k : Fin 4} {i : Nat} {x : Int64} (L1 : List (Option Value)) (q : Nat) (hd : decode J.2.1 pc = .ok (.lstore_n k, 1)) (hq : pc + 1 = q) (hi : (k : Nat) = i) (hi2 : i + 1 < J.2.2.2.1) (hp : lc_ok L i = true) (hl1 : ((L.set i (some (.long x))).set (i + 1) none) = L1) (h : KRun G J N Post q L1 st cl sl w) : KRun G J N Post pc L (.long x :: st) cl sl w := by
  subst hq
  subst hl1
  intro p l e s m args below meth c H locs ls hC hP hL
  exact lv_lstore_n hC.1 hC.2.1 hd hi hL.has hi2 rfl (fun ls1 hl1 => h p l e s m args below meth c H locs ls1 hC hP (KLoc.store2 hp hl1))
theorem k_lstore {i : Nat} {x : Int64} (L1 : List (Option Value)) (q : Nat) (hd : decode J.2.1 pc = .ok (.lstore i, 2)) (hq : pc + 2 = q) (hi2 : i + 1 < J.2.2.2.1) (hp : lc_ok L i = true) (hl1 : ((L.set i (some (.long x))).set (i + 1) none) = L1) (h : KRun G J N Post q L1 st cl sl w) : KRun G J N Post pc L (.long x :: st) cl sl w := by
  subst hq
  subst hl1
  intro p l e s m args below meth c H locs ls hC hP hL
  exact lv_lstore hC.1 hC.2.1 hd hL.has hi2 rfl (fun ls1 hl1 => h p l e s m args below meth c H locs ls1 hC hP (KLoc.store2 hp hl1))
theorem k_iinc {i : Nat} {n : Int} {x : Int32} (v : Int32) (L1 : List (Option Value)) (q : Nat) (hd : decode J.2.1 pc = .ok (.iinc i n, 3)) (hq : pc + 3 = q) (hx : L[i]? = some (some (.int x))) (hv : x + Int32.ofInt n = v) (hi2 : i < J.2.2.2.1) (hp : lc_ok L i = true) (hl1 : (L.set i (some (.int v))) = L1) (h : KRun G J N Post q L1 st cl sl w) : KRun G J N Post pc L st cl sl w := by
  subst hq
  subst hl1
  intro p l e s m args below meth c H locs ls hC hP hL
  obtain ⟨k, hk⟩ := List.getElem?_of_mem (lc_pr_mem.mpr hx)
  exact lv_iinc hC.1 hC.2.1 hd hL.has hk hv hi2 rfl (fun ls1 hl1 => h p l e s m args below meth c H locs ls1 hC hP (KLoc.store hp hl1))
theorem k_iadd {x y : Int32} (q : Nat) (hd : decode J.2.1 pc = .ok (.iadd, 1)) (hq : pc + 1 = q) (h : KRun G J N Post q L (.int (x + y) :: st) cl sl w) : KRun G J N Post pc L (.int y :: .int x :: st) cl sl w := by
  subst hq
  intro p l e s m args below meth c H locs ls hC hP hL
  exact lv_iadd hC.1 hC.2.1 hd (h p l e s m args below meth c H locs ls hC hP hL)
theorem k_isub {x y : Int32} (q : Nat) (hd : decode J.2.1 pc = .ok (.isub, 1)) (hq : pc + 1 = q) (h : KRun G J N Post q L (.int (x - y) :: st) cl sl w) : KRun G J N Post pc L (.int y :: .int x :: st) cl sl w := by
  subst hq
  intro p l e s m args below meth c H locs ls hC hP hL
  exact lv_isub hC.1 hC.2.1 hd (h p l e s m args below meth c H locs ls hC hP hL)
theorem k_imul {x y : Int32} (q : Nat) (hd : decode J.2.1 pc = .ok (.imul, 1)) (hq : pc + 1 = q) (h : KRun G J N Post q L (.int (x * y) :: st) cl sl w) : KRun G J N Post pc L (.int y :: .int x :: st) cl sl w := by
  subst hq
  intro p l e s m args below meth c H locs ls hC hP hL
  exact lv_imul hC.1 hC.2.1 hd (h p l e s m args below meth c H locs ls hC hP hL)
theorem k_iand {x y : Int32} (q : Nat) (hd : decode J.2.1 pc = .ok (.iand, 1)) (hq : pc + 1 = q) (h : KRun G J N Post q L (.int (x &&& y) :: st) cl sl w) : KRun G J N Post pc L (.int y :: .int x :: st) cl sl w := by
  subst hq
  intro p l e s m args below meth c H locs ls hC hP hL
  exact lv_iand hC.1 hC.2.1 hd (h p l e s m args below meth c H locs ls hC hP hL)
theorem k_ior {x y : Int32} (q : Nat) (hd : decode J.2.1 pc = .ok (.ior, 1)) (hq : pc + 1 = q) (h : KRun G J N Post q L (.int (x ||| y) :: st) cl sl w) : KRun G J N Post pc L (.int y :: .int x :: st) cl sl w := by
  subst hq
  intro p l e s m args below meth c H locs ls hC hP hL
  exact lv_ior hC.1 hC.2.1 hd (h p l e s m args below meth c H locs ls hC hP hL)
theorem k_ixor {x y : Int32} (q : Nat) (hd : decode J.2.1 pc = .ok (.ixor, 1)) (hq : pc + 1 = q) (h : KRun G J N Post q L (.int (x ^^^ y) :: st) cl sl w) : KRun G J N Post pc L (.int y :: .int x :: st) cl sl w := by
  subst hq
  intro p l e s m args below meth c H locs ls hC hP hL
  exact lv_ixor hC.1 hC.2.1 hd (h p l e s m args below meth c H locs ls hC hP hL)
theorem k_ishl {x y : Int32} (q : Nat) (hd : decode J.2.1 pc = .ok (.ishl, 1)) (hq : pc + 1 = q) (h : KRun G J N Post q L (.int (x <<< (y &&& 31)) :: st) cl sl w) : KRun G J N Post pc L (.int y :: .int x :: st) cl sl w := by
  subst hq
  intro p l e s m args below meth c H locs ls hC hP hL
  exact lv_ishl hC.1 hC.2.1 hd (h p l e s m args below meth c H locs ls hC hP hL)
theorem k_ishr {x y : Int32} (q : Nat) (hd : decode J.2.1 pc = .ok (.ishr, 1)) (hq : pc + 1 = q) (h : KRun G J N Post q L (.int (x >>> (y &&& 31)) :: st) cl sl w) : KRun G J N Post pc L (.int y :: .int x :: st) cl sl w := by
  subst hq
  intro p l e s m args below meth c H locs ls hC hP hL
  exact lv_ishr hC.1 hC.2.1 hd (h p l e s m args below meth c H locs ls hC hP hL)
/-- the same, the answer by another name -/
theorem k_iaddE {x y : Int32} (v : Int32) (q : Nat) (hd : decode J.2.1 pc = .ok (.iadd, 1)) (hq : pc + 1 = q) (hv : x + y = v) (h : KRun G J N Post q L (.int v :: st) cl sl w) : KRun G J N Post pc L (.int y :: .int x :: st) cl sl w := by
  subst hv
  exact k_iadd q hd hq h
/-- the same, the answer by another name -/
theorem k_isubE {x y : Int32} (v : Int32) (q : Nat) (hd : decode J.2.1 pc = .ok (.isub, 1)) (hq : pc + 1 = q) (hv : x - y = v) (h : KRun G J N Post q L (.int v :: st) cl sl w) : KRun G J N Post pc L (.int y :: .int x :: st) cl sl w := by
  subst hv
  exact k_isub q hd hq h
/-- the same, the answer by another name -/
theorem k_imulE {x y : Int32} (v : Int32) (q : Nat) (hd : decode J.2.1 pc = .ok (.imul, 1)) (hq : pc + 1 = q) (hv : x * y = v) (h : KRun G J N Post q L (.int v :: st) cl sl w) : KRun G J N Post pc L (.int y :: .int x :: st) cl sl w := by
  subst hv
  exact k_imul q hd hq h
/-- the same, the answer by another name -/
theorem k_iandE {x y : Int32} (v : Int32) (q : Nat) (hd : decode J.2.1 pc = .ok (.iand, 1)) (hq : pc + 1 = q) (hv : x &&& y = v) (h : KRun G J N Post q L (.int v :: st) cl sl w) : KRun G J N Post pc L (.int y :: .int x :: st) cl sl w := by
  subst hv
  exact k_iand q hd hq h
/-- the same, the answer by another name -/
theorem k_iorE {x y : Int32} (v : Int32) (q : Nat) (hd : decode J.2.1 pc = .ok (.ior, 1)) (hq : pc + 1 = q) (hv : x ||| y = v) (h : KRun G J N Post q L (.int v :: st) cl sl w) : KRun G J N Post pc L (.int y :: .int x :: st) cl sl w := by
  subst hv
  exact k_ior q hd hq h
/-- the same, the answer by another name -/
theorem k_ixorE {x y : Int32} (v : Int32) (q : Nat) (hd : decode J.2.1 pc = .ok (.ixor, 1)) (hq : pc + 1 = q) (hv : x ^^^ y = v) (h : KRun G J N Post q L (.int v :: st) cl sl w) : KRun G J N Post pc L (.int y :: .int x :: st) cl sl w := by
  subst hv
  exact k_ixor q hd hq h
/-- the same, the answer by another name -/
theorem k_ishlE {x y : Int32} (v : Int32) (q : Nat) (hd : decode J.2.1 pc = .ok (.ishl, 1)) (hq : pc + 1 = q) (hv : x <<< (y &&& 31) = v) (h : KRun G J N Post q L (.int v :: st) cl sl w) : KRun G J N Post pc L (.int y :: .int x :: st) cl sl w := by
  subst hv
  exact k_ishl q hd hq h
/-- the same, the answer by another name -/
theorem k_ishrE {x y : Int32} (v : Int32) (q : Nat) (hd : decode J.2.1 pc = .ok (.ishr, 1)) (hq : pc + 1 = q) (hv : x >>> (y &&& 31) = v) (h : KRun G J N Post q L (.int v :: st) cl sl w) : KRun G J N Post pc L (.int y :: .int x :: st) cl sl w := by
  subst hv
  exact k_ishr q hd hq h
theorem k_ineg {x : Int32} (q : Nat) (hd : decode J.2.1 pc = .ok (.ineg, 1)) (hq : pc + 1 = q) (h : KRun G J N Post q L (.int (-x) :: st) cl sl w) : KRun G J N Post pc L (.int x :: st) cl sl w := by
  subst hq
  intro p l e s m args below meth c H locs ls hC hP hL
  exact lv_ineg hC.1 hC.2.1 hd (h p l e s m args below meth c H locs ls hC hP hL)
theorem k_idiv {x y : Int32} (v : Int32) (q : Nat) (hd : decode J.2.1 pc = .ok (.idiv, 1)) (hq : pc + 1 = q) (hne : ¬ y = 0) (hv : x / y = v) (h : KRun G J N Post q L (.int v :: st) cl sl w) : KRun G J N Post pc L (.int y :: .int x :: st) cl sl w := by
  subst hq
  subst hv
  intro p l e s m args below meth c H locs ls hC hP hL
  exact lv_idiv hC.1 hC.2.1 hd hne (h p l e s m args below meth c H locs ls hC hP hL)
theorem k_irem {x y : Int32} (v : Int32) (q : Nat) (hd : decode J.2.1 pc = .ok (.irem, 1)) (hq : pc + 1 = q) (hne : ¬ y = 0) (hv : x - x / y * y = v) (h : KRun G J N Post q L (.int v :: st) cl sl w) : KRun G J N Post pc L (.int y :: .int x :: st) cl sl w := by
  subst hq
  subst hv
  intro p l e s m args below meth c H locs ls hC hP hL
  exact lv_irem hC.1 hC.2.1 hd hne (h p l e s m args below meth c H locs ls hC hP hL)
theorem k_ladd {x y : Int64} (v : Int64) (q : Nat) (hd : decode J.2.1 pc = .ok (.ladd, 1)) (hq : pc + 1 = q) (hv : x + y = v) (h : KRun G J N Post q L (.long v :: st) cl sl w) : KRun G J N Post pc L (.long y :: .long x :: st) cl sl w := by
  subst hq
  subst hv
  intro p l e s m args below meth c H locs ls hC hP hL
  exact lv_ladd hC.1 hC.2.1 hd (h p l e s m args below meth c H locs ls hC hP hL)
theorem k_lsub {x y : Int64} (v : Int64) (q : Nat) (hd : decode J.2.1 pc = .ok (.lsub, 1)) (hq : pc + 1 = q) (hv : x - y = v) (h : KRun G J N Post q L (.long v :: st) cl sl w) : KRun G J N Post pc L (.long y :: .long x :: st) cl sl w := by
  subst hq
  subst hv
  intro p l e s m args below meth c H locs ls hC hP hL
  exact lv_lsub hC.1 hC.2.1 hd (h p l e s m args below meth c H locs ls hC hP hL)
theorem k_lmul {x y : Int64} (v : Int64) (q : Nat) (hd : decode J.2.1 pc = .ok (.lmul, 1)) (hq : pc + 1 = q) (hv : x * y = v) (h : KRun G J N Post q L (.long v :: st) cl sl w) : KRun G J N Post pc L (.long y :: .long x :: st) cl sl w := by
  subst hq
  subst hv
  intro p l e s m args below meth c H locs ls hC hP hL
  exact lv_lmul hC.1 hC.2.1 hd (h p l e s m args below meth c H locs ls hC hP hL)
theorem k_lrem {x y : Int64} (v : Int64) (q : Nat) (hd : decode J.2.1 pc = .ok (.lrem, 1)) (hq : pc + 1 = q) (hne : ¬ y = 0) (hv : x - x / y * y = v) (h : KRun G J N Post q L (.long v :: st) cl sl w) : KRun G J N Post pc L (.long y :: .long x :: st) cl sl w := by
  subst hq
  subst hv
  intro p l e s m args below meth c H locs ls hC hP hL
  exact lv_lrem hC.1 hC.2.1 hd hne (h p l e s m args below meth c H locs ls hC hP hL)
theorem k_i2l {x : Int32} (v : Int64) (q : Nat) (hd : decode J.2.1 pc = .ok (.i2l, 1)) (hq : pc + 1 = q) (hv : x.toInt64 = v) (h : KRun G J N Post q L (.long v :: st) cl sl w) : KRun G J N Post pc L (.int x :: st) cl sl w := by
  subst hq
  intro p l e s m args below meth c H locs ls hC hP hL
  exact lv_i2l hC.1 hC.2.1 hd hv (h p l e s m args below meth c H locs ls hC hP hL)
theorem k_l2i {x : Int64} (v : Int32) (q : Nat) (hd : decode J.2.1 pc = .ok (.l2i, 1)) (hq : pc + 1 = q) (hv : x.toInt32 = v) (h : KRun G J N Post q L (.int v :: st) cl sl w) : KRun G J N Post pc L (.long x :: st) cl sl w := by
  subst hq
  intro p l e s m args below meth c H locs ls hC hP hL
  exact lv_l2i hC.1 hC.2.1 hd hv (h p l e s m args below meth c H locs ls hC hP hL)
theorem k_dup {va : Value} (q : Nat) (hd : decode J.2.1 pc = .ok (.dup, 1)) (hq : pc + 1 = q) (hva : va.category = 1) (h : KRun G J N Post q L (va :: va :: st) cl sl w) : KRun G J N Post pc L (va :: st) cl sl w := by
  subst hq
  intro p l e s m args below meth c H locs ls hC hP hL
  exact lv_dup hC.1 hC.2.1 hd hva (h p l e s m args below meth c H locs ls hC hP hL)
theorem k_pop {va : Value} (q : Nat) (hd : decode J.2.1 pc = .ok (.pop, 1)) (hq : pc + 1 = q) (hva : va.category = 1) (h : KRun G J N Post q L (st) cl sl w) : KRun G J N Post pc L (va :: st) cl sl w := by
  subst hq
  intro p l e s m args below meth c H locs ls hC hP hL
  exact lv_pop hC.1 hC.2.1 hd hva (h p l e s m args below meth c H locs ls hC hP hL)
theorem k_dup2 {va vb : Value} (q : Nat) (hd : decode J.2.1 pc = .ok (.dup2, 1)) (hq : pc + 1 = q) (hva : va.category = 1) (hvb : vb.category = 1) (h : KRun G J N Post q L (va :: vb :: va :: vb :: st) cl sl w) : KRun G J N Post pc L (va :: vb :: st) cl sl w := by
  subst hq
  intro p l e s m args below meth c H locs ls hC hP hL
  exact lv_dup2_11 hC.1 hC.2.1 hd hva hvb (h p l e s m args below meth c H locs ls hC hP hL)
theorem k_dup_x1 {va vb : Value} (q : Nat) (hd : decode J.2.1 pc = .ok (.dup_x1, 1)) (hq : pc + 1 = q) (hva : va.category = 1) (hvb : vb.category = 1) (h : KRun G J N Post q L (va :: vb :: va :: st) cl sl w) : KRun G J N Post pc L (va :: vb :: st) cl sl w := by
  subst hq
  intro p l e s m args below meth c H locs ls hC hP hL
  exact lv_dup_x1 hC.1 hC.2.1 hd hva hvb (h p l e s m args below meth c H locs ls hC hP hL)
theorem k_if_eq {x : Int32} {off : Int} (t q : Nat) (hd : decode J.2.1 pc = .ok (.ifCond .eq off, 3)) (ht : (pc : Int) + off = (t : Int)) (hq : pc + 3 = q) (kt : x = 0 → KRun G J N Post t L st cl sl w) (kf : ¬ (x = 0) → KRun G J N Post q L st cl sl w) : KRun G J N Post pc L (.int x :: st) cl sl w := by
  subst hq
  intro p l e s m args below meth c H locs ls hC hP hL
  refine lv_if_eq hC.1 hC.2.1 hd ht (fun a => kt a p l e s m args below meth c H locs ls hC hP hL) (fun a => kf ?_ p l e s m args below meth c H locs ls hC hP hL)
  first | exact a | exact fun z => z a
theorem k_if_ne {x : Int32} {off : Int} (t q : Nat) (hd : decode J.2.1 pc = .ok (.ifCond .ne off, 3)) (ht : (pc : Int) + off = (t : Int)) (hq : pc + 3 = q) (kt : ¬ x = 0 → KRun G J N Post t L st cl sl w) (kf : ¬ (¬ x = 0) → KRun G J N Post q L st cl sl w) : KRun G J N Post pc L (.int x :: st) cl sl w := by
  subst hq
  intro p l e s m args below meth c H locs ls hC hP hL
  refine lv_if_ne hC.1 hC.2.1 hd ht (fun a => kt a p l e s m args below meth c H locs ls hC hP hL) (fun a => kf ?_ p l e s m args below meth c H locs ls hC hP hL)
  first | exact a | exact fun z => z a
theorem k_if_lt {x : Int32} {off : Int} (t q : Nat) (hd : decode J.2.1 pc = .ok (.ifCond .lt off, 3)) (ht : (pc : Int) + off = (t : Int)) (hq : pc + 3 = q) (kt : x < 0 → KRun G J N Post t L st cl sl w) (kf : ¬ (x < 0) → KRun G J N Post q L st cl sl w) : KRun G J N Post pc L (.int x :: st) cl sl w := by
  subst hq
  intro p l e s m args below meth c H locs ls hC hP hL
  refine lv_if_lt hC.1 hC.2.1 hd ht (fun a => kt a p l e s m args below meth c H locs ls hC hP hL) (fun a => kf ?_ p l e s m args below meth c H locs ls hC hP hL)
  first | exact a | exact fun z => z a
theorem k_if_ge {x : Int32} {off : Int} (t q : Nat) (hd : decode J.2.1 pc = .ok (.ifCond .ge off, 3)) (ht : (pc : Int) + off = (t : Int)) (hq : pc + 3 = q) (kt : 0 ≤ x → KRun G J N Post t L st cl sl w) (kf : ¬ (0 ≤ x) → KRun G J N Post q L st cl sl w) : KRun G J N Post pc L (.int x :: st) cl sl w := by
  subst hq
  intro p l e s m args below meth c H locs ls hC hP hL
  refine lv_if_ge hC.1 hC.2.1 hd ht (fun a => kt a p l e s m args below meth c H locs ls hC hP hL) (fun a => kf ?_ p l e s m args below meth c H locs ls hC hP hL)
  first | exact a | exact fun z => z a
theorem k_if_gt {x : Int32} {off : Int} (t q : Nat) (hd : decode J.2.1 pc = .ok (.ifCond .gt off, 3)) (ht : (pc : Int) + off = (t : Int)) (hq : pc + 3 = q) (kt : 0 < x → KRun G J N Post t L st cl sl w) (kf : ¬ (0 < x) → KRun G J N Post q L st cl sl w) : KRun G J N Post pc L (.int x :: st) cl sl w := by
  subst hq
  intro p l e s m args below meth c H locs ls hC hP hL
  refine lv_if_gt hC.1 hC.2.1 hd ht (fun a => kt a p l e s m args below meth c H locs ls hC hP hL) (fun a => kf ?_ p l e s m args below meth c H locs ls hC hP hL)
  first | exact a | exact fun z => z a
theorem k_if_le {x : Int32} {off : Int} (t q : Nat) (hd : decode J.2.1 pc = .ok (.ifCond .le off, 3)) (ht : (pc : Int) + off = (t : Int)) (hq : pc + 3 = q) (kt : x ≤ 0 → KRun G J N Post t L st cl sl w) (kf : ¬ (x ≤ 0) → KRun G J N Post q L st cl sl w) : KRun G J N Post pc L (.int x :: st) cl sl w := by
  subst hq
  intro p l e s m args below meth c H locs ls hC hP hL
  refine lv_if_le hC.1 hC.2.1 hd ht (fun a => kt a p l e s m args below meth c H locs ls hC hP hL) (fun a => kf ?_ p l e s m args below meth c H locs ls hC hP hL)
  first | exact a | exact fun z => z a
theorem k_icmp_eq {x y : Int32} {off : Int} (t q : Nat) (hd : decode J.2.1 pc = .ok (.if_icmp .eq off, 3)) (ht : (pc : Int) + off = (t : Int)) (hq : pc + 3 = q) (kt : x = y → KRun G J N Post t L st cl sl w) (kf : ¬ (x = y) → KRun G J N Post q L st cl sl w) : KRun G J N Post pc L (.int y :: .int x :: st) cl sl w := by
  subst hq
  intro p l e s m args below meth c H locs ls hC hP hL
  refine lv_icmp_eq hC.1 hC.2.1 hd ht (fun a => kt a p l e s m args below meth c H locs ls hC hP hL) (fun a => kf ?_ p l e s m args below meth c H locs ls hC hP hL)
  first | exact a | exact fun z => z a
theorem k_icmp_ne {x y : Int32} {off : Int} (t q : Nat) (hd : decode J.2.1 pc = .ok (.if_icmp .ne off, 3)) (ht : (pc : Int) + off = (t : Int)) (hq : pc + 3 = q) (kt : ¬ x = y → KRun G J N Post t L st cl sl w) (kf : ¬ (¬ x = y) → KRun G J N Post q L st cl sl w) : KRun G J N Post pc L (.int y :: .int x :: st) cl sl w := by
  subst hq
  intro p l e s m args below meth c H locs ls hC hP hL
  refine lv_icmp_ne hC.1 hC.2.1 hd ht (fun a => kt a p l e s m args below meth c H locs ls hC hP hL) (fun a => kf ?_ p l e s m args below meth c H locs ls hC hP hL)
  first | exact a | exact fun z => z a
theorem k_icmp_lt {x y : Int32} {off : Int} (t q : Nat) (hd : decode J.2.1 pc = .ok (.if_icmp .lt off, 3)) (ht : (pc : Int) + off = (t : Int)) (hq : pc + 3 = q) (kt : x < y → KRun G J N Post t L st cl sl w) (kf : ¬ (x < y) → KRun G J N Post q L st cl sl w) : KRun G J N Post pc L (.int y :: .int x :: st) cl sl w := by
  subst hq
  intro p l e s m args below meth c H locs ls hC hP hL
  refine lv_icmp_lt hC.1 hC.2.1 hd ht (fun a => kt a p l e s m args below meth c H locs ls hC hP hL) (fun a => kf ?_ p l e s m args below meth c H locs ls hC hP hL)
  first | exact a | exact fun z => z a
theorem k_icmp_ge {x y : Int32} {off : Int} (t q : Nat) (hd : decode J.2.1 pc = .ok (.if_icmp .ge off, 3)) (ht : (pc : Int) + off = (t : Int)) (hq : pc + 3 = q) (kt : y ≤ x → KRun G J N Post t L st cl sl w) (kf : ¬ (y ≤ x) → KRun G J N Post q L st cl sl w) : KRun G J N Post pc L (.int y :: .int x :: st) cl sl w := by
  subst hq
  intro p l e s m args below meth c H locs ls hC hP hL
  refine lv_icmp_ge hC.1 hC.2.1 hd ht (fun a => kt a p l e s m args below meth c H locs ls hC hP hL) (fun a => kf ?_ p l e s m args below meth c H locs ls hC hP hL)
  first | exact a | exact fun z => z a
theorem k_icmp_gt {x y : Int32} {off : Int} (t q : Nat) (hd : decode J.2.1 pc = .ok (.if_icmp .gt off, 3)) (ht : (pc : Int) + off = (t : Int)) (hq : pc + 3 = q) (kt : y < x → KRun G J N Post t L st cl sl w) (kf : ¬ (y < x) → KRun G J N Post q L st cl sl w) : KRun G J N Post pc L (.int y :: .int x :: st) cl sl w := by
  subst hq
  intro p l e s m args below meth c H locs ls hC hP hL
  refine lv_icmp_gt hC.1 hC.2.1 hd ht (fun a => kt a p l e s m args below meth c H locs ls hC hP hL) (fun a => kf ?_ p l e s m args below meth c H locs ls hC hP hL)
  first | exact a | exact fun z => z a
theorem k_icmp_le {x y : Int32} {off : Int} (t q : Nat) (hd : decode J.2.1 pc = .ok (.if_icmp .le off, 3)) (ht : (pc : Int) + off = (t : Int)) (hq : pc + 3 = q) (kt : x ≤ y → KRun G J N Post t L st cl sl w) (kf : ¬ (x ≤ y) → KRun G J N Post q L st cl sl w) : KRun G J N Post pc L (.int y :: .int x :: st) cl sl w := by
  subst hq
  intro p l e s m args below meth c H locs ls hC hP hL
  refine lv_icmp_le hC.1 hC.2.1 hd ht (fun a => kt a p l e s m args below meth c H locs ls hC hP hL) (fun a => kf ?_ p l e s m args below meth c H locs ls hC hP hL)
  first | exact a | exact fun z => z a
theorem k_goto {off : Int} (t : Nat) (hd : decode J.2.1 pc = .ok (.goto off, 3)) (ht : (pc : Int) + off = (t : Int)) (h : KRun G J N Post t L st cl sl w) : KRun G J N Post pc L st cl sl w := by
  intro p l e s m args below meth c H locs ls hC hP hL
  exact lv_goto hC.1 hC.2.1 hd ht (h p l e s m args below meth c H locs ls hC hP hL)
theorem k_ifnull {x : Nat} {off : Int} (q : Nat) (hd : decode J.2.1 pc = .ok (.ifnull off, 3)) (hq : pc + 3 = q) (h : KRun G J N Post q L st cl sl w) : KRun G J N Post pc L (.ref x :: st) cl sl w := by
  subst hq
  intro p l e s m args below meth c H locs ls hC hP hL
  exact lv_ifnull hC.1 hC.2.1 hd (h p l e s m args below meth c H locs ls hC hP hL)
theorem k_ifnullN {off : Int} (t : Nat) (hd : decode J.2.1 pc = .ok (.ifnull off, 3)) (ht : (pc : Int) + off = (t : Int)) (h : KRun G J N Post t L st cl sl w) : KRun G J N Post pc L (.null :: st) cl sl w := by
  intro p l e s m args below meth c H locs ls hC hP hL
  exact lv_ifnullN hC.1 hC.2.1 hd ht (h p l e s m args below meth c H locs ls hC hP hL)
theorem k_tableOut {dflt lo hi : Int} {offs : Array Int} {len : Nat} {x : Int32} (t : Nat) (hd : decode J.2.1 pc = .ok (.tableswitch dflt lo hi offs, len)) (hx : x.toInt < lo ∨ hi < x.toInt) (ht : (pc : Int) + dflt = (t : Int)) (h : KRun G J N Post t L st cl sl w) : KRun G J N Post pc L (.int x :: st) cl sl w := by
  intro p l e s m args below meth c H locs ls hC hP hL
  exact lv_tableOut hC.1 hC.2.1 hd hx ht (h p l e s m args below meth c H locs ls hC hP hL)
theorem k_tableIn {dflt lo hi : Int} {offs : Array Int} {len : Nat} {x : Int32} {off : Int} (t : Nat) (hd : decode J.2.1 pc = .ok (.tableswitch dflt lo hi offs, len)) (h1 : ¬ x.toInt < lo) (h2 : ¬ hi < x.toInt) (ho : offs[(x.toInt - lo).toNat]? = some off) (ht : (pc : Int) + off = (t : Int)) (h : KRun G J N Post t L st cl sl w) : KRun G J N Post pc L (.int x :: st) cl sl w := by
  intro p l e s m args below meth c H locs ls hC hP hL
  exact lv_tableIn hC.1 hC.2.1 hd h1 h2 ho ht (h p l e s m args below meth c H locs ls hC hP hL)
theorem k_lookup {dflt : Int} {ps : Array (Int × Int)} {len : Nat} {x : Int32} {off : Int} (t : Nat) (hd : decode J.2.1 pc = .ok (.lookupswitch dflt ps, len)) (hp : (ps.toList.zip (ps.toList.drop 1)).all (fun (a, next) => a.1 < next.1) = true) (ho : Op.lookupswitch.offset ps.toList dflt x.toInt = off) (ht : (pc : Int) + off = (t : Int)) (h : KRun G J N Post t L st cl sl w) : KRun G J N Post pc L (.int x :: st) cl sl w := by
  intro p l e s m args below meth c H locs ls hC hP hL
  exact lv_lookup hC.1 hC.2.1 hd hp ho ht (h p l e s m args below meth c H locs ls hC hP hL)
/-- another name for what lies on top -/
theorem k_top {x y : Int32} (y : Int32) (e : x = y) (h : KRun G J N Post pc L (.int y :: st) cl sl w) : KRun G J N Post pc L (.int x :: st) cl sl w := e ▸ h
theorem k_wd {w1 : WD} (e : w = w1) (h : KRun G J N Post pc L st cl sl w1) : KRun G J N Post pc L st cl sl w := e ▸ h
/-! fields -/
def KF (J : KJ) (idx ci k : Nat) : Prop := ∃ (C : String) (T : u_T) (Nf : Nat), vwCl[ci]? = some (C, T, Nf) ∧ k < Nf ∧ (∀ w ∈ u_ws C T Nf, w ∈ J.2.2.1) ∧ Cond.fieldLink J.1.cls idx (T k).1 (T k).2.1 (T k).2.2.1 ∈ J.2.2.1
def KFp (J : KJ) (idx ci k : Nat) (ty : FieldType) : Prop := ∃ (C : String) (T : u_T) (Nf : Nat), vwCl[ci]? = some (C, T, Nf) ∧ k < Nf ∧ (∀ w ∈ u_ws C T Nf, w ∈ J.2.2.1) ∧ Cond.fieldLink J.1.cls idx (T k).1 (T k).2.1 (T k).2.2.1 ∈ J.2.2.1 ∧
  (∃ ty0 : Nat → FieldType, ∀ k, k < Nf → parseFieldDescriptor (T k).2.2.1 = some (ty0 k)) ∧ (∀ a, a < Nf → ∀ b, b < Nf → a ≠ b → (T a).2.1 ≠ (T b).2.1) ∧ parseFieldDescriptor (T k).2.2.1 = some ty ∧ ((T k).2.2.2 = false ∨ ((T k).2.2.2 = true ∧ J.1.name = "<init>" ∧ (T k).1 = J.1.cls))
theorem k_get {idx : Nat} (q : Nat) {a ci k : Nat} {fs : List Value} {v : Value} (hd : decode J.2.1 pc = .ok (.getfield idx, 3)) (hq : pc + 3 = q) (hF : KF J idx ci k) (ha : Is (N + cl) w a (ob ci fs)) (hv : fs[k]? = some v) (h : KRun G J N Post q L (v :: st) cl sl w) : KRun G J N Post pc L (.ref (ad G a) :: st) cl sl w := by
  subst hq
  obtain ⟨C, T, Nf, h1, h2, h3, h4⟩ := hF
  intro p l e s m args below meth c H locs ls hC hP hL
  exact va_get (D := G.1) (cl := vwCl) hC.1 hC.2.1 hC.2.2.2.2.2.1 h3 hC.2.2.2.2.1 hC.2.2.2.2.2.2.2.1 hP.1 a (wl_is ha) h1 k h2 (hC.2.2.2.2.2.1 _ h4) (fun _ hx => hx) hv hd (h p l e s m args below meth c H locs ls hC hP hL)
theorem k_put {idx : Nat} (q : Nat) {a ci k : Nat} {fs : List Value} {v : Value} {ty : FieldType} (hd : decode J.2.1 pc = .ok (.putfield idx, 3)) (hq : pc + 3 = q) (hF : KFp J idx ci k ty) (ha : Is (N + cl) w a (ob ci fs)) (hl : k < fs.length) (hn : narrow ty v = v) (hfit : fits ty v = true) (h : KRun G J N Post q L st cl sl (va_up w a (ob ci (fs.set k v)))) : KRun G J N Post pc L (v :: .ref (ad G a) :: st) cl sl w := by
  subst hq
  obtain ⟨C, T, Nf, h1, h2, h3, h4, ⟨ty0, h5⟩, h6, h7, h8⟩ := hF
  intro p l e s m args below meth c H locs ls hC hP hL
  have kk : ∀ (H1 : Heap) (locs1 : List Loc), va_P G.1 vwCl ((wl G (N + cl) w).set a (ad G a, .inr (ci, fs.set k v))) H1 → va_D (gA G) ((wl G (N + cl) w).set a (ad G a, .inr (ci, fs.set k v))) → va_S (gA G) s.heap H1 locs1 → W p l e J.2.2.2.2.2.1 s m args below meth c H1 locs1 cl sl (MQ below (KQC G (N + J.2.2.2.2.2.2.1) Post) args s J.2.2.2.2.2.2.1 J.2.2.2.2.2.2.2 (gA G)) (F0 m (pc + 3) ls st) := by
    intro H1 locs1 hP1 _ hS1
    rw [wl_set] at hP1
    exact h p l e s m args below meth c H1 locs1 ls hC ⟨hP1, hP.2.1, hS1⟩ hL
  rcases h8 with h8 | ⟨h8, h9, h10⟩
  · exact va_put (D := G.1) (cl := vwCl) hC.1 hC.2.1 hC.2.2.2.2.2.1 h3 ty0 h5 h6 hC.2.2.2.2.1 hC.2.2.2.2.2.2.2.1 hP.1 (wl_D hP.2.1) hP.2.2 a (wl_is ha) h1 k h2 (hC.2.2.2.2.2.1 _ h4) (fun _ hx => hx) h8 h7 hn hfit hl hd kk
  · exact va_putF (D := G.1) (cl := vwCl) hC.1 hC.2.1 hC.2.2.2.2.2.1 h3 ty0 h5 h6 hC.2.2.2.2.1 hC.2.2.2.2.2.2.2.1 hP.1 (wl_D hP.2.1) hP.2.2 a (wl_is ha) h1 k h2 (hC.2.2.2.2.2.1 _ h4) (fun _ hx => hx) h8 (hC.2.2.2.2.2.2.2.2.1.trans h9) h10 h7 hn hfit hl hd kk
/-! arrays -/
theorem k_iald (q : Nat) {a n : Nat} {f : Nat → Int32} {i : Int32} (hd : decode J.2.1 pc = .ok (.iaload, 1)) (hq : pc + 1 = q) (ha : Is (N + cl) w a (ia G n f)) (hin : vp_in i n) (h : KRun G J N Post q L (.int (f i.toNatClampNeg) :: st) cl sl w) : KRun G J N Post pc L (.int i :: .ref (ad G a) :: st) cl sl w := by
  subst hq
  intro p l e s m args below meth c H locs ls hC hP hL
  exact va_iald (D := G.1) (cl := vwCl) (tys := gT G) hC.1 hC.2.1 hC.2.2.2.2.2.2.2.1 hP.1 a 0 (wl_is ha) rfl hin hd (h p l e s m args below meth c H locs ls hC hP hL)
theorem k_ialdN (q : Nat) {a n : Nat} {f : Nat → Int32} {i : Nat} (hd : decode J.2.1 pc = .ok (.iaload, 1)) (hq : pc + 1 = q) (ha : Is (N + cl) w a (ia G n f)) (hin : i < n) (hn : n < 2 ^ 31) (h : KRun G J N Post q L (.int (f i) :: st) cl sl w) : KRun G J N Post pc L (.int (nI i) :: .ref (ad G a) :: st) cl sl w := by
  refine k_iald q hd hq ha (vp_in_nI hin hn) ?_
  rw [nI_clamp (by omega)]
  exact h
theorem k_iast (q : Nat) {a n : Nat} {f : Nat → Int32} {i x : Int32} (hd : decode J.2.1 pc = .ok (.iastore, 1)) (hq : pc + 1 = q) (ha : Is (N + cl) w a (ia G n f)) (hin : vp_in i n) (h : KRun G J N Post q L st cl sl (va_up w a (ia G n (upd f i.toNatClampNeg x)))) : KRun G J N Post pc L (.int x :: .int i :: .ref (ad G a) :: st) cl sl w := by
  subst hq
  intro p l e s m args below meth c H locs ls hC hP hL
  refine va_iast (D := G.1) (cl := vwCl) (tys := gT G) hC.1 hC.2.1 hC.2.2.2.2.2.2.2.1 hP.1 (wl_D hP.2.1) hP.2.2 a 0 (wl_is ha) rfl hin hd ?_
  intro H1 locs1 hP1 _ hS1
  rw [wl_set] at hP1
  exact h p l e s m args below meth c H1 locs1 ls hC ⟨hP1, hP.2.1, hS1⟩ hL
theorem k_iastN (q : Nat) {a n : Nat} {f : Nat → Int32} {i : Nat} {x : Int32} (hd : decode J.2.1 pc = .ok (.iastore, 1)) (hq : pc + 1 = q) (ha : Is (N + cl) w a (ia G n f)) (hin : i < n) (hn : n < 2 ^ 31) (h : KRun G J N Post q L st cl sl (va_up w a (ia G n (upd f i x)))) : KRun G J N Post pc L (.int x :: .int (nI i) :: .ref (ad G a) :: st) cl sl w := by
  refine k_iast q hd hq ha (vp_in_nI hin hn) ?_
  rw [nI_clamp (by omega)]
  exact h
theorem k_alen (q : Nat) {a n : Nat} {f : Nat → Int32} (hd : decode J.2.1 pc = .ok (.arraylength, 1)) (hq : pc + 1 = q) (ha : Is (N + cl) w a (ia G n f)) (h : KRun G J N Post q L (.int (nI n) :: st) cl sl w) : KRun G J N Post pc L (.ref (ad G a) :: st) cl sl w := by
  subst hq
  intro p l e s m args below meth c H locs ls hC hP hL
  exact va_alen (D := G.1) (cl := vwCl) (tys := gT G) hC.1 hC.2.1 hC.2.2.2.2.2.2.2.1 hP.1 a 0 (wl_is ha) rfl rfl hd (h p l e s m args below meth c H locs ls hC hP hL)
theorem k_alenR (q : Nat) {a n : Nat} {f : Nat → Option Nat} (hd : decode J.2.1 pc = .ok (.arraylength, 1)) (hq : pc + 1 = q) (ha : Is (N + cl) w a (ra G n f)) (h : KRun G J N Post q L (.int (nI n) :: st) cl sl w) : KRun G J N Post pc L (.ref (ad G a) :: st) cl sl w := by
  subst hq
  intro p l e s m args below meth c H locs ls hC hP hL
  exact va_alen (D := G.1) (cl := vwCl) (tys := gT G) hC.1 hC.2.1 hC.2.2.2.2.2.2.2.1 hP.1 a 1 (wl_is ha) rfl rfl hd (h p l e s m args below meth c H locs ls hC hP hL)
theorem k_aald (q : Nat) {a n : Nat} {f : Nat → Option Nat} {i : Nat} (hd : decode J.2.1 pc = .ok (.aaload, 1)) (hq : pc + 1 = q) (ha : Is (N + cl) w a (ra G n f)) (hin : i < n) (hn : n < 2 ^ 31) (h : KRun G J N Post q L (va_rf (f i) :: st) cl sl w) : KRun G J N Post pc L (.int (nI i) :: .ref (ad G a) :: st) cl sl w := by
  subst hq
  intro p l e s m args below meth c H locs ls hC hP hL
  refine va_aldq (D := G.1) (cl := vwCl) (tys := gT G) hC.1 hC.2.1 hC.2.2.2.2.2.2.2.1 hP.1 a 1 (wl_is ha) rfl (vp_in_nI hin hn) hd ?_
  rw [nI_clamp (by omega)]
  exact h p l e s m args below meth c H locs ls hC hP hL
theorem k_aast (q : Nat) {a n v : Nat} {vs : List Value} {f : Nat → Option Nat} {i : Nat} (hd : decode J.2.1 pc = .ok (.aastore, 1)) (hq : pc + 1 = q) (ha : Is (N + cl) w a (ra G n f)) (hv : Is (N + cl) w v (ob 3 vs)) (hin : i < n) (hn : n < 2 ^ 31) (h : KRun G J N Post q L st cl sl (va_up w a (ra G n (va_up f i (some (ad G v)))))) : KRun G J N Post pc L (.ref (ad G v) :: .int (nI i) :: .ref (ad G a) :: st) cl sl w := by
  subst hq
  intro p l e s m args below meth c H locs ls hC hP hL
  refine va_astq (D := G.1) (cl := vwCl) (tys := gT G) (ci := 3) hC.1 hC.2.1 hC.2.2.2.2.2.2.2.1 hP.1 (wl_D hP.2.1) hP.2.2 a 1 v (wl_is ha) (r := (RX4, TX4, 6)) rfl (wl_is hv) rfl (vp_in_nI hin hn) hd ?_
  intro H1 locs1 hP1 _ hS1
  rw [nI_clamp (by omega), wl_set] at hP1
  exact h p l e s m args below meth c H1 locs1 ls hC ⟨hP1, hP.2.1, hS1⟩ hL
/-! ends -/
theorem KPic.size {G : KG} {J : KJ} {N cl sl : Nat} {w : WD} {p : Program} {l : Launch} {e : Env} {s : State} {m : MethodId} {args : Array Value} {below : List Frame} {meth : Method} {c : Code} {H : Heap} {locs : List Loc} {T : State} (hC : KCtx G J N p s m args meth c) (hP : KPic G (N + cl) w s.heap H locs) (hT : T.heap = H) (X : Stand p l e J.2.2.2.2.2.1 s m args below meth c T locs cl sl) : gL G → H.size = ad G (N + cl) := by
  intro hg
  have h0 := hC.2.2.2.2.2.2.2.2.2.2.1 hg
  have h1 := X.heapSize
  rw [hT, h0] at h1
  have h2 : ad G (N + cl) ≤ H.size := by
    by_cases hz : N + cl = 0
    · have h3 := hP.2.2.1
      rw [h0] at h3
      simp only [ad] at h3 ⊢
      omega
    · have h3 := (hP.1 (N + cl - 1) _ (wl_get (by omega))).lt
      simp only [ad] at h3 ⊢
      omega
  simp only [ad] at h1 h2 ⊢
  omega
theorem KQC.mk {v : Option Value} {t : State} {s : State} {a : Array Value} {M : Nat} {H : Heap} {locs : List Loc} (hp : Post v w) (hP : KPic G M w s.heap H locs) (hs : gL G → H.size = ad G M) (ht : t.heap = H) : KQC G M Post a s (.returned v) t :=
  ⟨⟨v, w, rfl, hp, by rw [ht]; exact hP.1, hP.2.1, by rw [ht]; exact hs⟩, hP.2.2.F ht⟩
theorem k_iret {v : Int32} (hd : decode J.2.1 pc = .ok (.ireturn, 1)) (hr : J.2.2.2.2.1 = some .int) (hc : cl = J.2.2.2.2.2.2.1) (hs : sl ≤ J.2.2.2.2.2.2.2) (hp : Post (some (.int v)) w) : KRun G J N Post pc L [.int v] cl sl w := by
  intro p l e s m args below meth c H locs ls hC hP hL
  subst hc
  intro T hT X
  exact W.widen (Nat.le_refl _) hs (W.iret hC.1 hC.2.1 (hC.2.2.1.trans hr) (fun t ht _ => KQC.mk hp hP (hP.size hC hT X) ht) hP.2.2.2.2 hd hC.2.2.2.2.2.2.1) T hT X
theorem k_zret {v : Int32} (hd : decode J.2.1 pc = .ok (.ireturn, 1)) (hr : J.2.2.2.2.1 = some .boolean) (hv : narrow .boolean (.int v) = .int v) (hc : cl = J.2.2.2.2.2.2.1) (hs : sl ≤ J.2.2.2.2.2.2.2) (hp : Post (some (.int v)) w) : KRun G J N Post pc L [.int v] cl sl w := by
  intro p l e s m args below meth c H locs ls hC hP hL
  subst hc
  intro T hT X
  exact W.widen (Nat.le_refl _) hs (W.zret hC.1 hC.2.1 (hC.2.2.1.trans hr) hv (fun t ht _ => KQC.mk hp hP (hP.size hC hT X) ht) hP.2.2.2.2 hd hC.2.2.2.2.2.2.1) T hT X
theorem k_vret (hd : decode J.2.1 pc = .ok (.return_, 1)) (hr : J.2.2.2.2.1 = none) (hc : cl = J.2.2.2.2.2.2.1) (hs : sl ≤ J.2.2.2.2.2.2.2) (hp : Post none w) : KRun G J N Post pc L [] cl sl w := by
  intro p l e s m args below meth c H locs ls hC hP hL
  subst hc
  intro T hT X
  exact W.widen (Nat.le_refl _) hs (W.vret hC.1 hC.2.1 (hC.2.2.1.trans hr) (fun t ht _ => KQC.mk hp hP (hP.size hC hT X) ht) hP.2.2.2.2 hd hC.2.2.2.2.2.2.1) T hT X
theorem k_aret {v : Value} {nm : String} (hd : decode J.2.1 pc = .ok (.areturn, 1)) (hr : J.2.2.2.2.1 = some (.object nm)) (hv : v = .null ∨ ∃ a, v = .ref a) (hc : cl = J.2.2.2.2.2.2.1) (hs : sl ≤ J.2.2.2.2.2.2.2) (hp : Post (some v) w) : KRun G J N Post pc L [v] cl sl w := by
  intro p l e s m args below meth c H locs ls hC hP hL
  subst hc
  intro T hT X
  exact W.widen (Nat.le_refl _) hs (W.aret hC.1 hC.2.1 (hC.2.2.1.trans hr) (Or.inl ⟨_, rfl⟩) hv (fun t ht _ => KQC.mk hp hP (hP.size hC hT X) ht) hP.2.2.2.2 hd hC.2.2.2.2.2.2.1) T hT X
end KR
