/-! calls by how many arguments; the callee makes nothing (written by wip/tools/gen_calls.py) -/
section KCN
variable {G : KG} {J J' : KJ} {N : Nat} {Post P2 : Option Value → WD → Prop} {pc : Nat} {L : List (Option Value)} {rest : List Value} {cl sl : Nat} {w : WD}
theorem k_V0 {idx ci a : Nat} {fs : List Value} {r : vw_C} (q : Nat) (hd : decode J.2.1 pc = .ok (.invokevirtual idx, 3)) (hq : pc + 3 = q) (hV : KCV J idx J' 0) (ha : Is (N + cl) w a (ob ci fs)) (hci : vwCl[ci]? = some r) (hcl : r.1 = J'.1.cls) (hcat : (rest.map fun v => v.category).sum ≤ 8) (hz : J'.2.2.2.2.2.2 = (0, 0)) (hf : cl ≤ J.2.2.2.2.2.1.cells ∧ sl ≤ J.2.2.2.2.2.1.slots) (hM : KCon G J' (N + cl) w [.ref (ad G a)] P2) (h : ∀ (v : Option Value) (w1 : WD), P2 v w1 → KRun G J N Post q L (v.toList ++ rest) cl sl w1) : KRun G J N Post pc L (.ref (ad G a) :: rest) cl sl w := by
  have h1 : J'.2.2.2.2.2.2.1 = 0 := by rw [hz]
  have h2 : J'.2.2.2.2.2.2.2 = 0 := by rw [hz]
  refine k_callV q hd hq hV ha hci hcl (As := []) (rest := rest) rfl rfl hcat (by rw [h1, h2]; exact hf) hM (fun v w1 hp => ?_)
  rw [h1, h2]
  exact h v w1 hp
theorem k_S1 {idx : Nat} {x1 : Value} (q : Nat) (hd : decode J.2.1 pc = .ok (.invokestatic idx, 3)) (hq : pc + 3 = q) (hV : KCS J idx J' 1) (hcat : (rest.map fun v => v.category).sum ≤ 8) (hz : J'.2.2.2.2.2.2 = (0, 0)) (hf : cl ≤ J.2.2.2.2.2.1.cells ∧ sl ≤ J.2.2.2.2.2.1.slots) (hM : KCon G J' (N + cl) w [x1] P2) (h : ∀ (v : Option Value) (w1 : WD), P2 v w1 → KRun G J N Post q L (v.toList ++ rest) cl sl w1) : KRun G J N Post pc L (x1 :: rest) cl sl w := by
  have h1 : J'.2.2.2.2.2.2.1 = 0 := by rw [hz]
  have h2 : J'.2.2.2.2.2.2.2 = 0 := by rw [hz]
  refine k_callS q hd hq hV (As := [x1]) (rest := rest) rfl rfl hcat (by rw [h1, h2]; exact hf) hM (fun v w1 hp => ?_)
  rw [h1, h2]
  exact h v w1 hp
theorem k_V1 {idx ci a : Nat} {fs : List Value} {r : vw_C} {x1 : Value} (q : Nat) (hd : decode J.2.1 pc = .ok (.invokevirtual idx, 3)) (hq : pc + 3 = q) (hV : KCV J idx J' 1) (ha : Is (N + cl) w a (ob ci fs)) (hci : vwCl[ci]? = some r) (hcl : r.1 = J'.1.cls) (hcat : (rest.map fun v => v.category).sum ≤ 8) (hz : J'.2.2.2.2.2.2 = (0, 0)) (hf : cl ≤ J.2.2.2.2.2.1.cells ∧ sl ≤ J.2.2.2.2.2.1.slots) (hM : KCon G J' (N + cl) w [.ref (ad G a), x1] P2) (h : ∀ (v : Option Value) (w1 : WD), P2 v w1 → KRun G J N Post q L (v.toList ++ rest) cl sl w1) : KRun G J N Post pc L (x1 :: .ref (ad G a) :: rest) cl sl w := by
  have h1 : J'.2.2.2.2.2.2.1 = 0 := by rw [hz]
  have h2 : J'.2.2.2.2.2.2.2 = 0 := by rw [hz]
  refine k_callV q hd hq hV ha hci hcl (As := [x1]) (rest := rest) rfl rfl hcat (by rw [h1, h2]; exact hf) hM (fun v w1 hp => ?_)
  rw [h1, h2]
  exact h v w1 hp
theorem k_S2 {idx : Nat} {x1 x2 : Value} (q : Nat) (hd : decode J.2.1 pc = .ok (.invokestatic idx, 3)) (hq : pc + 3 = q) (hV : KCS J idx J' 2) (hcat : (rest.map fun v => v.category).sum ≤ 8) (hz : J'.2.2.2.2.2.2 = (0, 0)) (hf : cl ≤ J.2.2.2.2.2.1.cells ∧ sl ≤ J.2.2.2.2.2.1.slots) (hM : KCon G J' (N + cl) w [x1, x2] P2) (h : ∀ (v : Option Value) (w1 : WD), P2 v w1 → KRun G J N Post q L (v.toList ++ rest) cl sl w1) : KRun G J N Post pc L (x2 :: x1 :: rest) cl sl w := by
  have h1 : J'.2.2.2.2.2.2.1 = 0 := by rw [hz]
  have h2 : J'.2.2.2.2.2.2.2 = 0 := by rw [hz]
  refine k_callS q hd hq hV (As := [x1, x2]) (rest := rest) rfl rfl hcat (by rw [h1, h2]; exact hf) hM (fun v w1 hp => ?_)
  rw [h1, h2]
  exact h v w1 hp
theorem k_V2 {idx ci a : Nat} {fs : List Value} {r : vw_C} {x1 x2 : Value} (q : Nat) (hd : decode J.2.1 pc = .ok (.invokevirtual idx, 3)) (hq : pc + 3 = q) (hV : KCV J idx J' 2) (ha : Is (N + cl) w a (ob ci fs)) (hci : vwCl[ci]? = some r) (hcl : r.1 = J'.1.cls) (hcat : (rest.map fun v => v.category).sum ≤ 8) (hz : J'.2.2.2.2.2.2 = (0, 0)) (hf : cl ≤ J.2.2.2.2.2.1.cells ∧ sl ≤ J.2.2.2.2.2.1.slots) (hM : KCon G J' (N + cl) w [.ref (ad G a), x1, x2] P2) (h : ∀ (v : Option Value) (w1 : WD), P2 v w1 → KRun G J N Post q L (v.toList ++ rest) cl sl w1) : KRun G J N Post pc L (x2 :: x1 :: .ref (ad G a) :: rest) cl sl w := by
  have h1 : J'.2.2.2.2.2.2.1 = 0 := by rw [hz]
  have h2 : J'.2.2.2.2.2.2.2 = 0 := by rw [hz]
  refine k_callV q hd hq hV ha hci hcl (As := [x1, x2]) (rest := rest) rfl rfl hcat (by rw [h1, h2]; exact hf) hM (fun v w1 hp => ?_)
  rw [h1, h2]
  exact h v w1 hp
theorem k_S3 {idx : Nat} {x1 x2 x3 : Value} (q : Nat) (hd : decode J.2.1 pc = .ok (.invokestatic idx, 3)) (hq : pc + 3 = q) (hV : KCS J idx J' 3) (hcat : (rest.map fun v => v.category).sum ≤ 8) (hz : J'.2.2.2.2.2.2 = (0, 0)) (hf : cl ≤ J.2.2.2.2.2.1.cells ∧ sl ≤ J.2.2.2.2.2.1.slots) (hM : KCon G J' (N + cl) w [x1, x2, x3] P2) (h : ∀ (v : Option Value) (w1 : WD), P2 v w1 → KRun G J N Post q L (v.toList ++ rest) cl sl w1) : KRun G J N Post pc L (x3 :: x2 :: x1 :: rest) cl sl w := by
  have h1 : J'.2.2.2.2.2.2.1 = 0 := by rw [hz]
  have h2 : J'.2.2.2.2.2.2.2 = 0 := by rw [hz]
  refine k_callS q hd hq hV (As := [x1, x2, x3]) (rest := rest) rfl rfl hcat (by rw [h1, h2]; exact hf) hM (fun v w1 hp => ?_)
  rw [h1, h2]
  exact h v w1 hp
theorem k_V3 {idx ci a : Nat} {fs : List Value} {r : vw_C} {x1 x2 x3 : Value} (q : Nat) (hd : decode J.2.1 pc = .ok (.invokevirtual idx, 3)) (hq : pc + 3 = q) (hV : KCV J idx J' 3) (ha : Is (N + cl) w a (ob ci fs)) (hci : vwCl[ci]? = some r) (hcl : r.1 = J'.1.cls) (hcat : (rest.map fun v => v.category).sum ≤ 8) (hz : J'.2.2.2.2.2.2 = (0, 0)) (hf : cl ≤ J.2.2.2.2.2.1.cells ∧ sl ≤ J.2.2.2.2.2.1.slots) (hM : KCon G J' (N + cl) w [.ref (ad G a), x1, x2, x3] P2) (h : ∀ (v : Option Value) (w1 : WD), P2 v w1 → KRun G J N Post q L (v.toList ++ rest) cl sl w1) : KRun G J N Post pc L (x3 :: x2 :: x1 :: .ref (ad G a) :: rest) cl sl w := by
  have h1 : J'.2.2.2.2.2.2.1 = 0 := by rw [hz]
  have h2 : J'.2.2.2.2.2.2.2 = 0 := by rw [hz]
  refine k_callV q hd hq hV ha hci hcl (As := [x1, x2, x3]) (rest := rest) rfl rfl hcat (by rw [h1, h2]; exact hf) hM (fun v w1 hp => ?_)
  rw [h1, h2]
  exact h v w1 hp
theorem k_S4 {idx : Nat} {x1 x2 x3 x4 : Value} (q : Nat) (hd : decode J.2.1 pc = .ok (.invokestatic idx, 3)) (hq : pc + 3 = q) (hV : KCS J idx J' 4) (hcat : (rest.map fun v => v.category).sum ≤ 8) (hz : J'.2.2.2.2.2.2 = (0, 0)) (hf : cl ≤ J.2.2.2.2.2.1.cells ∧ sl ≤ J.2.2.2.2.2.1.slots) (hM : KCon G J' (N + cl) w [x1, x2, x3, x4] P2) (h : ∀ (v : Option Value) (w1 : WD), P2 v w1 → KRun G J N Post q L (v.toList ++ rest) cl sl w1) : KRun G J N Post pc L (x4 :: x3 :: x2 :: x1 :: rest) cl sl w := by
  have h1 : J'.2.2.2.2.2.2.1 = 0 := by rw [hz]
  have h2 : J'.2.2.2.2.2.2.2 = 0 := by rw [hz]
  refine k_callS q hd hq hV (As := [x1, x2, x3, x4]) (rest := rest) rfl rfl hcat (by rw [h1, h2]; exact hf) hM (fun v w1 hp => ?_)
  rw [h1, h2]
  exact h v w1 hp
theorem k_V4 {idx ci a : Nat} {fs : List Value} {r : vw_C} {x1 x2 x3 x4 : Value} (q : Nat) (hd : decode J.2.1 pc = .ok (.invokevirtual idx, 3)) (hq : pc + 3 = q) (hV : KCV J idx J' 4) (ha : Is (N + cl) w a (ob ci fs)) (hci : vwCl[ci]? = some r) (hcl : r.1 = J'.1.cls) (hcat : (rest.map fun v => v.category).sum ≤ 8) (hz : J'.2.2.2.2.2.2 = (0, 0)) (hf : cl ≤ J.2.2.2.2.2.1.cells ∧ sl ≤ J.2.2.2.2.2.1.slots) (hM : KCon G J' (N + cl) w [.ref (ad G a), x1, x2, x3, x4] P2) (h : ∀ (v : Option Value) (w1 : WD), P2 v w1 → KRun G J N Post q L (v.toList ++ rest) cl sl w1) : KRun G J N Post pc L (x4 :: x3 :: x2 :: x1 :: .ref (ad G a) :: rest) cl sl w := by
  have h1 : J'.2.2.2.2.2.2.1 = 0 := by rw [hz]
  have h2 : J'.2.2.2.2.2.2.2 = 0 := by rw [hz]
  refine k_callV q hd hq hV ha hci hcl (As := [x1, x2, x3, x4]) (rest := rest) rfl rfl hcat (by rw [h1, h2]; exact hf) hM (fun v w1 hp => ?_)
  rw [h1, h2]
  exact h v w1 hp
theorem k_S5 {idx : Nat} {x1 x2 x3 x4 x5 : Value} (q : Nat) (hd : decode J.2.1 pc = .ok (.invokestatic idx, 3)) (hq : pc + 3 = q) (hV : KCS J idx J' 5) (hcat : (rest.map fun v => v.category).sum ≤ 8) (hz : J'.2.2.2.2.2.2 = (0, 0)) (hf : cl ≤ J.2.2.2.2.2.1.cells ∧ sl ≤ J.2.2.2.2.2.1.slots) (hM : KCon G J' (N + cl) w [x1, x2, x3, x4, x5] P2) (h : ∀ (v : Option Value) (w1 : WD), P2 v w1 → KRun G J N Post q L (v.toList ++ rest) cl sl w1) : KRun G J N Post pc L (x5 :: x4 :: x3 :: x2 :: x1 :: rest) cl sl w := by
  have h1 : J'.2.2.2.2.2.2.1 = 0 := by rw [hz]
  have h2 : J'.2.2.2.2.2.2.2 = 0 := by rw [hz]
  refine k_callS q hd hq hV (As := [x1, x2, x3, x4, x5]) (rest := rest) rfl rfl hcat (by rw [h1, h2]; exact hf) hM (fun v w1 hp => ?_)
  rw [h1, h2]
  exact h v w1 hp
theorem k_V5 {idx ci a : Nat} {fs : List Value} {r : vw_C} {x1 x2 x3 x4 x5 : Value} (q : Nat) (hd : decode J.2.1 pc = .ok (.invokevirtual idx, 3)) (hq : pc + 3 = q) (hV : KCV J idx J' 5) (ha : Is (N + cl) w a (ob ci fs)) (hci : vwCl[ci]? = some r) (hcl : r.1 = J'.1.cls) (hcat : (rest.map fun v => v.category).sum ≤ 8) (hz : J'.2.2.2.2.2.2 = (0, 0)) (hf : cl ≤ J.2.2.2.2.2.1.cells ∧ sl ≤ J.2.2.2.2.2.1.slots) (hM : KCon G J' (N + cl) w [.ref (ad G a), x1, x2, x3, x4, x5] P2) (h : ∀ (v : Option Value) (w1 : WD), P2 v w1 → KRun G J N Post q L (v.toList ++ rest) cl sl w1) : KRun G J N Post pc L (x5 :: x4 :: x3 :: x2 :: x1 :: .ref (ad G a) :: rest) cl sl w := by
  have h1 : J'.2.2.2.2.2.2.1 = 0 := by rw [hz]
  have h2 : J'.2.2.2.2.2.2.2 = 0 := by rw [hz]
  refine k_callV q hd hq hV ha hci hcl (As := [x1, x2, x3, x4, x5]) (rest := rest) rfl rfl hcat (by rw [h1, h2]; exact hf) hM (fun v w1 hp => ?_)
  rw [h1, h2]
  exact h v w1 hp
end KCN
/-! numbers -/
theorem kc_0 : Int32.ofInt 0 = nI 0 := by decide +kernel
theorem kc_1 : Int32.ofInt 1 = nI 1 := by decide +kernel
theorem kc_2 : Int32.ofInt 2 = nI 2 := by decide +kernel
theorem kc_3 : Int32.ofInt 3 = nI 3 := by decide +kernel
theorem kc_4 : Int32.ofInt 4 = nI 4 := by decide +kernel
theorem kc_5 : Int32.ofInt 5 = nI 5 := by decide +kernel
theorem kc_6 : Int32.ofInt 6 = nI 6 := by decide +kernel
theorem kc_7 : Int32.ofInt 7 = nI 7 := by decide +kernel
theorem kc_8 : Int32.ofInt 8 = nI 8 := by decide +kernel
theorem kc_9 : Int32.ofInt 9 = nI 9 := by decide +kernel
theorem kc_10 : Int32.ofInt 10 = nI 10 := by decide +kernel
theorem kc_11 : Int32.ofInt 11 = nI 11 := by decide +kernel
theorem kc_12 : Int32.ofInt 12 = nI 12 := by decide +kernel
theorem kc_13 : Int32.ofInt 13 = nI 13 := by decide +kernel
theorem kc_14 : Int32.ofInt 14 = nI 14 := by decide +kernel
theorem kc_15 : Int32.ofInt 15 = nI 15 := by decide +kernel
theorem kc_16 : Int32.ofInt 16 = nI 16 := by decide +kernel
theorem kc_17 : Int32.ofInt 17 = nI 17 := by decide +kernel
theorem kc_18 : Int32.ofInt 18 = nI 18 := by decide +kernel
theorem kc_19 : Int32.ofInt 19 = nI 19 := by decide +kernel
theorem kc_20 : Int32.ofInt 20 = nI 20 := by decide +kernel
theorem kc_21 : Int32.ofInt 21 = nI 21 := by decide +kernel
theorem kc_22 : Int32.ofInt 22 = nI 22 := by decide +kernel
theorem kc_23 : Int32.ofInt 23 = nI 23 := by decide +kernel
theorem kc_24 : Int32.ofInt 24 = nI 24 := by decide +kernel
theorem kc_25 : Int32.ofInt 25 = nI 25 := by decide +kernel
theorem kc_26 : Int32.ofInt 26 = nI 26 := by decide +kernel
theorem kc_27 : Int32.ofInt 27 = nI 27 := by decide +kernel
theorem kc_28 : Int32.ofInt 28 = nI 28 := by decide +kernel
theorem kc_29 : Int32.ofInt 29 = nI 29 := by decide +kernel
theorem kc_30 : Int32.ofInt 30 = nI 30 := by decide +kernel
theorem kc_31 : Int32.ofInt 31 = nI 31 := by decide +kernel
theorem kc_32 : Int32.ofInt 32 = nI 32 := by decide +kernel
theorem kc_36 : Int32.ofInt 36 = nI 36 := by decide +kernel
theorem kc_40 : Int32.ofInt 40 = nI 40 := by decide +kernel
theorem kc_48 : Int32.ofInt 48 = nI 48 := by decide +kernel
theorem kc_49 : Int32.ofInt 49 = nI 49 := by decide +kernel
theorem kc_50 : Int32.ofInt 50 = nI 50 := by decide +kernel
theorem kc_52 : Int32.ofInt 52 = nI 52 := by decide +kernel
theorem kc_57 : Int32.ofInt 57 = nI 57 := by decide +kernel
theorem kc_58 : Int32.ofInt 58 = nI 58 := by decide +kernel
theorem kc_60 : Int32.ofInt 60 = nI 60 := by decide +kernel
theorem kc_65 : Int32.ofInt 65 = nI 65 := by decide +kernel
theorem kc_71 : Int32.ofInt 71 = nI 71 := by decide +kernel
theorem kc_72 : Int32.ofInt 72 = nI 72 := by decide +kernel
theorem kc_99 : Int32.ofInt 99 = nI 99 := by decide +kernel
theorem kc_100 : Int32.ofInt 100 = nI 100 := by decide +kernel
theorem kc_112 : Int32.ofInt 112 = nI 112 := by decide +kernel
theorem kc_115 : Int32.ofInt 115 = nI 115 := by decide +kernel
theorem kc_126 : Int32.ofInt 126 = nI 126 := by decide +kernel
theorem kc_127 : Int32.ofInt 127 = nI 127 := by decide +kernel
theorem kc_128 : Int32.ofInt 128 = nI 128 := by decide +kernel
theorem kc_144 : Int32.ofInt 144 = nI 144 := by decide +kernel
theorem kc_200 : Int32.ofInt 200 = nI 200 := by decide +kernel
theorem kc_576 : Int32.ofInt 576 = nI 576 := by decide +kernel
theorem kc_999 : Int32.ofInt 999 = nI 999 := by decide +kernel
theorem kc_9999 : Int32.ofInt 9999 = nI 9999 := by decide +kernel
theorem kc_1000 : Int32.ofInt 1000 = nI 1000 := by decide +kernel
theorem kc_5040 : Int32.ofInt 5040 = nI 5040 := by decide +kernel
theorem kc_200000 : Int32.ofInt 200000 = nI 200000 := by decide +kernel
theorem kc_400000 : Int32.ofInt 400000 = nI 400000 := by decide +kernel
theorem km_1 : Int32.ofInt (-1) = -1 := by decide +kernel
theorem km_2 : Int32.ofInt (-2) = -2 := by decide +kernel
theorem km_3 : Int32.ofInt (-3) = -3 := by decide +kernel
theorem km_4 : Int32.ofInt (-4) = -4 := by decide +kernel
theorem kb_0 : (Int8.ofInt 0).toInt32 = nI 0 := by decide +kernel
theorem kb_1 : (Int8.ofInt 1).toInt32 = nI 1 := by decide +kernel
theorem kb_2 : (Int8.ofInt 2).toInt32 = nI 2 := by decide +kernel
theorem kb_3 : (Int8.ofInt 3).toInt32 = nI 3 := by decide +kernel
theorem kb_4 : (Int8.ofInt 4).toInt32 = nI 4 := by decide +kernel
theorem kb_5 : (Int8.ofInt 5).toInt32 = nI 5 := by decide +kernel
theorem kb_6 : (Int8.ofInt 6).toInt32 = nI 6 := by decide +kernel
theorem kb_7 : (Int8.ofInt 7).toInt32 = nI 7 := by decide +kernel
theorem kb_8 : (Int8.ofInt 8).toInt32 = nI 8 := by decide +kernel
theorem kb_9 : (Int8.ofInt 9).toInt32 = nI 9 := by decide +kernel
theorem kb_10 : (Int8.ofInt 10).toInt32 = nI 10 := by decide +kernel
theorem kb_11 : (Int8.ofInt 11).toInt32 = nI 11 := by decide +kernel
theorem kb_12 : (Int8.ofInt 12).toInt32 = nI 12 := by decide +kernel
theorem kb_13 : (Int8.ofInt 13).toInt32 = nI 13 := by decide +kernel
theorem kb_14 : (Int8.ofInt 14).toInt32 = nI 14 := by decide +kernel
theorem kb_15 : (Int8.ofInt 15).toInt32 = nI 15 := by decide +kernel
theorem kb_16 : (Int8.ofInt 16).toInt32 = nI 16 := by decide +kernel
theorem kb_17 : (Int8.ofInt 17).toInt32 = nI 17 := by decide +kernel
theorem kb_18 : (Int8.ofInt 18).toInt32 = nI 18 := by decide +kernel
theorem kb_19 : (Int8.ofInt 19).toInt32 = nI 19 := by decide +kernel
theorem kb_20 : (Int8.ofInt 20).toInt32 = nI 20 := by decide +kernel
theorem kb_21 : (Int8.ofInt 21).toInt32 = nI 21 := by decide +kernel
theorem kb_22 : (Int8.ofInt 22).toInt32 = nI 22 := by decide +kernel
theorem kb_23 : (Int8.ofInt 23).toInt32 = nI 23 := by decide +kernel
theorem kb_24 : (Int8.ofInt 24).toInt32 = nI 24 := by decide +kernel
theorem kb_25 : (Int8.ofInt 25).toInt32 = nI 25 := by decide +kernel
theorem kb_26 : (Int8.ofInt 26).toInt32 = nI 26 := by decide +kernel
theorem kb_27 : (Int8.ofInt 27).toInt32 = nI 27 := by decide +kernel
theorem kb_28 : (Int8.ofInt 28).toInt32 = nI 28 := by decide +kernel
theorem kb_29 : (Int8.ofInt 29).toInt32 = nI 29 := by decide +kernel
theorem kb_30 : (Int8.ofInt 30).toInt32 = nI 30 := by decide +kernel
theorem kb_31 : (Int8.ofInt 31).toInt32 = nI 31 := by decide +kernel
theorem kb_32 : (Int8.ofInt 32).toInt32 = nI 32 := by decide +kernel
theorem kb_36 : (Int8.ofInt 36).toInt32 = nI 36 := by decide +kernel
theorem kb_40 : (Int8.ofInt 40).toInt32 = nI 40 := by decide +kernel
theorem kb_48 : (Int8.ofInt 48).toInt32 = nI 48 := by decide +kernel
theorem kb_49 : (Int8.ofInt 49).toInt32 = nI 49 := by decide +kernel
theorem kb_50 : (Int8.ofInt 50).toInt32 = nI 50 := by decide +kernel
theorem kb_52 : (Int8.ofInt 52).toInt32 = nI 52 := by decide +kernel
theorem kb_57 : (Int8.ofInt 57).toInt32 = nI 57 := by decide +kernel
theorem kb_58 : (Int8.ofInt 58).toInt32 = nI 58 := by decide +kernel
theorem kb_59 : (Int8.ofInt 59).toInt32 = nI 59 := by decide +kernel
theorem kb_44 : (Int8.ofInt 44).toInt32 = nI 44 := by decide +kernel
theorem kb_60 : (Int8.ofInt 60).toInt32 = nI 60 := by decide +kernel
theorem kb_64 : (Int8.ofInt 64).toInt32 = nI 64 := by decide +kernel
theorem kb_65 : (Int8.ofInt 65).toInt32 = nI 65 := by decide +kernel
theorem kb_71 : (Int8.ofInt 71).toInt32 = nI 71 := by decide +kernel
theorem kb_72 : (Int8.ofInt 72).toInt32 = nI 72 := by decide +kernel
theorem kb_99 : (Int8.ofInt 99).toInt32 = nI 99 := by decide +kernel
theorem kb_100 : (Int8.ofInt 100).toInt32 = nI 100 := by decide +kernel
theorem kb_112 : (Int8.ofInt 112).toInt32 = nI 112 := by decide +kernel
theorem kb_115 : (Int8.ofInt 115).toInt32 = nI 115 := by decide +kernel
theorem kb_126 : (Int8.ofInt 126).toInt32 = nI 126 := by decide +kernel
theorem kb_127 : (Int8.ofInt 127).toInt32 = nI 127 := by decide +kernel
theorem kbm_1 : (Int8.ofInt (-1)).toInt32 = -1 := by decide +kernel
theorem kbm_2 : (Int8.ofInt (-2)).toInt32 = -2 := by decide +kernel
theorem kbm_3 : (Int8.ofInt (-3)).toInt32 = -3 := by decide +kernel
theorem kbm_4 : (Int8.ofInt (-4)).toInt32 = -4 := by decide +kernel
theorem ks_128 : (Int16.ofInt 128).toInt32 = nI 128 := by decide +kernel
theorem ks_144 : (Int16.ofInt 144).toInt32 = nI 144 := by decide +kernel
theorem ks_200 : (Int16.ofInt 200).toInt32 = nI 200 := by decide +kernel
theorem ks_576 : (Int16.ofInt 576).toInt32 = nI 576 := by decide +kernel
theorem ks_999 : (Int16.ofInt 999).toInt32 = nI 999 := by decide +kernel
theorem ks_9999 : (Int16.ofInt 9999).toInt32 = nI 9999 := by decide +kernel
theorem ks_1000 : (Int16.ofInt 1000).toInt32 = nI 1000 := by decide +kernel
theorem ks_5040 : (Int16.ofInt 5040).toInt32 = nI 5040 := by decide +kernel
theorem ks_504 : (Int16.ofInt 504).toInt32 = nI 504 := by decide +kernel
theorem kl_200000 : (200000 : Int32) = nI 200000 := by decide +kernel
theorem kl_400000 : (400000 : Int32) = nI 400000 := by decide +kernel
theorem kl_65521 : (65521 : Int32) = nI 65521 := by decide +kernel
theorem nI_inc (k : Nat) : nI k + Int32.ofInt 1 = nI (k + 1) := by rw [kc_1]; exact nI_add k 1
theorem nI_dec (k : Nat) : nI (k + 1) + Int32.ofInt (-1) = nI k := pk_m1 k
section KIN
variable {G : KG} {J : KJ} {N : Nat} {Post : Option Value → WD → Prop} {pc : Nat} {L : List (Option Value)} {st : List Value} {cl sl : Nat} {w : WD}
theorem k_icmp_eqN {a b : Nat} {off : Int} (t q : Nat) (hd : decode J.2.1 pc = .ok (.if_icmp .eq off, 3)) (ht : (pc : Int) + off = (t : Int)) (hq : pc + 3 = q) (ha : a < 2 ^ 31) (hb : b < 2 ^ 31) (kt : a = b → KRun G J N Post t L st cl sl w) (kf : a ≠ b → KRun G J N Post q L st cl sl w) : KRun G J N Post pc L (.int (nI b) :: .int (nI a) :: st) cl sl w :=
  k_icmp_eq t q hd ht hq (fun c => kt ((nI_eq ha hb).mp c)) (fun c => kf (fun e => c ((nI_eq ha hb).mpr e)))
theorem k_icmp_neN {a b : Nat} {off : Int} (t q : Nat) (hd : decode J.2.1 pc = .ok (.if_icmp .ne off, 3)) (ht : (pc : Int) + off = (t : Int)) (hq : pc + 3 = q) (ha : a < 2 ^ 31) (hb : b < 2 ^ 31) (kt : a ≠ b → KRun G J N Post t L st cl sl w) (kf : a = b → KRun G J N Post q L st cl sl w) : KRun G J N Post pc L (.int (nI b) :: .int (nI a) :: st) cl sl w :=
  k_icmp_ne t q hd ht hq (fun c => kt (fun e => c ((nI_eq ha hb).mpr e))) (fun c => kf (Classical.byContradiction fun e => c fun x => e ((nI_eq ha hb).mp x)))
theorem k_icmp_ltN {a b : Nat} {off : Int} (t q : Nat) (hd : decode J.2.1 pc = .ok (.if_icmp .lt off, 3)) (ht : (pc : Int) + off = (t : Int)) (hq : pc + 3 = q) (ha : a < 2 ^ 31) (hb : b < 2 ^ 31) (kt : a < b → KRun G J N Post t L st cl sl w) (kf : b ≤ a → KRun G J N Post q L st cl sl w) : KRun G J N Post pc L (.int (nI b) :: .int (nI a) :: st) cl sl w :=
  k_icmp_lt t q hd ht hq (fun c => kt ((nI_ltI ha hb).mp c)) (fun c => kf (Nat.not_lt.mp fun e => c ((nI_ltI ha hb).mpr e)))
theorem k_icmp_geN {a b : Nat} {off : Int} (t q : Nat) (hd : decode J.2.1 pc = .ok (.if_icmp .ge off, 3)) (ht : (pc : Int) + off = (t : Int)) (hq : pc + 3 = q) (ha : a < 2 ^ 31) (hb : b < 2 ^ 31) (kt : b ≤ a → KRun G J N Post t L st cl sl w) (kf : a < b → KRun G J N Post q L st cl sl w) : KRun G J N Post pc L (.int (nI b) :: .int (nI a) :: st) cl sl w :=
  k_icmp_ge t q hd ht hq (fun c => kt ((nI_leI hb ha).mp c)) (fun c => kf (Nat.not_le.mp fun e => c ((nI_leI hb ha).mpr e)))
theorem k_icmp_gtN {a b : Nat} {off : Int} (t q : Nat) (hd : decode J.2.1 pc = .ok (.if_icmp .gt off, 3)) (ht : (pc : Int) + off = (t : Int)) (hq : pc + 3 = q) (ha : a < 2 ^ 31) (hb : b < 2 ^ 31) (kt : b < a → KRun G J N Post t L st cl sl w) (kf : a ≤ b → KRun G J N Post q L st cl sl w) : KRun G J N Post pc L (.int (nI b) :: .int (nI a) :: st) cl sl w :=
  k_icmp_gt t q hd ht hq (fun c => kt ((nI_ltI hb ha).mp c)) (fun c => kf (Nat.not_lt.mp fun e => c ((nI_ltI hb ha).mpr e)))
theorem k_icmp_leN {a b : Nat} {off : Int} (t q : Nat) (hd : decode J.2.1 pc = .ok (.if_icmp .le off, 3)) (ht : (pc : Int) + off = (t : Int)) (hq : pc + 3 = q) (ha : a < 2 ^ 31) (hb : b < 2 ^ 31) (kt : a ≤ b → KRun G J N Post t L st cl sl w) (kf : b < a → KRun G J N Post q L st cl sl w) : KRun G J N Post pc L (.int (nI b) :: .int (nI a) :: st) cl sl w :=
  k_icmp_le t q hd ht hq (fun c => kt ((nI_leI ha hb).mp c)) (fun c => kf (Nat.not_le.mp fun e => c ((nI_leI ha hb).mpr e)))
theorem k_if_eqN {a : Nat} {off : Int} (t q : Nat) (hd : decode J.2.1 pc = .ok (.ifCond .eq off, 3)) (ht : (pc : Int) + off = (t : Int)) (hq : pc + 3 = q) (ha : a < 2 ^ 31) (kt : a = 0 → KRun G J N Post t L st cl sl w) (kf : a ≠ 0 → KRun G J N Post q L st cl sl w) : KRun G J N Post pc L (.int (nI a) :: st) cl sl w :=
  k_if_eq t q hd ht hq (fun c => kt ((nI_eq ha (by omega)).mp (c.trans nI_0.symm))) (fun c => kf (fun e => c (by rw [e]; exact nI_0)))
theorem k_if_neN {a : Nat} {off : Int} (t q : Nat) (hd : decode J.2.1 pc = .ok (.ifCond .ne off, 3)) (ht : (pc : Int) + off = (t : Int)) (hq : pc + 3 = q) (ha : a < 2 ^ 31) (kt : a ≠ 0 → KRun G J N Post t L st cl sl w) (kf : a = 0 → KRun G J N Post q L st cl sl w) : KRun G J N Post pc L (.int (nI a) :: st) cl sl w :=
  k_if_ne t q hd ht hq (fun c => kt (fun e => c (by rw [e]; exact nI_0))) (fun c => kf (Classical.byContradiction fun e => c fun x => e ((nI_eq ha (by omega)).mp (x.trans nI_0.symm))))
theorem k_if_ltN {a : Nat} {off : Int} (t q : Nat) (hd : decode J.2.1 pc = .ok (.ifCond .lt off, 3)) (ht : (pc : Int) + off = (t : Int)) (hq : pc + 3 = q) (ha : a < 2 ^ 31) (kt : a < 0 → KRun G J N Post t L st cl sl w) (kf : 0 ≤ a → KRun G J N Post q L st cl sl w) : KRun G J N Post pc L (.int (nI a) :: st) cl sl w :=
  k_if_lt t q hd ht hq (fun c => kt (absurd c (nI_pos ha))) (fun c => kf (Nat.zero_le a))
theorem k_if_geN {a : Nat} {off : Int} (t q : Nat) (hd : decode J.2.1 pc = .ok (.ifCond .ge off, 3)) (ht : (pc : Int) + off = (t : Int)) (hq : pc + 3 = q) (ha : a < 2 ^ 31) (kt : 0 ≤ a → KRun G J N Post t L st cl sl w) (kf : a < 0 → KRun G J N Post q L st cl sl w) : KRun G J N Post pc L (.int (nI a) :: st) cl sl w :=
  k_if_ge t q hd ht hq (fun c => kt (Nat.zero_le a)) (fun c => kf (absurd (nI_pos' ha) c))
theorem k_if_gtN {a : Nat} {off : Int} (t q : Nat) (hd : decode J.2.1 pc = .ok (.ifCond .gt off, 3)) (ht : (pc : Int) + off = (t : Int)) (hq : pc + 3 = q) (ha : a < 2 ^ 31) (kt : 0 < a → KRun G J N Post t L st cl sl w) (kf : a = 0 → KRun G J N Post q L st cl sl w) : KRun G J N Post pc L (.int (nI a) :: st) cl sl w :=
  k_if_gt t q hd ht hq (fun c => kt (Nat.pos_of_ne_zero fun e => by rw [e, nI_0] at c; exact absurd c (by decide))) (fun c => kf (Nat.eq_zero_of_not_pos fun e => c (by have := nI_lt e ha; rwa [nI_0] at this)))
theorem k_if_leN {a : Nat} {off : Int} (t q : Nat) (hd : decode J.2.1 pc = .ok (.ifCond .le off, 3)) (ht : (pc : Int) + off = (t : Int)) (hq : pc + 3 = q) (ha : a < 2 ^ 31) (kt : a = 0 → KRun G J N Post t L st cl sl w) (kf : 0 < a → KRun G J N Post q L st cl sl w) : KRun G J N Post pc L (.int (nI a) :: st) cl sl w :=
  k_if_le t q hd ht hq (fun c => kt (Nat.eq_zero_of_not_pos fun e => nI_nle e ha c)) (fun c => kf (Nat.pos_of_ne_zero fun e => c (by rw [e, nI_0]; decide)))
end KIN
