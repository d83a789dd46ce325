/-! KerbQueueModel: orders, kinds -/
def RpP (G : KG) (N : Nat) (w : WD) (b : Nat) (f : Int32 × St) (r : Option Value) (w1 : WD) : Prop := r = some (.int f.1) ∧ RsM G N w1 b f.2 (qM f.2) none ∧ Eqx w w1 b (b + 13)
theorem RpO.p {G : KG} {N : Nat} {w : WD} {b : Nat} {f : Int32 × St} {r : Option Value} {w1 : WD} (h : RpO G N w b f r w1) : RpP G N w b f r w1 := ⟨h.1, h.2.1, h.2.2.wd (by omega) (by omega)⟩
theorem RsM.row {G : KG} {N : Nat} {w : WD} {b : Nat} {S : St} {M : Mo} {oA : Option Mo} {r : Nat → Int32} (h : RsM G N w b S M oA) : RsM G N (va_up w (b + 12) (ia G 7 r)) b S M oA := by
  obtain ⟨at_, tx, to_, dr, be, s, pa, im, nt, ah, sd, gr, ro, ⟨g0, g1, g2, g3, g4, g5, g6, g7, g8, g9, g10, g11, g12⟩, hv⟩ := h
  have hN := g12.1
  exact ⟨at_, tx, to_, dr, be, s, pa, im, nt, ah, sd, gr, r, ⟨(by (repeat (refine Is.ne ?_ (by omega))); first | assumption | exact Is.up (by omega)), (by (repeat (refine Is.ne ?_ (by omega))); first | assumption | exact Is.up (by omega)), (by (repeat (refine Is.ne ?_ (by omega))); first | assumption | exact Is.up (by omega)), (by (repeat (refine Is.ne ?_ (by omega))); first | assumption | exact Is.up (by omega)), (by (repeat (refine Is.ne ?_ (by omega))); first | assumption | exact Is.up (by omega)), (by (repeat (refine Is.ne ?_ (by omega))); first | assumption | exact Is.up (by omega)), (by (repeat (refine Is.ne ?_ (by omega))); first | assumption | exact Is.up (by omega)), (by (repeat (refine Is.ne ?_ (by omega))); first | assumption | exact Is.up (by omega)), (by (repeat (refine Is.ne ?_ (by omega))); first | assumption | exact Is.up (by omega)), (by (repeat (refine Is.ne ?_ (by omega))); first | assumption | exact Is.up (by omega)), (by (repeat (refine Is.ne ?_ (by omega))); first | assumption | exact Is.up (by omega)), (by (repeat (refine Is.ne ?_ (by omega))); first | assumption | exact Is.up (by omega)), (by (repeat (refine Is.ne ?_ (by omega))); first | assumption | exact Is.up (by omega))⟩, hv⟩
theorem RsM.rw_ {G : KG} {N : Nat} {w : WD} {b : Nat} {S : St} {M : Mo} {oA : Option Mo} (h : RsM G N w b S M oA) : ∃ r, Is N w (b + 12) (ia G 7 r) := by
  obtain ⟨at_, tx, to_, dr, be, s, pa, im, nt, ah, sd, gr, ro, ⟨g0, g1, g2, g3, g4, g5, g6, g7, g8, g9, g10, g11, g12⟩, hv⟩ := h
  exact ⟨ro, g12⟩
theorem V72_setQ {s f : Nat → Int32} {n : Nat} {M : Mo} {q : Nat → Nat} (h : V72 s n M) (hL : mL M ≤ 7) (hf : ∀ j, f j = if 2 ≤ j ∧ j < 2 + mL M then nI (q (j - 2)) else s j) : V72 f n (setQ M q) := by
  refine ⟨?_, ?_, fun j hj => ?_, fun p hp => ⟨?_, ?_⟩, fun i hi => ?_⟩
  · rw [hf, if_neg (by omega)]
    exact h.1
  · rw [hf, if_neg (by omega)]
    exact h.2.1
  · have hj : j < mL M := hj
    rw [hf, if_pos (by omega), show 2 + j - 2 = j by omega]
    rfl
  · rw [hf, if_neg (by omega)]
    exact (h.2.2.2.1 p hp).1
  · rw [hf, if_neg (by omega)]
    exact (h.2.2.2.1 p hp).2
  · rw [hf, if_neg (by omega)]
    exact h.2.2.2.2 i hi
theorem fac7 : ∀ n, n ≤ 7 → fac n ≤ 5040 := by decide
theorem c_X9_orders {G : KG} {N : Nat} {w : WD} {b : Nat} {x : Int32} {S : St} (h : RsM G N w b S (qM S) none) (hO : sOK S) : KCon G jX9_orders N w [rf G b, .int x] (RpP G N w b (a_orders S x)) := by
  obtain ⟨o1, o2, ⟨o3, o4⟩, o5, o6, o7, o8, o9, -⟩ := hO
  have hn7 := o1.1
  have hL7 := ok_l7 o3
  refine KCon.of ([some (rf G b), some (.int x), none, none, none, none, none]) (by decide) rfl (by simp [Value.category]) (Nat.le_of_ble_eq_true rfl) rfl ?_
  have main : ∀ (vf : (Nat → Nat) → Int32), (x = -1 ∧ (∀ g, vf g = -4) ∨ ∃ k, k ≤ 6 ∧ x = nI k ∧ ∀ g, vf g = if k < mL (qM S) then nI (g k) else -4) → (∀ n : Nat, ∀ fv : Int32, n = (oseq (mL (qM S)) 5040 (sof (qM S) (oN (qF S))).2).countP (soP (qN S) (qm S) (qF S) (qM S)) → fv = (match (oseq (mL (qM S)) 5040 (sof (qM S) (oN (qF S))).2).find? (soP (qN S) (qm S) (qF S) (qM S)) with
    | none => -4
    | some g => vf g) → a_orders S x = ((if x = -1 then nI n else fv), S)) → KRun G jX9_orders N (RpP G N w b (a_orders S x)) 12 [some (rf G b), some (.int x), none, none, none, none, none] [] 0 0 w := by
    intro vf hx hres
    generalize hf0 : (sof (qM S) (oN (qF S))).2 = f0 at *
    obtain ⟨hs1, hs2⟩ := sof_all o3
    rw [hf0] at hs2
    generalize hP : soP (qN S) (qm S) (qF S) (qM S) = P at *
    have hLfac := fac7 (mL (qM S)) hL7
    generalize hQ : oseq (mL (qM S)) 5040 f0 = Q at *
    generalize hPost : RpP G N w b (a_orders S x) = Post at *
    have fin : ∀ (w2 : WD) (n : Nat) (fv : Int32) (L6 : Option Value), n = Q.countP P → fv = (match Q.find? P with
    | none => -4
    | some g => vf g) → RsM G N w2 b S (qM S) (some (qM S)) → Eqx w w2 b (b + 13) → KRun G jX9_orders N Post 67 [some (rf G b), some (.int x), some (.int (nI (mL (qM S)))), some (.int (nI n)), some (.int fv), some (.int (bI false)), L6] [] 0 0 w2 := by
      intro w2 n fv L6 e1 e2 hR hE
      rw [← hPost, hres n fv e1 e2]
      refine k_iload 69 dX9_orders_67 rfl rfl ?_
      refine k_if_eqB (b := false) 155 72 dX9_orders_69 rfl rfl (fun c9 => ?_) (fun c9 => absurd c9 (by simp))
      refine k_iload_n 156 dX9_orders_155 rfl rfl rfl ?_
      refine k_iconst (-1) 157 dX9_orders_156 rfl km_1 ?_
      refine k_icmp_ne 164 160 dX9_orders_157 rfl rfl (fun c => ?_) (fun c => ?_)
      · rw [if_neg c]
        refine k_iload 166 dX9_orders_164 rfl rfl ?_
        refine k_iret dX9_orders_166 rfl rfl (Nat.le_of_ble_eq_true rfl) ⟨rfl, hR.drop, hE⟩
      · rw [if_pos (Classical.not_not.mp c)]
        refine k_iload_n 161 dX9_orders_160 rfl rfl rfl ?_
        refine k_goto 166 dX9_orders_161 rfl ?_
        refine k_iret dX9_orders_166 rfl rfl (Nat.le_of_ble_eq_true rfl) ⟨rfl, hR.drop, hE⟩
    have mloop : ∀ d (f : Nat → Nat) (w2 : WD) (ro2 : Nat → Int32) (n : Nat) (fv : Int32), tl f (mL (qM S)) (mL (qM S)) < d → d ≤ 5040 → ordOK (qM S) f → RsM G N w2 b S (qM S) (some (qM S)) → Is N w2 (b + 12) (ia G 7 ro2) → (∀ k, k < mL (qM S) → ro2 k = nI (f k)) → Eqx w w2 b (b + 13) → n + d ≤ 5040 → n + (oseq (mL (qM S)) d f).countP P = Q.countP P → (n = 0 ∧ fv = -4 ∧ (oseq (mL (qM S)) d f).find? P = Q.find? P ∨ 0 < n ∧ fv = (match Q.find? P with
    | none => -4
    | some g => vf g)) → KRun G jX9_orders N Post 67 [some (rf G b), some (.int x), some (.int (nI (mL (qM S)))), some (.int (nI n)), some (.int fv), some (.int (bI true)), none] [] 0 0 w2 := by
      intro d
      induction d with
      | zero => intro f w2 ro2 n fv h0; omega
      | succ d ih =>
        intro f w2 ro2 n fv htl hd ho hR hro hr hE hnd hn hfv
        have hOs := ok_setQ o3 ho
        have hlt := ordOK_lt o3 ho
        obtain ⟨at_, tx, to_, dr, be, s, pa, im, nt, ah, sd, gr, rox, ⟨g0, g1, g2, g3, g4, g5, g6, g7, g8, g9, g10, g11, -⟩, v1, v2, v3, v4, v5, v6, v7, v8⟩ := id hR
        have hN := hro.1
        refine k_iload 69 dX9_orders_67 rfl rfl ?_
        refine k_if_eqB (b := true) 155 72 dX9_orders_69 rfl rfl (fun c9 => absurd c9 (by simp)) (fun c9 => ?_)
        refine k_iconst (nI 0) 73 dX9_orders_72 rfl kc_0 ?_
        refine k_istore _ 75 dX9_orders_73 rfl (by decide) rfl rfl ?_
        have cl : ∀ d2 j (w3 : WD) (s3 : Nat → Int32), j + d2 = mL (qM S) → RsC G N w3 b (qt S) (qP S).length (qK S).length (qm S) (.int at_) tx to_ dr be s3 pa im nt ah sd gr ro2 → Eqx w w3 b (b + 13) → (∀ q, s3 q = if 2 ≤ q ∧ q < 2 + j then nI (f (q - 2)) else s q) → KRun G jX9_orders N Post 75 [some (rf G b), some (.int x), some (.int (nI (mL (qM S)))), some (.int (nI n)), some (.int fv), some (.int (bI true)), some (.int (nI j))] [] 0 0 w3 := by
          intro d2
          induction d2 with
          | zero =>
            intro j w3 s3 hj hC3 hE3 hs3
            have hI : j = mL (qM S) := by omega
            subst hI
            have hro3 : Is N w3 (b + 12) (ia G 7 ro2) := hC3.2.2.2.2.2.2.2.2.2.2.2.2
            have hR3 : RsM G N w3 b S (setQ (qM S) f) (some (qM S)) := ⟨at_, tx, to_, dr, be, s3, pa, im, nt, ah, sd, gr, ro2, hC3, v1, v2, V72_setQ v3 hL7 hs3, v4, v5, v6, v7, v8⟩
            clear g0 g1 g2 g3 g4 g5 g6 g7 g8 g9 g10 g11 hro
            obtain ⟨at3, s3', to3, j30, j35, t33, j32, t32⟩ := hR3.ob
            refine k_iload 77 dX9_orders_75 rfl rfl ?_
            refine k_iload_n 78 dX9_orders_77 rfl rfl rfl ?_
            refine k_icmp_geN 103 81 dX9_orders_78 rfl rfl (by omega) (by omega) (fun c => ?_) (fun c => ?_)
            rotate_left
            · omega
            refine k_aload_n 104 dX9_orders_103 rfl rfl rfl ?_
            refine k_bipush (-4) 106 dX9_orders_104 rfl kbm_4 ?_
            refine k_V1 (ci := 8) 109 dX9_orders_106 rfl vX9_orders_153 (by (repeat (refine Is.ne ?_ (by omega))); first | assumption | exact Is.up (by omega)) rfl rfl (Nat.le_of_ble_eq_true rfl) rfl ⟨Nat.le_of_ble_eq_true rfl, Nat.le_of_ble_eq_true rfl⟩ (c_X9_isSo none hR3 hOs o1 (show mG (qM S) + 30 < 2000 by omega) o9 (fun p hp => by cases hp)) (fun r4 w4 x4 => ?_)
            obtain ⟨rfl, ⟨M4, hR4⟩, hE4⟩ := x4
            have hPf : soK (qN S) (qm S) none (qF S) (setQ (qM S) f) = P f := by
              rw [← hP]
              rfl
            rw [hPf]
            have hro4 := hro3.eqx hE4 (by omega)
            clear j30 j35 j32
            obtain ⟨at4, s4, to4, j40, j45, t43, j42, t42⟩ := hR4.ob
            obtain ⟨T, hT⟩ : ∃ T, oseq (mL (qM S)) (d + 1) f = f :: T := ⟨_, rfl⟩
            rw [hT] at hn hfv
            have rest : ∀ (n5 : Nat) (fv5 : Int32) (L6 : Option Value), n5 + d ≤ 5040 → n5 + T.countP P = Q.countP P → (n5 = 0 ∧ fv5 = -4 ∧ T.find? P = Q.find? P ∨ 0 < n5 ∧ fv5 = (match Q.find? P with
    | none => -4
    | some g => vf g)) → KRun G jX9_orders N Post 141 [some (rf G b), some (.int x), some (.int (nI (mL (qM S)))), some (.int (nI n5)), some (.int fv5), some (.int (bI true)), L6] [] 0 0 w4 := by
              intro n5 fv5 L6 hb5 hn5 hfv5
              refine k_aload_n 142 dX9_orders_141 rfl rfl rfl ?_
              refine k_V0 (ci := 8) 145 dX9_orders_142 rfl vX9_orders_146 (by (repeat (refine Is.ne ?_ (by omega))); first | assumption | exact Is.up (by omega)) rfl rfl (Nat.le_of_ble_eq_true rfl) rfl ⟨Nat.le_of_ble_eq_true rfl, Nat.le_of_ble_eq_true rfl⟩ (c_X9_backs hR4 hn7 hL7) (fun r5 w5 x5 => ?_)
              obtain ⟨rfl, hR5, hE5⟩ := x5
              have hro5 := hro4.eqx hE5 (by omega)
              obtain ⟨at5, s5, to5, j50, j55, t53, j52, t52⟩ := hR5.ob
              refine k_aload_n 146 dX9_orders_145 rfl rfl rfl ?_
              refine k_iload_n 147 dX9_orders_146 rfl rfl rfl ?_
              refine k_V1 (ci := 8) 150 dX9_orders_147 rfl vX9_orders_156 (by (repeat (refine Is.ne ?_ (by omega))); first | assumption | exact Is.up (by omega)) rfl rfl (Nat.le_of_ble_eq_true rfl) rfl ⟨Nat.le_of_ble_eq_true rfl, Nat.le_of_ble_eq_true rfl⟩ (c_X9_next j50 hro5 hr hL7 (fun k hk => by have := hlt k hk; omega)) (fun r6 w6 x6 => ?_)
              obtain ⟨rfl, ro6, rfl, hr6⟩ := x6
              have hE6 : Eqx w (va_up w5 (b + 12) (ia G 7 ro6)) b (b + 13) := ((hE3.tr (hE4.wd (by omega) (by omega))).tr (hE5.wd (by omega) (by omega))).up (by omega) (by omega)
              have hR6 := hR5.row (r := ro6)
              refine k_istore _ 152 dX9_orders_150 rfl (by decide) rfl rfl ?_
              refine k_goto 67 dX9_orders_152 rfl ?_
              cases eg : nxt (mL (qM S)) f with
              | none =>
                have hT0 : T = [] := by
                  simp only [oseq, eg] at hT
                  exact (List.cons.inj hT).2.symm
                rw [hT0] at hn5 hfv5
                refine fin _ n5 fv5 _ (by simpa using hn5) ?_ hR6 hE6
                rcases hfv5 with ⟨-, z2, z3⟩ | ⟨-, z2⟩
                · rw [← z3]
                  exact z2
                · exact z2
              | some g =>
                have hT0 : T = oseq (mL (qM S)) d g := by
                  simp only [oseq, eg] at hT
                  exact (List.cons.inj hT).2.symm
                rw [hT0] at hn5 hfv5
                rw [eg] at hr6
                have hpr := nxt_pr ho.1 eg
                refine k_loc [some (rf G b), some (.int x), some (.int (nI (mL (qM S)))), some (.int (nI n5)), some (.int fv5), some (.int (bI true)), none] ?_ rfl ?_
                · cases L6 <;> exact ⟨rfl, rfl, rfl, rfl, rfl, rfl, trivial⟩
                · exact ih g _ ro6 n5 fv5 (by omega) (by omega) (ordOK_nxt ho eg) hR6 (Is.up (by omega)) hr6 hE6 hb5 hn5 hfv5
            cases hPb : P f with
            | false =>
              refine k_if_eqB (b := false) 141 112 dX9_orders_109 rfl rfl (fun c9 => ?_) (fun c9 => absurd c9 (by simp))
              simp only [List.countP_cons, List.find?_cons, hPb] at hn hfv
              exact rest n fv _ (by omega) (by simpa using hn) hfv
            | true =>
              refine k_if_eqB (b := true) 141 112 dX9_orders_109 rfl rfl (fun c9 => absurd c9 (by simp)) (fun c9 => ?_)
              simp only [List.countP_cons, List.find?_cons, hPb] at hn hfv
              have up : ∀ fv5 : Int32, fv5 = (match Q.find? P with
    | none => -4
    | some g => vf g) → KRun G jX9_orders N Post 136 [some (rf G b), some (.int x), some (.int (nI (mL (qM S)))), some (.int (nI n)), some (.int fv), some (.int (bI true)), some (.int (nI (mL (qM S))))] [.int fv5] 0 0 w4 := by
                intro fv5 e5
                refine k_istore _ 138 dX9_orders_136 rfl (by decide) rfl rfl ?_
                refine k_iinc _ _ 141 dX9_orders_138 rfl rfl (nI_inc _) (by decide) rfl rfl ?_
                refine rest (n + 1) fv5 _ (by omega) ?_ (Or.inr ⟨by omega, e5⟩)
                rw [← hn]
                simp
                omega
              refine k_iload_n 113 dX9_orders_112 rfl rfl rfl ?_
              refine k_if_neN 134 116 dX9_orders_113 rfl rfl (by omega) (fun c => ?_) (fun c => ?_)
              · have hn0 := c
                refine k_iload 136 dX9_orders_134 rfl rfl ?_
                rcases hfv with ⟨z1, z2, z3⟩ | ⟨z1, z2⟩
                · omega
                · exact up _ z2
              · have hn0 := c
                have eF : Q.find? P = some f := by
                  rcases hfv with ⟨z1, z2, z3⟩ | ⟨z1, z2⟩
                  · exact z3.symm
                  · omega
                have eV : fv = -4 := by
                  rcases hfv with ⟨z1, z2, z3⟩ | ⟨z1, z2⟩
                  · exact z2
                  · omega
                rw [eF] at up
                dsimp only at up
                refine k_iload_n 117 dX9_orders_116 rfl rfl rfl ?_
                rcases hx with ⟨hx1, hx2⟩ | ⟨k, hk6, hx1, hx2⟩
                · rw [hx2] at up
                  refine k_if_lt 134 120 dX9_orders_117 rfl rfl (fun c => ?_) (fun c => ?_)
                  · refine k_iload 136 dX9_orders_134 rfl rfl ?_
                    exact up _ eV
                  · rw [hx1] at c
                    exact absurd (show (-1 : Int32) < 0 by decide) c
                · rw [hx2] at up
                  rw [hx1] at up ⊢
                  refine k_if_ltN 134 120 dX9_orders_117 rfl rfl (by omega) (fun c => ?_) (fun c => ?_)
                  · omega
                  refine k_iload_n 121 dX9_orders_120 rfl rfl rfl ?_
                  refine k_iload_n 122 dX9_orders_121 rfl rfl rfl ?_
                  refine k_icmp_geN 134 125 dX9_orders_122 rfl rfl (by omega) (by omega) (fun c => ?_) (fun c => ?_)
                  · rw [if_neg (by omega)] at up
                    refine k_iload 136 dX9_orders_134 rfl rfl ?_
                    exact up _ eV
                  · rw [if_pos c] at up
                    refine k_aload_n 126 dX9_orders_125 rfl rfl rfl ?_
                    refine k_get 129 dX9_orders_126 rfl fX9_orders_43 (by (repeat (refine Is.ne ?_ (by omega))); first | assumption | exact Is.up (by omega)) (by rfl) ?_
                    refine k_iload_n 130 dX9_orders_129 rfl rfl rfl ?_
                    refine k_ialdN 131 dX9_orders_130 rfl (by (repeat (refine Is.ne ?_ (by omega))); first | assumption | exact Is.up (by omega)) (by omega) (by omega) ?_
                    rw [hr k c]
                    refine k_goto 136 dX9_orders_131 rfl ?_
                    exact up _ rfl
          | succ d2 ih2 =>
            intro j w3 s3 hj ⟨g0, g1, g2, g3, g4, g5, g6, g7, g8, g9, g10, g11, g12⟩ hE3 hs3
            refine k_iload 77 dX9_orders_75 rfl rfl ?_
            refine k_iload_n 78 dX9_orders_77 rfl rfl rfl ?_
            refine k_icmp_geN 103 81 dX9_orders_78 rfl rfl (by omega) (by omega) (fun c => ?_) (fun c => ?_)
            · omega
            · refine k_aload_n 82 dX9_orders_81 rfl rfl rfl ?_
              refine k_get 85 dX9_orders_82 rfl fX9_orders_22 (by (repeat (refine Is.ne ?_ (by omega))); first | assumption | exact Is.up (by omega)) (by rfl) ?_
              refine k_iconst (nI 2) 86 dX9_orders_85 rfl kc_2 ?_
              refine k_iload 88 dX9_orders_86 rfl rfl ?_
              first | refine k_iaddE _ 89 dX9_orders_88 rfl (nI_add _ _) ?_ | refine k_iadd 89 dX9_orders_88 rfl ?_
              refine k_aload_n 90 dX9_orders_89 rfl rfl rfl ?_
              refine k_get 93 dX9_orders_90 rfl fX9_orders_43 (by (repeat (refine Is.ne ?_ (by omega))); first | assumption | exact Is.up (by omega)) (by rfl) ?_
              refine k_iload 95 dX9_orders_93 rfl rfl ?_
              refine k_ialdN 96 dX9_orders_95 rfl (by (repeat (refine Is.ne ?_ (by omega))); first | assumption | exact Is.up (by omega)) (by omega) (by omega) ?_
              rw [hr j (by omega)]
              refine k_iastN 97 dX9_orders_96 rfl (by (repeat (refine Is.ne ?_ (by omega))); first | assumption | exact Is.up (by omega)) (by omega) (by omega) ?_
              refine k_iinc _ _ 100 dX9_orders_97 rfl rfl (nI_inc _) (by decide) rfl rfl ?_
              refine k_goto 75 dX9_orders_100 rfl ?_
              refine ih2 (j + 1) _ (upd s3 (2 + j) (nI (f j))) (by omega) ?_ ?_ (fun q => ?_)
              · exact ⟨(by (repeat (refine Is.ne ?_ (by omega))); first | assumption | exact Is.up (by omega)), (by (repeat (refine Is.ne ?_ (by omega))); first | assumption | exact Is.up (by omega)), (by (repeat (refine Is.ne ?_ (by omega))); first | assumption | exact Is.up (by omega)), (by (repeat (refine Is.ne ?_ (by omega))); first | assumption | exact Is.up (by omega)), (by (repeat (refine Is.ne ?_ (by omega))); first | assumption | exact Is.up (by omega)), (by (repeat (refine Is.ne ?_ (by omega))); first | assumption | exact Is.up (by omega)), (by (repeat (refine Is.ne ?_ (by omega))); first | assumption | exact Is.up (by omega)), (by (repeat (refine Is.ne ?_ (by omega))); first | assumption | exact Is.up (by omega)), (by (repeat (refine Is.ne ?_ (by omega))); first | assumption | exact Is.up (by omega)), (by (repeat (refine Is.ne ?_ (by omega))); first | assumption | exact Is.up (by omega)), (by (repeat (refine Is.ne ?_ (by omega))); first | assumption | exact Is.up (by omega)), (by (repeat (refine Is.ne ?_ (by omega))); first | assumption | exact Is.up (by omega)), (by (repeat (refine Is.ne ?_ (by omega))); first | assumption | exact Is.up (by omega))⟩
              · exact (by (repeat (refine Eqx.up ?_ (by omega) (by omega))); first | exact Eqx.rf | assumption)
              by_cases e : q = 2 + j
              · rw [e, upd_s, if_pos (by omega), show 2 + j - 2 = j by omega]
              · rw [upd_n _ _ e, hs3 q]
                by_cases e2 : 2 ≤ q ∧ q < 2 + j
                · rw [if_pos e2, if_pos (by omega)]
                · rw [if_neg e2, if_neg (by omega)]
        refine cl (mL (qM S)) 0 w2 s (by omega) ⟨g0, g1, g2, g3, g4, g5, g6, g7, g8, g9, g10, g11, hro⟩ hE (fun q => by rw [if_neg (by omega)])
    obtain ⟨at_, s, to_, g0, g5, v3, g2, v2⟩ := h.ob
    refine k_aload_n 13 dX9_orders_12 rfl rfl rfl ?_
    refine k_V0 (ci := 8) 16 dX9_orders_13 rfl vX9_orders_143 (by (repeat (refine Is.ne ?_ (by omega))); first | assumption | exact Is.up (by omega)) rfl rfl (Nat.le_of_ble_eq_true rfl) rfl ⟨Nat.le_of_ble_eq_true rfl, Nat.le_of_ble_eq_true rfl⟩ (c_X9_holds h hn7 hL7) (fun r1 w1 x1 => ?_)
    obtain ⟨rfl, hR1, hE1⟩ := x1
    obtain ⟨ro1, hro1⟩ := hR1.rw_
    have hN := hro1.1
    refine k_iconst (nI 0) 17 dX9_orders_16 rfl kc_0 ?_
    refine k_istore_n _ 18 dX9_orders_17 rfl rfl (by decide) rfl rfl ?_
    refine k_iconst (nI 0) 19 dX9_orders_18 rfl kc_0 ?_
    refine k_istore_n _ 20 dX9_orders_19 rfl rfl (by decide) rfl rfl ?_
    have floop : ∀ d p (ro2 : Nat → Int32), p + d = oN (qF S) → (∀ k, k < (sof (qM S) p).1 → ro2 k = nI ((sof (qM S) p).2 k)) → KRun G jX9_orders N Post 20 [some (rf G b), some (.int x), some (.int (nI (sof (qM S) p).1)), some (.int (nI p)), none, none, none] [] 0 0 (va_up w1 (b + 12) (ia G 7 ro2)) := by
      intro d
      induction d with
      | zero =>
        intro p ro2 hp hr
        have hI : p = oN (qF S) := by omega
        subst hI
        rw [hs1, hf0] at hr
        rw [hs1]
        have hR2 := hR1.row (r := ro2)
        clear g0 g2 g5
        obtain ⟨at2, s2, to2, j0, j5, t3, j2, t2⟩ := hR1.ob
        refine k_iload_n 21 dX9_orders_20 rfl rfl rfl ?_
        refine k_aload_n 22 dX9_orders_21 rfl rfl rfl ?_
        refine k_get 25 dX9_orders_22 rfl fX9_orders_13 (by (repeat (refine Is.ne ?_ (by omega))); first | assumption | exact Is.up (by omega)) (by rfl) ?_
        refine k_iconst (nI 0) 26 dX9_orders_25 rfl kc_0 ?_
        refine k_ialdN 27 dX9_orders_26 rfl (by (repeat (refine Is.ne ?_ (by omega))); first | assumption | exact Is.up (by omega)) (by omega) (by omega) ?_
        rw [t2.1]
        refine k_icmp_geN 58 30 dX9_orders_27 rfl rfl (by omega) (by omega) (fun c => ?_) (fun c => ?_)
        rotate_left
        · omega
        refine k_iconst (nI 0) 59 dX9_orders_58 rfl kc_0 ?_
        refine k_istore_n _ 60 dX9_orders_59 rfl rfl (by decide) rfl rfl ?_
        refine k_bipush (-4) 62 dX9_orders_60 rfl kbm_4 ?_
        refine k_istore _ 64 dX9_orders_62 rfl (by decide) rfl rfl ?_
        refine k_iconst (nI 1) 65 dX9_orders_64 rfl kc_1 ?_
        refine k_istore _ 67 dX9_orders_65 rfl (by decide) rfl rfl ?_
        have htl := tl_b f0 (mL (qM S)) (mL (qM S)) (Nat.le_refl _)
        exact mloop 5040 f0 _ ro2 0 (-4) (by omega) (Nat.le_refl _) hs2 hR2 (Is.up (by omega)) hr ((hE1.wd (by omega) (by omega)).up (by omega) (by omega)) (by omega) (by rw [hQ, Nat.zero_add]) (Or.inl ⟨rfl, rfl, by rw [hQ]⟩)
      | succ d ih =>
        intro p ro2 hp hr
        have hR2 := hR1.row (r := ro2)
        have hro2 : Is N (va_up w1 (b + 12) (ia G 7 ro2)) (b + 12) (ia G 7 ro2) := Is.up (by omega)
        clear g0 g2 g5
        obtain ⟨at2, s2, to2, j0, j5, t3, j2, t2⟩ := hR1.ob
        have hw1 := o3.w1 (p := p) (by omega)
        have hw2 := (o3.2.2.2.2.1 p (by omega)).1
        have hsl := (sof_ok (qM S) p).1
        refine k_iload_n 21 dX9_orders_20 rfl rfl rfl ?_
        refine k_aload_n 22 dX9_orders_21 rfl rfl rfl ?_
        refine k_get 25 dX9_orders_22 rfl fX9_orders_13 (by (repeat (refine Is.ne ?_ (by omega))); first | assumption | exact Is.up (by omega)) (by rfl) ?_
        refine k_iconst (nI 0) 26 dX9_orders_25 rfl kc_0 ?_
        refine k_ialdN 27 dX9_orders_26 rfl (by (repeat (refine Is.ne ?_ (by omega))); first | assumption | exact Is.up (by omega)) (by omega) (by omega) ?_
        rw [t2.1]
        refine k_icmp_geN 58 30 dX9_orders_27 rfl rfl (by omega) (by omega) (fun c => ?_) (fun c => ?_)
        · omega
        refine k_aload_n 31 dX9_orders_30 rfl rfl rfl ?_
        refine k_get 34 dX9_orders_31 rfl fX9_orders_22 (by (repeat (refine Is.ne ?_ (by omega))); first | assumption | exact Is.up (by omega)) (by rfl) ?_
        refine k_bipush (nI 9) 36 dX9_orders_34 rfl kb_9 ?_
        refine k_iload_n 37 dX9_orders_36 rfl rfl rfl ?_
        first | refine k_iaddE _ 38 dX9_orders_37 rfl (nI_add _ _) ?_ | refine k_iadd 38 dX9_orders_37 rfl ?_
        refine k_ialdN 39 dX9_orders_38 rfl (by (repeat (refine Is.ne ?_ (by omega))); first | assumption | exact Is.up (by omega)) (by omega) (by omega) ?_
        rw [(t3.2.2.2.1 p (by omega)).1]
        refine k_if_neN 52 42 dX9_orders_39 rfl rfl (by omega) (fun c => ?_) (fun c => ?_)
        · have e : sof (qM S) (p + 1) = sof (qM S) p := by
            simp only [sof]
            rw [if_neg (by rw [hw1]; simpa using c)]
          have hx := ih (p + 1) ro2 (by omega)
          rw [e] at hx
          refine k_iinc _ _ 55 dX9_orders_52 rfl rfl (nI_inc _) (by decide) rfl rfl ?_
          refine k_goto 20 dX9_orders_55 rfl ?_
          exact hx hr
        · have e : sof (qM S) (p + 1) = ((sof (qM S) p).1 + 1, sf (sof (qM S) p).2 (sof (qM S) p).1 p) := by
            simp only [sof]
            rw [if_pos (by rw [hw1]; simpa using c)]
          have hx := ih (p + 1) (upd ro2 (sof (qM S) p).1 (nI p)) (by omega)
          rw [e] at hx
          refine k_aload_n 43 dX9_orders_42 rfl rfl rfl ?_
          refine k_get 46 dX9_orders_43 rfl fX9_orders_43 (by (repeat (refine Is.ne ?_ (by omega))); first | assumption | exact Is.up (by omega)) (by rfl) ?_
          refine k_iload_n 47 dX9_orders_46 rfl rfl rfl ?_
          refine k_iload_n 48 dX9_orders_47 rfl rfl rfl ?_
          refine k_iastN 49 dX9_orders_48 rfl (by (repeat (refine Is.ne ?_ (by omega))); first | assumption | exact Is.up (by omega)) (by omega) (by omega) ?_
          refine k_iinc _ _ 52 dX9_orders_49 rfl rfl (nI_inc _) (by decide) rfl rfl ?_
          refine k_iinc _ _ 55 dX9_orders_52 rfl rfl (nI_inc _) (by decide) rfl rfl ?_
          refine k_goto 20 dX9_orders_55 rfl ?_
          rw [va_up_up]
          refine hx (fun k hk => ?_)
          have hk : k < (sof (qM S) p).1 + 1 := hk
          show _ = nI (sf (sof (qM S) p).2 (sof (qM S) p).1 p k)
          by_cases e2 : k = (sof (qM S) p).1
          · rw [e2, upd_s, sf_s]
          · rw [upd_n _ _ e2, sf_n _ _ e2]
            exact hr k (by omega)
    have hfl := floop (oN (qF S)) 0 ro1 (by omega) (fun k hk => absurd hk (Nat.not_lt_zero k))
    rw [va_up_eq hro1.2] at hfl
    exact hfl
  obtain ⟨at_, s, to_, g0, g5, v3, g2, v2⟩ := h.ob
  refine k_iload_n 1 dX9_orders_0 rfl rfl rfl ?_
  refine k_iconst (-1) 2 dX9_orders_1 rfl km_1 ?_
  refine k_bipush (nI 6) 4 dX9_orders_2 rfl kb_6 ?_
  refine k_S3 7 dX9_orders_4 rfl vX9_orders_56 (Nat.le_of_ble_eq_true rfl) rfl ⟨Nat.le_of_ble_eq_true rfl, Nat.le_of_ble_eq_true rfl⟩ (c_X9_in) (fun r9 w9 h9 => ?_)
  obtain ⟨h8, h9⟩ := h9
  subst h8
  have h9 := h9.symm
  subst h9
  rw [nI_toInt (show 6 < 2 ^ 31 by omega), show (-1 : Int32).toInt = -1 from rfl]
  rcases rgn_c 0 6 x with ⟨k, k1, k2, rfl, e⟩ | ⟨hx, e⟩
  · have hk1 : ¬ nI k = -1 := nI_n1 (by omega)
    rw [nI_toInt (by omega), decide_eq_true (by omega)]
    refine k_if_neB (b := true) 12 10 dX9_orders_7 rfl rfl (fun c9 => ?_) (fun c9 => absurd c9 (by simp))
    refine main (fun g => if k < mL (qM S) then nI (g k) else -4) (Or.inr ⟨k, k2, rfl, fun g => rfl⟩) (fun n fv h1 h2 => ?_)
    rw [if_neg hk1]
    unfold a_orders
    rw [e, if_neg hk1]
    dsimp only
    have hc := cor_one (soP (qN S) (qm S) (qF S) (qM S)) (mL (qM S)) 5040 (sof (qM S) (oN (qF S))).2
    unfold corS
    rw [h2]
    cases e5 : (oseq (mL (qM S)) 5040 (sof (qM S) (oN (qF S))).2).find? (soP (qN S) (qm S) (qF S) (qM S)) with
    | none =>
      rw [e5] at hc
      dsimp only at hc ⊢
      rw [if_pos hc]
      split <;> rfl
    | some g =>
      rw [e5] at hc
      dsimp only at hc ⊢
      by_cases ck : k < mL (qM S)
      · rw [if_pos ck, if_pos ck, hc]
        rfl
      · rw [if_neg ck, if_neg ck]
  · by_cases hx1 : x = -1
    · subst hx1
      rw [show (-1 : Int32).toInt = -1 from rfl, decide_eq_true (by omega)]
      refine k_if_neB (b := true) 12 10 dX9_orders_7 rfl rfl (fun c9 => ?_) (fun c9 => absurd c9 (by simp))
      refine main (fun g => -4) (Or.inl ⟨rfl, fun g => rfl⟩) (fun n fv h1 h2 => ?_)
      rw [if_pos rfl]
      unfold a_orders
      rw [if_pos rfl]
      unfold corS
      rw [cor_all _ _ 5040 5040 _ 0 (by omega), h1, Nat.zero_add]
    · have hm1 : x.toInt ≠ -1 := fun z => hx1 (Int32.toInt_inj.mp z)
      rw [decide_eq_false (by omega)]
      refine k_if_neB (b := false) 12 10 dX9_orders_7 rfl rfl (fun c9 => absurd c9 (by simp)) (fun c9 => ?_)
      have ea : a_orders S x = (-1, S) := by
        unfold a_orders
        rw [e, if_neg hx1]
      rw [ea]
      refine k_iconst (-1) 11 dX9_orders_10 rfl km_1 ?_
      refine k_iret dX9_orders_11 rfl rfl (Nat.le_of_ble_eq_true rfl) ⟨rfl, h, Eqx.rf⟩
theorem kdF_kdF (F : Fo) (p k j : Nat) : kdF (kdF F p k) p j = kdF F p j := by
  show (_, _, sf (sf (oK F) p k) p j, _, _) = (_, _, sf (oK F) p j, _, _)
  rw [sf_sf]
  rfl
theorem kdF_id (F : Fo) (p : Nat) : kdF F p (oK F p) = F := by
  have e : sf (oK F) p (oK F p) = oK F := by
    funext j
    by_cases z : j = p
    · rw [z, sf_s]
    · rw [sf_n _ _ z]
  show (_, _, sf (oK F) p (oK F p), _, _) = F
  rw [e]
  rfl
theorem V23_kd {f : Nat → Int32} {F : Fo} {p k : Nat} (h : V23 f F) (hn : oN F ≤ 7) (hp : p < oN F) : V23 (upd f (2 + p) (nI k)) (kdF F p k) := by
  refine ⟨?_, ?_, fun q hq => ⟨?_, ?_, ?_⟩⟩
  · rw [upd_n _ _ (by omega)]
    exact h.1
  · rw [upd_n _ _ (by omega)]
    exact h.2.1
  · have hq : q < oN F := hq
    show _ = nI (sf (oK F) p k q)
    by_cases e : q = p
    · rw [e, upd_s, sf_s]
    · rw [upd_n _ _ (by omega), sf_n _ _ e]
      exact (h.2.2 q hq).1
  · have hq : q < oN F := hq
    rw [upd_n _ _ (by omega)]
    exact (h.2.2 q hq).2.1
  · have hq : q < oN F := hq
    rw [upd_n _ _ (by omega)]
    exact (h.2.2 q hq).2.2
def kdS (S : St) (p k : Nat) : St := (kdF (qF S) p k, S.2)
theorem c_X9_kinds {G : KG} {N : Nat} {w : WD} {b : Nat} {x : Int32} {S : St} (h : RsM G N w b S (qM S) none) (hO : sOK S) : KCon G jX9_kinds N w [rf G b, .int x] (RpO G N w b (a_kinds S x)) := by
  obtain ⟨at_, s, to_, g0, g5, v3, g2, v2⟩ := h.ob
  obtain ⟨o1, o2, ⟨o3, o4⟩, o5, o6, o7, o8, o9, -⟩ := hO
  have hn7 := o1.1
  have hL7 := ok_l7 o3
  refine KCon.of ([some (rf G b), some (.int x), none, none, none]) (by decide) rfl (by simp [Value.category]) (Nat.le_of_ble_eq_true rfl) rfl ?_
  refine k_aload_n 1 dX9_kinds_0 rfl rfl rfl ?_
  refine k_iload_n 2 dX9_kinds_1 rfl rfl rfl ?_
  refine k_V1 (ci := 8) 5 dX9_kinds_2 rfl vX9_kinds_102 (by (repeat (refine Is.ne ?_ (by omega))); first | assumption | exact Is.up (by omega)) rfl rfl (Nat.le_of_ble_eq_true rfl) rfl ⟨Nat.le_of_ble_eq_true rfl, Nat.le_of_ble_eq_true rfl⟩ (c_X9_isOne h o2 hn7) (fun r9 w9 h9 => ?_)
  obtain ⟨h8, h9⟩ := h9
  subst h8
  have h9 := h9.symm
  subst h9
  rcases prs_c hn7 x with ⟨p, hp, rfl, e⟩ | ⟨hno, e⟩
  · rw [e]
    refine k_if_neB 10 8 dX9_kinds_5 rfl rfl (fun c9 => ?_) (fun c9 => absurd c9 (by simp))
    refine k_aload_n 11 dX9_kinds_10 rfl rfl rfl ?_
    refine k_iload_n 12 dX9_kinds_11 rfl rfl rfl ?_
    refine k_V1 (ci := 8) 15 dX9_kinds_12 rfl vX9_kinds_105 (by (repeat (refine Is.ne ?_ (by omega))); first | assumption | exact Is.up (by omega)) rfl rfl (Nat.le_of_ble_eq_true rfl) rfl ⟨Nat.le_of_ble_eq_true rfl, Nat.le_of_ble_eq_true rfl⟩ (c_X9_pl h o3 hp) (fun r9 w9 h9 => ?_)
    obtain ⟨h8, h9⟩ := h9
    subst h8
    have h9 := h9.symm
    subst h9
    refine k_bipush (-4) 17 dX9_kinds_15 rfl kbm_4 ?_
    cases e1 : plc (qM S) p with
    | none =>
      have ea : a_kinds S (nI p) = (-2, S) := by
        unfold a_kinds
        rw [e]
        dsimp only
        rw [e1]
        rfl
      rw [ea]
      refine k_icmp_ne 23 20 dX9_kinds_17 rfl rfl (fun c => ?_) (fun c => ?_)
      · exact absurd rfl c
      · refine k_bipush (-2) 22 dX9_kinds_20 rfl kbm_2 ?_
        refine k_iret dX9_kinds_22 rfl rfl (Nat.le_of_ble_eq_true rfl) ⟨rfl, h, Eqx.rf⟩
    | some j =>
      obtain ⟨hj, hjp⟩ := plc_some e1
      have ea : a_kinds S (nI p) = (nI (fkd (qN S) (qm S) (qF S) (qM S) p 4), S) := by
        unfold a_kinds
        rw [e]
        dsimp only
        rw [e1]
        rfl
      rw [ea]
      refine k_icmp_ne 23 20 dX9_kinds_17 rfl rfl (fun c => ?_) (fun c => ?_)
      rotate_left
      · exact absurd (Classical.not_not.mp c) (pI_some (by omega))
      obtain ⟨hk3, -, -, -⟩ := o1.2.2 p hp
      refine k_aload_n 24 dX9_kinds_23 rfl rfl rfl ?_
      refine k_V0 (ci := 8) 27 dX9_kinds_24 rfl vX9_kinds_143 (by (repeat (refine Is.ne ?_ (by omega))); first | assumption | exact Is.up (by omega)) rfl rfl (Nat.le_of_ble_eq_true rfl) rfl ⟨Nat.le_of_ble_eq_true rfl, Nat.le_of_ble_eq_true rfl⟩ (c_X9_holds h hn7 hL7) (fun r1 w1 x1 => ?_)
      obtain ⟨rfl, hR1, hE1⟩ := x1
      clear g0 g2 g5
      obtain ⟨at1, s1, to1, q0, q5, u3, q2, u2⟩ := hR1.ob
      refine k_aload_n 28 dX9_kinds_27 rfl rfl rfl ?_
      refine k_get 31 dX9_kinds_28 rfl fX9_kinds_13 (by (repeat (refine Is.ne ?_ (by omega))); first | assumption | exact Is.up (by omega)) (by rfl) ?_
      refine k_iconst (nI 2) 32 dX9_kinds_31 rfl kc_2 ?_
      refine k_iload_n 33 dX9_kinds_32 rfl rfl rfl ?_
      first | refine k_iaddE _ 34 dX9_kinds_33 rfl (nI_add _ _) ?_ | refine k_iadd 34 dX9_kinds_33 rfl ?_
      refine k_ialdN 35 dX9_kinds_34 rfl (by (repeat (refine Is.ne ?_ (by omega))); first | assumption | exact Is.up (by omega)) (by omega) (by omega) ?_
      rw [(u2.2.2 p hp).1]
      refine k_istore_n _ 36 dX9_kinds_35 rfl rfl (by decide) rfl rfl ?_
      refine k_iconst (nI 0) 37 dX9_kinds_36 rfl kc_0 ?_
      refine k_istore_n _ 38 dX9_kinds_37 rfl rfl (by decide) rfl rfl ?_
      refine k_iconst (nI 0) 39 dX9_kinds_38 rfl kc_0 ?_
      refine k_istore _ 41 dX9_kinds_39 rfl (by decide) rfl rfl ?_
      have loop : ∀ d k (w2 : WD) (F2 : Fo), k + d = 4 → RsM G N w2 b (F2, S.2) (qM S) (some (qM S)) → (∀ i, kdF F2 p i = kdF (qF S) p i) → oN F2 = oN (qF S) → Eqx w w2 b (b + 12) → KRun G jX9_kinds N (RpO G N w b (nI (fkd (qN S) (qm S) (qF S) (qM S) p 4), S)) 41 [some (rf G b), some (.int (nI p)), some (.int (nI (oK (qF S) p))), some (.int (nI (fkd (qN S) (qm S) (qF S) (qM S) p k))), some (.int (nI k))] [] 0 0 w2 := by
        intro d
        induction d with
        | zero =>
          intro k w2 F2 hk hR hF2 hn2 hE
          have hI : k = 4 := by omega
          subst hI
          obtain ⟨at_, tx, to_, dr, be, s, pa, im, nt, ah, sd, gr, ro, ⟨g0, g1, g2, g3, g4, g5, g6, g7, g8, g9, g10, g11, g12⟩, v1, v2, v3, v4, v5, v6, v7, v8⟩ := hR
          have hN := g12.1
          have v2 : V23 to_ F2 := v2
          have v3 : V72 s (oN F2) (qM S) := v3
          have vv := V23_kd (p := p) (k := oK (qF S) p) v2 (by omega) (by omega)
          rw [hF2, kdF_id] at vv
          have e4 : oN ((F2, S.2) : St).1 = oN (qF S) := hn2
          refine k_iload 43 dX9_kinds_41 rfl rfl ?_
          refine k_iconst (nI 4) 44 dX9_kinds_43 rfl kc_4 ?_
          refine k_icmp_geN 86 47 dX9_kinds_44 rfl rfl (by omega) (by omega) (fun c => ?_) (fun c => ?_)
          rotate_left
          · omega
          refine k_aload_n 87 dX9_kinds_86 rfl rfl rfl ?_
          refine k_get 90 dX9_kinds_87 rfl fX9_kinds_13 (by (repeat (refine Is.ne ?_ (by omega))); first | assumption | exact Is.up (by omega)) (by rfl) ?_
          refine k_iconst (nI 2) 91 dX9_kinds_90 rfl kc_2 ?_
          refine k_iload_n 92 dX9_kinds_91 rfl rfl rfl ?_
          first | refine k_iaddE _ 93 dX9_kinds_92 rfl (nI_add _ _) ?_ | refine k_iadd 93 dX9_kinds_92 rfl ?_
          refine k_iload_n 94 dX9_kinds_93 rfl rfl rfl ?_
          refine k_iastN 95 dX9_kinds_94 rfl (by (repeat (refine Is.ne ?_ (by omega))); first | assumption | exact Is.up (by omega)) (by omega) (by omega) ?_
          refine k_iload_n 96 dX9_kinds_95 rfl rfl rfl ?_
          refine k_iret dX9_kinds_96 rfl rfl (Nat.le_of_ble_eq_true rfl) ⟨rfl, ⟨at_, tx, _, dr, be, s, pa, im, nt, ah, sd, gr, ro, ⟨(by (repeat (refine Is.ne ?_ (by omega))); first | assumption | exact Is.up (by omega)), (by (repeat (refine Is.ne ?_ (by omega))); first | assumption | exact Is.up (by omega)), (by (repeat (refine Is.ne ?_ (by omega))); first | assumption | exact Is.up (by omega)), (by (repeat (refine Is.ne ?_ (by omega))); first | assumption | exact Is.up (by omega)), (by (repeat (refine Is.ne ?_ (by omega))); first | assumption | exact Is.up (by omega)), (by (repeat (refine Is.ne ?_ (by omega))); first | assumption | exact Is.up (by omega)), (by (repeat (refine Is.ne ?_ (by omega))); first | assumption | exact Is.up (by omega)), (by (repeat (refine Is.ne ?_ (by omega))); first | assumption | exact Is.up (by omega)), (by (repeat (refine Is.ne ?_ (by omega))); first | assumption | exact Is.up (by omega)), (by (repeat (refine Is.ne ?_ (by omega))); first | assumption | exact Is.up (by omega)), (by (repeat (refine Is.ne ?_ (by omega))); first | assumption | exact Is.up (by omega)), (by (repeat (refine Is.ne ?_ (by omega))); first | assumption | exact Is.up (by omega)), (by (repeat (refine Is.ne ?_ (by omega))); first | assumption | exact Is.up (by omega))⟩, v1, vv, ?_, ?_, ?_, v6, (fun A hA => by cases hA), v8⟩, (by (repeat (refine Eqx.up ?_ (by omega) (by omega))); first | exact Eqx.rf | assumption)⟩
          · rw [← hn2]
            exact v3
          · rw [← hn2]
            exact v4
          · rw [← hn2]
            exact v5
        | succ d ih =>
          intro k w2 F2 hk hR hF2 hn2 hE
          obtain ⟨at_, tx, to_, dr, be, s, pa, im, nt, ah, sd, gr, ro, ⟨g0, g1, g2, g3, g4, g5, g6, g7, g8, g9, g10, g11, g12⟩, v1, v2, v3, v4, v5, v6, v7, v8⟩ := hR
          have hN := g12.1
          have v2 : V23 to_ F2 := v2
          have vv := V23_kd (p := p) (k := k) v2 (by omega) (by omega)
          rw [hF2] at vv
          refine k_iload 43 dX9_kinds_41 rfl rfl ?_
          refine k_iconst (nI 4) 44 dX9_kinds_43 rfl kc_4 ?_
          refine k_icmp_geN 86 47 dX9_kinds_44 rfl rfl (by omega) (by omega) (fun c => ?_) (fun c => ?_)
          · omega
          refine k_aload_n 48 dX9_kinds_47 rfl rfl rfl ?_
          refine k_get 51 dX9_kinds_48 rfl fX9_kinds_13 (by (repeat (refine Is.ne ?_ (by omega))); first | assumption | exact Is.up (by omega)) (by rfl) ?_
          refine k_iconst (nI 2) 52 dX9_kinds_51 rfl kc_2 ?_
          refine k_iload_n 53 dX9_kinds_52 rfl rfl rfl ?_
          first | refine k_iaddE _ 54 dX9_kinds_53 rfl (nI_add _ _) ?_ | refine k_iadd 54 dX9_kinds_53 rfl ?_
          refine k_iload 56 dX9_kinds_54 rfl rfl ?_
          refine k_iastN 57 dX9_kinds_56 rfl (by (repeat (refine Is.ne ?_ (by omega))); first | assumption | exact Is.up (by omega)) (by omega) (by omega) ?_
          refine k_nm (fun w3 hw3 => ?_)
          have hR3 : RsM G N w3 b (kdF (qF S) p k, S.2) (qM S) (some (qM S)) := by
            rw [hw3]
            refine ⟨at_, tx, _, dr, be, s, pa, im, nt, ah, sd, gr, ro, ⟨(by (repeat (refine Is.ne ?_ (by omega))); first | assumption | exact Is.up (by omega)), (by (repeat (refine Is.ne ?_ (by omega))); first | assumption | exact Is.up (by omega)), (by (repeat (refine Is.ne ?_ (by omega))); first | assumption | exact Is.up (by omega)), (by (repeat (refine Is.ne ?_ (by omega))); first | assumption | exact Is.up (by omega)), (by (repeat (refine Is.ne ?_ (by omega))); first | assumption | exact Is.up (by omega)), (by (repeat (refine Is.ne ?_ (by omega))); first | assumption | exact Is.up (by omega)), (by (repeat (refine Is.ne ?_ (by omega))); first | assumption | exact Is.up (by omega)), (by (repeat (refine Is.ne ?_ (by omega))); first | assumption | exact Is.up (by omega)), (by (repeat (refine Is.ne ?_ (by omega))); first | assumption | exact Is.up (by omega)), (by (repeat (refine Is.ne ?_ (by omega))); first | assumption | exact Is.up (by omega)), (by (repeat (refine Is.ne ?_ (by omega))); first | assumption | exact Is.up (by omega)), (by (repeat (refine Is.ne ?_ (by omega))); first | assumption | exact Is.up (by omega)), (by (repeat (refine Is.ne ?_ (by omega))); first | assumption | exact Is.up (by omega))⟩, v1, vv, ?_, ?_, ?_, v6, ?_, v8⟩
            · show V72 s (oN (qF S)) (qM S)
              rw [← hn2]
              exact v3
            · show ∀ i, i < (qP S).length → V72 (fun j => pa (72 * i + j)) (oN (qF S)) ((qP S).getD i oM0)
              rw [← hn2]
              exact v4
            · show ∀ i, i < (qK S).length → V72 (fun j => im (72 * i + j)) (oN (qF S)) ((qK S).getD i oM0)
              rw [← hn2]
              exact v5
            · show ∀ A, some (qM S) = some A → V72 sd (oN (qF S)) A
              rw [← hn2]
              exact v7
          have hE3 : Eqx w w3 b (b + 12) := by
            rw [hw3]
            exact (by (repeat (refine Eqx.up ?_ (by omega) (by omega))); first | exact Eqx.rf | assumption)
          clear hw3 g0 g1 g2 g3 g4 g5 g6 g7 g8 g9 g10 g11 g12
          obtain ⟨at3, s3, to3, j30, j35, t33, j32, t32⟩ := hR3.ob
          have hsb := fkd_b (K := qN S) (m := qm S) (F := qF S) (M := qM S) (p := p) k
          refine k_iload_n 58 dX9_kinds_57 rfl rfl rfl ?_
          refine k_aload_n 59 dX9_kinds_58 rfl rfl rfl ?_
          refine k_iload_n 60 dX9_kinds_59 rfl rfl rfl ?_
          refine k_V1 (ci := 8) 63 dX9_kinds_60 rfl vX9_kinds_153 (by (repeat (refine Is.ne ?_ (by omega))); first | assumption | exact Is.up (by omega)) rfl rfl (Nat.le_of_ble_eq_true rfl) rfl ⟨Nat.le_of_ble_eq_true rfl, Nat.le_of_ble_eq_true rfl⟩ (c_X9_isSo (some p) hR3 o3 (ok_kdF o1 (by omega)) (by omega) o9 (fun q hq => by cases hq; omega)) (fun r4 w4 x4 => ?_)
          obtain ⟨rfl, ⟨M4, hR4⟩, hE4⟩ := x4
          clear j30 j35 j32
          obtain ⟨at4, s4, to4, j40, j45, t43, j42, t42⟩ := hR4.ob
          have nx : ∀ v : Nat, v = fkd (qN S) (qm S) (qF S) (qM S) p (k + 1) → KRun G jX9_kinds N (RpO G N w b (nI (fkd (qN S) (qm S) (qF S) (qM S) p 4), S)) 75 [some (rf G b), some (.int (nI p)), some (.int (nI (oK (qF S) p))), some (.int (nI (fkd (qN S) (qm S) (qF S) (qM S) p k))), some (.int (nI k))] [.int (nI v)] 0 0 w4 := by
            intro v hv
            rw [hv]
            refine k_istore_n _ 76 dX9_kinds_75 rfl rfl (by decide) rfl rfl ?_
            refine k_aload_n 77 dX9_kinds_76 rfl rfl rfl ?_
            refine k_V0 (ci := 8) 80 dX9_kinds_77 rfl vX9_kinds_146 (by (repeat (refine Is.ne ?_ (by omega))); first | assumption | exact Is.up (by omega)) rfl rfl (Nat.le_of_ble_eq_true rfl) rfl ⟨Nat.le_of_ble_eq_true rfl, Nat.le_of_ble_eq_true rfl⟩ (c_X9_backs hR4 hn7 hL7) (fun r5 w5 x5 => ?_)
            obtain ⟨rfl, hR5, hE5⟩ := x5
            refine k_iinc _ _ 83 dX9_kinds_80 rfl rfl (nI_inc _) (by decide) rfl rfl ?_
            refine k_goto 41 dX9_kinds_83 rfl ?_
            exact ih (k + 1) w5 (kdF (qF S) p k) (by omega) hR5 (fun i => kdF_kdF _ _ _ _) rfl ((hE3.tr hE4).tr hE5)
          have ef : fkd (qN S) (qm S) (qF S) (qM S) p (k + 1) = fkd (qN S) (qm S) (qF S) (qM S) p k + (if soK (qN S) (qm S) (some p) (kdF (qF S) p k) (qM S) = true then 2 ^ k else 0) := rfl
          have hq : soK (qN ((kdF (qF S) p k, S.2) : St)) (qm ((kdF (qF S) p k, S.2) : St)) (some p) (qF ((kdF (qF S) p k, S.2) : St)) (qM S) = soK (qN S) (qm S) (some p) (kdF (qF S) p k) (qM S) := rfl
          rw [hq]
          refine k_if_eqB 73 66 dX9_kinds_63 rfl rfl (fun c9 => ?_) (fun c9 => ?_)
          · rw [c9, if_neg (by simp), Nat.add_zero] at ef
            refine k_iconst (nI 0) 74 dX9_kinds_73 rfl kc_0 ?_
            refine k_iorE _ 75 dX9_kinds_74 rfl (or_0 _) ?_
            exact nx _ ef.symm
          · rw [c9, if_pos rfl] at ef
            refine k_iconst (nI 1) 67 dX9_kinds_66 rfl kc_1 ?_
            refine k_iload 69 dX9_kinds_67 rfl rfl ?_
            refine k_ishlE _ 70 dX9_kinds_69 rfl (one_sh k (by omega)) ?_
            refine k_goto 74 dX9_kinds_70 rfl ?_
            refine k_iorE _ 75 dX9_kinds_74 rfl (or_sh k (by omega) _ hsb) ?_
            exact nx _ ef.symm
      exact loop 4 0 w1 (qF S) (by omega) hR1 (fun i => rfl) rfl hE1
  · rw [e]
    have ea : a_kinds S x = (-1, S) := by
      unfold a_kinds
      rw [e]
    rw [ea]
    refine k_if_neB 10 8 dX9_kinds_5 rfl rfl (fun c9 => absurd c9 (by simp)) (fun c9 => ?_)
    refine k_iconst (-1) 9 dX9_kinds_8 rfl km_1 ?_
    refine k_iret dX9_kinds_9 rfl rfl (Nat.le_of_ble_eq_true rfl) ⟨rfl, h, Eqx.rf⟩
