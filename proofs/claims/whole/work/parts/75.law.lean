/-! the law's run -/
def LwB (G : KG) (nm : String) (i : Nat) : Prop := ∀ (S : St) (w : WD), sOK S → QsM G 117 w 0 S → RsM G 117 w 104 S (qM S) none → KRun G (jL nm) 0 (fun r _ => r = some (.int (nI 1))) 911 [some (.ref (gb G)), some (rf G 0), some (rf G 104), some (.int (nI i))] [] 117 3112 w
theorem lwb_0 {G : KG} {nm : String} {i : Nat} {S : St} {w : WD} (hg : gL G) (hn : gn G ≤ 2560) (hi : i + 5 ≤ gn G) (back : LwB G nm i) (hO : sOK S) (hQ : QsM G 117 w 0 S) (hR : RsM G 117 w 104 S (qM S) none) : KRun G (jL nm) 0 (fun r _ => r = some (.int (nI 1))) 164 [some (.ref (gb G)), some (rf G 0), some (rf G 104), some (.int (nI i))] [] 117 3112 w := by
  refine k_aload_n 165 dL_law_164 rfl rfl rfl ?_
  refine k_aload_n 166 dL_law_165 rfl rfl rfl ?_
  refine k_iload_n 167 dL_law_166 rfl rfl rfl ?_
  refine k_iconst (nI 1) 168 dL_law_167 rfl kc_1 ?_
  refine k_iaddE _ 169 dL_law_168 rfl (nI_add _ _) ?_
  refine k_sld 170 hg dL_law_169 rfl (show i + 1 < gn G by omega) (by omega) ?_
  refine k_V1 (ci := 7) 173 dL_law_170 rfl (vL_law_13 nm) hQ.1 rfl rfl (Nat.le_of_ble_eq_true rfl) rfl ⟨Nat.le_of_ble_eq_true rfl, Nat.le_of_ble_eq_true rfl⟩ (c_X8_write hQ) (fun r1 w1 x1 => ?_)
  obtain ⟨rfl, hQ1, hE1⟩ := x1
  have hR1 := hR.fr hE1 (by omega)
  refine k_aload_n 174 dL_law_173 rfl rfl rfl ?_
  refine k_aload_n 175 dL_law_174 rfl rfl rfl ?_
  refine k_iload_n 176 dL_law_175 rfl rfl rfl ?_
  refine k_iconst (nI 1) 177 dL_law_176 rfl kc_1 ?_
  refine k_iaddE _ 178 dL_law_177 rfl (nI_add _ _) ?_
  refine k_sld 179 hg dL_law_178 rfl (show i + 1 < gn G by omega) (by omega) ?_
  obtain ⟨_, _, _, _, _, _, _, _, _, _, _, _, _, hC1, -⟩ := id hR1
  refine k_V1 (ci := 8) 182 dL_law_179 rfl (vL_law_17 nm) hC1.1 rfl rfl (Nat.le_of_ble_eq_true rfl) rfl ⟨Nat.le_of_ble_eq_true rfl, Nat.le_of_ble_eq_true rfl⟩ (c_X9_write hR1 hO) (fun r2 w2 x2 => ?_)
  obtain ⟨rfl, hR2, hE2⟩ := x2
  have hQ2 := hQ1.fr hE2 (by omega)
  refine k_icmp_eq 911 185 dL_law_182 rfl rfl (fun _ => ?_) (fun c => absurd rfl c)
  exact back _ w2 (sOK_write hO (gx G (i + 1))) hQ2 hR2
theorem lwb_1 {G : KG} {nm : String} {i : Nat} {S : St} {w : WD} (hg : gL G) (hn : gn G ≤ 2560) (hi : i + 5 ≤ gn G) (back : LwB G nm i) (hO : sOK S) (hQ : QsM G 117 w 0 S) (hR : RsM G 117 w 104 S (qM S) none) : KRun G (jL nm) 0 (fun r _ => r = some (.int (nI 1))) 187 [some (.ref (gb G)), some (rf G 0), some (rf G 104), some (.int (nI i))] [] 117 3112 w := by
  refine k_aload_n 188 dL_law_187 rfl rfl rfl ?_
  refine k_V0 (ci := 7) 191 dL_law_188 rfl (vL_law_18 nm) hQ.1 rfl rfl (Nat.le_of_ble_eq_true rfl) rfl ⟨Nat.le_of_ble_eq_true rfl, Nat.le_of_ble_eq_true rfl⟩ (c_X8_wipe hQ) (fun r1 w1 x1 => ?_)
  obtain ⟨rfl, hQ1, hE1⟩ := x1
  have hR1 := hR.fr hE1 (by omega)
  refine k_aload_n 192 dL_law_191 rfl rfl rfl ?_
  obtain ⟨_, _, _, _, _, _, _, _, _, _, _, _, _, hC1, -⟩ := id hR1
  refine k_V0 (ci := 8) 195 dL_law_192 rfl (vL_law_22 nm) hC1.1 rfl rfl (Nat.le_of_ble_eq_true rfl) rfl ⟨Nat.le_of_ble_eq_true rfl, Nat.le_of_ble_eq_true rfl⟩ (c_X9_wipe hR1) (fun r2 w2 x2 => ?_)
  obtain ⟨rfl, hR2, hE2⟩ := x2
  have hQ2 := hQ1.fr hE2 (by omega)
  refine k_icmp_eq 911 198 dL_law_195 rfl rfl (fun _ => ?_) (fun c => absurd rfl c)
  exact back _ w2 (sOK_wipe hO ) hQ2 hR2
theorem lwb_2 {G : KG} {nm : String} {i : Nat} {S : St} {w : WD} (hg : gL G) (hn : gn G ≤ 2560) (hi : i + 5 ≤ gn G) (back : LwB G nm i) (hO : sOK S) (hQ : QsM G 117 w 0 S) (hR : RsM G 117 w 104 S (qM S) none) : KRun G (jL nm) 0 (fun r _ => r = some (.int (nI 1))) 200 [some (.ref (gb G)), some (rf G 0), some (rf G 104), some (.int (nI i))] [] 117 3112 w := by
  refine k_aload_n 201 dL_law_200 rfl rfl rfl ?_
  refine k_V0 (ci := 7) 204 dL_law_201 rfl (vL_law_23 nm) hQ.1 rfl rfl (Nat.le_of_ble_eq_true rfl) rfl ⟨Nat.le_of_ble_eq_true rfl, Nat.le_of_ble_eq_true rfl⟩ (c_X8_fault hQ) (fun r1 w1 x1 => ?_)
  obtain ⟨rfl, hQ1, hE1⟩ := x1
  have hR1 := hR.fr hE1 (by omega)
  refine k_aload_n 205 dL_law_204 rfl rfl rfl ?_
  obtain ⟨_, _, _, _, _, _, _, _, _, _, _, _, _, hC1, -⟩ := id hR1
  refine k_V0 (ci := 8) 208 dL_law_205 rfl (vL_law_26 nm) hC1.1 rfl rfl (Nat.le_of_ble_eq_true rfl) rfl ⟨Nat.le_of_ble_eq_true rfl, Nat.le_of_ble_eq_true rfl⟩ (c_X9_fault hR1 hO) (fun r2 w2 x2 => ?_)
  obtain ⟨rfl, hR2, hE2⟩ := x2
  have hQ2 := hQ1.fr hE2 (by omega)
  refine k_icmp_eq 911 211 dL_law_208 rfl rfl (fun _ => ?_) (fun c => absurd rfl c)
  exact back _ w2 (show sOK (a_fault S ).2 from by first | exact hO | (unfold a_fault; (repeat split) <;> exact hO)) hQ2 hR2
theorem lwb_3 {G : KG} {nm : String} {i : Nat} {S : St} {w : WD} (hg : gL G) (hn : gn G ≤ 2560) (hi : i + 5 ≤ gn G) (back : LwB G nm i) (hO : sOK S) (hQ : QsM G 117 w 0 S) (hR : RsM G 117 w 104 S (qM S) none) : KRun G (jL nm) 0 (fun r _ => r = some (.int (nI 1))) 213 [some (.ref (gb G)), some (rf G 0), some (rf G 104), some (.int (nI i))] [] 117 3112 w := by
  refine k_aload_n 214 dL_law_213 rfl rfl rfl ?_
  refine k_V0 (ci := 7) 217 dL_law_214 rfl (vL_law_27 nm) hQ.1 rfl rfl (Nat.le_of_ble_eq_true rfl) rfl ⟨Nat.le_of_ble_eq_true rfl, Nat.le_of_ble_eq_true rfl⟩ (c_X8_lay hQ) (fun r1 w1 x1 => ?_)
  obtain ⟨rfl, hQ1, hE1⟩ := x1
  have hR1 := hR.fr hE1 (by omega)
  refine k_aload_n 218 dL_law_217 rfl rfl rfl ?_
  obtain ⟨_, _, _, _, _, _, _, _, _, _, _, _, _, hC1, -⟩ := id hR1
  refine k_V0 (ci := 8) 221 dL_law_218 rfl (vL_law_30 nm) hC1.1 rfl rfl (Nat.le_of_ble_eq_true rfl) rfl ⟨Nat.le_of_ble_eq_true rfl, Nat.le_of_ble_eq_true rfl⟩ (c_X9_lay hR1 hO) (fun r2 w2 x2 => ?_)
  obtain ⟨rfl, hR2, hE2⟩ := x2
  have hQ2 := hQ1.fr hE2 (by omega)
  refine k_icmp_eq 911 224 dL_law_221 rfl rfl (fun _ => ?_) (fun c => absurd rfl c)
  exact back _ w2 (sOK_lay hO ) hQ2 hR2
theorem lwb_4 {G : KG} {nm : String} {i : Nat} {S : St} {w : WD} (hg : gL G) (hn : gn G ≤ 2560) (hi : i + 5 ≤ gn G) (back : LwB G nm i) (hO : sOK S) (hQ : QsM G 117 w 0 S) (hR : RsM G 117 w 104 S (qM S) none) : KRun G (jL nm) 0 (fun r _ => r = some (.int (nI 1))) 226 [some (.ref (gb G)), some (rf G 0), some (rf G 104), some (.int (nI i))] [] 117 3112 w := by
  refine k_aload_n 227 dL_law_226 rfl rfl rfl ?_
  refine k_aload_n 228 dL_law_227 rfl rfl rfl ?_
  refine k_iload_n 229 dL_law_228 rfl rfl rfl ?_
  refine k_iconst (nI 1) 230 dL_law_229 rfl kc_1 ?_
  refine k_iaddE _ 231 dL_law_230 rfl (nI_add _ _) ?_
  refine k_sld 232 hg dL_law_231 rfl (show i + 1 < gn G by omega) (by omega) ?_
  refine k_aload_n 233 dL_law_232 rfl rfl rfl ?_
  refine k_iload_n 234 dL_law_233 rfl rfl rfl ?_
  refine k_iconst (nI 2) 235 dL_law_234 rfl kc_2 ?_
  refine k_iaddE _ 236 dL_law_235 rfl (nI_add _ _) ?_
  refine k_sld 237 hg dL_law_236 rfl (show i + 2 < gn G by omega) (by omega) ?_
  refine k_V2 (ci := 7) 240 dL_law_237 rfl (vL_law_31 nm) hQ.1 rfl rfl (Nat.le_of_ble_eq_true rfl) rfl ⟨Nat.le_of_ble_eq_true rfl, Nat.le_of_ble_eq_true rfl⟩ (c_X8_person hQ hO) (fun r1 w1 x1 => ?_)
  obtain ⟨rfl, hQ1, hE1⟩ := x1
  have hR1 := hR.fr hE1 (by omega)
  refine k_aload_n 241 dL_law_240 rfl rfl rfl ?_
  refine k_aload_n 242 dL_law_241 rfl rfl rfl ?_
  refine k_iload_n 243 dL_law_242 rfl rfl rfl ?_
  refine k_iconst (nI 1) 244 dL_law_243 rfl kc_1 ?_
  refine k_iaddE _ 245 dL_law_244 rfl (nI_add _ _) ?_
  refine k_sld 246 hg dL_law_245 rfl (show i + 1 < gn G by omega) (by omega) ?_
  refine k_aload_n 247 dL_law_246 rfl rfl rfl ?_
  refine k_iload_n 248 dL_law_247 rfl rfl rfl ?_
  refine k_iconst (nI 2) 249 dL_law_248 rfl kc_2 ?_
  refine k_iaddE _ 250 dL_law_249 rfl (nI_add _ _) ?_
  refine k_sld 251 hg dL_law_250 rfl (show i + 2 < gn G by omega) (by omega) ?_
  obtain ⟨_, _, _, _, _, _, _, _, _, _, _, _, _, hC1, -⟩ := id hR1
  refine k_V2 (ci := 8) 254 dL_law_251 rfl (vL_law_35 nm) hC1.1 rfl rfl (Nat.le_of_ble_eq_true rfl) rfl ⟨Nat.le_of_ble_eq_true rfl, Nat.le_of_ble_eq_true rfl⟩ (c_X9_person hR1 hO) (fun r2 w2 x2 => ?_)
  obtain ⟨rfl, hR2, hE2⟩ := x2
  have hQ2 := hQ1.fr hE2 (by omega)
  refine k_icmp_eq 911 257 dL_law_254 rfl rfl (fun _ => ?_) (fun c => absurd rfl c)
  exact back _ w2 (show sOK (a_person S (gx G (i + 1)) (gx G (i + 2))).2 from by first | exact hO | (unfold a_person; (repeat split) <;> exact hO)) hQ2 hR2
theorem lwb_5 {G : KG} {nm : String} {i : Nat} {S : St} {w : WD} (hg : gL G) (hn : gn G ≤ 2560) (hi : i + 5 ≤ gn G) (back : LwB G nm i) (hO : sOK S) (hQ : QsM G 117 w 0 S) (hR : RsM G 117 w 104 S (qM S) none) : KRun G (jL nm) 0 (fun r _ => r = some (.int (nI 1))) 259 [some (.ref (gb G)), some (rf G 0), some (rf G 104), some (.int (nI i))] [] 117 3112 w := by
  refine k_aload_n 260 dL_law_259 rfl rfl rfl ?_
  refine k_aload_n 261 dL_law_260 rfl rfl rfl ?_
  refine k_iload_n 262 dL_law_261 rfl rfl rfl ?_
  refine k_iconst (nI 1) 263 dL_law_262 rfl kc_1 ?_
  refine k_iaddE _ 264 dL_law_263 rfl (nI_add _ _) ?_
  refine k_sld 265 hg dL_law_264 rfl (show i + 1 < gn G by omega) (by omega) ?_
  refine k_aload_n 266 dL_law_265 rfl rfl rfl ?_
  refine k_iload_n 267 dL_law_266 rfl rfl rfl ?_
  refine k_iconst (nI 2) 268 dL_law_267 rfl kc_2 ?_
  refine k_iaddE _ 269 dL_law_268 rfl (nI_add _ _) ?_
  refine k_sld 270 hg dL_law_269 rfl (show i + 2 < gn G by omega) (by omega) ?_
  refine k_V2 (ci := 7) 273 dL_law_270 rfl (vL_law_36 nm) hQ.1 rfl rfl (Nat.le_of_ble_eq_true rfl) rfl ⟨Nat.le_of_ble_eq_true rfl, Nat.le_of_ble_eq_true rfl⟩ (c_X8_owes hQ hO) (fun r1 w1 x1 => ?_)
  obtain ⟨rfl, hQ1, hE1⟩ := x1
  have hR1 := hR.fr hE1 (by omega)
  refine k_aload_n 274 dL_law_273 rfl rfl rfl ?_
  refine k_aload_n 275 dL_law_274 rfl rfl rfl ?_
  refine k_iload_n 276 dL_law_275 rfl rfl rfl ?_
  refine k_iconst (nI 1) 277 dL_law_276 rfl kc_1 ?_
  refine k_iaddE _ 278 dL_law_277 rfl (nI_add _ _) ?_
  refine k_sld 279 hg dL_law_278 rfl (show i + 1 < gn G by omega) (by omega) ?_
  refine k_aload_n 280 dL_law_279 rfl rfl rfl ?_
  refine k_iload_n 281 dL_law_280 rfl rfl rfl ?_
  refine k_iconst (nI 2) 282 dL_law_281 rfl kc_2 ?_
  refine k_iaddE _ 283 dL_law_282 rfl (nI_add _ _) ?_
  refine k_sld 284 hg dL_law_283 rfl (show i + 2 < gn G by omega) (by omega) ?_
  obtain ⟨_, _, _, _, _, _, _, _, _, _, _, _, _, hC1, -⟩ := id hR1
  refine k_V2 (ci := 8) 287 dL_law_284 rfl (vL_law_39 nm) hC1.1 rfl rfl (Nat.le_of_ble_eq_true rfl) rfl ⟨Nat.le_of_ble_eq_true rfl, Nat.le_of_ble_eq_true rfl⟩ (c_X9_owes hR1 hO) (fun r2 w2 x2 => ?_)
  obtain ⟨rfl, hR2, hE2⟩ := x2
  have hQ2 := hQ1.fr hE2 (by omega)
  refine k_icmp_eq 911 290 dL_law_287 rfl rfl (fun _ => ?_) (fun c => absurd rfl c)
  exact back _ w2 (show sOK (a_owes S (gx G (i + 1)) (gx G (i + 2))).2 from by first | exact hO | (unfold a_owes; (repeat split) <;> exact hO)) hQ2 hR2
theorem lwb_6 {G : KG} {nm : String} {i : Nat} {S : St} {w : WD} (hg : gL G) (hn : gn G ≤ 2560) (hi : i + 5 ≤ gn G) (back : LwB G nm i) (hO : sOK S) (hQ : QsM G 117 w 0 S) (hR : RsM G 117 w 104 S (qM S) none) : KRun G (jL nm) 0 (fun r _ => r = some (.int (nI 1))) 292 [some (.ref (gb G)), some (rf G 0), some (rf G 104), some (.int (nI i))] [] 117 3112 w := by
  refine k_aload_n 293 dL_law_292 rfl rfl rfl ?_
  refine k_aload_n 294 dL_law_293 rfl rfl rfl ?_
  refine k_iload_n 295 dL_law_294 rfl rfl rfl ?_
  refine k_iconst (nI 1) 296 dL_law_295 rfl kc_1 ?_
  refine k_iaddE _ 297 dL_law_296 rfl (nI_add _ _) ?_
  refine k_sld 298 hg dL_law_297 rfl (show i + 1 < gn G by omega) (by omega) ?_
  refine k_V1 (ci := 7) 301 dL_law_298 rfl (vL_law_40 nm) hQ.1 rfl rfl (Nat.le_of_ble_eq_true rfl) rfl ⟨Nat.le_of_ble_eq_true rfl, Nat.le_of_ble_eq_true rfl⟩ (c_X8_place hQ hO) (fun r1 w1 x1 => ?_)
  obtain ⟨rfl, hQ1, hE1⟩ := x1
  have hR1 := hR.fr hE1 (by omega)
  refine k_aload_n 302 dL_law_301 rfl rfl rfl ?_
  refine k_aload_n 303 dL_law_302 rfl rfl rfl ?_
  refine k_iload_n 304 dL_law_303 rfl rfl rfl ?_
  refine k_iconst (nI 1) 305 dL_law_304 rfl kc_1 ?_
  refine k_iaddE _ 306 dL_law_305 rfl (nI_add _ _) ?_
  refine k_sld 307 hg dL_law_306 rfl (show i + 1 < gn G by omega) (by omega) ?_
  obtain ⟨_, _, _, _, _, _, _, _, _, _, _, _, _, hC1, -⟩ := id hR1
  refine k_V1 (ci := 8) 310 dL_law_307 rfl (vL_law_43 nm) hC1.1 rfl rfl (Nat.le_of_ble_eq_true rfl) rfl ⟨Nat.le_of_ble_eq_true rfl, Nat.le_of_ble_eq_true rfl⟩ (c_X9_place hR1 hO) (fun r2 w2 x2 => ?_)
  obtain ⟨rfl, hR2, hE2⟩ := x2
  have hQ2 := hQ1.fr hE2 (by omega)
  refine k_icmp_eq 911 313 dL_law_310 rfl rfl (fun _ => ?_) (fun c => absurd rfl c)
  exact back _ w2 (show sOK (a_place S (gx G (i + 1))).2 from by first | exact hO | (unfold a_place; (repeat split) <;> exact hO)) hQ2 hR2
theorem lwb_7 {G : KG} {nm : String} {i : Nat} {S : St} {w : WD} (hg : gL G) (hn : gn G ≤ 2560) (hi : i + 5 ≤ gn G) (back : LwB G nm i) (hO : sOK S) (hQ : QsM G 117 w 0 S) (hR : RsM G 117 w 104 S (qM S) none) : KRun G (jL nm) 0 (fun r _ => r = some (.int (nI 1))) 315 [some (.ref (gb G)), some (rf G 0), some (rf G 104), some (.int (nI i))] [] 117 3112 w := by
  refine k_aload_n 316 dL_law_315 rfl rfl rfl ?_
  refine k_aload_n 317 dL_law_316 rfl rfl rfl ?_
  refine k_iload_n 318 dL_law_317 rfl rfl rfl ?_
  refine k_iconst (nI 1) 319 dL_law_318 rfl kc_1 ?_
  refine k_iaddE _ 320 dL_law_319 rfl (nI_add _ _) ?_
  refine k_sld 321 hg dL_law_320 rfl (show i + 1 < gn G by omega) (by omega) ?_
  refine k_V1 (ci := 7) 324 dL_law_321 rfl (vL_law_44 nm) hQ.1 rfl rfl (Nat.le_of_ble_eq_true rfl) rfl ⟨Nat.le_of_ble_eq_true rfl, Nat.le_of_ble_eq_true rfl⟩ (c_X8_would hQ hO) (fun r1 w1 x1 => ?_)
  obtain ⟨rfl, hQ1, hE1⟩ := x1
  have hR1 := hR.fr hE1 (by omega)
  refine k_aload_n 325 dL_law_324 rfl rfl rfl ?_
  refine k_aload_n 326 dL_law_325 rfl rfl rfl ?_
  refine k_iload_n 327 dL_law_326 rfl rfl rfl ?_
  refine k_iconst (nI 1) 328 dL_law_327 rfl kc_1 ?_
  refine k_iaddE _ 329 dL_law_328 rfl (nI_add _ _) ?_
  refine k_sld 330 hg dL_law_329 rfl (show i + 1 < gn G by omega) (by omega) ?_
  obtain ⟨_, _, _, _, _, _, _, _, _, _, _, _, _, hC1, -⟩ := id hR1
  refine k_V1 (ci := 8) 333 dL_law_330 rfl (vL_law_47 nm) hC1.1 rfl rfl (Nat.le_of_ble_eq_true rfl) rfl ⟨Nat.le_of_ble_eq_true rfl, Nat.le_of_ble_eq_true rfl⟩ (c_X9_would hR1 hO) (fun r2 w2 x2 => ?_)
  obtain ⟨rfl, hR2, hE2⟩ := x2
  have hQ2 := hQ1.fr hE2 (by omega)
  refine k_icmp_eq 911 336 dL_law_333 rfl rfl (fun _ => ?_) (fun c => absurd rfl c)
  exact back _ w2 (show sOK (a_would S (gx G (i + 1))).2 from by first | exact hO | (unfold a_would; (repeat split) <;> exact hO)) hQ2 hR2
theorem lwb_8 {G : KG} {nm : String} {i : Nat} {S : St} {w : WD} (hg : gL G) (hn : gn G ≤ 2560) (hi : i + 5 ≤ gn G) (back : LwB G nm i) (hO : sOK S) (hQ : QsM G 117 w 0 S) (hR : RsM G 117 w 104 S (qM S) none) : KRun G (jL nm) 0 (fun r _ => r = some (.int (nI 1))) 338 [some (.ref (gb G)), some (rf G 0), some (rf G 104), some (.int (nI i))] [] 117 3112 w := by
  refine k_aload_n 339 dL_law_338 rfl rfl rfl ?_
  refine k_aload_n 340 dL_law_339 rfl rfl rfl ?_
  refine k_iload_n 341 dL_law_340 rfl rfl rfl ?_
  refine k_iconst (nI 1) 342 dL_law_341 rfl kc_1 ?_
  refine k_iaddE _ 343 dL_law_342 rfl (nI_add _ _) ?_
  refine k_sld 344 hg dL_law_343 rfl (show i + 1 < gn G by omega) (by omega) ?_
  refine k_V1 (ci := 7) 347 dL_law_344 rfl (vL_law_48 nm) hQ.1 rfl rfl (Nat.le_of_ble_eq_true rfl) rfl ⟨Nat.le_of_ble_eq_true rfl, Nat.le_of_ble_eq_true rfl⟩ (c_X8_pass hQ hO) (fun r1 w1 x1 => ?_)
  obtain ⟨rfl, hQ1, hE1⟩ := x1
  have hR1 := hR.fr hE1 (by omega)
  refine k_aload_n 348 dL_law_347 rfl rfl rfl ?_
  refine k_aload_n 349 dL_law_348 rfl rfl rfl ?_
  refine k_iload_n 350 dL_law_349 rfl rfl rfl ?_
  refine k_iconst (nI 1) 351 dL_law_350 rfl kc_1 ?_
  refine k_iaddE _ 352 dL_law_351 rfl (nI_add _ _) ?_
  refine k_sld 353 hg dL_law_352 rfl (show i + 1 < gn G by omega) (by omega) ?_
  obtain ⟨_, _, _, _, _, _, _, _, _, _, _, _, _, hC1, -⟩ := id hR1
  refine k_V1 (ci := 8) 356 dL_law_353 rfl (vL_law_51 nm) hC1.1 rfl rfl (Nat.le_of_ble_eq_true rfl) rfl ⟨Nat.le_of_ble_eq_true rfl, Nat.le_of_ble_eq_true rfl⟩ (c_X9_pass hR1 hO) (fun r2 w2 x2 => ?_)
  obtain ⟨rfl, hR2, hE2⟩ := x2
  have hQ2 := hQ1.fr hE2 (by omega)
  refine k_icmp_eq 911 359 dL_law_356 rfl rfl (fun _ => ?_) (fun c => absurd rfl c)
  exact back _ w2 (sOK_pass hO (gx G (i + 1))) hQ2 hR2
theorem lwb_9 {G : KG} {nm : String} {i : Nat} {S : St} {w : WD} (hg : gL G) (hn : gn G ≤ 2560) (hi : i + 5 ≤ gn G) (back : LwB G nm i) (hO : sOK S) (hQ : QsM G 117 w 0 S) (hR : RsM G 117 w 104 S (qM S) none) : KRun G (jL nm) 0 (fun r _ => r = some (.int (nI 1))) 361 [some (.ref (gb G)), some (rf G 0), some (rf G 104), some (.int (nI i))] [] 117 3112 w := by
  refine k_aload_n 362 dL_law_361 rfl rfl rfl ?_
  refine k_aload_n 363 dL_law_362 rfl rfl rfl ?_
  refine k_iload_n 364 dL_law_363 rfl rfl rfl ?_
  refine k_iconst (nI 1) 365 dL_law_364 rfl kc_1 ?_
  refine k_iaddE _ 366 dL_law_365 rfl (nI_add _ _) ?_
  refine k_sld 367 hg dL_law_366 rfl (show i + 1 < gn G by omega) (by omega) ?_
  refine k_aload_n 368 dL_law_367 rfl rfl rfl ?_
  refine k_iload_n 369 dL_law_368 rfl rfl rfl ?_
  refine k_iconst (nI 2) 370 dL_law_369 rfl kc_2 ?_
  refine k_iaddE _ 371 dL_law_370 rfl (nI_add _ _) ?_
  refine k_sld 372 hg dL_law_371 rfl (show i + 2 < gn G by omega) (by omega) ?_
  refine k_V2 (ci := 7) 375 dL_law_372 rfl (vL_law_52 nm) hQ.1 rfl rfl (Nat.le_of_ble_eq_true rfl) rfl ⟨Nat.le_of_ble_eq_true rfl, Nat.le_of_ble_eq_true rfl⟩ (c_X8_let hQ hO) (fun r1 w1 x1 => ?_)
  obtain ⟨rfl, hQ1, hE1⟩ := x1
  have hR1 := hR.fr hE1 (by omega)
  refine k_aload_n 376 dL_law_375 rfl rfl rfl ?_
  refine k_aload_n 377 dL_law_376 rfl rfl rfl ?_
  refine k_iload_n 378 dL_law_377 rfl rfl rfl ?_
  refine k_iconst (nI 1) 379 dL_law_378 rfl kc_1 ?_
  refine k_iaddE _ 380 dL_law_379 rfl (nI_add _ _) ?_
  refine k_sld 381 hg dL_law_380 rfl (show i + 1 < gn G by omega) (by omega) ?_
  refine k_aload_n 382 dL_law_381 rfl rfl rfl ?_
  refine k_iload_n 383 dL_law_382 rfl rfl rfl ?_
  refine k_iconst (nI 2) 384 dL_law_383 rfl kc_2 ?_
  refine k_iaddE _ 385 dL_law_384 rfl (nI_add _ _) ?_
  refine k_sld 386 hg dL_law_385 rfl (show i + 2 < gn G by omega) (by omega) ?_
  obtain ⟨_, _, _, _, _, _, _, _, _, _, _, _, _, hC1, -⟩ := id hR1
  refine k_V2 (ci := 8) 389 dL_law_386 rfl (vL_law_55 nm) hC1.1 rfl rfl (Nat.le_of_ble_eq_true rfl) rfl ⟨Nat.le_of_ble_eq_true rfl, Nat.le_of_ble_eq_true rfl⟩ (c_X9_let hR1 hO) (fun r2 w2 x2 => ?_)
  obtain ⟨rfl, hR2, hE2⟩ := x2
  have hQ2 := hQ1.fr hE2 (by omega)
  refine k_icmp_eq 911 392 dL_law_389 rfl rfl (fun _ => ?_) (fun c => absurd rfl c)
  exact back _ w2 (sOK_let hO (gx G (i + 1)) (gx G (i + 2))) hQ2 hR2
theorem lwb_10 {G : KG} {nm : String} {i : Nat} {S : St} {w : WD} (hg : gL G) (hn : gn G ≤ 2560) (hi : i + 5 ≤ gn G) (back : LwB G nm i) (hO : sOK S) (hQ : QsM G 117 w 0 S) (hR : RsM G 117 w 104 S (qM S) none) : KRun G (jL nm) 0 (fun r _ => r = some (.int (nI 1))) 394 [some (.ref (gb G)), some (rf G 0), some (rf G 104), some (.int (nI i))] [] 117 3112 w := by
  refine k_aload_n 395 dL_law_394 rfl rfl rfl ?_
  refine k_aload_n 396 dL_law_395 rfl rfl rfl ?_
  refine k_iload_n 397 dL_law_396 rfl rfl rfl ?_
  refine k_iconst (nI 1) 398 dL_law_397 rfl kc_1 ?_
  refine k_iaddE _ 399 dL_law_398 rfl (nI_add _ _) ?_
  refine k_sld 400 hg dL_law_399 rfl (show i + 1 < gn G by omega) (by omega) ?_
  refine k_V1 (ci := 7) 403 dL_law_400 rfl (vL_law_56 nm) hQ.1 rfl rfl (Nat.le_of_ble_eq_true rfl) rfl ⟨Nat.le_of_ble_eq_true rfl, Nat.le_of_ble_eq_true rfl⟩ (c_X8_leave hQ hO) (fun r1 w1 x1 => ?_)
  obtain ⟨rfl, hQ1, hE1⟩ := x1
  have hR1 := hR.fr hE1 (by omega)
  refine k_aload_n 404 dL_law_403 rfl rfl rfl ?_
  refine k_aload_n 405 dL_law_404 rfl rfl rfl ?_
  refine k_iload_n 406 dL_law_405 rfl rfl rfl ?_
  refine k_iconst (nI 1) 407 dL_law_406 rfl kc_1 ?_
  refine k_iaddE _ 408 dL_law_407 rfl (nI_add _ _) ?_
  refine k_sld 409 hg dL_law_408 rfl (show i + 1 < gn G by omega) (by omega) ?_
  obtain ⟨_, _, _, _, _, _, _, _, _, _, _, _, _, hC1, -⟩ := id hR1
  refine k_V1 (ci := 8) 412 dL_law_409 rfl (vL_law_59 nm) hC1.1 rfl rfl (Nat.le_of_ble_eq_true rfl) rfl ⟨Nat.le_of_ble_eq_true rfl, Nat.le_of_ble_eq_true rfl⟩ (c_X9_leave hR1 hO) (fun r2 w2 x2 => ?_)
  obtain ⟨rfl, hR2, hE2⟩ := x2
  have hQ2 := hQ1.fr hE2 (by omega)
  refine k_icmp_eq 911 415 dL_law_412 rfl rfl (fun _ => ?_) (fun c => absurd rfl c)
  exact back _ w2 (sOK_leave hO (gx G (i + 1))) hQ2 hR2
theorem lwb_11 {G : KG} {nm : String} {i : Nat} {S : St} {w : WD} (hg : gL G) (hn : gn G ≤ 2560) (hi : i + 5 ≤ gn G) (back : LwB G nm i) (hO : sOK S) (hQ : QsM G 117 w 0 S) (hR : RsM G 117 w 104 S (qM S) none) : KRun G (jL nm) 0 (fun r _ => r = some (.int (nI 1))) 417 [some (.ref (gb G)), some (rf G 0), some (rf G 104), some (.int (nI i))] [] 117 3112 w := by
  refine k_aload_n 418 dL_law_417 rfl rfl rfl ?_
  refine k_aload_n 419 dL_law_418 rfl rfl rfl ?_
  refine k_iload_n 420 dL_law_419 rfl rfl rfl ?_
  refine k_iconst (nI 1) 421 dL_law_420 rfl kc_1 ?_
  refine k_iaddE _ 422 dL_law_421 rfl (nI_add _ _) ?_
  refine k_sld 423 hg dL_law_422 rfl (show i + 1 < gn G by omega) (by omega) ?_
  refine k_V1 (ci := 7) 426 dL_law_423 rfl (vL_law_60 nm) hQ.1 rfl rfl (Nat.le_of_ble_eq_true rfl) rfl ⟨Nat.le_of_ble_eq_true rfl, Nat.le_of_ble_eq_true rfl⟩ (c_X8_come hQ hO) (fun r1 w1 x1 => ?_)
  obtain ⟨rfl, hQ1, hE1⟩ := x1
  have hR1 := hR.fr hE1 (by omega)
  refine k_aload_n 427 dL_law_426 rfl rfl rfl ?_
  refine k_aload_n 428 dL_law_427 rfl rfl rfl ?_
  refine k_iload_n 429 dL_law_428 rfl rfl rfl ?_
  refine k_iconst (nI 1) 430 dL_law_429 rfl kc_1 ?_
  refine k_iaddE _ 431 dL_law_430 rfl (nI_add _ _) ?_
  refine k_sld 432 hg dL_law_431 rfl (show i + 1 < gn G by omega) (by omega) ?_
  obtain ⟨_, _, _, _, _, _, _, _, _, _, _, _, _, hC1, -⟩ := id hR1
  refine k_V1 (ci := 8) 435 dL_law_432 rfl (vL_law_63 nm) hC1.1 rfl rfl (Nat.le_of_ble_eq_true rfl) rfl ⟨Nat.le_of_ble_eq_true rfl, Nat.le_of_ble_eq_true rfl⟩ (c_X9_come hR1 hO) (fun r2 w2 x2 => ?_)
  obtain ⟨rfl, hR2, hE2⟩ := x2
  have hQ2 := hQ1.fr hE2 (by omega)
  refine k_icmp_eq 911 438 dL_law_435 rfl rfl (fun _ => ?_) (fun c => absurd rfl c)
  exact back _ w2 (sOK_come hO (gx G (i + 1))) hQ2 hR2
theorem lwb_12 {G : KG} {nm : String} {i : Nat} {S : St} {w : WD} (hg : gL G) (hn : gn G ≤ 2560) (hi : i + 5 ≤ gn G) (back : LwB G nm i) (hO : sOK S) (hQ : QsM G 117 w 0 S) (hR : RsM G 117 w 104 S (qM S) none) : KRun G (jL nm) 0 (fun r _ => r = some (.int (nI 1))) 440 [some (.ref (gb G)), some (rf G 0), some (rf G 104), some (.int (nI i))] [] 117 3112 w := by
  refine k_aload_n 441 dL_law_440 rfl rfl rfl ?_
  refine k_aload_n 442 dL_law_441 rfl rfl rfl ?_
  refine k_iload_n 443 dL_law_442 rfl rfl rfl ?_
  refine k_iconst (nI 1) 444 dL_law_443 rfl kc_1 ?_
  refine k_iaddE _ 445 dL_law_444 rfl (nI_add _ _) ?_
  refine k_sld 446 hg dL_law_445 rfl (show i + 1 < gn G by omega) (by omega) ?_
  refine k_aload_n 447 dL_law_446 rfl rfl rfl ?_
  refine k_iload_n 448 dL_law_447 rfl rfl rfl ?_
  refine k_iconst (nI 2) 449 dL_law_448 rfl kc_2 ?_
  refine k_iaddE _ 450 dL_law_449 rfl (nI_add _ _) ?_
  refine k_sld 451 hg dL_law_450 rfl (show i + 2 < gn G by omega) (by omega) ?_
  refine k_V2 (ci := 7) 454 dL_law_451 rfl (vL_law_64 nm) hQ.1 rfl rfl (Nat.le_of_ble_eq_true rfl) rfl ⟨Nat.le_of_ble_eq_true rfl, Nat.le_of_ble_eq_true rfl⟩ (c_X8_pay hQ hO) (fun r1 w1 x1 => ?_)
  obtain ⟨rfl, hQ1, hE1⟩ := x1
  have hR1 := hR.fr hE1 (by omega)
  refine k_aload_n 455 dL_law_454 rfl rfl rfl ?_
  refine k_aload_n 456 dL_law_455 rfl rfl rfl ?_
  refine k_iload_n 457 dL_law_456 rfl rfl rfl ?_
  refine k_iconst (nI 1) 458 dL_law_457 rfl kc_1 ?_
  refine k_iaddE _ 459 dL_law_458 rfl (nI_add _ _) ?_
  refine k_sld 460 hg dL_law_459 rfl (show i + 1 < gn G by omega) (by omega) ?_
  refine k_aload_n 461 dL_law_460 rfl rfl rfl ?_
  refine k_iload_n 462 dL_law_461 rfl rfl rfl ?_
  refine k_iconst (nI 2) 463 dL_law_462 rfl kc_2 ?_
  refine k_iaddE _ 464 dL_law_463 rfl (nI_add _ _) ?_
  refine k_sld 465 hg dL_law_464 rfl (show i + 2 < gn G by omega) (by omega) ?_
  obtain ⟨_, _, _, _, _, _, _, _, _, _, _, _, _, hC1, -⟩ := id hR1
  refine k_V2 (ci := 8) 468 dL_law_465 rfl (vL_law_67 nm) hC1.1 rfl rfl (Nat.le_of_ble_eq_true rfl) rfl ⟨Nat.le_of_ble_eq_true rfl, Nat.le_of_ble_eq_true rfl⟩ (c_X9_pay hR1 hO) (fun r2 w2 x2 => ?_)
  obtain ⟨rfl, hR2, hE2⟩ := x2
  have hQ2 := hQ1.fr hE2 (by omega)
  refine k_icmp_eq 911 471 dL_law_468 rfl rfl (fun _ => ?_) (fun c => absurd rfl c)
  exact back _ w2 (sOK_pay hO (gx G (i + 1)) (gx G (i + 2))) hQ2 hR2
theorem lwb_13 {G : KG} {nm : String} {i : Nat} {S : St} {w : WD} (hg : gL G) (hn : gn G ≤ 2560) (hi : i + 5 ≤ gn G) (back : LwB G nm i) (hO : sOK S) (hQ : QsM G 117 w 0 S) (hR : RsM G 117 w 104 S (qM S) none) : KRun G (jL nm) 0 (fun r _ => r = some (.int (nI 1))) 473 [some (.ref (gb G)), some (rf G 0), some (rf G 104), some (.int (nI i))] [] 117 3112 w := by
  refine k_aload_n 474 dL_law_473 rfl rfl rfl ?_
  refine k_V0 (ci := 7) 477 dL_law_474 rfl (vL_law_68 nm) hQ.1 rfl rfl (Nat.le_of_ble_eq_true rfl) rfl ⟨Nat.le_of_ble_eq_true rfl, Nat.le_of_ble_eq_true rfl⟩ (c_X8_undo hQ hO) (fun r1 w1 x1 => ?_)
  obtain ⟨rfl, hQ1, hE1⟩ := x1
  have hR1 := hR.fr hE1 (by omega)
  refine k_aload_n 478 dL_law_477 rfl rfl rfl ?_
  obtain ⟨_, _, _, _, _, _, _, _, _, _, _, _, _, hC1, -⟩ := id hR1
  refine k_V0 (ci := 8) 481 dL_law_478 rfl (vL_law_71 nm) hC1.1 rfl rfl (Nat.le_of_ble_eq_true rfl) rfl ⟨Nat.le_of_ble_eq_true rfl, Nat.le_of_ble_eq_true rfl⟩ (c_X9_undo hR1 hO) (fun r2 w2 x2 => ?_)
  obtain ⟨rfl, hR2, hE2⟩ := x2
  have hQ2 := hQ1.fr hE2 (by omega)
  refine k_icmp_eq 911 484 dL_law_481 rfl rfl (fun _ => ?_) (fun c => absurd rfl c)
  exact back _ w2 (sOK_undo hO ) hQ2 hR2
theorem lwb_14 {G : KG} {nm : String} {i : Nat} {S : St} {w : WD} (hg : gL G) (hn : gn G ≤ 2560) (hi : i + 5 ≤ gn G) (back : LwB G nm i) (hO : sOK S) (hQ : QsM G 117 w 0 S) (hR : RsM G 117 w 104 S (qM S) none) : KRun G (jL nm) 0 (fun r _ => r = some (.int (nI 1))) 486 [some (.ref (gb G)), some (rf G 0), some (rf G 104), some (.int (nI i))] [] 117 3112 w := by
  refine k_aload_n 487 dL_law_486 rfl rfl rfl ?_
  refine k_aload_n 488 dL_law_487 rfl rfl rfl ?_
  refine k_iload_n 489 dL_law_488 rfl rfl rfl ?_
  refine k_iconst (nI 1) 490 dL_law_489 rfl kc_1 ?_
  refine k_iaddE _ 491 dL_law_490 rfl (nI_add _ _) ?_
  refine k_sld 492 hg dL_law_491 rfl (show i + 1 < gn G by omega) (by omega) ?_
  refine k_aload_n 493 dL_law_492 rfl rfl rfl ?_
  refine k_iload_n 494 dL_law_493 rfl rfl rfl ?_
  refine k_iconst (nI 2) 495 dL_law_494 rfl kc_2 ?_
  refine k_iaddE _ 496 dL_law_495 rfl (nI_add _ _) ?_
  refine k_sld 497 hg dL_law_496 rfl (show i + 2 < gn G by omega) (by omega) ?_
  refine k_aload_n 498 dL_law_497 rfl rfl rfl ?_
  refine k_iload_n 499 dL_law_498 rfl rfl rfl ?_
  refine k_iconst (nI 3) 500 dL_law_499 rfl kc_3 ?_
  refine k_iaddE _ 501 dL_law_500 rfl (nI_add _ _) ?_
  refine k_sld 502 hg dL_law_501 rfl (show i + 3 < gn G by omega) (by omega) ?_
  refine k_V3 (ci := 7) 505 dL_law_502 rfl (vL_law_72 nm) hQ.1 rfl rfl (Nat.le_of_ble_eq_true rfl) rfl ⟨Nat.le_of_ble_eq_true rfl, Nat.le_of_ble_eq_true rfl⟩ (c_X8_behind hQ hO) (fun r1 w1 x1 => ?_)
  obtain ⟨rfl, hQ1, hE1⟩ := x1
  have hR1 := hR.fr hE1 (by omega)
  refine k_aload_n 506 dL_law_505 rfl rfl rfl ?_
  refine k_aload_n 507 dL_law_506 rfl rfl rfl ?_
  refine k_iload_n 508 dL_law_507 rfl rfl rfl ?_
  refine k_iconst (nI 1) 509 dL_law_508 rfl kc_1 ?_
  refine k_iaddE _ 510 dL_law_509 rfl (nI_add _ _) ?_
  refine k_sld 511 hg dL_law_510 rfl (show i + 1 < gn G by omega) (by omega) ?_
  refine k_aload_n 512 dL_law_511 rfl rfl rfl ?_
  refine k_iload_n 513 dL_law_512 rfl rfl rfl ?_
  refine k_iconst (nI 2) 514 dL_law_513 rfl kc_2 ?_
  refine k_iaddE _ 515 dL_law_514 rfl (nI_add _ _) ?_
  refine k_sld 516 hg dL_law_515 rfl (show i + 2 < gn G by omega) (by omega) ?_
  refine k_aload_n 517 dL_law_516 rfl rfl rfl ?_
  refine k_iload_n 518 dL_law_517 rfl rfl rfl ?_
  refine k_iconst (nI 3) 519 dL_law_518 rfl kc_3 ?_
  refine k_iaddE _ 520 dL_law_519 rfl (nI_add _ _) ?_
  refine k_sld 521 hg dL_law_520 rfl (show i + 3 < gn G by omega) (by omega) ?_
  obtain ⟨_, _, _, _, _, _, _, _, _, _, _, _, _, hC1, -⟩ := id hR1
  refine k_V3 (ci := 8) 524 dL_law_521 rfl (vL_law_76 nm) hC1.1 rfl rfl (Nat.le_of_ble_eq_true rfl) rfl ⟨Nat.le_of_ble_eq_true rfl, Nat.le_of_ble_eq_true rfl⟩ (c_X9_behind hR1 hO) (fun r2 w2 x2 => ?_)
  obtain ⟨rfl, hR2, hE2⟩ := x2
  have hQ2 := hQ1.fr hE2 (by omega)
  refine k_icmp_eq 911 527 dL_law_524 rfl rfl (fun _ => ?_) (fun c => absurd rfl c)
  exact back _ w2 (show sOK (a_behind S (gx G (i + 1)) (gx G (i + 2)) (gx G (i + 3))).2 from by first | exact hO | (unfold a_behind; (repeat split) <;> exact hO)) hQ2 hR2
theorem lwb_15 {G : KG} {nm : String} {i : Nat} {S : St} {w : WD} (hg : gL G) (hn : gn G ≤ 2560) (hi : i + 5 ≤ gn G) (back : LwB G nm i) (hO : sOK S) (hQ : QsM G 117 w 0 S) (hR : RsM G 117 w 104 S (qM S) none) : KRun G (jL nm) 0 (fun r _ => r = some (.int (nI 1))) 529 [some (.ref (gb G)), some (rf G 0), some (rf G 104), some (.int (nI i))] [] 117 3112 w := by
  refine k_aload_n 530 dL_law_529 rfl rfl rfl ?_
  refine k_aload_n 531 dL_law_530 rfl rfl rfl ?_
  refine k_iload_n 532 dL_law_531 rfl rfl rfl ?_
  refine k_iconst (nI 1) 533 dL_law_532 rfl kc_1 ?_
  refine k_iaddE _ 534 dL_law_533 rfl (nI_add _ _) ?_
  refine k_sld 535 hg dL_law_534 rfl (show i + 1 < gn G by omega) (by omega) ?_
  refine k_V1 (ci := 7) 538 dL_law_535 rfl (vL_law_77 nm) hQ.1 rfl rfl (Nat.le_of_ble_eq_true rfl) rfl ⟨Nat.le_of_ble_eq_true rfl, Nat.le_of_ble_eq_true rfl⟩ (c_X8_served hQ hO) (fun r1 w1 x1 => ?_)
  obtain ⟨rfl, hQ1, hE1⟩ := x1
  have hR1 := hR.fr hE1 (by omega)
  refine k_aload_n 539 dL_law_538 rfl rfl rfl ?_
  refine k_aload_n 540 dL_law_539 rfl rfl rfl ?_
  refine k_iload_n 541 dL_law_540 rfl rfl rfl ?_
  refine k_iconst (nI 1) 542 dL_law_541 rfl kc_1 ?_
  refine k_iaddE _ 543 dL_law_542 rfl (nI_add _ _) ?_
  refine k_sld 544 hg dL_law_543 rfl (show i + 1 < gn G by omega) (by omega) ?_
  obtain ⟨_, _, _, _, _, _, _, _, _, _, _, _, _, hC1, -⟩ := id hR1
  refine k_V1 (ci := 8) 547 dL_law_544 rfl (vL_law_80 nm) hC1.1 rfl rfl (Nat.le_of_ble_eq_true rfl) rfl ⟨Nat.le_of_ble_eq_true rfl, Nat.le_of_ble_eq_true rfl⟩ (c_X9_served hR1 hO) (fun r2 w2 x2 => ?_)
  obtain ⟨rfl, hR2, hE2⟩ := x2
  have hQ2 := hQ1.fr hE2 (by omega)
  refine k_icmp_eq 911 550 dL_law_547 rfl rfl (fun _ => ?_) (fun c => absurd rfl c)
  exact back _ w2 (show sOK (a_served S (gx G (i + 1))).2 from by first | exact hO | (unfold a_served; (repeat split) <;> exact hO)) hQ2 hR2
theorem lwb_16 {G : KG} {nm : String} {i : Nat} {S : St} {w : WD} (hg : gL G) (hn : gn G ≤ 2560) (hi : i + 5 ≤ gn G) (back : LwB G nm i) (hO : sOK S) (hQ : QsM G 117 w 0 S) (hR : RsM G 117 w 104 S (qM S) none) : KRun G (jL nm) 0 (fun r _ => r = some (.int (nI 1))) 552 [some (.ref (gb G)), some (rf G 0), some (rf G 104), some (.int (nI i))] [] 117 3112 w := by
  refine k_aload_n 553 dL_law_552 rfl rfl rfl ?_
  refine k_aload_n 554 dL_law_553 rfl rfl rfl ?_
  refine k_iload_n 555 dL_law_554 rfl rfl rfl ?_
  refine k_iconst (nI 1) 556 dL_law_555 rfl kc_1 ?_
  refine k_iaddE _ 557 dL_law_556 rfl (nI_add _ _) ?_
  refine k_sld 558 hg dL_law_557 rfl (show i + 1 < gn G by omega) (by omega) ?_
  refine k_aload_n 559 dL_law_558 rfl rfl rfl ?_
  refine k_iload_n 560 dL_law_559 rfl rfl rfl ?_
  refine k_iconst (nI 2) 561 dL_law_560 rfl kc_2 ?_
  refine k_iaddE _ 562 dL_law_561 rfl (nI_add _ _) ?_
  refine k_sld 563 hg dL_law_562 rfl (show i + 2 < gn G by omega) (by omega) ?_
  refine k_aload_n 564 dL_law_563 rfl rfl rfl ?_
  refine k_iload_n 565 dL_law_564 rfl rfl rfl ?_
  refine k_iconst (nI 3) 566 dL_law_565 rfl kc_3 ?_
  refine k_iaddE _ 567 dL_law_566 rfl (nI_add _ _) ?_
  refine k_sld 568 hg dL_law_567 rfl (show i + 3 < gn G by omega) (by omega) ?_
  refine k_V3 (ci := 7) 571 dL_law_568 rfl (vL_law_81 nm) hQ.1 rfl rfl (Nat.le_of_ble_eq_true rfl) rfl ⟨Nat.le_of_ble_eq_true rfl, Nat.le_of_ble_eq_true rfl⟩ (c_X8_stand hQ hO) (fun r1 w1 x1 => ?_)
  obtain ⟨rfl, hQ1, hE1⟩ := x1
  have hR1 := hR.fr hE1 (by omega)
  refine k_aload_n 572 dL_law_571 rfl rfl rfl ?_
  refine k_aload_n 573 dL_law_572 rfl rfl rfl ?_
  refine k_iload_n 574 dL_law_573 rfl rfl rfl ?_
  refine k_iconst (nI 1) 575 dL_law_574 rfl kc_1 ?_
  refine k_iaddE _ 576 dL_law_575 rfl (nI_add _ _) ?_
  refine k_sld 577 hg dL_law_576 rfl (show i + 1 < gn G by omega) (by omega) ?_
  refine k_aload_n 578 dL_law_577 rfl rfl rfl ?_
  refine k_iload_n 579 dL_law_578 rfl rfl rfl ?_
  refine k_iconst (nI 2) 580 dL_law_579 rfl kc_2 ?_
  refine k_iaddE _ 581 dL_law_580 rfl (nI_add _ _) ?_
  refine k_sld 582 hg dL_law_581 rfl (show i + 2 < gn G by omega) (by omega) ?_
  refine k_aload_n 583 dL_law_582 rfl rfl rfl ?_
  refine k_iload_n 584 dL_law_583 rfl rfl rfl ?_
  refine k_iconst (nI 3) 585 dL_law_584 rfl kc_3 ?_
  refine k_iaddE _ 586 dL_law_585 rfl (nI_add _ _) ?_
  refine k_sld 587 hg dL_law_586 rfl (show i + 3 < gn G by omega) (by omega) ?_
  obtain ⟨_, _, _, _, _, _, _, _, _, _, _, _, _, hC1, -⟩ := id hR1
  refine k_V3 (ci := 8) 590 dL_law_587 rfl (vL_law_84 nm) hC1.1 rfl rfl (Nat.le_of_ble_eq_true rfl) rfl ⟨Nat.le_of_ble_eq_true rfl, Nat.le_of_ble_eq_true rfl⟩ (c_X9_stand hR1 hO) (fun r2 w2 x2 => ?_)
  obtain ⟨rfl, hR2, hE2⟩ := x2
  have hQ2 := hQ1.fr hE2 (by omega)
  refine k_icmp_eq 911 593 dL_law_590 rfl rfl (fun _ => ?_) (fun c => absurd rfl c)
  exact back _ w2 (show sOK (a_stand S (gx G (i + 1)) (gx G (i + 2)) (gx G (i + 3))).2 from by first | exact hO | (unfold a_stand; (repeat split) <;> exact hO)) hQ2 hR2
theorem lwb_17 {G : KG} {nm : String} {i : Nat} {S : St} {w : WD} (hg : gL G) (hn : gn G ≤ 2560) (hi : i + 5 ≤ gn G) (back : LwB G nm i) (hO : sOK S) (hQ : QsM G 117 w 0 S) (hR : RsM G 117 w 104 S (qM S) none) : KRun G (jL nm) 0 (fun r _ => r = some (.int (nI 1))) 595 [some (.ref (gb G)), some (rf G 0), some (rf G 104), some (.int (nI i))] [] 117 3112 w := by
  refine k_aload_n 596 dL_law_595 rfl rfl rfl ?_
  refine k_aload_n 597 dL_law_596 rfl rfl rfl ?_
  refine k_iload_n 598 dL_law_597 rfl rfl rfl ?_
  refine k_iconst (nI 1) 599 dL_law_598 rfl kc_1 ?_
  refine k_iaddE _ 600 dL_law_599 rfl (nI_add _ _) ?_
  refine k_sld 601 hg dL_law_600 rfl (show i + 1 < gn G by omega) (by omega) ?_
  refine k_aload_n 602 dL_law_601 rfl rfl rfl ?_
  refine k_iload_n 603 dL_law_602 rfl rfl rfl ?_
  refine k_iconst (nI 2) 604 dL_law_603 rfl kc_2 ?_
  refine k_iaddE _ 605 dL_law_604 rfl (nI_add _ _) ?_
  refine k_sld 606 hg dL_law_605 rfl (show i + 2 < gn G by omega) (by omega) ?_
  refine k_V2 (ci := 7) 609 dL_law_606 rfl (vL_law_85 nm) hQ.1 rfl rfl (Nat.le_of_ble_eq_true rfl) rfl ⟨Nat.le_of_ble_eq_true rfl, Nat.le_of_ble_eq_true rfl⟩ (c_X8_haste hQ hO) (fun r1 w1 x1 => ?_)
  obtain ⟨rfl, hQ1, hE1⟩ := x1
  have hR1 := hR.fr hE1 (by omega)
  refine k_aload_n 610 dL_law_609 rfl rfl rfl ?_
  refine k_aload_n 611 dL_law_610 rfl rfl rfl ?_
  refine k_iload_n 612 dL_law_611 rfl rfl rfl ?_
  refine k_iconst (nI 1) 613 dL_law_612 rfl kc_1 ?_
  refine k_iaddE _ 614 dL_law_613 rfl (nI_add _ _) ?_
  refine k_sld 615 hg dL_law_614 rfl (show i + 1 < gn G by omega) (by omega) ?_
  refine k_aload_n 616 dL_law_615 rfl rfl rfl ?_
  refine k_iload_n 617 dL_law_616 rfl rfl rfl ?_
  refine k_iconst (nI 2) 618 dL_law_617 rfl kc_2 ?_
  refine k_iaddE _ 619 dL_law_618 rfl (nI_add _ _) ?_
  refine k_sld 620 hg dL_law_619 rfl (show i + 2 < gn G by omega) (by omega) ?_
  obtain ⟨_, _, _, _, _, _, _, _, _, _, _, _, _, hC1, -⟩ := id hR1
  refine k_V2 (ci := 8) 623 dL_law_620 rfl (vL_law_88 nm) hC1.1 rfl rfl (Nat.le_of_ble_eq_true rfl) rfl ⟨Nat.le_of_ble_eq_true rfl, Nat.le_of_ble_eq_true rfl⟩ (c_X9_haste hR1 hO) (fun r2 w2 x2 => ?_)
  obtain ⟨rfl, hR2, hE2⟩ := x2
  have hQ2 := hQ1.fr hE2 (by omega)
  refine k_icmp_eq 911 626 dL_law_623 rfl rfl (fun _ => ?_) (fun c => absurd rfl c)
  exact back _ w2 (show sOK (a_haste S (gx G (i + 1)) (gx G (i + 2))).2 from by first | exact hO | (unfold a_haste; (repeat split) <;> exact hO)) hQ2 hR2
theorem lwb_18 {G : KG} {nm : String} {i : Nat} {S : St} {w : WD} (hg : gL G) (hn : gn G ≤ 2560) (hi : i + 5 ≤ gn G) (back : LwB G nm i) (hO : sOK S) (hQ : QsM G 117 w 0 S) (hR : RsM G 117 w 104 S (qM S) none) : KRun G (jL nm) 0 (fun r _ => r = some (.int (nI 1))) 628 [some (.ref (gb G)), some (rf G 0), some (rf G 104), some (.int (nI i))] [] 117 3112 w := by
  refine k_aload_n 629 dL_law_628 rfl rfl rfl ?_
  refine k_V0 (ci := 7) 632 dL_law_629 rfl (vL_law_89 nm) hQ.1 rfl rfl (Nat.le_of_ble_eq_true rfl) rfl ⟨Nat.le_of_ble_eq_true rfl, Nat.le_of_ble_eq_true rfl⟩ (c_X8_clear hQ hO) (fun r1 w1 x1 => ?_)
  obtain ⟨rfl, hQ1, hE1⟩ := x1
  have hR1 := hR.fr hE1 (by omega)
  refine k_aload_n 633 dL_law_632 rfl rfl rfl ?_
  obtain ⟨_, _, _, _, _, _, _, _, _, _, _, _, _, hC1, -⟩ := id hR1
  refine k_V0 (ci := 8) 636 dL_law_633 rfl (vL_law_92 nm) hC1.1 rfl rfl (Nat.le_of_ble_eq_true rfl) rfl ⟨Nat.le_of_ble_eq_true rfl, Nat.le_of_ble_eq_true rfl⟩ (c_X9_clear hR1 hO) (fun r2 w2 x2 => ?_)
  obtain ⟨rfl, hR2, hE2⟩ := x2
  have hQ2 := hQ1.fr hE2 (by omega)
  refine k_icmp_eq 911 639 dL_law_636 rfl rfl (fun _ => ?_) (fun c => absurd rfl c)
  exact back _ w2 (show sOK (a_clear S ).2 from by first | exact hO | (unfold a_clear; (repeat split) <;> exact hO)) hQ2 hR2
theorem lwb_19 {G : KG} {nm : String} {i : Nat} {S : St} {w : WD} (hg : gL G) (hn : gn G ≤ 2560) (hi : i + 5 ≤ gn G) (back : LwB G nm i) (hO : sOK S) (hQ : QsM G 117 w 0 S) (hR : RsM G 117 w 104 S (qM S) none) : KRun G (jL nm) 0 (fun r _ => r = some (.int (nI 1))) 641 [some (.ref (gb G)), some (rf G 0), some (rf G 104), some (.int (nI i))] [] 117 3112 w := by
  refine k_aload_n 642 dL_law_641 rfl rfl rfl ?_
  refine k_aload_n 643 dL_law_642 rfl rfl rfl ?_
  refine k_iload_n 644 dL_law_643 rfl rfl rfl ?_
  refine k_iconst (nI 1) 645 dL_law_644 rfl kc_1 ?_
  refine k_iaddE _ 646 dL_law_645 rfl (nI_add _ _) ?_
  refine k_sld 647 hg dL_law_646 rfl (show i + 1 < gn G by omega) (by omega) ?_
  refine k_V1 (ci := 7) 650 dL_law_647 rfl (vL_law_93 nm) hQ.1 rfl rfl (Nat.le_of_ble_eq_true rfl) rfl ⟨Nat.le_of_ble_eq_true rfl, Nat.le_of_ble_eq_true rfl⟩ (c_X8_miss hQ hO) (fun r1 w1 x1 => ?_)
  obtain ⟨rfl, hQ1, hE1⟩ := x1
  have hR1 := hR.fr hE1 (by omega)
  refine k_aload_n 651 dL_law_650 rfl rfl rfl ?_
  refine k_aload_n 652 dL_law_651 rfl rfl rfl ?_
  refine k_iload_n 653 dL_law_652 rfl rfl rfl ?_
  refine k_iconst (nI 1) 654 dL_law_653 rfl kc_1 ?_
  refine k_iaddE _ 655 dL_law_654 rfl (nI_add _ _) ?_
  refine k_sld 656 hg dL_law_655 rfl (show i + 1 < gn G by omega) (by omega) ?_
  obtain ⟨_, _, _, _, _, _, _, _, _, _, _, _, _, hC1, -⟩ := id hR1
  refine k_V1 (ci := 8) 659 dL_law_656 rfl (vL_law_96 nm) hC1.1 rfl rfl (Nat.le_of_ble_eq_true rfl) rfl ⟨Nat.le_of_ble_eq_true rfl, Nat.le_of_ble_eq_true rfl⟩ (c_X9_miss hR1 hO) (fun r2 w2 x2 => ?_)
  obtain ⟨rfl, hR2, hE2⟩ := x2
  have hQ2 := hQ1.fr hE2 (by omega)
  refine k_icmp_eq 911 662 dL_law_659 rfl rfl (fun _ => ?_) (fun c => absurd rfl c)
  exact back _ w2 (show sOK (a_miss S (gx G (i + 1))).2 from by first | exact hO | (unfold a_miss; (repeat split) <;> exact hO)) hQ2 hR2
theorem lwb_20 {G : KG} {nm : String} {i : Nat} {S : St} {w : WD} (hg : gL G) (hn : gn G ≤ 2560) (hi : i + 5 ≤ gn G) (back : LwB G nm i) (hO : sOK S) (hQ : QsM G 117 w 0 S) (hR : RsM G 117 w 104 S (qM S) none) : KRun G (jL nm) 0 (fun r _ => r = some (.int (nI 1))) 664 [some (.ref (gb G)), some (rf G 0), some (rf G 104), some (.int (nI i))] [] 117 3112 w := by
  refine k_aload_n 665 dL_law_664 rfl rfl rfl ?_
  refine k_aload_n 666 dL_law_665 rfl rfl rfl ?_
  refine k_iload_n 667 dL_law_666 rfl rfl rfl ?_
  refine k_iconst (nI 1) 668 dL_law_667 rfl kc_1 ?_
  refine k_iaddE _ 669 dL_law_668 rfl (nI_add _ _) ?_
  refine k_sld 670 hg dL_law_669 rfl (show i + 1 < gn G by omega) (by omega) ?_
  refine k_aload_n 671 dL_law_670 rfl rfl rfl ?_
  refine k_iload_n 672 dL_law_671 rfl rfl rfl ?_
  refine k_iconst (nI 2) 673 dL_law_672 rfl kc_2 ?_
  refine k_iaddE _ 674 dL_law_673 rfl (nI_add _ _) ?_
  refine k_sld 675 hg dL_law_674 rfl (show i + 2 < gn G by omega) (by omega) ?_
  refine k_aload_n 676 dL_law_675 rfl rfl rfl ?_
  refine k_iload_n 677 dL_law_676 rfl rfl rfl ?_
  refine k_iconst (nI 3) 678 dL_law_677 rfl kc_3 ?_
  refine k_iaddE _ 679 dL_law_678 rfl (nI_add _ _) ?_
  refine k_sld 680 hg dL_law_679 rfl (show i + 3 < gn G by omega) (by omega) ?_
  refine k_V3 (ci := 7) 683 dL_law_680 rfl (vL_law_97 nm) hQ.1 rfl rfl (Nat.le_of_ble_eq_true rfl) rfl ⟨Nat.le_of_ble_eq_true rfl, Nat.le_of_ble_eq_true rfl⟩ (c_X8_see hQ hO) (fun r1 w1 x1 => ?_)
  obtain ⟨rfl, hQ1, hE1⟩ := x1
  have hR1 := hR.fr hE1 (by omega)
  refine k_aload_n 684 dL_law_683 rfl rfl rfl ?_
  refine k_aload_n 685 dL_law_684 rfl rfl rfl ?_
  refine k_iload_n 686 dL_law_685 rfl rfl rfl ?_
  refine k_iconst (nI 1) 687 dL_law_686 rfl kc_1 ?_
  refine k_iaddE _ 688 dL_law_687 rfl (nI_add _ _) ?_
  refine k_sld 689 hg dL_law_688 rfl (show i + 1 < gn G by omega) (by omega) ?_
  refine k_aload_n 690 dL_law_689 rfl rfl rfl ?_
  refine k_iload_n 691 dL_law_690 rfl rfl rfl ?_
  refine k_iconst (nI 2) 692 dL_law_691 rfl kc_2 ?_
  refine k_iaddE _ 693 dL_law_692 rfl (nI_add _ _) ?_
  refine k_sld 694 hg dL_law_693 rfl (show i + 2 < gn G by omega) (by omega) ?_
  refine k_aload_n 695 dL_law_694 rfl rfl rfl ?_
  refine k_iload_n 696 dL_law_695 rfl rfl rfl ?_
  refine k_iconst (nI 3) 697 dL_law_696 rfl kc_3 ?_
  refine k_iaddE _ 698 dL_law_697 rfl (nI_add _ _) ?_
  refine k_sld 699 hg dL_law_698 rfl (show i + 3 < gn G by omega) (by omega) ?_
  obtain ⟨_, _, _, _, _, _, _, _, _, _, _, _, _, hC1, -⟩ := id hR1
  refine k_V3 (ci := 8) 702 dL_law_699 rfl (vL_law_100 nm) hC1.1 rfl rfl (Nat.le_of_ble_eq_true rfl) rfl ⟨Nat.le_of_ble_eq_true rfl, Nat.le_of_ble_eq_true rfl⟩ (c_X9_see hR1 hO) (fun r2 w2 x2 => ?_)
  obtain ⟨rfl, hR2, hE2⟩ := x2
  have hQ2 := hQ1.fr hE2 (by omega)
  refine k_icmp_eq 911 705 dL_law_702 rfl rfl (fun _ => ?_) (fun c => absurd rfl c)
  exact back _ w2 (sOK_see hO (gx G (i + 1)) (gx G (i + 2)) (gx G (i + 3))) hQ2 hR2
theorem lwb_21 {G : KG} {nm : String} {i : Nat} {S : St} {w : WD} (hg : gL G) (hn : gn G ≤ 2560) (hi : i + 5 ≤ gn G) (back : LwB G nm i) (hO : sOK S) (hQ : QsM G 117 w 0 S) (hR : RsM G 117 w 104 S (qM S) none) : KRun G (jL nm) 0 (fun r _ => r = some (.int (nI 1))) 707 [some (.ref (gb G)), some (rf G 0), some (rf G 104), some (.int (nI i))] [] 117 3112 w := by
  refine k_aload_n 708 dL_law_707 rfl rfl rfl ?_
  refine k_V0 (ci := 7) 711 dL_law_708 rfl (vL_law_101 nm) hQ.1 rfl rfl (Nat.le_of_ble_eq_true rfl) rfl ⟨Nat.le_of_ble_eq_true rfl, Nat.le_of_ble_eq_true rfl⟩ (c_X8_forget hQ) (fun r1 w1 x1 => ?_)
  obtain ⟨rfl, hQ1, hE1⟩ := x1
  have hR1 := hR.fr hE1 (by omega)
  refine k_aload_n 712 dL_law_711 rfl rfl rfl ?_
  obtain ⟨_, _, _, _, _, _, _, _, _, _, _, _, _, hC1, -⟩ := id hR1
  refine k_V0 (ci := 8) 715 dL_law_712 rfl (vL_law_104 nm) hC1.1 rfl rfl (Nat.le_of_ble_eq_true rfl) rfl ⟨Nat.le_of_ble_eq_true rfl, Nat.le_of_ble_eq_true rfl⟩ (c_X9_forget hR1) (fun r2 w2 x2 => ?_)
  obtain ⟨rfl, hR2, hE2⟩ := x2
  have hQ2 := hQ1.fr hE2 (by omega)
  refine k_icmp_eq 911 718 dL_law_715 rfl rfl (fun _ => ?_) (fun c => absurd rfl c)
  exact back _ w2 (sOK_forget hO ) hQ2 hR2
theorem lwb_22 {G : KG} {nm : String} {i : Nat} {S : St} {w : WD} (hg : gL G) (hn : gn G ≤ 2560) (hi : i + 5 ≤ gn G) (back : LwB G nm i) (hO : sOK S) (hQ : QsM G 117 w 0 S) (hR : RsM G 117 w 104 S (qM S) none) : KRun G (jL nm) 0 (fun r _ => r = some (.int (nI 1))) 720 [some (.ref (gb G)), some (rf G 0), some (rf G 104), some (.int (nI i))] [] 117 3112 w := by
  refine k_aload_n 721 dL_law_720 rfl rfl rfl ?_
  refine k_aload_n 722 dL_law_721 rfl rfl rfl ?_
  refine k_iload_n 723 dL_law_722 rfl rfl rfl ?_
  refine k_iconst (nI 1) 724 dL_law_723 rfl kc_1 ?_
  refine k_iaddE _ 725 dL_law_724 rfl (nI_add _ _) ?_
  refine k_sld 726 hg dL_law_725 rfl (show i + 1 < gn G by omega) (by omega) ?_
  refine k_V1 (ci := 7) 729 dL_law_726 rfl (vL_law_105 nm) hQ.1 rfl rfl (Nat.le_of_ble_eq_true rfl) rfl ⟨Nat.le_of_ble_eq_true rfl, Nat.le_of_ble_eq_true rfl⟩ (c_X8_orders hQ hO) (fun r1 w1 x1 => ?_)
  obtain ⟨rfl, hQ1, hE1⟩ := x1
  have hR1 := hR.fr hE1 (by omega)
  refine k_aload_n 730 dL_law_729 rfl rfl rfl ?_
  refine k_aload_n 731 dL_law_730 rfl rfl rfl ?_
  refine k_iload_n 732 dL_law_731 rfl rfl rfl ?_
  refine k_iconst (nI 1) 733 dL_law_732 rfl kc_1 ?_
  refine k_iaddE _ 734 dL_law_733 rfl (nI_add _ _) ?_
  refine k_sld 735 hg dL_law_734 rfl (show i + 1 < gn G by omega) (by omega) ?_
  obtain ⟨_, _, _, _, _, _, _, _, _, _, _, _, _, hC1, -⟩ := id hR1
  refine k_V1 (ci := 8) 738 dL_law_735 rfl (vL_law_108 nm) hC1.1 rfl rfl (Nat.le_of_ble_eq_true rfl) rfl ⟨Nat.le_of_ble_eq_true rfl, Nat.le_of_ble_eq_true rfl⟩ (c_X9_orders hR1 hO) (fun r2 w2 x2 => ?_)
  obtain ⟨rfl, hR2, hE2⟩ := x2
  have hQ2 := hQ1.fr hE2 (by omega)
  refine k_icmp_eq 911 741 dL_law_738 rfl rfl (fun _ => ?_) (fun c => absurd rfl c)
  exact back _ w2 (show sOK (a_orders S (gx G (i + 1))).2 from by first | exact hO | (unfold a_orders; (repeat split) <;> exact hO)) hQ2 hR2
theorem lwb_23 {G : KG} {nm : String} {i : Nat} {S : St} {w : WD} (hg : gL G) (hn : gn G ≤ 2560) (hi : i + 5 ≤ gn G) (back : LwB G nm i) (hO : sOK S) (hQ : QsM G 117 w 0 S) (hR : RsM G 117 w 104 S (qM S) none) : KRun G (jL nm) 0 (fun r _ => r = some (.int (nI 1))) 743 [some (.ref (gb G)), some (rf G 0), some (rf G 104), some (.int (nI i))] [] 117 3112 w := by
  refine k_aload_n 744 dL_law_743 rfl rfl rfl ?_
  refine k_aload_n 745 dL_law_744 rfl rfl rfl ?_
  refine k_iload_n 746 dL_law_745 rfl rfl rfl ?_
  refine k_iconst (nI 1) 747 dL_law_746 rfl kc_1 ?_
  refine k_iaddE _ 748 dL_law_747 rfl (nI_add _ _) ?_
  refine k_sld 749 hg dL_law_748 rfl (show i + 1 < gn G by omega) (by omega) ?_
  refine k_V1 (ci := 7) 752 dL_law_749 rfl (vL_law_109 nm) hQ.1 rfl rfl (Nat.le_of_ble_eq_true rfl) rfl ⟨Nat.le_of_ble_eq_true rfl, Nat.le_of_ble_eq_true rfl⟩ (c_X8_kinds hQ hO) (fun r1 w1 x1 => ?_)
  obtain ⟨rfl, hQ1, hE1⟩ := x1
  have hR1 := hR.fr hE1 (by omega)
  refine k_aload_n 753 dL_law_752 rfl rfl rfl ?_
  refine k_aload_n 754 dL_law_753 rfl rfl rfl ?_
  refine k_iload_n 755 dL_law_754 rfl rfl rfl ?_
  refine k_iconst (nI 1) 756 dL_law_755 rfl kc_1 ?_
  refine k_iaddE _ 757 dL_law_756 rfl (nI_add _ _) ?_
  refine k_sld 758 hg dL_law_757 rfl (show i + 1 < gn G by omega) (by omega) ?_
  obtain ⟨_, _, _, _, _, _, _, _, _, _, _, _, _, hC1, -⟩ := id hR1
  refine k_V1 (ci := 8) 761 dL_law_758 rfl (vL_law_112 nm) hC1.1 rfl rfl (Nat.le_of_ble_eq_true rfl) rfl ⟨Nat.le_of_ble_eq_true rfl, Nat.le_of_ble_eq_true rfl⟩ (c_X9_kinds hR1 hO) (fun r2 w2 x2 => ?_)
  obtain ⟨rfl, hR2, hE2⟩ := x2
  have hQ2 := hQ1.fr hE2 (by omega)
  refine k_icmp_eq 911 764 dL_law_761 rfl rfl (fun _ => ?_) (fun c => absurd rfl c)
  exact back _ w2 (show sOK (a_kinds S (gx G (i + 1))).2 from by first | exact hO | (unfold a_kinds; (repeat split) <;> exact hO)) hQ2 hR2
theorem lwb_24 {G : KG} {nm : String} {i : Nat} {S : St} {w : WD} (hg : gL G) (hn : gn G ≤ 2560) (hi : i + 5 ≤ gn G) (back : LwB G nm i) (hO : sOK S) (hQ : QsM G 117 w 0 S) (hR : RsM G 117 w 104 S (qM S) none) : KRun G (jL nm) 0 (fun r _ => r = some (.int (nI 1))) 766 [some (.ref (gb G)), some (rf G 0), some (rf G 104), some (.int (nI i))] [] 117 3112 w := by
  refine k_aload_n 767 dL_law_766 rfl rfl rfl ?_
  refine k_aload_n 768 dL_law_767 rfl rfl rfl ?_
  refine k_iload_n 769 dL_law_768 rfl rfl rfl ?_
  refine k_iconst (nI 1) 770 dL_law_769 rfl kc_1 ?_
  refine k_iaddE _ 771 dL_law_770 rfl (nI_add _ _) ?_
  refine k_sld 772 hg dL_law_771 rfl (show i + 1 < gn G by omega) (by omega) ?_
  refine k_aload_n 773 dL_law_772 rfl rfl rfl ?_
  refine k_iload_n 774 dL_law_773 rfl rfl rfl ?_
  refine k_iconst (nI 2) 775 dL_law_774 rfl kc_2 ?_
  refine k_iaddE _ 776 dL_law_775 rfl (nI_add _ _) ?_
  refine k_sld 777 hg dL_law_776 rfl (show i + 2 < gn G by omega) (by omega) ?_
  refine k_aload_n 778 dL_law_777 rfl rfl rfl ?_
  refine k_iload_n 779 dL_law_778 rfl rfl rfl ?_
  refine k_iconst (nI 3) 780 dL_law_779 rfl kc_3 ?_
  refine k_iaddE _ 781 dL_law_780 rfl (nI_add _ _) ?_
  refine k_sld 782 hg dL_law_781 rfl (show i + 3 < gn G by omega) (by omega) ?_
  refine k_aload_n 783 dL_law_782 rfl rfl rfl ?_
  refine k_iload_n 784 dL_law_783 rfl rfl rfl ?_
  refine k_iconst (nI 4) 785 dL_law_784 rfl kc_4 ?_
  refine k_iaddE _ 786 dL_law_785 rfl (nI_add _ _) ?_
  refine k_sld 787 hg dL_law_786 rfl (show i + 4 < gn G by omega) (by omega) ?_
  refine k_V4 (ci := 7) 790 dL_law_787 rfl (vL_law_113 nm) hQ.1 rfl rfl (Nat.le_of_ble_eq_true rfl) rfl ⟨Nat.le_of_ble_eq_true rfl, Nat.le_of_ble_eq_true rfl⟩ (c_X8_rain hQ hO) (fun r1 w1 x1 => ?_)
  obtain ⟨rfl, hQ1, hE1⟩ := x1
  have hR1 := hR.fr hE1 (by omega)
  refine k_aload_n 791 dL_law_790 rfl rfl rfl ?_
  refine k_aload_n 792 dL_law_791 rfl rfl rfl ?_
  refine k_iload_n 793 dL_law_792 rfl rfl rfl ?_
  refine k_iconst (nI 1) 794 dL_law_793 rfl kc_1 ?_
  refine k_iaddE _ 795 dL_law_794 rfl (nI_add _ _) ?_
  refine k_sld 796 hg dL_law_795 rfl (show i + 1 < gn G by omega) (by omega) ?_
  refine k_aload_n 797 dL_law_796 rfl rfl rfl ?_
  refine k_iload_n 798 dL_law_797 rfl rfl rfl ?_
  refine k_iconst (nI 2) 799 dL_law_798 rfl kc_2 ?_
  refine k_iaddE _ 800 dL_law_799 rfl (nI_add _ _) ?_
  refine k_sld 801 hg dL_law_800 rfl (show i + 2 < gn G by omega) (by omega) ?_
  refine k_aload_n 802 dL_law_801 rfl rfl rfl ?_
  refine k_iload_n 803 dL_law_802 rfl rfl rfl ?_
  refine k_iconst (nI 3) 804 dL_law_803 rfl kc_3 ?_
  refine k_iaddE _ 805 dL_law_804 rfl (nI_add _ _) ?_
  refine k_sld 806 hg dL_law_805 rfl (show i + 3 < gn G by omega) (by omega) ?_
  refine k_aload_n 807 dL_law_806 rfl rfl rfl ?_
  refine k_iload_n 808 dL_law_807 rfl rfl rfl ?_
  refine k_iconst (nI 4) 809 dL_law_808 rfl kc_4 ?_
  refine k_iaddE _ 810 dL_law_809 rfl (nI_add _ _) ?_
  refine k_sld 811 hg dL_law_810 rfl (show i + 4 < gn G by omega) (by omega) ?_
  obtain ⟨_, _, _, _, _, _, _, _, _, _, _, _, _, hC1, -⟩ := id hR1
  refine k_V4 (ci := 8) 814 dL_law_811 rfl (vL_law_117 nm) hC1.1 rfl rfl (Nat.le_of_ble_eq_true rfl) rfl ⟨Nat.le_of_ble_eq_true rfl, Nat.le_of_ble_eq_true rfl⟩ (c_X9_rain hR1 hO) (fun r2 w2 x2 => ?_)
  obtain ⟨rfl, hR2, hE2⟩ := x2
  have hQ2 := hQ1.fr hE2 (by omega)
  refine k_icmp_eq 911 817 dL_law_814 rfl rfl (fun _ => ?_) (fun c => absurd rfl c)
  exact back _ w2 (show sOK (a_rain S (gx G (i + 1)) (gx G (i + 2)) (gx G (i + 3)) (gx G (i + 4))).2 from by first | exact hO | (unfold a_rain; (repeat split) <;> exact hO)) hQ2 hR2
theorem lwb_25 {G : KG} {nm : String} {i : Nat} {S : St} {w : WD} (hg : gL G) (hn : gn G ≤ 2560) (hi : i + 5 ≤ gn G) (back : LwB G nm i) (hO : sOK S) (hQ : QsM G 117 w 0 S) (hR : RsM G 117 w 104 S (qM S) none) : KRun G (jL nm) 0 (fun r _ => r = some (.int (nI 1))) 819 [some (.ref (gb G)), some (rf G 0), some (rf G 104), some (.int (nI i))] [] 117 3112 w := by
  refine k_aload_n 820 dL_law_819 rfl rfl rfl ?_
  refine k_aload_n 821 dL_law_820 rfl rfl rfl ?_
  refine k_iload_n 822 dL_law_821 rfl rfl rfl ?_
  refine k_iconst (nI 1) 823 dL_law_822 rfl kc_1 ?_
  refine k_iaddE _ 824 dL_law_823 rfl (nI_add _ _) ?_
  refine k_sld 825 hg dL_law_824 rfl (show i + 1 < gn G by omega) (by omega) ?_
  refine k_aload_n 826 dL_law_825 rfl rfl rfl ?_
  refine k_iload_n 827 dL_law_826 rfl rfl rfl ?_
  refine k_iconst (nI 2) 828 dL_law_827 rfl kc_2 ?_
  refine k_iaddE _ 829 dL_law_828 rfl (nI_add _ _) ?_
  refine k_sld 830 hg dL_law_829 rfl (show i + 2 < gn G by omega) (by omega) ?_
  refine k_aload_n 831 dL_law_830 rfl rfl rfl ?_
  refine k_iload_n 832 dL_law_831 rfl rfl rfl ?_
  refine k_iconst (nI 3) 833 dL_law_832 rfl kc_3 ?_
  refine k_iaddE _ 834 dL_law_833 rfl (nI_add _ _) ?_
  refine k_sld 835 hg dL_law_834 rfl (show i + 3 < gn G by omega) (by omega) ?_
  refine k_V3 (ci := 7) 838 dL_law_835 rfl (vL_law_118 nm) hQ.1 rfl rfl (Nat.le_of_ble_eq_true rfl) rfl ⟨Nat.le_of_ble_eq_true rfl, Nat.le_of_ble_eq_true rfl⟩ (c_X8_day hQ hO) (fun r1 w1 x1 => ?_)
  obtain ⟨rfl, hQ1, hE1⟩ := x1
  have hR1 := hR.fr hE1 (by omega)
  refine k_aload_n 839 dL_law_838 rfl rfl rfl ?_
  refine k_aload_n 840 dL_law_839 rfl rfl rfl ?_
  refine k_iload_n 841 dL_law_840 rfl rfl rfl ?_
  refine k_iconst (nI 1) 842 dL_law_841 rfl kc_1 ?_
  refine k_iaddE _ 843 dL_law_842 rfl (nI_add _ _) ?_
  refine k_sld 844 hg dL_law_843 rfl (show i + 1 < gn G by omega) (by omega) ?_
  refine k_aload_n 845 dL_law_844 rfl rfl rfl ?_
  refine k_iload_n 846 dL_law_845 rfl rfl rfl ?_
  refine k_iconst (nI 2) 847 dL_law_846 rfl kc_2 ?_
  refine k_iaddE _ 848 dL_law_847 rfl (nI_add _ _) ?_
  refine k_sld 849 hg dL_law_848 rfl (show i + 2 < gn G by omega) (by omega) ?_
  refine k_aload_n 850 dL_law_849 rfl rfl rfl ?_
  refine k_iload_n 851 dL_law_850 rfl rfl rfl ?_
  refine k_iconst (nI 3) 852 dL_law_851 rfl kc_3 ?_
  refine k_iaddE _ 853 dL_law_852 rfl (nI_add _ _) ?_
  refine k_sld 854 hg dL_law_853 rfl (show i + 3 < gn G by omega) (by omega) ?_
  obtain ⟨_, _, _, _, _, _, _, _, _, _, _, _, _, hC1, -⟩ := id hR1
  refine k_V3 (ci := 8) 857 dL_law_854 rfl (vL_law_121 nm) hC1.1 rfl rfl (Nat.le_of_ble_eq_true rfl) rfl ⟨Nat.le_of_ble_eq_true rfl, Nat.le_of_ble_eq_true rfl⟩ (c_X9_day hR1 hO) (fun r2 w2 x2 => ?_)
  obtain ⟨rfl, hR2, hE2⟩ := x2
  have hQ2 := hQ1.fr hE2 (by omega)
  refine k_icmp_eq 911 860 dL_law_857 rfl rfl (fun _ => ?_) (fun c => absurd rfl c)
  exact back _ w2 (show sOK (a_day S (gx G (i + 1)) (gx G (i + 2)) (gx G (i + 3))).2 from by first | exact hO | (unfold a_day; (repeat split) <;> exact hO)) hQ2 hR2
theorem lwb_26 {G : KG} {nm : String} {i : Nat} {S : St} {w : WD} (hg : gL G) (hn : gn G ≤ 2560) (hi : i + 5 ≤ gn G) (back : LwB G nm i) (hO : sOK S) (hQ : QsM G 117 w 0 S) (hR : RsM G 117 w 104 S (qM S) none) : KRun G (jL nm) 0 (fun r _ => r = some (.int (nI 1))) 862 [some (.ref (gb G)), some (rf G 0), some (rf G 104), some (.int (nI i))] [] 117 3112 w := by
  refine k_aload_n 863 dL_law_862 rfl rfl rfl ?_
  refine k_V0 (ci := 7) 866 dL_law_863 rfl (vL_law_122 nm) hQ.1 rfl rfl (Nat.le_of_ble_eq_true rfl) rfl ⟨Nat.le_of_ble_eq_true rfl, Nat.le_of_ble_eq_true rfl⟩ (c_X8_keep hQ hO) (fun r1 w1 x1 => ?_)
  obtain ⟨rfl, hQ1, hE1⟩ := x1
  have hR1 := hR.fr hE1 (by omega)
  refine k_aload_n 867 dL_law_866 rfl rfl rfl ?_
  obtain ⟨_, _, _, _, _, _, _, _, _, _, _, _, _, hC1, -⟩ := id hR1
  refine k_V0 (ci := 8) 870 dL_law_867 rfl (vL_law_125 nm) hC1.1 rfl rfl (Nat.le_of_ble_eq_true rfl) rfl ⟨Nat.le_of_ble_eq_true rfl, Nat.le_of_ble_eq_true rfl⟩ (c_X9_keep hR1 hO) (fun r2 w2 x2 => ?_)
  obtain ⟨rfl, hR2, hE2⟩ := x2
  have hQ2 := hQ1.fr hE2 (by omega)
  refine k_icmp_eq 911 873 dL_law_870 rfl rfl (fun _ => ?_) (fun c => absurd rfl c)
  exact back _ w2 (sOK_keep hO ) hQ2 hR2
theorem lwb_27 {G : KG} {nm : String} {i : Nat} {S : St} {w : WD} (hg : gL G) (hn : gn G ≤ 2560) (hi : i + 5 ≤ gn G) (back : LwB G nm i) (hO : sOK S) (hQ : QsM G 117 w 0 S) (hR : RsM G 117 w 104 S (qM S) none) : KRun G (jL nm) 0 (fun r _ => r = some (.int (nI 1))) 875 [some (.ref (gb G)), some (rf G 0), some (rf G 104), some (.int (nI i))] [] 117 3112 w := by
  refine k_aload_n 876 dL_law_875 rfl rfl rfl ?_
  refine k_V0 (ci := 7) 879 dL_law_876 rfl (vL_law_126 nm) hQ.1 rfl rfl (Nat.le_of_ble_eq_true rfl) rfl ⟨Nat.le_of_ble_eq_true rfl, Nat.le_of_ble_eq_true rfl⟩ (c_X8_back hQ hO) (fun r1 w1 x1 => ?_)
  obtain ⟨rfl, hQ1, hE1⟩ := x1
  have hR1 := hR.fr hE1 (by omega)
  refine k_aload_n 880 dL_law_879 rfl rfl rfl ?_
  obtain ⟨_, _, _, _, _, _, _, _, _, _, _, _, _, hC1, -⟩ := id hR1
  refine k_V0 (ci := 8) 883 dL_law_880 rfl (vL_law_129 nm) hC1.1 rfl rfl (Nat.le_of_ble_eq_true rfl) rfl ⟨Nat.le_of_ble_eq_true rfl, Nat.le_of_ble_eq_true rfl⟩ (c_X9_back hR1 hO) (fun r2 w2 x2 => ?_)
  obtain ⟨rfl, hR2, hE2⟩ := x2
  have hQ2 := hQ1.fr hE2 (by omega)
  refine k_icmp_eq 911 886 dL_law_883 rfl rfl (fun _ => ?_) (fun c => absurd rfl c)
  exact back _ w2 (sOK_back hO ) hQ2 hR2
theorem lwb_28 {G : KG} {nm : String} {i : Nat} {S : St} {w : WD} (hg : gL G) (hn : gn G ≤ 2560) (hi : i + 5 ≤ gn G) (back : LwB G nm i) (hO : sOK S) (hQ : QsM G 117 w 0 S) (hR : RsM G 117 w 104 S (qM S) none) : KRun G (jL nm) 0 (fun r _ => r = some (.int (nI 1))) 888 [some (.ref (gb G)), some (rf G 0), some (rf G 104), some (.int (nI i))] [] 117 3112 w := by
  refine k_aload_n 889 dL_law_888 rfl rfl rfl ?_
  refine k_aload_n 890 dL_law_889 rfl rfl rfl ?_
  refine k_iload_n 891 dL_law_890 rfl rfl rfl ?_
  refine k_iconst (nI 1) 892 dL_law_891 rfl kc_1 ?_
  refine k_iaddE _ 893 dL_law_892 rfl (nI_add _ _) ?_
  refine k_sld 894 hg dL_law_893 rfl (show i + 1 < gn G by omega) (by omega) ?_
  refine k_V1 (ci := 7) 897 dL_law_894 rfl (vL_law_130 nm) hQ.1 rfl rfl (Nat.le_of_ble_eq_true rfl) rfl ⟨Nat.le_of_ble_eq_true rfl, Nat.le_of_ble_eq_true rfl⟩ (c_X8_count hQ hO) (fun r1 w1 x1 => ?_)
  obtain ⟨rfl, hQ1, hE1⟩ := x1
  have hR1 := hR.fr hE1 (by omega)
  refine k_aload_n 898 dL_law_897 rfl rfl rfl ?_
  refine k_aload_n 899 dL_law_898 rfl rfl rfl ?_
  refine k_iload_n 900 dL_law_899 rfl rfl rfl ?_
  refine k_iconst (nI 1) 901 dL_law_900 rfl kc_1 ?_
  refine k_iaddE _ 902 dL_law_901 rfl (nI_add _ _) ?_
  refine k_sld 903 hg dL_law_902 rfl (show i + 1 < gn G by omega) (by omega) ?_
  obtain ⟨_, _, _, _, _, _, _, _, _, _, _, _, _, hC1, -⟩ := id hR1
  refine k_V1 (ci := 8) 906 dL_law_903 rfl (vL_law_133 nm) hC1.1 rfl rfl (Nat.le_of_ble_eq_true rfl) rfl ⟨Nat.le_of_ble_eq_true rfl, Nat.le_of_ble_eq_true rfl⟩ (c_X9_count hR1 hO) (fun r2 w2 x2 => ?_)
  obtain ⟨rfl, hR2, hE2⟩ := x2
  have hQ2 := hQ1.fr hE2 (by omega)
  refine k_icmp_eq 911 909 dL_law_906 rfl rfl (fun _ => ?_) (fun c => absurd rfl c)
  exact back _ w2 (show sOK (a_count S (gx G (i + 1))).2 from by first | exact hO | (unfold a_count; (repeat split) <;> exact hO)) hQ2 hR2
theorem law_loop {G : KG} {nm : String} (hg : gL G) (hn : gn G ≤ 2560) : ∀ (d i : Nat) (S : St) (w : WD), gn G ≤ i + d → i ≤ 2560 → sOK S → QsM G 117 w 0 S → RsM G 117 w 104 S (qM S) none → KRun G (jL nm) 0 (fun r _ => r = some (.int (nI 1))) 18 [some (.ref (gb G)), some (rf G 0), some (rf G 104), some (.int (nI i))] [] 117 3112 w := by
  intro d
  induction d with
  | zero =>
    intro i S w hd hi hO hQ hR
    refine k_iload_n 19 dL_law_18 rfl rfl rfl ?_
    refine k_aload_n 20 dL_law_19 rfl rfl rfl ?_
    refine k_slen 21 hg dL_law_20 rfl ?_
    refine k_iconst (nI 5) 22 dL_law_21 rfl kc_5 ?_
    refine k_isub 23 dL_law_22 rfl ?_
    refine k_icmp_gt 917 26 dL_law_23 rfl rfl (fun _ => ?_) (fun c => ?_)
    · refine k_iconst (nI 1) 918 dL_law_917 rfl kc_1 ?_
      exact k_zret dL_law_918 rfl (by decide) rfl (Nat.le_refl _) rfl
    · exfalso
      rw [Int32.lt_iff_toInt_lt, law_sub hn, nI_toInt (by omega)] at c
      omega
  | succ d ih =>
    intro i S w hd hi hO hQ hR
    refine k_iload_n 19 dL_law_18 rfl rfl rfl ?_
    refine k_aload_n 20 dL_law_19 rfl rfl rfl ?_
    refine k_slen 21 hg dL_law_20 rfl ?_
    refine k_iconst (nI 5) 22 dL_law_21 rfl kc_5 ?_
    refine k_isub 23 dL_law_22 rfl ?_
    refine k_icmp_gt 917 26 dL_law_23 rfl rfl (fun _ => ?_) (fun c => ?_)
    · refine k_iconst (nI 1) 918 dL_law_917 rfl kc_1 ?_
      exact k_zret dL_law_918 rfl (by decide) rfl (Nat.le_refl _) rfl
    rw [Int32.lt_iff_toInt_lt, law_sub hn, nI_toInt (by omega)] at c
    have hi5 : i + 5 ≤ gn G := by omega
    have back : LwB G nm i := by
      intro S1 w1 hO1 hQ1 hR1
      refine k_iinc _ _ 914 dL_law_911 rfl rfl (show nI i + Int32.ofInt 5 = nI (i + 5) from nI_add i 5) (show (3 : Nat) < 4 by decide) rfl rfl ?_
      refine k_goto 18 dL_law_914 rfl ?_
      exact ih (i + 5) S1 w1 (by omega) (by omega) hO1 hQ1 hR1
    refine k_aload_n 27 dL_law_26 rfl rfl rfl ?_
    refine k_iload_n 28 dL_law_27 rfl rfl rfl ?_
    refine k_sld 29 hg dL_law_28 rfl (show i < gn G by omega) (by omega) ?_
    refine k_bipush (nI 31) 31 dL_law_29 rfl kb_31 ?_
    obtain ⟨k, hk, ek⟩ := law_and (gx G i)
    refine k_iandE _ 32 dL_law_31 rfl ek ?_
    clear ek
    by_cases h29 : 29 ≤ k
    · refine k_tableOut 911 dL_law_32 (Or.inr (by rw [nI_toInt (by omega)]; omega)) rfl ?_
      exact back S w hO hQ hR
    · have hx : ∀ (j : Nat), k = j → j < 29 → (nI k).toInt = (j : Int) := fun j e hj => by rw [e, nI_toInt (by omega)]
      have hc : k = 0 ∨ k = 1 ∨ k = 2 ∨ k = 3 ∨ k = 4 ∨ k = 5 ∨ k = 6 ∨ k = 7 ∨ k = 8 ∨ k = 9 ∨ k = 10 ∨ k = 11 ∨ k = 12 ∨ k = 13 ∨ k = 14 ∨ k = 15 ∨ k = 16 ∨ k = 17 ∨ k = 18 ∨ k = 19 ∨ k = 20 ∨ k = 21 ∨ k = 22 ∨ k = 23 ∨ k = 24 ∨ k = 25 ∨ k = 26 ∨ k = 27 ∨ k = 28 := by omega
      rcases hc with rfl | rfl | rfl | rfl | rfl | rfl | rfl | rfl | rfl | rfl | rfl | rfl | rfl | rfl | rfl | rfl | rfl | rfl | rfl | rfl | rfl | rfl | rfl | rfl | rfl | rfl | rfl | rfl | rfl
      · exact k_tableIn (off := 132) 164 dL_law_32 (by decide) (by decide) (by decide) rfl (lwb_0 hg hn hi5 back hO hQ hR)
      · exact k_tableIn (off := 155) 187 dL_law_32 (by decide) (by decide) (by decide) rfl (lwb_1 hg hn hi5 back hO hQ hR)
      · exact k_tableIn (off := 168) 200 dL_law_32 (by decide) (by decide) (by decide) rfl (lwb_2 hg hn hi5 back hO hQ hR)
      · exact k_tableIn (off := 181) 213 dL_law_32 (by decide) (by decide) (by decide) rfl (lwb_3 hg hn hi5 back hO hQ hR)
      · exact k_tableIn (off := 194) 226 dL_law_32 (by decide) (by decide) (by decide) rfl (lwb_4 hg hn hi5 back hO hQ hR)
      · exact k_tableIn (off := 227) 259 dL_law_32 (by decide) (by decide) (by decide) rfl (lwb_5 hg hn hi5 back hO hQ hR)
      · exact k_tableIn (off := 260) 292 dL_law_32 (by decide) (by decide) (by decide) rfl (lwb_6 hg hn hi5 back hO hQ hR)
      · exact k_tableIn (off := 283) 315 dL_law_32 (by decide) (by decide) (by decide) rfl (lwb_7 hg hn hi5 back hO hQ hR)
      · exact k_tableIn (off := 306) 338 dL_law_32 (by decide) (by decide) (by decide) rfl (lwb_8 hg hn hi5 back hO hQ hR)
      · exact k_tableIn (off := 329) 361 dL_law_32 (by decide) (by decide) (by decide) rfl (lwb_9 hg hn hi5 back hO hQ hR)
      · exact k_tableIn (off := 362) 394 dL_law_32 (by decide) (by decide) (by decide) rfl (lwb_10 hg hn hi5 back hO hQ hR)
      · exact k_tableIn (off := 385) 417 dL_law_32 (by decide) (by decide) (by decide) rfl (lwb_11 hg hn hi5 back hO hQ hR)
      · exact k_tableIn (off := 408) 440 dL_law_32 (by decide) (by decide) (by decide) rfl (lwb_12 hg hn hi5 back hO hQ hR)
      · exact k_tableIn (off := 441) 473 dL_law_32 (by decide) (by decide) (by decide) rfl (lwb_13 hg hn hi5 back hO hQ hR)
      · exact k_tableIn (off := 454) 486 dL_law_32 (by decide) (by decide) (by decide) rfl (lwb_14 hg hn hi5 back hO hQ hR)
      · exact k_tableIn (off := 497) 529 dL_law_32 (by decide) (by decide) (by decide) rfl (lwb_15 hg hn hi5 back hO hQ hR)
      · exact k_tableIn (off := 520) 552 dL_law_32 (by decide) (by decide) (by decide) rfl (lwb_16 hg hn hi5 back hO hQ hR)
      · exact k_tableIn (off := 563) 595 dL_law_32 (by decide) (by decide) (by decide) rfl (lwb_17 hg hn hi5 back hO hQ hR)
      · exact k_tableIn (off := 596) 628 dL_law_32 (by decide) (by decide) (by decide) rfl (lwb_18 hg hn hi5 back hO hQ hR)
      · exact k_tableIn (off := 609) 641 dL_law_32 (by decide) (by decide) (by decide) rfl (lwb_19 hg hn hi5 back hO hQ hR)
      · exact k_tableIn (off := 632) 664 dL_law_32 (by decide) (by decide) (by decide) rfl (lwb_20 hg hn hi5 back hO hQ hR)
      · exact k_tableIn (off := 675) 707 dL_law_32 (by decide) (by decide) (by decide) rfl (lwb_21 hg hn hi5 back hO hQ hR)
      · exact k_tableIn (off := 688) 720 dL_law_32 (by decide) (by decide) (by decide) rfl (lwb_22 hg hn hi5 back hO hQ hR)
      · exact k_tableIn (off := 711) 743 dL_law_32 (by decide) (by decide) (by decide) rfl (lwb_23 hg hn hi5 back hO hQ hR)
      · exact k_tableIn (off := 734) 766 dL_law_32 (by decide) (by decide) (by decide) rfl (lwb_24 hg hn hi5 back hO hQ hR)
      · exact k_tableIn (off := 787) 819 dL_law_32 (by decide) (by decide) (by decide) rfl (lwb_25 hg hn hi5 back hO hQ hR)
      · exact k_tableIn (off := 830) 862 dL_law_32 (by decide) (by decide) (by decide) rfl (lwb_26 hg hn hi5 back hO hQ hR)
      · exact k_tableIn (off := 843) 875 dL_law_32 (by decide) (by decide) (by decide) rfl (lwb_27 hg hn hi5 back hO hQ hR)
      · exact k_tableIn (off := 856) 888 dL_law_32 (by decide) (by decide) (by decide) rfl (lwb_28 hg hn hi5 back hO hQ hR)
theorem law_run {G : KG} {nm : String} {w : WD} (hg : gL G) (hn : gn G ≤ 2560) : KRun G (jL nm) 0 (fun r _ => r = some (.int (nI 1))) 0 [some (.ref (gb G)), none, none, none] [] 0 0 w := by
  refine k_new (ci := 7) (C := RX8) (T := TX8) (Nf := 8) 3 hg dL_law_0 rfl [.null, .null, .null, .null, .null, .null, .null, .null] rfl (nL_law_7 nm).1 tyX8 tyX8_ok (nL_law_7 nm).2 (by decide +kernel) ⟨Nat.le_of_ble_eq_true rfl, Nat.le_of_ble_eq_true rfl⟩ ?_
  refine k_dup 4 dL_law_3 rfl rfl ?_
  refine k_callI (As := []) 7 dL_law_4 rfl (vL_law_9 nm) rfl rfl (Nat.le_of_ble_eq_true rfl) ⟨Nat.le_of_ble_eq_true rfl, Nat.le_of_ble_eq_true rfl⟩ (c_X8_init (a := 0) hg (va_up_self _ _ _)) (fun r1 w1 x1 => ?_)
  obtain ⟨rfl, hQ, hE⟩ := x1
  refine k_cs 104 1753 rfl rfl ?_
  refine k_astore_n _ 8 dL_law_7 rfl rfl (show (1 : Nat) < 4 by decide) rfl rfl ?_
  refine k_new (ci := 8) (C := RX9) (T := TX9) (Nf := 17) 11 hg dL_law_8 rfl [.null, .int (nI 0), .null, .null, .null, .null, .null, .int (nI 0), .null, .int (nI 0), .null, .int (nI 0), .int (nI 0), .null, .null, .null, .null] rfl (nL_law_10 nm).1 tyX9 tyX9_ok (nL_law_10 nm).2 (by decide +kernel) ⟨Nat.le_of_ble_eq_true rfl, Nat.le_of_ble_eq_true rfl⟩ ?_
  refine k_dup 12 dL_law_11 rfl rfl ?_
  refine k_callI (As := []) 15 dL_law_12 rfl (vL_law_12 nm) rfl rfl (Nat.le_of_ble_eq_true rfl) ⟨Nat.le_of_ble_eq_true rfl, Nat.le_of_ble_eq_true rfl⟩ (c_X9_init (b := 104) hg (va_up_self _ _ _)) (fun r2 w2 x2 => ?_)
  obtain ⟨rfl, hR, hE2⟩ := x2
  refine k_cs 117 3112 rfl rfl ?_
  refine k_astore_n _ 16 dL_law_15 rfl rfl (show (2 : Nat) < 4 by decide) rfl rfl ?_
  refine k_iconst (nI 0) 17 dL_law_16 rfl kc_0 ?_
  refine k_istore_n _ 18 dL_law_17 rfl rfl (show (3 : Nat) < 4 by decide) rfl rfl ?_
  have hQ1 : QsM G 117 w2 0 kqS0 := (hQ.mn (by omega)).fr (lo := 104) (hi := 117) (fun k hk => (hE2 k (by omega)).trans (va_up_ne _ _ (by omega))) (by omega)
  exact law_loop hg hn (gn G) 0 kqS0 w2 (by omega) (by omega) kqS0_ok hQ1 hR
