/-! THE LAW, call by call (laid by wip/gen/lawc.py) -/
theorem c_evening2 {n : Nat} {σ τ : St} (h : INV n σ τ) : ∃ r σ' τ', fX5_evening σ = some (r, σ') ∧ fX6_evening τ = some (r, τ') ∧ INV (n + 1) σ' τ' ∧ pot σ ≤ pot σ' ∧ sameN σ' σ := by
  have g0 : G ((tn τ : Int) + 30 * n) σ (pI τ 23 0 0 0) := h.1
  have f0 : FF σ τ σ (pI τ 23 0 0 0) → True := fun _ => trivial
  obtain ⟨t0, ht0⟩ : ∃ t0, t0 = pI τ 23 0 0 0 := ⟨_, rfl⟩
  rw [← ht0] at g0
  have g1 := G_net g0 (m := 0) (by omega)
  have g2 := G_net g1 (m := 1) (by omega)
  have g3 := G_net g2 (m := 2) (by omega)
  have g4 := G_net g3 (m := 3) (by omega)
  have g5 := G_net g4 (m := 4) (by omega)
  have ff := FF_tr (FF_tr (FF_tr (FF_net σ t0 0) (FF_net _ _ 1)) (FF_tr (FF_net _ _ 2) (FF_net _ _ 3))) (FF_net _ _ 4)
  obtain ⟨x1, y1⟩ := eve_S g0 (i := 0) (by omega) 999 999 0
  obtain ⟨x2, y2⟩ := eve_S g1 (i := 1) (by omega) 998 998 (0 + chS t0 0)
  obtain ⟨x3, y3⟩ := eve_S g2 (i := 2) (by omega) 997 997 (0 + chS t0 0 + chS (neT t0 0) 1)
  obtain ⟨x4, y4⟩ := eve_S g3 (i := 3) (by omega) 996 996 (0 + chS t0 0 + chS (neT t0 0) 1 + chS (neT (neT t0 0) 1) 2)
  obtain ⟨x5, y5⟩ := eve_S g4 (i := 4) (by omega) 995 995 (0 + chS t0 0 + chS (neT t0 0) 1 + chS (neT (neT t0 0) 1) 2 + chS (neT (neT (neT t0 0) 1) 2) 3)
  have hL : ∀ (s : St) (v : Int64), fX5_evening_L4 995 s (nI 5) v = some (Int64.toInt32 v, s) := fun s v => by
    show fX5_evening_L4 (994 + 1) _ _ _ = _
    rw [fX5_evening_L4.eq_2, if_pos (show (5 : Int32) ≤ nI 5 by decide)]
  have hM : ∀ (s : St) (v : Int64), fX6_evening_L9 995 s (nI 5) v = some (Int64.toInt32 v, s) := fun s v => by
    show fX6_evening_L9 (994 + 1) _ _ _ = _
    rw [fX6_evening_L9.eq_2, if_pos (show (5 : Int32) ≤ nI 5 by decide)]
  have hx : fX5_evening σ = _ := (x1.trans x2).trans ((x3.trans x4).trans (x5.trans (hL _ _)))
  have hy : fX6_evening_L9 1000 t0 0 0 = _ := (y1.trans y2).trans ((y3.trans y4).trans (y5.trans (hM _ _)))
  have hz : fX6_evening τ = fX6_evening_L9 1000 t0 0 0 := by unfold fX6_evening; rw [← ht0]
  refine ⟨_, _, _, hx, hz.trans hy, ?_⟩
  · have e9 : ∀ m, gI t0 9 0 m = gI τ 9 0 m := fun m => by rw [ht0]; rfl
    have e10 : ∀ m, gI t0 10 0 m = gI τ 10 0 m := fun m => by rw [ht0]; rfl
    have e8 : ∀ m, gL t0 8 0 m = gL τ 8 0 m := fun m => by rw [ht0]; rfl
    have e21 : gI t0 21 0 0 = gI τ 21 0 0 := by rw [ht0]; rfl
    exact ⟨INV_of h g5 (fun m => ff.2.1 m) (fun m => (ff.1.1.2.1 m).trans (e9 m)) (fun m => (ff.1.1.1 m).trans (e10 m)) (fun m => (ff.1.1.2.2.1 m).trans (e8 m)) (ff.1.1.2.2.2.2.trans e21), Nat.le_of_eq (pot_same (sameN_tr (sameN_tr (sameN_tr (sameN_tr (ne_n σ t0 0) (ne_n _ _ 1)) (ne_n _ _ 2)) (ne_n _ _ 3)) (ne_n _ _ 4))).symm, (sameN_tr (sameN_tr (sameN_tr (sameN_tr (ne_n σ t0 0) (ne_n _ _ 1)) (ne_n _ _ 2)) (ne_n _ _ 3)) (ne_n _ _ 4))⟩
theorem law_160 {p : Program} {l : Launch} {e : Env} {s : State} {m : MethodId} {args : Array Value} {below : List Frame} {meth : Method} {c : Code} {H : Heap} {locs : List Loc} {cells slots : Nat} {Q : State → Prop} {ls : Array Slot} {D : va_G} {dA : Nat → ClassId} {x mi n b a am o L : Nat} {xs : Nat → Int32} (hst : l.stackTraces = false) (hC : CTX p s m args meth c code 7 RL ret) (hK : LK D dA s x mi) (hX : va_X b L xs s s.heap) (hbl : b < s.heap.size) (hL : L ≤ 3072) (hn : 6 * n + 6 ≤ L) (hP : LGP D dA s x a am o n H locs cells slots) (hl : lv_has ls 7 (lvL n b a am o)) (kk : ∀ (H1 : Heap) (locs1 : List Loc) (c1 s1 : Nat) (ls1 : Array Slot), LGP D dA s x a am o (n + 1) H1 locs1 c1 s1 → lv_has ls1 7 (lvL n b a am o) → W p l e room_1 s m args below meth c H1 locs1 c1 s1 Q (F0 m 1679 ls1 [])) : W p l e room_1 s m args below meth c H locs cells slots Q (F0 m 160 ls []) := by
  obtain ⟨ad, σ, v, adm, τ, hS, hI, hc1, hc2⟩ := hP
  have e1 := hS.h0
  have e2 := hS.m0
  subst e1
  subst e2
  obtain ⟨hx, hb, hml, hown, hts, hr, hlk⟩ := id hC
  obtain ⟨u, mc, ms, r, τ', f1, f2, hO⟩ := c_tell hI (xs (6 * n + 1)) (xs (6 * n + 2))
  have hrm := OK_room hO (show n < 512 by omega) hc1 hc2
  refine lv_aload_n hx hb d_law_160 rfl (lv_at hl 2 rfl) ?_
  refine lg_ld (k := 1) hC hX hbl hS.hS (lv_at hl 1 rfl) (lv_at hl 0 rfl) hn hL (by decide) (by decide) d_law_161 d_law_162 d_law_164 d_law_165 d_law_166 ?_
  refine lg_ld (k := 2) hC hX hbl hS.hS (lv_at hl 1 rfl) (lv_at hl 0 rfl) hn hL (by decide) (by decide) d_law_167 d_law_168 d_law_170 d_law_171 d_law_172 ?_
  refine lv_aload_n hx hb d_law_173 rfl (lv_at hl 4 rfl) ?_
  refine kLT (vx_runSW (As := [.ref (ad 0 0), .int (xs (6 * n + 1)), .int (xs (6 * n + 2)), .ref o]) (rest := []) ⟨hx, hb, hml, hown, hts⟩ (mL_tell l hst D dA ad o σ v _ x mi (xs (6 * n + 1)) (xs (6 * n + 2)) u mc ms f1 (OK_P hO)) (vx_cwSW 4 hts gW_93 rfl rfl rfl (by decide +kernel) ⟨Nat.le_of_ble_eq_true rfl, Nat.le_of_ble_eq_true rfl⟩) (preLT_of hK hS _) rfl rfl hl.1 rfl (lv_room (Nat.le_of_ble_eq_true rfl)) d_law_174 hrm) (by decide) hS (fun z σ' v' ad' H locs hXT hS => ?_)
  refine lv_istore (i := 5) (lv' := (5, .int z) :: lvL n b (ad 0 0) (adm 0 0) o) hx hb d_law_177 hl (by decide) rfl (fun ls hl => ?_)
  refine lv_aload_n hx hb d_law_179 rfl (lv_at hl 4 rfl) ?_
  refine lg_ld (k := 1) hC hX hbl hS.hS (lv_at hl 2 rfl) (lv_at hl 1 rfl) hn hL (by decide) (by decide) d_law_180 d_law_181 d_law_183 d_law_184 d_law_185 ?_
  refine lg_ld (k := 2) hC hX hbl hS.hS (lv_at hl 2 rfl) (lv_at hl 1 rfl) hn hL (by decide) (by decide) d_law_186 d_law_187 d_law_189 d_law_190 d_law_191 ?_
  refine kLM (va_runV (As := [.int (xs (6 * n + 1)), .int (xs (6 * n + 2))]) (rest := []) ⟨hx, hb, hml, hown, hts⟩ (mX6_tell l D dA adm τ _ (xs (6 * n + 1)) (xs (6 * n + 2)) r τ' f2) (cwV 2 hts gW_98 rfl rfl rfl (by decide +kernel) ⟨Nat.le_of_ble_eq_true rfl, Nat.le_of_ble_eq_true rfl⟩) (preLM_of hK hS _) rfl rfl hl.1 rfl (lv_room (Nat.le_of_ble_eq_true rfl)) d_law_192 hrm) hS (fun H locs hS => ?_)
  exact lgEnd hC hK (by omega) hO hXT hS hc1 hc2 hl d_law_195 d_law_197 d_law_198 d_law_201 d_law_203 d_law_208 d_law_210 d_law_213 d_law_214 d_law_215 d_law_216 d_law_218 d_law_219 d_law_220 d_law_225 (by decide) kk
theorem law_228 {p : Program} {l : Launch} {e : Env} {s : State} {m : MethodId} {args : Array Value} {below : List Frame} {meth : Method} {c : Code} {H : Heap} {locs : List Loc} {cells slots : Nat} {Q : State → Prop} {ls : Array Slot} {D : va_G} {dA : Nat → ClassId} {x mi n b a am o L : Nat} {xs : Nat → Int32} (hst : l.stackTraces = false) (hC : CTX p s m args meth c code 7 RL ret) (hK : LK D dA s x mi) (hX : va_X b L xs s s.heap) (hbl : b < s.heap.size) (hL : L ≤ 3072) (hn : 6 * n + 6 ≤ L) (hP : LGP D dA s x a am o n H locs cells slots) (hl : lv_has ls 7 (lvL n b a am o)) (kk : ∀ (H1 : Heap) (locs1 : List Loc) (c1 s1 : Nat) (ls1 : Array Slot), LGP D dA s x a am o (n + 1) H1 locs1 c1 s1 → lv_has ls1 7 (lvL n b a am o) → W p l e room_1 s m args below meth c H1 locs1 c1 s1 Q (F0 m 1679 ls1 [])) : W p l e room_1 s m args below meth c H locs cells slots Q (F0 m 228 ls []) := by
  obtain ⟨ad, σ, v, adm, τ, hS, hI, hc1, hc2⟩ := hP
  have e1 := hS.h0
  have e2 := hS.m0
  subst e1
  subst e2
  obtain ⟨hx, hb, hml, hown, hts, hr, hlk⟩ := id hC
  obtain ⟨u, mc, ms, r, τ', f1, f2, hO⟩ := c_setMove hI (xs (6 * n + 1)) (xs (6 * n + 2)) (xs (6 * n + 3))
  have hrm := OK_room hO (show n < 512 by omega) hc1 hc2
  refine lv_aload_n hx hb d_law_228 rfl (lv_at hl 2 rfl) ?_
  refine lg_ld (k := 1) hC hX hbl hS.hS (lv_at hl 1 rfl) (lv_at hl 0 rfl) hn hL (by decide) (by decide) d_law_229 d_law_230 d_law_232 d_law_233 d_law_234 ?_
  refine lg_ld (k := 2) hC hX hbl hS.hS (lv_at hl 1 rfl) (lv_at hl 0 rfl) hn hL (by decide) (by decide) d_law_235 d_law_236 d_law_238 d_law_239 d_law_240 ?_
  refine lg_ld (k := 3) hC hX hbl hS.hS (lv_at hl 1 rfl) (lv_at hl 0 rfl) hn hL (by decide) (by decide) d_law_241 d_law_242 d_law_244 d_law_245 d_law_246 ?_
  refine lv_aload_n hx hb d_law_247 rfl (lv_at hl 4 rfl) ?_
  refine kLT (vx_runSW (As := [.ref (ad 0 0), .int (xs (6 * n + 1)), .int (xs (6 * n + 2)), .int (xs (6 * n + 3)), .ref o]) (rest := []) ⟨hx, hb, hml, hown, hts⟩ (mL_setMove l hst D dA ad o σ v _ x mi (xs (6 * n + 1)) (xs (6 * n + 2)) (xs (6 * n + 3)) u mc ms f1 (OK_P hO)) (vx_cwSW 5 hts gW_103 rfl rfl rfl (by decide +kernel) ⟨Nat.le_of_ble_eq_true rfl, Nat.le_of_ble_eq_true rfl⟩) (preLT_of hK hS _) rfl rfl hl.1 rfl (lv_room (Nat.le_of_ble_eq_true rfl)) d_law_248 hrm) (by decide) hS (fun z σ' v' ad' H locs hXT hS => ?_)
  refine lv_istore (i := 5) (lv' := (5, .int z) :: lvL n b (ad 0 0) (adm 0 0) o) hx hb d_law_251 hl (by decide) rfl (fun ls hl => ?_)
  refine lv_aload_n hx hb d_law_253 rfl (lv_at hl 4 rfl) ?_
  refine lg_ld (k := 1) hC hX hbl hS.hS (lv_at hl 2 rfl) (lv_at hl 1 rfl) hn hL (by decide) (by decide) d_law_254 d_law_255 d_law_257 d_law_258 d_law_259 ?_
  refine lg_ld (k := 2) hC hX hbl hS.hS (lv_at hl 2 rfl) (lv_at hl 1 rfl) hn hL (by decide) (by decide) d_law_260 d_law_261 d_law_263 d_law_264 d_law_265 ?_
  refine lg_ld (k := 3) hC hX hbl hS.hS (lv_at hl 2 rfl) (lv_at hl 1 rfl) hn hL (by decide) (by decide) d_law_266 d_law_267 d_law_269 d_law_270 d_law_271 ?_
  refine kLM (va_runV (As := [.int (xs (6 * n + 1)), .int (xs (6 * n + 2)), .int (xs (6 * n + 3))]) (rest := []) ⟨hx, hb, hml, hown, hts⟩ (mX6_setMove l D dA adm τ _ (xs (6 * n + 1)) (xs (6 * n + 2)) (xs (6 * n + 3)) r τ' f2) (cwV 3 hts gW_106 rfl rfl rfl (by decide +kernel) ⟨Nat.le_of_ble_eq_true rfl, Nat.le_of_ble_eq_true rfl⟩) (preLM_of hK hS _) rfl rfl hl.1 rfl (lv_room (Nat.le_of_ble_eq_true rfl)) d_law_272 hrm) hS (fun H locs hS => ?_)
  exact lgEnd hC hK (by omega) hO hXT hS hc1 hc2 hl d_law_275 d_law_277 d_law_278 d_law_281 d_law_283 d_law_288 d_law_290 d_law_293 d_law_294 d_law_295 d_law_296 d_law_298 d_law_299 d_law_300 d_law_305 (by decide) kk
theorem law_308 {p : Program} {l : Launch} {e : Env} {s : State} {m : MethodId} {args : Array Value} {below : List Frame} {meth : Method} {c : Code} {H : Heap} {locs : List Loc} {cells slots : Nat} {Q : State → Prop} {ls : Array Slot} {D : va_G} {dA : Nat → ClassId} {x mi n b a am o L : Nat} {xs : Nat → Int32} (hst : l.stackTraces = false) (hC : CTX p s m args meth c code 7 RL ret) (hK : LK D dA s x mi) (hX : va_X b L xs s s.heap) (hbl : b < s.heap.size) (hL : L ≤ 3072) (hn : 6 * n + 6 ≤ L) (hP : LGP D dA s x a am o n H locs cells slots) (hl : lv_has ls 7 (lvL n b a am o)) (kk : ∀ (H1 : Heap) (locs1 : List Loc) (c1 s1 : Nat) (ls1 : Array Slot), LGP D dA s x a am o (n + 1) H1 locs1 c1 s1 → lv_has ls1 7 (lvL n b a am o) → W p l e room_1 s m args below meth c H1 locs1 c1 s1 Q (F0 m 1679 ls1 [])) : W p l e room_1 s m args below meth c H locs cells slots Q (F0 m 308 ls []) := by
  obtain ⟨ad, σ, v, adm, τ, hS, hI, hc1, hc2⟩ := hP
  have e1 := hS.h0
  have e2 := hS.m0
  subst e1
  subst e2
  obtain ⟨hx, hb, hml, hown, hts, hr, hlk⟩ := id hC
  obtain ⟨u, mc, ms, r, τ', f1, f2, hO⟩ := c_tellKind hI (xs (6 * n + 1)) (xs (6 * n + 2))
  have hrm := OK_room hO (show n < 512 by omega) hc1 hc2
  refine lv_aload_n hx hb d_law_308 rfl (lv_at hl 2 rfl) ?_
  refine lg_ld (k := 1) hC hX hbl hS.hS (lv_at hl 1 rfl) (lv_at hl 0 rfl) hn hL (by decide) (by decide) d_law_309 d_law_310 d_law_312 d_law_313 d_law_314 ?_
  refine lg_ld (k := 2) hC hX hbl hS.hS (lv_at hl 1 rfl) (lv_at hl 0 rfl) hn hL (by decide) (by decide) d_law_315 d_law_316 d_law_318 d_law_319 d_law_320 ?_
  refine lv_aload_n hx hb d_law_321 rfl (lv_at hl 4 rfl) ?_
  refine kLT (vx_runSW (As := [.ref (ad 0 0), .int (xs (6 * n + 1)), .int (xs (6 * n + 2)), .ref o]) (rest := []) ⟨hx, hb, hml, hown, hts⟩ (mL_tellKind l hst D dA ad o σ v _ x mi (xs (6 * n + 1)) (xs (6 * n + 2)) u mc ms f1 (OK_P hO)) (vx_cwSW 4 hts gW_107 rfl rfl rfl (by decide +kernel) ⟨Nat.le_of_ble_eq_true rfl, Nat.le_of_ble_eq_true rfl⟩) (preLT_of hK hS _) rfl rfl hl.1 rfl (lv_room (Nat.le_of_ble_eq_true rfl)) d_law_322 hrm) (by decide) hS (fun z σ' v' ad' H locs hXT hS => ?_)
  refine lv_istore (i := 5) (lv' := (5, .int z) :: lvL n b (ad 0 0) (adm 0 0) o) hx hb d_law_325 hl (by decide) rfl (fun ls hl => ?_)
  refine lv_aload_n hx hb d_law_327 rfl (lv_at hl 4 rfl) ?_
  refine lg_ld (k := 1) hC hX hbl hS.hS (lv_at hl 2 rfl) (lv_at hl 1 rfl) hn hL (by decide) (by decide) d_law_328 d_law_329 d_law_331 d_law_332 d_law_333 ?_
  refine lg_ld (k := 2) hC hX hbl hS.hS (lv_at hl 2 rfl) (lv_at hl 1 rfl) hn hL (by decide) (by decide) d_law_334 d_law_335 d_law_337 d_law_338 d_law_339 ?_
  refine kLM (va_runV (As := [.int (xs (6 * n + 1)), .int (xs (6 * n + 2))]) (rest := []) ⟨hx, hb, hml, hown, hts⟩ (mX6_tellKind l D dA adm τ _ (xs (6 * n + 1)) (xs (6 * n + 2)) r τ' f2) (cwV 2 hts gW_109 rfl rfl rfl (by decide +kernel) ⟨Nat.le_of_ble_eq_true rfl, Nat.le_of_ble_eq_true rfl⟩) (preLM_of hK hS _) rfl rfl hl.1 rfl (lv_room (Nat.le_of_ble_eq_true rfl)) d_law_340 hrm) hS (fun H locs hS => ?_)
  exact lgEnd hC hK (by omega) hO hXT hS hc1 hc2 hl d_law_343 d_law_345 d_law_346 d_law_349 d_law_351 d_law_356 d_law_358 d_law_361 d_law_362 d_law_363 d_law_364 d_law_366 d_law_367 d_law_368 d_law_373 (by decide) kk
theorem law_376 {p : Program} {l : Launch} {e : Env} {s : State} {m : MethodId} {args : Array Value} {below : List Frame} {meth : Method} {c : Code} {H : Heap} {locs : List Loc} {cells slots : Nat} {Q : State → Prop} {ls : Array Slot} {D : va_G} {dA : Nat → ClassId} {x mi n b a am o L : Nat} {xs : Nat → Int32} (hst : l.stackTraces = false) (hC : CTX p s m args meth c code 7 RL ret) (hK : LK D dA s x mi) (hX : va_X b L xs s s.heap) (hbl : b < s.heap.size) (hL : L ≤ 3072) (hn : 6 * n + 6 ≤ L) (hP : LGP D dA s x a am o n H locs cells slots) (hl : lv_has ls 7 (lvL n b a am o)) (kk : ∀ (H1 : Heap) (locs1 : List Loc) (c1 s1 : Nat) (ls1 : Array Slot), LGP D dA s x a am o (n + 1) H1 locs1 c1 s1 → lv_has ls1 7 (lvL n b a am o) → W p l e room_1 s m args below meth c H1 locs1 c1 s1 Q (F0 m 1679 ls1 [])) : W p l e room_1 s m args below meth c H locs cells slots Q (F0 m 376 ls []) := by
  obtain ⟨ad, σ, v, adm, τ, hS, hI, hc1, hc2⟩ := hP
  have e1 := hS.h0
  have e2 := hS.m0
  subst e1
  subst e2
  obtain ⟨hx, hb, hml, hown, hts, hr, hlk⟩ := id hC
  obtain ⟨u, mc, ms, r, τ', f1, f2, hO⟩ := c_pay hI (xs (6 * n + 1)) (xs (6 * n + 2))
  have hrm := OK_room hO (show n < 512 by omega) hc1 hc2
  refine lv_aload_n hx hb d_law_376 rfl (lv_at hl 2 rfl) ?_
  refine lg_ld (k := 1) hC hX hbl hS.hS (lv_at hl 1 rfl) (lv_at hl 0 rfl) hn hL (by decide) (by decide) d_law_377 d_law_378 d_law_380 d_law_381 d_law_382 ?_
  refine lg_ld (k := 2) hC hX hbl hS.hS (lv_at hl 1 rfl) (lv_at hl 0 rfl) hn hL (by decide) (by decide) d_law_383 d_law_384 d_law_386 d_law_387 d_law_388 ?_
  refine lv_aload_n hx hb d_law_389 rfl (lv_at hl 4 rfl) ?_
  refine kLT (vx_runSW (As := [.ref (ad 0 0), .int (xs (6 * n + 1)), .int (xs (6 * n + 2)), .ref o]) (rest := []) ⟨hx, hb, hml, hown, hts⟩ (mL_pay l hst D dA ad o σ v _ x mi (xs (6 * n + 1)) (xs (6 * n + 2)) u mc ms f1 (OK_P hO)) (vx_cwSW 4 hts gW_110 rfl rfl rfl (by decide +kernel) ⟨Nat.le_of_ble_eq_true rfl, Nat.le_of_ble_eq_true rfl⟩) (preLT_of hK hS _) rfl rfl hl.1 rfl (lv_room (Nat.le_of_ble_eq_true rfl)) d_law_390 hrm) (by decide) hS (fun z σ' v' ad' H locs hXT hS => ?_)
  refine lv_istore (i := 5) (lv' := (5, .int z) :: lvL n b (ad 0 0) (adm 0 0) o) hx hb d_law_393 hl (by decide) rfl (fun ls hl => ?_)
  refine lv_aload_n hx hb d_law_395 rfl (lv_at hl 4 rfl) ?_
  refine lg_ld (k := 1) hC hX hbl hS.hS (lv_at hl 2 rfl) (lv_at hl 1 rfl) hn hL (by decide) (by decide) d_law_396 d_law_397 d_law_399 d_law_400 d_law_401 ?_
  refine lg_ld (k := 2) hC hX hbl hS.hS (lv_at hl 2 rfl) (lv_at hl 1 rfl) hn hL (by decide) (by decide) d_law_402 d_law_403 d_law_405 d_law_406 d_law_407 ?_
  refine kLM (va_runV (As := [.int (xs (6 * n + 1)), .int (xs (6 * n + 2))]) (rest := []) ⟨hx, hb, hml, hown, hts⟩ (mX6_pay l D dA adm τ _ (xs (6 * n + 1)) (xs (6 * n + 2)) r τ' f2) (cwV 2 hts gW_112 rfl rfl rfl (by decide +kernel) ⟨Nat.le_of_ble_eq_true rfl, Nat.le_of_ble_eq_true rfl⟩) (preLM_of hK hS _) rfl rfl hl.1 rfl (lv_room (Nat.le_of_ble_eq_true rfl)) d_law_408 hrm) hS (fun H locs hS => ?_)
  exact lgEnd hC hK (by omega) hO hXT hS hc1 hc2 hl d_law_411 d_law_413 d_law_414 d_law_417 d_law_419 d_law_424 d_law_426 d_law_429 d_law_430 d_law_431 d_law_432 d_law_434 d_law_435 d_law_436 d_law_441 (by decide) kk
theorem law_444 {p : Program} {l : Launch} {e : Env} {s : State} {m : MethodId} {args : Array Value} {below : List Frame} {meth : Method} {c : Code} {H : Heap} {locs : List Loc} {cells slots : Nat} {Q : State → Prop} {ls : Array Slot} {D : va_G} {dA : Nat → ClassId} {x mi n b a am o L : Nat} {xs : Nat → Int32} (hst : l.stackTraces = false) (hC : CTX p s m args meth c code 7 RL ret) (hK : LK D dA s x mi) (hX : va_X b L xs s s.heap) (hbl : b < s.heap.size) (hL : L ≤ 3072) (hn : 6 * n + 6 ≤ L) (hP : LGP D dA s x a am o n H locs cells slots) (hl : lv_has ls 7 (lvL n b a am o)) (kk : ∀ (H1 : Heap) (locs1 : List Loc) (c1 s1 : Nat) (ls1 : Array Slot), LGP D dA s x a am o (n + 1) H1 locs1 c1 s1 → lv_has ls1 7 (lvL n b a am o) → W p l e room_1 s m args below meth c H1 locs1 c1 s1 Q (F0 m 1679 ls1 [])) : W p l e room_1 s m args below meth c H locs cells slots Q (F0 m 444 ls []) := by
  obtain ⟨ad, σ, v, adm, τ, hS, hI, hc1, hc2⟩ := hP
  have e1 := hS.h0
  have e2 := hS.m0
  subst e1
  subst e2
  obtain ⟨hx, hb, hml, hown, hts, hr, hlk⟩ := id hC
  obtain ⟨u, mc, ms, r, τ', f1, f2, hO⟩ := c_bring hI (xs (6 * n + 1)) (xs (6 * n + 2)) (xs (6 * n + 3))
  have hrm := OK_room hO (show n < 512 by omega) hc1 hc2
  refine lv_aload_n hx hb d_law_444 rfl (lv_at hl 2 rfl) ?_
  refine lg_ld (k := 1) hC hX hbl hS.hS (lv_at hl 1 rfl) (lv_at hl 0 rfl) hn hL (by decide) (by decide) d_law_445 d_law_446 d_law_448 d_law_449 d_law_450 ?_
  refine lg_ld (k := 2) hC hX hbl hS.hS (lv_at hl 1 rfl) (lv_at hl 0 rfl) hn hL (by decide) (by decide) d_law_451 d_law_452 d_law_454 d_law_455 d_law_456 ?_
  refine lg_ld (k := 3) hC hX hbl hS.hS (lv_at hl 1 rfl) (lv_at hl 0 rfl) hn hL (by decide) (by decide) d_law_457 d_law_458 d_law_460 d_law_461 d_law_462 ?_
  refine lv_aload_n hx hb d_law_463 rfl (lv_at hl 4 rfl) ?_
  refine kLT (vx_runSW (As := [.ref (ad 0 0), .int (xs (6 * n + 1)), .int (xs (6 * n + 2)), .int (xs (6 * n + 3)), .ref o]) (rest := []) ⟨hx, hb, hml, hown, hts⟩ (mL_bring l hst D dA ad o σ v _ x mi (xs (6 * n + 1)) (xs (6 * n + 2)) (xs (6 * n + 3)) u mc ms f1 (OK_P hO)) (vx_cwSW 5 hts gW_113 rfl rfl rfl (by decide +kernel) ⟨Nat.le_of_ble_eq_true rfl, Nat.le_of_ble_eq_true rfl⟩) (preLT_of hK hS _) rfl rfl hl.1 rfl (lv_room (Nat.le_of_ble_eq_true rfl)) d_law_464 hrm) (by decide) hS (fun z σ' v' ad' H locs hXT hS => ?_)
  refine lv_istore (i := 5) (lv' := (5, .int z) :: lvL n b (ad 0 0) (adm 0 0) o) hx hb d_law_467 hl (by decide) rfl (fun ls hl => ?_)
  refine lv_aload_n hx hb d_law_469 rfl (lv_at hl 4 rfl) ?_
  refine lg_ld (k := 1) hC hX hbl hS.hS (lv_at hl 2 rfl) (lv_at hl 1 rfl) hn hL (by decide) (by decide) d_law_470 d_law_471 d_law_473 d_law_474 d_law_475 ?_
  refine lg_ld (k := 2) hC hX hbl hS.hS (lv_at hl 2 rfl) (lv_at hl 1 rfl) hn hL (by decide) (by decide) d_law_476 d_law_477 d_law_479 d_law_480 d_law_481 ?_
  refine lg_ld (k := 3) hC hX hbl hS.hS (lv_at hl 2 rfl) (lv_at hl 1 rfl) hn hL (by decide) (by decide) d_law_482 d_law_483 d_law_485 d_law_486 d_law_487 ?_
  refine kLM (va_runV (As := [.int (xs (6 * n + 1)), .int (xs (6 * n + 2)), .int (xs (6 * n + 3))]) (rest := []) ⟨hx, hb, hml, hown, hts⟩ (mX6_bring l D dA adm τ _ (xs (6 * n + 1)) (xs (6 * n + 2)) (xs (6 * n + 3)) r τ' f2) (cwV 3 hts gW_115 rfl rfl rfl (by decide +kernel) ⟨Nat.le_of_ble_eq_true rfl, Nat.le_of_ble_eq_true rfl⟩) (preLM_of hK hS _) rfl rfl hl.1 rfl (lv_room (Nat.le_of_ble_eq_true rfl)) d_law_488 hrm) hS (fun H locs hS => ?_)
  exact lgEnd hC hK (by omega) hO hXT hS hc1 hc2 hl d_law_491 d_law_493 d_law_494 d_law_497 d_law_499 d_law_504 d_law_506 d_law_509 d_law_510 d_law_511 d_law_512 d_law_514 d_law_515 d_law_516 d_law_521 (by decide) kk
theorem law_524 {p : Program} {l : Launch} {e : Env} {s : State} {m : MethodId} {args : Array Value} {below : List Frame} {meth : Method} {c : Code} {H : Heap} {locs : List Loc} {cells slots : Nat} {Q : State → Prop} {ls : Array Slot} {D : va_G} {dA : Nat → ClassId} {x mi n b a am o L : Nat} {xs : Nat → Int32} (hst : l.stackTraces = false) (hC : CTX p s m args meth c code 7 RL ret) (hK : LK D dA s x mi) (hX : va_X b L xs s s.heap) (hbl : b < s.heap.size) (hL : L ≤ 3072) (hn : 6 * n + 6 ≤ L) (hP : LGP D dA s x a am o n H locs cells slots) (hl : lv_has ls 7 (lvL n b a am o)) (kk : ∀ (H1 : Heap) (locs1 : List Loc) (c1 s1 : Nat) (ls1 : Array Slot), LGP D dA s x a am o (n + 1) H1 locs1 c1 s1 → lv_has ls1 7 (lvL n b a am o) → W p l e room_1 s m args below meth c H1 locs1 c1 s1 Q (F0 m 1679 ls1 [])) : W p l e room_1 s m args below meth c H locs cells slots Q (F0 m 524 ls []) := by
  obtain ⟨ad, σ, v, adm, τ, hS, hI, hc1, hc2⟩ := hP
  have e1 := hS.h0
  have e2 := hS.m0
  subst e1
  subst e2
  obtain ⟨hx, hb, hml, hown, hts, hr, hlk⟩ := id hC
  obtain ⟨u, mc, ms, r, τ', f1, f2, hO⟩ := c_contribute (by omega) hI (xs (6 * n + 1)) (xs (6 * n + 2))
  have hrm := OK_room hO (show n < 512 by omega) hc1 hc2
  refine lv_aload_n hx hb d_law_524 rfl (lv_at hl 2 rfl) ?_
  refine lg_ld (k := 1) hC hX hbl hS.hS (lv_at hl 1 rfl) (lv_at hl 0 rfl) hn hL (by decide) (by decide) d_law_525 d_law_526 d_law_528 d_law_529 d_law_530 ?_
  refine lg_ld (k := 2) hC hX hbl hS.hS (lv_at hl 1 rfl) (lv_at hl 0 rfl) hn hL (by decide) (by decide) d_law_531 d_law_532 d_law_534 d_law_535 d_law_536 ?_
  refine lv_aload_n hx hb d_law_537 rfl (lv_at hl 4 rfl) ?_
  refine kLT (vx_runSW (As := [.ref (ad 0 0), .int (xs (6 * n + 1)), .int (xs (6 * n + 2)), .ref o]) (rest := []) ⟨hx, hb, hml, hown, hts⟩ (mL_contribute l hst D dA ad o σ v _ x mi (xs (6 * n + 1)) (xs (6 * n + 2)) u mc ms f1 (OK_P hO)) (vx_cwSW 4 hts gW_116 rfl rfl rfl (by decide +kernel) ⟨Nat.le_of_ble_eq_true rfl, Nat.le_of_ble_eq_true rfl⟩) (preLT_of hK hS _) rfl rfl hl.1 rfl (lv_room (Nat.le_of_ble_eq_true rfl)) d_law_538 hrm) (by decide) hS (fun z σ' v' ad' H locs hXT hS => ?_)
  refine lv_istore (i := 5) (lv' := (5, .int z) :: lvL n b (ad 0 0) (adm 0 0) o) hx hb d_law_541 hl (by decide) rfl (fun ls hl => ?_)
  refine lv_aload_n hx hb d_law_543 rfl (lv_at hl 4 rfl) ?_
  refine lg_ld (k := 1) hC hX hbl hS.hS (lv_at hl 2 rfl) (lv_at hl 1 rfl) hn hL (by decide) (by decide) d_law_544 d_law_545 d_law_547 d_law_548 d_law_549 ?_
  refine lg_ld (k := 2) hC hX hbl hS.hS (lv_at hl 2 rfl) (lv_at hl 1 rfl) hn hL (by decide) (by decide) d_law_550 d_law_551 d_law_553 d_law_554 d_law_555 ?_
  refine kLM (va_runV (As := [.int (xs (6 * n + 1)), .int (xs (6 * n + 2))]) (rest := []) ⟨hx, hb, hml, hown, hts⟩ (mX6_contribute l D dA adm τ _ (xs (6 * n + 1)) (xs (6 * n + 2)) r τ' f2) (cwV 2 hts gW_118 rfl rfl rfl (by decide +kernel) ⟨Nat.le_of_ble_eq_true rfl, Nat.le_of_ble_eq_true rfl⟩) (preLM_of hK hS _) rfl rfl hl.1 rfl (lv_room (Nat.le_of_ble_eq_true rfl)) d_law_556 hrm) hS (fun H locs hS => ?_)
  exact lgEnd hC hK (by omega) hO hXT hS hc1 hc2 hl d_law_559 d_law_561 d_law_562 d_law_565 d_law_567 d_law_572 d_law_574 d_law_577 d_law_578 d_law_579 d_law_580 d_law_582 d_law_583 d_law_584 d_law_589 (by decide) kk
theorem law_592 {p : Program} {l : Launch} {e : Env} {s : State} {m : MethodId} {args : Array Value} {below : List Frame} {meth : Method} {c : Code} {H : Heap} {locs : List Loc} {cells slots : Nat} {Q : State → Prop} {ls : Array Slot} {D : va_G} {dA : Nat → ClassId} {x mi n b a am o L : Nat} {xs : Nat → Int32} (hst : l.stackTraces = false) (hC : CTX p s m args meth c code 7 RL ret) (hK : LK D dA s x mi) (hX : va_X b L xs s s.heap) (hbl : b < s.heap.size) (hL : L ≤ 3072) (hn : 6 * n + 6 ≤ L) (hP : LGP D dA s x a am o n H locs cells slots) (hl : lv_has ls 7 (lvL n b a am o)) (kk : ∀ (H1 : Heap) (locs1 : List Loc) (c1 s1 : Nat) (ls1 : Array Slot), LGP D dA s x a am o (n + 1) H1 locs1 c1 s1 → lv_has ls1 7 (lvL n b a am o) → W p l e room_1 s m args below meth c H1 locs1 c1 s1 Q (F0 m 1679 ls1 [])) : W p l e room_1 s m args below meth c H locs cells slots Q (F0 m 592 ls []) := by
  obtain ⟨ad, σ, v, adm, τ, hS, hI, hc1, hc2⟩ := hP
  have e1 := hS.h0
  have e2 := hS.m0
  subst e1
  subst e2
  obtain ⟨hx, hb, hml, hown, hts, hr, hlk⟩ := id hC
  obtain ⟨u, mc, ms, r, τ', f1, f2, hO⟩ := c_place (by omega) hI (xs (6 * n + 1)) (xs (6 * n + 2)) (bl_bz (xs (6 * n + 3))) (xs (6 * n + 4)) (xs (6 * n + 5))
  have hrm := OK_room hO (show n < 512 by omega) hc1 hc2
  refine lv_aload_n hx hb d_law_592 rfl (lv_at hl 2 rfl) ?_
  refine lg_ld (k := 1) hC hX hbl hS.hS (lv_at hl 1 rfl) (lv_at hl 0 rfl) hn hL (by decide) (by decide) d_law_593 d_law_594 d_law_596 d_law_597 d_law_598 ?_
  refine lg_ld (k := 2) hC hX hbl hS.hS (lv_at hl 1 rfl) (lv_at hl 0 rfl) hn hL (by decide) (by decide) d_law_599 d_law_600 d_law_602 d_law_603 d_law_604 ?_
  refine lg_ld (k := 3) hC hX hbl hS.hS (lv_at hl 1 rfl) (lv_at hl 0 rfl) hn hL (by decide) (by decide) d_law_605 d_law_606 d_law_608 d_law_609 d_law_610 ?_
  refine lg_bool hC d_law_611 d_law_614 d_law_615 d_law_618 ?_
  refine lg_ld (k := 4) hC hX hbl hS.hS (lv_at hl 1 rfl) (lv_at hl 0 rfl) hn hL (by decide) (by decide) d_law_619 d_law_620 d_law_622 d_law_623 d_law_624 ?_
  refine lg_ld (k := 5) hC hX hbl hS.hS (lv_at hl 1 rfl) (lv_at hl 0 rfl) hn hL (by decide) (by decide) d_law_625 d_law_626 d_law_628 d_law_629 d_law_630 ?_
  refine lv_aload_n hx hb d_law_631 rfl (lv_at hl 4 rfl) ?_
  refine kLT (vx_runSW (As := [.ref (ad 0 0), .int (xs (6 * n + 1)), .int (xs (6 * n + 2)), .int (bl (xs (6 * n + 3))), .int (xs (6 * n + 4)), .int (xs (6 * n + 5)), .ref o]) (rest := []) ⟨hx, hb, hml, hown, hts⟩ (mL_place l hst D dA ad o σ v _ x mi (xs (6 * n + 1)) (xs (6 * n + 2)) (bl (xs (6 * n + 3))) (xs (6 * n + 4)) (xs (6 * n + 5)) u mc ms f1 (OK_P hO)) (vx_cwSW 7 hts gW_119 rfl rfl rfl (by decide +kernel) ⟨Nat.le_of_ble_eq_true rfl, Nat.le_of_ble_eq_true rfl⟩) (preLT_of hK hS _) rfl rfl hl.1 rfl (lv_room (Nat.le_of_ble_eq_true rfl)) d_law_632 hrm) (by decide) hS (fun z σ' v' ad' H locs hXT hS => ?_)
  refine lv_istore (i := 5) (lv' := (5, .int z) :: lvL n b (ad 0 0) (adm 0 0) o) hx hb d_law_635 hl (by decide) rfl (fun ls hl => ?_)
  refine lv_aload_n hx hb d_law_637 rfl (lv_at hl 4 rfl) ?_
  refine lg_ld (k := 1) hC hX hbl hS.hS (lv_at hl 2 rfl) (lv_at hl 1 rfl) hn hL (by decide) (by decide) d_law_638 d_law_639 d_law_641 d_law_642 d_law_643 ?_
  refine lg_ld (k := 2) hC hX hbl hS.hS (lv_at hl 2 rfl) (lv_at hl 1 rfl) hn hL (by decide) (by decide) d_law_644 d_law_645 d_law_647 d_law_648 d_law_649 ?_
  refine lg_ld (k := 3) hC hX hbl hS.hS (lv_at hl 2 rfl) (lv_at hl 1 rfl) hn hL (by decide) (by decide) d_law_650 d_law_651 d_law_653 d_law_654 d_law_655 ?_
  refine lg_bool hC d_law_656 d_law_659 d_law_660 d_law_663 ?_
  refine lg_ld (k := 4) hC hX hbl hS.hS (lv_at hl 2 rfl) (lv_at hl 1 rfl) hn hL (by decide) (by decide) d_law_664 d_law_665 d_law_667 d_law_668 d_law_669 ?_
  refine lg_ld (k := 5) hC hX hbl hS.hS (lv_at hl 2 rfl) (lv_at hl 1 rfl) hn hL (by decide) (by decide) d_law_670 d_law_671 d_law_673 d_law_674 d_law_675 ?_
  refine kLM (va_runV (As := [.int (xs (6 * n + 1)), .int (xs (6 * n + 2)), .int (bl (xs (6 * n + 3))), .int (xs (6 * n + 4)), .int (xs (6 * n + 5))]) (rest := []) ⟨hx, hb, hml, hown, hts⟩ (mX6_place l D dA adm τ _ (xs (6 * n + 1)) (xs (6 * n + 2)) (bl (xs (6 * n + 3))) (xs (6 * n + 4)) (xs (6 * n + 5)) r τ' f2) (cwV 5 hts gW_122 rfl rfl rfl (by decide +kernel) ⟨Nat.le_of_ble_eq_true rfl, Nat.le_of_ble_eq_true rfl⟩) (preLM_of hK hS _) rfl rfl hl.1 rfl (lv_room (Nat.le_of_ble_eq_true rfl)) d_law_676 hrm) hS (fun H locs hS => ?_)
  exact lgEnd hC hK (by omega) hO hXT hS hc1 hc2 hl d_law_679 d_law_681 d_law_682 d_law_685 d_law_687 d_law_692 d_law_694 d_law_697 d_law_698 d_law_699 d_law_700 d_law_702 d_law_703 d_law_704 d_law_709 (by decide) kk
theorem law_712 {p : Program} {l : Launch} {e : Env} {s : State} {m : MethodId} {args : Array Value} {below : List Frame} {meth : Method} {c : Code} {H : Heap} {locs : List Loc} {cells slots : Nat} {Q : State → Prop} {ls : Array Slot} {D : va_G} {dA : Nat → ClassId} {x mi n b a am o L : Nat} {xs : Nat → Int32} (hst : l.stackTraces = false) (hC : CTX p s m args meth c code 7 RL ret) (hK : LK D dA s x mi) (hX : va_X b L xs s s.heap) (hbl : b < s.heap.size) (hL : L ≤ 3072) (hn : 6 * n + 6 ≤ L) (hP : LGP D dA s x a am o n H locs cells slots) (hl : lv_has ls 7 (lvL n b a am o)) (kk : ∀ (H1 : Heap) (locs1 : List Loc) (c1 s1 : Nat) (ls1 : Array Slot), LGP D dA s x a am o (n + 1) H1 locs1 c1 s1 → lv_has ls1 7 (lvL n b a am o) → W p l e room_1 s m args below meth c H1 locs1 c1 s1 Q (F0 m 1679 ls1 [])) : W p l e room_1 s m args below meth c H locs cells slots Q (F0 m 712 ls []) := by
  obtain ⟨ad, σ, v, adm, τ, hS, hI, hc1, hc2⟩ := hP
  have e1 := hS.h0
  have e2 := hS.m0
  subst e1
  subst e2
  obtain ⟨hx, hb, hml, hown, hts, hr, hlk⟩ := id hC
  obtain ⟨u, mc, ms, r, τ', f1, f2, hO⟩ := c_cancel hI (xs (6 * n + 1))
  have hrm := OK_room hO (show n < 512 by omega) hc1 hc2
  refine lv_aload_n hx hb d_law_712 rfl (lv_at hl 2 rfl) ?_
  refine lg_ld (k := 1) hC hX hbl hS.hS (lv_at hl 1 rfl) (lv_at hl 0 rfl) hn hL (by decide) (by decide) d_law_713 d_law_714 d_law_716 d_law_717 d_law_718 ?_
  refine lv_aload_n hx hb d_law_719 rfl (lv_at hl 4 rfl) ?_
  refine kLT (vx_runSW (As := [.ref (ad 0 0), .int (xs (6 * n + 1)), .ref o]) (rest := []) ⟨hx, hb, hml, hown, hts⟩ (mL_cancel l hst D dA ad o σ v _ x mi (xs (6 * n + 1)) u mc ms f1 (OK_P hO)) (vx_cwSW 3 hts gW_123 rfl rfl rfl (by decide +kernel) ⟨Nat.le_of_ble_eq_true rfl, Nat.le_of_ble_eq_true rfl⟩) (preLT_of hK hS _) rfl rfl hl.1 rfl (lv_room (Nat.le_of_ble_eq_true rfl)) d_law_720 hrm) (by decide) hS (fun z σ' v' ad' H locs hXT hS => ?_)
  refine lv_istore (i := 5) (lv' := (5, .int z) :: lvL n b (ad 0 0) (adm 0 0) o) hx hb d_law_723 hl (by decide) rfl (fun ls hl => ?_)
  refine lv_aload_n hx hb d_law_725 rfl (lv_at hl 4 rfl) ?_
  refine lg_ld (k := 1) hC hX hbl hS.hS (lv_at hl 2 rfl) (lv_at hl 1 rfl) hn hL (by decide) (by decide) d_law_726 d_law_727 d_law_729 d_law_730 d_law_731 ?_
  refine kLM (va_runV (As := [.int (xs (6 * n + 1))]) (rest := []) ⟨hx, hb, hml, hown, hts⟩ (mX6_cancel l D dA adm τ _ (xs (6 * n + 1)) r τ' f2) (cwV 1 hts gW_126 rfl rfl rfl (by decide +kernel) ⟨Nat.le_of_ble_eq_true rfl, Nat.le_of_ble_eq_true rfl⟩) (preLM_of hK hS _) rfl rfl hl.1 rfl (lv_room (Nat.le_of_ble_eq_true rfl)) d_law_732 hrm) hS (fun H locs hS => ?_)
  exact lgEnd hC hK (by omega) hO hXT hS hc1 hc2 hl d_law_735 d_law_737 d_law_738 d_law_741 d_law_743 d_law_748 d_law_750 d_law_753 d_law_754 d_law_755 d_law_756 d_law_758 d_law_759 d_law_760 d_law_765 (by decide) kk
theorem law_768 {p : Program} {l : Launch} {e : Env} {s : State} {m : MethodId} {args : Array Value} {below : List Frame} {meth : Method} {c : Code} {H : Heap} {locs : List Loc} {cells slots : Nat} {Q : State → Prop} {ls : Array Slot} {D : va_G} {dA : Nat → ClassId} {x mi n b a am o L : Nat} {xs : Nat → Int32} (hst : l.stackTraces = false) (hC : CTX p s m args meth c code 7 RL ret) (hK : LK D dA s x mi) (hX : va_X b L xs s s.heap) (hbl : b < s.heap.size) (hL : L ≤ 3072) (hn : 6 * n + 6 ≤ L) (hP : LGP D dA s x a am o n H locs cells slots) (hl : lv_has ls 7 (lvL n b a am o)) (kk : ∀ (H1 : Heap) (locs1 : List Loc) (c1 s1 : Nat) (ls1 : Array Slot), LGP D dA s x a am o (n + 1) H1 locs1 c1 s1 → lv_has ls1 7 (lvL n b a am o) → W p l e room_1 s m args below meth c H1 locs1 c1 s1 Q (F0 m 1679 ls1 [])) : W p l e room_1 s m args below meth c H locs cells slots Q (F0 m 768 ls []) := by
  obtain ⟨ad, σ, v, adm, τ, hS, hI, hc1, hc2⟩ := hP
  have e1 := hS.h0
  have e2 := hS.m0
  subst e1
  subst e2
  obtain ⟨hx, hb, hml, hown, hts, hr, hlk⟩ := id hC
  obtain ⟨u, mc, ms, r, τ', f1, f2, hO⟩ := c_halt hI (xs (6 * n + 1)) (bl_bz (xs (6 * n + 2)))
  have hrm := OK_room hO (show n < 512 by omega) hc1 hc2
  refine lv_aload_n hx hb d_law_768 rfl (lv_at hl 2 rfl) ?_
  refine lg_ld (k := 1) hC hX hbl hS.hS (lv_at hl 1 rfl) (lv_at hl 0 rfl) hn hL (by decide) (by decide) d_law_769 d_law_770 d_law_772 d_law_773 d_law_774 ?_
  refine lg_ld (k := 2) hC hX hbl hS.hS (lv_at hl 1 rfl) (lv_at hl 0 rfl) hn hL (by decide) (by decide) d_law_775 d_law_776 d_law_778 d_law_779 d_law_780 ?_
  refine lg_bool hC d_law_781 d_law_784 d_law_785 d_law_788 ?_
  refine lv_aload_n hx hb d_law_789 rfl (lv_at hl 4 rfl) ?_
  refine kLT (vx_runSW (As := [.ref (ad 0 0), .int (xs (6 * n + 1)), .int (bl (xs (6 * n + 2))), .ref o]) (rest := []) ⟨hx, hb, hml, hown, hts⟩ (mL_halt l hst D dA ad o σ v _ x mi (xs (6 * n + 1)) (bl (xs (6 * n + 2))) u mc ms f1 (OK_P hO)) (vx_cwSW 4 hts gW_127 rfl rfl rfl (by decide +kernel) ⟨Nat.le_of_ble_eq_true rfl, Nat.le_of_ble_eq_true rfl⟩) (preLT_of hK hS _) rfl rfl hl.1 rfl (lv_room (Nat.le_of_ble_eq_true rfl)) d_law_790 hrm) (by decide) hS (fun z σ' v' ad' H locs hXT hS => ?_)
  refine lv_istore (i := 5) (lv' := (5, .int z) :: lvL n b (ad 0 0) (adm 0 0) o) hx hb d_law_793 hl (by decide) rfl (fun ls hl => ?_)
  refine lv_aload_n hx hb d_law_795 rfl (lv_at hl 4 rfl) ?_
  refine lg_ld (k := 1) hC hX hbl hS.hS (lv_at hl 2 rfl) (lv_at hl 1 rfl) hn hL (by decide) (by decide) d_law_796 d_law_797 d_law_799 d_law_800 d_law_801 ?_
  refine lg_ld (k := 2) hC hX hbl hS.hS (lv_at hl 2 rfl) (lv_at hl 1 rfl) hn hL (by decide) (by decide) d_law_802 d_law_803 d_law_805 d_law_806 d_law_807 ?_
  refine lg_bool hC d_law_808 d_law_811 d_law_812 d_law_815 ?_
  refine kLM (va_runV (As := [.int (xs (6 * n + 1)), .int (bl (xs (6 * n + 2)))]) (rest := []) ⟨hx, hb, hml, hown, hts⟩ (mX6_halt l D dA adm τ _ (xs (6 * n + 1)) (bl (xs (6 * n + 2))) r τ' f2) (cwV 2 hts gW_130 rfl rfl rfl (by decide +kernel) ⟨Nat.le_of_ble_eq_true rfl, Nat.le_of_ble_eq_true rfl⟩) (preLM_of hK hS _) rfl rfl hl.1 rfl (lv_room (Nat.le_of_ble_eq_true rfl)) d_law_816 hrm) hS (fun H locs hS => ?_)
  exact lgEnd hC hK (by omega) hO hXT hS hc1 hc2 hl d_law_819 d_law_821 d_law_822 d_law_825 d_law_827 d_law_832 d_law_834 d_law_837 d_law_838 d_law_839 d_law_840 d_law_842 d_law_843 d_law_844 d_law_849 (by decide) kk
