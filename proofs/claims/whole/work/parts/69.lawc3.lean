/-! THE LAW, call by call (laid by wip/gen/lawc.py) -/
theorem law_1274 {p : Program} {l : Launch} {e : Env} {s : State} {m : MethodId} {args : Array Value} {below : List Frame} {meth : Method} {c : Code} {H : Heap} {locs : List Loc} {cells slots : Nat} {Q : State → Prop} {ls : Array Slot} {D : va_G} {dA : Nat → ClassId} {x mi n b a am o L : Nat} {xs : Nat → Int32} (hst : l.stackTraces = false) (hC : CTX p s m args meth c code 7 RL ret) (hK : LK D dA s x mi) (hX : va_X b L xs s s.heap) (hbl : b < s.heap.size) (hL : L ≤ 3072) (hn : 6 * n + 6 ≤ L) (hP : LGP D dA s x a am o n H locs cells slots) (hl : lv_has ls 7 (lvL n b a am o)) (kk : ∀ (H1 : Heap) (locs1 : List Loc) (c1 s1 : Nat) (ls1 : Array Slot), LGP D dA s x a am o (n + 1) H1 locs1 c1 s1 → lv_has ls1 7 (lvL n b a am o) → W p l e room_1 s m args below meth c H1 locs1 c1 s1 Q (F0 m 1679 ls1 [])) : W p l e room_1 s m args below meth c H locs cells slots Q (F0 m 1274 ls []) := by
  obtain ⟨ad, σ, v, adm, τ, hS, hI, hc1, hc2⟩ := hP
  have e1 := hS.h0
  have e2 := hS.m0
  subst e1
  subst e2
  obtain ⟨hx, hb, hml, hown, hts, hr, hlk⟩ := id hC
  obtain ⟨u, mc, ms, r, τ', f1, f2, hO⟩ := c_equity hI (xs (6 * n + 1))
  have hrm := OK_room hO (show n < 512 by omega) hc1 hc2
  refine lv_aload_n hx hb d_law_1274 rfl (lv_at hl 2 rfl) ?_
  refine lg_ld (k := 1) hC hX hbl hS.hS (lv_at hl 1 rfl) (lv_at hl 0 rfl) hn hL (by decide) (by decide) d_law_1275 d_law_1276 d_law_1278 d_law_1279 d_law_1280 ?_
  refine lv_aload_n hx hb d_law_1281 rfl (lv_at hl 4 rfl) ?_
  refine kLT (vx_runSW (As := [.ref (ad 0 0), .int (xs (6 * n + 1)), .ref o]) (rest := []) ⟨hx, hb, hml, hown, hts⟩ (mL_equity l hst D dA ad o σ v _ x mi (xs (6 * n + 1)) u mc ms f1 (OK_P hO)) (vx_cwSW 3 hts gW_161 rfl rfl rfl (by decide +kernel) ⟨Nat.le_of_ble_eq_true rfl, Nat.le_of_ble_eq_true rfl⟩) (preLT_of hK hS _) rfl rfl hl.1 rfl (lv_room (Nat.le_of_ble_eq_true rfl)) d_law_1282 hrm) (by decide) hS (fun z σ' v' ad' H locs hXT hS => ?_)
  refine lv_istore (i := 5) (lv' := (5, .int z) :: lvL n b (ad 0 0) (adm 0 0) o) hx hb d_law_1285 hl (by decide) rfl (fun ls hl => ?_)
  refine lv_aload_n hx hb d_law_1287 rfl (lv_at hl 4 rfl) ?_
  refine lg_ld (k := 1) hC hX hbl hS.hS (lv_at hl 2 rfl) (lv_at hl 1 rfl) hn hL (by decide) (by decide) d_law_1288 d_law_1289 d_law_1291 d_law_1292 d_law_1293 ?_
  refine kLM (va_runV (As := [.int (xs (6 * n + 1))]) (rest := []) ⟨hx, hb, hml, hown, hts⟩ (mX6_equity l D dA adm τ _ (xs (6 * n + 1)) r τ' f2) (cwV 1 hts gW_163 rfl rfl rfl (by decide +kernel) ⟨Nat.le_of_ble_eq_true rfl, Nat.le_of_ble_eq_true rfl⟩) (preLM_of hK hS _) rfl rfl hl.1 rfl (lv_room (Nat.le_of_ble_eq_true rfl)) d_law_1294 hrm) hS (fun H locs hS => ?_)
  exact lgEnd hC hK (by omega) hO hXT hS hc1 hc2 hl d_law_1297 d_law_1299 d_law_1300 d_law_1303 d_law_1305 d_law_1310 d_law_1312 d_law_1315 d_law_1316 d_law_1317 d_law_1318 d_law_1320 d_law_1321 d_law_1322 d_law_1327 (by decide) kk
theorem law_1330 {p : Program} {l : Launch} {e : Env} {s : State} {m : MethodId} {args : Array Value} {below : List Frame} {meth : Method} {c : Code} {H : Heap} {locs : List Loc} {cells slots : Nat} {Q : State → Prop} {ls : Array Slot} {D : va_G} {dA : Nat → ClassId} {x mi n b a am o L : Nat} {xs : Nat → Int32} (hst : l.stackTraces = false) (hC : CTX p s m args meth c code 7 RL ret) (hK : LK D dA s x mi) (hX : va_X b L xs s s.heap) (hbl : b < s.heap.size) (hL : L ≤ 3072) (hn : 6 * n + 6 ≤ L) (hP : LGP D dA s x a am o n H locs cells slots) (hl : lv_has ls 7 (lvL n b a am o)) (kk : ∀ (H1 : Heap) (locs1 : List Loc) (c1 s1 : Nat) (ls1 : Array Slot), LGP D dA s x a am o (n + 1) H1 locs1 c1 s1 → lv_has ls1 7 (lvL n b a am o) → W p l e room_1 s m args below meth c H1 locs1 c1 s1 Q (F0 m 1679 ls1 [])) : W p l e room_1 s m args below meth c H locs cells slots Q (F0 m 1330 ls []) := by
  obtain ⟨ad, σ, v, adm, τ, hS, hI, hc1, hc2⟩ := hP
  have e1 := hS.h0
  have e2 := hS.m0
  subst e1
  subst e2
  obtain ⟨hx, hb, hml, hown, hts, hr, hlk⟩ := id hC
  obtain ⟨u, mc, ms, r, τ', f1, f2, hO⟩ := c_equityByTrades hI (xs (6 * n + 1))
  have hrm := OK_room hO (show n < 512 by omega) hc1 hc2
  refine lv_aload_n hx hb d_law_1330 rfl (lv_at hl 2 rfl) ?_
  refine lg_ld (k := 1) hC hX hbl hS.hS (lv_at hl 1 rfl) (lv_at hl 0 rfl) hn hL (by decide) (by decide) d_law_1331 d_law_1332 d_law_1334 d_law_1335 d_law_1336 ?_
  refine lv_aload_n hx hb d_law_1337 rfl (lv_at hl 4 rfl) ?_
  refine kLT (vx_runSW (As := [.ref (ad 0 0), .int (xs (6 * n + 1)), .ref o]) (rest := []) ⟨hx, hb, hml, hown, hts⟩ (mL_equityByTrades l hst D dA ad o σ v _ x mi (xs (6 * n + 1)) u mc ms f1 (OK_P hO)) (vx_cwSW 3 hts gW_164 rfl rfl rfl (by decide +kernel) ⟨Nat.le_of_ble_eq_true rfl, Nat.le_of_ble_eq_true rfl⟩) (preLT_of hK hS _) rfl rfl hl.1 rfl (lv_room (Nat.le_of_ble_eq_true rfl)) d_law_1338 hrm) (by decide) hS (fun z σ' v' ad' H locs hXT hS => ?_)
  refine lv_istore (i := 5) (lv' := (5, .int z) :: lvL n b (ad 0 0) (adm 0 0) o) hx hb d_law_1341 hl (by decide) rfl (fun ls hl => ?_)
  refine lv_aload_n hx hb d_law_1343 rfl (lv_at hl 4 rfl) ?_
  refine lg_ld (k := 1) hC hX hbl hS.hS (lv_at hl 2 rfl) (lv_at hl 1 rfl) hn hL (by decide) (by decide) d_law_1344 d_law_1345 d_law_1347 d_law_1348 d_law_1349 ?_
  refine kLM (va_runV (As := [.int (xs (6 * n + 1))]) (rest := []) ⟨hx, hb, hml, hown, hts⟩ (mX6_equityByTrades l D dA adm τ _ (xs (6 * n + 1)) r τ' f2) (cwV 1 hts gW_166 rfl rfl rfl (by decide +kernel) ⟨Nat.le_of_ble_eq_true rfl, Nat.le_of_ble_eq_true rfl⟩) (preLM_of hK hS _) rfl rfl hl.1 rfl (lv_room (Nat.le_of_ble_eq_true rfl)) d_law_1350 hrm) hS (fun H locs hS => ?_)
  exact lgEnd hC hK (by omega) hO hXT hS hc1 hc2 hl d_law_1353 d_law_1355 d_law_1356 d_law_1359 d_law_1361 d_law_1366 d_law_1368 d_law_1371 d_law_1372 d_law_1373 d_law_1374 d_law_1376 d_law_1377 d_law_1378 d_law_1383 (by decide) kk
theorem law_1386 {p : Program} {l : Launch} {e : Env} {s : State} {m : MethodId} {args : Array Value} {below : List Frame} {meth : Method} {c : Code} {H : Heap} {locs : List Loc} {cells slots : Nat} {Q : State → Prop} {ls : Array Slot} {D : va_G} {dA : Nat → ClassId} {x mi n b a am o L : Nat} {xs : Nat → Int32} (hst : l.stackTraces = false) (hC : CTX p s m args meth c code 7 RL ret) (hK : LK D dA s x mi) (hX : va_X b L xs s s.heap) (hbl : b < s.heap.size) (hL : L ≤ 3072) (hn : 6 * n + 6 ≤ L) (hP : LGP D dA s x a am o n H locs cells slots) (hl : lv_has ls 7 (lvL n b a am o)) (kk : ∀ (H1 : Heap) (locs1 : List Loc) (c1 s1 : Nat) (ls1 : Array Slot), LGP D dA s x a am o (n + 1) H1 locs1 c1 s1 → lv_has ls1 7 (lvL n b a am o) → W p l e room_1 s m args below meth c H1 locs1 c1 s1 Q (F0 m 1679 ls1 [])) : W p l e room_1 s m args below meth c H locs cells slots Q (F0 m 1386 ls []) := by
  obtain ⟨ad, σ, v, adm, τ, hS, hI, hc1, hc2⟩ := hP
  have e1 := hS.h0
  have e2 := hS.m0
  subst e1
  subst e2
  obtain ⟨hx, hb, hml, hown, hts, hr, hlk⟩ := id hC
  obtain ⟨u, mc, ms, r, τ', f1, f2, hO⟩ := c_margin hI (xs (6 * n + 1))
  have hrm := OK_room hO (show n < 512 by omega) hc1 hc2
  refine lv_aload_n hx hb d_law_1386 rfl (lv_at hl 2 rfl) ?_
  refine lg_ld (k := 1) hC hX hbl hS.hS (lv_at hl 1 rfl) (lv_at hl 0 rfl) hn hL (by decide) (by decide) d_law_1387 d_law_1388 d_law_1390 d_law_1391 d_law_1392 ?_
  refine lv_aload_n hx hb d_law_1393 rfl (lv_at hl 4 rfl) ?_
  refine kLT (vx_runSW (As := [.ref (ad 0 0), .int (xs (6 * n + 1)), .ref o]) (rest := []) ⟨hx, hb, hml, hown, hts⟩ (mL_margin l hst D dA ad o σ v _ x mi (xs (6 * n + 1)) u mc ms f1 (OK_P hO)) (vx_cwSW 3 hts gW_167 rfl rfl rfl (by decide +kernel) ⟨Nat.le_of_ble_eq_true rfl, Nat.le_of_ble_eq_true rfl⟩) (preLT_of hK hS _) rfl rfl hl.1 rfl (lv_room (Nat.le_of_ble_eq_true rfl)) d_law_1394 hrm) (by decide) hS (fun z σ' v' ad' H locs hXT hS => ?_)
  refine lv_istore (i := 5) (lv' := (5, .int z) :: lvL n b (ad 0 0) (adm 0 0) o) hx hb d_law_1397 hl (by decide) rfl (fun ls hl => ?_)
  refine lv_aload_n hx hb d_law_1399 rfl (lv_at hl 4 rfl) ?_
  refine lg_ld (k := 1) hC hX hbl hS.hS (lv_at hl 2 rfl) (lv_at hl 1 rfl) hn hL (by decide) (by decide) d_law_1400 d_law_1401 d_law_1403 d_law_1404 d_law_1405 ?_
  refine kLM (va_runV (As := [.int (xs (6 * n + 1))]) (rest := []) ⟨hx, hb, hml, hown, hts⟩ (mX6_margin l D dA adm τ _ (xs (6 * n + 1)) r τ' f2) (cwV 1 hts gW_169 rfl rfl rfl (by decide +kernel) ⟨Nat.le_of_ble_eq_true rfl, Nat.le_of_ble_eq_true rfl⟩) (preLM_of hK hS _) rfl rfl hl.1 rfl (lv_room (Nat.le_of_ble_eq_true rfl)) d_law_1406 hrm) hS (fun H locs hS => ?_)
  exact lgEnd hC hK (by omega) hO hXT hS hc1 hc2 hl d_law_1409 d_law_1411 d_law_1412 d_law_1415 d_law_1417 d_law_1422 d_law_1424 d_law_1427 d_law_1428 d_law_1429 d_law_1430 d_law_1432 d_law_1433 d_law_1434 d_law_1439 (by decide) kk
theorem law_1442 {p : Program} {l : Launch} {e : Env} {s : State} {m : MethodId} {args : Array Value} {below : List Frame} {meth : Method} {c : Code} {H : Heap} {locs : List Loc} {cells slots : Nat} {Q : State → Prop} {ls : Array Slot} {D : va_G} {dA : Nat → ClassId} {x mi n b a am o L : Nat} {xs : Nat → Int32} (hst : l.stackTraces = false) (hC : CTX p s m args meth c code 7 RL ret) (hK : LK D dA s x mi) (hX : va_X b L xs s s.heap) (hbl : b < s.heap.size) (hL : L ≤ 3072) (hn : 6 * n + 6 ≤ L) (hP : LGP D dA s x a am o n H locs cells slots) (hl : lv_has ls 7 (lvL n b a am o)) (kk : ∀ (H1 : Heap) (locs1 : List Loc) (c1 s1 : Nat) (ls1 : Array Slot), LGP D dA s x a am o (n + 1) H1 locs1 c1 s1 → lv_has ls1 7 (lvL n b a am o) → W p l e room_1 s m args below meth c H1 locs1 c1 s1 Q (F0 m 1679 ls1 [])) : W p l e room_1 s m args below meth c H locs cells slots Q (F0 m 1442 ls []) := by
  obtain ⟨ad, σ, v, adm, τ, hS, hI, hc1, hc2⟩ := hP
  have e1 := hS.h0
  have e2 := hS.m0
  subst e1
  subst e2
  obtain ⟨hx, hb, hml, hown, hts, hr, hlk⟩ := id hC
  obtain ⟨u, mc, ms, r, τ', f1, f2, hO⟩ := c_haircut hI (xs (6 * n + 1))
  have hrm := OK_room hO (show n < 512 by omega) hc1 hc2
  refine lv_aload_n hx hb d_law_1442 rfl (lv_at hl 2 rfl) ?_
  refine lg_ld (k := 1) hC hX hbl hS.hS (lv_at hl 1 rfl) (lv_at hl 0 rfl) hn hL (by decide) (by decide) d_law_1443 d_law_1444 d_law_1446 d_law_1447 d_law_1448 ?_
  refine lv_aload_n hx hb d_law_1449 rfl (lv_at hl 4 rfl) ?_
  refine kLT (vx_runSW (As := [.ref (ad 0 0), .int (xs (6 * n + 1)), .ref o]) (rest := []) ⟨hx, hb, hml, hown, hts⟩ (mL_haircut l hst D dA ad o σ v _ x mi (xs (6 * n + 1)) u mc ms f1 (OK_P hO)) (vx_cwSW 3 hts gW_170 rfl rfl rfl (by decide +kernel) ⟨Nat.le_of_ble_eq_true rfl, Nat.le_of_ble_eq_true rfl⟩) (preLT_of hK hS _) rfl rfl hl.1 rfl (lv_room (Nat.le_of_ble_eq_true rfl)) d_law_1450 hrm) (by decide) hS (fun z σ' v' ad' H locs hXT hS => ?_)
  refine lv_istore (i := 5) (lv' := (5, .int z) :: lvL n b (ad 0 0) (adm 0 0) o) hx hb d_law_1453 hl (by decide) rfl (fun ls hl => ?_)
  refine lv_aload_n hx hb d_law_1455 rfl (lv_at hl 4 rfl) ?_
  refine lg_ld (k := 1) hC hX hbl hS.hS (lv_at hl 2 rfl) (lv_at hl 1 rfl) hn hL (by decide) (by decide) d_law_1456 d_law_1457 d_law_1459 d_law_1460 d_law_1461 ?_
  refine kLM (va_runV (As := [.int (xs (6 * n + 1))]) (rest := []) ⟨hx, hb, hml, hown, hts⟩ (mX6_haircut l D dA adm τ _ (xs (6 * n + 1)) r τ' f2) (cwV 1 hts gW_172 rfl rfl rfl (by decide +kernel) ⟨Nat.le_of_ble_eq_true rfl, Nat.le_of_ble_eq_true rfl⟩) (preLM_of hK hS _) rfl rfl hl.1 rfl (lv_room (Nat.le_of_ble_eq_true rfl)) d_law_1462 hrm) hS (fun H locs hS => ?_)
  exact lgEnd hC hK (by omega) hO hXT hS hc1 hc2 hl d_law_1465 d_law_1467 d_law_1468 d_law_1471 d_law_1473 d_law_1478 d_law_1480 d_law_1483 d_law_1484 d_law_1485 d_law_1486 d_law_1488 d_law_1489 d_law_1490 d_law_1495 (by decide) kk
theorem law_1498 {p : Program} {l : Launch} {e : Env} {s : State} {m : MethodId} {args : Array Value} {below : List Frame} {meth : Method} {c : Code} {H : Heap} {locs : List Loc} {cells slots : Nat} {Q : State → Prop} {ls : Array Slot} {D : va_G} {dA : Nat → ClassId} {x mi n b a am o L : Nat} {xs : Nat → Int32} (hst : l.stackTraces = false) (hC : CTX p s m args meth c code 7 RL ret) (hK : LK D dA s x mi) (hX : va_X b L xs s s.heap) (hbl : b < s.heap.size) (hL : L ≤ 3072) (hn : 6 * n + 6 ≤ L) (hP : LGP D dA s x a am o n H locs cells slots) (hl : lv_has ls 7 (lvL n b a am o)) (kk : ∀ (H1 : Heap) (locs1 : List Loc) (c1 s1 : Nat) (ls1 : Array Slot), LGP D dA s x a am o (n + 1) H1 locs1 c1 s1 → lv_has ls1 7 (lvL n b a am o) → W p l e room_1 s m args below meth c H1 locs1 c1 s1 Q (F0 m 1679 ls1 [])) : W p l e room_1 s m args below meth c H locs cells slots Q (F0 m 1498 ls []) := by
  obtain ⟨ad, σ, v, adm, τ, hS, hI, hc1, hc2⟩ := hP
  have e1 := hS.h0
  have e2 := hS.m0
  subst e1
  subst e2
  obtain ⟨hx, hb, hml, hown, hts, hr, hlk⟩ := id hC
  obtain ⟨u, mc, ms, r, τ', f1, f2, hO⟩ := c_collateral hI (xs (6 * n + 1))
  have hrm := OK_room hO (show n < 512 by omega) hc1 hc2
  refine lv_aload_n hx hb d_law_1498 rfl (lv_at hl 2 rfl) ?_
  refine lg_ld (k := 1) hC hX hbl hS.hS (lv_at hl 1 rfl) (lv_at hl 0 rfl) hn hL (by decide) (by decide) d_law_1499 d_law_1500 d_law_1502 d_law_1503 d_law_1504 ?_
  refine lv_aload_n hx hb d_law_1505 rfl (lv_at hl 4 rfl) ?_
  refine kLT (vx_runSW (As := [.ref (ad 0 0), .int (xs (6 * n + 1)), .ref o]) (rest := []) ⟨hx, hb, hml, hown, hts⟩ (mL_collateral l hst D dA ad o σ v _ x mi (xs (6 * n + 1)) u mc ms f1 (OK_P hO)) (vx_cwSW 3 hts gW_173 rfl rfl rfl (by decide +kernel) ⟨Nat.le_of_ble_eq_true rfl, Nat.le_of_ble_eq_true rfl⟩) (preLT_of hK hS _) rfl rfl hl.1 rfl (lv_room (Nat.le_of_ble_eq_true rfl)) d_law_1506 hrm) (by decide) hS (fun z σ' v' ad' H locs hXT hS => ?_)
  refine lv_istore (i := 5) (lv' := (5, .int z) :: lvL n b (ad 0 0) (adm 0 0) o) hx hb d_law_1509 hl (by decide) rfl (fun ls hl => ?_)
  refine lv_aload_n hx hb d_law_1511 rfl (lv_at hl 4 rfl) ?_
  refine lg_ld (k := 1) hC hX hbl hS.hS (lv_at hl 2 rfl) (lv_at hl 1 rfl) hn hL (by decide) (by decide) d_law_1512 d_law_1513 d_law_1515 d_law_1516 d_law_1517 ?_
  refine kLM (va_runV (As := [.int (xs (6 * n + 1))]) (rest := []) ⟨hx, hb, hml, hown, hts⟩ (mX6_collateral l D dA adm τ _ (xs (6 * n + 1)) r τ' f2) (cwV 1 hts gW_175 rfl rfl rfl (by decide +kernel) ⟨Nat.le_of_ble_eq_true rfl, Nat.le_of_ble_eq_true rfl⟩) (preLM_of hK hS _) rfl rfl hl.1 rfl (lv_room (Nat.le_of_ble_eq_true rfl)) d_law_1518 hrm) hS (fun H locs hS => ?_)
  exact lgEnd hC hK (by omega) hO hXT hS hc1 hc2 hl d_law_1521 d_law_1523 d_law_1524 d_law_1527 d_law_1529 d_law_1534 d_law_1536 d_law_1539 d_law_1540 d_law_1541 d_law_1542 d_law_1544 d_law_1545 d_law_1546 d_law_1551 (by decide) kk
theorem law_1554 {p : Program} {l : Launch} {e : Env} {s : State} {m : MethodId} {args : Array Value} {below : List Frame} {meth : Method} {c : Code} {H : Heap} {locs : List Loc} {cells slots : Nat} {Q : State → Prop} {ls : Array Slot} {D : va_G} {dA : Nat → ClassId} {x mi n b a am o L : Nat} {xs : Nat → Int32} (hst : l.stackTraces = false) (hC : CTX p s m args meth c code 7 RL ret) (hK : LK D dA s x mi) (hX : va_X b L xs s s.heap) (hbl : b < s.heap.size) (hL : L ≤ 3072) (hn : 6 * n + 6 ≤ L) (hP : LGP D dA s x a am o n H locs cells slots) (hl : lv_has ls 7 (lvL n b a am o)) (kk : ∀ (H1 : Heap) (locs1 : List Loc) (c1 s1 : Nat) (ls1 : Array Slot), LGP D dA s x a am o (n + 1) H1 locs1 c1 s1 → lv_has ls1 7 (lvL n b a am o) → W p l e room_1 s m args below meth c H1 locs1 c1 s1 Q (F0 m 1679 ls1 [])) : W p l e room_1 s m args below meth c H locs cells slots Q (F0 m 1554 ls []) := by
  obtain ⟨ad, σ, v, adm, τ, hS, hI, hc1, hc2⟩ := hP
  have e1 := hS.h0
  have e2 := hS.m0
  subst e1
  subst e2
  obtain ⟨hx, hb, hml, hown, hts, hr, hlk⟩ := id hC
  obtain ⟨u, mc, ms, r, τ', f1, f2, hO⟩ := c_free hI (xs (6 * n + 1))
  have hrm := OK_room hO (show n < 512 by omega) hc1 hc2
  refine lv_aload_n hx hb d_law_1554 rfl (lv_at hl 2 rfl) ?_
  refine lg_ld (k := 1) hC hX hbl hS.hS (lv_at hl 1 rfl) (lv_at hl 0 rfl) hn hL (by decide) (by decide) d_law_1555 d_law_1556 d_law_1558 d_law_1559 d_law_1560 ?_
  refine lv_aload_n hx hb d_law_1561 rfl (lv_at hl 4 rfl) ?_
  refine kLT (vx_runSW (As := [.ref (ad 0 0), .int (xs (6 * n + 1)), .ref o]) (rest := []) ⟨hx, hb, hml, hown, hts⟩ (mL_free l hst D dA ad o σ v _ x mi (xs (6 * n + 1)) u mc ms f1 (OK_P hO)) (vx_cwSW 3 hts gW_176 rfl rfl rfl (by decide +kernel) ⟨Nat.le_of_ble_eq_true rfl, Nat.le_of_ble_eq_true rfl⟩) (preLT_of hK hS _) rfl rfl hl.1 rfl (lv_room (Nat.le_of_ble_eq_true rfl)) d_law_1562 hrm) (by decide) hS (fun z σ' v' ad' H locs hXT hS => ?_)
  refine lv_istore (i := 5) (lv' := (5, .int z) :: lvL n b (ad 0 0) (adm 0 0) o) hx hb d_law_1565 hl (by decide) rfl (fun ls hl => ?_)
  refine lv_aload_n hx hb d_law_1567 rfl (lv_at hl 4 rfl) ?_
  refine lg_ld (k := 1) hC hX hbl hS.hS (lv_at hl 2 rfl) (lv_at hl 1 rfl) hn hL (by decide) (by decide) d_law_1568 d_law_1569 d_law_1571 d_law_1572 d_law_1573 ?_
  refine kLM (va_runV (As := [.int (xs (6 * n + 1))]) (rest := []) ⟨hx, hb, hml, hown, hts⟩ (mX6_free l D dA adm τ _ (xs (6 * n + 1)) r τ' f2) (cwV 1 hts gW_178 rfl rfl rfl (by decide +kernel) ⟨Nat.le_of_ble_eq_true rfl, Nat.le_of_ble_eq_true rfl⟩) (preLM_of hK hS _) rfl rfl hl.1 rfl (lv_room (Nat.le_of_ble_eq_true rfl)) d_law_1574 hrm) hS (fun H locs hS => ?_)
  exact lgEnd hC hK (by omega) hO hXT hS hc1 hc2 hl d_law_1577 d_law_1579 d_law_1580 d_law_1583 d_law_1585 d_law_1590 d_law_1592 d_law_1595 d_law_1596 d_law_1597 d_law_1598 d_law_1600 d_law_1601 d_law_1602 d_law_1607 (by decide) kk
theorem law_1610 {p : Program} {l : Launch} {e : Env} {s : State} {m : MethodId} {args : Array Value} {below : List Frame} {meth : Method} {c : Code} {H : Heap} {locs : List Loc} {cells slots : Nat} {Q : State → Prop} {ls : Array Slot} {D : va_G} {dA : Nat → ClassId} {x mi n b a am o L : Nat} {xs : Nat → Int32} (hst : l.stackTraces = false) (hC : CTX p s m args meth c code 7 RL ret) (hK : LK D dA s x mi) (hX : va_X b L xs s s.heap) (hbl : b < s.heap.size) (hL : L ≤ 3072) (hn : 6 * n + 6 ≤ L) (hP : LGP D dA s x a am o n H locs cells slots) (hl : lv_has ls 7 (lvL n b a am o)) (kk : ∀ (H1 : Heap) (locs1 : List Loc) (c1 s1 : Nat) (ls1 : Array Slot), LGP D dA s x a am o (n + 1) H1 locs1 c1 s1 → lv_has ls1 7 (lvL n b a am o) → W p l e room_1 s m args below meth c H1 locs1 c1 s1 Q (F0 m 1679 ls1 [])) : W p l e room_1 s m args below meth c H locs cells slots Q (F0 m 1610 ls []) := by
  obtain ⟨ad, σ, v, adm, τ, hS, hI, hc1, hc2⟩ := hP
  have e1 := hS.h0
  have e2 := hS.m0
  subst e1
  subst e2
  obtain ⟨hx, hb, hml, hown, hts, hr, hlk⟩ := id hC
  obtain ⟨u, mc, ms, r, τ', f1, f2, hO⟩ := c_share hI (xs (6 * n + 1))
  have hrm := OK_room hO (show n < 512 by omega) hc1 hc2
  refine lv_aload_n hx hb d_law_1610 rfl (lv_at hl 2 rfl) ?_
  refine lg_ld (k := 1) hC hX hbl hS.hS (lv_at hl 1 rfl) (lv_at hl 0 rfl) hn hL (by decide) (by decide) d_law_1611 d_law_1612 d_law_1614 d_law_1615 d_law_1616 ?_
  refine lv_aload_n hx hb d_law_1617 rfl (lv_at hl 4 rfl) ?_
  refine kLT (vx_runSW (As := [.ref (ad 0 0), .int (xs (6 * n + 1)), .ref o]) (rest := []) ⟨hx, hb, hml, hown, hts⟩ (mL_share l hst D dA ad o σ v _ x mi (xs (6 * n + 1)) u mc ms f1 (OK_P hO)) (vx_cwSW 3 hts gW_179 rfl rfl rfl (by decide +kernel) ⟨Nat.le_of_ble_eq_true rfl, Nat.le_of_ble_eq_true rfl⟩) (preLT_of hK hS _) rfl rfl hl.1 rfl (lv_room (Nat.le_of_ble_eq_true rfl)) d_law_1618 hrm) (by decide) hS (fun z σ' v' ad' H locs hXT hS => ?_)
  refine lv_istore (i := 5) (lv' := (5, .int z) :: lvL n b (ad 0 0) (adm 0 0) o) hx hb d_law_1621 hl (by decide) rfl (fun ls hl => ?_)
  refine lv_aload_n hx hb d_law_1623 rfl (lv_at hl 4 rfl) ?_
  refine lg_ld (k := 1) hC hX hbl hS.hS (lv_at hl 2 rfl) (lv_at hl 1 rfl) hn hL (by decide) (by decide) d_law_1624 d_law_1625 d_law_1627 d_law_1628 d_law_1629 ?_
  refine kLM (va_runV (As := [.int (xs (6 * n + 1))]) (rest := []) ⟨hx, hb, hml, hown, hts⟩ (mX6_share l D dA adm τ _ (xs (6 * n + 1)) r τ' f2) (cwV 1 hts gW_181 rfl rfl rfl (by decide +kernel) ⟨Nat.le_of_ble_eq_true rfl, Nat.le_of_ble_eq_true rfl⟩) (preLM_of hK hS _) rfl rfl hl.1 rfl (lv_room (Nat.le_of_ble_eq_true rfl)) d_law_1630 hrm) hS (fun H locs hS => ?_)
  exact lgEnd hC hK (by omega) hO hXT hS hc1 hc2 hl d_law_1633 d_law_1635 d_law_1636 d_law_1639 d_law_1641 d_law_1646 d_law_1648 d_law_1651 d_law_1652 d_law_1653 d_law_1654 d_law_1656 d_law_1657 d_law_1658 d_law_1663 (by decide) kk
theorem law_1666 {p : Program} {l : Launch} {e : Env} {s : State} {m : MethodId} {args : Array Value} {below : List Frame} {meth : Method} {c : Code} {H : Heap} {locs : List Loc} {cells slots : Nat} {Q : State → Prop} {ls : Array Slot} {D : va_G} {dA : Nat → ClassId} {x mi n b a am o L : Nat} {xs : Nat → Int32} (hst : l.stackTraces = false) (hC : CTX p s m args meth c code 7 RL ret) (hK : LK D dA s x mi) (hX : va_X b L xs s s.heap) (hbl : b < s.heap.size) (hL : L ≤ 3072) (hn : 6 * n + 6 ≤ L) (hP : LGP D dA s x a am o n H locs cells slots) (hl : lv_has ls 7 (lvL n b a am o)) (kk : ∀ (H1 : Heap) (locs1 : List Loc) (c1 s1 : Nat) (ls1 : Array Slot), LGP D dA s x a am o (n + 1) H1 locs1 c1 s1 → lv_has ls1 7 (lvL n b a am o) → W p l e room_1 s m args below meth c H1 locs1 c1 s1 Q (F0 m 1679 ls1 [])) : W p l e room_1 s m args below meth c H locs cells slots Q (F0 m 1666 ls []) := by
  obtain ⟨ad, σ, v, adm, τ, hS, hI, hc1, hc2⟩ := hP
  have e1 := hS.h0
  have e2 := hS.m0
  subst e1
  subst e2
  obtain ⟨hx, hb, hml, hown, hts, hr, hlk⟩ := id hC
  obtain ⟨r, τ', f1, f2, hI'⟩ := c_unpaid hI
  have hpl := pot_le hI' (by omega)
  have hpl0 := pot_le hI (by omega)
  refine lv_aload_n hx hb d_law_1666 rfl (lv_at hl 2 rfl) ?_
  refine kLC ⟨rfl, rfl, rfl, rfl, rfl, rfl, rfl⟩ (va_runV (As := []) (rest := []) ⟨hx, hb, hml, hown, hts⟩ (mX5_unpaid l D dA ad σ _ r f1) (cwV 0 hts gW_182 rfl rfl rfl (by decide +kernel) ⟨Nat.le_of_ble_eq_true rfl, Nat.le_of_ble_eq_true rfl⟩) (preLC_of hK hS _) rfl rfl hl.1 rfl (lv_room (Nat.le_of_ble_eq_true rfl)) d_law_1667 (show cells + 0 ≤ 601024 ∧ slots + 0 ≤ 7293034 from ⟨by omega, by omega⟩)) hS (fun H locs hS => ?_)
  refine lv_aload_n hx hb d_law_1670 rfl (lv_at hl 3 rfl) ?_
  refine kLM (va_runV (As := []) (rest := [.int r]) ⟨hx, hb, hml, hown, hts⟩ (mX6_unpaid l D dA adm τ _ r τ' f2) (cwV 0 hts gW_185 rfl rfl rfl (by decide +kernel) ⟨Nat.le_of_ble_eq_true rfl, Nat.le_of_ble_eq_true rfl⟩) (preLM_of hK hS _) rfl rfl hl.1 rfl (lv_room (Nat.le_of_ble_eq_true rfl)) d_law_1671 (show cells + 0 ≤ 601024 ∧ slots + 0 ≤ 7293034 from ⟨by omega, by omega⟩)) hS (fun H locs hS => ?_)
  refine lv_icmp_eq (tgt := 1679) hx hb d_law_1674 (by decide) (fun _ => ?_) (fun q => absurd rfl q)
  exact kk H locs _ _ ls ⟨ad, σ, v, adm, τ', hS, hI', by omega, by omega⟩ hl
