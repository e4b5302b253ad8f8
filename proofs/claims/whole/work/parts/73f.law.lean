section LAWC
variable {p : Program} {l : Launch} {e : Env} {s : State} {m : MethodId} {below : List Frame} {meth : Method} {c : Code}
variable {D : va_G} {A : Nat → Prop} {Q : State → Prop} {cells slots : Nat} {cyI cyO cyJ : ClassId} {b len i : Nat} {xs : Nat → Int32}
variable {aM : Nat → Nat} {aO aX : Nat} {aS aG aL aU aV aB aH : Nat → Nat} {M S G Lg U V B : OB} {oO : Nat → Int64} {X : HS}
set_option maxHeartbeats 1000000 in
set_option maxRecDepth 20000 in
theorem tL_isSure (C : Cx p s m #[Value.ref b] meth c D (tyG cyI cyO cyJ) A RL cL_law 9 (some .boolean) lw_tbl) (CE : ENVL A s) (hls : l.stackTraces = false) (hX : va_X b len xs s s.heap) (hbl : b < s.heap.size) (hbA : ¬ A b) (hlen : len ≤ 2048) (hi : i + 4 ≤ len) (hcs : cells + 1 ≤ room_1.cells ∧ slots + 6 ≤ room_1.slots) (AA : AL Lg B X M)
    (next : ∀ (M' : OB) (oO' : Nat → Int64) (S' G' L' U' V' B' : OB) (X' : HS) (c' s' : Nat), AL L' B' X' M' → c' ≤ cells + 1 → s' ≤ slots + 6 → Wn p l e room_1 s m #[Value.ref b] below meth c D A 9 c' s' Q (lwW cyI cyO cyJ aM aO aX aS aG aL aU aV aB aH (M') (oO') (S') (G') (L') (U') (V') (B') (X')) 1478 [(4, .int (nI i)), (3, .ref aO), (2, .ref (aM 0)), (1, .ref aX), (0, .ref b)] []) : Wn p l e room_1 s m #[Value.ref b] below meth c D A 9 cells slots Q (lwW cyI cyO cyJ aM aO aX aS aG aL aU aV aB aH M oO S G Lg U V B X) 1311 [(4, .int (nI i)), (3, .ref aO), (2, .ref (aM 0)), (1, .ref aX), (0, .ref b)] [] := by
  obtain ⟨z, w, hz, hw, hA, hL⟩ := call_isSure (S := S) (G := G) (U := U) (V := V) (x := (xs (nI i + nI 1).toNatClampNeg)) AA
  refine n_aload_n C dL_law_1311 3 rfl rfl ?_
  refine n_aload_n C dL_law_1312 4 rfl rfl ?_
  refine n_iload C dL_law_1313 0 rfl rfl ?_
  refine n_iconst (v := nI 1) C dL_law_1315 (by decide) rfl ?_
  refine n_iadd C dL_law_1316 rfl ?_
  refine n_sld C hX hbl hbA dL_law_1317 (lw_vin (by omega) hlen) rfl ?_
  refine n_aload_n C dL_law_1318 1 rfl rfl ?_
  refine n_callSW (As := [.ref aX, .int (xs (nI i + nI 1).toNatClampNeg), .ref aO]) (rest := []) (w2 := lwW cyI cyO cyJ aM aO aX aS aG aL aU aV aB aH M (uO oO z.1) z.2 G Lg U V B X) C CE dL_law_1319 (kL_isSure l hls D cyI cyO cyJ aO aX aS aG aL aU aV aB aH 3000 oO S G Lg U V B X (xs (nI i + nI 1).toNatClampNeg) z hz hA.1) (vx_cwSW 3 C.ts gT_L_isSure rfl rfl rfl (by decide +kernel) ⟨(Nat.le_of_ble_eq_true rfl), (Nat.le_of_ble_eq_true rfl)⟩) rfl (Frm.skip Frm.self) rfl (Nat.le_of_ble_eq_true rfl) hcs rfl ?_
  refine n_istore (lv' := [(5, .int (kO ["java/lang/IndexOutOfBoundsException"] z.1)), (4, .int (nI i)), (3, .ref aO), (2, .ref (aM 0)), (1, .ref aX), (0, .ref b)]) C dL_law_1322 (by decide) rfl rfl ?_
  refine n_aload_n C dL_law_1324 3 rfl rfl ?_
  refine n_aload_n C dL_law_1325 5 rfl rfl ?_
  refine n_iload C dL_law_1326 1 rfl rfl ?_
  refine n_iconst (v := nI 1) C dL_law_1328 (by decide) rfl ?_
  refine n_iadd C dL_law_1329 rfl ?_
  refine n_sld C hX hbl hbA dL_law_1330 (lw_vin (by omega) hlen) rfl ?_
  refine n_callV (As := [.int (xs (nI i + nI 1).toNatClampNeg)]) (rest := []) (w2 := lwW cyI cyO cyJ aM aO aX aS aG aL aU aV aB aH w.2 (uO oO z.1) z.2 G Lg U V B X) C dL_law_1331 (c6_isSure l D cyI cyO cyJ aM 3000 M (xs (nI i + nI 1).toNatClampNeg) w hw) (cwV 1 C.ts gT_X6_isSure rfl rfl rfl (by decide +kernel) ⟨(Nat.le_of_ble_eq_true rfl), (Nat.le_of_ble_eq_true rfl)⟩) rfl (q0 := 0) (ci := 6) rfl rfl Frm.here rfl (Nat.le_of_ble_eq_true rfl) hcs rfl ?_
  refine n_istore (lv' := [(6, .int w.1), (5, .int (kO ["java/lang/IndexOutOfBoundsException"] z.1)), (4, .int (nI i)), (3, .ref aO), (2, .ref (aM 0)), (1, .ref aX), (0, .ref b)]) C dL_law_1334 (by decide) rfl rfl ?_
  refine n_aload_n C dL_law_1336 4 rfl rfl ?_
  refine n_callV (As := []) (rest := []) (w2 := lwW cyI cyO cyJ aM aO aX aS aG aL aU aV aB aH w.2 (uO oO z.1) z.2 G Lg U V B X) C dL_law_1337 (c6_thrown l D cyI cyO cyJ aM 3000 w.2 (w.2.1 6) rfl) (cwV 0 C.ts gT_X6_thrown rfl rfl rfl (by decide +kernel) ⟨(Nat.le_of_ble_eq_true rfl), (Nat.le_of_ble_eq_true rfl)⟩) rfl (q0 := 0) (ci := 6) rfl rfl Frm.here rfl (Nat.le_of_ble_eq_true rfl) hcs rfl ?_
  refine n_iload C dL_law_1340 1 rfl rfl ?_
  refine n_icmp_eq (t := 1347) C dL_law_1342 (by decide) rfl (fun _ => ?_) (fun h => absurd hA.2.1 h)
  refine n_iload C dL_law_1347 1 rfl rfl ?_
  refine n_if_ne (t := 1364) C dL_law_1349 (by decide) rfl (fun _ => ?_) (fun h0 => ?_)
  · refine n_goto (t := 1478) C dL_law_1364 (by decide) ?_
    exact Wn.sub [2, 3, 4, 5, 6] rfl (next w.2 (uO oO z.1) z.2 G Lg U V B X _ _ hL (by omega) (by omega))
  · refine n_aload_n C dL_law_1352 3 rfl rfl ?_
    refine n_iconst (v := nI 0) C dL_law_1353 (by decide) rfl ?_
    refine n_lald (f := uO oO z.1) C dL_law_1354 6 2 rfl rfl (ck_in (by decide)) rfl ?_
    rw [ag_out hA (by decide) h0]
    refine n_iload C dL_law_1355 0 rfl rfl ?_
    refine n_i2l C dL_law_1357 rfl ?_
    refine n_lcmp C dL_law_1358 rfl ?_
    rw [lg_same]
    refine n_if_eq (t := 1364) C dL_law_1359 (by decide) rfl (fun _ => ?_) (fun h => absurd rfl h)
    refine n_goto (t := 1478) C dL_law_1364 (by decide) ?_
    exact Wn.sub [2, 3, 4, 5, 6] rfl (next w.2 (uO oO z.1) z.2 G Lg U V B X _ _ hL (by omega) (by omega))

set_option maxHeartbeats 1000000 in
set_option maxRecDepth 20000 in
theorem tL_ifMissing (C : Cx p s m #[Value.ref b] meth c D (tyG cyI cyO cyJ) A RL cL_law 9 (some .boolean) lw_tbl) (CE : ENVL A s) (hls : l.stackTraces = false) (hX : va_X b len xs s s.heap) (hbl : b < s.heap.size) (hbA : ¬ A b) (hlen : len ≤ 2048) (hi : i + 4 ≤ len) (hcs : cells + 1 ≤ room_1.cells ∧ slots + 6 ≤ room_1.slots) (AA : AL Lg B X M)
    (next : ∀ (M' : OB) (oO' : Nat → Int64) (S' G' L' U' V' B' : OB) (X' : HS) (c' s' : Nat), AL L' B' X' M' → c' ≤ cells + 1 → s' ≤ slots + 6 → Wn p l e room_1 s m #[Value.ref b] below meth c D A 9 c' s' Q (lwW cyI cyO cyJ aM aO aX aS aG aL aU aV aB aH (M') (oO') (S') (G') (L') (U') (V') (B') (X')) 1478 [(4, .int (nI i)), (3, .ref aO), (2, .ref (aM 0)), (1, .ref aX), (0, .ref b)] []) : Wn p l e room_1 s m #[Value.ref b] below meth c D A 9 cells slots Q (lwW cyI cyO cyJ aM aO aX aS aG aL aU aV aB aH M oO S G Lg U V B X) 1367 [(4, .int (nI i)), (3, .ref aO), (2, .ref (aM 0)), (1, .ref aX), (0, .ref b)] [] := by
  obtain ⟨z, w, hz, hw, hA, hL⟩ := call_ifMissing (S := S) (G := G) (U := U) (V := V) (x := (xs (nI i + nI 1).toNatClampNeg)) AA
  refine n_aload_n C dL_law_1367 3 rfl rfl ?_
  refine n_aload_n C dL_law_1368 4 rfl rfl ?_
  refine n_iload C dL_law_1369 0 rfl rfl ?_
  refine n_iconst (v := nI 1) C dL_law_1371 (by decide) rfl ?_
  refine n_iadd C dL_law_1372 rfl ?_
  refine n_sld C hX hbl hbA dL_law_1373 (lw_vin (by omega) hlen) rfl ?_
  refine n_aload_n C dL_law_1374 1 rfl rfl ?_
  refine n_callSW (As := [.ref aX, .int (xs (nI i + nI 1).toNatClampNeg), .ref aO]) (rest := []) (w2 := lwW cyI cyO cyJ aM aO aX aS aG aL aU aV aB aH M (uO oO z.1) S z.2.1 Lg U z.2.2 B X) C CE dL_law_1375 (kL_ifMissing l hls D cyI cyO cyJ aO aX aS aG aL aU aV aB aH 3000 oO S G Lg U V B X (xs (nI i + nI 1).toNatClampNeg) z hz hA.1) (vx_cwSW 3 C.ts gT_L_ifMissing rfl rfl rfl (by decide +kernel) ⟨(Nat.le_of_ble_eq_true rfl), (Nat.le_of_ble_eq_true rfl)⟩) rfl (Frm.skip Frm.self) rfl (Nat.le_of_ble_eq_true rfl) hcs rfl ?_
  refine n_istore (lv' := [(5, .int (kO ["java/lang/IllegalArgumentException"] z.1)), (4, .int (nI i)), (3, .ref aO), (2, .ref (aM 0)), (1, .ref aX), (0, .ref b)]) C dL_law_1378 (by decide) rfl rfl ?_
  refine n_aload_n C dL_law_1380 3 rfl rfl ?_
  refine n_aload_n C dL_law_1381 5 rfl rfl ?_
  refine n_iload C dL_law_1382 1 rfl rfl ?_
  refine n_iconst (v := nI 1) C dL_law_1384 (by decide) rfl ?_
  refine n_iadd C dL_law_1385 rfl ?_
  refine n_sld C hX hbl hbA dL_law_1386 (lw_vin (by omega) hlen) rfl ?_
  refine n_callV (As := [.int (xs (nI i + nI 1).toNatClampNeg)]) (rest := []) (w2 := lwW cyI cyO cyJ aM aO aX aS aG aL aU aV aB aH w.2 (uO oO z.1) S z.2.1 Lg U z.2.2 B X) C dL_law_1387 (c6_ifMissing l D cyI cyO cyJ aM 3000 M (xs (nI i + nI 1).toNatClampNeg) w hw) (cwV 1 C.ts gT_X6_ifMissing rfl rfl rfl (by decide +kernel) ⟨(Nat.le_of_ble_eq_true rfl), (Nat.le_of_ble_eq_true rfl)⟩) rfl (q0 := 0) (ci := 6) rfl rfl Frm.here rfl (Nat.le_of_ble_eq_true rfl) hcs rfl ?_
  refine n_istore (lv' := [(6, .int w.1), (5, .int (kO ["java/lang/IllegalArgumentException"] z.1)), (4, .int (nI i)), (3, .ref aO), (2, .ref (aM 0)), (1, .ref aX), (0, .ref b)]) C dL_law_1390 (by decide) rfl rfl ?_
  refine n_aload_n C dL_law_1392 4 rfl rfl ?_
  refine n_callV (As := []) (rest := []) (w2 := lwW cyI cyO cyJ aM aO aX aS aG aL aU aV aB aH w.2 (uO oO z.1) S z.2.1 Lg U z.2.2 B X) C dL_law_1393 (c6_thrown l D cyI cyO cyJ aM 3000 w.2 (w.2.1 6) rfl) (cwV 0 C.ts gT_X6_thrown rfl rfl rfl (by decide +kernel) ⟨(Nat.le_of_ble_eq_true rfl), (Nat.le_of_ble_eq_true rfl)⟩) rfl (q0 := 0) (ci := 6) rfl rfl Frm.here rfl (Nat.le_of_ble_eq_true rfl) hcs rfl ?_
  refine n_iload C dL_law_1396 1 rfl rfl ?_
  refine n_icmp_eq (t := 1403) C dL_law_1398 (by decide) rfl (fun _ => ?_) (fun h => absurd hA.2.1 h)
  refine n_iload C dL_law_1403 1 rfl rfl ?_
  refine n_if_ne (t := 1420) C dL_law_1405 (by decide) rfl (fun _ => ?_) (fun h0 => ?_)
  · refine n_goto (t := 1478) C dL_law_1420 (by decide) ?_
    exact Wn.sub [2, 3, 4, 5, 6] rfl (next w.2 (uO oO z.1) S z.2.1 Lg U z.2.2 B X _ _ hL (by omega) (by omega))
  · refine n_aload_n C dL_law_1408 3 rfl rfl ?_
    refine n_iconst (v := nI 0) C dL_law_1409 (by decide) rfl ?_
    refine n_lald (f := uO oO z.1) C dL_law_1410 6 2 rfl rfl (ck_in (by decide)) rfl ?_
    rw [ag_out hA (by decide) h0]
    refine n_iload C dL_law_1411 0 rfl rfl ?_
    refine n_i2l C dL_law_1413 rfl ?_
    refine n_lcmp C dL_law_1414 rfl ?_
    rw [lg_same]
    refine n_if_eq (t := 1420) C dL_law_1415 (by decide) rfl (fun _ => ?_) (fun h => absurd rfl h)
    refine n_goto (t := 1478) C dL_law_1420 (by decide) ?_
    exact Wn.sub [2, 3, 4, 5, 6] rfl (next w.2 (uO oO z.1) S z.2.1 Lg U z.2.2 B X _ _ hL (by omega) (by omega))

set_option maxHeartbeats 1000000 in
set_option maxRecDepth 20000 in
theorem tL_closeness (C : Cx p s m #[Value.ref b] meth c D (tyG cyI cyO cyJ) A RL cL_law 9 (some .boolean) lw_tbl) (CE : ENVL A s) (hls : l.stackTraces = false) (hX : va_X b len xs s s.heap) (hbl : b < s.heap.size) (hbA : ¬ A b) (hlen : len ≤ 2048) (hi : i + 4 ≤ len) (hcs : cells + 1 ≤ room_1.cells ∧ slots + 6 ≤ room_1.slots) (AA : AL Lg B X M)
    (next : ∀ (M' : OB) (oO' : Nat → Int64) (S' G' L' U' V' B' : OB) (X' : HS) (c' s' : Nat), AL L' B' X' M' → c' ≤ cells + 1 → s' ≤ slots + 6 → Wn p l e room_1 s m #[Value.ref b] below meth c D A 9 c' s' Q (lwW cyI cyO cyJ aM aO aX aS aG aL aU aV aB aH (M') (oO') (S') (G') (L') (U') (V') (B') (X')) 1478 [(4, .int (nI i)), (3, .ref aO), (2, .ref (aM 0)), (1, .ref aX), (0, .ref b)] []) : Wn p l e room_1 s m #[Value.ref b] below meth c D A 9 cells slots Q (lwW cyI cyO cyJ aM aO aX aS aG aL aU aV aB aH M oO S G Lg U V B X) 1423 [(4, .int (nI i)), (3, .ref aO), (2, .ref (aM 0)), (1, .ref aX), (0, .ref b)] [] := by
  obtain ⟨z, w, hz, hw, hE, hL⟩ := call_closeness (S := S) (G := G) (U := U) (V := V) AA
  refine n_aload_n C dL_law_1423 3 rfl rfl ?_
  refine n_callV (As := []) (rest := []) (w2 := lwW cyI cyO cyJ aM aO aX aS aG aL aU aV aB aH M oO z.2 G Lg U V B X) C dL_law_1424 (c5_closeness l D cyI cyO cyJ aX aS aG aL aU aV aB aH 3000 S G Lg U V B X z hz) (cwV 0 C.ts gT_X5_closeness rfl rfl rfl (by decide +kernel) ⟨(Nat.le_of_ble_eq_true rfl), (Nat.le_of_ble_eq_true rfl)⟩) rfl (q0 := 0) (ci := 5) rfl rfl (Frm.skip (Frm.skip Frm.self)) rfl (Nat.le_of_ble_eq_true rfl) ⟨Nat.le_of_succ_le hcs.1, Nat.le_trans (Nat.le_add_right _ 6) hcs.2⟩ rfl ?_
  refine n_dstore (lv' := [(5, .double z.1), (4, .int (nI i)), (3, .ref aO), (2, .ref (aM 0)), (1, .ref aX), (0, .ref b)]) C dL_law_1427 (by decide) rfl rfl ?_
  refine n_aload_n C dL_law_1429 3 rfl rfl ?_
  refine n_callV (As := []) (rest := []) (w2 := lwW cyI cyO cyJ aM aO aX aS aG aL aU aV aB aH w.2 oO z.2 G Lg U V B X) C dL_law_1430 (c6_closeness l D cyI cyO cyJ aM 3000 M w hw) (cwV 0 C.ts gT_X6_closeness rfl rfl rfl (by decide +kernel) ⟨(Nat.le_of_ble_eq_true rfl), (Nat.le_of_ble_eq_true rfl)⟩) rfl (q0 := 0) (ci := 6) rfl rfl Frm.here rfl (Nat.le_of_ble_eq_true rfl) ⟨Nat.le_of_succ_le hcs.1, Nat.le_trans (Nat.le_add_right _ 6) hcs.2⟩ rfl ?_
  rw [← hE]
  refine n_dstore (lv' := [(7, .double z.1), (5, .double z.1), (4, .int (nI i)), (3, .ref aO), (2, .ref (aM 0)), (1, .ref aX), (0, .ref b)]) C dL_law_1433 (by decide) rfl rfl ?_
  refine n_dload C dL_law_1435 1 rfl rfl ?_
  refine n_dload C dL_law_1437 0 rfl rfl ?_
  refine n_dcmp C dL_law_1439 rfl ?_
  refine n_if_eq (t := 1461) C dL_law_1440 (by decide) rfl (fun _ => ?_) (fun h => ?_)
  · refine n_goto (t := 1478) C dL_law_1461 (by decide) ?_
    exact Wn.sub [2, 3, 4, 5, 6] rfl (next w.2 oO z.2 G Lg U V B X _ _ hL (by omega) (by omega))
  · refine n_dload C dL_law_1443 1 rfl rfl ?_
    refine n_dload C dL_law_1445 1 rfl rfl ?_
    refine n_dcmp C dL_law_1447 rfl ?_
    refine n_if_eq (t := 1459) C dL_law_1448 (by decide) rfl (fun h2 => absurd h2 h) (fun _ => ?_)
    refine n_dload C dL_law_1451 0 rfl rfl ?_
    refine n_dload C dL_law_1453 0 rfl rfl ?_
    refine n_dcmp C dL_law_1455 rfl ?_
    refine n_if_ne (t := 1461) C dL_law_1456 (by decide) rfl (fun _ => ?_) (fun h3 => absurd h3 h)
    refine n_goto (t := 1478) C dL_law_1461 (by decide) ?_
    exact Wn.sub [2, 3, 4, 5, 6] rfl (next w.2 oO z.2 G Lg U V B X _ _ hL (by omega) (by omega))

set_option maxHeartbeats 1000000 in
set_option maxRecDepth 20000 in
theorem tL_digest (C : Cx p s m #[Value.ref b] meth c D (tyG cyI cyO cyJ) A RL cL_law 9 (some .boolean) lw_tbl) (CE : ENVL A s) (hls : l.stackTraces = false) (hX : va_X b len xs s s.heap) (hbl : b < s.heap.size) (hbA : ¬ A b) (hlen : len ≤ 2048) (hi : i + 4 ≤ len) (hcs : cells + 1 ≤ room_1.cells ∧ slots + 6 ≤ room_1.slots) (AA : AL Lg B X M)
    (next : ∀ (M' : OB) (oO' : Nat → Int64) (S' G' L' U' V' B' : OB) (X' : HS) (c' s' : Nat), AL L' B' X' M' → c' ≤ cells + 1 → s' ≤ slots + 6 → Wn p l e room_1 s m #[Value.ref b] below meth c D A 9 c' s' Q (lwW cyI cyO cyJ aM aO aX aS aG aL aU aV aB aH (M') (oO') (S') (G') (L') (U') (V') (B') (X')) 1478 [(4, .int (nI i)), (3, .ref aO), (2, .ref (aM 0)), (1, .ref aX), (0, .ref b)] []) : Wn p l e room_1 s m #[Value.ref b] below meth c D A 9 cells slots Q (lwW cyI cyO cyJ aM aO aX aS aG aL aU aV aB aH M oO S G Lg U V B X) 1464 [(4, .int (nI i)), (3, .ref aO), (2, .ref (aM 0)), (1, .ref aX), (0, .ref b)] [] := by
  obtain ⟨z, w, hz, hw, hE, hL⟩ := call_digest (S := S) (G := G) (U := U) (V := V) AA
  refine n_aload_n C dL_law_1464 3 rfl rfl ?_
  refine n_callV (As := []) (rest := []) (w2 := lwW cyI cyO cyJ aM aO aX aS aG aL aU aV aB aH M oO z.2.1 z.2.2.1 Lg z.2.2.2.1 z.2.2.2.2 B X) C dL_law_1465 (c5_digest l D cyI cyO cyJ aX aS aG aL aU aV aB aH 3000 S G Lg U V B X z hz) (cwV 0 C.ts gT_X5_digest rfl rfl rfl (by decide +kernel) ⟨(Nat.le_of_ble_eq_true rfl), (Nat.le_of_ble_eq_true rfl)⟩) rfl (q0 := 0) (ci := 5) rfl rfl (Frm.skip (Frm.skip Frm.self)) rfl (Nat.le_of_ble_eq_true rfl) ⟨Nat.le_of_succ_le hcs.1, Nat.le_trans (Nat.le_add_right _ 6) hcs.2⟩ rfl ?_
  refine n_aload_n C dL_law_1468 2 rfl rfl ?_
  refine n_callV (As := []) (rest := [.long z.1]) (w2 := lwW cyI cyO cyJ aM aO aX aS aG aL aU aV aB aH w.2 oO z.2.1 z.2.2.1 Lg z.2.2.2.1 z.2.2.2.2 B X) C dL_law_1469 (c6_digest l D cyI cyO cyJ aM 3000 M w hw) (cwV 0 C.ts gT_X6_digest rfl rfl rfl (by decide +kernel) ⟨(Nat.le_of_ble_eq_true rfl), (Nat.le_of_ble_eq_true rfl)⟩) rfl (q0 := 0) (ci := 6) rfl rfl Frm.here rfl (Nat.le_of_ble_eq_true rfl) ⟨Nat.le_of_succ_le hcs.1, Nat.le_trans (Nat.le_add_right _ 6) hcs.2⟩ rfl ?_
  refine n_lcmp C dL_law_1472 rfl ?_
  rw [hE, lg_same]
  refine n_if_eq (t := 1478) C dL_law_1473 (by decide) rfl (fun _ => ?_) (fun h => absurd rfl h)
  exact Wn.sub [0, 1, 2, 3, 4] rfl (next w.2 oO z.2.1 z.2.2.1 Lg z.2.2.2.1 z.2.2.2.2 B X _ _ hL (by omega) (by omega))
end LAWC
