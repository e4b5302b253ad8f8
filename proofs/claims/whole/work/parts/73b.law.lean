section LAWC
variable {p : Program} {l : Launch} {e : Env} {s : State} {m : MethodId} {below : List Frame} {meth : Method} {c : Code}
variable {D : va_G} {A : Nat → Prop} {Q : State → Prop} {cells slots : Nat} {cyI cyO cyJ : ClassId} {b len i : Nat} {xs : Nat → Int32}
variable {aM : Nat → Nat} {aO aX : Nat} {aS aG aL aU aV aB aH : Nat → Nat} {M S G Lg U V B : OB} {oO : Nat → Int64} {X : HS}
set_option maxHeartbeats 1000000 in
set_option maxRecDepth 20000 in
theorem tL_score (C : Cx p s m #[Value.ref b] meth c D (tyG cyI cyO cyJ) A RL cL_law 9 (some .boolean) lw_tbl) (CE : ENVL A s) (hls : l.stackTraces = false) (hX : va_X b len xs s s.heap) (hbl : b < s.heap.size) (hbA : ¬ A b) (hlen : len ≤ 2048) (hi : i + 4 ≤ len) (hcs : cells + 1 ≤ room_1.cells ∧ slots + 6 ≤ room_1.slots) (AA : AL Lg B X M)
    (next : ∀ (M' : OB) (oO' : Nat → Int64) (S' G' L' U' V' B' : OB) (X' : HS) (c' s' : Nat), AL L' B' X' M' → c' ≤ cells + 1 → s' ≤ slots + 6 → Wn p l e room_1 s m #[Value.ref b] below meth c D A 9 c' s' Q (lwW cyI cyO cyJ aM aO aX aS aG aL aU aV aB aH (M') (oO') (S') (G') (L') (U') (V') (B') (X')) 1478 [(4, .int (nI i)), (3, .ref aO), (2, .ref (aM 0)), (1, .ref aX), (0, .ref b)] []) : Wn p l e room_1 s m #[Value.ref b] below meth c D A 9 cells slots Q (lwW cyI cyO cyJ aM aO aX aS aG aL aU aV aB aH M oO S G Lg U V B X) 357 [(4, .int (nI i)), (3, .ref aO), (2, .ref (aM 0)), (1, .ref aX), (0, .ref b)] [] := by
  obtain ⟨z, w, hz, hw, hA, hL⟩ := call_score (S := S) (G := G) (U := U) (V := V) (x := (xs (nI i + nI 1).toNatClampNeg)) (y := (xs (nI i + nI 2).toNatClampNeg)) (z := (xs (nI i + nI 3).toNatClampNeg)) AA
  refine n_aload_n C dL_law_357 3 rfl rfl ?_
  refine n_aload_n C dL_law_358 4 rfl rfl ?_
  refine n_iload C dL_law_359 0 rfl rfl ?_
  refine n_iconst (v := nI 1) C dL_law_361 (by decide) rfl ?_
  refine n_iadd C dL_law_362 rfl ?_
  refine n_sld C hX hbl hbA dL_law_363 (lw_vin (by omega) hlen) rfl ?_
  refine n_aload_n C dL_law_364 4 rfl rfl ?_
  refine n_iload C dL_law_365 0 rfl rfl ?_
  refine n_iconst (v := nI 2) C dL_law_367 (by decide) rfl ?_
  refine n_iadd C dL_law_368 rfl ?_
  refine n_sld C hX hbl hbA dL_law_369 (lw_vin (by omega) hlen) rfl ?_
  refine n_aload_n C dL_law_370 4 rfl rfl ?_
  refine n_iload C dL_law_371 0 rfl rfl ?_
  refine n_iconst (v := nI 3) C dL_law_373 (by decide) rfl ?_
  refine n_iadd C dL_law_374 rfl ?_
  refine n_sld C hX hbl hbA dL_law_375 (lw_vin (by omega) hlen) rfl ?_
  refine n_aload_n C dL_law_376 1 rfl rfl ?_
  refine n_callSW (As := [.ref aX, .int (xs (nI i + nI 1).toNatClampNeg), .int (xs (nI i + nI 2).toNatClampNeg), .int (xs (nI i + nI 3).toNatClampNeg), .ref aO]) (rest := []) (w2 := lwW cyI cyO cyJ aM aO aX aS aG aL aU aV aB aH M (uO oO z.1) z.2.1 G z.2.2.1 U V B z.2.2.2) C CE dL_law_377 (kL_score l hls D cyI cyO cyJ aO aX aS aG aL aU aV aB aH 3000 oO S G Lg U V B X (xs (nI i + nI 1).toNatClampNeg) (xs (nI i + nI 2).toNatClampNeg) (xs (nI i + nI 3).toNatClampNeg) z hz hA.1) (vx_cwSW 5 C.ts gT_L_score rfl rfl rfl (by decide +kernel) ⟨(Nat.le_of_ble_eq_true rfl), (Nat.le_of_ble_eq_true rfl)⟩) rfl (Frm.skip Frm.self) rfl (Nat.le_of_ble_eq_true rfl) hcs rfl ?_
  refine n_istore (lv' := [(5, .int (kO ["java/lang/IndexOutOfBoundsException", "java/lang/IllegalArgumentException", "java/lang/IllegalStateException"] z.1)), (4, .int (nI i)), (3, .ref aO), (2, .ref (aM 0)), (1, .ref aX), (0, .ref b)]) C dL_law_380 (by decide) rfl rfl ?_
  refine n_aload_n C dL_law_382 3 rfl rfl ?_
  refine n_aload_n C dL_law_383 5 rfl rfl ?_
  refine n_iload C dL_law_384 1 rfl rfl ?_
  refine n_iconst (v := nI 1) C dL_law_386 (by decide) rfl ?_
  refine n_iadd C dL_law_387 rfl ?_
  refine n_sld C hX hbl hbA dL_law_388 (lw_vin (by omega) hlen) rfl ?_
  refine n_aload_n C dL_law_389 5 rfl rfl ?_
  refine n_iload C dL_law_390 1 rfl rfl ?_
  refine n_iconst (v := nI 2) C dL_law_392 (by decide) rfl ?_
  refine n_iadd C dL_law_393 rfl ?_
  refine n_sld C hX hbl hbA dL_law_394 (lw_vin (by omega) hlen) rfl ?_
  refine n_aload_n C dL_law_395 5 rfl rfl ?_
  refine n_iload C dL_law_396 1 rfl rfl ?_
  refine n_iconst (v := nI 3) C dL_law_398 (by decide) rfl ?_
  refine n_iadd C dL_law_399 rfl ?_
  refine n_sld C hX hbl hbA dL_law_400 (lw_vin (by omega) hlen) rfl ?_
  refine n_callV (As := [.int (xs (nI i + nI 1).toNatClampNeg), .int (xs (nI i + nI 2).toNatClampNeg), .int (xs (nI i + nI 3).toNatClampNeg)]) (rest := []) (w2 := lwW cyI cyO cyJ aM aO aX aS aG aL aU aV aB aH w.2 (uO oO z.1) z.2.1 G z.2.2.1 U V B z.2.2.2) C dL_law_401 (c6_score l D cyI cyO cyJ aM 3000 M (xs (nI i + nI 1).toNatClampNeg) (xs (nI i + nI 2).toNatClampNeg) (xs (nI i + nI 3).toNatClampNeg) w hw) (cwV 3 C.ts gT_X6_score rfl rfl rfl (by decide +kernel) ⟨(Nat.le_of_ble_eq_true rfl), (Nat.le_of_ble_eq_true rfl)⟩) rfl (q0 := 0) (ci := 6) rfl rfl Frm.here rfl (Nat.le_of_ble_eq_true rfl) hcs rfl ?_
  refine n_istore (lv' := [(6, .int w.1), (5, .int (kO ["java/lang/IndexOutOfBoundsException", "java/lang/IllegalArgumentException", "java/lang/IllegalStateException"] z.1)), (4, .int (nI i)), (3, .ref aO), (2, .ref (aM 0)), (1, .ref aX), (0, .ref b)]) C dL_law_404 (by decide) rfl rfl ?_
  refine n_aload_n C dL_law_406 4 rfl rfl ?_
  refine n_callV (As := []) (rest := []) (w2 := lwW cyI cyO cyJ aM aO aX aS aG aL aU aV aB aH w.2 (uO oO z.1) z.2.1 G z.2.2.1 U V B z.2.2.2) C dL_law_407 (c6_thrown l D cyI cyO cyJ aM 3000 w.2 (w.2.1 6) rfl) (cwV 0 C.ts gT_X6_thrown rfl rfl rfl (by decide +kernel) ⟨(Nat.le_of_ble_eq_true rfl), (Nat.le_of_ble_eq_true rfl)⟩) rfl (q0 := 0) (ci := 6) rfl rfl Frm.here rfl (Nat.le_of_ble_eq_true rfl) hcs rfl ?_
  refine n_iload C dL_law_410 1 rfl rfl ?_
  refine n_icmp_eq (t := 417) C dL_law_412 (by decide) rfl (fun _ => ?_) (fun h => absurd hA.2.1 h)
  refine n_iload C dL_law_417 1 rfl rfl ?_
  refine n_if_ne (t := 434) C dL_law_419 (by decide) rfl (fun _ => ?_) (fun h0 => ?_)
  · refine n_goto (t := 1478) C dL_law_434 (by decide) ?_
    exact Wn.sub [2, 3, 4, 5, 6] rfl (next w.2 (uO oO z.1) z.2.1 G z.2.2.1 U V B z.2.2.2 _ _ hL (by omega) (by omega))
  · refine n_aload_n C dL_law_422 3 rfl rfl ?_
    refine n_iconst (v := nI 0) C dL_law_423 (by decide) rfl ?_
    refine n_lald (f := uO oO z.1) C dL_law_424 6 2 rfl rfl (ck_in (by decide)) rfl ?_
    rw [ag_out hA (by decide) h0]
    refine n_iload C dL_law_425 0 rfl rfl ?_
    refine n_i2l C dL_law_427 rfl ?_
    refine n_lcmp C dL_law_428 rfl ?_
    rw [lg_same]
    refine n_if_eq (t := 434) C dL_law_429 (by decide) rfl (fun _ => ?_) (fun h => absurd rfl h)
    refine n_goto (t := 1478) C dL_law_434 (by decide) ?_
    exact Wn.sub [2, 3, 4, 5, 6] rfl (next w.2 (uO oO z.1) z.2.1 G z.2.2.1 U V B z.2.2.2 _ _ hL (by omega) (by omega))

set_option maxHeartbeats 1000000 in
set_option maxRecDepth 20000 in
theorem tL_walkover (C : Cx p s m #[Value.ref b] meth c D (tyG cyI cyO cyJ) A RL cL_law 9 (some .boolean) lw_tbl) (CE : ENVL A s) (hls : l.stackTraces = false) (hX : va_X b len xs s s.heap) (hbl : b < s.heap.size) (hbA : ¬ A b) (hlen : len ≤ 2048) (hi : i + 4 ≤ len) (hcs : cells + 1 ≤ room_1.cells ∧ slots + 6 ≤ room_1.slots) (AA : AL Lg B X M)
    (next : ∀ (M' : OB) (oO' : Nat → Int64) (S' G' L' U' V' B' : OB) (X' : HS) (c' s' : Nat), AL L' B' X' M' → c' ≤ cells + 1 → s' ≤ slots + 6 → Wn p l e room_1 s m #[Value.ref b] below meth c D A 9 c' s' Q (lwW cyI cyO cyJ aM aO aX aS aG aL aU aV aB aH (M') (oO') (S') (G') (L') (U') (V') (B') (X')) 1478 [(4, .int (nI i)), (3, .ref aO), (2, .ref (aM 0)), (1, .ref aX), (0, .ref b)] []) : Wn p l e room_1 s m #[Value.ref b] below meth c D A 9 cells slots Q (lwW cyI cyO cyJ aM aO aX aS aG aL aU aV aB aH M oO S G Lg U V B X) 437 [(4, .int (nI i)), (3, .ref aO), (2, .ref (aM 0)), (1, .ref aX), (0, .ref b)] [] := by
  by_cases hb2 : xs (nI i + nI 2).toNatClampNeg = 0
  · obtain ⟨z, w, hz, hw, hA, hL⟩ := call_walkover (S := S) (G := G) (U := U) (V := V) (x := (xs (nI i + nI 1).toNatClampNeg)) (y := (nI 0)) AA
    refine n_aload_n C dL_law_437 3 rfl rfl ?_
    refine n_aload_n C dL_law_438 4 rfl rfl ?_
    refine n_iload C dL_law_439 0 rfl rfl ?_
    refine n_iconst (v := nI 1) C dL_law_441 (by decide) rfl ?_
    refine n_iadd C dL_law_442 rfl ?_
    refine n_sld C hX hbl hbA dL_law_443 (lw_vin (by omega) hlen) rfl ?_
    refine n_aload_n C dL_law_444 4 rfl rfl ?_
    refine n_iload C dL_law_445 0 rfl rfl ?_
    refine n_iconst (v := nI 2) C dL_law_447 (by decide) rfl ?_
    refine n_iadd C dL_law_448 rfl ?_
    refine n_sld C hX hbl hbA dL_law_449 (lw_vin (by omega) hlen) rfl ?_
    refine n_if_eq (t := 457) C dL_law_450 (by decide) rfl (fun _ => ?_) (fun h => absurd hb2 h)
    refine n_iconst (v := nI 0) C dL_law_457 (by decide) rfl ?_
    refine n_aload_n C dL_law_458 1 rfl rfl ?_
    refine n_callSW (As := [.ref aX, .int (xs (nI i + nI 1).toNatClampNeg), .int (nI 0), .ref aO]) (rest := []) (w2 := lwW cyI cyO cyJ aM aO aX aS aG aL aU aV aB aH M (uO oO z.1) z.2.1 G z.2.2.1 U V B z.2.2.2) C CE dL_law_459 (kL_walkover l hls D cyI cyO cyJ aO aX aS aG aL aU aV aB aH 3000 oO S G Lg U V B X (xs (nI i + nI 1).toNatClampNeg) (nI 0) z hz hA.1) (vx_cwSW 4 C.ts gT_L_walkover rfl rfl rfl (by decide +kernel) ⟨(Nat.le_of_ble_eq_true rfl), (Nat.le_of_ble_eq_true rfl)⟩) rfl (Frm.skip Frm.self) rfl (Nat.le_of_ble_eq_true rfl) hcs rfl ?_
    refine n_istore (lv' := [(5, .int (kO ["java/lang/IndexOutOfBoundsException", "java/lang/IllegalStateException"] z.1)), (4, .int (nI i)), (3, .ref aO), (2, .ref (aM 0)), (1, .ref aX), (0, .ref b)]) C dL_law_462 (by decide) rfl rfl ?_
    refine n_aload_n C dL_law_464 3 rfl rfl ?_
    refine n_aload_n C dL_law_465 5 rfl rfl ?_
    refine n_iload C dL_law_466 1 rfl rfl ?_
    refine n_iconst (v := nI 1) C dL_law_468 (by decide) rfl ?_
    refine n_iadd C dL_law_469 rfl ?_
    refine n_sld C hX hbl hbA dL_law_470 (lw_vin (by omega) hlen) rfl ?_
    refine n_aload_n C dL_law_471 5 rfl rfl ?_
    refine n_iload C dL_law_472 1 rfl rfl ?_
    refine n_iconst (v := nI 2) C dL_law_474 (by decide) rfl ?_
    refine n_iadd C dL_law_475 rfl ?_
    refine n_sld C hX hbl hbA dL_law_476 (lw_vin (by omega) hlen) rfl ?_
    refine n_if_eq (t := 484) C dL_law_477 (by decide) rfl (fun _ => ?_) (fun h => absurd hb2 h)
    refine n_iconst (v := nI 0) C dL_law_484 (by decide) rfl ?_
    refine n_callV (As := [.int (xs (nI i + nI 1).toNatClampNeg), .int (nI 0)]) (rest := []) (w2 := lwW cyI cyO cyJ aM aO aX aS aG aL aU aV aB aH w.2 (uO oO z.1) z.2.1 G z.2.2.1 U V B z.2.2.2) C dL_law_485 (c6_walkover l D cyI cyO cyJ aM 3000 M (xs (nI i + nI 1).toNatClampNeg) (nI 0) w hw) (cwV 2 C.ts gT_X6_walkover rfl rfl rfl (by decide +kernel) ⟨(Nat.le_of_ble_eq_true rfl), (Nat.le_of_ble_eq_true rfl)⟩) rfl (q0 := 0) (ci := 6) rfl rfl Frm.here rfl (Nat.le_of_ble_eq_true rfl) hcs rfl ?_
    refine n_istore (lv' := [(6, .int w.1), (5, .int (kO ["java/lang/IndexOutOfBoundsException", "java/lang/IllegalStateException"] z.1)), (4, .int (nI i)), (3, .ref aO), (2, .ref (aM 0)), (1, .ref aX), (0, .ref b)]) C dL_law_488 (by decide) rfl rfl ?_
    refine n_aload_n C dL_law_490 4 rfl rfl ?_
    refine n_callV (As := []) (rest := []) (w2 := lwW cyI cyO cyJ aM aO aX aS aG aL aU aV aB aH w.2 (uO oO z.1) z.2.1 G z.2.2.1 U V B z.2.2.2) C dL_law_491 (c6_thrown l D cyI cyO cyJ aM 3000 w.2 (w.2.1 6) rfl) (cwV 0 C.ts gT_X6_thrown rfl rfl rfl (by decide +kernel) ⟨(Nat.le_of_ble_eq_true rfl), (Nat.le_of_ble_eq_true rfl)⟩) rfl (q0 := 0) (ci := 6) rfl rfl Frm.here rfl (Nat.le_of_ble_eq_true rfl) hcs rfl ?_
    refine n_iload C dL_law_494 1 rfl rfl ?_
    refine n_icmp_eq (t := 501) C dL_law_496 (by decide) rfl (fun _ => ?_) (fun h => absurd hA.2.1 h)
    refine n_iload C dL_law_501 1 rfl rfl ?_
    refine n_if_ne (t := 518) C dL_law_503 (by decide) rfl (fun _ => ?_) (fun h0 => ?_)
    · refine n_goto (t := 1478) C dL_law_518 (by decide) ?_
      exact Wn.sub [2, 3, 4, 5, 6] rfl (next w.2 (uO oO z.1) z.2.1 G z.2.2.1 U V B z.2.2.2 _ _ hL (by omega) (by omega))
    · refine n_aload_n C dL_law_506 3 rfl rfl ?_
      refine n_iconst (v := nI 0) C dL_law_507 (by decide) rfl ?_
      refine n_lald (f := uO oO z.1) C dL_law_508 6 2 rfl rfl (ck_in (by decide)) rfl ?_
      rw [ag_out hA (by decide) h0]
      refine n_iload C dL_law_509 0 rfl rfl ?_
      refine n_i2l C dL_law_511 rfl ?_
      refine n_lcmp C dL_law_512 rfl ?_
      rw [lg_same]
      refine n_if_eq (t := 518) C dL_law_513 (by decide) rfl (fun _ => ?_) (fun h => absurd rfl h)
      refine n_goto (t := 1478) C dL_law_518 (by decide) ?_
      exact Wn.sub [2, 3, 4, 5, 6] rfl (next w.2 (uO oO z.1) z.2.1 G z.2.2.1 U V B z.2.2.2 _ _ hL (by omega) (by omega))
  · obtain ⟨z, w, hz, hw, hA, hL⟩ := call_walkover (S := S) (G := G) (U := U) (V := V) (x := (xs (nI i + nI 1).toNatClampNeg)) (y := (nI 1)) AA
    refine n_aload_n C dL_law_437 3 rfl rfl ?_
    refine n_aload_n C dL_law_438 4 rfl rfl ?_
    refine n_iload C dL_law_439 0 rfl rfl ?_
    refine n_iconst (v := nI 1) C dL_law_441 (by decide) rfl ?_
    refine n_iadd C dL_law_442 rfl ?_
    refine n_sld C hX hbl hbA dL_law_443 (lw_vin (by omega) hlen) rfl ?_
    refine n_aload_n C dL_law_444 4 rfl rfl ?_
    refine n_iload C dL_law_445 0 rfl rfl ?_
    refine n_iconst (v := nI 2) C dL_law_447 (by decide) rfl ?_
    refine n_iadd C dL_law_448 rfl ?_
    refine n_sld C hX hbl hbA dL_law_449 (lw_vin (by omega) hlen) rfl ?_
    refine n_if_eq (t := 457) C dL_law_450 (by decide) rfl (fun h => absurd h hb2) (fun _ => ?_)
    refine n_iconst (v := nI 1) C dL_law_453 (by decide) rfl ?_
    refine n_goto (t := 458) C dL_law_454 (by decide) ?_
    refine n_aload_n C dL_law_458 1 rfl rfl ?_
    refine n_callSW (As := [.ref aX, .int (xs (nI i + nI 1).toNatClampNeg), .int (nI 1), .ref aO]) (rest := []) (w2 := lwW cyI cyO cyJ aM aO aX aS aG aL aU aV aB aH M (uO oO z.1) z.2.1 G z.2.2.1 U V B z.2.2.2) C CE dL_law_459 (kL_walkover l hls D cyI cyO cyJ aO aX aS aG aL aU aV aB aH 3000 oO S G Lg U V B X (xs (nI i + nI 1).toNatClampNeg) (nI 1) z hz hA.1) (vx_cwSW 4 C.ts gT_L_walkover rfl rfl rfl (by decide +kernel) ⟨(Nat.le_of_ble_eq_true rfl), (Nat.le_of_ble_eq_true rfl)⟩) rfl (Frm.skip Frm.self) rfl (Nat.le_of_ble_eq_true rfl) hcs rfl ?_
    refine n_istore (lv' := [(5, .int (kO ["java/lang/IndexOutOfBoundsException", "java/lang/IllegalStateException"] z.1)), (4, .int (nI i)), (3, .ref aO), (2, .ref (aM 0)), (1, .ref aX), (0, .ref b)]) C dL_law_462 (by decide) rfl rfl ?_
    refine n_aload_n C dL_law_464 3 rfl rfl ?_
    refine n_aload_n C dL_law_465 5 rfl rfl ?_
    refine n_iload C dL_law_466 1 rfl rfl ?_
    refine n_iconst (v := nI 1) C dL_law_468 (by decide) rfl ?_
    refine n_iadd C dL_law_469 rfl ?_
    refine n_sld C hX hbl hbA dL_law_470 (lw_vin (by omega) hlen) rfl ?_
    refine n_aload_n C dL_law_471 5 rfl rfl ?_
    refine n_iload C dL_law_472 1 rfl rfl ?_
    refine n_iconst (v := nI 2) C dL_law_474 (by decide) rfl ?_
    refine n_iadd C dL_law_475 rfl ?_
    refine n_sld C hX hbl hbA dL_law_476 (lw_vin (by omega) hlen) rfl ?_
    refine n_if_eq (t := 484) C dL_law_477 (by decide) rfl (fun h => absurd h hb2) (fun _ => ?_)
    refine n_iconst (v := nI 1) C dL_law_480 (by decide) rfl ?_
    refine n_goto (t := 485) C dL_law_481 (by decide) ?_
    refine n_callV (As := [.int (xs (nI i + nI 1).toNatClampNeg), .int (nI 1)]) (rest := []) (w2 := lwW cyI cyO cyJ aM aO aX aS aG aL aU aV aB aH w.2 (uO oO z.1) z.2.1 G z.2.2.1 U V B z.2.2.2) C dL_law_485 (c6_walkover l D cyI cyO cyJ aM 3000 M (xs (nI i + nI 1).toNatClampNeg) (nI 1) w hw) (cwV 2 C.ts gT_X6_walkover rfl rfl rfl (by decide +kernel) ⟨(Nat.le_of_ble_eq_true rfl), (Nat.le_of_ble_eq_true rfl)⟩) rfl (q0 := 0) (ci := 6) rfl rfl Frm.here rfl (Nat.le_of_ble_eq_true rfl) hcs rfl ?_
    refine n_istore (lv' := [(6, .int w.1), (5, .int (kO ["java/lang/IndexOutOfBoundsException", "java/lang/IllegalStateException"] z.1)), (4, .int (nI i)), (3, .ref aO), (2, .ref (aM 0)), (1, .ref aX), (0, .ref b)]) C dL_law_488 (by decide) rfl rfl ?_
    refine n_aload_n C dL_law_490 4 rfl rfl ?_
    refine n_callV (As := []) (rest := []) (w2 := lwW cyI cyO cyJ aM aO aX aS aG aL aU aV aB aH w.2 (uO oO z.1) z.2.1 G z.2.2.1 U V B z.2.2.2) C dL_law_491 (c6_thrown l D cyI cyO cyJ aM 3000 w.2 (w.2.1 6) rfl) (cwV 0 C.ts gT_X6_thrown rfl rfl rfl (by decide +kernel) ⟨(Nat.le_of_ble_eq_true rfl), (Nat.le_of_ble_eq_true rfl)⟩) rfl (q0 := 0) (ci := 6) rfl rfl Frm.here rfl (Nat.le_of_ble_eq_true rfl) hcs rfl ?_
    refine n_iload C dL_law_494 1 rfl rfl ?_
    refine n_icmp_eq (t := 501) C dL_law_496 (by decide) rfl (fun _ => ?_) (fun h => absurd hA.2.1 h)
    refine n_iload C dL_law_501 1 rfl rfl ?_
    refine n_if_ne (t := 518) C dL_law_503 (by decide) rfl (fun _ => ?_) (fun h0 => ?_)
    · refine n_goto (t := 1478) C dL_law_518 (by decide) ?_
      exact Wn.sub [2, 3, 4, 5, 6] rfl (next w.2 (uO oO z.1) z.2.1 G z.2.2.1 U V B z.2.2.2 _ _ hL (by omega) (by omega))
    · refine n_aload_n C dL_law_506 3 rfl rfl ?_
      refine n_iconst (v := nI 0) C dL_law_507 (by decide) rfl ?_
      refine n_lald (f := uO oO z.1) C dL_law_508 6 2 rfl rfl (ck_in (by decide)) rfl ?_
      rw [ag_out hA (by decide) h0]
      refine n_iload C dL_law_509 0 rfl rfl ?_
      refine n_i2l C dL_law_511 rfl ?_
      refine n_lcmp C dL_law_512 rfl ?_
      rw [lg_same]
      refine n_if_eq (t := 518) C dL_law_513 (by decide) rfl (fun _ => ?_) (fun h => absurd rfl h)
      refine n_goto (t := 1478) C dL_law_518 (by decide) ?_
      exact Wn.sub [2, 3, 4, 5, 6] rfl (next w.2 (uO oO z.1) z.2.1 G z.2.2.1 U V B z.2.2.2 _ _ hL (by omega) (by omega))

set_option maxHeartbeats 1000000 in
set_option maxRecDepth 20000 in
theorem tL_annul (C : Cx p s m #[Value.ref b] meth c D (tyG cyI cyO cyJ) A RL cL_law 9 (some .boolean) lw_tbl) (CE : ENVL A s) (hls : l.stackTraces = false) (hX : va_X b len xs s s.heap) (hbl : b < s.heap.size) (hbA : ¬ A b) (hlen : len ≤ 2048) (hi : i + 4 ≤ len) (hcs : cells + 1 ≤ room_1.cells ∧ slots + 6 ≤ room_1.slots) (AA : AL Lg B X M)
    (next : ∀ (M' : OB) (oO' : Nat → Int64) (S' G' L' U' V' B' : OB) (X' : HS) (c' s' : Nat), AL L' B' X' M' → c' ≤ cells + 1 → s' ≤ slots + 6 → Wn p l e room_1 s m #[Value.ref b] below meth c D A 9 c' s' Q (lwW cyI cyO cyJ aM aO aX aS aG aL aU aV aB aH (M') (oO') (S') (G') (L') (U') (V') (B') (X')) 1478 [(4, .int (nI i)), (3, .ref aO), (2, .ref (aM 0)), (1, .ref aX), (0, .ref b)] []) : Wn p l e room_1 s m #[Value.ref b] below meth c D A 9 cells slots Q (lwW cyI cyO cyJ aM aO aX aS aG aL aU aV aB aH M oO S G Lg U V B X) 521 [(4, .int (nI i)), (3, .ref aO), (2, .ref (aM 0)), (1, .ref aX), (0, .ref b)] [] := by
  obtain ⟨z, w, hz, hw, hA, hL⟩ := call_annul (S := S) (G := G) (U := U) (V := V) (x := (xs (nI i + nI 1).toNatClampNeg)) AA
  refine n_aload_n C dL_law_521 3 rfl rfl ?_
  refine n_aload_n C dL_law_522 4 rfl rfl ?_
  refine n_iload C dL_law_523 0 rfl rfl ?_
  refine n_iconst (v := nI 1) C dL_law_525 (by decide) rfl ?_
  refine n_iadd C dL_law_526 rfl ?_
  refine n_sld C hX hbl hbA dL_law_527 (lw_vin (by omega) hlen) rfl ?_
  refine n_aload_n C dL_law_528 1 rfl rfl ?_
  refine n_callSW (As := [.ref aX, .int (xs (nI i + nI 1).toNatClampNeg), .ref aO]) (rest := []) (w2 := lwW cyI cyO cyJ aM aO aX aS aG aL aU aV aB aH M (uO oO z.1) S G z.2.1 U V B z.2.2) C CE dL_law_529 (kL_annul l hls D cyI cyO cyJ aO aX aS aG aL aU aV aB aH 3000 oO S G Lg U V B X (xs (nI i + nI 1).toNatClampNeg) z hz hA.1) (vx_cwSW 3 C.ts gT_L_annul rfl rfl rfl (by decide +kernel) ⟨(Nat.le_of_ble_eq_true rfl), (Nat.le_of_ble_eq_true rfl)⟩) rfl (Frm.skip Frm.self) rfl (Nat.le_of_ble_eq_true rfl) hcs rfl ?_
  refine n_istore (lv' := [(5, .int (kO ["java/lang/IndexOutOfBoundsException"] z.1)), (4, .int (nI i)), (3, .ref aO), (2, .ref (aM 0)), (1, .ref aX), (0, .ref b)]) C dL_law_532 (by decide) rfl rfl ?_
  refine n_aload_n C dL_law_534 3 rfl rfl ?_
  refine n_aload_n C dL_law_535 5 rfl rfl ?_
  refine n_iload C dL_law_536 1 rfl rfl ?_
  refine n_iconst (v := nI 1) C dL_law_538 (by decide) rfl ?_
  refine n_iadd C dL_law_539 rfl ?_
  refine n_sld C hX hbl hbA dL_law_540 (lw_vin (by omega) hlen) rfl ?_
  refine n_callV (As := [.int (xs (nI i + nI 1).toNatClampNeg)]) (rest := []) (w2 := lwW cyI cyO cyJ aM aO aX aS aG aL aU aV aB aH w.2 (uO oO z.1) S G z.2.1 U V B z.2.2) C dL_law_541 (c6_annul l D cyI cyO cyJ aM 3000 M (xs (nI i + nI 1).toNatClampNeg) w hw) (cwV 1 C.ts gT_X6_annul rfl rfl rfl (by decide +kernel) ⟨(Nat.le_of_ble_eq_true rfl), (Nat.le_of_ble_eq_true rfl)⟩) rfl (q0 := 0) (ci := 6) rfl rfl Frm.here rfl (Nat.le_of_ble_eq_true rfl) hcs rfl ?_
  refine n_istore (lv' := [(6, .int w.1), (5, .int (kO ["java/lang/IndexOutOfBoundsException"] z.1)), (4, .int (nI i)), (3, .ref aO), (2, .ref (aM 0)), (1, .ref aX), (0, .ref b)]) C dL_law_544 (by decide) rfl rfl ?_
  refine n_aload_n C dL_law_546 4 rfl rfl ?_
  refine n_callV (As := []) (rest := []) (w2 := lwW cyI cyO cyJ aM aO aX aS aG aL aU aV aB aH w.2 (uO oO z.1) S G z.2.1 U V B z.2.2) C dL_law_547 (c6_thrown l D cyI cyO cyJ aM 3000 w.2 (w.2.1 6) rfl) (cwV 0 C.ts gT_X6_thrown rfl rfl rfl (by decide +kernel) ⟨(Nat.le_of_ble_eq_true rfl), (Nat.le_of_ble_eq_true rfl)⟩) rfl (q0 := 0) (ci := 6) rfl rfl Frm.here rfl (Nat.le_of_ble_eq_true rfl) hcs rfl ?_
  refine n_iload C dL_law_550 1 rfl rfl ?_
  refine n_icmp_eq (t := 557) C dL_law_552 (by decide) rfl (fun _ => ?_) (fun h => absurd hA.2.1 h)
  refine n_iload C dL_law_557 1 rfl rfl ?_
  refine n_if_ne (t := 574) C dL_law_559 (by decide) rfl (fun _ => ?_) (fun h0 => ?_)
  · refine n_goto (t := 1478) C dL_law_574 (by decide) ?_
    exact Wn.sub [2, 3, 4, 5, 6] rfl (next w.2 (uO oO z.1) S G z.2.1 U V B z.2.2 _ _ hL (by omega) (by omega))
  · refine n_aload_n C dL_law_562 3 rfl rfl ?_
    refine n_iconst (v := nI 0) C dL_law_563 (by decide) rfl ?_
    refine n_lald (f := uO oO z.1) C dL_law_564 6 2 rfl rfl (ck_in (by decide)) rfl ?_
    rw [ag_out hA (by decide) h0]
    refine n_iload C dL_law_565 0 rfl rfl ?_
    refine n_i2l C dL_law_567 rfl ?_
    refine n_lcmp C dL_law_568 rfl ?_
    rw [lg_same]
    refine n_if_eq (t := 574) C dL_law_569 (by decide) rfl (fun _ => ?_) (fun h => absurd rfl h)
    refine n_goto (t := 1478) C dL_law_574 (by decide) ?_
    exact Wn.sub [2, 3, 4, 5, 6] rfl (next w.2 (uO oO z.1) S G z.2.1 U V B z.2.2 _ _ hL (by omega) (by omega))

set_option maxHeartbeats 1000000 in
set_option maxRecDepth 20000 in
theorem tL_set (C : Cx p s m #[Value.ref b] meth c D (tyG cyI cyO cyJ) A RL cL_law 9 (some .boolean) lw_tbl) (CE : ENVL A s) (hls : l.stackTraces = false) (hX : va_X b len xs s s.heap) (hbl : b < s.heap.size) (hbA : ¬ A b) (hlen : len ≤ 2048) (hi : i + 4 ≤ len) (hcs : cells + 1 ≤ room_1.cells ∧ slots + 6 ≤ room_1.slots) (AA : AL Lg B X M)
    (next : ∀ (M' : OB) (oO' : Nat → Int64) (S' G' L' U' V' B' : OB) (X' : HS) (c' s' : Nat), AL L' B' X' M' → c' ≤ cells + 1 → s' ≤ slots + 6 → Wn p l e room_1 s m #[Value.ref b] below meth c D A 9 c' s' Q (lwW cyI cyO cyJ aM aO aX aS aG aL aU aV aB aH (M') (oO') (S') (G') (L') (U') (V') (B') (X')) 1478 [(4, .int (nI i)), (3, .ref aO), (2, .ref (aM 0)), (1, .ref aX), (0, .ref b)] []) : Wn p l e room_1 s m #[Value.ref b] below meth c D A 9 cells slots Q (lwW cyI cyO cyJ aM aO aX aS aG aL aU aV aB aH M oO S G Lg U V B X) 577 [(4, .int (nI i)), (3, .ref aO), (2, .ref (aM 0)), (1, .ref aX), (0, .ref b)] [] := by
  obtain ⟨z, w, hz, hw, hA, hL⟩ := call_set (S := S) (G := G) (U := U) (V := V) (x := (xs (nI i + nI 1).toNatClampNeg)) (y := (xs (nI i + nI 2).toNatClampNeg)) AA
  refine n_aload_n C dL_law_577 3 rfl rfl ?_
  refine n_aload_n C dL_law_578 4 rfl rfl ?_
  refine n_iload C dL_law_579 0 rfl rfl ?_
  refine n_iconst (v := nI 1) C dL_law_581 (by decide) rfl ?_
  refine n_iadd C dL_law_582 rfl ?_
  refine n_sld C hX hbl hbA dL_law_583 (lw_vin (by omega) hlen) rfl ?_
  refine n_aload_n C dL_law_584 4 rfl rfl ?_
  refine n_iload C dL_law_585 0 rfl rfl ?_
  refine n_iconst (v := nI 2) C dL_law_587 (by decide) rfl ?_
  refine n_iadd C dL_law_588 rfl ?_
  refine n_sld C hX hbl hbA dL_law_589 (lw_vin (by omega) hlen) rfl ?_
  refine n_aload_n C dL_law_590 1 rfl rfl ?_
  refine n_callSW (As := [.ref aX, .int (xs (nI i + nI 1).toNatClampNeg), .int (xs (nI i + nI 2).toNatClampNeg), .ref aO]) (rest := []) (w2 := lwW cyI cyO cyJ aM aO aX aS aG aL aU aV aB aH M (uO oO z.1) S G z.2.1 U V B z.2.2) C CE dL_law_591 (kL_set l hls D cyI cyO cyJ aO aX aS aG aL aU aV aB aH 3000 oO S G Lg U V B X (xs (nI i + nI 1).toNatClampNeg) (xs (nI i + nI 2).toNatClampNeg) z hz hA.1) (vx_cwSW 4 C.ts gT_L_set rfl rfl rfl (by decide +kernel) ⟨(Nat.le_of_ble_eq_true rfl), (Nat.le_of_ble_eq_true rfl)⟩) rfl (Frm.skip Frm.self) rfl (Nat.le_of_ble_eq_true rfl) hcs rfl ?_
  refine n_istore (lv' := [(5, .int (kO ["java/lang/IndexOutOfBoundsException", "java/lang/IllegalArgumentException"] z.1)), (4, .int (nI i)), (3, .ref aO), (2, .ref (aM 0)), (1, .ref aX), (0, .ref b)]) C dL_law_594 (by decide) rfl rfl ?_
  refine n_aload_n C dL_law_596 3 rfl rfl ?_
  refine n_aload_n C dL_law_597 5 rfl rfl ?_
  refine n_iload C dL_law_598 1 rfl rfl ?_
  refine n_iconst (v := nI 1) C dL_law_600 (by decide) rfl ?_
  refine n_iadd C dL_law_601 rfl ?_
  refine n_sld C hX hbl hbA dL_law_602 (lw_vin (by omega) hlen) rfl ?_
  refine n_aload_n C dL_law_603 5 rfl rfl ?_
  refine n_iload C dL_law_604 1 rfl rfl ?_
  refine n_iconst (v := nI 2) C dL_law_606 (by decide) rfl ?_
  refine n_iadd C dL_law_607 rfl ?_
  refine n_sld C hX hbl hbA dL_law_608 (lw_vin (by omega) hlen) rfl ?_
  refine n_callV (As := [.int (xs (nI i + nI 1).toNatClampNeg), .int (xs (nI i + nI 2).toNatClampNeg)]) (rest := []) (w2 := lwW cyI cyO cyJ aM aO aX aS aG aL aU aV aB aH w.2 (uO oO z.1) S G z.2.1 U V B z.2.2) C dL_law_609 (c6_set l D cyI cyO cyJ aM 3000 M (xs (nI i + nI 1).toNatClampNeg) (xs (nI i + nI 2).toNatClampNeg) w hw) (cwV 2 C.ts gT_X6_set rfl rfl rfl (by decide +kernel) ⟨(Nat.le_of_ble_eq_true rfl), (Nat.le_of_ble_eq_true rfl)⟩) rfl (q0 := 0) (ci := 6) rfl rfl Frm.here rfl (Nat.le_of_ble_eq_true rfl) hcs rfl ?_
  refine n_istore (lv' := [(6, .int w.1), (5, .int (kO ["java/lang/IndexOutOfBoundsException", "java/lang/IllegalArgumentException"] z.1)), (4, .int (nI i)), (3, .ref aO), (2, .ref (aM 0)), (1, .ref aX), (0, .ref b)]) C dL_law_612 (by decide) rfl rfl ?_
  refine n_aload_n C dL_law_614 4 rfl rfl ?_
  refine n_callV (As := []) (rest := []) (w2 := lwW cyI cyO cyJ aM aO aX aS aG aL aU aV aB aH w.2 (uO oO z.1) S G z.2.1 U V B z.2.2) C dL_law_615 (c6_thrown l D cyI cyO cyJ aM 3000 w.2 (w.2.1 6) rfl) (cwV 0 C.ts gT_X6_thrown rfl rfl rfl (by decide +kernel) ⟨(Nat.le_of_ble_eq_true rfl), (Nat.le_of_ble_eq_true rfl)⟩) rfl (q0 := 0) (ci := 6) rfl rfl Frm.here rfl (Nat.le_of_ble_eq_true rfl) hcs rfl ?_
  refine n_iload C dL_law_618 1 rfl rfl ?_
  refine n_icmp_eq (t := 625) C dL_law_620 (by decide) rfl (fun _ => ?_) (fun h => absurd hA.2.1 h)
  refine n_iload C dL_law_625 1 rfl rfl ?_
  refine n_if_ne (t := 642) C dL_law_627 (by decide) rfl (fun _ => ?_) (fun h0 => ?_)
  · refine n_goto (t := 1478) C dL_law_642 (by decide) ?_
    exact Wn.sub [2, 3, 4, 5, 6] rfl (next w.2 (uO oO z.1) S G z.2.1 U V B z.2.2 _ _ hL (by omega) (by omega))
  · refine n_aload_n C dL_law_630 3 rfl rfl ?_
    refine n_iconst (v := nI 0) C dL_law_631 (by decide) rfl ?_
    refine n_lald (f := uO oO z.1) C dL_law_632 6 2 rfl rfl (ck_in (by decide)) rfl ?_
    rw [ag_out hA (by decide) h0]
    refine n_iload C dL_law_633 0 rfl rfl ?_
    refine n_i2l C dL_law_635 rfl ?_
    refine n_lcmp C dL_law_636 rfl ?_
    rw [lg_same]
    refine n_if_eq (t := 642) C dL_law_637 (by decide) rfl (fun _ => ?_) (fun h => absurd rfl h)
    refine n_goto (t := 1478) C dL_law_642 (by decide) ?_
    exact Wn.sub [2, 3, 4, 5, 6] rfl (next w.2 (uO oO z.1) S G z.2.1 U V B z.2.2 _ _ hL (by omega) (by omega))
end LAWC
