section LAWC
variable {p : Program} {l : Launch} {e : Env} {s : State} {m : MethodId} {below : List Frame} {meth : Method} {c : Code}
variable {D : va_G} {A : Nat → Prop} {Q : State → Prop} {cells slots : Nat} {cyI cyO cyJ : ClassId} {b len i : Nat} {xs : Nat → Int32}
variable {aM : Nat → Nat} {aO aX : Nat} {aS aG aL aU aV aB aH : Nat → Nat} {M S G Lg U V B : OB} {oO : Nat → Int64} {X : HS}
set_option maxHeartbeats 1000000 in
set_option maxRecDepth 20000 in
theorem tL_append (C : Cx p s m #[Value.ref b] meth c D (tyG cyI cyO cyJ) A RL cL_law 9 (some .boolean) lw_tbl) (CE : ENVL A s) (hls : l.stackTraces = false) (hX : va_X b len xs s s.heap) (hbl : b < s.heap.size) (hbA : ¬ A b) (hlen : len ≤ 2048) (hi : i + 4 ≤ len) (hcs : cells + 1 ≤ room_1.cells ∧ slots + 6 ≤ room_1.slots) (AA : AL Lg B X M)
    (next : ∀ (M' : OB) (oO' : Nat → Int64) (S' G' L' U' V' B' : OB) (X' : HS) (c' s' : Nat), AL L' B' X' M' → c' ≤ cells + 1 → s' ≤ slots + 6 → Wn p l e room_1 s m #[Value.ref b] below meth c D A 9 c' s' Q (lwW cyI cyO cyJ aM aO aX aS aG aL aU aV aB aH (M') (oO') (S') (G') (L') (U') (V') (B') (X')) 1478 [(4, .int (nI i)), (3, .ref aO), (2, .ref (aM 0)), (1, .ref aX), (0, .ref b)] []) : Wn p l e room_1 s m #[Value.ref b] below meth c D A 9 cells slots Q (lwW cyI cyO cyJ aM aO aX aS aG aL aU aV aB aH M oO S G Lg U V B X) 645 [(4, .int (nI i)), (3, .ref aO), (2, .ref (aM 0)), (1, .ref aX), (0, .ref b)] [] := by
  obtain ⟨z, w, hz, hw, hA, hL⟩ := call_append (S := S) (G := G) (U := U) (V := V) (x := (xs (nI i + nI 1).toNatClampNeg)) AA
  refine n_aload_n C dL_law_645 3 rfl rfl ?_
  refine n_aload_n C dL_law_646 4 rfl rfl ?_
  refine n_iload C dL_law_647 0 rfl rfl ?_
  refine n_iconst (v := nI 1) C dL_law_649 (by decide) rfl ?_
  refine n_iadd C dL_law_650 rfl ?_
  refine n_sld C hX hbl hbA dL_law_651 (lw_vin (by omega) hlen) rfl ?_
  refine n_aload_n C dL_law_652 1 rfl rfl ?_
  refine n_callSW (As := [.ref aX, .int (xs (nI i + nI 1).toNatClampNeg), .ref aO]) (rest := []) (w2 := lwW cyI cyO cyJ aM aO aX aS aG aL aU aV aB aH M (uO oO z.1) S G Lg U V z.2 X) C CE dL_law_653 (kL_append l hls D cyI cyO cyJ aO aX aS aG aL aU aV aB aH 3000 oO S G Lg U V B X (xs (nI i + nI 1).toNatClampNeg) z hz hA.1) (vx_cwSW 3 C.ts gT_L_append rfl rfl rfl (by decide +kernel) ⟨(Nat.le_of_ble_eq_true rfl), (Nat.le_of_ble_eq_true rfl)⟩) rfl (Frm.skip Frm.self) rfl (Nat.le_of_ble_eq_true rfl) hcs rfl ?_
  refine n_istore (lv' := [(5, .int (kO ["java/lang/IllegalArgumentException", "java/lang/IllegalStateException"] z.1)), (4, .int (nI i)), (3, .ref aO), (2, .ref (aM 0)), (1, .ref aX), (0, .ref b)]) C dL_law_656 (by decide) rfl rfl ?_
  refine n_aload_n C dL_law_658 3 rfl rfl ?_
  refine n_aload_n C dL_law_659 5 rfl rfl ?_
  refine n_iload C dL_law_660 1 rfl rfl ?_
  refine n_iconst (v := nI 1) C dL_law_662 (by decide) rfl ?_
  refine n_iadd C dL_law_663 rfl ?_
  refine n_sld C hX hbl hbA dL_law_664 (lw_vin (by omega) hlen) rfl ?_
  refine n_callV (As := [.int (xs (nI i + nI 1).toNatClampNeg)]) (rest := []) (w2 := lwW cyI cyO cyJ aM aO aX aS aG aL aU aV aB aH w.2 (uO oO z.1) S G Lg U V z.2 X) C dL_law_665 (c6_append l D cyI cyO cyJ aM 3000 M (xs (nI i + nI 1).toNatClampNeg) w hw) (cwV 1 C.ts gT_X6_append rfl rfl rfl (by decide +kernel) ⟨(Nat.le_of_ble_eq_true rfl), (Nat.le_of_ble_eq_true rfl)⟩) rfl (q0 := 0) (ci := 6) rfl rfl Frm.here rfl (Nat.le_of_ble_eq_true rfl) hcs rfl ?_
  refine n_istore (lv' := [(6, .int w.1), (5, .int (kO ["java/lang/IllegalArgumentException", "java/lang/IllegalStateException"] z.1)), (4, .int (nI i)), (3, .ref aO), (2, .ref (aM 0)), (1, .ref aX), (0, .ref b)]) C dL_law_668 (by decide) rfl rfl ?_
  refine n_aload_n C dL_law_670 4 rfl rfl ?_
  refine n_callV (As := []) (rest := []) (w2 := lwW cyI cyO cyJ aM aO aX aS aG aL aU aV aB aH w.2 (uO oO z.1) S G Lg U V z.2 X) C dL_law_671 (c6_thrown l D cyI cyO cyJ aM 3000 w.2 (w.2.1 6) rfl) (cwV 0 C.ts gT_X6_thrown rfl rfl rfl (by decide +kernel) ⟨(Nat.le_of_ble_eq_true rfl), (Nat.le_of_ble_eq_true rfl)⟩) rfl (q0 := 0) (ci := 6) rfl rfl Frm.here rfl (Nat.le_of_ble_eq_true rfl) hcs rfl ?_
  refine n_iload C dL_law_674 1 rfl rfl ?_
  refine n_icmp_eq (t := 681) C dL_law_676 (by decide) rfl (fun _ => ?_) (fun h => absurd hA.2.1 h)
  refine n_iload C dL_law_681 1 rfl rfl ?_
  refine n_if_ne (t := 698) C dL_law_683 (by decide) rfl (fun _ => ?_) (fun h0 => ?_)
  · refine n_goto (t := 1478) C dL_law_698 (by decide) ?_
    exact Wn.sub [2, 3, 4, 5, 6] rfl (next w.2 (uO oO z.1) S G Lg U V z.2 X _ _ hL (by omega) (by omega))
  · refine n_aload_n C dL_law_686 3 rfl rfl ?_
    refine n_iconst (v := nI 0) C dL_law_687 (by decide) rfl ?_
    refine n_lald (f := uO oO z.1) C dL_law_688 6 2 rfl rfl (ck_in (by decide)) rfl ?_
    rw [ag_out hA (by decide) h0]
    refine n_iload C dL_law_689 0 rfl rfl ?_
    refine n_i2l C dL_law_691 rfl ?_
    refine n_lcmp C dL_law_692 rfl ?_
    rw [lg_same]
    refine n_if_eq (t := 698) C dL_law_693 (by decide) rfl (fun _ => ?_) (fun h => absurd rfl h)
    refine n_goto (t := 1478) C dL_law_698 (by decide) ?_
    exact Wn.sub [2, 3, 4, 5, 6] rfl (next w.2 (uO oO z.1) S G Lg U V z.2 X _ _ hL (by omega) (by omega))

set_option maxHeartbeats 1000000 in
set_option maxRecDepth 20000 in
theorem tL_clearBuffer (C : Cx p s m #[Value.ref b] meth c D (tyG cyI cyO cyJ) A RL cL_law 9 (some .boolean) lw_tbl) (CE : ENVL A s) (hls : l.stackTraces = false) (hX : va_X b len xs s s.heap) (hbl : b < s.heap.size) (hbA : ¬ A b) (hlen : len ≤ 2048) (hi : i + 4 ≤ len) (hcs : cells + 1 ≤ room_1.cells ∧ slots + 6 ≤ room_1.slots) (AA : AL Lg B X M)
    (next : ∀ (M' : OB) (oO' : Nat → Int64) (S' G' L' U' V' B' : OB) (X' : HS) (c' s' : Nat), AL L' B' X' M' → c' ≤ cells + 1 → s' ≤ slots + 6 → Wn p l e room_1 s m #[Value.ref b] below meth c D A 9 c' s' Q (lwW cyI cyO cyJ aM aO aX aS aG aL aU aV aB aH (M') (oO') (S') (G') (L') (U') (V') (B') (X')) 1478 [(4, .int (nI i)), (3, .ref aO), (2, .ref (aM 0)), (1, .ref aX), (0, .ref b)] []) : Wn p l e room_1 s m #[Value.ref b] below meth c D A 9 cells slots Q (lwW cyI cyO cyJ aM aO aX aS aG aL aU aV aB aH M oO S G Lg U V B X) 701 [(4, .int (nI i)), (3, .ref aO), (2, .ref (aM 0)), (1, .ref aX), (0, .ref b)] [] := by
  obtain ⟨z, w, hz, hw, hE, hL⟩ := call_clear (S := S) (G := G) (U := U) (V := V) AA
  refine n_aload_n C dL_law_701 3 rfl rfl ?_
  refine n_callV (As := []) (rest := []) (w2 := lwW cyI cyO cyJ aM aO aX aS aG aL aU aV aB aH M oO S G Lg U V z.2 X) C dL_law_702 (c5_clearBuffer l D cyI cyO cyJ aX aS aG aL aU aV aB aH 3000 S G Lg U V B X z hz) (cwV 0 C.ts gT_X5_clearBuffer rfl rfl rfl (by decide +kernel) ⟨(Nat.le_of_ble_eq_true rfl), (Nat.le_of_ble_eq_true rfl)⟩) rfl (q0 := 0) (ci := 5) rfl rfl (Frm.skip (Frm.skip Frm.self)) rfl (Nat.le_of_ble_eq_true rfl) ⟨Nat.le_of_succ_le hcs.1, Nat.le_trans (Nat.le_add_right _ 6) hcs.2⟩ rfl ?_
  refine n_aload_n C dL_law_705 2 rfl rfl ?_
  refine n_callV (As := []) (rest := [.int z.1]) (w2 := lwW cyI cyO cyJ aM aO aX aS aG aL aU aV aB aH w.2 oO S G Lg U V z.2 X) C dL_law_706 (c6_clearBuffer l D cyI cyO cyJ aM 3000 M w hw) (cwV 0 C.ts gT_X6_clearBuffer rfl rfl rfl (by decide +kernel) ⟨(Nat.le_of_ble_eq_true rfl), (Nat.le_of_ble_eq_true rfl)⟩) rfl (q0 := 0) (ci := 6) rfl rfl Frm.here rfl (Nat.le_of_ble_eq_true rfl) ⟨Nat.le_of_succ_le hcs.1, Nat.le_trans (Nat.le_add_right _ 6) hcs.2⟩ rfl ?_
  refine n_icmp_eq (t := 1478) C dL_law_709 (by decide) rfl (fun _ => ?_) (fun h => absurd hE h)
  exact Wn.sub [0, 1, 2, 3, 4] rfl (next w.2 oO S G Lg U V z.2 X _ _ hL (by omega) (by omega))

set_option maxHeartbeats 1000000 in
set_option maxRecDepth 20000 in
theorem tL_firstError (C : Cx p s m #[Value.ref b] meth c D (tyG cyI cyO cyJ) A RL cL_law 9 (some .boolean) lw_tbl) (CE : ENVL A s) (hls : l.stackTraces = false) (hX : va_X b len xs s s.heap) (hbl : b < s.heap.size) (hbA : ¬ A b) (hlen : len ≤ 2048) (hi : i + 4 ≤ len) (hcs : cells + 1 ≤ room_1.cells ∧ slots + 6 ≤ room_1.slots) (AA : AL Lg B X M)
    (next : ∀ (M' : OB) (oO' : Nat → Int64) (S' G' L' U' V' B' : OB) (X' : HS) (c' s' : Nat), AL L' B' X' M' → c' ≤ cells + 1 → s' ≤ slots + 6 → Wn p l e room_1 s m #[Value.ref b] below meth c D A 9 c' s' Q (lwW cyI cyO cyJ aM aO aX aS aG aL aU aV aB aH (M') (oO') (S') (G') (L') (U') (V') (B') (X')) 1478 [(4, .int (nI i)), (3, .ref aO), (2, .ref (aM 0)), (1, .ref aX), (0, .ref b)] []) : Wn p l e room_1 s m #[Value.ref b] below meth c D A 9 cells slots Q (lwW cyI cyO cyJ aM aO aX aS aG aL aU aV aB aH M oO S G Lg U V B X) 714 [(4, .int (nI i)), (3, .ref aO), (2, .ref (aM 0)), (1, .ref aX), (0, .ref b)] [] := by
  obtain ⟨z, w, hz, hw, hE, hL⟩ := call_firstError (S := S) (G := G) (U := U) (V := V) AA
  refine n_aload_n C dL_law_714 3 rfl rfl ?_
  refine n_callV (As := []) (rest := []) (w2 := lwW cyI cyO cyJ aM aO aX aS aG aL aU aV aB aH M oO S G Lg U V z.2 X) C dL_law_715 (c5_firstError l D cyI cyO cyJ aX aS aG aL aU aV aB aH 3000 S G Lg U V B X z hz) (cwV 0 C.ts gT_X5_firstError rfl rfl rfl (by decide +kernel) ⟨(Nat.le_of_ble_eq_true rfl), (Nat.le_of_ble_eq_true rfl)⟩) rfl (q0 := 0) (ci := 5) rfl rfl (Frm.skip (Frm.skip Frm.self)) rfl (Nat.le_of_ble_eq_true rfl) ⟨Nat.le_of_succ_le hcs.1, Nat.le_trans (Nat.le_add_right _ 6) hcs.2⟩ rfl ?_
  refine n_aload_n C dL_law_718 2 rfl rfl ?_
  refine n_callV (As := []) (rest := [.int z.1]) (w2 := lwW cyI cyO cyJ aM aO aX aS aG aL aU aV aB aH w.2 oO S G Lg U V z.2 X) C dL_law_719 (c6_firstError l D cyI cyO cyJ aM 3000 M w hw) (cwV 0 C.ts gT_X6_firstError rfl rfl rfl (by decide +kernel) ⟨(Nat.le_of_ble_eq_true rfl), (Nat.le_of_ble_eq_true rfl)⟩) rfl (q0 := 0) (ci := 6) rfl rfl Frm.here rfl (Nat.le_of_ble_eq_true rfl) ⟨Nat.le_of_succ_le hcs.1, Nat.le_trans (Nat.le_add_right _ 6) hcs.2⟩ rfl ?_
  refine n_icmp_eq (t := 1478) C dL_law_722 (by decide) rfl (fun _ => ?_) (fun h => absurd hE h)
  exact Wn.sub [0, 1, 2, 3, 4] rfl (next w.2 oO S G Lg U V z.2 X _ _ hL (by omega) (by omega))

set_option maxHeartbeats 1000000 in
set_option maxRecDepth 20000 in
theorem tL_report (C : Cx p s m #[Value.ref b] meth c D (tyG cyI cyO cyJ) A RL cL_law 9 (some .boolean) lw_tbl) (CE : ENVL A s) (hls : l.stackTraces = false) (hX : va_X b len xs s s.heap) (hbl : b < s.heap.size) (hbA : ¬ A b) (hlen : len ≤ 2048) (hi : i + 4 ≤ len) (hcs : cells + 1 ≤ room_1.cells ∧ slots + 6 ≤ room_1.slots) (AA : AL Lg B X M)
    (next : ∀ (M' : OB) (oO' : Nat → Int64) (S' G' L' U' V' B' : OB) (X' : HS) (c' s' : Nat), AL L' B' X' M' → c' ≤ cells + 1 → s' ≤ slots + 6 → Wn p l e room_1 s m #[Value.ref b] below meth c D A 9 c' s' Q (lwW cyI cyO cyJ aM aO aX aS aG aL aU aV aB aH (M') (oO') (S') (G') (L') (U') (V') (B') (X')) 1478 [(4, .int (nI i)), (3, .ref aO), (2, .ref (aM 0)), (1, .ref aX), (0, .ref b)] []) : Wn p l e room_1 s m #[Value.ref b] below meth c D A 9 cells slots Q (lwW cyI cyO cyJ aM aO aX aS aG aL aU aV aB aH M oO S G Lg U V B X) 727 [(4, .int (nI i)), (3, .ref aO), (2, .ref (aM 0)), (1, .ref aX), (0, .ref b)] [] := by
  obtain ⟨z, w, hz, hw, hA, hL⟩ := call_report (S := S) (G := G) (U := U) (V := V)  AA
  refine n_aload_n C dL_law_727 3 rfl rfl ?_
  refine n_aload_n C dL_law_728 1 rfl rfl ?_
  refine n_callSW (As := [.ref aX, .ref aO]) (rest := []) (w2 := lwW cyI cyO cyJ aM aO aX aS aG aL aU aV aB aH M (uO oO z.1) S G z.2.1 U V z.2.2.1 z.2.2.2) C CE dL_law_729 (kL_report l hls D cyI cyO cyJ aO aX aS aG aL aU aV aB aH 3000 oO S G Lg U V B X z hz hA.1) (vx_cwSW 2 C.ts gT_L_report rfl rfl rfl (by decide +kernel) ⟨(Nat.le_of_ble_eq_true rfl), (Nat.le_of_ble_eq_true rfl)⟩) rfl (Frm.skip Frm.self) rfl (Nat.le_of_ble_eq_true rfl) hcs rfl ?_
  refine n_istore (lv' := [(5, .int (kO ["java/lang/IllegalArgumentException", "java/lang/IllegalStateException"] z.1)), (4, .int (nI i)), (3, .ref aO), (2, .ref (aM 0)), (1, .ref aX), (0, .ref b)]) C dL_law_732 (by decide) rfl rfl ?_
  refine n_aload_n C dL_law_734 3 rfl rfl ?_
  refine n_callV (As := []) (rest := []) (w2 := lwW cyI cyO cyJ aM aO aX aS aG aL aU aV aB aH w.2 (uO oO z.1) S G z.2.1 U V z.2.2.1 z.2.2.2) C dL_law_735 (c6_report l D cyI cyO cyJ aM 3000 M w hw) (cwV 0 C.ts gT_X6_report rfl rfl rfl (by decide +kernel) ⟨(Nat.le_of_ble_eq_true rfl), (Nat.le_of_ble_eq_true rfl)⟩) rfl (q0 := 0) (ci := 6) rfl rfl Frm.here rfl (Nat.le_of_ble_eq_true rfl) hcs rfl ?_
  refine n_istore (lv' := [(6, .int w.1), (5, .int (kO ["java/lang/IllegalArgumentException", "java/lang/IllegalStateException"] z.1)), (4, .int (nI i)), (3, .ref aO), (2, .ref (aM 0)), (1, .ref aX), (0, .ref b)]) C dL_law_738 (by decide) rfl rfl ?_
  refine n_aload_n C dL_law_740 4 rfl rfl ?_
  refine n_callV (As := []) (rest := []) (w2 := lwW cyI cyO cyJ aM aO aX aS aG aL aU aV aB aH w.2 (uO oO z.1) S G z.2.1 U V z.2.2.1 z.2.2.2) C dL_law_741 (c6_thrown l D cyI cyO cyJ aM 3000 w.2 (w.2.1 6) rfl) (cwV 0 C.ts gT_X6_thrown rfl rfl rfl (by decide +kernel) ⟨(Nat.le_of_ble_eq_true rfl), (Nat.le_of_ble_eq_true rfl)⟩) rfl (q0 := 0) (ci := 6) rfl rfl Frm.here rfl (Nat.le_of_ble_eq_true rfl) hcs rfl ?_
  refine n_iload C dL_law_744 1 rfl rfl ?_
  refine n_icmp_eq (t := 751) C dL_law_746 (by decide) rfl (fun _ => ?_) (fun h => absurd hA.2.1 h)
  refine n_iload C dL_law_751 1 rfl rfl ?_
  refine n_if_ne (t := 768) C dL_law_753 (by decide) rfl (fun _ => ?_) (fun h0 => ?_)
  · refine n_goto (t := 1478) C dL_law_768 (by decide) ?_
    exact Wn.sub [2, 3, 4, 5, 6] rfl (next w.2 (uO oO z.1) S G z.2.1 U V z.2.2.1 z.2.2.2 _ _ hL (by omega) (by omega))
  · refine n_aload_n C dL_law_756 3 rfl rfl ?_
    refine n_iconst (v := nI 0) C dL_law_757 (by decide) rfl ?_
    refine n_lald (f := uO oO z.1) C dL_law_758 6 2 rfl rfl (ck_in (by decide)) rfl ?_
    rw [ag_out hA (by decide) h0]
    refine n_iload C dL_law_759 0 rfl rfl ?_
    refine n_i2l C dL_law_761 rfl ?_
    refine n_lcmp C dL_law_762 rfl ?_
    rw [lg_same]
    refine n_if_eq (t := 768) C dL_law_763 (by decide) rfl (fun _ => ?_) (fun h => absurd rfl h)
    refine n_goto (t := 1478) C dL_law_768 (by decide) ?_
    exact Wn.sub [2, 3, 4, 5, 6] rfl (next w.2 (uO oO z.1) S G z.2.1 U V z.2.2.1 z.2.2.2 _ _ hL (by omega) (by omega))
end LAWC
