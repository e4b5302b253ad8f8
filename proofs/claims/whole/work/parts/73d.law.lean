section LAWC
variable {p : Program} {l : Launch} {e : Env} {s : State} {m : MethodId} {below : List Frame} {meth : Method} {c : Code}
variable {D : va_G} {A : Nat → Prop} {Q : State → Prop} {cells slots : Nat} {cyI cyO cyJ : ClassId} {b len i : Nat} {xs : Nat → Int32}
variable {aM : Nat → Nat} {aO aX : Nat} {aS aG aL aU aV aB aH : Nat → Nat} {M S G Lg U V B : OB} {oO : Nat → Int64} {X : HS}
set_option maxHeartbeats 1000000 in
set_option maxRecDepth 20000 in
theorem tL_undo (C : Cx p s m #[Value.ref b] meth c D (tyG cyI cyO cyJ) A RL cL_law 9 (some .boolean) lw_tbl) (CE : ENVL A s) (hls : l.stackTraces = false) (hX : va_X b len xs s s.heap) (hbl : b < s.heap.size) (hbA : ¬ A b) (hlen : len ≤ 2048) (hi : i + 4 ≤ len) (hcs : cells + 1 ≤ room_1.cells ∧ slots + 6 ≤ room_1.slots) (AA : AL Lg B X M)
    (next : ∀ (M' : OB) (oO' : Nat → Int64) (S' G' L' U' V' B' : OB) (X' : HS) (c' s' : Nat), AL L' B' X' M' → c' ≤ cells + 1 → s' ≤ slots + 6 → Wn p l e room_1 s m #[Value.ref b] below meth c D A 9 c' s' Q (lwW cyI cyO cyJ aM aO aX aS aG aL aU aV aB aH (M') (oO') (S') (G') (L') (U') (V') (B') (X')) 1478 [(4, .int (nI i)), (3, .ref aO), (2, .ref (aM 0)), (1, .ref aX), (0, .ref b)] []) : Wn p l e room_1 s m #[Value.ref b] below meth c D A 9 cells slots Q (lwW cyI cyO cyJ aM aO aX aS aG aL aU aV aB aH M oO S G Lg U V B X) 771 [(4, .int (nI i)), (3, .ref aO), (2, .ref (aM 0)), (1, .ref aX), (0, .ref b)] [] := by
  obtain ⟨z, w, hz, hw, hA, hL⟩ := call_undo (S := S) (G := G) (U := U) (V := V)  AA
  refine n_aload_n C dL_law_771 3 rfl rfl ?_
  refine n_aload_n C dL_law_772 1 rfl rfl ?_
  refine n_callSW (As := [.ref aX, .ref aO]) (rest := []) (w2 := lwW cyI cyO cyJ aM aO aX aS aG aL aU aV aB aH M (uO oO z.1) S G z.2.1 U V B z.2.2) C CE dL_law_773 (kL_undo l hls D cyI cyO cyJ aO aX aS aG aL aU aV aB aH 3000 oO S G Lg U V B X z hz hA.1) (vx_cwSW 2 C.ts gT_L_undo rfl rfl rfl (by decide +kernel) ⟨(Nat.le_of_ble_eq_true rfl), (Nat.le_of_ble_eq_true rfl)⟩) rfl (Frm.skip Frm.self) rfl (Nat.le_of_ble_eq_true rfl) hcs rfl ?_
  refine n_istore (lv' := [(5, .int (kO ["java/lang/IllegalStateException"] z.1)), (4, .int (nI i)), (3, .ref aO), (2, .ref (aM 0)), (1, .ref aX), (0, .ref b)]) C dL_law_776 (by decide) rfl rfl ?_
  refine n_aload_n C dL_law_778 3 rfl rfl ?_
  refine n_callV (As := []) (rest := []) (w2 := lwW cyI cyO cyJ aM aO aX aS aG aL aU aV aB aH w.2 (uO oO z.1) S G z.2.1 U V B z.2.2) C dL_law_779 (c6_undo l D cyI cyO cyJ aM 3000 M w hw) (cwV 0 C.ts gT_X6_undo rfl rfl rfl (by decide +kernel) ⟨(Nat.le_of_ble_eq_true rfl), (Nat.le_of_ble_eq_true rfl)⟩) rfl (q0 := 0) (ci := 6) rfl rfl Frm.here rfl (Nat.le_of_ble_eq_true rfl) hcs rfl ?_
  refine n_istore (lv' := [(6, .int w.1), (5, .int (kO ["java/lang/IllegalStateException"] z.1)), (4, .int (nI i)), (3, .ref aO), (2, .ref (aM 0)), (1, .ref aX), (0, .ref b)]) C dL_law_782 (by decide) rfl rfl ?_
  refine n_aload_n C dL_law_784 4 rfl rfl ?_
  refine n_callV (As := []) (rest := []) (w2 := lwW cyI cyO cyJ aM aO aX aS aG aL aU aV aB aH w.2 (uO oO z.1) S G z.2.1 U V B z.2.2) C dL_law_785 (c6_thrown l D cyI cyO cyJ aM 3000 w.2 (w.2.1 6) rfl) (cwV 0 C.ts gT_X6_thrown rfl rfl rfl (by decide +kernel) ⟨(Nat.le_of_ble_eq_true rfl), (Nat.le_of_ble_eq_true rfl)⟩) rfl (q0 := 0) (ci := 6) rfl rfl Frm.here rfl (Nat.le_of_ble_eq_true rfl) hcs rfl ?_
  refine n_iload C dL_law_788 1 rfl rfl ?_
  refine n_icmp_eq (t := 795) C dL_law_790 (by decide) rfl (fun _ => ?_) (fun h => absurd hA.2.1 h)
  refine n_iload C dL_law_795 1 rfl rfl ?_
  refine n_if_ne (t := 812) C dL_law_797 (by decide) rfl (fun _ => ?_) (fun h0 => ?_)
  · refine n_goto (t := 1478) C dL_law_812 (by decide) ?_
    exact Wn.sub [2, 3, 4, 5, 6] rfl (next w.2 (uO oO z.1) S G z.2.1 U V B z.2.2 _ _ hL (by omega) (by omega))
  · refine n_aload_n C dL_law_800 3 rfl rfl ?_
    refine n_iconst (v := nI 0) C dL_law_801 (by decide) rfl ?_
    refine n_lald (f := uO oO z.1) C dL_law_802 6 2 rfl rfl (ck_in (by decide)) rfl ?_
    rw [ag_out hA (by decide) h0]
    refine n_iload C dL_law_803 0 rfl rfl ?_
    refine n_i2l C dL_law_805 rfl ?_
    refine n_lcmp C dL_law_806 rfl ?_
    rw [lg_same]
    refine n_if_eq (t := 812) C dL_law_807 (by decide) rfl (fun _ => ?_) (fun h => absurd rfl h)
    refine n_goto (t := 1478) C dL_law_812 (by decide) ?_
    exact Wn.sub [2, 3, 4, 5, 6] rfl (next w.2 (uO oO z.1) S G z.2.1 U V B z.2.2 _ _ hL (by omega) (by omega))

set_option maxHeartbeats 1000000 in
set_option maxRecDepth 20000 in
theorem tL_match (C : Cx p s m #[Value.ref b] meth c D (tyG cyI cyO cyJ) A RL cL_law 9 (some .boolean) lw_tbl) (CE : ENVL A s) (hls : l.stackTraces = false) (hX : va_X b len xs s s.heap) (hbl : b < s.heap.size) (hbA : ¬ A b) (hlen : len ≤ 2048) (hi : i + 4 ≤ len) (hcs : cells + 1 ≤ room_1.cells ∧ slots + 6 ≤ room_1.slots) (AA : AL Lg B X M)
    (next : ∀ (M' : OB) (oO' : Nat → Int64) (S' G' L' U' V' B' : OB) (X' : HS) (c' s' : Nat), AL L' B' X' M' → c' ≤ cells + 1 → s' ≤ slots + 6 → Wn p l e room_1 s m #[Value.ref b] below meth c D A 9 c' s' Q (lwW cyI cyO cyJ aM aO aX aS aG aL aU aV aB aH (M') (oO') (S') (G') (L') (U') (V') (B') (X')) 1478 [(4, .int (nI i)), (3, .ref aO), (2, .ref (aM 0)), (1, .ref aX), (0, .ref b)] []) : Wn p l e room_1 s m #[Value.ref b] below meth c D A 9 cells slots Q (lwW cyI cyO cyJ aM aO aX aS aG aL aU aV aB aH M oO S G Lg U V B X) 815 [(4, .int (nI i)), (3, .ref aO), (2, .ref (aM 0)), (1, .ref aX), (0, .ref b)] [] := by
  obtain ⟨z, w, hz, hw, hA, hL⟩ := call_match (S := S) (G := G) (U := U) (V := V) (x := (xs (nI i + nI 1).toNatClampNeg)) (y := (xs (nI i + nI 2).toNatClampNeg)) AA
  refine n_aload_n C dL_law_815 3 rfl rfl ?_
  refine n_aload_n C dL_law_816 4 rfl rfl ?_
  refine n_iload C dL_law_817 0 rfl rfl ?_
  refine n_iconst (v := nI 1) C dL_law_819 (by decide) rfl ?_
  refine n_iadd C dL_law_820 rfl ?_
  refine n_sld C hX hbl hbA dL_law_821 (lw_vin (by omega) hlen) rfl ?_
  refine n_aload_n C dL_law_822 4 rfl rfl ?_
  refine n_iload C dL_law_823 0 rfl rfl ?_
  refine n_iconst (v := nI 2) C dL_law_825 (by decide) rfl ?_
  refine n_iadd C dL_law_826 rfl ?_
  refine n_sld C hX hbl hbA dL_law_827 (lw_vin (by omega) hlen) rfl ?_
  refine n_aload_n C dL_law_828 1 rfl rfl ?_
  refine n_callSW (As := [.ref aX, .int (xs (nI i + nI 1).toNatClampNeg), .int (xs (nI i + nI 2).toNatClampNeg), .ref aO]) (rest := []) (w2 := lwW cyI cyO cyJ aM aO aX aS aG aL aU aV aB aH M (uO oO z) S G Lg U V B X) C CE dL_law_829 (kL_match l hls D cyI cyO cyJ aO aX aS aG aL aU aV aB aH 3000 oO S G Lg U V B X (xs (nI i + nI 1).toNatClampNeg) (xs (nI i + nI 2).toNatClampNeg) z hz hA.1) (vx_cwSW 4 C.ts gT_L_match rfl rfl rfl (by decide +kernel) ⟨(Nat.le_of_ble_eq_true rfl), (Nat.le_of_ble_eq_true rfl)⟩) rfl (Frm.skip Frm.self) rfl (Nat.le_of_ble_eq_true rfl) hcs rfl ?_
  refine n_istore (lv' := [(5, .int (kO ["java/lang/IndexOutOfBoundsException", "java/lang/IllegalArgumentException"] z)), (4, .int (nI i)), (3, .ref aO), (2, .ref (aM 0)), (1, .ref aX), (0, .ref b)]) C dL_law_832 (by decide) rfl rfl ?_
  refine n_aload_n C dL_law_834 3 rfl rfl ?_
  refine n_aload_n C dL_law_835 5 rfl rfl ?_
  refine n_iload C dL_law_836 1 rfl rfl ?_
  refine n_iconst (v := nI 1) C dL_law_838 (by decide) rfl ?_
  refine n_iadd C dL_law_839 rfl ?_
  refine n_sld C hX hbl hbA dL_law_840 (lw_vin (by omega) hlen) rfl ?_
  refine n_aload_n C dL_law_841 5 rfl rfl ?_
  refine n_iload C dL_law_842 1 rfl rfl ?_
  refine n_iconst (v := nI 2) C dL_law_844 (by decide) rfl ?_
  refine n_iadd C dL_law_845 rfl ?_
  refine n_sld C hX hbl hbA dL_law_846 (lw_vin (by omega) hlen) rfl ?_
  refine n_callV (As := [.int (xs (nI i + nI 1).toNatClampNeg), .int (xs (nI i + nI 2).toNatClampNeg)]) (rest := []) (w2 := lwW cyI cyO cyJ aM aO aX aS aG aL aU aV aB aH w.2 (uO oO z) S G Lg U V B X) C dL_law_847 (c6_match l D cyI cyO cyJ aM 3000 M (xs (nI i + nI 1).toNatClampNeg) (xs (nI i + nI 2).toNatClampNeg) w hw) (cwV 2 C.ts gT_X6_match rfl rfl rfl (by decide +kernel) ⟨(Nat.le_of_ble_eq_true rfl), (Nat.le_of_ble_eq_true rfl)⟩) rfl (q0 := 0) (ci := 6) rfl rfl Frm.here rfl (Nat.le_of_ble_eq_true rfl) hcs rfl ?_
  refine n_istore (lv' := [(6, .int w.1), (5, .int (kO ["java/lang/IndexOutOfBoundsException", "java/lang/IllegalArgumentException"] z)), (4, .int (nI i)), (3, .ref aO), (2, .ref (aM 0)), (1, .ref aX), (0, .ref b)]) C dL_law_850 (by decide) rfl rfl ?_
  refine n_aload_n C dL_law_852 4 rfl rfl ?_
  refine n_callV (As := []) (rest := []) (w2 := lwW cyI cyO cyJ aM aO aX aS aG aL aU aV aB aH w.2 (uO oO z) S G Lg U V B X) C dL_law_853 (c6_thrown l D cyI cyO cyJ aM 3000 w.2 (w.2.1 6) rfl) (cwV 0 C.ts gT_X6_thrown rfl rfl rfl (by decide +kernel) ⟨(Nat.le_of_ble_eq_true rfl), (Nat.le_of_ble_eq_true rfl)⟩) rfl (q0 := 0) (ci := 6) rfl rfl Frm.here rfl (Nat.le_of_ble_eq_true rfl) hcs rfl ?_
  refine n_iload C dL_law_856 1 rfl rfl ?_
  refine n_icmp_eq (t := 863) C dL_law_858 (by decide) rfl (fun _ => ?_) (fun h => absurd hA.2.1 h)
  refine n_iload C dL_law_863 1 rfl rfl ?_
  refine n_if_ne (t := 880) C dL_law_865 (by decide) rfl (fun _ => ?_) (fun h0 => ?_)
  · refine n_goto (t := 1478) C dL_law_880 (by decide) ?_
    exact Wn.sub [2, 3, 4, 5, 6] rfl (next w.2 (uO oO z) S G Lg U V B X _ _ hL (by omega) (by omega))
  · refine n_aload_n C dL_law_868 3 rfl rfl ?_
    refine n_iconst (v := nI 0) C dL_law_869 (by decide) rfl ?_
    refine n_lald (f := uO oO z) C dL_law_870 6 2 rfl rfl (ck_in (by decide)) rfl ?_
    rw [ag_out hA (by decide) h0]
    refine n_iload C dL_law_871 0 rfl rfl ?_
    refine n_i2l C dL_law_873 rfl ?_
    refine n_lcmp C dL_law_874 rfl ?_
    rw [lg_same]
    refine n_if_eq (t := 880) C dL_law_875 (by decide) rfl (fun _ => ?_) (fun h => absurd rfl h)
    refine n_goto (t := 1478) C dL_law_880 (by decide) ?_
    exact Wn.sub [2, 3, 4, 5, 6] rfl (next w.2 (uO oO z) S G Lg U V B X _ _ hL (by omega) (by omega))

set_option maxHeartbeats 1000000 in
set_option maxRecDepth 20000 in
theorem tL_team (C : Cx p s m #[Value.ref b] meth c D (tyG cyI cyO cyJ) A RL cL_law 9 (some .boolean) lw_tbl) (CE : ENVL A s) (hls : l.stackTraces = false) (hX : va_X b len xs s s.heap) (hbl : b < s.heap.size) (hbA : ¬ A b) (hlen : len ≤ 2048) (hi : i + 4 ≤ len) (hcs : cells + 1 ≤ room_1.cells ∧ slots + 6 ≤ room_1.slots) (AA : AL Lg B X M)
    (next : ∀ (M' : OB) (oO' : Nat → Int64) (S' G' L' U' V' B' : OB) (X' : HS) (c' s' : Nat), AL L' B' X' M' → c' ≤ cells + 1 → s' ≤ slots + 6 → Wn p l e room_1 s m #[Value.ref b] below meth c D A 9 c' s' Q (lwW cyI cyO cyJ aM aO aX aS aG aL aU aV aB aH (M') (oO') (S') (G') (L') (U') (V') (B') (X')) 1478 [(4, .int (nI i)), (3, .ref aO), (2, .ref (aM 0)), (1, .ref aX), (0, .ref b)] []) : Wn p l e room_1 s m #[Value.ref b] below meth c D A 9 cells slots Q (lwW cyI cyO cyJ aM aO aX aS aG aL aU aV aB aH M oO S G Lg U V B X) 883 [(4, .int (nI i)), (3, .ref aO), (2, .ref (aM 0)), (1, .ref aX), (0, .ref b)] [] := by
  obtain ⟨z, w, hz, hw, hA, hL⟩ := call_team (S := S) (G := G) (U := U) (V := V) (x := (xs (nI i + nI 1).toNatClampNeg)) (y := (xs (nI i + nI 2).toNatClampNeg)) AA
  refine n_aload_n C dL_law_883 3 rfl rfl ?_
  refine n_aload_n C dL_law_884 4 rfl rfl ?_
  refine n_iload C dL_law_885 0 rfl rfl ?_
  refine n_iconst (v := nI 1) C dL_law_887 (by decide) rfl ?_
  refine n_iadd C dL_law_888 rfl ?_
  refine n_sld C hX hbl hbA dL_law_889 (lw_vin (by omega) hlen) rfl ?_
  refine n_aload_n C dL_law_890 4 rfl rfl ?_
  refine n_iload C dL_law_891 0 rfl rfl ?_
  refine n_iconst (v := nI 2) C dL_law_893 (by decide) rfl ?_
  refine n_iadd C dL_law_894 rfl ?_
  refine n_sld C hX hbl hbA dL_law_895 (lw_vin (by omega) hlen) rfl ?_
  refine n_aload_n C dL_law_896 1 rfl rfl ?_
  refine n_callSW (As := [.ref aX, .int (xs (nI i + nI 1).toNatClampNeg), .int (xs (nI i + nI 2).toNatClampNeg), .ref aO]) (rest := []) (w2 := lwW cyI cyO cyJ aM aO aX aS aG aL aU aV aB aH M (uO oO z.1) z.2 G Lg U V B X) C CE dL_law_897 (kL_team l hls D cyI cyO cyJ aO aX aS aG aL aU aV aB aH 3000 oO S G Lg U V B X (xs (nI i + nI 1).toNatClampNeg) (xs (nI i + nI 2).toNatClampNeg) z hz hA.1) (vx_cwSW 4 C.ts gT_L_team rfl rfl rfl (by decide +kernel) ⟨(Nat.le_of_ble_eq_true rfl), (Nat.le_of_ble_eq_true rfl)⟩) rfl (Frm.skip Frm.self) rfl (Nat.le_of_ble_eq_true rfl) hcs rfl ?_
  refine n_istore (lv' := [(5, .int (kO ["java/lang/IndexOutOfBoundsException", "java/lang/IllegalArgumentException"] z.1)), (4, .int (nI i)), (3, .ref aO), (2, .ref (aM 0)), (1, .ref aX), (0, .ref b)]) C dL_law_900 (by decide) rfl rfl ?_
  refine n_aload_n C dL_law_902 3 rfl rfl ?_
  refine n_aload_n C dL_law_903 5 rfl rfl ?_
  refine n_iload C dL_law_904 1 rfl rfl ?_
  refine n_iconst (v := nI 1) C dL_law_906 (by decide) rfl ?_
  refine n_iadd C dL_law_907 rfl ?_
  refine n_sld C hX hbl hbA dL_law_908 (lw_vin (by omega) hlen) rfl ?_
  refine n_aload_n C dL_law_909 5 rfl rfl ?_
  refine n_iload C dL_law_910 1 rfl rfl ?_
  refine n_iconst (v := nI 2) C dL_law_912 (by decide) rfl ?_
  refine n_iadd C dL_law_913 rfl ?_
  refine n_sld C hX hbl hbA dL_law_914 (lw_vin (by omega) hlen) rfl ?_
  refine n_callV (As := [.int (xs (nI i + nI 1).toNatClampNeg), .int (xs (nI i + nI 2).toNatClampNeg)]) (rest := []) (w2 := lwW cyI cyO cyJ aM aO aX aS aG aL aU aV aB aH w.2 (uO oO z.1) z.2 G Lg U V B X) C dL_law_915 (c6_team l D cyI cyO cyJ aM 3000 M (xs (nI i + nI 1).toNatClampNeg) (xs (nI i + nI 2).toNatClampNeg) w hw) (cwV 2 C.ts gT_X6_team rfl rfl rfl (by decide +kernel) ⟨(Nat.le_of_ble_eq_true rfl), (Nat.le_of_ble_eq_true rfl)⟩) rfl (q0 := 0) (ci := 6) rfl rfl Frm.here rfl (Nat.le_of_ble_eq_true rfl) hcs rfl ?_
  refine n_istore (lv' := [(6, .int w.1), (5, .int (kO ["java/lang/IndexOutOfBoundsException", "java/lang/IllegalArgumentException"] z.1)), (4, .int (nI i)), (3, .ref aO), (2, .ref (aM 0)), (1, .ref aX), (0, .ref b)]) C dL_law_918 (by decide) rfl rfl ?_
  refine n_aload_n C dL_law_920 4 rfl rfl ?_
  refine n_callV (As := []) (rest := []) (w2 := lwW cyI cyO cyJ aM aO aX aS aG aL aU aV aB aH w.2 (uO oO z.1) z.2 G Lg U V B X) C dL_law_921 (c6_thrown l D cyI cyO cyJ aM 3000 w.2 (w.2.1 6) rfl) (cwV 0 C.ts gT_X6_thrown rfl rfl rfl (by decide +kernel) ⟨(Nat.le_of_ble_eq_true rfl), (Nat.le_of_ble_eq_true rfl)⟩) rfl (q0 := 0) (ci := 6) rfl rfl Frm.here rfl (Nat.le_of_ble_eq_true rfl) hcs rfl ?_
  refine n_iload C dL_law_924 1 rfl rfl ?_
  refine n_icmp_eq (t := 931) C dL_law_926 (by decide) rfl (fun _ => ?_) (fun h => absurd hA.2.1 h)
  refine n_iload C dL_law_931 1 rfl rfl ?_
  refine n_if_ne (t := 948) C dL_law_933 (by decide) rfl (fun _ => ?_) (fun h0 => ?_)
  · refine n_goto (t := 1478) C dL_law_948 (by decide) ?_
    exact Wn.sub [2, 3, 4, 5, 6] rfl (next w.2 (uO oO z.1) z.2 G Lg U V B X _ _ hL (by omega) (by omega))
  · refine n_aload_n C dL_law_936 3 rfl rfl ?_
    refine n_iconst (v := nI 0) C dL_law_937 (by decide) rfl ?_
    refine n_lald (f := uO oO z.1) C dL_law_938 6 2 rfl rfl (ck_in (by decide)) rfl ?_
    rw [ag_out hA (by decide) h0]
    refine n_iload C dL_law_939 0 rfl rfl ?_
    refine n_i2l C dL_law_941 rfl ?_
    refine n_lcmp C dL_law_942 rfl ?_
    rw [lg_same]
    refine n_if_eq (t := 948) C dL_law_943 (by decide) rfl (fun _ => ?_) (fun h => absurd rfl h)
    refine n_goto (t := 1478) C dL_law_948 (by decide) ?_
    exact Wn.sub [2, 3, 4, 5, 6] rfl (next w.2 (uO oO z.1) z.2 G Lg U V B X _ _ hL (by omega) (by omega))

set_option maxHeartbeats 1000000 in
set_option maxRecDepth 20000 in
theorem tL_table (C : Cx p s m #[Value.ref b] meth c D (tyG cyI cyO cyJ) A RL cL_law 9 (some .boolean) lw_tbl) (CE : ENVL A s) (hls : l.stackTraces = false) (hX : va_X b len xs s s.heap) (hbl : b < s.heap.size) (hbA : ¬ A b) (hlen : len ≤ 2048) (hi : i + 4 ≤ len) (hcs : cells + 1 ≤ room_1.cells ∧ slots + 6 ≤ room_1.slots) (AA : AL Lg B X M)
    (next : ∀ (M' : OB) (oO' : Nat → Int64) (S' G' L' U' V' B' : OB) (X' : HS) (c' s' : Nat), AL L' B' X' M' → c' ≤ cells + 1 → s' ≤ slots + 6 → Wn p l e room_1 s m #[Value.ref b] below meth c D A 9 c' s' Q (lwW cyI cyO cyJ aM aO aX aS aG aL aU aV aB aH (M') (oO') (S') (G') (L') (U') (V') (B') (X')) 1478 [(4, .int (nI i)), (3, .ref aO), (2, .ref (aM 0)), (1, .ref aX), (0, .ref b)] []) : Wn p l e room_1 s m #[Value.ref b] below meth c D A 9 cells slots Q (lwW cyI cyO cyJ aM aO aX aS aG aL aU aV aB aH M oO S G Lg U V B X) 951 [(4, .int (nI i)), (3, .ref aO), (2, .ref (aM 0)), (1, .ref aX), (0, .ref b)] [] := by
  obtain ⟨z, w, hz, hw, hA, hL⟩ := call_table (S := S) (G := G) (U := U) (V := V) (x := (xs (nI i + nI 1).toNatClampNeg)) AA
  refine n_aload_n C dL_law_951 3 rfl rfl ?_
  refine n_aload_n C dL_law_952 4 rfl rfl ?_
  refine n_iload C dL_law_953 0 rfl rfl ?_
  refine n_iconst (v := nI 1) C dL_law_955 (by decide) rfl ?_
  refine n_iadd C dL_law_956 rfl ?_
  refine n_sld C hX hbl hbA dL_law_957 (lw_vin (by omega) hlen) rfl ?_
  refine n_aload_n C dL_law_958 1 rfl rfl ?_
  refine n_callSW (As := [.ref aX, .int (xs (nI i + nI 1).toNatClampNeg), .ref aO]) (rest := []) (w2 := lwW cyI cyO cyJ aM aO aX aS aG aL aU aV aB aH M (uO oO z.1) z.2 G Lg U V B X) C CE dL_law_959 (kL_table l hls D cyI cyO cyJ aO aX aS aG aL aU aV aB aH 3000 oO S G Lg U V B X (xs (nI i + nI 1).toNatClampNeg) z hz hA.1) (vx_cwSW 3 C.ts gT_L_table rfl rfl rfl (by decide +kernel) ⟨(Nat.le_of_ble_eq_true rfl), (Nat.le_of_ble_eq_true rfl)⟩) rfl (Frm.skip Frm.self) rfl (Nat.le_of_ble_eq_true rfl) hcs rfl ?_
  refine n_istore (lv' := [(5, .int (kO ["java/lang/IllegalArgumentException"] z.1)), (4, .int (nI i)), (3, .ref aO), (2, .ref (aM 0)), (1, .ref aX), (0, .ref b)]) C dL_law_962 (by decide) rfl rfl ?_
  refine n_aload_n C dL_law_964 3 rfl rfl ?_
  refine n_aload_n C dL_law_965 5 rfl rfl ?_
  refine n_iload C dL_law_966 1 rfl rfl ?_
  refine n_iconst (v := nI 1) C dL_law_968 (by decide) rfl ?_
  refine n_iadd C dL_law_969 rfl ?_
  refine n_sld C hX hbl hbA dL_law_970 (lw_vin (by omega) hlen) rfl ?_
  refine n_callV (As := [.int (xs (nI i + nI 1).toNatClampNeg)]) (rest := []) (w2 := lwW cyI cyO cyJ aM aO aX aS aG aL aU aV aB aH w.2 (uO oO z.1) z.2 G Lg U V B X) C dL_law_971 (c6_table l D cyI cyO cyJ aM 3000 M (xs (nI i + nI 1).toNatClampNeg) w hw) (cwV 1 C.ts gT_X6_table rfl rfl rfl (by decide +kernel) ⟨(Nat.le_of_ble_eq_true rfl), (Nat.le_of_ble_eq_true rfl)⟩) rfl (q0 := 0) (ci := 6) rfl rfl Frm.here rfl (Nat.le_of_ble_eq_true rfl) hcs rfl ?_
  refine n_istore (lv' := [(6, .int w.1), (5, .int (kO ["java/lang/IllegalArgumentException"] z.1)), (4, .int (nI i)), (3, .ref aO), (2, .ref (aM 0)), (1, .ref aX), (0, .ref b)]) C dL_law_974 (by decide) rfl rfl ?_
  refine n_aload_n C dL_law_976 4 rfl rfl ?_
  refine n_callV (As := []) (rest := []) (w2 := lwW cyI cyO cyJ aM aO aX aS aG aL aU aV aB aH w.2 (uO oO z.1) z.2 G Lg U V B X) C dL_law_977 (c6_thrown l D cyI cyO cyJ aM 3000 w.2 (w.2.1 6) rfl) (cwV 0 C.ts gT_X6_thrown rfl rfl rfl (by decide +kernel) ⟨(Nat.le_of_ble_eq_true rfl), (Nat.le_of_ble_eq_true rfl)⟩) rfl (q0 := 0) (ci := 6) rfl rfl Frm.here rfl (Nat.le_of_ble_eq_true rfl) hcs rfl ?_
  refine n_iload C dL_law_980 1 rfl rfl ?_
  refine n_icmp_eq (t := 987) C dL_law_982 (by decide) rfl (fun _ => ?_) (fun h => absurd hA.2.1 h)
  refine n_iload C dL_law_987 1 rfl rfl ?_
  refine n_if_ne (t := 1004) C dL_law_989 (by decide) rfl (fun _ => ?_) (fun h0 => ?_)
  · refine n_goto (t := 1478) C dL_law_1004 (by decide) ?_
    exact Wn.sub [2, 3, 4, 5, 6] rfl (next w.2 (uO oO z.1) z.2 G Lg U V B X _ _ hL (by omega) (by omega))
  · refine n_aload_n C dL_law_992 3 rfl rfl ?_
    refine n_iconst (v := nI 0) C dL_law_993 (by decide) rfl ?_
    refine n_lald (f := uO oO z.1) C dL_law_994 6 2 rfl rfl (ck_in (by decide)) rfl ?_
    rw [ag_out hA (by decide) h0]
    refine n_iload C dL_law_995 0 rfl rfl ?_
    refine n_i2l C dL_law_997 rfl ?_
    refine n_lcmp C dL_law_998 rfl ?_
    rw [lg_same]
    refine n_if_eq (t := 1004) C dL_law_999 (by decide) rfl (fun _ => ?_) (fun h => absurd rfl h)
    refine n_goto (t := 1478) C dL_law_1004 (by decide) ?_
    exact Wn.sub [2, 3, 4, 5, 6] rfl (next w.2 (uO oO z.1) z.2 G Lg U V B X _ _ hL (by omega) (by omega))

set_option maxHeartbeats 1000000 in
set_option maxRecDepth 20000 in
theorem tL_busy (C : Cx p s m #[Value.ref b] meth c D (tyG cyI cyO cyJ) A RL cL_law 9 (some .boolean) lw_tbl) (CE : ENVL A s) (hls : l.stackTraces = false) (hX : va_X b len xs s s.heap) (hbl : b < s.heap.size) (hbA : ¬ A b) (hlen : len ≤ 2048) (hi : i + 4 ≤ len) (hcs : cells + 1 ≤ room_1.cells ∧ slots + 6 ≤ room_1.slots) (AA : AL Lg B X M)
    (next : ∀ (M' : OB) (oO' : Nat → Int64) (S' G' L' U' V' B' : OB) (X' : HS) (c' s' : Nat), AL L' B' X' M' → c' ≤ cells + 1 → s' ≤ slots + 6 → Wn p l e room_1 s m #[Value.ref b] below meth c D A 9 c' s' Q (lwW cyI cyO cyJ aM aO aX aS aG aL aU aV aB aH (M') (oO') (S') (G') (L') (U') (V') (B') (X')) 1478 [(4, .int (nI i)), (3, .ref aO), (2, .ref (aM 0)), (1, .ref aX), (0, .ref b)] []) : Wn p l e room_1 s m #[Value.ref b] below meth c D A 9 cells slots Q (lwW cyI cyO cyJ aM aO aX aS aG aL aU aV aB aH M oO S G Lg U V B X) 1007 [(4, .int (nI i)), (3, .ref aO), (2, .ref (aM 0)), (1, .ref aX), (0, .ref b)] [] := by
  obtain ⟨z, w, hz, hw, hA, hL⟩ := call_busy (S := S) (G := G) (U := U) (V := V) (x := (xs (nI i + nI 1).toNatClampNeg)) (y := (xs (nI i + nI 2).toNatClampNeg)) AA
  refine n_aload_n C dL_law_1007 3 rfl rfl ?_
  refine n_aload_n C dL_law_1008 4 rfl rfl ?_
  refine n_iload C dL_law_1009 0 rfl rfl ?_
  refine n_iconst (v := nI 1) C dL_law_1011 (by decide) rfl ?_
  refine n_iadd C dL_law_1012 rfl ?_
  refine n_sld C hX hbl hbA dL_law_1013 (lw_vin (by omega) hlen) rfl ?_
  refine n_aload_n C dL_law_1014 4 rfl rfl ?_
  refine n_iload C dL_law_1015 0 rfl rfl ?_
  refine n_iconst (v := nI 2) C dL_law_1017 (by decide) rfl ?_
  refine n_iadd C dL_law_1018 rfl ?_
  refine n_sld C hX hbl hbA dL_law_1019 (lw_vin (by omega) hlen) rfl ?_
  refine n_aload_n C dL_law_1020 1 rfl rfl ?_
  refine n_callSW (As := [.ref aX, .int (xs (nI i + nI 1).toNatClampNeg), .int (xs (nI i + nI 2).toNatClampNeg), .ref aO]) (rest := []) (w2 := lwW cyI cyO cyJ aM aO aX aS aG aL aU aV aB aH M (uO oO z) S G Lg U V B X) C CE dL_law_1021 (kL_busy l hls D cyI cyO cyJ aO aX aS aG aL aU aV aB aH 3000 oO S G Lg U V B X (xs (nI i + nI 1).toNatClampNeg) (xs (nI i + nI 2).toNatClampNeg) z hz hA.1) (vx_cwSW 4 C.ts gT_L_busy rfl rfl rfl (by decide +kernel) ⟨(Nat.le_of_ble_eq_true rfl), (Nat.le_of_ble_eq_true rfl)⟩) rfl (Frm.skip Frm.self) rfl (Nat.le_of_ble_eq_true rfl) hcs rfl ?_
  refine n_istore (lv' := [(5, .int (kO ["java/lang/IndexOutOfBoundsException", "java/lang/IllegalArgumentException"] z)), (4, .int (nI i)), (3, .ref aO), (2, .ref (aM 0)), (1, .ref aX), (0, .ref b)]) C dL_law_1024 (by decide) rfl rfl ?_
  refine n_aload_n C dL_law_1026 3 rfl rfl ?_
  refine n_aload_n C dL_law_1027 5 rfl rfl ?_
  refine n_iload C dL_law_1028 1 rfl rfl ?_
  refine n_iconst (v := nI 1) C dL_law_1030 (by decide) rfl ?_
  refine n_iadd C dL_law_1031 rfl ?_
  refine n_sld C hX hbl hbA dL_law_1032 (lw_vin (by omega) hlen) rfl ?_
  refine n_aload_n C dL_law_1033 5 rfl rfl ?_
  refine n_iload C dL_law_1034 1 rfl rfl ?_
  refine n_iconst (v := nI 2) C dL_law_1036 (by decide) rfl ?_
  refine n_iadd C dL_law_1037 rfl ?_
  refine n_sld C hX hbl hbA dL_law_1038 (lw_vin (by omega) hlen) rfl ?_
  refine n_callV (As := [.int (xs (nI i + nI 1).toNatClampNeg), .int (xs (nI i + nI 2).toNatClampNeg)]) (rest := []) (w2 := lwW cyI cyO cyJ aM aO aX aS aG aL aU aV aB aH w.2 (uO oO z) S G Lg U V B X) C dL_law_1039 (c6_busy l D cyI cyO cyJ aM 3000 M (xs (nI i + nI 1).toNatClampNeg) (xs (nI i + nI 2).toNatClampNeg) w hw) (cwV 2 C.ts gT_X6_busy rfl rfl rfl (by decide +kernel) ⟨(Nat.le_of_ble_eq_true rfl), (Nat.le_of_ble_eq_true rfl)⟩) rfl (q0 := 0) (ci := 6) rfl rfl Frm.here rfl (Nat.le_of_ble_eq_true rfl) hcs rfl ?_
  refine n_istore (lv' := [(6, .int w.1), (5, .int (kO ["java/lang/IndexOutOfBoundsException", "java/lang/IllegalArgumentException"] z)), (4, .int (nI i)), (3, .ref aO), (2, .ref (aM 0)), (1, .ref aX), (0, .ref b)]) C dL_law_1042 (by decide) rfl rfl ?_
  refine n_aload_n C dL_law_1044 4 rfl rfl ?_
  refine n_callV (As := []) (rest := []) (w2 := lwW cyI cyO cyJ aM aO aX aS aG aL aU aV aB aH w.2 (uO oO z) S G Lg U V B X) C dL_law_1045 (c6_thrown l D cyI cyO cyJ aM 3000 w.2 (w.2.1 6) rfl) (cwV 0 C.ts gT_X6_thrown rfl rfl rfl (by decide +kernel) ⟨(Nat.le_of_ble_eq_true rfl), (Nat.le_of_ble_eq_true rfl)⟩) rfl (q0 := 0) (ci := 6) rfl rfl Frm.here rfl (Nat.le_of_ble_eq_true rfl) hcs rfl ?_
  refine n_iload C dL_law_1048 1 rfl rfl ?_
  refine n_icmp_eq (t := 1055) C dL_law_1050 (by decide) rfl (fun _ => ?_) (fun h => absurd hA.2.1 h)
  refine n_iload C dL_law_1055 1 rfl rfl ?_
  refine n_if_ne (t := 1072) C dL_law_1057 (by decide) rfl (fun _ => ?_) (fun h0 => ?_)
  · refine n_goto (t := 1478) C dL_law_1072 (by decide) ?_
    exact Wn.sub [2, 3, 4, 5, 6] rfl (next w.2 (uO oO z) S G Lg U V B X _ _ hL (by omega) (by omega))
  · refine n_aload_n C dL_law_1060 3 rfl rfl ?_
    refine n_iconst (v := nI 0) C dL_law_1061 (by decide) rfl ?_
    refine n_lald (f := uO oO z) C dL_law_1062 6 2 rfl rfl (ck_in (by decide)) rfl ?_
    rw [ag_out hA (by decide) h0]
    refine n_iload C dL_law_1063 0 rfl rfl ?_
    refine n_i2l C dL_law_1065 rfl ?_
    refine n_lcmp C dL_law_1066 rfl ?_
    rw [lg_same]
    refine n_if_eq (t := 1072) C dL_law_1067 (by decide) rfl (fun _ => ?_) (fun h => absurd rfl h)
    refine n_goto (t := 1478) C dL_law_1072 (by decide) ?_
    exact Wn.sub [2, 3, 4, 5, 6] rfl (next w.2 (uO oO z) S G Lg U V B X _ _ hL (by omega) (by omega))
end LAWC
