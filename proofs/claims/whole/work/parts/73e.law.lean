section LAWC
variable {p : Program} {l : Launch} {e : Env} {s : State} {m : MethodId} {below : List Frame} {meth : Method} {c : Code}
variable {D : va_G} {A : Nat → Prop} {Q : State → Prop} {cells slots : Nat} {cyI cyO cyJ : ClassId} {b len i : Nat} {xs : Nat → Int32}
variable {aM : Nat → Nat} {aO aX : Nat} {aS aG aL aU aV aB aH : Nat → Nat} {M S G Lg U V B : OB} {oO : Nat → Int64} {X : HS}
set_option maxHeartbeats 1000000 in
set_option maxRecDepth 20000 in
theorem tL_count (C : Cx p s m #[Value.ref b] meth c D (tyG cyI cyO cyJ) A RL cL_law 9 (some .boolean) lw_tbl) (CE : ENVL A s) (hls : l.stackTraces = false) (hX : va_X b len xs s s.heap) (hbl : b < s.heap.size) (hbA : ¬ A b) (hlen : len ≤ 2048) (hi : i + 4 ≤ len) (hcs : cells + 1 ≤ room_1.cells ∧ slots + 6 ≤ room_1.slots) (AA : AL Lg B X M)
    (next : ∀ (M' : OB) (oO' : Nat → Int64) (S' G' L' U' V' B' : OB) (X' : HS) (c' s' : Nat), AL L' B' X' M' → c' ≤ cells + 1 → s' ≤ slots + 6 → Wn p l e room_1 s m #[Value.ref b] below meth c D A 9 c' s' Q (lwW cyI cyO cyJ aM aO aX aS aG aL aU aV aB aH (M') (oO') (S') (G') (L') (U') (V') (B') (X')) 1478 [(4, .int (nI i)), (3, .ref aO), (2, .ref (aM 0)), (1, .ref aX), (0, .ref b)] []) : Wn p l e room_1 s m #[Value.ref b] below meth c D A 9 cells slots Q (lwW cyI cyO cyJ aM aO aX aS aG aL aU aV aB aH M oO S G Lg U V B X) 1075 [(4, .int (nI i)), (3, .ref aO), (2, .ref (aM 0)), (1, .ref aX), (0, .ref b)] [] := by
  obtain ⟨z, w, hz, hw, hA, hL⟩ := call_count (S := S) (G := G) (U := U) (V := V) (x := (xs (nI i + nI 1).toNatClampNeg)) AA
  refine n_aload_n C dL_law_1075 3 rfl rfl ?_
  refine n_aload_n C dL_law_1076 4 rfl rfl ?_
  refine n_iload C dL_law_1077 0 rfl rfl ?_
  refine n_iconst (v := nI 1) C dL_law_1079 (by decide) rfl ?_
  refine n_iadd C dL_law_1080 rfl ?_
  refine n_sld C hX hbl hbA dL_law_1081 (lw_vin (by omega) hlen) rfl ?_
  refine n_aload_n C dL_law_1082 1 rfl rfl ?_
  refine n_callSW (As := [.ref aX, .int (xs (nI i + nI 1).toNatClampNeg), .ref aO]) (rest := []) (w2 := lwW cyI cyO cyJ aM aO aX aS aG aL aU aV aB aH M (uO oO z.1) z.2 G Lg U V B X) C CE dL_law_1083 (kL_count l hls D cyI cyO cyJ aO aX aS aG aL aU aV aB aH 3000 oO S G Lg U V B X (xs (nI i + nI 1).toNatClampNeg) z hz hA.1) (vx_cwSW 3 C.ts gT_L_count rfl rfl rfl (by decide +kernel) ⟨(Nat.le_of_ble_eq_true rfl), (Nat.le_of_ble_eq_true rfl)⟩) rfl (Frm.skip Frm.self) rfl (Nat.le_of_ble_eq_true rfl) hcs rfl ?_
  refine n_istore (lv' := [(5, .int (kO ["java/lang/IllegalArgumentException"] z.1)), (4, .int (nI i)), (3, .ref aO), (2, .ref (aM 0)), (1, .ref aX), (0, .ref b)]) C dL_law_1086 (by decide) rfl rfl ?_
  refine n_aload_n C dL_law_1088 3 rfl rfl ?_
  refine n_aload_n C dL_law_1089 5 rfl rfl ?_
  refine n_iload C dL_law_1090 1 rfl rfl ?_
  refine n_iconst (v := nI 1) C dL_law_1092 (by decide) rfl ?_
  refine n_iadd C dL_law_1093 rfl ?_
  refine n_sld C hX hbl hbA dL_law_1094 (lw_vin (by omega) hlen) rfl ?_
  refine n_callV (As := [.int (xs (nI i + nI 1).toNatClampNeg)]) (rest := []) (w2 := lwW cyI cyO cyJ aM aO aX aS aG aL aU aV aB aH w.2 (uO oO z.1) z.2 G Lg U V B X) C dL_law_1095 (c6_count l D cyI cyO cyJ aM 3000 M (xs (nI i + nI 1).toNatClampNeg) w hw) (cwV 1 C.ts gT_X6_count rfl rfl rfl (by decide +kernel) ⟨(Nat.le_of_ble_eq_true rfl), (Nat.le_of_ble_eq_true rfl)⟩) rfl (q0 := 0) (ci := 6) rfl rfl Frm.here rfl (Nat.le_of_ble_eq_true rfl) hcs rfl ?_
  refine n_istore (lv' := [(6, .int w.1), (5, .int (kO ["java/lang/IllegalArgumentException"] z.1)), (4, .int (nI i)), (3, .ref aO), (2, .ref (aM 0)), (1, .ref aX), (0, .ref b)]) C dL_law_1098 (by decide) rfl rfl ?_
  refine n_aload_n C dL_law_1100 4 rfl rfl ?_
  refine n_callV (As := []) (rest := []) (w2 := lwW cyI cyO cyJ aM aO aX aS aG aL aU aV aB aH w.2 (uO oO z.1) z.2 G Lg U V B X) C dL_law_1101 (c6_thrown l D cyI cyO cyJ aM 3000 w.2 (w.2.1 6) rfl) (cwV 0 C.ts gT_X6_thrown rfl rfl rfl (by decide +kernel) ⟨(Nat.le_of_ble_eq_true rfl), (Nat.le_of_ble_eq_true rfl)⟩) rfl (q0 := 0) (ci := 6) rfl rfl Frm.here rfl (Nat.le_of_ble_eq_true rfl) hcs rfl ?_
  refine n_iload C dL_law_1104 1 rfl rfl ?_
  refine n_icmp_eq (t := 1111) C dL_law_1106 (by decide) rfl (fun _ => ?_) (fun h => absurd hA.2.1 h)
  refine n_iload C dL_law_1111 1 rfl rfl ?_
  refine n_if_ne (t := 1128) C dL_law_1113 (by decide) rfl (fun _ => ?_) (fun h0 => ?_)
  · refine n_goto (t := 1478) C dL_law_1128 (by decide) ?_
    exact Wn.sub [2, 3, 4, 5, 6] rfl (next w.2 (uO oO z.1) z.2 G Lg U V B X _ _ hL (by omega) (by omega))
  · refine n_aload_n C dL_law_1116 3 rfl rfl ?_
    refine n_iconst (v := nI 0) C dL_law_1117 (by decide) rfl ?_
    refine n_lald (f := uO oO z.1) C dL_law_1118 6 2 rfl rfl (ck_in (by decide)) rfl ?_
    rw [ag_out hA (by decide) h0]
    refine n_iload C dL_law_1119 0 rfl rfl ?_
    refine n_i2l C dL_law_1121 rfl ?_
    refine n_lcmp C dL_law_1122 rfl ?_
    rw [lg_same]
    refine n_if_eq (t := 1128) C dL_law_1123 (by decide) rfl (fun _ => ?_) (fun h => absurd rfl h)
    refine n_goto (t := 1478) C dL_law_1128 (by decide) ?_
    exact Wn.sub [2, 3, 4, 5, 6] rfl (next w.2 (uO oO z.1) z.2 G Lg U V B X _ _ hL (by omega) (by omega))

set_option maxHeartbeats 1000000 in
set_option maxRecDepth 20000 in
theorem tL_setting (C : Cx p s m #[Value.ref b] meth c D (tyG cyI cyO cyJ) A RL cL_law 9 (some .boolean) lw_tbl) (CE : ENVL A s) (hls : l.stackTraces = false) (hX : va_X b len xs s s.heap) (hbl : b < s.heap.size) (hbA : ¬ A b) (hlen : len ≤ 2048) (hi : i + 4 ≤ len) (hcs : cells + 1 ≤ room_1.cells ∧ slots + 6 ≤ room_1.slots) (AA : AL Lg B X M)
    (next : ∀ (M' : OB) (oO' : Nat → Int64) (S' G' L' U' V' B' : OB) (X' : HS) (c' s' : Nat), AL L' B' X' M' → c' ≤ cells + 1 → s' ≤ slots + 6 → Wn p l e room_1 s m #[Value.ref b] below meth c D A 9 c' s' Q (lwW cyI cyO cyJ aM aO aX aS aG aL aU aV aB aH (M') (oO') (S') (G') (L') (U') (V') (B') (X')) 1478 [(4, .int (nI i)), (3, .ref aO), (2, .ref (aM 0)), (1, .ref aX), (0, .ref b)] []) : Wn p l e room_1 s m #[Value.ref b] below meth c D A 9 cells slots Q (lwW cyI cyO cyJ aM aO aX aS aG aL aU aV aB aH M oO S G Lg U V B X) 1131 [(4, .int (nI i)), (3, .ref aO), (2, .ref (aM 0)), (1, .ref aX), (0, .ref b)] [] := by
  obtain ⟨z, w, hz, hw, hA, hL⟩ := call_setting (S := S) (G := G) (U := U) (V := V) (x := (xs (nI i + nI 1).toNatClampNeg)) AA
  refine n_aload_n C dL_law_1131 3 rfl rfl ?_
  refine n_aload_n C dL_law_1132 4 rfl rfl ?_
  refine n_iload C dL_law_1133 0 rfl rfl ?_
  refine n_iconst (v := nI 1) C dL_law_1135 (by decide) rfl ?_
  refine n_iadd C dL_law_1136 rfl ?_
  refine n_sld C hX hbl hbA dL_law_1137 (lw_vin (by omega) hlen) rfl ?_
  refine n_aload_n C dL_law_1138 1 rfl rfl ?_
  refine n_callSW (As := [.ref aX, .int (xs (nI i + nI 1).toNatClampNeg), .ref aO]) (rest := []) (w2 := lwW cyI cyO cyJ aM aO aX aS aG aL aU aV aB aH M (uO oO z) S G Lg U V B X) C CE dL_law_1139 (kL_setting l hls D cyI cyO cyJ aO aX aS aG aL aU aV aB aH 3000 oO S G Lg U V B X (xs (nI i + nI 1).toNatClampNeg) z hz hA.1) (vx_cwSW 3 C.ts gT_L_setting rfl rfl rfl (by decide +kernel) ⟨(Nat.le_of_ble_eq_true rfl), (Nat.le_of_ble_eq_true rfl)⟩) rfl (Frm.skip Frm.self) rfl (Nat.le_of_ble_eq_true rfl) hcs rfl ?_
  refine n_istore (lv' := [(5, .int (kO ["java/lang/IndexOutOfBoundsException"] z)), (4, .int (nI i)), (3, .ref aO), (2, .ref (aM 0)), (1, .ref aX), (0, .ref b)]) C dL_law_1142 (by decide) rfl rfl ?_
  refine n_aload_n C dL_law_1144 3 rfl rfl ?_
  refine n_aload_n C dL_law_1145 5 rfl rfl ?_
  refine n_iload C dL_law_1146 1 rfl rfl ?_
  refine n_iconst (v := nI 1) C dL_law_1148 (by decide) rfl ?_
  refine n_iadd C dL_law_1149 rfl ?_
  refine n_sld C hX hbl hbA dL_law_1150 (lw_vin (by omega) hlen) rfl ?_
  refine n_callV (As := [.int (xs (nI i + nI 1).toNatClampNeg)]) (rest := []) (w2 := lwW cyI cyO cyJ aM aO aX aS aG aL aU aV aB aH w.2 (uO oO z) S G Lg U V B X) C dL_law_1151 (c6_setting l D cyI cyO cyJ aM 3000 M (xs (nI i + nI 1).toNatClampNeg) w hw) (cwV 1 C.ts gT_X6_setting rfl rfl rfl (by decide +kernel) ⟨(Nat.le_of_ble_eq_true rfl), (Nat.le_of_ble_eq_true rfl)⟩) rfl (q0 := 0) (ci := 6) rfl rfl Frm.here rfl (Nat.le_of_ble_eq_true rfl) hcs rfl ?_
  refine n_istore (lv' := [(6, .int w.1), (5, .int (kO ["java/lang/IndexOutOfBoundsException"] z)), (4, .int (nI i)), (3, .ref aO), (2, .ref (aM 0)), (1, .ref aX), (0, .ref b)]) C dL_law_1154 (by decide) rfl rfl ?_
  refine n_aload_n C dL_law_1156 4 rfl rfl ?_
  refine n_callV (As := []) (rest := []) (w2 := lwW cyI cyO cyJ aM aO aX aS aG aL aU aV aB aH w.2 (uO oO z) S G Lg U V B X) C dL_law_1157 (c6_thrown l D cyI cyO cyJ aM 3000 w.2 (w.2.1 6) rfl) (cwV 0 C.ts gT_X6_thrown rfl rfl rfl (by decide +kernel) ⟨(Nat.le_of_ble_eq_true rfl), (Nat.le_of_ble_eq_true rfl)⟩) rfl (q0 := 0) (ci := 6) rfl rfl Frm.here rfl (Nat.le_of_ble_eq_true rfl) hcs rfl ?_
  refine n_iload C dL_law_1160 1 rfl rfl ?_
  refine n_icmp_eq (t := 1167) C dL_law_1162 (by decide) rfl (fun _ => ?_) (fun h => absurd hA.2.1 h)
  refine n_iload C dL_law_1167 1 rfl rfl ?_
  refine n_if_ne (t := 1184) C dL_law_1169 (by decide) rfl (fun _ => ?_) (fun h0 => ?_)
  · refine n_goto (t := 1478) C dL_law_1184 (by decide) ?_
    exact Wn.sub [2, 3, 4, 5, 6] rfl (next w.2 (uO oO z) S G Lg U V B X _ _ hL (by omega) (by omega))
  · refine n_aload_n C dL_law_1172 3 rfl rfl ?_
    refine n_iconst (v := nI 0) C dL_law_1173 (by decide) rfl ?_
    refine n_lald (f := uO oO z) C dL_law_1174 6 2 rfl rfl (ck_in (by decide)) rfl ?_
    rw [ag_out hA (by decide) h0]
    refine n_iload C dL_law_1175 0 rfl rfl ?_
    refine n_i2l C dL_law_1177 rfl ?_
    refine n_lcmp C dL_law_1178 rfl ?_
    rw [lg_same]
    refine n_if_eq (t := 1184) C dL_law_1179 (by decide) rfl (fun _ => ?_) (fun h => absurd rfl h)
    refine n_goto (t := 1478) C dL_law_1184 (by decide) ?_
    exact Wn.sub [2, 3, 4, 5, 6] rfl (next w.2 (uO oO z) S G Lg U V B X _ _ hL (by omega) (by omega))

set_option maxHeartbeats 1000000 in
set_option maxRecDepth 20000 in
theorem tL_meeting (C : Cx p s m #[Value.ref b] meth c D (tyG cyI cyO cyJ) A RL cL_law 9 (some .boolean) lw_tbl) (CE : ENVL A s) (hls : l.stackTraces = false) (hX : va_X b len xs s s.heap) (hbl : b < s.heap.size) (hbA : ¬ A b) (hlen : len ≤ 2048) (hi : i + 4 ≤ len) (hcs : cells + 1 ≤ room_1.cells ∧ slots + 6 ≤ room_1.slots) (AA : AL Lg B X M)
    (next : ∀ (M' : OB) (oO' : Nat → Int64) (S' G' L' U' V' B' : OB) (X' : HS) (c' s' : Nat), AL L' B' X' M' → c' ≤ cells + 1 → s' ≤ slots + 6 → Wn p l e room_1 s m #[Value.ref b] below meth c D A 9 c' s' Q (lwW cyI cyO cyJ aM aO aX aS aG aL aU aV aB aH (M') (oO') (S') (G') (L') (U') (V') (B') (X')) 1478 [(4, .int (nI i)), (3, .ref aO), (2, .ref (aM 0)), (1, .ref aX), (0, .ref b)] []) : Wn p l e room_1 s m #[Value.ref b] below meth c D A 9 cells slots Q (lwW cyI cyO cyJ aM aO aX aS aG aL aU aV aB aH M oO S G Lg U V B X) 1187 [(4, .int (nI i)), (3, .ref aO), (2, .ref (aM 0)), (1, .ref aX), (0, .ref b)] [] := by
  obtain ⟨z, w, hz, hw, hA, hL⟩ := call_meeting (S := S) (G := G) (U := U) (V := V) (x := (xs (nI i + nI 1).toNatClampNeg)) (y := (xs (nI i + nI 2).toNatClampNeg)) AA
  refine n_aload_n C dL_law_1187 3 rfl rfl ?_
  refine n_aload_n C dL_law_1188 4 rfl rfl ?_
  refine n_iload C dL_law_1189 0 rfl rfl ?_
  refine n_iconst (v := nI 1) C dL_law_1191 (by decide) rfl ?_
  refine n_iadd C dL_law_1192 rfl ?_
  refine n_sld C hX hbl hbA dL_law_1193 (lw_vin (by omega) hlen) rfl ?_
  refine n_aload_n C dL_law_1194 4 rfl rfl ?_
  refine n_iload C dL_law_1195 0 rfl rfl ?_
  refine n_iconst (v := nI 2) C dL_law_1197 (by decide) rfl ?_
  refine n_iadd C dL_law_1198 rfl ?_
  refine n_sld C hX hbl hbA dL_law_1199 (lw_vin (by omega) hlen) rfl ?_
  refine n_aload_n C dL_law_1200 1 rfl rfl ?_
  refine n_callSW (As := [.ref aX, .int (xs (nI i + nI 1).toNatClampNeg), .int (xs (nI i + nI 2).toNatClampNeg), .ref aO]) (rest := []) (w2 := lwW cyI cyO cyJ aM aO aX aS aG aL aU aV aB aH M (uO oO z) S G Lg U V B X) C CE dL_law_1201 (kL_meeting l hls D cyI cyO cyJ aO aX aS aG aL aU aV aB aH 3000 oO S G Lg U V B X (xs (nI i + nI 1).toNatClampNeg) (xs (nI i + nI 2).toNatClampNeg) z hz hA.1) (vx_cwSW 4 C.ts gT_L_meeting rfl rfl rfl (by decide +kernel) ⟨(Nat.le_of_ble_eq_true rfl), (Nat.le_of_ble_eq_true rfl)⟩) rfl (Frm.skip Frm.self) rfl (Nat.le_of_ble_eq_true rfl) hcs rfl ?_
  refine n_istore (lv' := [(5, .int (kO ["java/lang/IndexOutOfBoundsException", "java/lang/IllegalArgumentException"] z)), (4, .int (nI i)), (3, .ref aO), (2, .ref (aM 0)), (1, .ref aX), (0, .ref b)]) C dL_law_1204 (by decide) rfl rfl ?_
  refine n_aload_n C dL_law_1206 3 rfl rfl ?_
  refine n_aload_n C dL_law_1207 5 rfl rfl ?_
  refine n_iload C dL_law_1208 1 rfl rfl ?_
  refine n_iconst (v := nI 1) C dL_law_1210 (by decide) rfl ?_
  refine n_iadd C dL_law_1211 rfl ?_
  refine n_sld C hX hbl hbA dL_law_1212 (lw_vin (by omega) hlen) rfl ?_
  refine n_aload_n C dL_law_1213 5 rfl rfl ?_
  refine n_iload C dL_law_1214 1 rfl rfl ?_
  refine n_iconst (v := nI 2) C dL_law_1216 (by decide) rfl ?_
  refine n_iadd C dL_law_1217 rfl ?_
  refine n_sld C hX hbl hbA dL_law_1218 (lw_vin (by omega) hlen) rfl ?_
  refine n_callV (As := [.int (xs (nI i + nI 1).toNatClampNeg), .int (xs (nI i + nI 2).toNatClampNeg)]) (rest := []) (w2 := lwW cyI cyO cyJ aM aO aX aS aG aL aU aV aB aH w.2 (uO oO z) S G Lg U V B X) C dL_law_1219 (c6_meeting l D cyI cyO cyJ aM 3000 M (xs (nI i + nI 1).toNatClampNeg) (xs (nI i + nI 2).toNatClampNeg) w hw) (cwV 2 C.ts gT_X6_meeting rfl rfl rfl (by decide +kernel) ⟨(Nat.le_of_ble_eq_true rfl), (Nat.le_of_ble_eq_true rfl)⟩) rfl (q0 := 0) (ci := 6) rfl rfl Frm.here rfl (Nat.le_of_ble_eq_true rfl) hcs rfl ?_
  refine n_istore (lv' := [(6, .int w.1), (5, .int (kO ["java/lang/IndexOutOfBoundsException", "java/lang/IllegalArgumentException"] z)), (4, .int (nI i)), (3, .ref aO), (2, .ref (aM 0)), (1, .ref aX), (0, .ref b)]) C dL_law_1222 (by decide) rfl rfl ?_
  refine n_aload_n C dL_law_1224 4 rfl rfl ?_
  refine n_callV (As := []) (rest := []) (w2 := lwW cyI cyO cyJ aM aO aX aS aG aL aU aV aB aH w.2 (uO oO z) S G Lg U V B X) C dL_law_1225 (c6_thrown l D cyI cyO cyJ aM 3000 w.2 (w.2.1 6) rfl) (cwV 0 C.ts gT_X6_thrown rfl rfl rfl (by decide +kernel) ⟨(Nat.le_of_ble_eq_true rfl), (Nat.le_of_ble_eq_true rfl)⟩) rfl (q0 := 0) (ci := 6) rfl rfl Frm.here rfl (Nat.le_of_ble_eq_true rfl) hcs rfl ?_
  refine n_iload C dL_law_1228 1 rfl rfl ?_
  refine n_icmp_eq (t := 1235) C dL_law_1230 (by decide) rfl (fun _ => ?_) (fun h => absurd hA.2.1 h)
  refine n_iload C dL_law_1235 1 rfl rfl ?_
  refine n_if_ne (t := 1252) C dL_law_1237 (by decide) rfl (fun _ => ?_) (fun h0 => ?_)
  · refine n_goto (t := 1478) C dL_law_1252 (by decide) ?_
    exact Wn.sub [2, 3, 4, 5, 6] rfl (next w.2 (uO oO z) S G Lg U V B X _ _ hL (by omega) (by omega))
  · refine n_aload_n C dL_law_1240 3 rfl rfl ?_
    refine n_iconst (v := nI 0) C dL_law_1241 (by decide) rfl ?_
    refine n_lald (f := uO oO z) C dL_law_1242 6 2 rfl rfl (ck_in (by decide)) rfl ?_
    rw [ag_out hA (by decide) h0]
    refine n_iload C dL_law_1243 0 rfl rfl ?_
    refine n_i2l C dL_law_1245 rfl ?_
    refine n_lcmp C dL_law_1246 rfl ?_
    rw [lg_same]
    refine n_if_eq (t := 1252) C dL_law_1247 (by decide) rfl (fun _ => ?_) (fun h => absurd rfl h)
    refine n_goto (t := 1478) C dL_law_1252 (by decide) ?_
    exact Wn.sub [2, 3, 4, 5, 6] rfl (next w.2 (uO oO z) S G Lg U V B X _ _ hL (by omega) (by omega))

set_option maxHeartbeats 1000000 in
set_option maxRecDepth 20000 in
theorem tL_bestPlace (C : Cx p s m #[Value.ref b] meth c D (tyG cyI cyO cyJ) A RL cL_law 9 (some .boolean) lw_tbl) (CE : ENVL A s) (hls : l.stackTraces = false) (hX : va_X b len xs s s.heap) (hbl : b < s.heap.size) (hbA : ¬ A b) (hlen : len ≤ 2048) (hi : i + 4 ≤ len) (hcs : cells + 1 ≤ room_1.cells ∧ slots + 6 ≤ room_1.slots) (AA : AL Lg B X M)
    (next : ∀ (M' : OB) (oO' : Nat → Int64) (S' G' L' U' V' B' : OB) (X' : HS) (c' s' : Nat), AL L' B' X' M' → c' ≤ cells + 1 → s' ≤ slots + 6 → Wn p l e room_1 s m #[Value.ref b] below meth c D A 9 c' s' Q (lwW cyI cyO cyJ aM aO aX aS aG aL aU aV aB aH (M') (oO') (S') (G') (L') (U') (V') (B') (X')) 1478 [(4, .int (nI i)), (3, .ref aO), (2, .ref (aM 0)), (1, .ref aX), (0, .ref b)] []) : Wn p l e room_1 s m #[Value.ref b] below meth c D A 9 cells slots Q (lwW cyI cyO cyJ aM aO aX aS aG aL aU aV aB aH M oO S G Lg U V B X) 1255 [(4, .int (nI i)), (3, .ref aO), (2, .ref (aM 0)), (1, .ref aX), (0, .ref b)] [] := by
  obtain ⟨z, w, hz, hw, hA, hL⟩ := call_bestPlace (S := S) (G := G) (U := U) (V := V) (x := (xs (nI i + nI 1).toNatClampNeg)) AA
  refine n_aload_n C dL_law_1255 3 rfl rfl ?_
  refine n_aload_n C dL_law_1256 4 rfl rfl ?_
  refine n_iload C dL_law_1257 0 rfl rfl ?_
  refine n_iconst (v := nI 1) C dL_law_1259 (by decide) rfl ?_
  refine n_iadd C dL_law_1260 rfl ?_
  refine n_sld C hX hbl hbA dL_law_1261 (lw_vin (by omega) hlen) rfl ?_
  refine n_aload_n C dL_law_1262 1 rfl rfl ?_
  refine n_callSW (As := [.ref aX, .int (xs (nI i + nI 1).toNatClampNeg), .ref aO]) (rest := []) (w2 := lwW cyI cyO cyJ aM aO aX aS aG aL aU aV aB aH M (uO oO z.1) S G Lg z.2.1 z.2.2 B X) C CE dL_law_1263 (kL_bestPlace l hls D cyI cyO cyJ aO aX aS aG aL aU aV aB aH 3000 oO S G Lg U V B X (xs (nI i + nI 1).toNatClampNeg) z hz hA.1) (vx_cwSW 3 C.ts gT_L_bestPlace rfl rfl rfl (by decide +kernel) ⟨(Nat.le_of_ble_eq_true rfl), (Nat.le_of_ble_eq_true rfl)⟩) rfl (Frm.skip Frm.self) rfl (Nat.le_of_ble_eq_true rfl) hcs rfl ?_
  refine n_istore (lv' := [(5, .int (kO ["java/lang/IndexOutOfBoundsException"] z.1)), (4, .int (nI i)), (3, .ref aO), (2, .ref (aM 0)), (1, .ref aX), (0, .ref b)]) C dL_law_1266 (by decide) rfl rfl ?_
  refine n_aload_n C dL_law_1268 3 rfl rfl ?_
  refine n_aload_n C dL_law_1269 5 rfl rfl ?_
  refine n_iload C dL_law_1270 1 rfl rfl ?_
  refine n_iconst (v := nI 1) C dL_law_1272 (by decide) rfl ?_
  refine n_iadd C dL_law_1273 rfl ?_
  refine n_sld C hX hbl hbA dL_law_1274 (lw_vin (by omega) hlen) rfl ?_
  refine n_callV (As := [.int (xs (nI i + nI 1).toNatClampNeg)]) (rest := []) (w2 := lwW cyI cyO cyJ aM aO aX aS aG aL aU aV aB aH w.2 (uO oO z.1) S G Lg z.2.1 z.2.2 B X) C dL_law_1275 (c6_bestPlace l D cyI cyO cyJ aM 3000 M (xs (nI i + nI 1).toNatClampNeg) w hw) (cwV 1 C.ts gT_X6_bestPlace rfl rfl rfl (by decide +kernel) ⟨(Nat.le_of_ble_eq_true rfl), (Nat.le_of_ble_eq_true rfl)⟩) rfl (q0 := 0) (ci := 6) rfl rfl Frm.here rfl (Nat.le_of_ble_eq_true rfl) hcs rfl ?_
  refine n_istore (lv' := [(6, .int w.1), (5, .int (kO ["java/lang/IndexOutOfBoundsException"] z.1)), (4, .int (nI i)), (3, .ref aO), (2, .ref (aM 0)), (1, .ref aX), (0, .ref b)]) C dL_law_1278 (by decide) rfl rfl ?_
  refine n_aload_n C dL_law_1280 4 rfl rfl ?_
  refine n_callV (As := []) (rest := []) (w2 := lwW cyI cyO cyJ aM aO aX aS aG aL aU aV aB aH w.2 (uO oO z.1) S G Lg z.2.1 z.2.2 B X) C dL_law_1281 (c6_thrown l D cyI cyO cyJ aM 3000 w.2 (w.2.1 6) rfl) (cwV 0 C.ts gT_X6_thrown rfl rfl rfl (by decide +kernel) ⟨(Nat.le_of_ble_eq_true rfl), (Nat.le_of_ble_eq_true rfl)⟩) rfl (q0 := 0) (ci := 6) rfl rfl Frm.here rfl (Nat.le_of_ble_eq_true rfl) hcs rfl ?_
  refine n_iload C dL_law_1284 1 rfl rfl ?_
  refine n_icmp_eq (t := 1291) C dL_law_1286 (by decide) rfl (fun _ => ?_) (fun h => absurd hA.2.1 h)
  refine n_iload C dL_law_1291 1 rfl rfl ?_
  refine n_if_ne (t := 1308) C dL_law_1293 (by decide) rfl (fun _ => ?_) (fun h0 => ?_)
  · refine n_goto (t := 1478) C dL_law_1308 (by decide) ?_
    exact Wn.sub [2, 3, 4, 5, 6] rfl (next w.2 (uO oO z.1) S G Lg z.2.1 z.2.2 B X _ _ hL (by omega) (by omega))
  · refine n_aload_n C dL_law_1296 3 rfl rfl ?_
    refine n_iconst (v := nI 0) C dL_law_1297 (by decide) rfl ?_
    refine n_lald (f := uO oO z.1) C dL_law_1298 6 2 rfl rfl (ck_in (by decide)) rfl ?_
    rw [ag_out hA (by decide) h0]
    refine n_iload C dL_law_1299 0 rfl rfl ?_
    refine n_i2l C dL_law_1301 rfl ?_
    refine n_lcmp C dL_law_1302 rfl ?_
    rw [lg_same]
    refine n_if_eq (t := 1308) C dL_law_1303 (by decide) rfl (fun _ => ?_) (fun h => absurd rfl h)
    refine n_goto (t := 1478) C dL_law_1308 (by decide) ?_
    exact Wn.sub [2, 3, 4, 5, 6] rfl (next w.2 (uO oO z.1) S G Lg z.2.1 z.2.2 B X _ _ hL (by omega) (by omega))
end LAWC
