/-! THE LAW: a turn of its loop, by the call -/
section LAWC
variable {p : Program} {l : Launch} {e : Env} {s : State} {m : MethodId} {below : List Frame} {meth : Method} {c : Code}
variable {D : va_G} {A : Nat → Prop} {Q : State → Prop} {cells slots : Nat} {cyI cyO cyJ : ClassId} {b len i : Nat} {xs : Nat → Int32}
variable {aM : Nat → Nat} {aO aX : Nat} {aS aG aL aU aV aB aH : Nat → Nat} {M S G Lg U V B : OB} {oO : Nat → Int64} {X : HS}
set_option maxHeartbeats 1000000 in
set_option maxRecDepth 20000 in
theorem tL_begin (C : Cx p s m #[Value.ref b] meth c D (tyG cyI cyO cyJ) A RL cL_law 9 (some .boolean) lw_tbl) (CE : ENVL A s) (hls : l.stackTraces = false) (hX : va_X b len xs s s.heap) (hbl : b < s.heap.size) (hbA : ¬ A b) (hlen : len ≤ 2048) (hi : i + 4 ≤ len) (hcs : cells + 1 ≤ room_1.cells ∧ slots + 6 ≤ room_1.slots) (AA : AL Lg B X M)
    (next : ∀ (M' : OB) (oO' : Nat → Int64) (S' G' L' U' V' B' : OB) (X' : HS) (c' s' : Nat), AL L' B' X' M' → c' ≤ cells + 1 → s' ≤ slots + 6 → Wn p l e room_1 s m #[Value.ref b] below meth c D A 9 c' s' Q (lwW cyI cyO cyJ aM aO aX aS aG aL aU aV aB aH (M') (oO') (S') (G') (L') (U') (V') (B') (X')) 1478 [(4, .int (nI i)), (3, .ref aO), (2, .ref (aM 0)), (1, .ref aX), (0, .ref b)] []) : Wn p l e room_1 s m #[Value.ref b] below meth c D A 9 cells slots Q (lwW cyI cyO cyJ aM aO aX aS aG aL aU aV aB aH M oO S G Lg U V B X) 152 [(4, .int (nI i)), (3, .ref aO), (2, .ref (aM 0)), (1, .ref aX), (0, .ref b)] [] := by
  obtain ⟨z, w, hz, hw, hA, hL⟩ := call_begin (S := S) (G := G) (U := U) (V := V) (x := (xs (nI i + nI 1).toNatClampNeg)) AA
  refine n_aload_n C dL_law_152 3 rfl rfl ?_
  refine n_aload_n C dL_law_153 4 rfl rfl ?_
  refine n_iload C dL_law_154 0 rfl rfl ?_
  refine n_iconst (v := nI 1) C dL_law_156 (by decide) rfl ?_
  refine n_iadd C dL_law_157 rfl ?_
  refine n_sld C hX hbl hbA dL_law_158 (lw_vin (by omega) hlen) rfl ?_
  refine n_aload_n C dL_law_159 1 rfl rfl ?_
  refine n_callSW (As := [.ref aX, .int (xs (nI i + nI 1).toNatClampNeg), .ref aO]) (rest := []) (w2 := lwW cyI cyO cyJ aM aO aX aS aG aL aU aV aB aH M (uO oO z.1) S G z.2.1 U V B z.2.2) C CE dL_law_160 (kL_begin l hls D cyI cyO cyJ aO aX aS aG aL aU aV aB aH 3000 oO S G Lg U V B X (xs (nI i + nI 1).toNatClampNeg) z hz hA.1) (vx_cwSW 3 C.ts gT_L_begin rfl rfl rfl (by decide +kernel) ⟨(Nat.le_of_ble_eq_true rfl), (Nat.le_of_ble_eq_true rfl)⟩) rfl (Frm.skip Frm.self) rfl (Nat.le_of_ble_eq_true rfl) hcs rfl ?_
  refine n_istore (lv' := [(5, .int (kO ["java/lang/IllegalArgumentException"] z.1)), (4, .int (nI i)), (3, .ref aO), (2, .ref (aM 0)), (1, .ref aX), (0, .ref b)]) C dL_law_163 (by decide) rfl rfl ?_
  refine n_aload_n C dL_law_165 3 rfl rfl ?_
  refine n_aload_n C dL_law_166 5 rfl rfl ?_
  refine n_iload C dL_law_167 1 rfl rfl ?_
  refine n_iconst (v := nI 1) C dL_law_169 (by decide) rfl ?_
  refine n_iadd C dL_law_170 rfl ?_
  refine n_sld C hX hbl hbA dL_law_171 (lw_vin (by omega) hlen) rfl ?_
  refine n_callV (As := [.int (xs (nI i + nI 1).toNatClampNeg)]) (rest := []) (w2 := lwW cyI cyO cyJ aM aO aX aS aG aL aU aV aB aH w.2 (uO oO z.1) S G z.2.1 U V B z.2.2) C dL_law_172 (c6_begin l D cyI cyO cyJ aM 3000 M (xs (nI i + nI 1).toNatClampNeg) w hw) (cwV 1 C.ts gT_X6_begin rfl rfl rfl (by decide +kernel) ⟨(Nat.le_of_ble_eq_true rfl), (Nat.le_of_ble_eq_true rfl)⟩) rfl (q0 := 0) (ci := 6) rfl rfl Frm.here rfl (Nat.le_of_ble_eq_true rfl) hcs rfl ?_
  refine n_istore (lv' := [(6, .int w.1), (5, .int (kO ["java/lang/IllegalArgumentException"] z.1)), (4, .int (nI i)), (3, .ref aO), (2, .ref (aM 0)), (1, .ref aX), (0, .ref b)]) C dL_law_175 (by decide) rfl rfl ?_
  refine n_aload_n C dL_law_177 4 rfl rfl ?_
  refine n_callV (As := []) (rest := []) (w2 := lwW cyI cyO cyJ aM aO aX aS aG aL aU aV aB aH w.2 (uO oO z.1) S G z.2.1 U V B z.2.2) C dL_law_178 (c6_thrown l D cyI cyO cyJ aM 3000 w.2 (w.2.1 6) rfl) (cwV 0 C.ts gT_X6_thrown rfl rfl rfl (by decide +kernel) ⟨(Nat.le_of_ble_eq_true rfl), (Nat.le_of_ble_eq_true rfl)⟩) rfl (q0 := 0) (ci := 6) rfl rfl Frm.here rfl (Nat.le_of_ble_eq_true rfl) hcs rfl ?_
  refine n_iload C dL_law_181 1 rfl rfl ?_
  refine n_icmp_eq (t := 188) C dL_law_183 (by decide) rfl (fun _ => ?_) (fun h => absurd hA.2.1 h)
  refine n_iload C dL_law_188 1 rfl rfl ?_
  refine n_if_ne (t := 205) C dL_law_190 (by decide) rfl (fun _ => ?_) (fun h0 => ?_)
  · refine n_goto (t := 1478) C dL_law_205 (by decide) ?_
    exact Wn.sub [2, 3, 4, 5, 6] rfl (next w.2 (uO oO z.1) S G z.2.1 U V B z.2.2 _ _ hL (by omega) (by omega))
  · refine n_aload_n C dL_law_193 3 rfl rfl ?_
    refine n_iconst (v := nI 0) C dL_law_194 (by decide) rfl ?_
    refine n_lald (f := uO oO z.1) C dL_law_195 6 2 rfl rfl (ck_in (by decide)) rfl ?_
    rw [ag_out hA (by decide) h0]
    refine n_iload C dL_law_196 0 rfl rfl ?_
    refine n_i2l C dL_law_198 rfl ?_
    refine n_lcmp C dL_law_199 rfl ?_
    rw [lg_same]
    refine n_if_eq (t := 205) C dL_law_200 (by decide) rfl (fun _ => ?_) (fun h => absurd rfl h)
    refine n_goto (t := 1478) C dL_law_205 (by decide) ?_
    exact Wn.sub [2, 3, 4, 5, 6] rfl (next w.2 (uO oO z.1) S G z.2.1 U V B z.2.2 _ _ hL (by omega) (by omega))

set_option maxHeartbeats 1000000 in
set_option maxRecDepth 20000 in
theorem tL_close (C : Cx p s m #[Value.ref b] meth c D (tyG cyI cyO cyJ) A RL cL_law 9 (some .boolean) lw_tbl) (CE : ENVL A s) (hls : l.stackTraces = false) (hX : va_X b len xs s s.heap) (hbl : b < s.heap.size) (hbA : ¬ A b) (hlen : len ≤ 2048) (hi : i + 4 ≤ len) (hcs : cells + 1 ≤ room_1.cells ∧ slots + 6 ≤ room_1.slots) (AA : AL Lg B X M)
    (next : ∀ (M' : OB) (oO' : Nat → Int64) (S' G' L' U' V' B' : OB) (X' : HS) (c' s' : Nat), AL L' B' X' M' → c' ≤ cells + 1 → s' ≤ slots + 6 → Wn p l e room_1 s m #[Value.ref b] below meth c D A 9 c' s' Q (lwW cyI cyO cyJ aM aO aX aS aG aL aU aV aB aH (M') (oO') (S') (G') (L') (U') (V') (B') (X')) 1478 [(4, .int (nI i)), (3, .ref aO), (2, .ref (aM 0)), (1, .ref aX), (0, .ref b)] []) : Wn p l e room_1 s m #[Value.ref b] below meth c D A 9 cells slots Q (lwW cyI cyO cyJ aM aO aX aS aG aL aU aV aB aH M oO S G Lg U V B X) 208 [(4, .int (nI i)), (3, .ref aO), (2, .ref (aM 0)), (1, .ref aX), (0, .ref b)] [] := by
  obtain ⟨z, w, hz, hw, hA, hL⟩ := call_close (S := S) (G := G) (U := U) (V := V) (x := (xs (nI i + nI 1).toNatClampNeg)) (y := (xs (nI i + nI 2).toNatClampNeg)) AA
  refine n_aload_n C dL_law_208 3 rfl rfl ?_
  refine n_aload_n C dL_law_209 4 rfl rfl ?_
  refine n_iload C dL_law_210 0 rfl rfl ?_
  refine n_iconst (v := nI 1) C dL_law_212 (by decide) rfl ?_
  refine n_iadd C dL_law_213 rfl ?_
  refine n_sld C hX hbl hbA dL_law_214 (lw_vin (by omega) hlen) rfl ?_
  refine n_aload_n C dL_law_215 4 rfl rfl ?_
  refine n_iload C dL_law_216 0 rfl rfl ?_
  refine n_iconst (v := nI 2) C dL_law_218 (by decide) rfl ?_
  refine n_iadd C dL_law_219 rfl ?_
  refine n_sld C hX hbl hbA dL_law_220 (lw_vin (by omega) hlen) rfl ?_
  refine n_aload_n C dL_law_221 1 rfl rfl ?_
  refine n_callSW (As := [.ref aX, .int (xs (nI i + nI 1).toNatClampNeg), .int (xs (nI i + nI 2).toNatClampNeg), .ref aO]) (rest := []) (w2 := lwW cyI cyO cyJ aM aO aX aS aG aL aU aV aB aH M (uO oO z.1) S G z.2.1 U V B z.2.2) C CE dL_law_222 (kL_close l hls D cyI cyO cyJ aO aX aS aG aL aU aV aB aH 3000 oO S G Lg U V B X (xs (nI i + nI 1).toNatClampNeg) (xs (nI i + nI 2).toNatClampNeg) z hz hA.1) (vx_cwSW 4 C.ts gT_L_close rfl rfl rfl (by decide +kernel) ⟨(Nat.le_of_ble_eq_true rfl), (Nat.le_of_ble_eq_true rfl)⟩) rfl (Frm.skip Frm.self) rfl (Nat.le_of_ble_eq_true rfl) hcs rfl ?_
  refine n_istore (lv' := [(5, .int (kO ["java/lang/IndexOutOfBoundsException", "java/lang/IllegalArgumentException"] z.1)), (4, .int (nI i)), (3, .ref aO), (2, .ref (aM 0)), (1, .ref aX), (0, .ref b)]) C dL_law_225 (by decide) rfl rfl ?_
  refine n_aload_n C dL_law_227 3 rfl rfl ?_
  refine n_aload_n C dL_law_228 5 rfl rfl ?_
  refine n_iload C dL_law_229 1 rfl rfl ?_
  refine n_iconst (v := nI 1) C dL_law_231 (by decide) rfl ?_
  refine n_iadd C dL_law_232 rfl ?_
  refine n_sld C hX hbl hbA dL_law_233 (lw_vin (by omega) hlen) rfl ?_
  refine n_aload_n C dL_law_234 5 rfl rfl ?_
  refine n_iload C dL_law_235 1 rfl rfl ?_
  refine n_iconst (v := nI 2) C dL_law_237 (by decide) rfl ?_
  refine n_iadd C dL_law_238 rfl ?_
  refine n_sld C hX hbl hbA dL_law_239 (lw_vin (by omega) hlen) rfl ?_
  refine n_callV (As := [.int (xs (nI i + nI 1).toNatClampNeg), .int (xs (nI i + nI 2).toNatClampNeg)]) (rest := []) (w2 := lwW cyI cyO cyJ aM aO aX aS aG aL aU aV aB aH w.2 (uO oO z.1) S G z.2.1 U V B z.2.2) C dL_law_240 (c6_close l D cyI cyO cyJ aM 3000 M (xs (nI i + nI 1).toNatClampNeg) (xs (nI i + nI 2).toNatClampNeg) w hw) (cwV 2 C.ts gT_X6_close rfl rfl rfl (by decide +kernel) ⟨(Nat.le_of_ble_eq_true rfl), (Nat.le_of_ble_eq_true rfl)⟩) rfl (q0 := 0) (ci := 6) rfl rfl Frm.here rfl (Nat.le_of_ble_eq_true rfl) hcs rfl ?_
  refine n_istore (lv' := [(6, .int w.1), (5, .int (kO ["java/lang/IndexOutOfBoundsException", "java/lang/IllegalArgumentException"] z.1)), (4, .int (nI i)), (3, .ref aO), (2, .ref (aM 0)), (1, .ref aX), (0, .ref b)]) C dL_law_243 (by decide) rfl rfl ?_
  refine n_aload_n C dL_law_245 4 rfl rfl ?_
  refine n_callV (As := []) (rest := []) (w2 := lwW cyI cyO cyJ aM aO aX aS aG aL aU aV aB aH w.2 (uO oO z.1) S G z.2.1 U V B z.2.2) C dL_law_246 (c6_thrown l D cyI cyO cyJ aM 3000 w.2 (w.2.1 6) rfl) (cwV 0 C.ts gT_X6_thrown rfl rfl rfl (by decide +kernel) ⟨(Nat.le_of_ble_eq_true rfl), (Nat.le_of_ble_eq_true rfl)⟩) rfl (q0 := 0) (ci := 6) rfl rfl Frm.here rfl (Nat.le_of_ble_eq_true rfl) hcs rfl ?_
  refine n_iload C dL_law_249 1 rfl rfl ?_
  refine n_icmp_eq (t := 256) C dL_law_251 (by decide) rfl (fun _ => ?_) (fun h => absurd hA.2.1 h)
  refine n_iload C dL_law_256 1 rfl rfl ?_
  refine n_if_ne (t := 273) C dL_law_258 (by decide) rfl (fun _ => ?_) (fun h0 => ?_)
  · refine n_goto (t := 1478) C dL_law_273 (by decide) ?_
    exact Wn.sub [2, 3, 4, 5, 6] rfl (next w.2 (uO oO z.1) S G z.2.1 U V B z.2.2 _ _ hL (by omega) (by omega))
  · refine n_aload_n C dL_law_261 3 rfl rfl ?_
    refine n_iconst (v := nI 0) C dL_law_262 (by decide) rfl ?_
    refine n_lald (f := uO oO z.1) C dL_law_263 6 2 rfl rfl (ck_in (by decide)) rfl ?_
    rw [ag_out hA (by decide) h0]
    refine n_iload C dL_law_264 0 rfl rfl ?_
    refine n_i2l C dL_law_266 rfl ?_
    refine n_lcmp C dL_law_267 rfl ?_
    rw [lg_same]
    refine n_if_eq (t := 273) C dL_law_268 (by decide) rfl (fun _ => ?_) (fun h => absurd rfl h)
    refine n_goto (t := 1478) C dL_law_273 (by decide) ?_
    exact Wn.sub [2, 3, 4, 5, 6] rfl (next w.2 (uO oO z.1) S G z.2.1 U V B z.2.2 _ _ hL (by omega) (by omega))

set_option maxHeartbeats 1000000 in
set_option maxRecDepth 20000 in
theorem tL_away (C : Cx p s m #[Value.ref b] meth c D (tyG cyI cyO cyJ) A RL cL_law 9 (some .boolean) lw_tbl) (CE : ENVL A s) (hls : l.stackTraces = false) (hX : va_X b len xs s s.heap) (hbl : b < s.heap.size) (hbA : ¬ A b) (hlen : len ≤ 2048) (hi : i + 4 ≤ len) (hcs : cells + 1 ≤ room_1.cells ∧ slots + 6 ≤ room_1.slots) (AA : AL Lg B X M)
    (next : ∀ (M' : OB) (oO' : Nat → Int64) (S' G' L' U' V' B' : OB) (X' : HS) (c' s' : Nat), AL L' B' X' M' → c' ≤ cells + 1 → s' ≤ slots + 6 → Wn p l e room_1 s m #[Value.ref b] below meth c D A 9 c' s' Q (lwW cyI cyO cyJ aM aO aX aS aG aL aU aV aB aH (M') (oO') (S') (G') (L') (U') (V') (B') (X')) 1478 [(4, .int (nI i)), (3, .ref aO), (2, .ref (aM 0)), (1, .ref aX), (0, .ref b)] []) : Wn p l e room_1 s m #[Value.ref b] below meth c D A 9 cells slots Q (lwW cyI cyO cyJ aM aO aX aS aG aL aU aV aB aH M oO S G Lg U V B X) 276 [(4, .int (nI i)), (3, .ref aO), (2, .ref (aM 0)), (1, .ref aX), (0, .ref b)] [] := by
  obtain ⟨z, w, hz, hw, hA, hL⟩ := call_away (S := S) (G := G) (U := U) (V := V) (x := (xs (nI i + nI 1).toNatClampNeg)) (y := (xs (nI i + nI 2).toNatClampNeg)) AA
  refine n_aload_n C dL_law_276 3 rfl rfl ?_
  refine n_aload_n C dL_law_277 4 rfl rfl ?_
  refine n_iload C dL_law_278 0 rfl rfl ?_
  refine n_iconst (v := nI 1) C dL_law_280 (by decide) rfl ?_
  refine n_iadd C dL_law_281 rfl ?_
  refine n_sld C hX hbl hbA dL_law_282 (lw_vin (by omega) hlen) rfl ?_
  refine n_aload_n C dL_law_283 4 rfl rfl ?_
  refine n_iload C dL_law_284 0 rfl rfl ?_
  refine n_iconst (v := nI 2) C dL_law_286 (by decide) rfl ?_
  refine n_iadd C dL_law_287 rfl ?_
  refine n_sld C hX hbl hbA dL_law_288 (lw_vin (by omega) hlen) rfl ?_
  refine n_aload_n C dL_law_289 1 rfl rfl ?_
  refine n_callSW (As := [.ref aX, .int (xs (nI i + nI 1).toNatClampNeg), .int (xs (nI i + nI 2).toNatClampNeg), .ref aO]) (rest := []) (w2 := lwW cyI cyO cyJ aM aO aX aS aG aL aU aV aB aH M (uO oO z.1) S G z.2.1 U V B z.2.2) C CE dL_law_290 (kL_away l hls D cyI cyO cyJ aO aX aS aG aL aU aV aB aH 3000 oO S G Lg U V B X (xs (nI i + nI 1).toNatClampNeg) (xs (nI i + nI 2).toNatClampNeg) z hz hA.1) (vx_cwSW 4 C.ts gT_L_away rfl rfl rfl (by decide +kernel) ⟨(Nat.le_of_ble_eq_true rfl), (Nat.le_of_ble_eq_true rfl)⟩) rfl (Frm.skip Frm.self) rfl (Nat.le_of_ble_eq_true rfl) hcs rfl ?_
  refine n_istore (lv' := [(5, .int (kO ["java/lang/IndexOutOfBoundsException", "java/lang/IllegalArgumentException"] z.1)), (4, .int (nI i)), (3, .ref aO), (2, .ref (aM 0)), (1, .ref aX), (0, .ref b)]) C dL_law_293 (by decide) rfl rfl ?_
  refine n_aload_n C dL_law_295 3 rfl rfl ?_
  refine n_aload_n C dL_law_296 5 rfl rfl ?_
  refine n_iload C dL_law_297 1 rfl rfl ?_
  refine n_iconst (v := nI 1) C dL_law_299 (by decide) rfl ?_
  refine n_iadd C dL_law_300 rfl ?_
  refine n_sld C hX hbl hbA dL_law_301 (lw_vin (by omega) hlen) rfl ?_
  refine n_aload_n C dL_law_302 5 rfl rfl ?_
  refine n_iload C dL_law_303 1 rfl rfl ?_
  refine n_iconst (v := nI 2) C dL_law_305 (by decide) rfl ?_
  refine n_iadd C dL_law_306 rfl ?_
  refine n_sld C hX hbl hbA dL_law_307 (lw_vin (by omega) hlen) rfl ?_
  refine n_callV (As := [.int (xs (nI i + nI 1).toNatClampNeg), .int (xs (nI i + nI 2).toNatClampNeg)]) (rest := []) (w2 := lwW cyI cyO cyJ aM aO aX aS aG aL aU aV aB aH w.2 (uO oO z.1) S G z.2.1 U V B z.2.2) C dL_law_308 (c6_away l D cyI cyO cyJ aM 3000 M (xs (nI i + nI 1).toNatClampNeg) (xs (nI i + nI 2).toNatClampNeg) w hw) (cwV 2 C.ts gT_X6_away rfl rfl rfl (by decide +kernel) ⟨(Nat.le_of_ble_eq_true rfl), (Nat.le_of_ble_eq_true rfl)⟩) rfl (q0 := 0) (ci := 6) rfl rfl Frm.here rfl (Nat.le_of_ble_eq_true rfl) hcs rfl ?_
  refine n_istore (lv' := [(6, .int w.1), (5, .int (kO ["java/lang/IndexOutOfBoundsException", "java/lang/IllegalArgumentException"] z.1)), (4, .int (nI i)), (3, .ref aO), (2, .ref (aM 0)), (1, .ref aX), (0, .ref b)]) C dL_law_311 (by decide) rfl rfl ?_
  refine n_aload_n C dL_law_313 4 rfl rfl ?_
  refine n_callV (As := []) (rest := []) (w2 := lwW cyI cyO cyJ aM aO aX aS aG aL aU aV aB aH w.2 (uO oO z.1) S G z.2.1 U V B z.2.2) C dL_law_314 (c6_thrown l D cyI cyO cyJ aM 3000 w.2 (w.2.1 6) rfl) (cwV 0 C.ts gT_X6_thrown rfl rfl rfl (by decide +kernel) ⟨(Nat.le_of_ble_eq_true rfl), (Nat.le_of_ble_eq_true rfl)⟩) rfl (q0 := 0) (ci := 6) rfl rfl Frm.here rfl (Nat.le_of_ble_eq_true rfl) hcs rfl ?_
  refine n_iload C dL_law_317 1 rfl rfl ?_
  refine n_icmp_eq (t := 324) C dL_law_319 (by decide) rfl (fun _ => ?_) (fun h => absurd hA.2.1 h)
  refine n_iload C dL_law_324 1 rfl rfl ?_
  refine n_if_ne (t := 341) C dL_law_326 (by decide) rfl (fun _ => ?_) (fun h0 => ?_)
  · refine n_goto (t := 1478) C dL_law_341 (by decide) ?_
    exact Wn.sub [2, 3, 4, 5, 6] rfl (next w.2 (uO oO z.1) S G z.2.1 U V B z.2.2 _ _ hL (by omega) (by omega))
  · refine n_aload_n C dL_law_329 3 rfl rfl ?_
    refine n_iconst (v := nI 0) C dL_law_330 (by decide) rfl ?_
    refine n_lald (f := uO oO z.1) C dL_law_331 6 2 rfl rfl (ck_in (by decide)) rfl ?_
    rw [ag_out hA (by decide) h0]
    refine n_iload C dL_law_332 0 rfl rfl ?_
    refine n_i2l C dL_law_334 rfl ?_
    refine n_lcmp C dL_law_335 rfl ?_
    rw [lg_same]
    refine n_if_eq (t := 341) C dL_law_336 (by decide) rfl (fun _ => ?_) (fun h => absurd rfl h)
    refine n_goto (t := 1478) C dL_law_341 (by decide) ?_
    exact Wn.sub [2, 3, 4, 5, 6] rfl (next w.2 (uO oO z.1) S G z.2.1 U V B z.2.2 _ _ hL (by omega) (by omega))

set_option maxHeartbeats 1000000 in
set_option maxRecDepth 20000 in
theorem tL_stage (C : Cx p s m #[Value.ref b] meth c D (tyG cyI cyO cyJ) A RL cL_law 9 (some .boolean) lw_tbl) (CE : ENVL A s) (hls : l.stackTraces = false) (hX : va_X b len xs s s.heap) (hbl : b < s.heap.size) (hbA : ¬ A b) (hlen : len ≤ 2048) (hi : i + 4 ≤ len) (hcs : cells + 1 ≤ room_1.cells ∧ slots + 6 ≤ room_1.slots) (AA : AL Lg B X M)
    (next : ∀ (M' : OB) (oO' : Nat → Int64) (S' G' L' U' V' B' : OB) (X' : HS) (c' s' : Nat), AL L' B' X' M' → c' ≤ cells + 1 → s' ≤ slots + 6 → Wn p l e room_1 s m #[Value.ref b] below meth c D A 9 c' s' Q (lwW cyI cyO cyJ aM aO aX aS aG aL aU aV aB aH (M') (oO') (S') (G') (L') (U') (V') (B') (X')) 1478 [(4, .int (nI i)), (3, .ref aO), (2, .ref (aM 0)), (1, .ref aX), (0, .ref b)] []) : Wn p l e room_1 s m #[Value.ref b] below meth c D A 9 cells slots Q (lwW cyI cyO cyJ aM aO aX aS aG aL aU aV aB aH M oO S G Lg U V B X) 344 [(4, .int (nI i)), (3, .ref aO), (2, .ref (aM 0)), (1, .ref aX), (0, .ref b)] [] := by
  obtain ⟨z, w, hz, hw, hE, hL⟩ := call_stage (S := S) (G := G) (U := U) (V := V) AA
  refine n_aload_n C dL_law_344 3 rfl rfl ?_
  refine n_callV (As := []) (rest := []) (w2 := lwW cyI cyO cyJ aM aO aX aS aG aL aU aV aB aH M oO S z.2.1 z.2.2.1 U V B z.2.2.2) C dL_law_345 (c5_stage l D cyI cyO cyJ aX aS aG aL aU aV aB aH 3000 S G Lg U V B X z hz) (cwV 0 C.ts gT_X5_stage rfl rfl rfl (by decide +kernel) ⟨(Nat.le_of_ble_eq_true rfl), (Nat.le_of_ble_eq_true rfl)⟩) rfl (q0 := 0) (ci := 5) rfl rfl (Frm.skip (Frm.skip Frm.self)) rfl (Nat.le_of_ble_eq_true rfl) ⟨Nat.le_of_succ_le hcs.1, Nat.le_trans (Nat.le_add_right _ 6) hcs.2⟩ rfl ?_
  refine n_aload_n C dL_law_348 2 rfl rfl ?_
  refine n_callV (As := []) (rest := [.int z.1]) (w2 := lwW cyI cyO cyJ aM aO aX aS aG aL aU aV aB aH w.2 oO S z.2.1 z.2.2.1 U V B z.2.2.2) C dL_law_349 (c6_stage l D cyI cyO cyJ aM 3000 M w hw) (cwV 0 C.ts gT_X6_stage rfl rfl rfl (by decide +kernel) ⟨(Nat.le_of_ble_eq_true rfl), (Nat.le_of_ble_eq_true rfl)⟩) rfl (q0 := 0) (ci := 6) rfl rfl Frm.here rfl (Nat.le_of_ble_eq_true rfl) ⟨Nat.le_of_succ_le hcs.1, Nat.le_trans (Nat.le_add_right _ 6) hcs.2⟩ rfl ?_
  refine n_icmp_eq (t := 1478) C dL_law_352 (by decide) rfl (fun _ => ?_) (fun h => absurd hE h)
  exact Wn.sub [0, 1, 2, 3, 4] rfl (next w.2 oO S z.2.1 z.2.2.1 U V B z.2.2.2 _ _ hL (by omega) (by omega))
end LAWC
