/-! THE LAW: a turn, and its last look -/
-- L law 42
def fL_law_t_b286 (n : Nat) (len : Nat) (xs : Nat → Int32) (oB : OB) (x3 : Int32) (x4 : Int32) (k306 : Int32 → OB → OB → OB → OB → OB → HS → Option (Int32 × (OB) × (OB) × (OB) × (OB) × (OB) × (HS))) (oS : OB) (oG : OB) (oL : OB) (oU : OB) (oV : OB) (oH : HS) : Option (Int32 × (OB) × (OB) × (OB) × (OB) × (OB) × (HS)) :=
  (fL_matches n oS oG oL oU oV oB oH).bind fun z287 => (if z287.1 = (0 : Int32) then k306 (nI 0) z287.2 oG oL oU oV oH else (fL_teams n z287.2 oG oL oU oV oB oH).bind fun z294 => (if z294.1 = (0 : Int32) then k306 (nI 0) z294.2.1 oG oL z294.2.2.1 z294.2.2.2 oH else k306 (nI 1) z294.2.1 oG oL z294.2.2.1 z294.2.2.2 oH))
def fL_law_t_b266 (n : Nat) (len : Nat) (xs : Nat → Int32) (oB : OB) (x3 : Int32) (x4 : Int32) (k306 : Int32 → OB → OB → OB → OB → OB → HS → Option (Int32 × (OB) × (OB) × (OB) × (OB) × (OB) × (HS))) (v6 : Int32) (v9 : Int32) (v12 : Int32) (oS : OB) (oG : OB) (oL : OB) (oU : OB) (oV : OB) (oH : HS) : Option (Int32 × (OB) × (OB) × (OB) × (OB) × (OB) × (HS)) :=
  (if v9 = (nI 11) then (f5n_count n oS oG oL oU oV oB oH (nI 4)).bind fun z275 => (if z275.1 = (v6 - v12) then fL_law_t_b286 n len xs oB x3 x4 k306 z275.2 oG oL oU oV oH else k306 (nI 0) z275.2 oG oL oU oV oH) else fL_law_t_b286 n len xs oB x3 x4 k306 oS oG oL oU oV oH)
def fL_law_t_b238 (n : Nat) (len : Nat) (xs : Nat → Int32) (oB : OB) (x3 : Int32) (x4 : Int32) (k306 : Int32 → OB → OB → OB → OB → OB → HS → Option (Int32 × (OB) × (OB) × (OB) × (OB) × (OB) × (HS))) (v6 : Int32) (v9 : Int32) (v11 : Int32) (v12 : Int32) (oS : OB) (oG : OB) (oL : OB) (oU : OB) (oV : OB) (oH : HS) : Option (Int32 × (OB) × (OB) × (OB) × (OB) × (OB) × (HS)) :=
  (if v9 < (nI 4) then fL_law_t_b266 n len xs oB x3 x4 k306 v6 v9 v12 oS oG oL oU oV oH else (if (nI 10) < v9 then fL_law_t_b266 n len xs oB x3 x4 k306 v6 v9 v12 oS oG oL oU oV oH else (if v12 < (0 : Int32) then (if v11 = (nI 0) then fL_law_t_b266 n len xs oB x3 x4 k306 v6 v9 v12 oS oG oL oU oV oH else k306 (nI 0) oS oG oL oU oV oH) else (if v11 = (nI 1) then fL_law_t_b266 n len xs oB x3 x4 k306 v6 v9 v12 oS oG oL oU oV oH else k306 (nI 0) oS oG oL oU oV oH))))
def fL_law_t_b187 (n : Nat) (len : Nat) (xs : Nat → Int32) (oB : OB) (x3 : Int32) (x4 : Int32) (k306 : Int32 → OB → OB → OB → OB → OB → HS → Option (Int32 × (OB) × (OB) × (OB) × (OB) × (OB) × (HS))) (v6 : Int32) (v7 : Int32) (v9 : Int32) (v11 : Int32) (v12 : Int32) (s0 : Int32) (oS : OB) (oG : OB) (oL : OB) (oU : OB) (oV : OB) (oH : HS) : Option (Int32 × (OB) × (OB) × (OB) × (OB) × (OB) × (HS)) :=
  (if s0 = (0 : Int32) then k306 (nI 0) oS oG oL oU oV oH else (if v9 < (nI 1) then fL_law_t_b238 n len xs oB x3 x4 k306 v6 v9 v11 v12 oS oG oL oU oV oH else (if (nI 3) < v9 then fL_law_t_b238 n len xs oB x3 x4 k306 v6 v9 v11 v12 oS oG oL oU oV oH else (f5n_count n oS oG oL oU oV oB oH (nI 3)).bind fun z208 => (if v12 = (z208.1 - v6) then (f5n_count n z208.2 oG oL oU oV oB oH (nI 4)).bind fun z219 => (if z219.1 = v6 then (f5n_count n z219.2 oG oL oU oV oB oH (nI 6)).bind fun z230 => (if z230.1 = v7 then fL_law_t_b238 n len xs oB x3 x4 k306 v6 v9 v11 v12 z230.2 oG oL oU oV oH else k306 (nI 0) z230.2 oG oL oU oV oH) else k306 (nI 0) z219.2 oG oL oU oV oH) else k306 (nI 0) z208.2 oG oL oU oV oH))))
def fL_law_t_b122 (n : Nat) (len : Nat) (xs : Nat → Int32) (oB : OB) (x3 : Int32) (x4 : Int32) (k306 : Int32 → OB → OB → OB → OB → OB → HS → Option (Int32 × (OB) × (OB) × (OB) × (OB) × (OB) × (HS))) (v5 : Int32) (v6 : Int32) (v7 : Int32) (v8 : Int32) (v9 : Int32) (s0 : Int32) (oS : OB) (oG : OB) (oL : OB) (oU : OB) (oV : OB) (oH : HS) : Option (Int32 × (OB) × (OB) × (OB) × (OB) × (OB) × (HS)) :=
  (fL_act n len xs oS oG oL oU oV oB oH ((nI 3) * x4)).bind fun z130 => (if (0 : Int32) ≤ z130.1 then fL_law_t_b187 n len xs oB x3 x4 k306 v6 v7 v9 s0 z130.1 (nI 1) z130.2.1 z130.2.2.1 z130.2.2.2.1 oU oV z130.2.2.2.2 else (f5n_count n z130.2.1 z130.2.2.1 z130.2.2.2.1 oU oV oB z130.2.2.2.2 (nI 9)).bind fun z143 => (if z143.1 = v5 then (f5n_count n z143.2 z130.2.2.1 z130.2.2.2.1 oU oV oB z130.2.2.2.2 (nI 4)).bind fun z153 => (if z153.1 = v6 then (f5n_count n z153.2 z130.2.2.1 z130.2.2.2.1 oU oV oB z130.2.2.2.2 (nI 6)).bind fun z164 => (if z164.1 = v7 then (f5n_count n z164.2 z130.2.2.1 z130.2.2.2.1 oU oV oB z130.2.2.2.2 (nI 3)).bind fun z174 => (if z174.1 = v8 then fL_law_t_b187 n len xs oB x3 x4 k306 v6 v7 v9 s0 z130.1 (nI 1) z174.2 z130.2.2.1 z130.2.2.2.1 oU oV z130.2.2.2.2 else fL_law_t_b187 n len xs oB x3 x4 k306 v6 v7 v9 s0 z130.1 (nI 0) z174.2 z130.2.2.1 z130.2.2.2.1 oU oV z130.2.2.2.2) else fL_law_t_b187 n len xs oB x3 x4 k306 v6 v7 v9 s0 z130.1 (nI 0) z164.2 z130.2.2.1 z130.2.2.2.1 oU oV z130.2.2.2.2) else fL_law_t_b187 n len xs oB x3 x4 k306 v6 v7 v9 s0 z130.1 (nI 0) z153.2 z130.2.2.1 z130.2.2.2.1 oU oV z130.2.2.2.2) else fL_law_t_b187 n len xs oB x3 x4 k306 v6 v7 v9 s0 z130.1 (nI 0) z143.2 z130.2.2.1 z130.2.2.2.1 oU oV z130.2.2.2.2))
def fL_law_t_b42 (n : Nat) (len : Nat) (xs : Nat → Int32) (oB : OB) (x3 : Int32) (x4 : Int32) (k306 : Int32 → OB → OB → OB → OB → OB → HS → Option (Int32 × (OB) × (OB) × (OB) × (OB) × (OB) × (HS))) (oS : OB) (oG : OB) (oL : OB) (oU : OB) (oV : OB) (oH : HS) : Option (Int32 × (OB) × (OB) × (OB) × (OB) × (OB) × (HS)) :=
  (f5n_count n oS oG oL oU oV oB oH (nI 9)).bind fun z45 => (f5n_count n z45.2 oG oL oU oV oB oH (nI 4)).bind fun z52 => (f5n_count n z52.2 oG oL oU oV oB oH (nI 6)).bind fun z60 => (f5n_count n z60.2 oG oL oU oV oB oH (nI 3)).bind fun z67 => (fL_cell len xs ((nI 3) * x4)).bind fun x77 => (fL_low n x77 (nI 18)).bind fun z82 => (fL_cell len xs (((nI 3) * x4) + (nI 1))).bind fun x94 => (f5n_count n z67.2 oG oL oU oV oB oH (nI 2)).bind fun z99 => (fL_low n x94 z99.1).bind fun z102 => (f5n_match n z99.2 oG oL oU oV oB oH z102 (nI 3)).bind fun z111 => (if z111 < (0 : Int32) then fL_law_t_b122 n len xs oB x3 x4 k306 z45.1 z52.1 z60.1 z67.1 z82 (nI 0) z99.2 oG oL oU oV oH else fL_law_t_b122 n len xs oB x3 x4 k306 z45.1 z52.1 z60.1 z67.1 z82 (nI 1) z99.2 oG oL oU oV oH)
set_option maxHeartbeats 4000000 in
set_option maxRecDepth 100000 in
theorem tL_law_t_b286 {l : Launch} {p : Program} {e : Env} {s : State} {m : MethodId} {below : List Frame} {meth : Method} {c : Code} {D : va_G} {A : Nat → Prop} {cyI cyO cyJ : ClassId} {b len cells slots : Nat} {xs : Nat → Int32} {Q : State → Prop} {aX : Nat} {aS : Nat → Nat} {aG : Nat → Nat} {aL : Nat → Nat} {aU : Nat → Nat} {aV : Nat → Nat} {aB : Nat → Nat} {aH : Nat → Nat} (C : Cx p s m #[Value.ref b] meth c D (tyG cyI cyO cyJ) A RL cL_law 13 (some .boolean) lw_tbl) (CE : ENVL A s) (hls : l.stackTraces = false) (hX : va_X b len xs s s.heap) (hbl : b < s.heap.size) (hbA : ¬ A b) (hcs : cells + 1 ≤ room_1.cells ∧ slots + 6 ≤ room_1.slots) {z : Int32 × (OB) × (OB) × (OB) × (OB) × (OB) × (HS)} (n : Nat) (oB : OB) (x3 : Int32) (x4 : Int32) {k306 : Int32 → OB → OB → OB → OB → OB → HS → Option (Int32 × (OB) × (OB) × (OB) × (OB) × (OB) × (HS))} (hk306 : ∀ (v2 : Int32) (oS : OB) (oG : OB) (oL : OB) (oU : OB) (oV : OB) (oH : HS), k306 v2 oS oG oL oU oV oH = some z → Wn p l e room_1 s m #[Value.ref b] below meth c D A 13 (cells + 1) (slots + 6) Q ([(aX, .inr (5, [.ref (aL 0), .ref (aS 0), .ref (aG 0), .ref (aH 0), .ref (aB 0), .ref (aV 0), .ref (aU 0)]))] ++ (bX4 cyI aS oS ++ (bX3 cyI aG oG ++ (bX1 cyI aL oL ++ (bX4 cyI aU oU ++ (bX1 cyI aV oV ++ (bX2 cyI aB oB ++ bHS cyI cyO aH oH))))))) 306 [(0, .ref b), (1, .ref aX), (2, .int v2), (3, .int x3), (4, .int x4)] []) (oS : OB) (oG : OB) (oL : OB) (oU : OB) (oV : OB) (oH : HS) (hf : fL_law_t_b286 n len xs oB x3 x4 k306 oS oG oL oU oV oH = some z) : Wn p l e room_1 s m #[Value.ref b] below meth c D A 13 (cells + 1) (slots + 6) Q ([(aX, .inr (5, [.ref (aL 0), .ref (aS 0), .ref (aG 0), .ref (aH 0), .ref (aB 0), .ref (aV 0), .ref (aU 0)]))] ++ (bX4 cyI aS oS ++ (bX3 cyI aG oG ++ (bX1 cyI aL oL ++ (bX4 cyI aU oU ++ (bX1 cyI aV oV ++ (bX2 cyI aB oB ++ bHS cyI cyO aH oH))))))) 286 [(0, .ref b), (1, .ref aX), (3, .int x3), (4, .int x4)] [] := by
  unfold fL_law_t_b286 at hf
  refine n_aload_n C dL_law_286 1 rfl rfl ?_
  obtain ⟨z287, h287, hf⟩ := bi hf
  refine n_callS (As := [.ref aX]) (rest := []) (w2 := [(aX, .inr (5, [.ref (aL 0), .ref (aS 0), .ref (aG 0), .ref (aH 0), .ref (aB 0), .ref (aV 0), .ref (aU 0)]))] ++ (bX4 cyI aS z287.2 ++ (bX3 cyI aG oG ++ (bX1 cyI aL oL ++ (bX4 cyI aU oU ++ (bX1 cyI aV oV ++ (bX2 cyI aB oB ++ bHS cyI cyO aH oH))))))) C dL_law_287 (kL_matches l D cyI cyO cyJ aX aS aG aL aU aV aB aH n oS oG oL oU oV oB oH z287 h287) (va_cwS 1 C.ts gT_L_matches rfl rfl rfl (by decide +kernel) ⟨Nat.le_of_ble_eq_true rfl, Nat.le_of_ble_eq_true rfl⟩) rfl Frm.self rfl (Nat.le_of_ble_eq_true rfl) hcs rfl ?_
  refine n_if_eq (t := 304) C dL_law_290 (by decide) rfl (fun h290 => ?_) (fun h290 => ?_)
  · have hf := ip h290 hf
    refine n_iconst (v := (nI 0)) C dL_law_304 (by decide) rfl ?_
    refine n_istore_n (lv' := [(2, .int (nI 0)), (0, .ref b), (1, .ref aX), (3, .int x3), (4, .int x4)]) C dL_law_305 (by decide) rfl rfl ?_
    exact Wn.sub (lv' := [(0, .ref b), (1, .ref aX), (2, .int (nI 0)), (3, .int x3), (4, .int x4)]) [1, 2, 0, 3, 4] rfl (hk306 (nI 0) z287.2 oG oL oU oV oH hf)
  · have hf := iq h290 hf
    refine n_aload_n C dL_law_293 1 rfl rfl ?_
    obtain ⟨z294, h294, hf⟩ := bi hf
    refine n_callS (As := [.ref aX]) (rest := []) (w2 := [(aX, .inr (5, [.ref (aL 0), .ref (aS 0), .ref (aG 0), .ref (aH 0), .ref (aB 0), .ref (aV 0), .ref (aU 0)]))] ++ (bX4 cyI aS z294.2.1 ++ (bX3 cyI aG oG ++ (bX1 cyI aL oL ++ (bX4 cyI aU z294.2.2.1 ++ (bX1 cyI aV z294.2.2.2 ++ (bX2 cyI aB oB ++ bHS cyI cyO aH oH))))))) C dL_law_294 (kL_teams l D cyI cyO cyJ aX aS aG aL aU aV aB aH n z287.2 oG oL oU oV oB oH z294 h294) (va_cwS 1 C.ts gT_L_teams rfl rfl rfl (by decide +kernel) ⟨Nat.le_of_ble_eq_true rfl, Nat.le_of_ble_eq_true rfl⟩) rfl Frm.self rfl (Nat.le_of_ble_eq_true rfl) hcs rfl ?_
    refine n_if_eq (t := 304) C dL_law_297 (by decide) rfl (fun h297 => ?_) (fun h297 => ?_)
    · have hf := ip h297 hf
      refine n_iconst (v := (nI 0)) C dL_law_304 (by decide) rfl ?_
      refine n_istore_n (lv' := [(2, .int (nI 0)), (0, .ref b), (1, .ref aX), (3, .int x3), (4, .int x4)]) C dL_law_305 (by decide) rfl rfl ?_
      exact Wn.sub (lv' := [(0, .ref b), (1, .ref aX), (2, .int (nI 0)), (3, .int x3), (4, .int x4)]) [1, 2, 0, 3, 4] rfl (hk306 (nI 0) z294.2.1 oG oL z294.2.2.1 z294.2.2.2 oH hf)
    · have hf := iq h297 hf
      refine n_iconst (v := (nI 1)) C dL_law_300 (by decide) rfl ?_
      refine n_goto (t := 305) C dL_law_301 (by decide) ?_
      refine n_istore_n (lv' := [(2, .int (nI 1)), (0, .ref b), (1, .ref aX), (3, .int x3), (4, .int x4)]) C dL_law_305 (by decide) rfl rfl ?_
      exact Wn.sub (lv' := [(0, .ref b), (1, .ref aX), (2, .int (nI 1)), (3, .int x3), (4, .int x4)]) [1, 2, 0, 3, 4] rfl (hk306 (nI 1) z294.2.1 oG oL z294.2.2.1 z294.2.2.2 oH hf)
set_option maxHeartbeats 4000000 in
set_option maxRecDepth 100000 in
theorem tL_law_t_b266 {l : Launch} {p : Program} {e : Env} {s : State} {m : MethodId} {below : List Frame} {meth : Method} {c : Code} {D : va_G} {A : Nat → Prop} {cyI cyO cyJ : ClassId} {b len cells slots : Nat} {xs : Nat → Int32} {Q : State → Prop} {aX : Nat} {aS : Nat → Nat} {aG : Nat → Nat} {aL : Nat → Nat} {aU : Nat → Nat} {aV : Nat → Nat} {aB : Nat → Nat} {aH : Nat → Nat} (C : Cx p s m #[Value.ref b] meth c D (tyG cyI cyO cyJ) A RL cL_law 13 (some .boolean) lw_tbl) (CE : ENVL A s) (hls : l.stackTraces = false) (hX : va_X b len xs s s.heap) (hbl : b < s.heap.size) (hbA : ¬ A b) (hcs : cells + 1 ≤ room_1.cells ∧ slots + 6 ≤ room_1.slots) {z : Int32 × (OB) × (OB) × (OB) × (OB) × (OB) × (HS)} (n : Nat) (oB : OB) (x3 : Int32) (x4 : Int32) {k306 : Int32 → OB → OB → OB → OB → OB → HS → Option (Int32 × (OB) × (OB) × (OB) × (OB) × (OB) × (HS))} (hk306 : ∀ (v2 : Int32) (oS : OB) (oG : OB) (oL : OB) (oU : OB) (oV : OB) (oH : HS), k306 v2 oS oG oL oU oV oH = some z → Wn p l e room_1 s m #[Value.ref b] below meth c D A 13 (cells + 1) (slots + 6) Q ([(aX, .inr (5, [.ref (aL 0), .ref (aS 0), .ref (aG 0), .ref (aH 0), .ref (aB 0), .ref (aV 0), .ref (aU 0)]))] ++ (bX4 cyI aS oS ++ (bX3 cyI aG oG ++ (bX1 cyI aL oL ++ (bX4 cyI aU oU ++ (bX1 cyI aV oV ++ (bX2 cyI aB oB ++ bHS cyI cyO aH oH))))))) 306 [(0, .ref b), (1, .ref aX), (2, .int v2), (3, .int x3), (4, .int x4)] []) (v6 : Int32) (v9 : Int32) (v12 : Int32) (oS : OB) (oG : OB) (oL : OB) (oU : OB) (oV : OB) (oH : HS) (hf : fL_law_t_b266 n len xs oB x3 x4 k306 v6 v9 v12 oS oG oL oU oV oH = some z) : Wn p l e room_1 s m #[Value.ref b] below meth c D A 13 (cells + 1) (slots + 6) Q ([(aX, .inr (5, [.ref (aL 0), .ref (aS 0), .ref (aG 0), .ref (aH 0), .ref (aB 0), .ref (aV 0), .ref (aU 0)]))] ++ (bX4 cyI aS oS ++ (bX3 cyI aG oG ++ (bX1 cyI aL oL ++ (bX4 cyI aU oU ++ (bX1 cyI aV oV ++ (bX2 cyI aB oB ++ bHS cyI cyO aH oH))))))) 266 [(0, .ref b), (1, .ref aX), (3, .int x3), (4, .int x4), (6, .int v6), (9, .int v9), (12, .int v12)] [] := by
  unfold fL_law_t_b266 at hf
  refine n_iload C dL_law_266 5 rfl rfl ?_
  refine n_bipush (v := (nI 11)) C dL_law_268 (by decide) rfl ?_
  refine n_icmp_ne (t := 286) C dL_law_270 (by decide) rfl (fun h270 => ?_) (fun h270 => ?_)
  · have hf := iq h270 hf
    exact Wn.sub (lv' := [(0, .ref b), (1, .ref aX), (3, .int x3), (4, .int x4)]) [0, 1, 2, 3] rfl (tL_law_t_b286 C CE hls hX hbl hbA hcs n oB x3 x4 hk306 oS oG oL oU oV oH hf)
  · have hf := ip h270 hf
    refine n_aload_n C dL_law_273 1 rfl rfl ?_
    refine n_iconst (v := (nI 4)) C dL_law_274 (by decide) rfl ?_
    obtain ⟨z275, h275, hf⟩ := bi hf
    refine n_callV (As := [.int (nI 4)]) (rest := []) (w2 := [(aX, .inr (5, [.ref (aL 0), .ref (aS 0), .ref (aG 0), .ref (aH 0), .ref (aB 0), .ref (aV 0), .ref (aU 0)]))] ++ (bX4 cyI aS z275.2 ++ (bX3 cyI aG oG ++ (bX1 cyI aL oL ++ (bX4 cyI aU oU ++ (bX1 cyI aV oV ++ (bX2 cyI aB oB ++ bHS cyI cyO aH oH))))))) C dL_law_275 (c5n_count l D cyI cyO cyJ aX aS aG aL aU aV aB aH n oS oG oL oU oV oB oH (nI 4) z275 h275) (cwV 1 C.ts gT_X5_count rfl rfl rfl (by decide +kernel) ⟨Nat.le_of_ble_eq_true rfl, Nat.le_of_ble_eq_true rfl⟩) rfl (q0 := 0) (ci := 5) rfl rfl Frm.self rfl (Nat.le_of_ble_eq_true rfl) hcs rfl ?_
    refine n_iload C dL_law_278 4 rfl rfl ?_
    refine n_iload C dL_law_280 6 rfl rfl ?_
    refine n_isub C dL_law_282 rfl ?_
    refine n_icmp_ne (t := 304) C dL_law_283 (by decide) rfl (fun h283 => ?_) (fun h283 => ?_)
    · have hf := iq h283 hf
      refine n_iconst (v := (nI 0)) C dL_law_304 (by decide) rfl ?_
      refine n_istore_n (lv' := [(2, .int (nI 0)), (0, .ref b), (1, .ref aX), (3, .int x3), (4, .int x4), (6, .int v6), (9, .int v9), (12, .int v12)]) C dL_law_305 (by decide) rfl rfl ?_
      exact Wn.sub (lv' := [(0, .ref b), (1, .ref aX), (2, .int (nI 0)), (3, .int x3), (4, .int x4)]) [1, 2, 0, 3, 4] rfl (hk306 (nI 0) z275.2 oG oL oU oV oH hf)
    · have hf := ip h283 hf
      exact Wn.sub (lv' := [(0, .ref b), (1, .ref aX), (3, .int x3), (4, .int x4)]) [0, 1, 2, 3] rfl (tL_law_t_b286 C CE hls hX hbl hbA hcs n oB x3 x4 hk306 z275.2 oG oL oU oV oH hf)
set_option maxHeartbeats 4000000 in
set_option maxRecDepth 100000 in
theorem tL_law_t_b238 {l : Launch} {p : Program} {e : Env} {s : State} {m : MethodId} {below : List Frame} {meth : Method} {c : Code} {D : va_G} {A : Nat → Prop} {cyI cyO cyJ : ClassId} {b len cells slots : Nat} {xs : Nat → Int32} {Q : State → Prop} {aX : Nat} {aS : Nat → Nat} {aG : Nat → Nat} {aL : Nat → Nat} {aU : Nat → Nat} {aV : Nat → Nat} {aB : Nat → Nat} {aH : Nat → Nat} (C : Cx p s m #[Value.ref b] meth c D (tyG cyI cyO cyJ) A RL cL_law 13 (some .boolean) lw_tbl) (CE : ENVL A s) (hls : l.stackTraces = false) (hX : va_X b len xs s s.heap) (hbl : b < s.heap.size) (hbA : ¬ A b) (hcs : cells + 1 ≤ room_1.cells ∧ slots + 6 ≤ room_1.slots) {z : Int32 × (OB) × (OB) × (OB) × (OB) × (OB) × (HS)} (n : Nat) (oB : OB) (x3 : Int32) (x4 : Int32) {k306 : Int32 → OB → OB → OB → OB → OB → HS → Option (Int32 × (OB) × (OB) × (OB) × (OB) × (OB) × (HS))} (hk306 : ∀ (v2 : Int32) (oS : OB) (oG : OB) (oL : OB) (oU : OB) (oV : OB) (oH : HS), k306 v2 oS oG oL oU oV oH = some z → Wn p l e room_1 s m #[Value.ref b] below meth c D A 13 (cells + 1) (slots + 6) Q ([(aX, .inr (5, [.ref (aL 0), .ref (aS 0), .ref (aG 0), .ref (aH 0), .ref (aB 0), .ref (aV 0), .ref (aU 0)]))] ++ (bX4 cyI aS oS ++ (bX3 cyI aG oG ++ (bX1 cyI aL oL ++ (bX4 cyI aU oU ++ (bX1 cyI aV oV ++ (bX2 cyI aB oB ++ bHS cyI cyO aH oH))))))) 306 [(0, .ref b), (1, .ref aX), (2, .int v2), (3, .int x3), (4, .int x4)] []) (v6 : Int32) (v9 : Int32) (v11 : Int32) (v12 : Int32) (oS : OB) (oG : OB) (oL : OB) (oU : OB) (oV : OB) (oH : HS) (hf : fL_law_t_b238 n len xs oB x3 x4 k306 v6 v9 v11 v12 oS oG oL oU oV oH = some z) : Wn p l e room_1 s m #[Value.ref b] below meth c D A 13 (cells + 1) (slots + 6) Q ([(aX, .inr (5, [.ref (aL 0), .ref (aS 0), .ref (aG 0), .ref (aH 0), .ref (aB 0), .ref (aV 0), .ref (aU 0)]))] ++ (bX4 cyI aS oS ++ (bX3 cyI aG oG ++ (bX1 cyI aL oL ++ (bX4 cyI aU oU ++ (bX1 cyI aV oV ++ (bX2 cyI aB oB ++ bHS cyI cyO aH oH))))))) 238 [(0, .ref b), (1, .ref aX), (3, .int x3), (4, .int x4), (6, .int v6), (9, .int v9), (11, .int v11), (12, .int v12)] [] := by
  unfold fL_law_t_b238 at hf
  refine n_iload C dL_law_238 5 rfl rfl ?_
  refine n_iconst (v := (nI 4)) C dL_law_240 (by decide) rfl ?_
  refine n_icmp_lt (t := 266) C dL_law_241 (by decide) rfl (fun h241 => ?_) (fun h241 => ?_)
  · have hf := ip h241 hf
    exact Wn.sub (lv' := [(0, .ref b), (1, .ref aX), (3, .int x3), (4, .int x4), (6, .int v6), (9, .int v9), (12, .int v12)]) [0, 1, 2, 3, 4, 5, 7] rfl (tL_law_t_b266 C CE hls hX hbl hbA hcs n oB x3 x4 hk306 v6 v9 v12 oS oG oL oU oV oH hf)
  · have hf := iq h241 hf
    refine n_iload C dL_law_244 5 rfl rfl ?_
    refine n_bipush (v := (nI 10)) C dL_law_246 (by decide) rfl ?_
    refine n_icmp_gt (t := 266) C dL_law_248 (by decide) rfl (fun h248 => ?_) (fun h248 => ?_)
    · have hf := ip h248 hf
      exact Wn.sub (lv' := [(0, .ref b), (1, .ref aX), (3, .int x3), (4, .int x4), (6, .int v6), (9, .int v9), (12, .int v12)]) [0, 1, 2, 3, 4, 5, 7] rfl (tL_law_t_b266 C CE hls hX hbl hbA hcs n oB x3 x4 hk306 v6 v9 v12 oS oG oL oU oV oH hf)
    · have hf := iq h248 hf
      refine n_iload C dL_law_251 6 rfl rfl ?_
      refine n_iload C dL_law_253 7 rfl rfl ?_
      refine n_if_lt (t := 262) C dL_law_255 (by decide) rfl (fun h255 => ?_) (fun h255 => ?_)
      · have hf := ip h255 hf
        refine n_iconst (v := (nI 0)) C dL_law_262 (by decide) rfl ?_
        refine n_icmp_ne (t := 304) C dL_law_263 (by decide) rfl (fun h263 => ?_) (fun h263 => ?_)
        · have hf := iq h263 hf
          refine n_iconst (v := (nI 0)) C dL_law_304 (by decide) rfl ?_
          refine n_istore_n (lv' := [(2, .int (nI 0)), (0, .ref b), (1, .ref aX), (3, .int x3), (4, .int x4), (6, .int v6), (9, .int v9), (11, .int v11), (12, .int v12)]) C dL_law_305 (by decide) rfl rfl ?_
          exact Wn.sub (lv' := [(0, .ref b), (1, .ref aX), (2, .int (nI 0)), (3, .int x3), (4, .int x4)]) [1, 2, 0, 3, 4] rfl (hk306 (nI 0) oS oG oL oU oV oH hf)
        · have hf := ip h263 hf
          exact Wn.sub (lv' := [(0, .ref b), (1, .ref aX), (3, .int x3), (4, .int x4), (6, .int v6), (9, .int v9), (12, .int v12)]) [0, 1, 2, 3, 4, 5, 7] rfl (tL_law_t_b266 C CE hls hX hbl hbA hcs n oB x3 x4 hk306 v6 v9 v12 oS oG oL oU oV oH hf)
      · have hf := iq h255 hf
        refine n_iconst (v := (nI 1)) C dL_law_258 (by decide) rfl ?_
        refine n_goto (t := 263) C dL_law_259 (by decide) ?_
        refine n_icmp_ne (t := 304) C dL_law_263 (by decide) rfl (fun h263 => ?_) (fun h263 => ?_)
        · have hf := iq h263 hf
          refine n_iconst (v := (nI 0)) C dL_law_304 (by decide) rfl ?_
          refine n_istore_n (lv' := [(2, .int (nI 0)), (0, .ref b), (1, .ref aX), (3, .int x3), (4, .int x4), (6, .int v6), (9, .int v9), (11, .int v11), (12, .int v12)]) C dL_law_305 (by decide) rfl rfl ?_
          exact Wn.sub (lv' := [(0, .ref b), (1, .ref aX), (2, .int (nI 0)), (3, .int x3), (4, .int x4)]) [1, 2, 0, 3, 4] rfl (hk306 (nI 0) oS oG oL oU oV oH hf)
        · have hf := ip h263 hf
          exact Wn.sub (lv' := [(0, .ref b), (1, .ref aX), (3, .int x3), (4, .int x4), (6, .int v6), (9, .int v9), (12, .int v12)]) [0, 1, 2, 3, 4, 5, 7] rfl (tL_law_t_b266 C CE hls hX hbl hbA hcs n oB x3 x4 hk306 v6 v9 v12 oS oG oL oU oV oH hf)
set_option maxHeartbeats 4000000 in
set_option maxRecDepth 100000 in
theorem tL_law_t_b187 {l : Launch} {p : Program} {e : Env} {s : State} {m : MethodId} {below : List Frame} {meth : Method} {c : Code} {D : va_G} {A : Nat → Prop} {cyI cyO cyJ : ClassId} {b len cells slots : Nat} {xs : Nat → Int32} {Q : State → Prop} {aX : Nat} {aS : Nat → Nat} {aG : Nat → Nat} {aL : Nat → Nat} {aU : Nat → Nat} {aV : Nat → Nat} {aB : Nat → Nat} {aH : Nat → Nat} (C : Cx p s m #[Value.ref b] meth c D (tyG cyI cyO cyJ) A RL cL_law 13 (some .boolean) lw_tbl) (CE : ENVL A s) (hls : l.stackTraces = false) (hX : va_X b len xs s s.heap) (hbl : b < s.heap.size) (hbA : ¬ A b) (hcs : cells + 1 ≤ room_1.cells ∧ slots + 6 ≤ room_1.slots) {z : Int32 × (OB) × (OB) × (OB) × (OB) × (OB) × (HS)} (n : Nat) (oB : OB) (x3 : Int32) (x4 : Int32) {k306 : Int32 → OB → OB → OB → OB → OB → HS → Option (Int32 × (OB) × (OB) × (OB) × (OB) × (OB) × (HS))} (hk306 : ∀ (v2 : Int32) (oS : OB) (oG : OB) (oL : OB) (oU : OB) (oV : OB) (oH : HS), k306 v2 oS oG oL oU oV oH = some z → Wn p l e room_1 s m #[Value.ref b] below meth c D A 13 (cells + 1) (slots + 6) Q ([(aX, .inr (5, [.ref (aL 0), .ref (aS 0), .ref (aG 0), .ref (aH 0), .ref (aB 0), .ref (aV 0), .ref (aU 0)]))] ++ (bX4 cyI aS oS ++ (bX3 cyI aG oG ++ (bX1 cyI aL oL ++ (bX4 cyI aU oU ++ (bX1 cyI aV oV ++ (bX2 cyI aB oB ++ bHS cyI cyO aH oH))))))) 306 [(0, .ref b), (1, .ref aX), (2, .int v2), (3, .int x3), (4, .int x4)] []) (v6 : Int32) (v7 : Int32) (v9 : Int32) (v11 : Int32) (v12 : Int32) (s0 : Int32) (oS : OB) (oG : OB) (oL : OB) (oU : OB) (oV : OB) (oH : HS) (hf : fL_law_t_b187 n len xs oB x3 x4 k306 v6 v7 v9 v11 v12 s0 oS oG oL oU oV oH = some z) : Wn p l e room_1 s m #[Value.ref b] below meth c D A 13 (cells + 1) (slots + 6) Q ([(aX, .inr (5, [.ref (aL 0), .ref (aS 0), .ref (aG 0), .ref (aH 0), .ref (aB 0), .ref (aV 0), .ref (aU 0)]))] ++ (bX4 cyI aS oS ++ (bX3 cyI aG oG ++ (bX1 cyI aL oL ++ (bX4 cyI aU oU ++ (bX1 cyI aV oV ++ (bX2 cyI aB oB ++ bHS cyI cyO aH oH))))))) 187 [(0, .ref b), (1, .ref aX), (3, .int x3), (4, .int x4), (6, .int v6), (7, .int v7), (9, .int v9), (11, .int v11), (12, .int v12)] [.int s0] := by
  unfold fL_law_t_b187 at hf
  refine n_istore_n (lv' := [(2, .int s0), (0, .ref b), (1, .ref aX), (3, .int x3), (4, .int x4), (6, .int v6), (7, .int v7), (9, .int v9), (11, .int v11), (12, .int v12)]) C dL_law_187 (by decide) rfl rfl ?_
  refine n_iload_n C dL_law_188 0 rfl rfl ?_
  refine n_if_eq (t := 304) C dL_law_189 (by decide) rfl (fun h189 => ?_) (fun h189 => ?_)
  · have hf := ip h189 hf
    refine n_iconst (v := (nI 0)) C dL_law_304 (by decide) rfl ?_
    refine n_istore_n (lv' := [(2, .int (nI 0)), (0, .ref b), (1, .ref aX), (3, .int x3), (4, .int x4), (6, .int v6), (7, .int v7), (9, .int v9), (11, .int v11), (12, .int v12)]) C dL_law_305 (by decide) rfl rfl ?_
    exact Wn.sub (lv' := [(0, .ref b), (1, .ref aX), (2, .int (nI 0)), (3, .int x3), (4, .int x4)]) [1, 2, 0, 3, 4] rfl (hk306 (nI 0) oS oG oL oU oV oH hf)
  · have hf := iq h189 hf
    refine n_iload C dL_law_192 7 rfl rfl ?_
    refine n_iconst (v := (nI 1)) C dL_law_194 (by decide) rfl ?_
    refine n_icmp_lt (t := 238) C dL_law_195 (by decide) rfl (fun h195 => ?_) (fun h195 => ?_)
    · have hf := ip h195 hf
      exact Wn.sub (lv' := [(0, .ref b), (1, .ref aX), (3, .int x3), (4, .int x4), (6, .int v6), (9, .int v9), (11, .int v11), (12, .int v12)]) [1, 2, 3, 4, 5, 7, 8, 9] rfl (tL_law_t_b238 C CE hls hX hbl hbA hcs n oB x3 x4 hk306 v6 v9 v11 v12 oS oG oL oU oV oH hf)
    · have hf := iq h195 hf
      refine n_iload C dL_law_198 7 rfl rfl ?_
      refine n_iconst (v := (nI 3)) C dL_law_200 (by decide) rfl ?_
      refine n_icmp_gt (t := 238) C dL_law_201 (by decide) rfl (fun h201 => ?_) (fun h201 => ?_)
      · have hf := ip h201 hf
        exact Wn.sub (lv' := [(0, .ref b), (1, .ref aX), (3, .int x3), (4, .int x4), (6, .int v6), (9, .int v9), (11, .int v11), (12, .int v12)]) [1, 2, 3, 4, 5, 7, 8, 9] rfl (tL_law_t_b238 C CE hls hX hbl hbA hcs n oB x3 x4 hk306 v6 v9 v11 v12 oS oG oL oU oV oH hf)
      · have hf := iq h201 hf
        refine n_iload C dL_law_204 9 rfl rfl ?_
        refine n_aload_n C dL_law_206 2 rfl rfl ?_
        refine n_iconst (v := (nI 3)) C dL_law_207 (by decide) rfl ?_
        obtain ⟨z208, h208, hf⟩ := bi hf
        refine n_callV (As := [.int (nI 3)]) (rest := [.int v12]) (w2 := [(aX, .inr (5, [.ref (aL 0), .ref (aS 0), .ref (aG 0), .ref (aH 0), .ref (aB 0), .ref (aV 0), .ref (aU 0)]))] ++ (bX4 cyI aS z208.2 ++ (bX3 cyI aG oG ++ (bX1 cyI aL oL ++ (bX4 cyI aU oU ++ (bX1 cyI aV oV ++ (bX2 cyI aB oB ++ bHS cyI cyO aH oH))))))) C dL_law_208 (c5n_count l D cyI cyO cyJ aX aS aG aL aU aV aB aH n oS oG oL oU oV oB oH (nI 3) z208 h208) (cwV 1 C.ts gT_X5_count rfl rfl rfl (by decide +kernel) ⟨Nat.le_of_ble_eq_true rfl, Nat.le_of_ble_eq_true rfl⟩) rfl (q0 := 0) (ci := 5) rfl rfl Frm.self rfl (Nat.le_of_ble_eq_true rfl) hcs rfl ?_
        refine n_iload C dL_law_211 5 rfl rfl ?_
        refine n_isub C dL_law_213 rfl ?_
        refine n_icmp_ne (t := 304) C dL_law_214 (by decide) rfl (fun h214 => ?_) (fun h214 => ?_)
        · have hf := iq h214 hf
          refine n_iconst (v := (nI 0)) C dL_law_304 (by decide) rfl ?_
          refine n_istore_n (lv' := [(2, .int (nI 0)), (0, .ref b), (1, .ref aX), (3, .int x3), (4, .int x4), (6, .int v6), (7, .int v7), (9, .int v9), (11, .int v11), (12, .int v12)]) C dL_law_305 (by decide) rfl rfl ?_
          exact Wn.sub (lv' := [(0, .ref b), (1, .ref aX), (2, .int (nI 0)), (3, .int x3), (4, .int x4)]) [1, 2, 0, 3, 4] rfl (hk306 (nI 0) z208.2 oG oL oU oV oH hf)
        · have hf := ip h214 hf
          refine n_aload_n C dL_law_217 2 rfl rfl ?_
          refine n_iconst (v := (nI 4)) C dL_law_218 (by decide) rfl ?_
          obtain ⟨z219, h219, hf⟩ := bi hf
          refine n_callV (As := [.int (nI 4)]) (rest := []) (w2 := [(aX, .inr (5, [.ref (aL 0), .ref (aS 0), .ref (aG 0), .ref (aH 0), .ref (aB 0), .ref (aV 0), .ref (aU 0)]))] ++ (bX4 cyI aS z219.2 ++ (bX3 cyI aG oG ++ (bX1 cyI aL oL ++ (bX4 cyI aU oU ++ (bX1 cyI aV oV ++ (bX2 cyI aB oB ++ bHS cyI cyO aH oH))))))) C dL_law_219 (c5n_count l D cyI cyO cyJ aX aS aG aL aU aV aB aH n z208.2 oG oL oU oV oB oH (nI 4) z219 h219) (cwV 1 C.ts gT_X5_count rfl rfl rfl (by decide +kernel) ⟨Nat.le_of_ble_eq_true rfl, Nat.le_of_ble_eq_true rfl⟩) rfl (q0 := 0) (ci := 5) rfl rfl Frm.self rfl (Nat.le_of_ble_eq_true rfl) hcs rfl ?_
          refine n_iload C dL_law_222 5 rfl rfl ?_
          refine n_icmp_ne (t := 304) C dL_law_224 (by decide) rfl (fun h224 => ?_) (fun h224 => ?_)
          · have hf := iq h224 hf
            refine n_iconst (v := (nI 0)) C dL_law_304 (by decide) rfl ?_
            refine n_istore_n (lv' := [(2, .int (nI 0)), (0, .ref b), (1, .ref aX), (3, .int x3), (4, .int x4), (6, .int v6), (7, .int v7), (9, .int v9), (11, .int v11), (12, .int v12)]) C dL_law_305 (by decide) rfl rfl ?_
            exact Wn.sub (lv' := [(0, .ref b), (1, .ref aX), (2, .int (nI 0)), (3, .int x3), (4, .int x4)]) [1, 2, 0, 3, 4] rfl (hk306 (nI 0) z219.2 oG oL oU oV oH hf)
          · have hf := ip h224 hf
            refine n_aload_n C dL_law_227 2 rfl rfl ?_
            refine n_bipush (v := (nI 6)) C dL_law_228 (by decide) rfl ?_
            obtain ⟨z230, h230, hf⟩ := bi hf
            refine n_callV (As := [.int (nI 6)]) (rest := []) (w2 := [(aX, .inr (5, [.ref (aL 0), .ref (aS 0), .ref (aG 0), .ref (aH 0), .ref (aB 0), .ref (aV 0), .ref (aU 0)]))] ++ (bX4 cyI aS z230.2 ++ (bX3 cyI aG oG ++ (bX1 cyI aL oL ++ (bX4 cyI aU oU ++ (bX1 cyI aV oV ++ (bX2 cyI aB oB ++ bHS cyI cyO aH oH))))))) C dL_law_230 (c5n_count l D cyI cyO cyJ aX aS aG aL aU aV aB aH n z219.2 oG oL oU oV oB oH (nI 6) z230 h230) (cwV 1 C.ts gT_X5_count rfl rfl rfl (by decide +kernel) ⟨Nat.le_of_ble_eq_true rfl, Nat.le_of_ble_eq_true rfl⟩) rfl (q0 := 0) (ci := 5) rfl rfl Frm.self rfl (Nat.le_of_ble_eq_true rfl) hcs rfl ?_
            refine n_iload C dL_law_233 6 rfl rfl ?_
            refine n_icmp_ne (t := 304) C dL_law_235 (by decide) rfl (fun h235 => ?_) (fun h235 => ?_)
            · have hf := iq h235 hf
              refine n_iconst (v := (nI 0)) C dL_law_304 (by decide) rfl ?_
              refine n_istore_n (lv' := [(2, .int (nI 0)), (0, .ref b), (1, .ref aX), (3, .int x3), (4, .int x4), (6, .int v6), (7, .int v7), (9, .int v9), (11, .int v11), (12, .int v12)]) C dL_law_305 (by decide) rfl rfl ?_
              exact Wn.sub (lv' := [(0, .ref b), (1, .ref aX), (2, .int (nI 0)), (3, .int x3), (4, .int x4)]) [1, 2, 0, 3, 4] rfl (hk306 (nI 0) z230.2 oG oL oU oV oH hf)
            · have hf := ip h235 hf
              exact Wn.sub (lv' := [(0, .ref b), (1, .ref aX), (3, .int x3), (4, .int x4), (6, .int v6), (9, .int v9), (11, .int v11), (12, .int v12)]) [1, 2, 3, 4, 5, 7, 8, 9] rfl (tL_law_t_b238 C CE hls hX hbl hbA hcs n oB x3 x4 hk306 v6 v9 v11 v12 z230.2 oG oL oU oV oH hf)
set_option maxHeartbeats 4000000 in
set_option maxRecDepth 100000 in
theorem tL_law_t_b122 {l : Launch} {p : Program} {e : Env} {s : State} {m : MethodId} {below : List Frame} {meth : Method} {c : Code} {D : va_G} {A : Nat → Prop} {cyI cyO cyJ : ClassId} {b len cells slots : Nat} {xs : Nat → Int32} {Q : State → Prop} {aX : Nat} {aS : Nat → Nat} {aG : Nat → Nat} {aL : Nat → Nat} {aU : Nat → Nat} {aV : Nat → Nat} {aB : Nat → Nat} {aH : Nat → Nat} (C : Cx p s m #[Value.ref b] meth c D (tyG cyI cyO cyJ) A RL cL_law 13 (some .boolean) lw_tbl) (CE : ENVL A s) (hls : l.stackTraces = false) (hX : va_X b len xs s s.heap) (hbl : b < s.heap.size) (hbA : ¬ A b) (hcs : cells + 1 ≤ room_1.cells ∧ slots + 6 ≤ room_1.slots) {z : Int32 × (OB) × (OB) × (OB) × (OB) × (OB) × (HS)} (n : Nat) (oB : OB) (x3 : Int32) (x4 : Int32) {k306 : Int32 → OB → OB → OB → OB → OB → HS → Option (Int32 × (OB) × (OB) × (OB) × (OB) × (OB) × (HS))} (hk306 : ∀ (v2 : Int32) (oS : OB) (oG : OB) (oL : OB) (oU : OB) (oV : OB) (oH : HS), k306 v2 oS oG oL oU oV oH = some z → Wn p l e room_1 s m #[Value.ref b] below meth c D A 13 (cells + 1) (slots + 6) Q ([(aX, .inr (5, [.ref (aL 0), .ref (aS 0), .ref (aG 0), .ref (aH 0), .ref (aB 0), .ref (aV 0), .ref (aU 0)]))] ++ (bX4 cyI aS oS ++ (bX3 cyI aG oG ++ (bX1 cyI aL oL ++ (bX4 cyI aU oU ++ (bX1 cyI aV oV ++ (bX2 cyI aB oB ++ bHS cyI cyO aH oH))))))) 306 [(0, .ref b), (1, .ref aX), (2, .int v2), (3, .int x3), (4, .int x4)] []) (v5 : Int32) (v6 : Int32) (v7 : Int32) (v8 : Int32) (v9 : Int32) (s0 : Int32) (oS : OB) (oG : OB) (oL : OB) (oU : OB) (oV : OB) (oH : HS) (hf : fL_law_t_b122 n len xs oB x3 x4 k306 v5 v6 v7 v8 v9 s0 oS oG oL oU oV oH = some z) : Wn p l e room_1 s m #[Value.ref b] below meth c D A 13 cells slots Q ([(aX, .inr (5, [.ref (aL 0), .ref (aS 0), .ref (aG 0), .ref (aH 0), .ref (aB 0), .ref (aV 0), .ref (aU 0)]))] ++ (bX4 cyI aS oS ++ (bX3 cyI aG oG ++ (bX1 cyI aL oL ++ (bX4 cyI aU oU ++ (bX1 cyI aV oV ++ (bX2 cyI aB oB ++ bHS cyI cyO aH oH))))))) 122 [(0, .ref b), (1, .ref aX), (3, .int x3), (4, .int x4), (5, .int v5), (6, .int v6), (7, .int v7), (8, .int v8), (9, .int v9)] [.int s0] := by
  unfold fL_law_t_b122 at hf
  refine n_istore (lv' := [(11, .int s0), (0, .ref b), (1, .ref aX), (3, .int x3), (4, .int x4), (5, .int v5), (6, .int v6), (7, .int v7), (8, .int v8), (9, .int v9)]) C dL_law_122 (by decide) rfl rfl ?_
  refine n_aload_n C dL_law_124 2 rfl rfl ?_
  refine n_aload_n C dL_law_125 1 rfl rfl ?_
  refine n_iconst (v := (nI 3)) C dL_law_126 (by decide) rfl ?_
  refine n_iload C dL_law_127 4 rfl rfl ?_
  refine n_imul C dL_law_129 rfl ?_
  obtain ⟨z130, h130, hf⟩ := bi hf
  refine n_callSC (As := [.ref aX, .ref b, .int ((nI 3) * x4)]) (rest := []) (w2 := [(aX, .inr (5, [.ref (aL 0), .ref (aS 0), .ref (aG 0), .ref (aH 0), .ref (aB 0), .ref (aV 0), .ref (aU 0)]))] ++ (bX4 cyI aS z130.2.1 ++ (bX3 cyI aG z130.2.2.1 ++ (bX1 cyI aL z130.2.2.2.1 ++ (bX4 cyI aU oU ++ (bX1 cyI aV oV ++ (bX2 cyI aB oB ++ bHS cyI cyO aH z130.2.2.2.2))))))) C CE hX hbl hbA dL_law_130 (kL_act l hls D cyI cyO cyJ b len xs aX aS aG aL aU aV aB aH n oS oG oL oU oV oB oH ((nI 3) * x4) z130 h130) (va_cwS 3 C.ts gT_L_act rfl rfl rfl (by decide +kernel) ⟨Nat.le_of_ble_eq_true rfl, Nat.le_of_ble_eq_true rfl⟩) rfl Frm.self rfl (Nat.le_of_ble_eq_true rfl) hcs rfl ?_
  refine n_istore (lv' := [(12, .int z130.1), (11, .int s0), (0, .ref b), (1, .ref aX), (3, .int x3), (4, .int x4), (5, .int v5), (6, .int v6), (7, .int v7), (8, .int v8), (9, .int v9)]) C dL_law_133 (by decide) rfl rfl ?_
  refine n_iload C dL_law_135 0 rfl rfl ?_
  refine n_if_ge (t := 182) C dL_law_137 (by decide) rfl (fun h137 => ?_) (fun h137 => ?_)
  · have hf := ip h137 hf
    refine n_iconst (v := (nI 1)) C dL_law_182 (by decide) rfl ?_
    refine n_goto (t := 187) C dL_law_183 (by decide) ?_
    exact Wn.sub (lv' := [(0, .ref b), (1, .ref aX), (3, .int x3), (4, .int x4), (6, .int v6), (7, .int v7), (9, .int v9), (11, .int s0), (12, .int z130.1)]) [2, 3, 4, 5, 7, 8, 10, 1, 0] rfl (tL_law_t_b187 C CE hls hX hbl hbA hcs n oB x3 x4 hk306 v6 v7 v9 s0 z130.1 (nI 1) z130.2.1 z130.2.2.1 z130.2.2.2.1 oU oV z130.2.2.2.2 hf)
  · have hf := iq h137 hf
    refine n_aload_n C dL_law_140 3 rfl rfl ?_
    refine n_bipush (v := (nI 9)) C dL_law_141 (by decide) rfl ?_
    obtain ⟨z143, h143, hf⟩ := bi hf
    refine n_callV (As := [.int (nI 9)]) (rest := []) (w2 := [(aX, .inr (5, [.ref (aL 0), .ref (aS 0), .ref (aG 0), .ref (aH 0), .ref (aB 0), .ref (aV 0), .ref (aU 0)]))] ++ (bX4 cyI aS z143.2 ++ (bX3 cyI aG z130.2.2.1 ++ (bX1 cyI aL z130.2.2.2.1 ++ (bX4 cyI aU oU ++ (bX1 cyI aV oV ++ (bX2 cyI aB oB ++ bHS cyI cyO aH z130.2.2.2.2))))))) C dL_law_143 (c5n_count l D cyI cyO cyJ aX aS aG aL aU aV aB aH n z130.2.1 z130.2.2.1 z130.2.2.2.1 oU oV oB z130.2.2.2.2 (nI 9) z143 h143) (cwV 1 C.ts gT_X5_count rfl rfl rfl (by decide +kernel) ⟨Nat.le_of_ble_eq_true rfl, Nat.le_of_ble_eq_true rfl⟩) rfl (q0 := 0) (ci := 5) rfl rfl Frm.self rfl (Nat.le_of_ble_eq_true rfl) hcs rfl ?_
    refine n_iload C dL_law_146 6 rfl rfl ?_
    refine n_icmp_ne (t := 186) C dL_law_148 (by decide) rfl (fun h148 => ?_) (fun h148 => ?_)
    · have hf := iq h148 hf
      refine n_iconst (v := (nI 0)) C dL_law_186 (by decide) rfl ?_
      exact Wn.sub (lv' := [(0, .ref b), (1, .ref aX), (3, .int x3), (4, .int x4), (6, .int v6), (7, .int v7), (9, .int v9), (11, .int s0), (12, .int z130.1)]) [2, 3, 4, 5, 7, 8, 10, 1, 0] rfl (tL_law_t_b187 C CE hls hX hbl hbA hcs n oB x3 x4 hk306 v6 v7 v9 s0 z130.1 (nI 0) z143.2 z130.2.2.1 z130.2.2.2.1 oU oV z130.2.2.2.2 hf)
    · have hf := ip h148 hf
      refine n_aload_n C dL_law_151 3 rfl rfl ?_
      refine n_iconst (v := (nI 4)) C dL_law_152 (by decide) rfl ?_
      obtain ⟨z153, h153, hf⟩ := bi hf
      refine n_callV (As := [.int (nI 4)]) (rest := []) (w2 := [(aX, .inr (5, [.ref (aL 0), .ref (aS 0), .ref (aG 0), .ref (aH 0), .ref (aB 0), .ref (aV 0), .ref (aU 0)]))] ++ (bX4 cyI aS z153.2 ++ (bX3 cyI aG z130.2.2.1 ++ (bX1 cyI aL z130.2.2.2.1 ++ (bX4 cyI aU oU ++ (bX1 cyI aV oV ++ (bX2 cyI aB oB ++ bHS cyI cyO aH z130.2.2.2.2))))))) C dL_law_153 (c5n_count l D cyI cyO cyJ aX aS aG aL aU aV aB aH n z143.2 z130.2.2.1 z130.2.2.2.1 oU oV oB z130.2.2.2.2 (nI 4) z153 h153) (cwV 1 C.ts gT_X5_count rfl rfl rfl (by decide +kernel) ⟨Nat.le_of_ble_eq_true rfl, Nat.le_of_ble_eq_true rfl⟩) rfl (q0 := 0) (ci := 5) rfl rfl Frm.self rfl (Nat.le_of_ble_eq_true rfl) hcs rfl ?_
      refine n_iload C dL_law_156 7 rfl rfl ?_
      refine n_icmp_ne (t := 186) C dL_law_158 (by decide) rfl (fun h158 => ?_) (fun h158 => ?_)
      · have hf := iq h158 hf
        refine n_iconst (v := (nI 0)) C dL_law_186 (by decide) rfl ?_
        exact Wn.sub (lv' := [(0, .ref b), (1, .ref aX), (3, .int x3), (4, .int x4), (6, .int v6), (7, .int v7), (9, .int v9), (11, .int s0), (12, .int z130.1)]) [2, 3, 4, 5, 7, 8, 10, 1, 0] rfl (tL_law_t_b187 C CE hls hX hbl hbA hcs n oB x3 x4 hk306 v6 v7 v9 s0 z130.1 (nI 0) z153.2 z130.2.2.1 z130.2.2.2.1 oU oV z130.2.2.2.2 hf)
      · have hf := ip h158 hf
        refine n_aload_n C dL_law_161 3 rfl rfl ?_
        refine n_bipush (v := (nI 6)) C dL_law_162 (by decide) rfl ?_
        obtain ⟨z164, h164, hf⟩ := bi hf
        refine n_callV (As := [.int (nI 6)]) (rest := []) (w2 := [(aX, .inr (5, [.ref (aL 0), .ref (aS 0), .ref (aG 0), .ref (aH 0), .ref (aB 0), .ref (aV 0), .ref (aU 0)]))] ++ (bX4 cyI aS z164.2 ++ (bX3 cyI aG z130.2.2.1 ++ (bX1 cyI aL z130.2.2.2.1 ++ (bX4 cyI aU oU ++ (bX1 cyI aV oV ++ (bX2 cyI aB oB ++ bHS cyI cyO aH z130.2.2.2.2))))))) C dL_law_164 (c5n_count l D cyI cyO cyJ aX aS aG aL aU aV aB aH n z153.2 z130.2.2.1 z130.2.2.2.1 oU oV oB z130.2.2.2.2 (nI 6) z164 h164) (cwV 1 C.ts gT_X5_count rfl rfl rfl (by decide +kernel) ⟨Nat.le_of_ble_eq_true rfl, Nat.le_of_ble_eq_true rfl⟩) rfl (q0 := 0) (ci := 5) rfl rfl Frm.self rfl (Nat.le_of_ble_eq_true rfl) hcs rfl ?_
        refine n_iload C dL_law_167 8 rfl rfl ?_
        refine n_icmp_ne (t := 186) C dL_law_169 (by decide) rfl (fun h169 => ?_) (fun h169 => ?_)
        · have hf := iq h169 hf
          refine n_iconst (v := (nI 0)) C dL_law_186 (by decide) rfl ?_
          exact Wn.sub (lv' := [(0, .ref b), (1, .ref aX), (3, .int x3), (4, .int x4), (6, .int v6), (7, .int v7), (9, .int v9), (11, .int s0), (12, .int z130.1)]) [2, 3, 4, 5, 7, 8, 10, 1, 0] rfl (tL_law_t_b187 C CE hls hX hbl hbA hcs n oB x3 x4 hk306 v6 v7 v9 s0 z130.1 (nI 0) z164.2 z130.2.2.1 z130.2.2.2.1 oU oV z130.2.2.2.2 hf)
        · have hf := ip h169 hf
          refine n_aload_n C dL_law_172 3 rfl rfl ?_
          refine n_iconst (v := (nI 3)) C dL_law_173 (by decide) rfl ?_
          obtain ⟨z174, h174, hf⟩ := bi hf
          refine n_callV (As := [.int (nI 3)]) (rest := []) (w2 := [(aX, .inr (5, [.ref (aL 0), .ref (aS 0), .ref (aG 0), .ref (aH 0), .ref (aB 0), .ref (aV 0), .ref (aU 0)]))] ++ (bX4 cyI aS z174.2 ++ (bX3 cyI aG z130.2.2.1 ++ (bX1 cyI aL z130.2.2.2.1 ++ (bX4 cyI aU oU ++ (bX1 cyI aV oV ++ (bX2 cyI aB oB ++ bHS cyI cyO aH z130.2.2.2.2))))))) C dL_law_174 (c5n_count l D cyI cyO cyJ aX aS aG aL aU aV aB aH n z164.2 z130.2.2.1 z130.2.2.2.1 oU oV oB z130.2.2.2.2 (nI 3) z174 h174) (cwV 1 C.ts gT_X5_count rfl rfl rfl (by decide +kernel) ⟨Nat.le_of_ble_eq_true rfl, Nat.le_of_ble_eq_true rfl⟩) rfl (q0 := 0) (ci := 5) rfl rfl Frm.self rfl (Nat.le_of_ble_eq_true rfl) hcs rfl ?_
          refine n_iload C dL_law_177 9 rfl rfl ?_
          refine n_icmp_ne (t := 186) C dL_law_179 (by decide) rfl (fun h179 => ?_) (fun h179 => ?_)
          · have hf := iq h179 hf
            refine n_iconst (v := (nI 0)) C dL_law_186 (by decide) rfl ?_
            exact Wn.sub (lv' := [(0, .ref b), (1, .ref aX), (3, .int x3), (4, .int x4), (6, .int v6), (7, .int v7), (9, .int v9), (11, .int s0), (12, .int z130.1)]) [2, 3, 4, 5, 7, 8, 10, 1, 0] rfl (tL_law_t_b187 C CE hls hX hbl hbA hcs n oB x3 x4 hk306 v6 v7 v9 s0 z130.1 (nI 0) z174.2 z130.2.2.1 z130.2.2.2.1 oU oV z130.2.2.2.2 hf)
          · have hf := ip h179 hf
            refine n_iconst (v := (nI 1)) C dL_law_182 (by decide) rfl ?_
            refine n_goto (t := 187) C dL_law_183 (by decide) ?_
            exact Wn.sub (lv' := [(0, .ref b), (1, .ref aX), (3, .int x3), (4, .int x4), (6, .int v6), (7, .int v7), (9, .int v9), (11, .int s0), (12, .int z130.1)]) [2, 3, 4, 5, 7, 8, 10, 1, 0] rfl (tL_law_t_b187 C CE hls hX hbl hbA hcs n oB x3 x4 hk306 v6 v7 v9 s0 z130.1 (nI 1) z174.2 z130.2.2.1 z130.2.2.2.1 oU oV z130.2.2.2.2 hf)
set_option maxHeartbeats 4000000 in
set_option maxRecDepth 100000 in
theorem tL_law_t_b42 {l : Launch} {p : Program} {e : Env} {s : State} {m : MethodId} {below : List Frame} {meth : Method} {c : Code} {D : va_G} {A : Nat → Prop} {cyI cyO cyJ : ClassId} {b len cells slots : Nat} {xs : Nat → Int32} {Q : State → Prop} {aX : Nat} {aS : Nat → Nat} {aG : Nat → Nat} {aL : Nat → Nat} {aU : Nat → Nat} {aV : Nat → Nat} {aB : Nat → Nat} {aH : Nat → Nat} (C : Cx p s m #[Value.ref b] meth c D (tyG cyI cyO cyJ) A RL cL_law 13 (some .boolean) lw_tbl) (CE : ENVL A s) (hls : l.stackTraces = false) (hX : va_X b len xs s s.heap) (hbl : b < s.heap.size) (hbA : ¬ A b) (hcs : cells + 1 ≤ room_1.cells ∧ slots + 6 ≤ room_1.slots) {z : Int32 × (OB) × (OB) × (OB) × (OB) × (OB) × (HS)} (n : Nat) (oB : OB) (x3 : Int32) (x4 : Int32) {k306 : Int32 → OB → OB → OB → OB → OB → HS → Option (Int32 × (OB) × (OB) × (OB) × (OB) × (OB) × (HS))} (hk306 : ∀ (v2 : Int32) (oS : OB) (oG : OB) (oL : OB) (oU : OB) (oV : OB) (oH : HS), k306 v2 oS oG oL oU oV oH = some z → Wn p l e room_1 s m #[Value.ref b] below meth c D A 13 (cells + 1) (slots + 6) Q ([(aX, .inr (5, [.ref (aL 0), .ref (aS 0), .ref (aG 0), .ref (aH 0), .ref (aB 0), .ref (aV 0), .ref (aU 0)]))] ++ (bX4 cyI aS oS ++ (bX3 cyI aG oG ++ (bX1 cyI aL oL ++ (bX4 cyI aU oU ++ (bX1 cyI aV oV ++ (bX2 cyI aB oB ++ bHS cyI cyO aH oH))))))) 306 [(0, .ref b), (1, .ref aX), (2, .int v2), (3, .int x3), (4, .int x4)] []) (oS : OB) (oG : OB) (oL : OB) (oU : OB) (oV : OB) (oH : HS) (hf : fL_law_t_b42 n len xs oB x3 x4 k306 oS oG oL oU oV oH = some z) : Wn p l e room_1 s m #[Value.ref b] below meth c D A 13 cells slots Q ([(aX, .inr (5, [.ref (aL 0), .ref (aS 0), .ref (aG 0), .ref (aH 0), .ref (aB 0), .ref (aV 0), .ref (aU 0)]))] ++ (bX4 cyI aS oS ++ (bX3 cyI aG oG ++ (bX1 cyI aL oL ++ (bX4 cyI aU oU ++ (bX1 cyI aV oV ++ (bX2 cyI aB oB ++ bHS cyI cyO aH oH))))))) 42 [(0, .ref b), (1, .ref aX), (3, .int x3), (4, .int x4)] [] := by
  unfold fL_law_t_b42 at hf
  refine n_aload_n C dL_law_42 1 rfl rfl ?_
  refine n_bipush (v := (nI 9)) C dL_law_43 (by decide) rfl ?_
  obtain ⟨z45, h45, hf⟩ := bi hf
  refine n_callV (As := [.int (nI 9)]) (rest := []) (w2 := [(aX, .inr (5, [.ref (aL 0), .ref (aS 0), .ref (aG 0), .ref (aH 0), .ref (aB 0), .ref (aV 0), .ref (aU 0)]))] ++ (bX4 cyI aS z45.2 ++ (bX3 cyI aG oG ++ (bX1 cyI aL oL ++ (bX4 cyI aU oU ++ (bX1 cyI aV oV ++ (bX2 cyI aB oB ++ bHS cyI cyO aH oH))))))) C dL_law_45 (c5n_count l D cyI cyO cyJ aX aS aG aL aU aV aB aH n oS oG oL oU oV oB oH (nI 9) z45 h45) (cwV 1 C.ts gT_X5_count rfl rfl rfl (by decide +kernel) ⟨Nat.le_of_ble_eq_true rfl, Nat.le_of_ble_eq_true rfl⟩) rfl (q0 := 0) (ci := 5) rfl rfl Frm.self rfl (Nat.le_of_ble_eq_true rfl) (cs_le hcs) rfl ?_
  refine n_istore (lv' := [(5, .int z45.1), (0, .ref b), (1, .ref aX), (3, .int x3), (4, .int x4)]) C dL_law_48 (by decide) rfl rfl ?_
  refine n_aload_n C dL_law_50 2 rfl rfl ?_
  refine n_iconst (v := (nI 4)) C dL_law_51 (by decide) rfl ?_
  obtain ⟨z52, h52, hf⟩ := bi hf
  refine n_callV (As := [.int (nI 4)]) (rest := []) (w2 := [(aX, .inr (5, [.ref (aL 0), .ref (aS 0), .ref (aG 0), .ref (aH 0), .ref (aB 0), .ref (aV 0), .ref (aU 0)]))] ++ (bX4 cyI aS z52.2 ++ (bX3 cyI aG oG ++ (bX1 cyI aL oL ++ (bX4 cyI aU oU ++ (bX1 cyI aV oV ++ (bX2 cyI aB oB ++ bHS cyI cyO aH oH))))))) C dL_law_52 (c5n_count l D cyI cyO cyJ aX aS aG aL aU aV aB aH n z45.2 oG oL oU oV oB oH (nI 4) z52 h52) (cwV 1 C.ts gT_X5_count rfl rfl rfl (by decide +kernel) ⟨Nat.le_of_ble_eq_true rfl, Nat.le_of_ble_eq_true rfl⟩) rfl (q0 := 0) (ci := 5) rfl rfl Frm.self rfl (Nat.le_of_ble_eq_true rfl) (cs_le hcs) rfl ?_
  refine n_istore (lv' := [(6, .int z52.1), (5, .int z45.1), (0, .ref b), (1, .ref aX), (3, .int x3), (4, .int x4)]) C dL_law_55 (by decide) rfl rfl ?_
  refine n_aload_n C dL_law_57 3 rfl rfl ?_
  refine n_bipush (v := (nI 6)) C dL_law_58 (by decide) rfl ?_
  obtain ⟨z60, h60, hf⟩ := bi hf
  refine n_callV (As := [.int (nI 6)]) (rest := []) (w2 := [(aX, .inr (5, [.ref (aL 0), .ref (aS 0), .ref (aG 0), .ref (aH 0), .ref (aB 0), .ref (aV 0), .ref (aU 0)]))] ++ (bX4 cyI aS z60.2 ++ (bX3 cyI aG oG ++ (bX1 cyI aL oL ++ (bX4 cyI aU oU ++ (bX1 cyI aV oV ++ (bX2 cyI aB oB ++ bHS cyI cyO aH oH))))))) C dL_law_60 (c5n_count l D cyI cyO cyJ aX aS aG aL aU aV aB aH n z52.2 oG oL oU oV oB oH (nI 6) z60 h60) (cwV 1 C.ts gT_X5_count rfl rfl rfl (by decide +kernel) ⟨Nat.le_of_ble_eq_true rfl, Nat.le_of_ble_eq_true rfl⟩) rfl (q0 := 0) (ci := 5) rfl rfl Frm.self rfl (Nat.le_of_ble_eq_true rfl) (cs_le hcs) rfl ?_
  refine n_istore (lv' := [(7, .int z60.1), (6, .int z52.1), (5, .int z45.1), (0, .ref b), (1, .ref aX), (3, .int x3), (4, .int x4)]) C dL_law_63 (by decide) rfl rfl ?_
  refine n_aload_n C dL_law_65 4 rfl rfl ?_
  refine n_iconst (v := (nI 3)) C dL_law_66 (by decide) rfl ?_
  obtain ⟨z67, h67, hf⟩ := bi hf
  refine n_callV (As := [.int (nI 3)]) (rest := []) (w2 := [(aX, .inr (5, [.ref (aL 0), .ref (aS 0), .ref (aG 0), .ref (aH 0), .ref (aB 0), .ref (aV 0), .ref (aU 0)]))] ++ (bX4 cyI aS z67.2 ++ (bX3 cyI aG oG ++ (bX1 cyI aL oL ++ (bX4 cyI aU oU ++ (bX1 cyI aV oV ++ (bX2 cyI aB oB ++ bHS cyI cyO aH oH))))))) C dL_law_67 (c5n_count l D cyI cyO cyJ aX aS aG aL aU aV aB aH n z60.2 oG oL oU oV oB oH (nI 3) z67 h67) (cwV 1 C.ts gT_X5_count rfl rfl rfl (by decide +kernel) ⟨Nat.le_of_ble_eq_true rfl, Nat.le_of_ble_eq_true rfl⟩) rfl (q0 := 0) (ci := 5) rfl rfl Frm.self rfl (Nat.le_of_ble_eq_true rfl) (cs_le hcs) rfl ?_
  refine n_istore (lv' := [(8, .int z67.1), (7, .int z60.1), (6, .int z52.1), (5, .int z45.1), (0, .ref b), (1, .ref aX), (3, .int x3), (4, .int x4)]) C dL_law_70 (by decide) rfl rfl ?_
  refine n_aload_n C dL_law_72 4 rfl rfl ?_
  refine n_iconst (v := (nI 3)) C dL_law_73 (by decide) rfl ?_
  refine n_iload C dL_law_74 7 rfl rfl ?_
  refine n_imul C dL_law_76 rfl ?_
  obtain ⟨x77, h77, hf⟩ := bi hf
  refine n_callSK (As := [.ref b, .int ((nI 3) * x4)]) (rest := []) C hX hbl hbA dL_law_77 (kL_cell l D cyI cyO cyJ b len xs ((nI 3) * x4) x77 h77) (va_cwS 2 C.ts gT_L_cell rfl rfl rfl (by decide +kernel) ⟨Nat.le_of_ble_eq_true rfl, Nat.le_of_ble_eq_true rfl⟩) rfl rfl (Nat.le_of_ble_eq_true rfl) (cs_le hcs) rfl ?_
  refine n_bipush (v := (nI 18)) C dL_law_80 (by decide) rfl ?_
  obtain ⟨z82, h82, hf⟩ := bi hf
  refine n_callS (As := [.int x77, .int (nI 18)]) (rest := []) (w2 := [(aX, .inr (5, [.ref (aL 0), .ref (aS 0), .ref (aG 0), .ref (aH 0), .ref (aB 0), .ref (aV 0), .ref (aU 0)]))] ++ (bX4 cyI aS z67.2 ++ (bX3 cyI aG oG ++ (bX1 cyI aL oL ++ (bX4 cyI aU oU ++ (bX1 cyI aV oV ++ (bX2 cyI aB oB ++ bHS cyI cyO aH oH))))))) C dL_law_82 (kL_low l D cyI cyO cyJ  n x77 (nI 18) z82 h82) (va_cwS 2 C.ts gT_L_low rfl rfl rfl (by decide +kernel) ⟨Nat.le_of_ble_eq_true rfl, Nat.le_of_ble_eq_true rfl⟩) rfl Frm.none rfl (Nat.le_of_ble_eq_true rfl) (cs_le hcs) rfl ?_
  refine n_istore (lv' := [(9, .int z82), (8, .int z67.1), (7, .int z60.1), (6, .int z52.1), (5, .int z45.1), (0, .ref b), (1, .ref aX), (3, .int x3), (4, .int x4)]) C dL_law_85 (by decide) rfl rfl ?_
  refine n_aload_n C dL_law_87 5 rfl rfl ?_
  refine n_iconst (v := (nI 3)) C dL_law_88 (by decide) rfl ?_
  refine n_iload C dL_law_89 8 rfl rfl ?_
  refine n_imul C dL_law_91 rfl ?_
  refine n_iconst (v := (nI 1)) C dL_law_92 (by decide) rfl ?_
  refine n_iadd C dL_law_93 rfl ?_
  obtain ⟨x94, h94, hf⟩ := bi hf
  refine n_callSK (As := [.ref b, .int (((nI 3) * x4) + (nI 1))]) (rest := []) C hX hbl hbA dL_law_94 (kL_cell l D cyI cyO cyJ b len xs (((nI 3) * x4) + (nI 1)) x94 h94) (va_cwS 2 C.ts gT_L_cell rfl rfl rfl (by decide +kernel) ⟨Nat.le_of_ble_eq_true rfl, Nat.le_of_ble_eq_true rfl⟩) rfl rfl (Nat.le_of_ble_eq_true rfl) (cs_le hcs) rfl ?_
  refine n_aload_n C dL_law_97 6 rfl rfl ?_
  refine n_iconst (v := (nI 2)) C dL_law_98 (by decide) rfl ?_
  obtain ⟨z99, h99, hf⟩ := bi hf
  refine n_callV (As := [.int (nI 2)]) (rest := [.int x94]) (w2 := [(aX, .inr (5, [.ref (aL 0), .ref (aS 0), .ref (aG 0), .ref (aH 0), .ref (aB 0), .ref (aV 0), .ref (aU 0)]))] ++ (bX4 cyI aS z99.2 ++ (bX3 cyI aG oG ++ (bX1 cyI aL oL ++ (bX4 cyI aU oU ++ (bX1 cyI aV oV ++ (bX2 cyI aB oB ++ bHS cyI cyO aH oH))))))) C dL_law_99 (c5n_count l D cyI cyO cyJ aX aS aG aL aU aV aB aH n z67.2 oG oL oU oV oB oH (nI 2) z99 h99) (cwV 1 C.ts gT_X5_count rfl rfl rfl (by decide +kernel) ⟨Nat.le_of_ble_eq_true rfl, Nat.le_of_ble_eq_true rfl⟩) rfl (q0 := 0) (ci := 5) rfl rfl Frm.self rfl (Nat.le_of_ble_eq_true rfl) (cs_le hcs) rfl ?_
  obtain ⟨z102, h102, hf⟩ := bi hf
  refine n_callS (As := [.int x94, .int z99.1]) (rest := []) (w2 := [(aX, .inr (5, [.ref (aL 0), .ref (aS 0), .ref (aG 0), .ref (aH 0), .ref (aB 0), .ref (aV 0), .ref (aU 0)]))] ++ (bX4 cyI aS z99.2 ++ (bX3 cyI aG oG ++ (bX1 cyI aL oL ++ (bX4 cyI aU oU ++ (bX1 cyI aV oV ++ (bX2 cyI aB oB ++ bHS cyI cyO aH oH))))))) C dL_law_102 (kL_low l D cyI cyO cyJ  n x94 z99.1 z102 h102) (va_cwS 2 C.ts gT_L_low rfl rfl rfl (by decide +kernel) ⟨Nat.le_of_ble_eq_true rfl, Nat.le_of_ble_eq_true rfl⟩) rfl Frm.none rfl (Nat.le_of_ble_eq_true rfl) (cs_le hcs) rfl ?_
  refine n_istore (lv' := [(10, .int z102), (9, .int z82), (8, .int z67.1), (7, .int z60.1), (6, .int z52.1), (5, .int z45.1), (0, .ref b), (1, .ref aX), (3, .int x3), (4, .int x4)]) C dL_law_105 (by decide) rfl rfl ?_
  refine n_aload_n C dL_law_107 7 rfl rfl ?_
  refine n_iload C dL_law_108 0 rfl rfl ?_
  refine n_iconst (v := (nI 3)) C dL_law_110 (by decide) rfl ?_
  obtain ⟨z111, h111, hf⟩ := bi hf
  refine n_callV (As := [.int z102, .int (nI 3)]) (rest := []) (w2 := [(aX, .inr (5, [.ref (aL 0), .ref (aS 0), .ref (aG 0), .ref (aH 0), .ref (aB 0), .ref (aV 0), .ref (aU 0)]))] ++ (bX4 cyI aS z99.2 ++ (bX3 cyI aG oG ++ (bX1 cyI aL oL ++ (bX4 cyI aU oU ++ (bX1 cyI aV oV ++ (bX2 cyI aB oB ++ bHS cyI cyO aH oH))))))) C dL_law_111 (c5n_match l D cyI cyO cyJ aX aS aG aL aU aV aB aH n z99.2 oG oL oU oV oB oH z102 (nI 3) z111 h111) (cwV 2 C.ts gT_X5_match rfl rfl rfl (by decide +kernel) ⟨Nat.le_of_ble_eq_true rfl, Nat.le_of_ble_eq_true rfl⟩) rfl (q0 := 0) (ci := 5) rfl rfl Frm.self rfl (Nat.le_of_ble_eq_true rfl) (cs_le hcs) rfl ?_
  refine n_if_lt (t := 121) C dL_law_114 (by decide) rfl (fun h114 => ?_) (fun h114 => ?_)
  · have hf := ip h114 hf
    refine n_iconst (v := (nI 0)) C dL_law_121 (by decide) rfl ?_
    exact Wn.sub (lv' := [(0, .ref b), (1, .ref aX), (3, .int x3), (4, .int x4), (5, .int z45.1), (6, .int z52.1), (7, .int z60.1), (8, .int z67.1), (9, .int z82)]) [6, 7, 8, 9, 5, 4, 3, 2, 1] rfl (tL_law_t_b122 C CE hls hX hbl hbA hcs n oB x3 x4 hk306 z45.1 z52.1 z60.1 z67.1 z82 (nI 0) z99.2 oG oL oU oV oH hf)
  · have hf := iq h114 hf
    refine n_iconst (v := (nI 1)) C dL_law_117 (by decide) rfl ?_
    refine n_goto (t := 122) C dL_law_118 (by decide) ?_
    exact Wn.sub (lv' := [(0, .ref b), (1, .ref aX), (3, .int x3), (4, .int x4), (5, .int z45.1), (6, .int z52.1), (7, .int z60.1), (8, .int z67.1), (9, .int z82)]) [6, 7, 8, 9, 5, 4, 3, 2, 1] rfl (tL_law_t_b122 C CE hls hX hbl hbA hcs n oB x3 x4 hk306 z45.1 z52.1 z60.1 z67.1 z82 (nI 1) z99.2 oG oL oU oV oH hf)
-- L law 312
def fL_law_e_b312 (n : Nat) (len : Nat) (xs : Nat → Int32) (oL : OB) (oU : OB) (oB : OB) (oH : HS) (x2 : Int32) (k362 : Int32 → OB → OB → OB → Option (Int32 × (OB) × (OB) × (OB))) (oS : OB) (oG : OB) (oV : OB) : Option (Int32 × (OB) × (OB) × (OB)) :=
  (fL_cell len xs (nI 1)).bind fun x314 => (fL_low n x314 (nI 12)).bind fun z319 => (if x2 = (0 : Int32) then k362 (nI 0) oS oG oV else (f5n_ifMissing n oS oG oL oU oV oB oH z319).bind fun z331 => (f5n_count n oS z331.2.1 oL oU z331.2.2 oB oH (nI 2)).bind fun z336 => (f5n_count n z336.2 z331.2.1 oL oU z331.2.2 oB oH (nI 4)).bind fun z341 => (if (z336.1 - z341.1) < z331.1 then k362 (nI 0) z341.2 z331.2.1 z331.2.2 else (f5n_ifMissing n z341.2 z331.2.1 oL oU z331.2.2 oB oH z319).bind fun z351 => (if z351.1 < (0 : Int32) then k362 (nI 0) z341.2 z351.2.1 z351.2.2 else k362 (nI 1) z341.2 z351.2.1 z351.2.2)))
set_option maxHeartbeats 4000000 in
set_option maxRecDepth 100000 in
theorem tL_law_e_b312 {l : Launch} {p : Program} {e : Env} {s : State} {m : MethodId} {below : List Frame} {meth : Method} {c : Code} {D : va_G} {A : Nat → Prop} {cyI cyO cyJ : ClassId} {b len cells slots : Nat} {xs : Nat → Int32} {Q : State → Prop} {aX : Nat} {aS : Nat → Nat} {aG : Nat → Nat} {aL : Nat → Nat} {aU : Nat → Nat} {aV : Nat → Nat} {aB : Nat → Nat} {aH : Nat → Nat} (C : Cx p s m #[Value.ref b] meth c D (tyG cyI cyO cyJ) A RL cL_law 13 (some .boolean) lw_tbl) (CE : ENVL A s) (hls : l.stackTraces = false) (hX : va_X b len xs s s.heap) (hbl : b < s.heap.size) (hbA : ¬ A b) (hcs : cells + 1 ≤ room_1.cells ∧ slots + 6 ≤ room_1.slots) {z : Int32 × (OB) × (OB) × (OB)} (n : Nat) (oL : OB) (oU : OB) (oB : OB) (oH : HS) (x2 : Int32) {k362 : Int32 → OB → OB → OB → Option (Int32 × (OB) × (OB) × (OB))} (hk362 : ∀ (s0 : Int32) (oS : OB) (oG : OB) (oV : OB), k362 s0 oS oG oV = some z → Wn p l e room_1 s m #[Value.ref b] below meth c D A 13 cells slots Q ([(aX, .inr (5, [.ref (aL 0), .ref (aS 0), .ref (aG 0), .ref (aH 0), .ref (aB 0), .ref (aV 0), .ref (aU 0)]))] ++ (bX4 cyI aS oS ++ (bX3 cyI aG oG ++ (bX1 cyI aL oL ++ (bX4 cyI aU oU ++ (bX1 cyI aV oV ++ (bX2 cyI aB oB ++ bHS cyI cyO aH oH))))))) 362 [] [.int s0]) (oS : OB) (oG : OB) (oV : OB) (hf : fL_law_e_b312 n len xs oL oU oB oH x2 k362 oS oG oV = some z) : Wn p l e room_1 s m #[Value.ref b] below meth c D A 13 cells slots Q ([(aX, .inr (5, [.ref (aL 0), .ref (aS 0), .ref (aG 0), .ref (aH 0), .ref (aB 0), .ref (aV 0), .ref (aU 0)]))] ++ (bX4 cyI aS oS ++ (bX3 cyI aG oG ++ (bX1 cyI aL oL ++ (bX4 cyI aU oU ++ (bX1 cyI aV oV ++ (bX2 cyI aB oB ++ bHS cyI cyO aH oH))))))) 312 [(0, .ref b), (1, .ref aX), (2, .int x2)] [] := by
  unfold fL_law_e_b312 at hf
  refine n_aload_n C dL_law_312 0 rfl rfl ?_
  refine n_iconst (v := (nI 1)) C dL_law_313 (by decide) rfl ?_
  obtain ⟨x314, h314, hf⟩ := bi hf
  refine n_callSK (As := [.ref b, .int (nI 1)]) (rest := []) C hX hbl hbA dL_law_314 (kL_cell l D cyI cyO cyJ b len xs (nI 1) x314 h314) (va_cwS 2 C.ts gT_L_cell rfl rfl rfl (by decide +kernel) ⟨Nat.le_of_ble_eq_true rfl, Nat.le_of_ble_eq_true rfl⟩) rfl rfl (Nat.le_of_ble_eq_true rfl) (cs_le hcs) rfl ?_
  refine n_bipush (v := (nI 12)) C dL_law_317 (by decide) rfl ?_
  obtain ⟨z319, h319, hf⟩ := bi hf
  refine n_callS (As := [.int x314, .int (nI 12)]) (rest := []) (w2 := [(aX, .inr (5, [.ref (aL 0), .ref (aS 0), .ref (aG 0), .ref (aH 0), .ref (aB 0), .ref (aV 0), .ref (aU 0)]))] ++ (bX4 cyI aS oS ++ (bX3 cyI aG oG ++ (bX1 cyI aL oL ++ (bX4 cyI aU oU ++ (bX1 cyI aV oV ++ (bX2 cyI aB oB ++ bHS cyI cyO aH oH))))))) C dL_law_319 (kL_low l D cyI cyO cyJ  n x314 (nI 12) z319 h319) (va_cwS 2 C.ts gT_L_low rfl rfl rfl (by decide +kernel) ⟨Nat.le_of_ble_eq_true rfl, Nat.le_of_ble_eq_true rfl⟩) rfl Frm.none rfl (Nat.le_of_ble_eq_true rfl) (cs_le hcs) rfl ?_
  refine n_istore (lv' := [(4, .int z319), (0, .ref b), (1, .ref aX), (2, .int x2)]) C dL_law_322 (by decide) rfl rfl ?_
  refine n_iload_n C dL_law_324 3 rfl rfl ?_
  refine n_if_eq (t := 361) C dL_law_325 (by decide) rfl (fun h325 => ?_) (fun h325 => ?_)
  · have hf := ip h325 hf
    refine n_iconst (v := (nI 0)) C dL_law_361 (by decide) rfl ?_
    exact Wn.sub (lv' := []) [] rfl (hk362 (nI 0) oS oG oV hf)
  · have hf := iq h325 hf
    refine n_aload_n C dL_law_328 2 rfl rfl ?_
    refine n_iload C dL_law_329 0 rfl rfl ?_
    obtain ⟨z331, h331, hf⟩ := bi hf
    refine n_callV (As := [.int z319]) (rest := []) (w2 := [(aX, .inr (5, [.ref (aL 0), .ref (aS 0), .ref (aG 0), .ref (aH 0), .ref (aB 0), .ref (aV 0), .ref (aU 0)]))] ++ (bX4 cyI aS oS ++ (bX3 cyI aG z331.2.1 ++ (bX1 cyI aL oL ++ (bX4 cyI aU oU ++ (bX1 cyI aV z331.2.2 ++ (bX2 cyI aB oB ++ bHS cyI cyO aH oH))))))) C dL_law_331 (c5n_ifMissing l D cyI cyO cyJ aX aS aG aL aU aV aB aH n oS oG oL oU oV oB oH z319 z331 h331) (cwV 1 C.ts gT_X5_ifMissing rfl rfl rfl (by decide +kernel) ⟨Nat.le_of_ble_eq_true rfl, Nat.le_of_ble_eq_true rfl⟩) rfl (q0 := 0) (ci := 5) rfl rfl Frm.self rfl (Nat.le_of_ble_eq_true rfl) (cs_le hcs) rfl ?_
    refine n_aload_n C dL_law_334 2 rfl rfl ?_
    refine n_iconst (v := (nI 2)) C dL_law_335 (by decide) rfl ?_
    obtain ⟨z336, h336, hf⟩ := bi hf
    refine n_callV (As := [.int (nI 2)]) (rest := [.int z331.1]) (w2 := [(aX, .inr (5, [.ref (aL 0), .ref (aS 0), .ref (aG 0), .ref (aH 0), .ref (aB 0), .ref (aV 0), .ref (aU 0)]))] ++ (bX4 cyI aS z336.2 ++ (bX3 cyI aG z331.2.1 ++ (bX1 cyI aL oL ++ (bX4 cyI aU oU ++ (bX1 cyI aV z331.2.2 ++ (bX2 cyI aB oB ++ bHS cyI cyO aH oH))))))) C dL_law_336 (c5n_count l D cyI cyO cyJ aX aS aG aL aU aV aB aH n oS z331.2.1 oL oU z331.2.2 oB oH (nI 2) z336 h336) (cwV 1 C.ts gT_X5_count rfl rfl rfl (by decide +kernel) ⟨Nat.le_of_ble_eq_true rfl, Nat.le_of_ble_eq_true rfl⟩) rfl (q0 := 0) (ci := 5) rfl rfl Frm.self rfl (Nat.le_of_ble_eq_true rfl) (cs_le hcs) rfl ?_
    refine n_aload_n C dL_law_339 2 rfl rfl ?_
    refine n_iconst (v := (nI 4)) C dL_law_340 (by decide) rfl ?_
    obtain ⟨z341, h341, hf⟩ := bi hf
    refine n_callV (As := [.int (nI 4)]) (rest := [.int z336.1, .int z331.1]) (w2 := [(aX, .inr (5, [.ref (aL 0), .ref (aS 0), .ref (aG 0), .ref (aH 0), .ref (aB 0), .ref (aV 0), .ref (aU 0)]))] ++ (bX4 cyI aS z341.2 ++ (bX3 cyI aG z331.2.1 ++ (bX1 cyI aL oL ++ (bX4 cyI aU oU ++ (bX1 cyI aV z331.2.2 ++ (bX2 cyI aB oB ++ bHS cyI cyO aH oH))))))) C dL_law_341 (c5n_count l D cyI cyO cyJ aX aS aG aL aU aV aB aH n z336.2 z331.2.1 oL oU z331.2.2 oB oH (nI 4) z341 h341) (cwV 1 C.ts gT_X5_count rfl rfl rfl (by decide +kernel) ⟨Nat.le_of_ble_eq_true rfl, Nat.le_of_ble_eq_true rfl⟩) rfl (q0 := 0) (ci := 5) rfl rfl Frm.self rfl (Nat.le_of_ble_eq_true rfl) (cs_le hcs) rfl ?_
    refine n_isub C dL_law_344 rfl ?_
    refine n_icmp_gt (t := 361) C dL_law_345 (by decide) rfl (fun h345 => ?_) (fun h345 => ?_)
    · have hf := ip h345 hf
      refine n_iconst (v := (nI 0)) C dL_law_361 (by decide) rfl ?_
      exact Wn.sub (lv' := []) [] rfl (hk362 (nI 0) z341.2 z331.2.1 z331.2.2 hf)
    · have hf := iq h345 hf
      refine n_aload_n C dL_law_348 2 rfl rfl ?_
      refine n_iload C dL_law_349 0 rfl rfl ?_
      obtain ⟨z351, h351, hf⟩ := bi hf
      refine n_callV (As := [.int z319]) (rest := []) (w2 := [(aX, .inr (5, [.ref (aL 0), .ref (aS 0), .ref (aG 0), .ref (aH 0), .ref (aB 0), .ref (aV 0), .ref (aU 0)]))] ++ (bX4 cyI aS z341.2 ++ (bX3 cyI aG z351.2.1 ++ (bX1 cyI aL oL ++ (bX4 cyI aU oU ++ (bX1 cyI aV z351.2.2 ++ (bX2 cyI aB oB ++ bHS cyI cyO aH oH))))))) C dL_law_351 (c5n_ifMissing l D cyI cyO cyJ aX aS aG aL aU aV aB aH n z341.2 z331.2.1 oL oU z331.2.2 oB oH z319 z351 h351) (cwV 1 C.ts gT_X5_ifMissing rfl rfl rfl (by decide +kernel) ⟨Nat.le_of_ble_eq_true rfl, Nat.le_of_ble_eq_true rfl⟩) rfl (q0 := 0) (ci := 5) rfl rfl Frm.self rfl (Nat.le_of_ble_eq_true rfl) (cs_le hcs) rfl ?_
      refine n_if_lt (t := 361) C dL_law_354 (by decide) rfl (fun h354 => ?_) (fun h354 => ?_)
      · have hf := ip h354 hf
        refine n_iconst (v := (nI 0)) C dL_law_361 (by decide) rfl ?_
        exact Wn.sub (lv' := []) [] rfl (hk362 (nI 0) z341.2 z351.2.1 z351.2.2 hf)
      · have hf := iq h354 hf
        refine n_iconst (v := (nI 1)) C dL_law_357 (by decide) rfl ?_
        refine n_goto (t := 362) C dL_law_358 (by decide) ?_
        exact Wn.sub (lv' := []) [] rfl (hk362 (nI 1) z341.2 z351.2.1 z351.2.2 hf)
