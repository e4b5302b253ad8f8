/-! THE LAW: its loop -/
theorem lw_gt {i len : Nat} (hlen : len ≤ 2048) (hi : i ≤ 4096) (h : ¬ nI len - nI 4 < nI i) : i + 4 ≤ len := by
  have e1 : (nI i).toInt = (i : Int) := nI_toInt (by omega)
  rcases Nat.lt_or_ge len 4 with h4 | h4
  · exfalso
    refine h ?_
    rw [Int32.lt_iff_toInt_lt, e1]
    rcases (show len = 0 ∨ len = 1 ∨ len = 2 ∨ len = 3 by omega) with rfl | rfl | rfl | rfl
    · rw [show (nI 0 - nI 4).toInt = -4 by decide]; omega
    · rw [show (nI 1 - nI 4).toInt = -3 by decide]; omega
    · rw [show (nI 2 - nI 4).toInt = -2 by decide]; omega
    · rw [show (nI 3 - nI 4).toInt = -1 by decide]; omega
  · rw [pk_sub h4, nI_ltI (by omega) (by omega)] at h
    omega
section LAWC
variable {p : Program} {l : Launch} {e : Env} {s : State} {m : MethodId} {below : List Frame} {meth : Method} {c : Code}
variable {D : va_G} {A : Nat → Prop} {Q : State → Prop} {cells slots : Nat} {cyI cyO cyJ : ClassId} {b len i : Nat} {xs : Nat → Int32}
variable {aM : Nat → Nat} {aO aX : Nat} {aS aG aL aU aV aB aH : Nat → Nat} {M S G Lg U V B : OB} {oO : Nat → Int64} {X : HS}

set_option maxHeartbeats 2000000 in
set_option maxRecDepth 20000 in
theorem lw_turn (C : Cx p s m #[Value.ref b] meth c D (tyG cyI cyO cyJ) A RL cL_law 9 (some .boolean) lw_tbl) (CE : ENVL A s) (hls : l.stackTraces = false) (hX : va_X b len xs s s.heap) (hbl : b < s.heap.size) (hbA : ¬ A b) (hlen : len ≤ 2048) (hi : i + 4 ≤ len) (hcs : cells + 1 ≤ room_1.cells ∧ slots + 6 ≤ room_1.slots) (AA : AL Lg B X M)
    (next : ∀ (M' : OB) (oO' : Nat → Int64) (S' G' L' U' V' B' : OB) (X' : HS) (c' s' : Nat), AL L' B' X' M' → c' ≤ cells + 1 → s' ≤ slots + 6 → Wn p l e room_1 s m #[Value.ref b] below meth c D A 9 c' s' Q (lwW cyI cyO cyJ aM aO aX aS aG aL aU aV aB aH (M') (oO') (S') (G') (L') (U') (V') (B') (X')) 1478 [(4, .int (nI i)), (3, .ref aO), (2, .ref (aM 0)), (1, .ref aX), (0, .ref b)] []) : Wn p l e room_1 s m #[Value.ref b] below meth c D A 9 cells slots Q (lwW cyI cyO cyJ aM aO aX aS aG aL aU aV aB aH M oO S G Lg U V B X) 32 [(4, .int (nI i)), (3, .ref aO), (2, .ref (aM 0)), (1, .ref aX), (0, .ref b)] [] := by
  refine n_aload_n C dL_law_32 4 rfl rfl ?_
  refine n_iload C dL_law_33 0 rfl rfl ?_
  refine n_sld C hX hbl hbA dL_law_35 (nI_in (by omega) (by omega)) rfl ?_
  refine n_bipush (v := nI 31) C dL_law_36 (by decide) rfl ?_
  refine n_iand C dL_law_38 rfl ?_
  generalize xs (nI i).toNatClampNeg &&& nI 31 = v
  by_cases h0 : v = Int32.ofInt (0 + 0)
  · refine n_tswIn (off := 113) (t := 152) C dL_law_39 (by rw [h0]; decide) (by rw [h0]; decide) (by rw [h0]; decide) (by decide) ?_
    exact tL_begin C CE hls hX hbl hbA hlen hi hcs AA next
  by_cases h1 : v = Int32.ofInt (0 + 1)
  · refine n_tswIn (off := 169) (t := 208) C dL_law_39 (by rw [h1]; decide) (by rw [h1]; decide) (by rw [h1]; decide) (by decide) ?_
    exact tL_close C CE hls hX hbl hbA hlen hi hcs AA next
  by_cases h2 : v = Int32.ofInt (0 + 2)
  · refine n_tswIn (off := 237) (t := 276) C dL_law_39 (by rw [h2]; decide) (by rw [h2]; decide) (by rw [h2]; decide) (by decide) ?_
    exact tL_away C CE hls hX hbl hbA hlen hi hcs AA next
  by_cases h3 : v = Int32.ofInt (0 + 3)
  · refine n_tswIn (off := 305) (t := 344) C dL_law_39 (by rw [h3]; decide) (by rw [h3]; decide) (by rw [h3]; decide) (by decide) ?_
    exact tL_stage C CE hls hX hbl hbA hlen hi hcs AA next
  by_cases h4 : v = Int32.ofInt (0 + 4)
  · refine n_tswIn (off := 318) (t := 357) C dL_law_39 (by rw [h4]; decide) (by rw [h4]; decide) (by rw [h4]; decide) (by decide) ?_
    exact tL_score C CE hls hX hbl hbA hlen hi hcs AA next
  by_cases h5 : v = Int32.ofInt (0 + 5)
  · refine n_tswIn (off := 398) (t := 437) C dL_law_39 (by rw [h5]; decide) (by rw [h5]; decide) (by rw [h5]; decide) (by decide) ?_
    exact tL_walkover C CE hls hX hbl hbA hlen hi hcs AA next
  by_cases h6 : v = Int32.ofInt (0 + 6)
  · refine n_tswIn (off := 482) (t := 521) C dL_law_39 (by rw [h6]; decide) (by rw [h6]; decide) (by rw [h6]; decide) (by decide) ?_
    exact tL_annul C CE hls hX hbl hbA hlen hi hcs AA next
  by_cases h7 : v = Int32.ofInt (0 + 7)
  · refine n_tswIn (off := 538) (t := 577) C dL_law_39 (by rw [h7]; decide) (by rw [h7]; decide) (by rw [h7]; decide) (by decide) ?_
    exact tL_set C CE hls hX hbl hbA hlen hi hcs AA next
  by_cases h8 : v = Int32.ofInt (0 + 8)
  · refine n_tswIn (off := 606) (t := 645) C dL_law_39 (by rw [h8]; decide) (by rw [h8]; decide) (by rw [h8]; decide) (by decide) ?_
    exact tL_append C CE hls hX hbl hbA hlen hi hcs AA next
  by_cases h9 : v = Int32.ofInt (0 + 9)
  · refine n_tswIn (off := 662) (t := 701) C dL_law_39 (by rw [h9]; decide) (by rw [h9]; decide) (by rw [h9]; decide) (by decide) ?_
    exact tL_clearBuffer C CE hls hX hbl hbA hlen hi hcs AA next
  by_cases h10 : v = Int32.ofInt (0 + 10)
  · refine n_tswIn (off := 675) (t := 714) C dL_law_39 (by rw [h10]; decide) (by rw [h10]; decide) (by rw [h10]; decide) (by decide) ?_
    exact tL_firstError C CE hls hX hbl hbA hlen hi hcs AA next
  by_cases h11 : v = Int32.ofInt (0 + 11)
  · refine n_tswIn (off := 688) (t := 727) C dL_law_39 (by rw [h11]; decide) (by rw [h11]; decide) (by rw [h11]; decide) (by decide) ?_
    exact tL_report C CE hls hX hbl hbA hlen hi hcs AA next
  by_cases h12 : v = Int32.ofInt (0 + 12)
  · refine n_tswIn (off := 732) (t := 771) C dL_law_39 (by rw [h12]; decide) (by rw [h12]; decide) (by rw [h12]; decide) (by decide) ?_
    exact tL_undo C CE hls hX hbl hbA hlen hi hcs AA next
  by_cases h13 : v = Int32.ofInt (0 + 13)
  · refine n_tswIn (off := 776) (t := 815) C dL_law_39 (by rw [h13]; decide) (by rw [h13]; decide) (by rw [h13]; decide) (by decide) ?_
    exact tL_match C CE hls hX hbl hbA hlen hi hcs AA next
  by_cases h14 : v = Int32.ofInt (0 + 14)
  · refine n_tswIn (off := 844) (t := 883) C dL_law_39 (by rw [h14]; decide) (by rw [h14]; decide) (by rw [h14]; decide) (by decide) ?_
    exact tL_team C CE hls hX hbl hbA hlen hi hcs AA next
  by_cases h15 : v = Int32.ofInt (0 + 15)
  · refine n_tswIn (off := 912) (t := 951) C dL_law_39 (by rw [h15]; decide) (by rw [h15]; decide) (by rw [h15]; decide) (by decide) ?_
    exact tL_table C CE hls hX hbl hbA hlen hi hcs AA next
  by_cases h16 : v = Int32.ofInt (0 + 16)
  · refine n_tswIn (off := 968) (t := 1007) C dL_law_39 (by rw [h16]; decide) (by rw [h16]; decide) (by rw [h16]; decide) (by decide) ?_
    exact tL_busy C CE hls hX hbl hbA hlen hi hcs AA next
  by_cases h17 : v = Int32.ofInt (0 + 17)
  · refine n_tswIn (off := 1036) (t := 1075) C dL_law_39 (by rw [h17]; decide) (by rw [h17]; decide) (by rw [h17]; decide) (by decide) ?_
    exact tL_count C CE hls hX hbl hbA hlen hi hcs AA next
  by_cases h18 : v = Int32.ofInt (0 + 18)
  · refine n_tswIn (off := 1092) (t := 1131) C dL_law_39 (by rw [h18]; decide) (by rw [h18]; decide) (by rw [h18]; decide) (by decide) ?_
    exact tL_setting C CE hls hX hbl hbA hlen hi hcs AA next
  by_cases h19 : v = Int32.ofInt (0 + 19)
  · refine n_tswIn (off := 1148) (t := 1187) C dL_law_39 (by rw [h19]; decide) (by rw [h19]; decide) (by rw [h19]; decide) (by decide) ?_
    exact tL_meeting C CE hls hX hbl hbA hlen hi hcs AA next
  by_cases h20 : v = Int32.ofInt (0 + 20)
  · refine n_tswIn (off := 1216) (t := 1255) C dL_law_39 (by rw [h20]; decide) (by rw [h20]; decide) (by rw [h20]; decide) (by decide) ?_
    exact tL_bestPlace C CE hls hX hbl hbA hlen hi hcs AA next
  by_cases h21 : v = Int32.ofInt (0 + 21)
  · refine n_tswIn (off := 1272) (t := 1311) C dL_law_39 (by rw [h21]; decide) (by rw [h21]; decide) (by rw [h21]; decide) (by decide) ?_
    exact tL_isSure C CE hls hX hbl hbA hlen hi hcs AA next
  by_cases h22 : v = Int32.ofInt (0 + 22)
  · refine n_tswIn (off := 1328) (t := 1367) C dL_law_39 (by rw [h22]; decide) (by rw [h22]; decide) (by rw [h22]; decide) (by decide) ?_
    exact tL_ifMissing C CE hls hX hbl hbA hlen hi hcs AA next
  by_cases h23 : v = Int32.ofInt (0 + 23)
  · refine n_tswIn (off := 1384) (t := 1423) C dL_law_39 (by rw [h23]; decide) (by rw [h23]; decide) (by rw [h23]; decide) (by decide) ?_
    exact tL_closeness C CE hls hX hbl hbA hlen hi hcs AA next
  by_cases h24 : v = Int32.ofInt (0 + 24)
  · refine n_tswIn (off := 1425) (t := 1464) C dL_law_39 (by rw [h24]; decide) (by rw [h24]; decide) (by rw [h24]; decide) (by decide) ?_
    exact tL_digest C CE hls hX hbl hbA hlen hi hcs AA next
  refine n_tswOut (t := 1478) C dL_law_39 (tsw_out 0 25 (fun i hi => by rcases i with _|_|_|_|_|_|_|_|_|_|_|_|_|_|_|_|_|_|_|_|_|_|_|_|_|i <;> first | exact h0 | exact h1 | exact h2 | exact h3 | exact h4 | exact h5 | exact h6 | exact h7 | exact h8 | exact h9 | exact h10 | exact h11 | exact h12 | exact h13 | exact h14 | exact h15 | exact h16 | exact h17 | exact h18 | exact h19 | exact h20 | exact h21 | exact h22 | exact h23 | exact h24 | omega)) (by decide) ?_
  exact next _ _ _ _ _ _ _ _ _ _ _ AA (Nat.le_add_right _ 1) (Nat.le_add_right _ 6)
end LAWC
