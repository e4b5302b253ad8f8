/-! THE LAW: what it finds at its start -/
def lw_G : Cond := Jvm.Cond.and given_1 narrow_1
set_option maxRecDepth 20000 in
theorem inT_0 : GoodIn lw_tbl (u_ws RX0 TX0 2) := goodIn_r _ [242, 244] (by decide +kernel) (by decide +kernel)
set_option maxRecDepth 20000 in
theorem inT_1 : GoodIn lw_tbl (u_ws RX1 TX1 15) := goodIn_r _ [145, 147, 149, 151, 153, 155, 157, 159, 161, 163, 165, 167, 169, 171, 173] (by decide +kernel) (by decide +kernel)
set_option maxRecDepth 20000 in
theorem inT_2 : GoodIn lw_tbl (u_ws RX2 TX2 8) := goodIn_r _ [267, 269, 271, 273, 275, 277, 279, 281] (by decide +kernel) (by decide +kernel)
set_option maxRecDepth 20000 in
theorem inT_3 : GoodIn lw_tbl (u_ws RX3 TX3 4) := goodIn_r _ [221, 223, 225, 227] (by decide +kernel) (by decide +kernel)
set_option maxRecDepth 20000 in
theorem inT_4 : GoodIn lw_tbl (u_ws RX4 TX4 9) := goodIn_r _ [192, 194, 196, 198, 200, 202, 204, 206, 208] (by decide +kernel) (by decide +kernel)
set_option maxRecDepth 20000 in
theorem inT_5 : GoodIn lw_tbl (u_ws RX5 TX5 7) := goodIn_r _ [291, 293, 295, 297, 299, 301, 303] (by decide +kernel) (by decide +kernel)
set_option maxRecDepth 20000 in
theorem inT_6 : GoodIn lw_tbl (u_ws RX6 TX6 12) := goodIn_r _ [868, 870, 872, 874, 876, 878, 880, 882, 884, 886, 888, 890] (by decide +kernel) (by decide +kernel)
set_option maxHeartbeats 2000000 in
theorem law_K {s : State} {b : Nat} (hts : ∀ w ∈ lw_tbl, w.before #[Value.ref b] s = true) : ∃ (D : va_G) (cyI cyO cyJ : ClassId), va_K D vwCl (tyG cyI cyO cyJ) s := by
  obtain ⟨c0, i0, k0⟩ := u_known (C := RX0) (T := TX0) (N := 2) (n := 2) hts (fun w h => (inT_0 w h).1) (hts (.instantiable "QuizFixtures$History" 2) (List.mem_of_getElem? (i := 231) (by decide +kernel)))
  obtain ⟨c1, i1, k1⟩ := u_known (C := RX1) (T := TX1) (N := 15) (n := 15) hts (fun w h => (inT_1 w h).1) (hts (.instantiable "QuizFixtures$League" 15) (List.mem_of_getElem? (i := 79) (by decide +kernel)))
  obtain ⟨c2, i2, k2⟩ := u_known (C := RX2) (T := TX2) (N := 8) (n := 8) hts (fun w h => (inT_2 w h).1) (hts (.instantiable "QuizFixtures$ResultText" 8) (List.mem_of_getElem? (i := 248) (by decide +kernel)))
  obtain ⟨c3, i3, k3⟩ := u_known (C := RX3) (T := TX3) (N := 4) (n := 4) hts (fun w h => (inT_3 w h).1) (hts (.instantiable "QuizFixtures$Staging" 4) (List.mem_of_getElem? (i := 212) (by decide +kernel)))
  obtain ⟨c4, i4, k4⟩ := u_known (C := RX4) (T := TX4) (N := 9) (n := 9) hts (fun w h => (inT_4 w h).1) (hts (.instantiable "QuizFixtures$Standings" 9) (List.mem_of_getElem? (i := 178) (by decide +kernel)))
  obtain ⟨c5, i5, k5⟩ := u_known (C := RX5) (T := TX5) (N := 7) (n := 7) hts (fun w h => (inT_5 w h).1) (hts (.instantiable "QuizFixtures" 7) (List.mem_of_getElem? (i := 71) (by decide +kernel)))
  obtain ⟨c6, i6, k6⟩ := u_known (C := RX6) (T := TX6) (N := 12) (n := 12) hts (fun w h => (inT_6 w h).1) (hts (.instantiable "QuizFixturesModel" 12) (List.mem_of_getElem? (i := 843) (by decide +kernel)))
  obtain ⟨cyI, kI, pI, fI, gI, hI⟩ := Cond.arrayClass_spec (hts (.arrayClass .int) (List.mem_of_getElem? (i := 176) (by decide +kernel)))
  obtain ⟨cyJ, kJ, pJ, fJ, gJ, hJ⟩ := Cond.arrayClass_spec (hts (.arrayClass .long) (List.mem_of_getElem? (i := 1155) (by decide +kernel)))
  obtain ⟨pO, cyO, kO9, fO, -, gO, hO, nO⟩ := Cond.arrayOver_spec (hts (.arrayOver (.object "QuizFixtures$League")) (List.mem_of_getElem? (i := 237) (by decide +kernel)))
  refine ⟨(fun k => match k with | 0 => c0 | 1 => c1 | 2 => c2 | 3 => c3 | 4 => c4 | 5 => c5 | _ => c6, fun k => match k with | 0 => i0 | 1 => i1 | 2 => i2 | 3 => i3 | 4 => i4 | 5 => i5 | _ => i6), cyI, cyO, cyJ, ?_, ?_⟩
  · intro k q hq
    match k, hq with
    | 0, hq => cases hq; exact k0
    | 1, hq => cases hq; exact k1
    | 2, hq => cases hq; exact k2
    | 3, hq => cases hq; exact k3
    | 4, hq => cases hq; exact k4
    | 5, hq => cases hq; exact k5
    | 6, hq => cases hq; exact k6
    | k + 7, hq => simp [vwCl] at hq
  · intro k q hq
    match k, hq with
    | 0, hq => cases hq; exact ⟨fun n z => ⟨fun k h => (by cases h), kI, gI, pI, hI⟩, fI⟩
    | 1, hq => cases hq; exact ⟨fun n z => ⟨fun k h => (by cases h), kO9, gO, pO, hO⟩, kO9, pO, gO, hO, fO, nO⟩
    | 2, hq => cases hq; exact ⟨fun n z => ⟨fun k h => (by cases h), kJ, gJ, pJ, hJ⟩, fJ⟩
    | k + 3, hq => simp at hq
theorem law_str {s : State} {b : Nat} (hts : ∀ w ∈ lw_tbl, w.before #[Value.ref b] s = true) (hs : ∀ c ∈ flatC lw_G, c.before #[Value.ref b] s = true) {k : Nat} {t : String} (h1 : Cond.stringRef RX5 k t ∈ lw_tbl) (h2 : Cond.exactly (.string RX5 k) "java/lang/String" ∈ flatC lw_G) : ∃ sa, vk_R RX5 k t sa s := by
  obtain ⟨a, c, cell, kk, q1, -⟩ := Cond.exactly_spec (hs _ h2)
  exact ⟨a, vk_R.of (hts _ h1) q1⟩
set_option maxHeartbeats 2000000 in
set_option maxRecDepth 20000 in
theorem law_strs {s : State} {b : Nat} (hts : ∀ w ∈ lw_tbl, w.before #[Value.ref b] s = true) (hs : ∀ c ∈ flatC lw_G, c.before #[Value.ref b] s = true) : ∀ q ∈ tx5, ∃ sa, vk_R RX5 q.1 q.2 sa s := by
  unfold tx5
  exact List.forall_mem_cons.mpr ⟨law_str hts hs (List.mem_of_getElem? (i := 648) (by decide +kernel)) (List.mem_of_getElem? (i := 176) (by decide +kernel)), List.forall_mem_cons.mpr ⟨law_str hts hs (List.mem_of_getElem? (i := 662) (by decide +kernel)) (List.mem_of_getElem? (i := 203) (by decide +kernel)), List.forall_mem_cons.mpr ⟨law_str hts hs (List.mem_of_getElem? (i := 695) (by decide +kernel)) (List.mem_of_getElem? (i := 235) (by decide +kernel)), List.forall_mem_cons.mpr ⟨law_str hts hs (List.mem_of_getElem? (i := 700) (by decide +kernel)) (List.mem_of_getElem? (i := 261) (by decide +kernel)), List.forall_mem_cons.mpr ⟨law_str hts hs (List.mem_of_getElem? (i := 708) (by decide +kernel)) (List.mem_of_getElem? (i := 306) (by decide +kernel)), List.forall_mem_cons.mpr ⟨law_str hts hs (List.mem_of_getElem? (i := 709) (by decide +kernel)) (List.mem_of_getElem? (i := 348) (by decide +kernel)), List.forall_mem_cons.mpr ⟨law_str hts hs (List.mem_of_getElem? (i := 725) (by decide +kernel)) (List.mem_of_getElem? (i := 380) (by decide +kernel)), List.forall_mem_cons.mpr ⟨law_str hts hs (List.mem_of_getElem? (i := 736) (by decide +kernel)) (List.mem_of_getElem? (i := 429) (by decide +kernel)), List.forall_mem_cons.mpr ⟨law_str hts hs (List.mem_of_getElem? (i := 744) (by decide +kernel)) (List.mem_of_getElem? (i := 482) (by decide +kernel)), List.forall_mem_cons.mpr ⟨law_str hts hs (List.mem_of_getElem? (i := 756) (by decide +kernel)) (List.mem_of_getElem? (i := 515) (by decide +kernel)), List.forall_mem_cons.mpr ⟨law_str hts hs (List.mem_of_getElem? (i := 768) (by decide +kernel)) (List.mem_of_getElem? (i := 566) (by decide +kernel)), List.forall_mem_cons.mpr ⟨law_str hts hs (List.mem_of_getElem? (i := 769) (by decide +kernel)) (List.mem_of_getElem? (i := 597) (by decide +kernel)), List.forall_mem_cons.mpr ⟨law_str hts hs (List.mem_of_getElem? (i := 777) (by decide +kernel)) (List.mem_of_getElem? (i := 649) (by decide +kernel)), List.forall_mem_cons.mpr ⟨law_str hts hs (List.mem_of_getElem? (i := 785) (by decide +kernel)) (List.mem_of_getElem? (i := 696) (by decide +kernel)), List.forall_mem_cons.mpr ⟨law_str hts hs (List.mem_of_getElem? (i := 789) (by decide +kernel)) (List.mem_of_getElem? (i := 731) (by decide +kernel)), List.forall_mem_cons.mpr ⟨law_str hts hs (List.mem_of_getElem? (i := 801) (by decide +kernel)) (List.mem_of_getElem? (i := 784) (by decide +kernel)), List.forall_mem_cons.mpr ⟨law_str hts hs (List.mem_of_getElem? (i := 816) (by decide +kernel)) (List.mem_of_getElem? (i := 830) (by decide +kernel)), List.forall_mem_cons.mpr ⟨law_str hts hs (List.mem_of_getElem? (i := 571) (by decide +kernel)) (List.mem_of_getElem? (i := 54) (by decide +kernel)), List.forall_mem_cons.mpr ⟨law_str hts hs (List.mem_of_getElem? (i := 616) (by decide +kernel)) (List.mem_of_getElem? (i := 83) (by decide +kernel)), List.forall_mem_cons.mpr ⟨law_str hts hs (List.mem_of_getElem? (i := 626) (by decide +kernel)) (List.mem_of_getElem? (i := 101) (by decide +kernel)), List.forall_mem_cons.mpr ⟨law_str hts hs (List.mem_of_getElem? (i := 634) (by decide +kernel)) (List.mem_of_getElem? (i := 134) (by decide +kernel)), List.forall_mem_cons.mpr ⟨law_str hts hs (List.mem_of_getElem? (i := 644) (by decide +kernel)) (List.mem_of_getElem? (i := 155) (by decide +kernel)), fun _ h => absurd h List.not_mem_nil⟩⟩⟩⟩⟩⟩⟩⟩⟩⟩⟩⟩⟩⟩⟩⟩⟩⟩⟩⟩⟩⟩
set_option maxHeartbeats 2000000 in
theorem law_LEAST_VALUES {s : State} {b : Nat} (hts : ∀ w ∈ lw_tbl, w.before #[Value.ref b] s = true) (hs : ∀ c ∈ flatC lw_G, c.before #[Value.ref b] s = true) : SA4 "LEAST_VALUES" sLV (fun q => s.heap.size ≤ q) s := by
  have hel : ∀ j : Nat, j < 4 → (Term.elem (.static "QuizFixtures" "LEAST_VALUES" "[I") (.int (Int32.ofNat j))).eval #[Value.ref b] s none [] s = some (Value.int (sLV j)) := by
    intro j hj
    rcases (show j = 0 ∨ j = 1 ∨ j = 2 ∨ j = 3 by omega) with rfl | rfl | rfl | rfl
    · exact va_eqt (hs (.eq (.elem (.static "QuizFixtures" "LEAST_VALUES" "[I") (.int 0)) (.int 1)) (List.mem_of_getElem? (i := 16) (by decide +kernel)))
    · exact va_eqt (hs (.eq (.elem (.static "QuizFixtures" "LEAST_VALUES" "[I") (.int 1)) (.int 0)) (List.mem_of_getElem? (i := 17) (by decide +kernel)))
    · exact va_eqt (hs (.eq (.elem (.static "QuizFixtures" "LEAST_VALUES" "[I") (.int 2)) (.int 1)) (List.mem_of_getElem? (i := 18) (by decide +kernel)))
    · exact va_eqt (hs (.eq (.elem (.static "QuizFixtures" "LEAST_VALUES" "[I") (.int 3)) (.int 1)) (List.mem_of_getElem? (i := 19) (by decide +kernel)))
  obtain ⟨t, e, hT⟩ := va_Tof (args := #[Value.ref b]) (s := s) (tm := (.static "QuizFixtures" "LEAST_VALUES" "[I")) (ty := .int) (N := 4) (f := fun j => .int (sLV j)) (A := fun q => s.heap.size ≤ q) (by decide) (hs (.arrayOf (.static "QuizFixtures" "LEAST_VALUES" "[I") .int) (List.mem_of_getElem? (i := 14) (by decide +kernel))) (va_eqt (hs (.eq (.length (.static "QuizFixtures" "LEAST_VALUES" "[I")) (.int 4)) (List.mem_of_getElem? (i := 15) (by decide +kernel)))) hel (fun a h => Nat.not_le.mpr h)
  exact ⟨t, va_Zof (hts (.laysStatic "QuizFixtures" "LEAST_VALUES" "[I") (List.mem_of_getElem? (i := 697) (by decide +kernel))) (hts (.initialized "QuizFixtures") (List.mem_of_getElem? (i := 54) (by decide +kernel))) e (fun a h => Nat.not_le.mpr h), hT⟩
set_option maxHeartbeats 2000000 in
theorem law_GREATEST_VALUES {s : State} {b : Nat} (hts : ∀ w ∈ lw_tbl, w.before #[Value.ref b] s = true) (hs : ∀ c ∈ flatC lw_G, c.before #[Value.ref b] s = true) : SA4 "GREATEST_VALUES" sGV (fun q => s.heap.size ≤ q) s := by
  have hel : ∀ j : Nat, j < 4 → (Term.elem (.static "QuizFixtures" "GREATEST_VALUES" "[I") (.int (Int32.ofNat j))).eval #[Value.ref b] s none [] s = some (Value.int (sGV j)) := by
    intro j hj
    rcases (show j = 0 ∨ j = 1 ∨ j = 2 ∨ j = 3 by omega) with rfl | rfl | rfl | rfl
    · exact va_eqt (hs (.eq (.elem (.static "QuizFixtures" "GREATEST_VALUES" "[I") (.int 0)) (.int 5)) (List.mem_of_getElem? (i := 23) (by decide +kernel)))
    · exact va_eqt (hs (.eq (.elem (.static "QuizFixtures" "GREATEST_VALUES" "[I") (.int 1)) (.int 3)) (List.mem_of_getElem? (i := 24) (by decide +kernel)))
    · exact va_eqt (hs (.eq (.elem (.static "QuizFixtures" "GREATEST_VALUES" "[I") (.int 2)) (.int 50)) (List.mem_of_getElem? (i := 25) (by decide +kernel)))
    · exact va_eqt (hs (.eq (.elem (.static "QuizFixtures" "GREATEST_VALUES" "[I") (.int 3)) (.int 28)) (List.mem_of_getElem? (i := 26) (by decide +kernel)))
  obtain ⟨t, e, hT⟩ := va_Tof (args := #[Value.ref b]) (s := s) (tm := (.static "QuizFixtures" "GREATEST_VALUES" "[I")) (ty := .int) (N := 4) (f := fun j => .int (sGV j)) (A := fun q => s.heap.size ≤ q) (by decide) (hs (.arrayOf (.static "QuizFixtures" "GREATEST_VALUES" "[I") .int) (List.mem_of_getElem? (i := 21) (by decide +kernel))) (va_eqt (hs (.eq (.length (.static "QuizFixtures" "GREATEST_VALUES" "[I")) (.int 4)) (List.mem_of_getElem? (i := 22) (by decide +kernel)))) hel (fun a h => Nat.not_le.mpr h)
  exact ⟨t, va_Zof (hts (.laysStatic "QuizFixtures" "GREATEST_VALUES" "[I") (List.mem_of_getElem? (i := 699) (by decide +kernel))) (hts (.initialized "QuizFixtures") (List.mem_of_getElem? (i := 54) (by decide +kernel))) e (fun a h => Nat.not_le.mpr h), hT⟩
set_option maxHeartbeats 2000000 in
theorem law_VALUES_AT_FIRST {s : State} {b : Nat} (hts : ∀ w ∈ lw_tbl, w.before #[Value.ref b] s = true) (hs : ∀ c ∈ flatC lw_G, c.before #[Value.ref b] s = true) : SA4 "VALUES_AT_FIRST" sVF (fun q => s.heap.size ≤ q) s := by
  have hel : ∀ j : Nat, j < 4 → (Term.elem (.static "QuizFixtures" "VALUES_AT_FIRST" "[I") (.int (Int32.ofNat j))).eval #[Value.ref b] s none [] s = some (Value.int (sVF j)) := by
    intro j hj
    rcases (show j = 0 ∨ j = 1 ∨ j = 2 ∨ j = 3 by omega) with rfl | rfl | rfl | rfl
    · exact va_eqt (hs (.eq (.elem (.static "QuizFixtures" "VALUES_AT_FIRST" "[I") (.int 0)) (.int 2)) (List.mem_of_getElem? (i := 7) (by decide +kernel)))
    · exact va_eqt (hs (.eq (.elem (.static "QuizFixtures" "VALUES_AT_FIRST" "[I") (.int 1)) (.int 1)) (List.mem_of_getElem? (i := 8) (by decide +kernel)))
    · exact va_eqt (hs (.eq (.elem (.static "QuizFixtures" "VALUES_AT_FIRST" "[I") (.int 2)) (.int 20)) (List.mem_of_getElem? (i := 9) (by decide +kernel)))
    · exact va_eqt (hs (.eq (.elem (.static "QuizFixtures" "VALUES_AT_FIRST" "[I") (.int 3)) (.int 9)) (List.mem_of_getElem? (i := 10) (by decide +kernel)))
  obtain ⟨t, e, hT⟩ := va_Tof (args := #[Value.ref b]) (s := s) (tm := (.static "QuizFixtures" "VALUES_AT_FIRST" "[I")) (ty := .int) (N := 4) (f := fun j => .int (sVF j)) (A := fun q => s.heap.size ≤ q) (by decide) (hs (.arrayOf (.static "QuizFixtures" "VALUES_AT_FIRST" "[I") .int) (List.mem_of_getElem? (i := 5) (by decide +kernel))) (va_eqt (hs (.eq (.length (.static "QuizFixtures" "VALUES_AT_FIRST" "[I")) (.int 4)) (List.mem_of_getElem? (i := 6) (by decide +kernel)))) hel (fun a h => Nat.not_le.mpr h)
  exact ⟨t, va_Zof (hts (.laysStatic "QuizFixtures" "VALUES_AT_FIRST" "[I") (List.mem_of_getElem? (i := 85) (by decide +kernel))) (hts (.initialized "QuizFixtures") (List.mem_of_getElem? (i := 54) (by decide +kernel))) e (fun a h => Nat.not_le.mpr h), hT⟩
set_option maxHeartbeats 2000000 in
theorem law_bad {s : State} {b : Nat} (hts : ∀ w ∈ lw_tbl, w.before #[Value.ref b] s = true) : ∀ X ∈ ex5, BAD X s := by
  have h1 : va_Nw (.declares (Bundle.initS "java/lang/RuntimeException")) s := va_Nw.of rfl (hts (.declares ⟨"java/lang/RuntimeException", "<init>", "(Ljava/lang/String;)V"⟩) (List.mem_of_getElem? (i := 534) (by decide +kernel)))
  have h2 : va_Nw (.declares (Bundle.initS "java/lang/Exception")) s := va_Nw.of rfl (hts (.declares ⟨"java/lang/Exception", "<init>", "(Ljava/lang/String;)V"⟩) (List.mem_of_getElem? (i := 536) (by decide +kernel)))
  have h3 : va_Nw (.declares (Bundle.initS Bundle.tN)) s := va_Nw.of rfl (hts (.declares ⟨"java/lang/Throwable", "<init>", "(Ljava/lang/String;)V"⟩) (List.mem_of_getElem? (i := 538) (by decide +kernel)))
  unfold ex5
  exact List.forall_mem_cons.mpr ⟨⟨h1, h2, h3, va_Nw.of rfl (hts (.castable "java/lang/IllegalArgumentException" "java/lang/IllegalArgumentException") (List.mem_of_getElem? (i := 532) (by decide +kernel)))⟩, List.forall_mem_cons.mpr ⟨⟨h1, h2, h3, va_Nw.of rfl (hts (.castable "java/lang/IndexOutOfBoundsException" "java/lang/IndexOutOfBoundsException") (List.mem_of_getElem? (i := 609) (by decide +kernel)))⟩, List.forall_mem_cons.mpr ⟨⟨h1, h2, h3, va_Nw.of rfl (hts (.castable "java/lang/IllegalStateException" "java/lang/IllegalStateException") (List.mem_of_getElem? (i := 655) (by decide +kernel)))⟩, fun _ h => absurd h List.not_mem_nil⟩⟩⟩
set_option maxHeartbeats 2000000 in
theorem law_env {s : State} {b : Nat} (hts : ∀ w ∈ lw_tbl, w.before #[Value.ref b] s = true) (hs : ∀ c ∈ flatC lw_G, c.before #[Value.ref b] s = true) : ENVL (fun q => s.heap.size ≤ q) s :=
  ⟨⟨vx_Zqof (hts (.laysStatic "java/lang/Throwable" "UNASSIGNED_STACK" "[Ljava/lang/StackTraceElement;") (List.mem_of_getElem? (i := 557) (by decide +kernel))) (hts (.initialized "java/lang/Throwable") (List.mem_of_getElem? (i := 62) (by decide +kernel))) (hs (.isRef (.static "java/lang/Throwable" "UNASSIGNED_STACK" "[Ljava/lang/StackTraceElement;")) (List.mem_of_getElem? (i := 11) (by decide +kernel))) (fun a h => Nat.not_le.mpr h), vx_Zqof (hts (.laysStatic "java/lang/Throwable" "SUPPRESSED_SENTINEL" "Ljava/util/List;") (List.mem_of_getElem? (i := 559) (by decide +kernel))) (hts (.initialized "java/lang/Throwable") (List.mem_of_getElem? (i := 62) (by decide +kernel))) (hs (.isRef (.static "java/lang/Throwable" "SUPPRESSED_SENTINEL" "Ljava/util/List;")) (List.mem_of_getElem? (i := 12) (by decide +kernel))) (fun a h => Nat.not_le.mpr h), law_strs hts hs, law_bad hts, law_LEAST_VALUES hts hs, law_GREATEST_VALUES hts hs⟩, va_Nc.of (hs (.not (.castable "java/lang/IllegalArgumentException" "java/lang/IndexOutOfBoundsException")) (List.mem_of_getElem? (i := 43) (by decide +kernel))), va_Nc.of (hs (.not (.castable "java/lang/IllegalStateException" "java/lang/IndexOutOfBoundsException")) (List.mem_of_getElem? (i := 44) (by decide +kernel))), va_Nc.of (hs (.not (.castable "java/lang/IllegalStateException" "java/lang/IllegalArgumentException")) (List.mem_of_getElem? (i := 35) (by decide +kernel)))⟩
set_option maxHeartbeats 2000000 in
theorem law_envm {s : State} {b : Nat} (hts : ∀ w ∈ lw_tbl, w.before #[Value.ref b] s = true) (hs : ∀ c ∈ flatC lw_G, c.before #[Value.ref b] s = true) : ENVM (fun q => s.heap.size ≤ q) s :=
  ⟨law_VALUES_AT_FIRST hts hs, va_Nw.of rfl (hts (.fieldLinkNest "QuizFixtures$League" 48 "QuizFixtures" "VALUES_AT_FIRST" "[I" "QuizFixtures") (List.mem_of_getElem? (i := 84) (by decide +kernel))), va_AO.of (hts (.arrayOver (.object "QuizFixtures$League")) (List.mem_of_getElem? (i := 237) (by decide +kernel))), va_Nw.of rfl (hts (.methodLinkNest "QuizFixtures" 18 ⟨"QuizFixtures$Standings", "<init>", "()V"⟩ "QuizFixtures") (List.mem_of_getElem? (i := 179) (by decide +kernel))), va_Nw.of rfl (hts (.methodLinkNest "QuizFixtures" 25 ⟨"QuizFixtures$Staging", "<init>", "()V"⟩ "QuizFixtures") (List.mem_of_getElem? (i := 213) (by decide +kernel))), va_Nw.of rfl (hts (.methodLinkNest "QuizFixtures" 39 ⟨"QuizFixtures$ResultText", "<init>", "()V"⟩ "QuizFixtures") (List.mem_of_getElem? (i := 249) (by decide +kernel)))⟩
