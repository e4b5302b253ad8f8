/-! THE LAW: what it finds at its start -/
def lw_G : Cond := Jvm.Cond.and given_1 narrow_1
set_option maxRecDepth 20000 in
theorem inT_0 : GoodIn lw_tbl (u_ws RX0 TX0 2) := goodIn_r _ [204, 206] (by decide +kernel) (by decide +kernel)
set_option maxRecDepth 20000 in
theorem inT_1 : GoodIn lw_tbl (u_ws RX1 TX1 15) := goodIn_r _ [107, 109, 111, 113, 115, 117, 119, 121, 123, 125, 127, 129, 131, 133, 135] (by decide +kernel) (by decide +kernel)
set_option maxRecDepth 20000 in
theorem inT_2 : GoodIn lw_tbl (u_ws RX2 TX2 8) := goodIn_r _ [220, 222, 224, 226, 228, 230, 232, 234] (by decide +kernel) (by decide +kernel)
set_option maxRecDepth 20000 in
theorem inT_3 : GoodIn lw_tbl (u_ws RX3 TX3 4) := goodIn_r _ [183, 185, 187, 189] (by decide +kernel) (by decide +kernel)
set_option maxRecDepth 20000 in
theorem inT_4 : GoodIn lw_tbl (u_ws RX4 TX4 9) := goodIn_r _ [154, 156, 158, 160, 162, 164, 166, 168, 170] (by decide +kernel) (by decide +kernel)
set_option maxRecDepth 20000 in
theorem inT_5 : GoodIn lw_tbl (u_ws RX5 TX5 7) := goodIn_r _ [244, 246, 248, 250, 252, 254, 256] (by decide +kernel) (by decide +kernel)
set_option maxHeartbeats 2000000 in
theorem law_K {s : State} {b : Nat} (hts : ∀ w ∈ lw_tbl, w.before #[Value.ref b] s = true) : ∃ (D : va_G) (cyI cyO cyJ : ClassId), va_K D vwCl (tyG cyI cyO cyJ) s := by
  obtain ⟨c0, i0, k0⟩ := u_known (C := RX0) (T := TX0) (N := 2) (n := 2) hts (fun w h => (inT_0 w h).1) (hts (.instantiable "QuizFixtures$History" 2) (List.mem_of_getElem? (i := 193) (by decide +kernel)))
  obtain ⟨c1, i1, k1⟩ := u_known (C := RX1) (T := TX1) (N := 15) (n := 15) hts (fun w h => (inT_1 w h).1) (hts (.instantiable "QuizFixtures$League" 15) (List.mem_of_getElem? (i := 41) (by decide +kernel)))
  obtain ⟨c2, i2, k2⟩ := u_known (C := RX2) (T := TX2) (N := 8) (n := 8) hts (fun w h => (inT_2 w h).1) (hts (.instantiable "QuizFixtures$ResultText" 8) (List.mem_of_getElem? (i := 210) (by decide +kernel)))
  obtain ⟨c3, i3, k3⟩ := u_known (C := RX3) (T := TX3) (N := 4) (n := 4) hts (fun w h => (inT_3 w h).1) (hts (.instantiable "QuizFixtures$Staging" 4) (List.mem_of_getElem? (i := 174) (by decide +kernel)))
  obtain ⟨c4, i4, k4⟩ := u_known (C := RX4) (T := TX4) (N := 9) (n := 9) hts (fun w h => (inT_4 w h).1) (hts (.instantiable "QuizFixtures$Standings" 9) (List.mem_of_getElem? (i := 140) (by decide +kernel)))
  obtain ⟨c5, i5, k5⟩ := u_known (C := RX5) (T := TX5) (N := 7) (n := 7) hts (fun w h => (inT_5 w h).1) (hts (.instantiable "QuizFixtures" 7) (List.mem_of_getElem? (i := 33) (by decide +kernel)))
  obtain ⟨cyI, kI, pI, fI, gI, hI⟩ := Cond.arrayClass_spec (hts (.arrayClass .int) (List.mem_of_getElem? (i := 138) (by decide +kernel)))
  obtain ⟨pO, cyO, kO9, fO, -, gO, hO, nO⟩ := Cond.arrayOver_spec (hts (.arrayOver (.object "QuizFixtures$League")) (List.mem_of_getElem? (i := 199) (by decide +kernel)))
  refine ⟨(fun k => match k with | 0 => c0 | 1 => c1 | 2 => c2 | 3 => c3 | 4 => c4 | _ => c5, fun k => match k with | 0 => i0 | 1 => i1 | 2 => i2 | 3 => i3 | 4 => i4 | _ => i5), cyI, cyO, cyI, ?_, ?_⟩
  · intro k q hq
    match k, hq with
    | 0, hq => cases hq; exact k0
    | 1, hq => cases hq; exact k1
    | 2, hq => cases hq; exact k2
    | 3, hq => cases hq; exact k3
    | 4, hq => cases hq; exact k4
    | 5, hq => cases hq; exact k5
    | k + 6, hq => simp [vwCl] at hq
  · intro k q hq
    match k, hq with
    | 0, hq => cases hq; exact ⟨fun n z => ⟨fun k h => (by cases h), kI, gI, pI, hI⟩, fI⟩
    | 1, hq => cases hq; exact ⟨fun n z => ⟨fun k h => (by cases h), kO9, gO, pO, hO⟩, kO9, pO, gO, hO, fO, nO⟩
    | k + 2, hq => simp at hq
theorem law_str {s : State} {b : Nat} (hts : ∀ w ∈ lw_tbl, w.before #[Value.ref b] s = true) (hs : ∀ c ∈ flatC lw_G, c.before #[Value.ref b] s = true) {k : Nat} {t : String} (h1 : Cond.stringRef RX5 k t ∈ lw_tbl) (h2 : Cond.exactly (.string RX5 k) "java/lang/String" ∈ flatC lw_G) : ∃ sa, vk_R RX5 k t sa s := by
  obtain ⟨a, c, cell, kk, q1, -⟩ := Cond.exactly_spec (hs _ h2)
  exact ⟨a, vk_R.of (hts _ h1) q1⟩
set_option maxHeartbeats 2000000 in
set_option maxRecDepth 20000 in
theorem law_strs {s : State} {b : Nat} (hts : ∀ w ∈ lw_tbl, w.before #[Value.ref b] s = true) (hs : ∀ c ∈ flatC lw_G, c.before #[Value.ref b] s = true) : ∀ q ∈ tx5, ∃ sa, vk_R RX5 q.1 q.2 sa s := by
  unfold tx5
  exact List.forall_mem_cons.mpr ⟨law_str hts hs (List.mem_of_getElem? (i := 588) (by decide +kernel)) (List.mem_of_getElem? (i := 382) (by decide +kernel)), List.forall_mem_cons.mpr ⟨law_str hts hs (List.mem_of_getElem? (i := 602) (by decide +kernel)) (List.mem_of_getElem? (i := 415) (by decide +kernel)), List.forall_mem_cons.mpr ⟨law_str hts hs (List.mem_of_getElem? (i := 490) (by decide +kernel)) (List.mem_of_getElem? (i := 234) (by decide +kernel)), List.forall_mem_cons.mpr ⟨law_str hts hs (List.mem_of_getElem? (i := 647) (by decide +kernel)) (List.mem_of_getElem? (i := 561) (by decide +kernel)), List.forall_mem_cons.mpr ⟨law_str hts hs (List.mem_of_getElem? (i := 655) (by decide +kernel)) (List.mem_of_getElem? (i := 614) (by decide +kernel)), List.forall_mem_cons.mpr ⟨law_str hts hs (List.mem_of_getElem? (i := 344) (by decide +kernel)) (List.mem_of_getElem? (i := 52) (by decide +kernel)), List.forall_mem_cons.mpr ⟨law_str hts hs (List.mem_of_getElem? (i := 471) (by decide +kernel)) (List.mem_of_getElem? (i := 155) (by decide +kernel)), List.forall_mem_cons.mpr ⟨law_str hts hs (List.mem_of_getElem? (i := 498) (by decide +kernel)) (List.mem_of_getElem? (i := 260) (by decide +kernel)), List.forall_mem_cons.mpr ⟨law_str hts hs (List.mem_of_getElem? (i := 523) (by decide +kernel)) (List.mem_of_getElem? (i := 304) (by decide +kernel)), List.forall_mem_cons.mpr ⟨law_str hts hs (List.mem_of_getElem? (i := 481) (by decide +kernel)) (List.mem_of_getElem? (i := 211) (by decide +kernel)), List.forall_mem_cons.mpr ⟨law_str hts hs (List.mem_of_getElem? (i := 419) (by decide +kernel)) (List.mem_of_getElem? (i := 118) (by decide +kernel)), List.forall_mem_cons.mpr ⟨law_str hts hs (List.mem_of_getElem? (i := 364) (by decide +kernel)) (List.mem_of_getElem? (i := 90) (by decide +kernel)), List.forall_mem_cons.mpr ⟨law_str hts hs (List.mem_of_getElem? (i := 472) (by decide +kernel)) (List.mem_of_getElem? (i := 175) (by decide +kernel)), List.forall_mem_cons.mpr ⟨law_str hts hs (List.mem_of_getElem? (i := 562) (by decide +kernel)) (List.mem_of_getElem? (i := 343) (by decide +kernel)), List.forall_mem_cons.mpr ⟨law_str hts hs (List.mem_of_getElem? (i := 629) (by decide +kernel)) (List.mem_of_getElem? (i := 453) (by decide +kernel)), List.forall_mem_cons.mpr ⟨law_str hts hs (List.mem_of_getElem? (i := 633) (by decide +kernel)) (List.mem_of_getElem? (i := 483) (by decide +kernel)), List.forall_mem_cons.mpr ⟨law_str hts hs (List.mem_of_getElem? (i := 638) (by decide +kernel)) (List.mem_of_getElem? (i := 528) (by decide +kernel)), List.forall_mem_cons.mpr ⟨law_str hts hs (List.mem_of_getElem? (i := 308) (by decide +kernel)) (List.mem_of_getElem? (i := 35) (by decide +kernel)), fun _ h => absurd h List.not_mem_nil⟩⟩⟩⟩⟩⟩⟩⟩⟩⟩⟩⟩⟩⟩⟩⟩⟩⟩
set_option maxHeartbeats 2000000 in
theorem law_LEAST_VALUES {s : State} {b : Nat} (hts : ∀ w ∈ lw_tbl, w.before #[Value.ref b] s = true) (hs : ∀ c ∈ flatC lw_G, c.before #[Value.ref b] s = true) : SA4 "LEAST_VALUES" sLV (fun q => s.heap.size ≤ q) s := by
  have hel : ∀ j : Nat, j < 4 → (Term.elem (.static "QuizFixtures" "LEAST_VALUES" "[I") (.int (Int32.ofNat j))).eval #[Value.ref b] s none [] s = some (Value.int (sLV j)) := by
    intro j hj
    rcases (show j = 0 ∨ j = 1 ∨ j = 2 ∨ j = 3 by omega) with rfl | rfl | rfl | rfl
    · exact va_eqt (hs (.eq (.elem (.static "QuizFixtures" "LEAST_VALUES" "[I") (.int 0)) (.int 1)) (List.mem_of_getElem? (i := 16) (by decide +kernel)))
    · exact va_eqt (hs (.eq (.elem (.static "QuizFixtures" "LEAST_VALUES" "[I") (.int 1)) (.int 0)) (List.mem_of_getElem? (i := 17) (by decide +kernel)))
    · exact va_eqt (hs (.eq (.elem (.static "QuizFixtures" "LEAST_VALUES" "[I") (.int 2)) (.int 1)) (List.mem_of_getElem? (i := 18) (by decide +kernel)))
    · exact va_eqt (hs (.eq (.elem (.static "QuizFixtures" "LEAST_VALUES" "[I") (.int 3)) (.int 1)) (List.mem_of_getElem? (i := 19) (by decide +kernel)))
  obtain ⟨t, e, hT⟩ := va_Tof (args := #[Value.ref b]) (s := s) (tm := (.static "QuizFixtures" "LEAST_VALUES" "[I")) (ty := .int) (N := 4) (f := fun j => .int (sLV j)) (A := fun q => s.heap.size ≤ q) (by decide) (hs (.arrayOf (.static "QuizFixtures" "LEAST_VALUES" "[I") .int) (List.mem_of_getElem? (i := 14) (by decide +kernel))) (va_eqt (hs (.eq (.length (.static "QuizFixtures" "LEAST_VALUES" "[I")) (.int 4)) (List.mem_of_getElem? (i := 15) (by decide +kernel)))) hel (fun a h => Nat.not_le.mpr h)
  exact ⟨t, va_Zof (hts (.laysStatic "QuizFixtures" "LEAST_VALUES" "[I") (List.mem_of_getElem? (i := 644) (by decide +kernel))) (hts (.initialized "QuizFixtures") (List.mem_of_getElem? (i := 18) (by decide +kernel))) e (fun a h => Nat.not_le.mpr h), hT⟩
set_option maxHeartbeats 2000000 in
theorem law_GREATEST_VALUES {s : State} {b : Nat} (hts : ∀ w ∈ lw_tbl, w.before #[Value.ref b] s = true) (hs : ∀ c ∈ flatC lw_G, c.before #[Value.ref b] s = true) : SA4 "GREATEST_VALUES" sGV (fun q => s.heap.size ≤ q) s := by
  have hel : ∀ j : Nat, j < 4 → (Term.elem (.static "QuizFixtures" "GREATEST_VALUES" "[I") (.int (Int32.ofNat j))).eval #[Value.ref b] s none [] s = some (Value.int (sGV j)) := by
    intro j hj
    rcases (show j = 0 ∨ j = 1 ∨ j = 2 ∨ j = 3 by omega) with rfl | rfl | rfl | rfl
    · exact va_eqt (hs (.eq (.elem (.static "QuizFixtures" "GREATEST_VALUES" "[I") (.int 0)) (.int 5)) (List.mem_of_getElem? (i := 23) (by decide +kernel)))
    · exact va_eqt (hs (.eq (.elem (.static "QuizFixtures" "GREATEST_VALUES" "[I") (.int 1)) (.int 3)) (List.mem_of_getElem? (i := 24) (by decide +kernel)))
    · exact va_eqt (hs (.eq (.elem (.static "QuizFixtures" "GREATEST_VALUES" "[I") (.int 2)) (.int 50)) (List.mem_of_getElem? (i := 25) (by decide +kernel)))
    · exact va_eqt (hs (.eq (.elem (.static "QuizFixtures" "GREATEST_VALUES" "[I") (.int 3)) (.int 28)) (List.mem_of_getElem? (i := 26) (by decide +kernel)))
  obtain ⟨t, e, hT⟩ := va_Tof (args := #[Value.ref b]) (s := s) (tm := (.static "QuizFixtures" "GREATEST_VALUES" "[I")) (ty := .int) (N := 4) (f := fun j => .int (sGV j)) (A := fun q => s.heap.size ≤ q) (by decide) (hs (.arrayOf (.static "QuizFixtures" "GREATEST_VALUES" "[I") .int) (List.mem_of_getElem? (i := 21) (by decide +kernel))) (va_eqt (hs (.eq (.length (.static "QuizFixtures" "GREATEST_VALUES" "[I")) (.int 4)) (List.mem_of_getElem? (i := 22) (by decide +kernel)))) hel (fun a h => Nat.not_le.mpr h)
  exact ⟨t, va_Zof (hts (.laysStatic "QuizFixtures" "GREATEST_VALUES" "[I") (List.mem_of_getElem? (i := 646) (by decide +kernel))) (hts (.initialized "QuizFixtures") (List.mem_of_getElem? (i := 18) (by decide +kernel))) e (fun a h => Nat.not_le.mpr h), hT⟩
set_option maxHeartbeats 2000000 in
theorem law_VALUES_AT_FIRST {s : State} {b : Nat} (hts : ∀ w ∈ lw_tbl, w.before #[Value.ref b] s = true) (hs : ∀ c ∈ flatC lw_G, c.before #[Value.ref b] s = true) : SA4 "VALUES_AT_FIRST" sVF (fun q => s.heap.size ≤ q) s := by
  have hel : ∀ j : Nat, j < 4 → (Term.elem (.static "QuizFixtures" "VALUES_AT_FIRST" "[I") (.int (Int32.ofNat j))).eval #[Value.ref b] s none [] s = some (Value.int (sVF j)) := by
    intro j hj
    rcases (show j = 0 ∨ j = 1 ∨ j = 2 ∨ j = 3 by omega) with rfl | rfl | rfl | rfl
    · exact va_eqt (hs (.eq (.elem (.static "QuizFixtures" "VALUES_AT_FIRST" "[I") (.int 0)) (.int 2)) (List.mem_of_getElem? (i := 7) (by decide +kernel)))
    · exact va_eqt (hs (.eq (.elem (.static "QuizFixtures" "VALUES_AT_FIRST" "[I") (.int 1)) (.int 1)) (List.mem_of_getElem? (i := 8) (by decide +kernel)))
    · exact va_eqt (hs (.eq (.elem (.static "QuizFixtures" "VALUES_AT_FIRST" "[I") (.int 2)) (.int 20)) (List.mem_of_getElem? (i := 9) (by decide +kernel)))
    · exact va_eqt (hs (.eq (.elem (.static "QuizFixtures" "VALUES_AT_FIRST" "[I") (.int 3)) (.int 9)) (List.mem_of_getElem? (i := 10) (by decide +kernel)))
  obtain ⟨t, e, hT⟩ := va_Tof (args := #[Value.ref b]) (s := s) (tm := (.static "QuizFixtures" "VALUES_AT_FIRST" "[I")) (ty := .int) (N := 4) (f := fun j => .int (sVF j)) (A := fun q => s.heap.size ≤ q) (by decide) (hs (.arrayOf (.static "QuizFixtures" "VALUES_AT_FIRST" "[I") .int) (List.mem_of_getElem? (i := 5) (by decide +kernel))) (va_eqt (hs (.eq (.length (.static "QuizFixtures" "VALUES_AT_FIRST" "[I")) (.int 4)) (List.mem_of_getElem? (i := 6) (by decide +kernel)))) hel (fun a h => Nat.not_le.mpr h)
  exact ⟨t, va_Zof (hts (.laysStatic "QuizFixtures" "VALUES_AT_FIRST" "[I") (List.mem_of_getElem? (i := 47) (by decide +kernel))) (hts (.initialized "QuizFixtures") (List.mem_of_getElem? (i := 18) (by decide +kernel))) e (fun a h => Nat.not_le.mpr h), hT⟩
set_option maxHeartbeats 2000000 in
theorem law_bad {s : State} {b : Nat} (hts : ∀ w ∈ lw_tbl, w.before #[Value.ref b] s = true) : ∀ X ∈ ex5, BAD X s := by
  have h1 : va_Nw (.declares (Bundle.initS "java/lang/RuntimeException")) s := va_Nw.of rfl (hts (.declares ⟨"java/lang/RuntimeException", "<init>", "(Ljava/lang/String;)V"⟩) (List.mem_of_getElem? (i := 271) (by decide +kernel)))
  have h2 : va_Nw (.declares (Bundle.initS "java/lang/Exception")) s := va_Nw.of rfl (hts (.declares ⟨"java/lang/Exception", "<init>", "(Ljava/lang/String;)V"⟩) (List.mem_of_getElem? (i := 273) (by decide +kernel)))
  have h3 : va_Nw (.declares (Bundle.initS Bundle.tN)) s := va_Nw.of rfl (hts (.declares ⟨"java/lang/Throwable", "<init>", "(Ljava/lang/String;)V"⟩) (List.mem_of_getElem? (i := 275) (by decide +kernel)))
  unfold ex5
  exact List.forall_mem_cons.mpr ⟨⟨h1, h2, h3, va_Nw.of rfl (hts (.castable "java/lang/IllegalArgumentException" "java/lang/IllegalArgumentException") (List.mem_of_getElem? (i := 337) (by decide +kernel)))⟩, List.forall_mem_cons.mpr ⟨⟨h1, h2, h3, va_Nw.of rfl (hts (.castable "java/lang/IndexOutOfBoundsException" "java/lang/IndexOutOfBoundsException") (List.mem_of_getElem? (i := 269) (by decide +kernel)))⟩, List.forall_mem_cons.mpr ⟨⟨h1, h2, h3, va_Nw.of rfl (hts (.castable "java/lang/IllegalStateException" "java/lang/IllegalStateException") (List.mem_of_getElem? (i := 595) (by decide +kernel)))⟩, fun _ h => absurd h List.not_mem_nil⟩⟩⟩
set_option maxHeartbeats 2000000 in
theorem law_env {s : State} {b : Nat} (hts : ∀ w ∈ lw_tbl, w.before #[Value.ref b] s = true) (hs : ∀ c ∈ flatC lw_G, c.before #[Value.ref b] s = true) : ENVL (fun q => s.heap.size ≤ q) s :=
  ⟨⟨vx_Zqof (hts (.laysStatic "java/lang/Throwable" "UNASSIGNED_STACK" "[Ljava/lang/StackTraceElement;") (List.mem_of_getElem? (i := 294) (by decide +kernel))) (hts (.initialized "java/lang/Throwable") (List.mem_of_getElem? (i := 25) (by decide +kernel))) (hs (.isRef (.static "java/lang/Throwable" "UNASSIGNED_STACK" "[Ljava/lang/StackTraceElement;")) (List.mem_of_getElem? (i := 11) (by decide +kernel))) (fun a h => Nat.not_le.mpr h), vx_Zqof (hts (.laysStatic "java/lang/Throwable" "SUPPRESSED_SENTINEL" "Ljava/util/List;") (List.mem_of_getElem? (i := 296) (by decide +kernel))) (hts (.initialized "java/lang/Throwable") (List.mem_of_getElem? (i := 25) (by decide +kernel))) (hs (.isRef (.static "java/lang/Throwable" "SUPPRESSED_SENTINEL" "Ljava/util/List;")) (List.mem_of_getElem? (i := 12) (by decide +kernel))) (fun a h => Nat.not_le.mpr h), law_strs hts hs, law_bad hts, law_LEAST_VALUES hts hs, law_GREATEST_VALUES hts hs⟩, trivial⟩
set_option maxHeartbeats 2000000 in
theorem law_envm {s : State} {b : Nat} (hts : ∀ w ∈ lw_tbl, w.before #[Value.ref b] s = true) (hs : ∀ c ∈ flatC lw_G, c.before #[Value.ref b] s = true) : ENVM (fun q => s.heap.size ≤ q) s :=
  ⟨law_VALUES_AT_FIRST hts hs, va_Nw.of rfl (hts (.fieldLinkNest "QuizFixtures$League" 48 "QuizFixtures" "VALUES_AT_FIRST" "[I" "QuizFixtures") (List.mem_of_getElem? (i := 46) (by decide +kernel))), va_AO.of (hts (.arrayOver (.object "QuizFixtures$League")) (List.mem_of_getElem? (i := 199) (by decide +kernel))), va_Nw.of rfl (hts (.methodLinkNest "QuizFixtures" 18 ⟨"QuizFixtures$Standings", "<init>", "()V"⟩ "QuizFixtures") (List.mem_of_getElem? (i := 141) (by decide +kernel))), va_Nw.of rfl (hts (.methodLinkNest "QuizFixtures" 25 ⟨"QuizFixtures$Staging", "<init>", "()V"⟩ "QuizFixtures") (List.mem_of_getElem? (i := 175) (by decide +kernel))), va_Nw.of rfl (hts (.methodLinkNest "QuizFixtures" 39 ⟨"QuizFixtures$ResultText", "<init>", "()V"⟩ "QuizFixtures") (List.mem_of_getElem? (i := 211) (by decide +kernel)))⟩
