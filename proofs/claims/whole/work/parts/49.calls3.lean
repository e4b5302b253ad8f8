/-! PURE: the looks, both sides -/
theorem lt_k {x : Int32} {k : Nat} (hk : 0 < k) (hk2 : k < 2147483648) : x < nI k ↔ ¬ nI (k - 1) < x := by
  rw [lt_1 hk hk2]
  exact Int32.not_le.symm
theorem AL.row1 {L B : OB} {X : HS} {M : OB} {f : Nat → Int32} (h : AL L B X M) : AL L B X (gsa M 1 f) := h.frm rfl rfl rfl rfl rfl
theorem in_j {n j k : Nat} (hj : j ≤ k) (hk : k < 2147483648) : f6_in n (nI j) (nI 0) (nI k) = some (nI 1) := in_ok (by rw [nI_lt' (by omega) (by omega)]; omega) (by rw [nI_lt' (by omega) (by omega)]; omega)
theorem call_match {S G L U V B M : OB} {X : HS} {x y : Int32} (A : AL L B X M) : ∃ z w, f5_match 3000 S G L U V B X x y = some z ∧ f6_match 3000 M x y = some w ∧ AG ["java/lang/IndexOutOfBoundsException", "java/lang/IllegalArgumentException"] z w.1 (w.2.1 6) ∧ AL L B X w.2 := by
  obtain ⟨t, q, R, g⟩ := A.1
  obtain ⟨r5, r4, mp, mm⟩ := row_e R
  unfold f5_match f6_match f6_fails
  simp only [Option.bind_some]
  rcases split_ (x := x) (k := mmT t) (by omega) with h | ⟨m, hm, rfl⟩
  · rw [hasMatch_no R.1.2.1.2.2 h, Option.bind_some, if_pos (show nI 0 = 0 from rfl), isMatch_no (M := gsi M 6 (nI 0)) r5 mp mm h, Option.bind_some, if_pos (show nI 0 = 0 from rfl)]
    exact ⟨_, _, rfl, rfl, AG.no (by decide) (gsi_s _ _ _) (by decide), A.th.th⟩
  · rw [hasMatch_ R.1.2.1.2.2 mm hm, Option.bind_some, if_neg (show ¬ nI 1 = 0 by decide), isMatch_ok (M := gsi M 6 (nI 0)) r5 mm hm, Option.bind_some, if_neg (show ¬ nI 1 = 0 by decide)]
    rcases split_ (x := y) (k := 9) (by omega) with h | ⟨w, hw, rfl⟩
    · rw [in_no (h.imp id (lt_1 (k := 9) (by omega) (by omega)).mpr), Option.bind_some, if_pos (show nI 0 = 0 from rfl)]
      by_cases c1 : y < (0 : Int32)
      · rw [if_pos c1]
        exact ⟨_, _, rfl, rfl, AG.no (by decide) (gsi_s _ _ _) (by decide), A.th.th⟩
      · rw [if_neg c1, if_neg (Int32.not_lt.mpr (h.resolve_left c1))]
        exact ⟨_, _, rfl, rfl, AG.no (by decide) (gsi_s _ _ _) (by decide), A.th.th⟩
    · rw [if_neg (nI_neg (by omega)), if_pos (by rw [nI_lt' (by omega) (by omega)]; omega), in_j (by omega) (by omega), Option.bind_some, if_neg (show ¬ nI 1 = 0 by decide), propertyL_ R g.1.2.1 hm hw, Option.bind_some, ofMatch_ (M := gsi M 6 (nI 0)) rfl (by omega) hw, Option.bind_some]
      exact ⟨_, _, rfl, rfl, AG.ok, A.th⟩
theorem call_team {S G L U V B M : OB} {X : HS} {x y : Int32} (A : AL L B X M) : ∃ z w, f5_team 3000 S G L U V B X x y = some z ∧ f6_team 3000 M x y = some w ∧ AG ["java/lang/IndexOutOfBoundsException", "java/lang/IllegalArgumentException"] z.1 w.1 (w.2.1 6) ∧ AL L B X w.2 := by
  obtain ⟨t, q, R, g⟩ := A.1
  obtain ⟨r5, r4, mp, mm⟩ := row_e R
  have h3 := R.1.1.1.2.2.1
  have h8 := R.1.1.1.2.2.2.1
  unfold f5_team f6_team f6_fails
  simp only [Option.bind_some]
  rcases split_ (x := x) (k := t) (by omega) with h | ⟨a, ha, rfl⟩
  · rw [hasTeamL_no R.1.2.1.1 h, Option.bind_some, if_pos (show nI 0 = 0 from rfl), isTeam_no (M := gsi M 6 (nI 0)) r4 (by omega) h8 h, Option.bind_some, if_pos (show nI 0 = 0 from rfl)]
    exact ⟨_, _, rfl, rfl, AG.no (by decide) (gsi_s _ _ _) (by decide), A.th.th⟩
  · rw [hasTeamL_ok R.1.2.1.1 h8 ha, Option.bind_some, if_neg (show ¬ nI 1 = 0 by decide), isTeam_ok (M := gsi M 6 (nI 0)) r4 h8 ha, Option.bind_some, if_neg (show ¬ nI 1 = 0 by decide)]
    rcases split_ (x := y) (k := 9) (by omega) with h | ⟨w, hw, rfl⟩
    · rw [in_no (h.imp id (lt_1 (k := 9) (by omega) (by omega)).mpr), Option.bind_some, if_pos (show nI 0 = 0 from rfl)]
      by_cases c1 : y < (0 : Int32)
      · rw [if_pos c1]
        exact ⟨_, _, rfl, rfl, AG.no (by decide) (gsi_s _ _ _) (by decide), A.th.th⟩
      · rw [if_neg c1, if_neg (Int32.not_lt.mpr (h.resolve_left c1))]
        exact ⟨_, _, rfl, rfl, AG.no (by decide) (gsi_s _ _ _) (by decide), A.th.th⟩
    · obtain ⟨S', e, T⟩ := tbl_ (S := S) R g.1 (show 28 < 3000 by omega)
      rw [if_neg (nI_neg (by omega)), if_pos (by rw [nI_lt' (by omega) (by omega)]; omega), in_j (by omega) (by omega), Option.bind_some, if_neg (show ¬ nI 1 = 0 by decide), e, Option.bind_some, propertyC_ T ha hw (by omega), Option.bind_some, ofTeam_ (M := gsi M 6 (nI 0)) rfl R.1.1.1 T ha hw (by omega), Option.bind_some]
      exact ⟨_, _, rfl, rfl, AG.ok, A.th⟩
theorem TA_no {s : Nat → Int32} {t a : Nat} (h : t ≤ a) : TA s t a = none := by
  unfold TA
  refine taR_no fun j hj => decide_eq_false ?_
  have : PL s t j < t := pz_b hj
  omega
theorem call_table {S G L U V B M : OB} {X : HS} {x : Int32} (A : AL L B X M) : ∃ z w, f5_table 3000 S G L U V B X x = some z ∧ f6_table 3000 M x = some w ∧ AG ["java/lang/IllegalArgumentException"] z.1 w.1 (w.2.1 6) ∧ AL L B X w.2 := by
  obtain ⟨t, q, R, g⟩ := A.1
  obtain ⟨r5, r4, mp, mm⟩ := row_e R
  have h3 := R.1.1.1.2.2.1
  have h8 := R.1.1.1.2.2.2.1
  unfold f5_table f6_table f6_fails
  simp only [Option.bind_some]
  by_cases c : (0 : Int32) ≤ x
  · rw [if_pos c, if_pos c]
    obtain ⟨a, -, ha, rfl⟩ : ∃ a, 0 ≤ a ∧ a ≤ 2147483647 ∧ x = nI a := by
      rw [Int32.le_iff_toInt_le, show (0 : Int32).toInt = 0 from rfl] at c
      have hm := Int32.toInt_lt x
      refine ⟨x.toInt.toNat, by omega, by omega, Int32.toInt_inj.mp ?_⟩
      rw [ti_nI (by omega)]
      omega
    obtain ⟨S', e, T⟩ := tbl_ (S := S) R g.1 (show 28 < 3000 by omega)
    rw [e, Option.bind_some, teamAtC_ T (by omega) (by omega), Option.bind_some, ald_nI (by omega) (by omega), Option.bind_some]
    show ∃ z w, _ = some z ∧ (if M.2 0 4 ≤ nI a then _ else _) = some w ∧ _
    rw [r4]
    by_cases c2 : t ≤ a
    · rw [if_pos (by rw [nI_le' (by omega) (by omega)]; exact c2), TA_no c2]
      exact ⟨_, _, rfl, rfl, AG.ok, A.th⟩
    · rw [if_neg (by rw [nI_le' (by omega) (by omega)]; exact c2)]
      show ∃ z w, _ = some z ∧ (f6_teamAt 3000 (M.2 0) (nI a)).bind _ = some w ∧ _
      rw [teamAtM_ R.1.1.1 T (by omega) (by omega), Option.bind_some]
      exact ⟨_, _, rfl, rfl, AG.ok, A.th⟩
  · rw [if_neg c, if_neg c]
    exact ⟨_, _, rfl, rfl, AG.no (by decide) (gsi_s _ _ _) (by decide), A.th.th⟩
theorem call_count {S G L U V B M : OB} {X : HS} {x : Int32} (A : AL L B X M) : ∃ z w, f5_count 3000 S G L U V B X x = some z ∧ f6_count 3000 M x = some w ∧ AG ["java/lang/IllegalArgumentException"] z.1 w.1 (w.2.1 6) ∧ AL L B X w.2 := by
  obtain ⟨t, q, R, g⟩ := A.1
  obtain ⟨j, b3, bX, -⟩ := A.2.1
  unfold f5_count f6_count f6_fails
  simp only [Option.bind_some]
  rcases split_ (x := x) (k := 10) (by omega) with h | ⟨w, hw, rfl⟩
  · rw [in_no (h.imp id (lt_1 (k := 10) (by omega) (by omega)).mpr), Option.bind_some, if_pos (show nI 0 = 0 from rfl)]
    by_cases c1 : x < (0 : Int32)
    · rw [if_pos c1]
      exact ⟨_, _, rfl, rfl, AG.no (by decide) (gsi_s _ _ _) (by decide), A.th.th⟩
    · rw [if_neg c1, if_neg (Int32.not_lt.mpr (h.resolve_left c1))]
      exact ⟨_, _, rfl, rfl, AG.no (by decide) (gsi_s _ _ _) (by decide), A.th.th⟩
  · obtain ⟨S', e, T⟩ := tbl_ (S := S) R g.1 (show 28 < 3000 by omega)
    rw [if_neg (nI_neg (by omega)), if_pos (by rw [nI_lt' (by omega) (by omega)]; omega), in_j (by omega) (by omega), Option.bind_some, if_neg (show ¬ nI 1 = 0 by decide), e, Option.bind_some, number_ R.1 bX T hw (by omega), Option.bind_some, counted_ (M := gsi M 6 (nI 0)) rfl b3 R.1.1.1 T R.tms hw (by omega), Option.bind_some]
    exact ⟨_, _, rfl, rfl, AG.ok, A.th⟩
theorem call_setting {S G L U V B M : OB} {X : HS} {x : Int32} (A : AL L B X M) : ∃ z w, f5_setting 3000 S G L U V B X x = some z ∧ f6_setting 3000 M x = some w ∧ AG ["java/lang/IndexOutOfBoundsException"] z w.1 (w.2.1 6) ∧ AL L B X w.2 := by
  obtain ⟨t, q, R, g⟩ := A.1
  unfold f5_setting f6_setting f6_fails
  simp only [Option.bind_some]
  rcases split_ (x := x) (k := 4) (by omega) with h | ⟨w, hw, rfl⟩
  · rw [in_no (h.imp id (lt_1 (k := 4) (by omega) (by omega)).mpr), Option.bind_some, if_pos (show nI 0 = 0 from rfl)]
    by_cases c1 : x < (0 : Int32)
    · rw [if_pos c1]
      exact ⟨_, _, rfl, rfl, AG.no (by decide) (gsi_s _ _ _) (by decide), A.th.th⟩
    · rw [if_neg c1, if_neg (Int32.not_lt.mpr (h.resolve_left c1))]
      exact ⟨_, _, rfl, rfl, AG.no (by decide) (gsi_s _ _ _) (by decide), A.th.th⟩
  · rw [if_neg (nI_neg (by omega)), if_pos (by rw [nI_lt' (by omega) (by omega)]; omega), in_j (by omega) (by omega), Option.bind_some, if_neg (show ¬ nI 1 = 0 by decide), ald_nI (by omega) (by omega), Option.bind_some, ald_nI (by omega) (by omega), Option.bind_some, R.1.2.2.1.1 w hw]
    exact ⟨_, _, rfl, rfl, AG.ok, A.th⟩
theorem call_bestPlace {S G L U V B M : OB} {X : HS} {x : Int32} (A : AL L B X M) : ∃ z w, f5_bestPlace 3000 S G L U V B X x = some z ∧ f6_bestPlace 3000 M x = some w ∧ AG ["java/lang/IndexOutOfBoundsException"] z.1 w.1 (w.2.1 6) ∧ AL L B X w.2 := by
  obtain ⟨t, q, R, g⟩ := A.1
  obtain ⟨r5, r4, mp, mm⟩ := row_e R
  have h3 := R.1.1.1.2.2.1
  have h8 := R.1.1.1.2.2.2.1
  unfold f5_bestPlace f6_bestPlace f6_fails
  simp only [Option.bind_some]
  rcases split_ (x := x) (k := t) (by omega) with h | ⟨a, ha, rfl⟩
  · rw [hasTeamL_no R.1.2.1.1 h, Option.bind_some, if_pos (show nI 0 = 0 from rfl), isTeam_no (M := gsi M 6 (nI 0)) r4 (by omega) h8 h, Option.bind_some, if_pos (show nI 0 = 0 from rfl)]
    exact ⟨_, _, rfl, rfl, AG.no (by decide) (gsi_s _ _ _) (by decide), A.th.th⟩
  · have E : EQR (M.2 0) (cp1 (gsi M 6 (nI 0))) := eqr_cpy _ _
    obtain ⟨U', V', e⟩ := placeByWinningAll_ (S := S) (G := G) (U := U) (V := V) (B := B) (X := X) R g.1 E ha (show 28 < 3000 by omega)
    rw [hasTeamL_ok R.1.2.1.1 h8 ha, Option.bind_some, if_neg (show ¬ nI 1 = 0 by decide), isTeam_ok (M := gsi M 6 (nI 0)) r4 h8 ha, Option.bind_some, if_neg (show ¬ nI 1 = 0 by decide), e, Option.bind_some, best_ (M := gsi M 6 (nI 0)) rfl R g.1 ha (by omega), Option.bind_some]
    exact ⟨_, _, rfl, rfl, AG.ok, A.th.row1⟩
theorem call_isSure {S G L U V B M : OB} {X : HS} {x : Int32} (A : AL L B X M) : ∃ z w, f5_isSure 3000 S G L U V B X x = some z ∧ f6_isSure 3000 M x = some w ∧ AG ["java/lang/IndexOutOfBoundsException"] z.1 w.1 (w.2.1 6) ∧ AL L B X w.2 := by
  obtain ⟨t, q, R, g⟩ := A.1
  obtain ⟨r5, r4, mp, mm⟩ := row_e R
  have h3 := R.1.1.1.2.2.1
  have h8 := R.1.1.1.2.2.2.1
  unfold f5_isSure f6_isSure f6_fails
  simp only [Option.bind_some]
  rcases split_ (x := x) (k := t) (by omega) with h | ⟨a, ha, rfl⟩
  · rw [hasTeamL_no R.1.2.1.1 h, Option.bind_some, if_pos (show nI 0 = 0 from rfl), isTeam_no (M := gsi M 6 (nI 0)) r4 (by omega) h8 h, Option.bind_some, if_pos (show nI 0 = 0 from rfl)]
    exact ⟨_, _, rfl, rfl, AG.no (by decide) (gsi_s _ _ _) (by decide), A.th.th⟩
  · obtain ⟨S', e, T⟩ := tbl_ (S := S) R g.1 (show 28 < 3000 by omega)
    rw [hasTeamL_ok R.1.2.1.1 h8 ha, Option.bind_some, if_neg (show ¬ nI 1 = 0 by decide), isTeam_ok (M := gsi M 6 (nI 0)) r4 h8 ha, Option.bind_some, if_neg (show ¬ nI 1 = 0 by decide), e, Option.bind_some, ald_nI (by omega) (by omega), Option.bind_some, R.1.2.2.1.1 0 (by omega), sureC_ T ha (by omega), Option.bind_some, sureM_ (M := gsi M 6 (nI 0)) (s := M.2 0) rfl R.1.1.1 ha (by omega), Option.bind_some]
    cases alB (suP (M.2 0) t a) t with
    | false =>
      rw [if_pos (show nI (bI false) = 0 from rfl)]
      exact ⟨_, _, rfl, rfl, AG.ok (w := nI 0), A.th⟩
    | true =>
      rw [if_neg (show ¬ nI (bI true) = 0 by decide)]
      exact ⟨_, _, rfl, rfl, AG.ok (w := nI 1), A.th⟩
theorem call_ifMissing {S G L U V B M : OB} {X : HS} {x : Int32} (A : AL L B X M) : ∃ z w, f5_ifMissing 3000 S G L U V B X x = some z ∧ f6_ifMissing 3000 M x = some w ∧ AG ["java/lang/IllegalArgumentException"] z.1 w.1 (w.2.1 6) ∧ AL L B X w.2 := by
  obtain ⟨t, q, R, g⟩ := A.1
  unfold f5_ifMissing f6_ifMissing f6_fails f5_isVenueOrSetter
  simp only [Option.bind_some]
  rcases split_ (x := x) (k := 12) (by omega) with h | ⟨w, hw, rfl⟩
  · rw [in_no (h.imp id (lt_1 (k := 12) (by omega) (by omega)).mpr), Option.bind_some, if_pos (show nI 0 = 0 from rfl)]
    by_cases c1 : x < (0 : Int32)
    · rw [if_pos c1, Option.bind_some, if_pos (show nI 0 = 0 from rfl)]
      exact ⟨_, _, rfl, rfl, AG.no (by decide) (gsi_s _ _ _) (by decide), A.th.th⟩
    · rw [if_neg c1, if_pos (h.resolve_left c1), Option.bind_some, if_pos (show nI 0 = 0 from rfl)]
      exact ⟨_, _, rfl, rfl, AG.no (by decide) (gsi_s _ _ _) (by decide), A.th.th⟩
  · have E : EQR (M.2 0) (cp1 (gsi M 6 (nI 0))) := eqr_cpy _ _
    obtain ⟨G', V', e⟩ := assignedWithout_ (S := S) (G := G) (U := U) (V := V) (B := B) (X := X) R g.2.1 E hw (show 28 < 3000 by omega)
    rw [if_neg (nI_neg (by omega)), if_neg (by rw [nI_le' (by omega) (by omega)]; omega), Option.bind_some, if_neg (show ¬ nI 1 = 0 by decide), in_j (by omega) (by omega), Option.bind_some, if_neg (show ¬ nI 1 = 0 by decide), e, Option.bind_some, without_ (M := gsi M 6 (nI 0)) rfl R hw (by omega), Option.bind_some]
    exact ⟨_, _, rfl, rfl, AG.ok, A.th.row1⟩
theorem call_closeness {S G L U V B M : OB} {X : HS} (A : AL L B X M) : ∃ z w, f5_closeness 3000 S G L U V B X = some z ∧ f6_closeness 3000 M = some w ∧ z.1 = w.1 ∧ AL L B X w.2 := by
  obtain ⟨t, q, R, g⟩ := A.1
  obtain ⟨S', e, T⟩ := tbl_ (S := S) R g.1 (show 28 < 3000 by omega)
  obtain ⟨v, e1, e2, -⟩ := share_ (M := gsi M 6 (nI 0)) rfl R.1.1.1 T R.tms (show 28 < 3000 by omega)
  unfold f5_closeness f6_closeness
  rw [e, Option.bind_some, e1, Option.bind_some, Option.bind_some, e2, Option.bind_some]
  exact ⟨_, _, rfl, rfl, rfl, A.th⟩
