/-! PURE: calls of a match, of settings, of the buffer -/
theorem lt_1 {x : Int32} {k : Nat} (hk : 0 < k) (hk2 : k < 2147483648) : (nI (k - 1) < x) ↔ nI k ≤ x := by
  rw [Int32.lt_iff_toInt_lt, ti_nI (by omega), Int32.le_iff_toInt_le, ti_nI hk2]
  omega
theorem hasMatch_no {n k : Nat} {L : OB} {x : Int32} (h : L.1 2 = nI k) (hx : x < nI 0 ∨ nI k ≤ x) : f1_hasMatch n L x = some (nI 0) := by
  unfold f1_hasMatch
  rw [h, show (0 : Int32) = nI 0 from rfl]
  by_cases c : x < nI 0
  · rw [if_pos c]
  · rw [if_neg c, if_pos (hx.resolve_left c)]
theorem hasTeamL_no {n k : Nat} {L : OB} {x : Int32} (h : L.1 0 = nI k) (hx : x < nI 0 ∨ nI k ≤ x) : f1_hasTeam n L x = some (nI 0) := by
  unfold f1_hasTeam
  rw [h, show (0 : Int32) = nI 0 from rfl]
  by_cases c : x < nI 0
  · rw [if_pos c]
  · rw [if_neg c, if_pos (hx.resolve_left c)]
theorem hasTeamL_ok {n k j : Nat} {L : OB} (h : L.1 0 = nI k) (hk : k ≤ 8) (hj : j < k) : f1_hasTeam n L (nI j) = some (nI 1) := by
  unfold f1_hasTeam
  rw [if_neg (nI_neg (by omega)), h, if_neg (by rw [nI_le' (by omega) (by omega)]; omega)]
theorem isMatch_no {n k : Nat} {M : OB} {x : Int32} (h : M.2 0 5 = nI k) (hk : 0 < k) (hk2 : k ≤ 28) (hx : x < nI 0 ∨ nI k ≤ x) : f6_isMatch n M x = some (nI 0) := by
  unfold f6_isMatch
  rw [ald_nI (by omega) (by omega), Option.bind_some, h, pk_sub (by omega), in_no (hx.imp id (lt_1 hk (by omega)).mpr), Option.bind_some]
  rfl
theorem isMatch_ok {n k j : Nat} {M : OB} (h : M.2 0 5 = nI k) (hk2 : k ≤ 28) (hj : j < k) : f6_isMatch n M (nI j) = some (nI 1) := by
  unfold f6_isMatch
  rw [ald_nI (by omega) (by omega), Option.bind_some, h, pk_sub (by omega), in_ok (by rw [nI_lt' (by omega) (by omega)]; omega) (by rw [nI_lt' (by omega) (by omega)]; omega), Option.bind_some]
  rfl
theorem isTeam_no {n k : Nat} {M : OB} {x : Int32} (h : M.2 0 4 = nI k) (hk : 0 < k) (hk2 : k ≤ 8) (hx : x < nI 0 ∨ nI k ≤ x) : f6_isTeam n M x = some (nI 0) := by
  unfold f6_isTeam
  rw [ald_nI (by omega) (by omega), Option.bind_some, h, pk_sub (by omega), in_no (hx.imp id (lt_1 hk (by omega)).mpr), Option.bind_some]
  rfl
theorem isTeam_ok {n k j : Nat} {M : OB} (h : M.2 0 4 = nI k) (hk2 : k ≤ 8) (hj : j < k) : f6_isTeam n M (nI j) = some (nI 1) := by
  unfold f6_isTeam
  rw [ald_nI (by omega) (by omega), Option.bind_some, h, pk_sub (by omega), in_ok (by rw [nI_lt' (by omega) (by omega)]; omega) (by rw [nI_lt' (by omega) (by omega)]; omega), Option.bind_some]
  rfl
theorem split_ {x : Int32} {k : Nat} (hk : k < 2147483648) : (x < nI 0 ∨ nI k ≤ x) ∨ ∃ j, j < k ∧ x = nI j := by
  rcases pk_ix x (n := k) hk with h | h | h
  · exact Or.inl (Or.inl h)
  · exact Or.inl (Or.inr h)
  · exact Or.inr h
theorem mm_pos {t : Nat} (h3 : 3 ≤ t) (h8 : t ≤ 8) : 0 < mmT t := by
  have e9 : t = 3 ∨ t = 4 ∨ t = 5 ∨ t = 6 ∨ t = 7 ∨ t = 8 := by omega
  rcases e9 with rfl | rfl | rfl | rfl | rfl | rfl <;> decide +kernel
theorem canHave_ {t q n m : Nat} {L : OB} {s : Nat → Int32} (R : RLc t q L s) (hm : m < mmT t) : f1_canHaveResult n L (nI m) = some (if s (18 + 9 * m + 3) = -1 then nI 0 else nI 1) := by
  have hmm : mmT t ≤ 28 := R.1.1.2.2.2.2
  unfold f1_canHaveResult
  rw [hasMatch_ R.2.1.2.2 hmm hm, Option.bind_some, if_neg (by decide), ald_nI (by omega) (by omega), Option.bind_some, (R.2.2.2 m hm).2.1.1]
  split <;> rfl
theorem pointsOf_ {t q n τ : Nat} {S G L U V B : OB} {X : HS} {s : Nat → Int32} (R : RLr t q L s) (g : GT t s) (hτ : τ < t) (hn : 28 < n) : ∃ S', f5_pointsOf n S G L U V B X (nI τ) = some (ptR s (mmT t) (nI τ), S') := by
  obtain ⟨S', e, T⟩ := tbl_ (S := S) R g hn
  refine ⟨S', ?_⟩
  unfold f5_pointsOf
  rw [e, Option.bind_some, show nI 0 = nI 0 from rfl, propertyC_ T hτ (by omega) hn, Option.bind_some]
  rfl
theorem row_e {t q : Nat} {L : OB} {s : Nat → Int32} (R : RLr t q L s) : s 5 = nI (mmT t) ∧ s 4 = nI t ∧ 0 < mmT t ∧ mmT t ≤ 28 := ⟨R.1.1.1.2.1, R.1.1.1.1, mm_pos R.1.1.1.2.2.1 R.1.1.1.2.2.2.1, R.1.1.1.2.2.2.2⟩
theorem isScore_no {n : Nat} {x : Int32} (h : x < nI 0 ∨ nI 99 < x) : f5_isScore n x = some (nI 0) := in_no (n := n) h
theorem isScore_ok {n : Nat} {x : Int32} (h1 : ¬ x < nI 0) (h2 : ¬ nI 99 < x) : f5_isScore n x = some (nI 1) := in_ok (n := n) h1 h2
theorem call_score {S G L U V B M : OB} {X : HS} {x y z : Int32} (A : AL L B X M) : ∃ zz w, f5_score 3000 S G L U V B X x y z = some zz ∧ f6_score 3000 M x y z = some w ∧ AG ["java/lang/IndexOutOfBoundsException", "java/lang/IllegalArgumentException", "java/lang/IllegalStateException"] zz.1 w.1 (w.2.1 6) ∧ AL zz.2.2.1 B zz.2.2.2 w.2 := by
  obtain ⟨t, q, R, g⟩ := A.1
  obtain ⟨r5, r4, mp, mm⟩ := row_e R
  have h3 := R.1.1.1.2.2.1
  have h8 := R.1.1.1.2.2.2.1
  unfold f5_score f6_score f6_fails
  simp only [Option.bind_some]
  rcases split_ (x := x) (k := mmT t) (by omega) with h | ⟨m, hm, rfl⟩
  · rw [hasMatch_no R.1.2.1.2.2 h, Option.bind_some, if_pos (show nI 0 = 0 from rfl), isMatch_no (M := gsi M 6 (nI 0)) r5 mp mm h, Option.bind_some, if_pos (show nI 0 = 0 from rfl)]
    exact ⟨_, _, rfl, rfl, AG.no (by decide) (gsi_s _ _ _) (by decide), A.th.th⟩
  · rw [hasMatch_ R.1.2.1.2.2 mm hm, Option.bind_some, if_neg (show ¬ nI 1 = 0 by decide), isMatch_ok (M := gsi M 6 (nI 0)) r5 mm hm, Option.bind_some, if_neg (show ¬ nI 1 = 0 by decide)]
    by_cases cy : y < nI 0 ∨ nI 99 < y
    · rw [isScore_no cy, in_no cy, Option.bind_some, Option.bind_some, if_pos (show nI 0 = 0 from rfl), if_pos (show nI 0 = 0 from rfl)]
      exact ⟨_, _, rfl, rfl, AG.no (by decide) (gsi_s _ _ _) (by decide), A.th.th⟩
    · have y1 : ¬ y < nI 0 := fun e => cy (Or.inl e)
      have y2 : ¬ nI 99 < y := fun e => cy (Or.inr e)
      rw [isScore_ok y1 y2, in_ok y1 y2, Option.bind_some, Option.bind_some, if_neg (show ¬ nI 1 = 0 by decide), if_neg (show ¬ nI 1 = 0 by decide)]
      by_cases cz : z < nI 0 ∨ nI 99 < z
      · rw [isScore_no cz, in_no cz, Option.bind_some, Option.bind_some, if_pos (show nI 0 = 0 from rfl), if_pos (show nI 0 = 0 from rfl)]
        exact ⟨_, _, rfl, rfl, AG.no (by decide) (gsi_s _ _ _) (by decide), A.th.th⟩
      · have z1 : ¬ z < nI 0 := fun e => cz (Or.inl e)
        have z2 : ¬ nI 99 < z := fun e => cz (Or.inr e)
        rw [isScore_ok z1 z2, in_ok z1 z2, Option.bind_some, Option.bind_some, if_neg (show ¬ nI 1 = 0 by decide), if_neg (show ¬ nI 1 = 0 by decide), canHave_ R.1 hm, Option.bind_some, of_ (s := (gsi M 6 (nI 0)).2 0) (by omega) (by omega), Option.bind_some]
        show ∃ zz w, _ = some zz ∧ (if M.2 0 (18 + 9 * m + 3) = -1 then _ else _) = some w ∧ _
        by_cases cv : M.2 0 (18 + 9 * m + 3) = -1
        · rw [if_pos cv, if_pos (show nI 0 = 0 from rfl), if_pos cv]
          exact ⟨_, _, rfl, rfl, AG.no (by decide) (gsi_s _ _ _) (by decide), A.th.th⟩
        · rw [if_neg cv, if_neg (show ¬ nI 1 = 0 by decide), if_neg cv]
          obtain ⟨y', -, y99, rfl⟩ := rng (by decide) (by decide) (Int32.not_lt.mp y1) (Int32.not_lt.mp y2)
          obtain ⟨z', -, z99, rfl⟩ := rng (by decide) (by decide) (Int32.not_lt.mp z1) (Int32.not_lt.mp z2)
          obtain ⟨X', M', e1, e2, m0, m6, K⟩ := A.keep
          obtain ⟨L', e3, R'⟩ := give_ (n := 3000) (x := nI 1) (y := nI y') (z := nI z') R hm
          have g' : GR t (gv (M.2 0) m (nI 1) (nI y') (nI z')) := g.gv (by omega) (by omega) (by omega) (fun _ => (g.2.2.2 m hm).resolve_left cv)
          obtain ⟨-, b1, b2, -⟩ := tb_m h3 h8 hm
          obtain ⟨-, r1, r2⟩ := R'.1.1.2.2 m hm
          obtain ⟨⟨-, c1, c2⟩, -⟩ := R'.1.2.2.2 m hm
          obtain ⟨S', e4⟩ := pointsOf_ (S := S) (G := G) (L := L') (U := U) (V := V) (B := B) (X := X') R' g'.1 b1 (show 28 < 3000 by omega)
          rw [e1, Option.bind_some, e3, Option.bind_some, ald_nI (by omega) (by omega), Option.bind_some, c1, r1, e4, Option.bind_some, e2, Option.bind_some, m0, gives_ (by omega), Option.bind_some, gsa_s, of_ (by omega) (by omega), Option.bind_some, r1, points_ R'.1.1.1 (by omega), Option.bind_some]
          refine ⟨_, _, rfl, rfl, ?_, K _ _ ⟨t, q, R', g'⟩⟩
          show AG _ _ _ (M'.1 6)
          rw [m6]
          exact AG.ok
theorem call_append {S G L U V B M : OB} {X : HS} {x : Int32} (A : AL L B X M) : ∃ z w, f5_append 3000 S G L U V B X x = some z ∧ f6_append 3000 M x = some w ∧ AG ["java/lang/IllegalArgumentException", "java/lang/IllegalStateException"] z.1 w.1 (w.2.1 6) ∧ AL L z.2 X w.2 := by
  unfold f5_append f6_append f6_fails
  simp only [Option.bind_some]
  by_cases c1 : x < nI 33
  · rw [if_pos c1, in_no (Or.inl c1), Option.bind_some, if_pos (show nI 0 = 0 from rfl)]
    exact ⟨_, _, rfl, rfl, AG.no (by decide) (gsi_s _ _ _) (by decide), A.th.th⟩
  · rw [if_neg c1]
    by_cases c2 : x ≤ nI 126
    · rw [if_pos c2, in_ok c1 (Int32.not_lt.mpr c2), Option.bind_some, if_neg (show ¬ nI 1 = 0 by decide)]
      obtain ⟨c, c33, c126, rfl⟩ := rng (by decide) (by decide) (Int32.not_lt.mp c1) c2
      obtain ⟨a, P, cd, len, h60, hc, T, Y⟩ := A
      have hA : AL L B X (gsi M 6 (nI 0)) := AL.th ⟨a, P, cd, len, h60, hc, T, Y⟩
      rw [T.1, show (gsi M 6 (nI 0)).1 5 = nI len from Y.1]
      by_cases c3 : len = 60
      · subst c3
        rw [if_neg (by decide), if_pos rfl]
        exact ⟨_, _, rfl, rfl, AG.no (by decide) (gsi_s _ _ _) (by decide), hA.th⟩
      · rw [if_pos (by rw [nI_lt' (by omega) (by omega)]; omega), if_neg (by rw [nI_inj (by omega) (by omega)]; exact c3), oast_nI (by omega) (by omega), Option.bind_some]
        unfold f2_add
        rw [T.1, if_neg (nI_neg (by omega)), if_neg (by rw [nI_le' (by omega) (by omega)]; omega), oast_nI (by omega) (by omega), Option.bind_some, Option.bind_some]
        simp only [Option.bind_some]
        refine ⟨_, _, rfl, rfl, ?_, a, ?_, fun k => if k = len then c else cd k, len + 1, by omega, fun k hk => ?_, ⟨?_, fun k hk => ?_⟩, ⟨?_, fun k hk => ?_⟩⟩
        · show AG _ (.inr (B.1 0 + nI 1)) (M.1 5 + nI 1) (nI 0)
          rw [T.1, Y.1]
          exact AG.ok
        · obtain ⟨j, b3, bX, b6, bP⟩ := P
          exact ⟨j, b3, bX, b6, bP⟩
        · dsimp only
          split
          · omega
          · exact hc k (by omega)
        · show B.1 0 + nI 1 = _
          rw [T.1, nI_add]
        · show upd (B.2 1) len (nI c) k = nI (if k = len then c else cd k)
          rw [upd_e]
          split
          · rfl
          · exact T.2 k (by omega)
        · show M.1 5 + nI 1 = _
          rw [Y.1, nI_add]
        · show upd (M.2 4) len (nI c) k = nI (if k = len then c else cd k)
          rw [upd_e]
          split
          · rfl
          · exact Y.2 k (by omega)
    · rw [if_neg c2, in_no (Or.inr (Int32.not_le.mp c2)), Option.bind_some, if_pos (show nI 0 = 0 from rfl)]
      exact ⟨_, _, rfl, rfl, AG.no (by decide) (gsi_s _ _ _) (by decide), A.th.th⟩
theorem call_clear {S G L U V B M : OB} {X : HS} (A : AL L B X M) : ∃ z w, f5_clearBuffer 3000 S G L U V B X = some z ∧ f6_clearBuffer 3000 M = some w ∧ z.1 = w.1 ∧ AL L z.2 X w.2 := by
  obtain ⟨a, P, cd, len, h60, hc, T, Y⟩ := A
  unfold f5_clearBuffer f6_clearBuffer
  simp only [Option.bind_some]
  refine ⟨_, _, rfl, rfl, ?_, a, ?_, cd, 0, by omega, fun k hk => absurd hk (Nat.not_lt_zero k), ⟨rfl, fun k hk => absurd hk (Nat.not_lt_zero k)⟩, ⟨rfl, fun k hk => absurd hk (Nat.not_lt_zero k)⟩⟩
  · show B.1 0 = M.1 5
    rw [T.1, Y.1]
  · obtain ⟨j, b3, bX, b6, bP⟩ := P
    exact ⟨j, b3, bX, b6, bP⟩
theorem call_undo {S G L U V B M : OB} {X : HS} (A : AL L B X M) : ∃ z w, f5_undo 3000 S G L U V B X = some z ∧ f6_undo 3000 M = some w ∧ AG ["java/lang/IllegalStateException"] z.1 w.1 (w.2.1 6) ∧ AL z.2.1 B z.2.2 w.2 := by
  unfold f5_undo f6_undo f6_fails
  simp only [Option.bind_some]
  have A0 := A
  obtain ⟨a, ⟨j, P⟩, cd, len, h60, hc, T, Y⟩ := A
  obtain ⟨b3, bX, b6, bP⟩ := P
  rw [show (gsi M 6 (nI 0)).1 3 = nI j from b3, bX]
  by_cases c : j = 0
  · subst c
    rw [if_pos (show nI 0 = 0 from rfl), if_pos (show nI 0 = 0 from rfl)]
    exact ⟨_, _, rfl, rfl, AG.no (by decide) (gsi_s _ _ _) (by decide), A0.th.th⟩
  · obtain ⟨j, rfl⟩ : ∃ i, j = i + 1 := ⟨j - 1, by omega⟩
    have hz : ¬ nI (j + 1) = 0 := fun e => by rw [nI_z (by omega)] at e; omega
    rw [if_neg hz, if_neg hz]
    obtain ⟨L', e1, hL, hM⟩ := undo_ (n := 3000) (L := L) ⟨b3, bX, b6, bP⟩ (by omega)
    have ej : nI (j + 1) - nI 1 = nI j := pk_sub (a := j + 1) (b := 1) (by omega)
    rw [e1, Option.bind_some, ej, hM (gsi (gsi M 6 (nI 0)) 3 (nI j)) rfl (gsi_s _ _ _), Option.bind_some]
    refine ⟨_, _, rfl, rfl, AG.ok, hL, ⟨j, rfl, rfl, by omega, fun i hi => bP i (by omega)⟩, cd, len, h60, hc, T, Y⟩
theorem call_walkover {S G L U V B M : OB} {X : HS} {x y : Int32} (A : AL L B X M) : ∃ zz w, f5_walkover 3000 S G L U V B X x y = some zz ∧ f6_walkover 3000 M x y = some w ∧ AG ["java/lang/IndexOutOfBoundsException", "java/lang/IllegalStateException"] zz.1 w.1 (w.2.1 6) ∧ AL zz.2.2.1 B zz.2.2.2 w.2 := by
  obtain ⟨t, q, R, g⟩ := A.1
  obtain ⟨r5, r4, mp, mm⟩ := row_e R
  have h3 := R.1.1.1.2.2.1
  have h8 := R.1.1.1.2.2.2.1
  unfold f5_walkover f6_walkover f6_fails
  simp only [Option.bind_some]
  rcases split_ (x := x) (k := mmT t) (by omega) with h | ⟨m, hm, rfl⟩
  · rw [hasMatch_no R.1.2.1.2.2 h, Option.bind_some, if_pos (show nI 0 = 0 from rfl), isMatch_no (M := gsi M 6 (nI 0)) r5 mp mm h, Option.bind_some, if_pos (show nI 0 = 0 from rfl)]
    exact ⟨_, _, rfl, rfl, AG.no (by decide) (gsi_s _ _ _) (by decide), A.th.th⟩
  · rw [hasMatch_ R.1.2.1.2.2 mm hm, Option.bind_some, if_neg (show ¬ nI 1 = 0 by decide), isMatch_ok (M := gsi M 6 (nI 0)) r5 mm hm, Option.bind_some, if_neg (show ¬ nI 1 = 0 by decide), canHave_ R.1 hm, Option.bind_some, of_ (s := (gsi M 6 (nI 0)).2 0) (by omega) (by omega), Option.bind_some]
    show ∃ zz w, _ = some zz ∧ (if M.2 0 (18 + 9 * m + 3) = -1 then _ else _) = some w ∧ _
    by_cases cv : M.2 0 (18 + 9 * m + 3) = -1
    · rw [if_pos cv, if_pos (show nI 0 = 0 from rfl), if_pos cv]
      exact ⟨_, _, rfl, rfl, AG.no (by decide) (gsi_s _ _ _) (by decide), A.th.th⟩
    · rw [if_neg cv, if_neg (show ¬ nI 1 = 0 by decide), if_neg cv]
      obtain ⟨X', M', e1, e2, m0, m6, K⟩ := A.keep
      have hv := (g.2.2.2 m hm).resolve_left cv
      obtain ⟨-, b1, b2, -⟩ := tb_m h3 h8 hm
      rw [e1, Option.bind_some, e2, Option.bind_some]
      unfold f5_walkover_b67 f6_walkover_b56
      by_cases cy : y = 0
      · simp only [if_pos cy]
        obtain ⟨L', e3, R'⟩ := give_ (n := 3000) (x := nI 2) (y := nI 0) (z := nI 0) R hm
        have g' : GR t (gv (M.2 0) m (nI 2) (nI 0) (nI 0)) := g.gv (by omega) (by omega) (by omega) (fun _ => hv)
        obtain ⟨-, r1, r2⟩ := R'.1.1.2.2 m hm
        obtain ⟨⟨-, c1, c2⟩, -⟩ := R'.1.2.2.2 m hm
        obtain ⟨S', e4⟩ := pointsOf_ (S := S) (G := G) (L := L') (U := U) (V := V) (B := B) (X := X') R' g'.1 b1 (show 28 < 3000 by omega)
        rw [e3, Option.bind_some, ald_nI (by omega) (by omega), Option.bind_some, c1, r1, e4, Option.bind_some, m0, gives_ (by omega), Option.bind_some, gsa_s, of_ (by omega) (by omega), Option.bind_some, r1, points_ R'.1.1.1 (by omega), Option.bind_some]
        refine ⟨_, _, rfl, rfl, ?_, K _ _ ⟨t, q, R', g'⟩⟩
        show AG _ _ _ (M'.1 6)
        rw [m6]
        exact AG.ok
      · simp only [if_neg cy]
        obtain ⟨L', e3, R'⟩ := give_ (n := 3000) (x := nI 3) (y := nI 0) (z := nI 0) R hm
        have g' : GR t (gv (M.2 0) m (nI 3) (nI 0) (nI 0)) := g.gv (by omega) (by omega) (by omega) (fun _ => hv)
        obtain ⟨-, r1, r2⟩ := R'.1.1.2.2 m hm
        obtain ⟨⟨-, c1, c2⟩, -⟩ := R'.1.2.2.2 m hm
        obtain ⟨S', e4⟩ := pointsOf_ (S := S) (G := G) (L := L') (U := U) (V := V) (B := B) (X := X') R' g'.1 b2 (show 28 < 3000 by omega)
        rw [e3, Option.bind_some, ald_nI (by omega) (by omega), Option.bind_some, c2, r2, e4, Option.bind_some, m0, gives_ (by omega), Option.bind_some, gsa_s, of_ (by omega) (by omega), Option.bind_some, r2, points_ R'.1.1.1 (by omega), Option.bind_some]
        refine ⟨_, _, rfl, rfl, ?_, K _ _ ⟨t, q, R', g'⟩⟩
        show AG _ _ _ (M'.1 6)
        rw [m6]
        exact AG.ok
theorem call_annul {S G L U V B M : OB} {X : HS} {x : Int32} (A : AL L B X M) : ∃ zz w, f5_annul 3000 S G L U V B X x = some zz ∧ f6_annul 3000 M x = some w ∧ AG ["java/lang/IndexOutOfBoundsException"] zz.1 w.1 (w.2.1 6) ∧ AL zz.2.1 B zz.2.2 w.2 := by
  obtain ⟨t, q, R, g⟩ := A.1
  obtain ⟨r5, r4, mp, mm⟩ := row_e R
  unfold f5_annul f6_annul f6_fails
  simp only [Option.bind_some]
  rcases split_ (x := x) (k := mmT t) (by omega) with h | ⟨m, hm, rfl⟩
  · rw [hasMatch_no R.1.2.1.2.2 h, Option.bind_some, if_pos (show nI 0 = 0 from rfl), isMatch_no (M := gsi M 6 (nI 0)) r5 mp mm h, Option.bind_some, if_pos (show nI 0 = 0 from rfl)]
    exact ⟨_, _, rfl, rfl, AG.no (by decide) (gsi_s _ _ _) (by decide), A.th.th⟩
  · rw [hasMatch_ R.1.2.1.2.2 mm hm, Option.bind_some, if_neg (show ¬ nI 1 = 0 by decide), isMatch_ok (M := gsi M 6 (nI 0)) r5 mm hm, Option.bind_some, if_neg (show ¬ nI 1 = 0 by decide)]
    obtain ⟨X', M', e1, e2, m0, m6, K⟩ := A.keep
    obtain ⟨L', e3, R'⟩ := give_ (n := 3000) (x := nI 0) (y := nI 0) (z := nI 0) R hm
    have g' : GR t (gv (M.2 0) m (nI 0) (nI 0) (nI 0)) := g.gv (by omega) (by omega) (by omega) (fun e => absurd rfl e)
    obtain ⟨-, -, c6, -⟩ := R.1.2.2.2 m hm
    unfold f5_annul_b49
    rw [e1, Option.bind_some, ald_nI (by omega) (by omega), Option.bind_some, c6, e2, Option.bind_some, m0, of_ (by omega) (by omega), Option.bind_some, e3, gives_ (by omega), Option.bind_some, Option.bind_some, Option.bind_some]
    by_cases c0 : M.2 0 (18 + 9 * m + 6) = 0
    · rw [if_pos c0, if_pos c0, if_pos (show nI 0 = 0 from rfl)]
      refine ⟨_, _, rfl, rfl, ?_, K _ _ ⟨t, q, R', g'⟩⟩
      show AG _ _ _ (M'.1 6)
      rw [m6]
      exact AG.ok
    · rw [if_neg c0, if_neg c0, if_neg (show ¬ nI 1 = 0 by decide)]
      refine ⟨_, _, rfl, rfl, ?_, K _ _ ⟨t, q, R', g'⟩⟩
      show AG _ _ _ (M'.1 6)
      rw [m6]
      exact AG.ok
theorem call_firstError {S G L U V B M : OB} {X : HS} (A : AL L B X M) : ∃ z w, f5_firstError 3000 S G L U V B X = some z ∧ f6_firstError 3000 M = some w ∧ z.1 = w.1 ∧ AL L z.2 X w.2 := by
  obtain ⟨a, P, cd, len, h60, hc, T, Y⟩ := A
  obtain ⟨B0, M0, e0, kb, km, H⟩ := text_ (n := 3000) (M := gsi M 6 (nI 0)) h60 hc (by omega) T Y
  have al : ∀ B' M', KBx B' B0 → KM M' M0 → AL L B' X M' := fun B' M' k1 k2 => by
    have k3 := k2.trans km
    obtain ⟨j, b3, bX, b6, bP⟩ := P
    refine ⟨by rw [k3.2 0 (by decide)]; exact a, ⟨j, (k3.1 3 (by decide) (by decide) (by decide) (by decide)).trans b3, bX, b6, fun i hi => by rw [k3.2 2 (by decide)]; exact bP i hi⟩, cd, len, h60, hc, ⟨(k1.1.trans kb.1).trans T.1, fun k hk => by rw [k1.2, kb.2]; exact T.2 k hk⟩, ⟨(k3.1 5 (by decide) (by decide) (by decide) (by decide)).trans Y.1, fun k hk => by rw [k3.2 4 (by decide)]; exact Y.2 k hk⟩⟩
  unfold f5_firstError f6_firstError
  simp only [Option.bind_some]
  rcases H with ⟨M', e1, k1, z, B', o1, o2, o3, o4⟩ | ⟨M', B', P', e1, k1, o1, o2, -⟩
  · have m5 : M'.1 5 = nI len := ((k1.trans km).1 5 (by decide) (by decide) (by decide) (by decide)).trans Y.1
    rw [e0, o1, e1, Option.bind_some, Option.bind_some, if_pos (show nI 0 = 0 from rfl)]
    by_cases c : M'.1 8 = 0
    · rw [if_pos c] at o3 ⊢
      exact ⟨_, _, rfl, rfl, o3.trans m5.symm, al _ _ o4 k1⟩
    · rw [if_neg c] at o3 ⊢
      exact ⟨_, _, rfl, rfl, o3, al _ _ o4 k1⟩
  · have m5 : M'.1 5 = nI len := ((k1.trans km).1 5 (by decide) (by decide) (by decide) (by decide)).trans Y.1
    rw [e0, o1, e1, Option.bind_some, Option.bind_some, if_neg (show ¬ nI 1 = 0 by decide)]
    exact ⟨_, _, rfl, rfl, m5.symm, al _ _ o2 k1⟩
