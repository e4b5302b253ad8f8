/-! PURE: busy, meeting, set -/
theorem call_busy {S G L U V B M : OB} {X : HS} {x y : Int32} (A : AL L B X M) : ∃ z w, f5_busy 3000 S G L U V B X x y = some z ∧ f6_busy 3000 M x y = some w ∧ AG ["java/lang/IndexOutOfBoundsException", "java/lang/IllegalArgumentException"] z w.1 (w.2.1 6) ∧ AL L B X w.2 := by
  obtain ⟨t, q, R, g⟩ := A.1
  have h3 := R.1.1.1.2.2.1
  have h8 := R.1.1.1.2.2.2.1
  unfold f5_busy f6_busy f6_fails f5_isVenueOrSetter
  simp only [Option.bind_some]
  rw [show (gsi M 6 (nI 0)).2 0 = M.2 0 from rfl, rounds_ R.1.1.1, Option.bind_some, pk_sub (show 1 ≤ t - 1 + t % 2 by omega)]
  rcases split_ (x := x) (k := t - 1 + t % 2) (by omega) with h | ⟨r, hr, rfl⟩
  · rw [in_no (h.imp id (lt_1 (by omega) (by omega)).mpr), Option.bind_some, if_pos (show nI 0 = 0 from rfl)]
    by_cases c1 : x < (0 : Int32)
    · rw [if_pos c1]
      exact ⟨_, _, rfl, rfl, AG.no (by decide) (gsi_s _ _ _) (by decide), A.th.th⟩
    · rw [if_neg c1, R.1.2.1.2.1, if_neg (Int32.not_lt.mpr (h.resolve_left c1))]
      exact ⟨_, _, rfl, rfl, AG.no (by decide) (gsi_s _ _ _) (by decide), A.th.th⟩
  · rw [if_neg (nI_neg (by omega)), R.1.2.1.2.1, if_pos (by rw [nI_lt' (by omega) (by omega)]; omega), in_j (by omega) (by omega), Option.bind_some, if_neg (show ¬ nI 1 = 0 by decide)]
    rcases split_ (x := y) (k := 12) (by omega) with h | ⟨w, hw, rfl⟩
    · rw [in_no (h.imp id (lt_1 (k := 12) (by omega) (by omega)).mpr), Option.bind_some, if_pos (show nI 0 = 0 from rfl)]
      by_cases c1 : y < (0 : Int32)
      · rw [if_pos c1, Option.bind_some, if_pos (show nI 0 = 0 from rfl)]
        exact ⟨_, _, rfl, rfl, AG.no (by decide) (gsi_s _ _ _) (by decide), A.th.th⟩
      · rw [if_neg c1, if_pos (h.resolve_left c1), Option.bind_some, if_pos (show nI 0 = 0 from rfl)]
        exact ⟨_, _, rfl, rfl, AG.no (by decide) (gsi_s _ _ _) (by decide), A.th.th⟩
    · rw [if_neg (nI_neg (by omega)), if_neg (by rw [nI_le' (by omega) (by omega)]; omega), Option.bind_some, if_neg (show ¬ nI 1 = 0 by decide), in_j (by omega) (by omega), Option.bind_some, if_neg (show ¬ nI 1 = 0 by decide), busyM_ (M := gsi M 6 (nI 0)) (s := M.2 0) rfl R.1.1.1 (by omega) hw (by omega), Option.bind_some]
      by_cases c : w < 6
      · rw [if_neg (by rw [nI_le' (by omega) (by omega)]; omega), busyV_ R.1 g.2.2.1 (by omega) c (by omega), Option.bind_some]
        exact ⟨_, _, rfl, rfl, AG.ok, A.th⟩
      · rw [if_pos (by rw [nI_le' (by omega) (by omega)]; omega), pk_sub (by omega), busyS_ R.1 g.2.2.1 (by omega) (by omega) (by omega), Option.bind_some, show w - 6 + 6 = w by omega]
        exact ⟨_, _, rfl, rfl, AG.ok, A.th⟩
theorem call_meeting {S G L U V B M : OB} {X : HS} {x y : Int32} (A : AL L B X M) : ∃ z w, f5_meeting 3000 S G L U V B X x y = some z ∧ f6_meeting 3000 M x y = some w ∧ AG ["java/lang/IndexOutOfBoundsException", "java/lang/IllegalArgumentException"] z w.1 (w.2.1 6) ∧ AL L B X w.2 := by
  obtain ⟨t, q, R, g⟩ := A.1
  obtain ⟨r5, r4, mp, mm⟩ := row_e R
  have h3 := R.1.1.1.2.2.1
  have h8 := R.1.1.1.2.2.2.1
  unfold f5_meeting f6_meeting f6_fails
  simp only [Option.bind_some]
  rcases split_ (x := x) (k := t) (by omega) with h | ⟨a, ha, rfl⟩
  · rw [hasTeamL_no R.1.2.1.1 h, Option.bind_some, if_pos (show nI 0 = 0 from rfl), isTeam_no (M := gsi M 6 (nI 0)) r4 (by omega) h8 h, Option.bind_some, if_pos (show nI 0 = 0 from rfl)]
    exact ⟨_, _, rfl, rfl, AG.no (by decide) (gsi_s _ _ _) (by decide), A.th.th⟩
  · rw [hasTeamL_ok R.1.2.1.1 h8 ha, Option.bind_some, if_neg (show ¬ nI 1 = 0 by decide), isTeam_ok (M := gsi M 6 (nI 0)) r4 h8 ha, Option.bind_some, if_neg (show ¬ nI 1 = 0 by decide)]
    rcases split_ (x := y) (k := t) (by omega) with h | ⟨b, hb, rfl⟩
    · rw [hasTeamL_no R.1.2.1.1 h, Option.bind_some, if_pos (show nI 0 = 0 from rfl), isTeam_no (M := gsi M 6 (nI 0)) r4 (by omega) h8 h, Option.bind_some, if_pos (show nI 0 = 0 from rfl)]
      exact ⟨_, _, rfl, rfl, AG.no (by decide) (gsi_s _ _ _) (by decide), A.th.th⟩
    · rw [hasTeamL_ok R.1.2.1.1 h8 hb, Option.bind_some, if_neg (show ¬ nI 1 = 0 by decide), isTeam_ok (M := gsi M 6 (nI 0)) r4 h8 hb, Option.bind_some, if_neg (show ¬ nI 1 = 0 by decide)]
      by_cases c : a = b
      · rw [if_pos (by rw [c]), if_pos (by rw [c])]
        exact ⟨_, _, rfl, rfl, AG.no (by decide) (gsi_s _ _ _) (by decide), A.th.th⟩
      · have c' : ¬ nI a = nI b := fun e => c ((nI_inj (by omega) (by omega)).mp e)
        rw [if_neg c', if_neg c', matchOfBoth_ R.1 ha hb c (by omega), Option.bind_some, meetingM_ (M := gsi M 6 (nI 0)) (s := M.2 0) rfl R.1.1.1 R.tms ha hb c (by omega)]
        exact ⟨_, _, rfl, rfl, AG.ok, A.th⟩
theorem set_r {t q q' k : Nat} {L : OB} {s : Nat → Int32} {v : Int32} (R : RLr t q L s) (hk : k < 4) (hq : upd s k v 3 = nI q' ∧ 1 ≤ q' ∧ q' ≤ 28) : RLr t q' (gsa L 3 (upd (L.2 3) k v)) (upd s k v) := by
  obtain ⟨⟨⟨⟨h4, h5, h3, h8, hmm⟩, -, hf⟩, hL, ⟨g3, g4, g5⟩, hr⟩, Rr⟩ := R
  refine ⟨⟨⟨⟨by rw [upd_n _ _ (by omega)]; exact h4, by rw [upd_n _ _ (by omega)]; exact h5, h3, h8, hmm⟩, hq, fun m hm => ?_⟩, hL, ⟨fun j hj => ?_, fun j hj => by rw [upd_n _ _ (by omega)]; exact g4 j hj, fun j hj => by rw [upd_n _ _ (by omega)]; exact g5 j hj⟩, fun m hm => ?_⟩, fun m hm => by rw [upd_n _ _ (by omega)]; exact Rr m hm⟩
  · rw [upd_n (j := 18 + 9 * m + 0) _ _ (by omega), upd_n (j := 18 + 9 * m + 1) _ _ (by omega), upd_n (j := 18 + 9 * m + 2) _ _ (by omega)]; exact hf m hm
  · show upd (L.2 3) k v j = _
    rw [upd_e, upd_e]
    by_cases e : j = k
    · rw [if_pos e, if_pos e]
    · rw [if_neg e, if_neg e]; exact g3 j hj
  · rw [upd_n (j := 18 + 9 * m + 0) _ _ (by omega), upd_n (j := 18 + 9 * m + 1) _ _ (by omega), upd_n (j := 18 + 9 * m + 2) _ _ (by omega), upd_n (j := 18 + 9 * m + 3) _ _ (by omega), upd_n (j := 18 + 9 * m + 4) _ _ (by omega), upd_n (j := 18 + 9 * m + 6) _ _ (by omega), upd_n (j := 18 + 9 * m + 7) _ _ (by omega), upd_n (j := 18 + 9 * m + 8) _ _ (by omega)]; exact hr m hm
def loS (k : Nat) : Nat := if k = 1 then 0 else 1
def hiS (k : Nat) : Nat := if k = 0 then 5 else if k = 1 then 3 else if k = 2 then 50 else 28
theorem set_g {t k v : Nat} {s : Nat → Int32} (G : GR t s) (hk : k < 4) (h1 : loS k ≤ v) (h2 : v ≤ hiS k) : GR t (upd s k (nI v)) := by
  obtain ⟨⟨⟨a, b, c, ha, hb, hc⟩, Vr, Bs⟩, v1, u, w⟩ := G
  refine ⟨⟨?_, fun m hm => by rw [upd_n _ _ (by omega)]; exact Vr m hm, fun m hm => by rw [upd_n (j := 18 + 9 * m + 7) _ _ (by omega), upd_n (j := 18 + 9 * m + 8) _ _ (by omega)]; exact Bs m hm⟩, v1.mask (by omega), u.mask (by omega), w.congr fun m hm => ⟨upd_n _ _ (by omega), upd_n _ _ (by omega)⟩⟩
  unfold loS at h1
  unfold hiS at h2
  have e9 : k = 0 ∨ k = 1 ∨ k = 2 ∨ k = 3 := by omega
  rcases e9 with rfl | rfl | rfl | rfl
  · exact ⟨v, b, c, ⟨upd_s _ _ _, h1, h2⟩, by rw [upd_n _ _ (by decide)]; exact hb, by rw [upd_n _ _ (by decide)]; exact hc⟩
  · exact ⟨a, v, c, by rw [upd_n _ _ (by decide)]; exact ha, ⟨upd_s _ _ _, h2⟩, by rw [upd_n _ _ (by decide)]; exact hc⟩
  · exact ⟨a, b, v, by rw [upd_n _ _ (by decide)]; exact ha, by rw [upd_n _ _ (by decide)]; exact hb, ⟨upd_s _ _ _, h1, h2⟩⟩
  · exact ⟨a, b, c, by rw [upd_n _ _ (by decide)]; exact ha, by rw [upd_n _ _ (by decide)]; exact hb, by rw [upd_n _ _ (by decide)]; exact hc⟩
theorem sLV_k : ∀ k, k < 4 → sLV k = nI (loS k) := by decide +kernel
theorem sGV_k : ∀ k, k < 4 → sGV k = nI (hiS k) := by decide +kernel
theorem isFor_ {n k : Nat} {y : Int32} (hk : k < 4) : f6_isFor n (nI k) y = f6_in n y (nI (loS k)) (nI (hiS k)) := by
  have hz : ∀ a b, ((f6_in n y a b).bind fun z => (zo z).bind fun y => some y) = f6_in n y a b := fun a b => by
    by_cases c : y < a ∨ b < y
    · rw [in_no c]; rfl
    · rw [in_ok (fun e => c (Or.inl e)) (fun e => c (Or.inr e))]; rfl
  unfold f6_isFor f6_isFor_b11
  simp only [hz]
  have e9 : k = 0 ∨ k = 1 ∨ k = 2 ∨ k = 3 := by omega
  rcases e9 with rfl | rfl | rfl | rfl <;> rfl
theorem call_set {S G L U V B M : OB} {X : HS} {x y : Int32} (A : AL L B X M) : ∃ z w, f5_set 3000 S G L U V B X x y = some z ∧ f6_set 3000 M x y = some w ∧ AG ["java/lang/IndexOutOfBoundsException", "java/lang/IllegalArgumentException"] z.1 w.1 (w.2.1 6) ∧ AL z.2.1 B z.2.2 w.2 := by
  obtain ⟨t, q, R, g⟩ := A.1
  unfold f5_set f6_set f6_fails
  simp only [Option.bind_some]
  rcases split_ (x := x) (k := 4) (by omega) with h | ⟨k, hk, rfl⟩
  · rw [in_no (h.imp id (lt_1 (k := 4) (by omega) (by omega)).mpr), Option.bind_some, if_pos (show nI 0 = 0 from rfl)]
    by_cases c1 : x < (0 : Int32)
    · rw [if_pos c1]
      exact ⟨_, _, rfl, rfl, AG.no (by decide) (gsi_s _ _ _) (by decide), A.th.th⟩
    · rw [if_neg c1, if_neg (Int32.not_lt.mpr (h.resolve_left c1))]
      exact ⟨_, _, rfl, rfl, AG.no (by decide) (gsi_s _ _ _) (by decide), A.th.th⟩
  · have hlo : loS k ≤ 1 := by unfold loS; split <;> omega
    have hhi : hiS k ≤ 50 := by unfold hiS; split <;> (try split) <;> (try split) <;> omega
    rw [if_neg (nI_neg (by omega)), if_pos (by rw [nI_lt' (by omega) (by omega)]; omega), in_j (by omega) (by omega), Option.bind_some, if_neg (show ¬ nI 1 = 0 by decide), isFor_ hk, ald_nI hk (by omega), Option.bind_some, sLV_k k hk, ald_nI hk (by omega), Option.bind_some, sGV_k k hk]
    by_cases c1 : y < nI (loS k)
    · rw [if_pos c1, in_no (Or.inl c1), Option.bind_some, if_pos (show nI 0 = 0 from rfl)]
      exact ⟨_, _, rfl, rfl, AG.no (by decide) (gsi_s _ _ _) (by decide), A.th.th⟩
    · rw [if_neg c1]
      by_cases c2 : y ≤ nI (hiS k)
      · rw [if_pos c2, in_ok c1 (Int32.not_lt.mpr c2), Option.bind_some, if_neg (show ¬ nI 1 = 0 by decide)]
        obtain ⟨v, v1, v2, rfl⟩ := rng (by omega) (by omega) (Int32.not_lt.mp c1) c2
        obtain ⟨X', M', e1, e2, m0, m6, K⟩ := A.keep
        rw [e1, Option.bind_some, ald_nI hk (by omega), Option.bind_some, oast_nI hk (by omega), Option.bind_some, e2, Option.bind_some]
        unfold f6_changes
        rw [ald_nI (by omega) (by omega), Option.bind_some, oast_nI (by omega) (by omega), Option.bind_some, Option.bind_some]
        refine ⟨_, _, rfl, rfl, ?_, K _ _ ?_⟩
        · show AG _ (.inr (L.2 3 k)) (M'.2 0 k) (M'.1 6)
          rw [m6, m0, R.1.2.2.1.1 k hk]
          exact AG.ok
        · rw [m0]
          by_cases e : k = 3
          · subst e
            exact ⟨t, v, set_r R hk ⟨upd_s _ _ _, v1, v2⟩, set_g g hk v1 v2⟩
          · exact ⟨t, q, set_r R hk ⟨by rw [upd_n _ _ (by omega)]; exact R.1.1.2.1.1, R.1.1.2.1.2⟩, set_g g hk v1 v2⟩
      · rw [if_neg c2, in_no (Or.inr (Int32.not_le.mp c2)), Option.bind_some, if_pos (show nI 0 = 0 from rfl)]
        exact ⟨_, _, rfl, rfl, AG.no (by decide) (gsi_s _ _ _) (by decide), A.th.th⟩
