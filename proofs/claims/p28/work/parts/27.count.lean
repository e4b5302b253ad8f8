/-! PURE: countUp -/
theorem n1_1 : nI 1 = (1 : Int32) := rfl
theorem pw (x y : Int32) : x * nI 1 + y * nI 0 = x ∧ x * nI 0 + y * nI 1 = y ∧ x * nI 0 + y * nI 0 = nI 0 := by
  rw [n1_1, nI_0]
  refine ⟨?_, ?_, ?_⟩ <;> grind
theorem sub_0 (x : Int32) : x - nI 0 = x := by
  rw [nI_0]; grind
theorem sm_lin (x y : Int32) (a b c : Nat → Int32) : ∀ n, sm (fun m => x * a m + y * b m - c m) n = (x * sm a n + y * sm b n) - sm c n
  | 0 => by
    show nI 0 = (x * nI 0 + y * nI 0) - nI 0
    rw [nI_0]
    grind
  | n + 1 => by
    rw [sm_s, sm_s, sm_s, sm_s, sm_lin x y a b c n]
    grind
/-- the results of a row's matches, and their scores -/
def RSL (mm : Nat) (s : Nat → Int32) : Prop := ∀ m, m < mm → ∃ ρ, ρ < 4 ∧ s (18 + 9 * m + 6) = nI ρ
theorem hasMatch_ {n k m : Nat} {L : OB} (h : L.1 2 = nI k) (hk : k ≤ 28) (hm : m < k) : f1_hasMatch n L (nI m) = some (nI 1) := by
  unfold f1_hasMatch
  rw [if_neg (nI_neg (by omega)), h, if_neg (by rw [nI_le' (by omega) (by omega)]; omega)]
theorem scoreOfL_ {t q n m σ : Nat} {L : OB} {s : Nat → Int32} (R : RLc t q L s) (V : RSL (mmT t) s) (hm : m < mmT t) (hσ : σ < 2) (h0 : ¬ s (18 + 9 * m + 6) = 0) : f1_scoreOf n L (nI m) (nI σ) = some (scR s m σ) := by
  have hmm : mmT t ≤ 28 := R.1.1.2.2.2.2
  obtain ⟨-, -, c6, c7, c8⟩ := R.2.2.2 m hm
  have c7 := c7 h0
  have c8 := c8 h0
  have g2 := R.2.2.1.1 2 (by omega)
  obtain ⟨ρ, hρ, e⟩ := V m hm
  unfold f1_scoreOf scR
  rw [hasMatch_ R.2.1.2.2 hmm hm, Option.bind_some, if_neg (by decide)]
  simp (disch := omega) only [ald_nI, Option.bind_some, c6, c7, c8, g2, e, nI_inj, nI_z]
  rw [e, nI_z (by omega)] at h0
  rcases σ with _ | _ | σ
  · rcases ρ with _ | _ | _ | _ | ρ
    · exact absurd rfl h0
    · simp
    · simp
    · simp
    · omega
  · rcases ρ with _ | _ | _ | _ | ρ
    · exact absurd rfl h0
    · simp
    · simp
    · simp
    · omega
  · omega
/-- the counts of t teams: a w by team, what w counts; p the points -/
def CU (S : OB) (t : Nat) (a : Nat → Nat → Int32) (p : Nat → Int32) : Prop := S.1 0 = nI t ∧ ∀ τ, τ < t → S.2 1 τ = p τ ∧ S.2 2 τ = a 1 τ ∧ S.2 3 τ = a 2 τ ∧ S.2 4 τ = a 3 τ ∧ S.2 5 τ = a 4 τ ∧ S.2 6 τ = a 5 τ ∧ S.2 7 τ = a 6 τ ∧ S.2 8 τ = a 8 τ
theorem hasTeam_ {n t τ : Nat} {S : OB} (h : S.1 0 = nI t) (ht : t ≤ 8) (hτ : τ < t) : f4_hasTeam n S (nI τ) = some (nI 1) := by
  unfold f4_hasTeam
  rw [if_neg (nI_neg (by omega)), h, if_neg (by rw [nI_le' (by omega) (by omega)]; omega)]
def pC (s : Nat → Int32) (m σ : Nat) : Int32 := s 0 * ctr s 2 m σ + s 1 * ctr s 3 m σ - ctr s 6 m σ
theorem addOneSide_ {t q n m σ τ0 : Nat} {S L : OB} {s : Nat → Int32} {a : Nat → Nat → Int32} {p : Nat → Int32} (R : RLc t q L s) (V : RSL (mmT t) s) (C : CU S t a p) (hm : m < mmT t) (hσ : σ < 2) (hτ : τ0 = if σ = 0 then fsT t m else scT t m) :
    ∃ S', f4_addOneSide n S L (nI m) (nI σ) = some S' ∧ CU S' t (fun w τ => a w τ + if τ = τ0 then ctr s w m σ else nI 0) (fun τ => p τ + if τ = τ0 then pC s m σ else nI 0) := by
  have hmm : mmT t ≤ 28 := R.1.1.2.2.2.2
  have h3 := R.1.1.2.2.1
  have h8 := R.1.1.2.2.2.1
  obtain ⟨b0, b1, b2, b3⟩ := tb_m h3 h8 hm
  obtain ⟨r0, r1, r2⟩ := R.1.2.2 m hm
  obtain ⟨⟨d0, d1, d2⟩, -, c6, c7, c8⟩ := R.2.2.2 m hm
  have g0 := R.2.2.1.1 0 (by omega)
  have g1 := R.2.2.1.1 1 (by omega)
  have hτt : τ0 < t := by rw [hτ]; split <;> assumption
  have e19 : f4_addOneSide n S L (nI m) (nI σ) = f4_addOneSide_b19 n L (nI m) (nI σ) (nI τ0) S := by
    unfold f4_addOneSide
    simp (disch := omega) only [ald_nI, Option.bind_some, d1, d2, r1, r2, nI_z]
    rw [hτ]
    split <;> rfl
  rw [e19]
  obtain ⟨C0, Cτ⟩ := C
  unfold f4_addOneSide_b19
  rw [hasTeam_ C0 h8 hτt, Option.bind_some, if_neg (by decide)]
  simp (disch := omega) only [ald_nI, Option.bind_some, c6]
  by_cases h0 : s (18 + 9 * m + 6) = 0
  · rw [if_pos h0]
    simp (disch := omega) only [oast_nI, Option.bind_some]
    have k : ∀ w, ctr s w m σ = if w = 8 then nI 1 else nI 0 := fun w => by unfold ctr; rw [if_pos h0]
    refine ⟨_, rfl, C0, fun τ hτ => ?_⟩
    obtain ⟨q1, q2, q3, q4, q5, q6, q7, q8⟩ := Cτ τ hτ
    unfold pC
    simp only [k, gsa_2, upd_e, Nat.reduceEqDiff, if_true, if_false]
    by_cases e : τ = τ0
    · subst e
      simp only [if_true, q1, q2, q3, q4, q5, q6, q7, q8, add_0, sub_0, pw, and_self]
    · simp only [e, if_false, q1, q2, q3, q4, q5, q6, q7, q8, add_0, sub_0, and_self]
  · rw [if_neg h0, scoreOfL_ R V hm hσ h0, Option.bind_some]
    have e77 : ∀ x, (if nI σ = (0 : Int32) then f4_addOneSide_b77 n L (nI m) (nI σ) (nI τ0) (s (18 + 9 * m + 6)) (nI τ0) x (nI m) (nI 1) S else f4_addOneSide_b77 n L (nI m) (nI σ) (nI τ0) (s (18 + 9 * m + 6)) (nI τ0) x (nI m) (nI 0) S) = f4_addOneSide_b77 n L (nI m) (nI σ) (nI τ0) (s (18 + 9 * m + 6)) (nI τ0) x (nI m) (nI (1 - σ)) S := by
      intro x
      rcases σ with _ | _ | σ
      · rfl
      · rfl
      · omega
    rw [e77]
    unfold f4_addOneSide_b77
    rw [scoreOfL_ R V hm (show 1 - σ < 2 by omega) h0, Option.bind_some]
    generalize hx : scR s m σ = x
    generalize hy : scR s m (1 - σ) = y
    have k1 : ctr s 1 m σ = nI 1 := by unfold ctr; simp [h0]
    have k2 : ctr s 2 m σ = if y < x then nI 1 else nI 0 := by unfold ctr; simp [h0, hx, hy]
    have k3 : ctr s 3 m σ = if x = y then nI 1 else nI 0 := by unfold ctr; simp [h0, hx, hy]
    have k4 : ctr s 4 m σ = x := by unfold ctr; simp [h0, hx]
    have k5 : ctr s 5 m σ = y := by unfold ctr; simp [h0, hy]
    have k6 : ctr s 6 m σ = if s (18 + 9 * m + 6) = nI (2 + σ) then nI 1 else nI 0 := by unfold ctr; simp [h0]
    have k8 : ctr s 8 m σ = nI 0 := by unfold ctr; simp [h0]
    have hS : ∃ S', f4_addScores n S L (nI τ0) x y = some S' ∧ S'.1 0 = nI t ∧ ∀ τ, τ < t → S'.2 1 τ = (p τ + if τ = τ0 then (s 0 * ctr s 2 m σ + s 1 * ctr s 3 m σ - nI 0) else nI 0) ∧ S'.2 2 τ = (a 1 τ + if τ = τ0 then ctr s 1 m σ else nI 0) ∧ S'.2 3 τ = (a 2 τ + if τ = τ0 then ctr s 2 m σ else nI 0) ∧ S'.2 4 τ = (a 3 τ + if τ = τ0 then ctr s 3 m σ else nI 0) ∧ S'.2 5 τ = (a 4 τ + if τ = τ0 then ctr s 4 m σ else nI 0) ∧ S'.2 6 τ = (a 5 τ + if τ = τ0 then ctr s 5 m σ else nI 0) ∧ S'.2 7 τ = a 6 τ ∧ S'.2 8 τ = (a 8 τ + if τ = τ0 then ctr s 8 m σ else nI 0) := by
      unfold f4_addScores
      rw [hasTeam_ C0 h8 hτt, Option.bind_some, if_neg (by decide)]
      simp (disch := omega) only [ald_nI, oast_nI, Option.bind_some, g0, g1]
      by_cases hlt : y < x
      · have hne : ¬ x = y := fun e => by rw [e] at hlt; exact absurd hlt Int32.lt_irrefl
        rw [if_neg (Int32.not_le.mpr hlt)]
        rw [if_pos hlt] at k2
        rw [if_neg hne] at k3
        refine ⟨_, rfl, C0, fun τ hτ => ?_⟩
        obtain ⟨q1, q2, q3, q4, q5, q6, q7, q8⟩ := Cτ τ hτ
        simp only [k1, k2, k3, k4, k5, k8, gsa_2, upd_e, Nat.reduceEqDiff, if_true, if_false]
        by_cases e : τ = τ0
        · subst e
          simp only [if_true, q1, q2, q3, q4, q5, q6, q7, q8, add_0, sub_0, pw, and_self]
        · simp only [e, if_false, q1, q2, q3, q4, q5, q6, q7, q8, add_0, sub_0, and_self]
      · rw [if_pos (Int32.not_lt.mp hlt)]
        rw [if_neg hlt] at k2
        by_cases hxy : x = y
        · rw [if_pos hxy]
          rw [if_pos hxy] at k3
          refine ⟨_, rfl, C0, fun τ hτ => ?_⟩
          obtain ⟨q1, q2, q3, q4, q5, q6, q7, q8⟩ := Cτ τ hτ
          simp only [k1, k2, k3, k4, k5, k8, gsa_2, upd_e, Nat.reduceEqDiff, if_true, if_false]
          by_cases e : τ = τ0
          · subst e
            simp only [if_true, q1, q2, q3, q4, q5, q6, q7, q8, add_0, sub_0, pw, and_self]
          · simp only [e, if_false, q1, q2, q3, q4, q5, q6, q7, q8, add_0, sub_0, and_self]
        · rw [if_neg hxy]
          rw [if_neg hxy] at k3
          refine ⟨_, rfl, C0, fun τ hτ => ?_⟩
          obtain ⟨q1, q2, q3, q4, q5, q6, q7, q8⟩ := Cτ τ hτ
          simp only [k1, k2, k3, k4, k5, k8, gsa_2, upd_e, Nat.reduceEqDiff, if_true, if_false]
          by_cases e : τ = τ0
          · subst e
            simp only [if_true, q1, q2, q3, q4, q5, q6, q7, q8, add_0, sub_0, pw, and_self]
          · simp only [e, if_false, q1, q2, q3, q4, q5, q6, q7, q8, add_0, sub_0, and_self]
    obtain ⟨S', hS1, hS0, hSτ⟩ := hS
    rw [hS1, Option.bind_some]
    have e94 : (if nI σ = (0 : Int32) then f4_addOneSide_b94 n L (nI m) (nI σ) (nI τ0) (s (18 + 9 * m + 6)) (nI 2) S' else f4_addOneSide_b94 n L (nI m) (nI σ) (nI τ0) (s (18 + 9 * m + 6)) (nI 3) S') = f4_addOneSide_b94 n L (nI m) (nI σ) (nI τ0) (s (18 + 9 * m + 6)) (nI (2 + σ)) S' := by
      rcases σ with _ | _ | σ
      · rfl
      · rfl
      · omega
    rw [e94]
    unfold f4_addOneSide_b94
    by_cases hw : s (18 + 9 * m + 6) = nI (2 + σ)
    · rw [if_pos hw]
      rw [if_pos hw] at k6
      simp (disch := omega) only [ald_nI, oast_nI, Option.bind_some]
      refine ⟨_, rfl, hS0, fun τ hτ => ?_⟩
      obtain ⟨q1, q2, q3, q4, q5, q6, q7, q8⟩ := hSτ τ hτ
      unfold pC
      simp only [k6, gsa_2, upd_e, Nat.reduceEqDiff, if_true, if_false]
      by_cases e : τ = τ0
      · subst e
        simp only [if_true] at q1 q2 q3 q4 q5 q6 q7 q8 ⊢
        refine ⟨?_, q2, q3, q4, q5, q6, by rw [q7], q8⟩
        rw [q1, nI_0, n1_1]
        grind
      · simp only [e, if_false] at q1 q2 q3 q4 q5 q6 q7 q8 ⊢
        exact ⟨q1, q2, q3, q4, q5, q6, by rw [q7, add_0], q8⟩
    · rw [if_neg hw]
      rw [if_neg hw] at k6
      refine ⟨_, rfl, hS0, fun τ hτ => ?_⟩
      obtain ⟨q1, q2, q3, q4, q5, q6, q7, q8⟩ := hSτ τ hτ
      unfold pC
      refine ⟨by rw [q1, k6], q2, q3, q4, q5, q6, ?_, q8⟩
      dsimp only
      rw [q7, k6]
      split <;> rw [add_0]
