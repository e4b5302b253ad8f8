/-! PURE: countUp, both loops -/
theorem CU.ext {S : OB} {t : Nat} {a a' : Nat → Nat → Int32} {p p' : Nat → Int32} (C : CU S t a p) (ha : ∀ w τ, τ < t → a w τ = a' w τ) (hp : ∀ τ, τ < t → p τ = p' τ) : CU S t a' p' := by
  refine ⟨C.1, fun τ h => ?_⟩
  obtain ⟨q1, q2, q3, q4, q5, q6, q7, q8⟩ := C.2 τ h
  rw [hp τ h, ha 1 τ h, ha 2 τ h, ha 3 τ h, ha 4 τ h, ha 5 τ h, ha 6 τ h, ha 8 τ h] at *
  exact ⟨q1, q2, q3, q4, q5, q6, q7, q8⟩
theorem cR_T {t q : Nat} {L : OB} {s : Nat → Int32} (R : RLc t q L s) {m τ w : Nat} (hm : m < mmT t) (hτ : τ < t) : cR s (nI τ) w m = if τ = fsT t m then ctr s w m 0 else if τ = scT t m then ctr s w m 1 else nI 0 := by
  have h3 := R.1.1.2.2.1
  have h8 := R.1.1.2.2.2.1
  obtain ⟨b0, b1, b2, b3⟩ := tb_m h3 h8 hm
  obtain ⟨r0, r1, r2⟩ := R.1.2.2 m hm
  unfold cR
  rw [r1, r2]
  have e1 : (nI (fsT t m) = nI τ) ↔ (τ = fsT t m) := (nI_inj (by omega) (by omega)).trans eq_comm
  have e2 : (nI (scT t m) = nI τ) ↔ (τ = scT t m) := (nI_inj (by omega) (by omega)).trans eq_comm
  simp only [e1, e2]
def pcR (s : Nat → Int32) (τ : Nat) (m : Nat) : Int32 := s 0 * cR s (nI τ) 2 m + s 1 * cR s (nI τ) 3 m - cR s (nI τ) 6 m
theorem pcR_sm (s : Nat → Int32) (τ mm : Nat) : sm (pcR s τ) mm = ptR s mm (nI τ) := sm_lin _ _ _ _ _ _
theorem pcR_T {t q : Nat} {L : OB} {s : Nat → Int32} (R : RLc t q L s) {m τ : Nat} (hm : m < mmT t) (hτ : τ < t) : pcR s τ m = if τ = fsT t m then pC s m 0 else if τ = scT t m then pC s m 1 else nI 0 := by
  unfold pcR pC
  rw [cR_T R hm hτ, cR_T R hm hτ, cR_T R hm hτ]
  split
  · rfl
  · split
    · rfl
    · rw [(pw (s 0) (s 1)).2.2, sub_0]
theorem zero_ {t n : Nat} {L : OB} {K : OB → Option OB} {S : OB} {Post : OB → Prop} (ht : t ≤ 8) (h0 : S.1 0 = nI t) (hK : ∀ S', CU S' t (fun _ _ => nI 0) (fun _ => nI 0) → ∃ r, K S' = some r ∧ Post r) (hn : t < n) : ∃ r, f4_countUp_b15 n L K n (nI 0) S = some r ∧ Post r := by
  refine loop_E (F := fun k p => f4_countUp_b15 n L K k p.1 p.2) (I := fun i (p : Int32 × OB) => p.1 = nI i ∧ p.2.1 0 = nI t ∧ ∀ τ, τ < i → ∀ j, j < 9 → j ≠ 0 → p.2.2 j τ = nI 0) (N := t) ?_ ?_ n (nI 0, S) hn ⟨rfl, h0, fun τ h => absurd h (Nat.not_lt_zero τ)⟩
  · rintro k ⟨v, S1⟩ ⟨e, c0, c1⟩
    dsimp only at e c0 c1 ⊢
    subst e
    rw [f4_countUp_b15, c0, if_pos (by rw [nI_le' (by omega) (by omega)]; exact Nat.le_refl _)]
    refine hK S1 ⟨c0, fun τ h => ?_⟩
    have c2 := c1 τ h
    exact ⟨c2 1 (by omega) (by omega), c2 2 (by omega) (by omega), c2 3 (by omega) (by omega), c2 4 (by omega) (by omega), c2 5 (by omega) (by omega), c2 6 (by omega) (by omega), c2 7 (by omega) (by omega), c2 8 (by omega) (by omega)⟩
  · rintro k i ⟨v, S1⟩ hi ⟨e, c0, c1⟩
    dsimp only at e c0 c1 ⊢
    subst e
    rw [f4_countUp_b15, c0]
    simp (disch := omega) only [nI_le', oast_nI, Option.bind_some, nI_add]
    rw [if_neg (by omega)]
    refine ⟨(nI (i + 1), _), ?_, rfl⟩
    refine ⟨rfl, c0, fun τ h j hj j0 => ?_⟩
    have e9 : j = 1 ∨ j = 2 ∨ j = 3 ∨ j = 4 ∨ j = 5 ∨ j = 6 ∨ j = 7 ∨ j = 8 := by omega
    by_cases e : τ = i
    · subst e
      rcases e9 with rfl | rfl | rfl | rfl | rfl | rfl | rfl | rfl
      · exact upd_s (S1.2 1) τ (nI 0)
      · exact upd_s (S1.2 2) τ (nI 0)
      · exact upd_s (S1.2 3) τ (nI 0)
      · exact upd_s (S1.2 4) τ (nI 0)
      · exact upd_s (S1.2 5) τ (nI 0)
      · exact upd_s (S1.2 6) τ (nI 0)
      · exact upd_s (S1.2 7) τ (nI 0)
      · exact upd_s (S1.2 8) τ (nI 0)
    · have hb := c1 τ (by omega) j hj j0
      rcases e9 with rfl | rfl | rfl | rfl | rfl | rfl | rfl | rfl
      · exact (upd_n (S1.2 1) (nI 0) e).trans hb
      · exact (upd_n (S1.2 2) (nI 0) e).trans hb
      · exact (upd_n (S1.2 3) (nI 0) e).trans hb
      · exact (upd_n (S1.2 4) (nI 0) e).trans hb
      · exact (upd_n (S1.2 5) (nI 0) e).trans hb
      · exact (upd_n (S1.2 6) (nI 0) e).trans hb
      · exact (upd_n (S1.2 7) (nI 0) e).trans hb
      · exact (upd_n (S1.2 8) (nI 0) e).trans hb
theorem countUp_ {t q n : Nat} {S L : OB} {s : Nat → Int32} (R : RLc t q L s) (V : RSL (mmT t) s) (hn : 28 < n) : ∃ S', f4_countUp n S L = some S' ∧ CU S' t (fun w τ => sm (cR s (nI τ) w) (mmT t)) (fun τ => ptR s (mmT t) (nI τ)) := by
  have hmm : mmT t ≤ 28 := R.1.1.2.2.2.2
  have h3 := R.1.1.2.2.1
  have h8 := R.1.1.2.2.2.1
  obtain ⟨hL0, hL1, hL2⟩ := R.2.1
  unfold f4_countUp
  simp only [Option.bind_some, hL0]
  rw [if_neg (by rw [nI_lt' (by omega) (by omega)]; omega)]
  refine zero_ h8 (gsi_s _ _ _) (fun S0 C0 => ?_) (by omega)
  unfold f4_countUp_b85
  refine loop_E (F := fun k p => f4_countUp_b87 n L k p.1 p.2) (I := fun i (p : Int32 × OB) => p.1 = nI i ∧ CU p.2 t (fun w τ => sm (cR s (nI τ) w) i) (fun τ => sm (pcR s τ) i)) (N := mmT t) ?_ ?_ n (nI 0, S0) (by omega) ⟨rfl, C0⟩
  · rintro k ⟨v, S1⟩ ⟨e, C⟩
    dsimp only at e C ⊢
    subst e
    rw [f4_countUp_b87, hL2, if_pos (by rw [nI_le' (by omega) (by omega)]; exact Nat.le_refl _)]
    exact ⟨_, rfl, C.ext (fun _ _ _ => rfl) (fun τ _ => pcR_sm s τ _)⟩
  · rintro k i ⟨v, S1⟩ hi ⟨e, C⟩
    dsimp only at e C ⊢
    subst e
    obtain ⟨b0, b1, b2, b3⟩ := tb_m h3 h8 hi
    obtain ⟨S2, e2, C2⟩ := addOneSide_ (n := n) (σ := 0) R V C hi (by omega) rfl
    obtain ⟨S3, e3, C3⟩ := addOneSide_ (n := n) (σ := 1) R V C2 hi (by omega) rfl
    refine ⟨(nI (i + 1), S3), ⟨rfl, C3.ext (fun w τ h => ?_) (fun τ h => ?_)⟩, ?_⟩
    · rw [sm_s, cR_T R hi h, if_pos rfl, if_neg (show ¬ 1 = 0 by decide)]
      by_cases c1 : τ = fsT t i
      · rw [if_pos c1, if_pos c1, if_neg (by omega), add_0]
      · rw [if_neg c1, if_neg c1, add_0]
    · rw [sm_s, pcR_T R hi h, if_pos rfl, if_neg (show ¬ 1 = 0 by decide)]
      by_cases c1 : τ = fsT t i
      · rw [if_pos c1, if_pos c1, if_neg (by omega), add_0]
      · rw [if_neg c1, if_neg c1, add_0]
    · dsimp only
      rw [f4_countUp_b87, hL2]
      simp (disch := omega) only [nI_le', e2, e3, Option.bind_some, nI_add]
      rw [if_neg (by omega)]
