/-! PURE: how many points there can be -/
def mcB : Bool := (List.range 9).all fun t => decide (t < 3) || ((List.range t).all fun τ => decide (cn (fun m => decide (fsT t m = τ) || decide (scT t m = τ)) (mmT t) ≤ 7))
theorem mcB_t : mcB = true := by decide +kernel
theorem mc_7 {t τ : Nat} (h3 : 3 ≤ t) (h8 : t ≤ 8) (hτ : τ < t) : cn (fun m => decide (fsT t m = τ) || decide (scT t m = τ)) (mmT t) ≤ 7 := by
  have h := List.all_eq_true.mp mcB_t t (List.mem_range.mpr (by omega))
  rw [decide_eq_false (by omega), Bool.false_or] at h
  exact of_decide_eq_true (List.all_eq_true.mp h τ (List.mem_range.mpr hτ))
theorem sm_cn {c : Nat → Int32} {p : Nat → Bool} : ∀ {n : Nat}, (∀ m, m < n → ∃ k, k ≤ bI (p m) ∧ c m = nI k) → ∃ K, K ≤ cn p n ∧ sm c n = nI K
  | 0, _ => ⟨0, by omega, rfl⟩
  | n + 1, h => by
    obtain ⟨K, hK, e⟩ := sm_cn (n := n) (fun m hm => h m (by omega))
    obtain ⟨k, hk, e2⟩ := h n (by omega)
    refine ⟨K + k, ?_, ?_⟩
    · rw [cn_s]; unfold bI at hk; omega
    · rw [sm_s, e, e2, nI_add]
theorem sm_add (c d : Nat → Int32) : ∀ n, sm (fun m => c m + d m) n = sm c n + sm d n
  | 0 => by
    show nI 0 = nI 0 + nI 0
    rw [add_0]
  | n + 1 => by
    rw [sm_s, sm_s, sm_s, sm_add c d n]
    grind
theorem ctr_23 {mm m σ : Nat} {s : Nat → Int32} (G : SGv s) (B : SCB mm s) (hm : m < mm) (hσ : σ < 2) : ∃ k, k ≤ 1 ∧ ctr s 2 m σ + ctr s 3 m σ = nI k := by
  obtain ⟨k2, h2, e2⟩ := ctr_b G B hm hσ 2
  obtain ⟨k3, h3, e3⟩ := ctr_b G B hm hσ 3
  rw [show bw 2 = 1 from rfl] at h2
  rw [show bw 3 = 1 from rfl] at h3
  by_cases c0 : s (18 + 9 * m + 6) = 0
  · refine ⟨0, by omega, ?_⟩
    unfold ctr
    rw [if_pos c0, if_pos c0, if_neg (by decide), if_neg (by decide), add_0]
  · by_cases c1 : scR s m σ = scR s m (1 - σ)
    · have z2 : ctr s 2 m σ = nI 0 := by
        unfold ctr
        rw [if_neg c0, if_neg (by decide), if_neg (by decide), if_neg (by decide), if_pos rfl, if_neg (by rw [c1]; exact Int32.lt_irrefl)]
      refine ⟨k3, h3, ?_⟩
      rw [z2, e3, nI_add, Nat.zero_add]
    · have z3 : ctr s 3 m σ = nI 0 := by
        unfold ctr
        rw [if_neg c0, if_neg (by decide), if_neg (by decide), if_neg (by decide), if_neg (by decide), if_pos rfl, if_neg c1]
      refine ⟨k2, h2, ?_⟩
      rw [z3, add_0, e2]
/-- the row says whose matches they are -/
def TMS (t : Nat) (s : Nat → Int32) : Prop := ∀ m, m < mmT t → s (18 + 9 * m + 1) = nI (fsT t m) ∧ s (18 + 9 * m + 2) = nI (scT t m)
theorem cR_in {t m τ w : Nat} {s : Nat → Int32} (h3 : 3 ≤ t) (h8 : t ≤ 8) (M : TMS t s) (hm : m < mmT t) (hτ : τ < t) : cR s (nI τ) w m = if fsT t m = τ then ctr s w m 0 else if scT t m = τ then ctr s w m 1 else nI 0 := by
  obtain ⟨b0, b1, b2, b3⟩ := tb_m h3 h8 hm
  obtain ⟨r1, r2⟩ := M m hm
  unfold cR
  rw [r1, r2]
  simp only [show (nI (fsT t m) = nI τ) ↔ (fsT t m = τ) from nI_inj (by omega) (by omega), show (nI (scT t m) = nI τ) ↔ (scT t m = τ) from nI_inj (by omega) (by omega)]
theorem pt_35 {t τ : Nat} {s : Nat → Int32} (G : SGv s) (B : SCB (mmT t) s) (M : TMS t s) (h3 : 3 ≤ t) (h8 : t ≤ 8) (hτ : τ < t) : ∃ x y, x ≤ 35 ∧ y ≤ 7 ∧ ptR s (mmT t) (nI τ) = nI x - nI y := by
  have hmm := tb_mm h3 h8
  have h7 := mc_7 h3 h8 hτ
  obtain ⟨w, -, hw, e2⟩ := sum_b G B hmm 2 (nI τ)
  obtain ⟨d, -, hd, e3⟩ := sum_b G B hmm 3 (nI τ)
  have hw := hw (by omega)
  have hd := hd (by omega)
  obtain ⟨o, ho, e6⟩ := sm_cn (n := mmT t) (c := cR s (nI τ) 6) (p := fun m => decide (fsT t m = τ) || decide (scT t m = τ)) (fun m hm => by
    rw [cR_in h3 h8 M hm hτ]
    by_cases c1 : fsT t m = τ
    · rw [if_pos c1]
      obtain ⟨k, hk, e⟩ := ctr_b G B hm (show 0 < 2 by omega) 6
      exact ⟨k, by rw [show bw 6 = 1 from rfl] at hk; simp [bI, c1]; exact hk, e⟩
    · rw [if_neg c1]
      by_cases c2 : scT t m = τ
      · rw [if_pos c2]
        obtain ⟨k, hk, e⟩ := ctr_b G B hm (show 1 < 2 by omega) 6
        exact ⟨k, by rw [show bw 6 = 1 from rfl] at hk; simp [bI, c2]; exact hk, e⟩
      · rw [if_neg c2]
        exact ⟨0, Nat.zero_le _, rfl⟩)
  obtain ⟨v, hv, e23⟩ := sm_cn (n := mmT t) (c := fun m => cR s (nI τ) 2 m + cR s (nI τ) 3 m) (p := fun m => decide (fsT t m = τ) || decide (scT t m = τ)) (fun m hm => by
    rw [cR_in h3 h8 M hm hτ, cR_in h3 h8 M hm hτ]
    by_cases c1 : fsT t m = τ
    · rw [if_pos c1, if_pos c1]
      obtain ⟨k, hk, e⟩ := ctr_23 G B hm (show 0 < 2 by omega)
      exact ⟨k, by simp [bI, c1]; exact hk, e⟩
    · rw [if_neg c1, if_neg c1]
      by_cases c2 : scT t m = τ
      · rw [if_pos c2, if_pos c2]
        obtain ⟨k, hk, e⟩ := ctr_23 G B hm (show 1 < 2 by omega)
        exact ⟨k, by simp [bI, c2]; exact hk, e⟩
      · rw [if_neg c2, if_neg c2]
        exact ⟨0, Nat.zero_le _, by rw [add_0]⟩)
  rw [sm_add, e2, e3, nI_add, nI_inj (by omega) (by omega)] at e23
  obtain ⟨a, b, c, ⟨ha, ha1, ha5⟩, ⟨hb, hb3⟩, -⟩ := G
  have m1 : a * w ≤ 5 * w := Nat.mul_le_mul_right w ha5
  have m2 : b * d ≤ 3 * d := Nat.mul_le_mul_right d hb3
  refine ⟨a * w + b * d, o, by omega, by omega, ?_⟩
  unfold ptR
  rw [e2, e3, e6, ha, hb, pk_mul, pk_mul, nI_add]
/-! PURE: the looks at the table -/
def ofT (s : Nat → Int32) (t a w : Nat) : Int32 := if w = 0 then ptR s (mmT t) (nI a) else if w = 7 then nI (PL s t a) else sm (cR s (nI a) w) (mmT t)
theorem propertyC_ {t n : Nat} {S : OB} {s : Nat → Int32} (T : TBL S t s) {a w : Nat} (ha : a < t) (hw : w < 9) (hn : 28 < n) : f4_property n S (nI a) (nI w) = some (ofT s t a w) := by
  have T0 := T
  obtain ⟨C, G, B, h3, h8⟩ := T
  obtain ⟨q1, q2, q3, q4, q5, q6, q7, q8⟩ := C.2 a ha
  unfold f4_property ofT
  rw [hasTeam_ C.1 h8 ha, Option.bind_some, if_neg (show ¬ nI 1 = 0 by decide), placeOfC_ T0 ha (by omega)]
  simp (disch := omega) only [ald_nI, Option.bind_some, q1, q2, q3, q4, q5, q6, q7, q8, nI_inj]
  have e9 : w = 0 ∨ w = 1 ∨ w = 2 ∨ w = 3 ∨ w = 4 ∨ w = 5 ∨ w = 6 ∨ w = 7 ∨ w = 8 := by omega
  rcases e9 with rfl | rfl | rfl | rfl | rfl | rfl | rfl | rfl | rfl <;> rfl
theorem ofTeam_ {t n : Nat} {S M : OB} {s : Nat → Int32} (hM : M.2 0 = s) (H : HG t (mmT t) s) (T : TBL S t s) {a w : Nat} (ha : a < t) (hw : w < 9) (hn : 28 < n) : f6_ofTeam n M (nI a) (nI w) = some (ofT s t a w) := by
  have hmm := tb_mm T.2.2.2.1 T.2.2.2.2
  unfold f6_ofTeam ofT
  rw [hM, points_ H (by omega), sums_ H (by omega) hw, placeOfM_ H T ha hn]
  simp (disch := omega) only [Option.bind_some, nI_inj, nI_z]
  split
  · rfl
  · split <;> rfl
theorem overTeams_ {t n : Nat} {S M : OB} {s : Nat → Int32} (hM : M.2 0 = s) (H : HG t (mmT t) s) (T : TBL S t s) {w : Nat} (hw : w < 9) (hn : 28 < n) : f6_overTeams n M (nI w) = some (sm (fun τ => ofT s t τ w) t) := by
  have h8 := T.2.2.2.2
  unfold f6_overTeams
  refine loop_S (F := fun k p => f6_overTeams_b4 n M (nI w) k p.1 p.2) (S := fun i => (sm (fun τ => ofT s t τ w) i, nI i)) (N := t) ?_ ?_ n (by omega)
  · intro k
    dsimp only
    rw [f6_overTeams_b4, hM]
    simp (disch := omega) only [ald_nI, Option.bind_some, H.1, nI_le', Nat.le_refl, if_true]
  · intro k i hi
    dsimp only
    rw [f6_overTeams_b4, hM]
    simp (disch := omega) only [ald_nI, Option.bind_some, H.1, nI_le', ofTeam_ hM H T hi hw hn, nI_add, sm_s]
    rw [if_neg (by omega)]
theorem allPoints_ {t n : Nat} {S : OB} {s : Nat → Int32} (T : TBL S t s) (hn : 28 < n) : f4_allPoints n S = some (sm (fun τ => ofT s t τ 0) t) := by
  obtain ⟨C, G, B, h3, h8⟩ := T
  unfold f4_allPoints
  refine loop_S (F := fun k p => f4_allPoints_b4 n S k p.1 p.2) (S := fun i => (sm (fun τ => ofT s t τ 0) i, nI i)) (N := t) ?_ ?_ n (by omega)
  · intro k
    dsimp only
    rw [f4_allPoints_b4, C.1, if_pos (by rw [nI_le' (by omega) (by omega)]; exact Nat.le_refl _)]
  · intro k i hi
    dsimp only
    obtain ⟨q1, -⟩ := C.2 i hi
    rw [f4_allPoints_b4, C.1]
    simp (disch := omega) only [ald_nI, Option.bind_some, q1, nI_le', nI_add, sm_s]
    rw [if_neg (by omega)]
    rfl
def alB (p : Nat → Bool) : Nat → Bool
  | 0 => true
  | n + 1 => alB p n && p n
theorem alB_s (p : Nat → Bool) (n : Nat) : alB p (n + 1) = (alB p n && p n) := rfl
theorem alB_f {p : Nat → Bool} {i : Nat} (h : p i = false) : ∀ {n : Nat}, i < n → alB p n = false
  | 0, hi => absurd hi (Nat.not_lt_zero i)
  | n + 1, hi => by
    rw [alB_s]
    by_cases e : i = n
    · rw [← e, h, Bool.and_false]
    · rw [alB_f h (n := n) (by omega), Bool.false_and]
def suP (s : Nat → Int32) (t a : Nat) : Nat → Bool := fun j => decide (j = a) || decide (¬ ptR s (mmT t) (nI a) ≤ ptR s (mmT t) (nI j) + s 0 * sm (cR s (nI j) 8) (mmT t))
theorem sureM_ {t n : Nat} {M : OB} {s : Nat → Int32} (hM : M.2 0 = s) (H : HG t (mmT t) s) {a : Nat} (ha : a < t) (hn : 28 < n) : f6_sure n M (nI a) = some (nI (bI (alB (suP s t a) t))) := by
  have H0 := H
  obtain ⟨h4, h5, h3, h8, hmm⟩ := H
  unfold f6_sure
  refine loop_S (F := fun k p => f6_sure_b4 n M (nI a) (fun v2 => f6_sure_b72 n M (nI a) v2) k p.1 p.2) (S := fun i => (nI (bI (alB (suP s t a) i)), nI i)) (N := t) ?_ ?_ n (by omega)
  · intro k
    dsimp only
    rw [f6_sure_b4, hM]
    simp (disch := omega) only [ald_nI, Option.bind_some, h4, nI_le', Nat.le_refl, if_true]
    unfold f6_sure_b72
    cases alB (suP s t a) t <;> rfl
  · intro k i hi
    dsimp only
    rw [f6_sure_b4, hM]
    simp (disch := omega) only [ald_nI, Option.bind_some, h4, nI_le', nI_inj, points_ H0, sums_ H0, bI_z, nI_add, alB_s]
    rw [if_neg (by omega)]
    cases hb : alB (suP s t a) i with
    | false => rfl
    | true =>
      unfold suP
      by_cases e : i = a
      · simp [e, bI]
      · by_cases c : ptR s (mmT t) (nI a) ≤ ptR s (mmT t) (nI i) + s 0 * sm (cR s (nI i) 8) (mmT t)
        · simp [e, c, bI]
        · simp [e, c, bI]
theorem sureC_ {t n : Nat} {S : OB} {s : Nat → Int32} (T : TBL S t s) {a : Nat} (ha : a < t) (hn : 28 < n) : f4_isOutOfReach n S (nI a) (s 0) = some (nI (bI (alB (suP s t a) t))) := by
  obtain ⟨C, G, B, h3, h8⟩ := T
  have goal : ∃ r, f4_isOutOfReach n S (nI a) (s 0) = some r ∧ r = nI (bI (alB (suP s t a) t)) := by
    unfold f4_isOutOfReach
    rw [hasTeam_ C.1 h8 ha, Option.bind_some, if_neg (show ¬ nI 1 = 0 by decide)]
    refine loop_X (F := fun k p => f4_isOutOfReach_b12 n S (nI a) (s 0) k p) (I := fun i p => p = nI i ∧ alB (suP s t a) i = true) (N := t) ?_ ?_ n (nI 0) (by omega) ⟨rfl, rfl⟩
    · rintro k v ⟨e, h⟩
      subst e
      rw [f4_isOutOfReach_b12, C.1, if_pos (by rw [nI_le' (by omega) (by omega)]; exact Nat.le_refl _)]
      exact ⟨_, rfl, by rw [h]; rfl⟩
    · rintro k i v hi ⟨e, h⟩
      subst e
      obtain ⟨q1, -, -, -, -, -, -, q8⟩ := C.2 i hi
      obtain ⟨r1, -⟩ := C.2 a ha
      rw [f4_isOutOfReach_b12, C.1]
      simp (disch := omega) only [ald_nI, Option.bind_some, q1, q8, r1, nI_le', nI_inj, nI_add]
      rw [if_neg (by omega)]
      by_cases e : i = a
      · right
        rw [if_pos e]
        exact ⟨_, ⟨rfl, by rw [alB_s, h, Bool.true_and]; unfold suP; simp [e]⟩, rfl⟩
      · rw [if_neg e, Int32.mul_comm]
        by_cases c : ptR s (mmT t) (nI a) ≤ ptR s (mmT t) (nI i) + s 0 * sm (cR s (nI i) 8) (mmT t)
        · left
          rw [if_neg (Int32.not_lt.mpr c)]
          refine ⟨_, rfl, ?_⟩
          rw [alB_f (i := i) (by unfold suP; simp [e, c]) hi]
          rfl
        · right
          rw [if_pos (Int32.not_le.mp c)]
          exact ⟨_, ⟨rfl, by rw [alB_s, h, Bool.true_and]; unfold suP; simp [e, c]⟩, rfl⟩
  obtain ⟨r, h1, h2⟩ := goal
  rw [h1, h2]
