/-! PURE: the looks at a match -/
def ofM (s : Nat → Int32) (m w : Nat) : Int32 := if w < 6 then s (18 + 9 * m + w) else if w = 8 then s (18 + 9 * m + 6) else if s (18 + 9 * m + 6) = 0 then -1 else scR s m (w - 6)
theorem scoreOfL_0 {t q n m : Nat} {x : Int32} {L : OB} {s : Nat → Int32} (R : RLc t q L s) (hm : m < mmT t) (h0 : s (18 + 9 * m + 6) = 0) : f1_scoreOf n L (nI m) x = some (-1) := by
  have hmm : mmT t ≤ 28 := R.1.1.2.2.2.2
  obtain ⟨-, -, c6, c7, c8⟩ := R.2.2.2 m hm
  unfold f1_scoreOf
  rw [hasMatch_ R.2.1.2.2 hmm hm, Option.bind_some, if_neg (by decide), ald_nI (by omega) (by omega), Option.bind_some, c6, h0, if_neg (by decide), if_neg (by decide), if_neg (by decide)]
theorem propertyL_ {t q n m w : Nat} {L : OB} {s : Nat → Int32} (R : RLr t q L s) (V : RSL (mmT t) s) (hm : m < mmT t) (hw : w < 9) : f1_property n L (nI m) (nI w) = some (ofM s m w) := by
  obtain ⟨Rc, Rr⟩ := R
  have hmm : mmT t ≤ 28 := Rc.1.1.2.2.2.2
  obtain ⟨⟨c0, c1, c2⟩, ⟨c3, c4⟩, c6, c7, c8⟩ := Rc.2.2.2 m hm
  have c5 := Rr m hm
  have hsc : ∀ σ, σ < 2 → f1_scoreOf n L (nI m) (nI σ) = some (if s (18 + 9 * m + 6) = 0 then -1 else scR s m σ) := fun σ hσ => by
    by_cases h0 : s (18 + 9 * m + 6) = 0
    · rw [if_pos h0]; exact scoreOfL_0 Rc hm h0
    · rw [if_neg h0]; exact scoreOfL_ Rc V hm hσ h0
  unfold f1_property ofM
  rw [hasMatch_ Rc.2.1.2.2 hmm hm, Option.bind_some, if_neg (show ¬ nI 1 = 0 by decide), hsc 0 (by omega), hsc 1 (by omega)]
  simp (disch := omega) only [ald_nI, Option.bind_some, nI_inj, c0, c1, c2, c3, c4, c5, c6]
  have e9 : w = 0 ∨ w = 1 ∨ w = 2 ∨ w = 3 ∨ w = 4 ∨ w = 5 ∨ w = 6 ∨ w = 7 ∨ w = 8 := by omega
  rcases e9 with rfl | rfl | rfl | rfl | rfl | rfl | rfl | rfl | rfl <;> rfl
theorem ofMatch_ {n m w : Nat} {M : OB} {s : Nat → Int32} (hM : M.2 0 = s) (hm : m < 28) (hw : w < 9) : f6_ofMatch n M (nI m) (nI w) = some (ofM s m w) := by
  unfold f6_ofMatch ofM
  rw [hM]
  by_cases c : w < 6
  · rw [if_neg (by rw [nI_le' (by omega) (by omega)]; omega), of_ hm (by omega), if_pos c]
    rfl
  · rw [if_pos (by rw [nI_le' (by omega) (by omega)]; omega), of_ hm (by omega), if_neg c, Option.bind_some]
    by_cases c8 : w = 8
    · rw [if_pos (by rw [c8]), if_pos c8]
    · rw [if_neg (by rw [nI_inj (by omega) (by omega)]; exact c8), if_neg c8]
      split
      · rfl
      · rw [pk_sub (by omega), scoreOf_ hm (by omega)]
        rfl
theorem cn_uni {p : Nat → Bool} : ∀ {n i j : Nat}, cn p n ≤ 1 → i < n → j < n → p i = true → p j = true → i = j
  | 0, i, _, _, h, _, _, _ => absurd h (Nat.not_lt_zero i)
  | n + 1, i, j, h, hi, hj, pi, pj => by
    rw [cn_s] at h
    by_cases ei : i = n
    · by_cases ej : j = n
      · omega
      · subst ei
        rw [if_pos pi] at h
        have h0 : cn p i = 0 := by omega
        have := cn_0.mp h0 j (by omega)
        rw [pj] at this
        cases this
    · by_cases ej : j = n
      · subst ej
        rw [if_pos pj] at h
        have h0 : cn p j = 0 := by omega
        have := cn_0.mp h0 i (by omega)
        rw [pi] at this
        cases this
      · exact cn_uni (n := n) (by omega) (by omega) (by omega) pi pj
/-- no venue and no setter twice in a round -/
def UNI (t : Nat) (s : Nat → Int32) : Prop := ∀ w, (w = 3 ∨ w = 4) → ∀ k, k < 6 → ∀ r, r < 7 → cn (hvP s w (nI k) (nI r)) (mmT t) ≤ 1
def bzR (s : Nat → Int32) (t r x : Nat) : Option Nat := taR (hvP s (if x < 6 then 3 else 4) (nI (x % 6)) (nI r)) (mmT t)
theorem hvP_r {s : Nat → Int32} {w r m : Nat} {y : Int32} (hr : r < 7) : hvP s w y (nI r) m = (decide (s (18 + 9 * m + w) = y) && decide (s (18 + 9 * m + 0) = nI r)) := by
  unfold hvP
  rw [decide_eq_false (nI_m1 (by omega)), Bool.false_or]
theorem busyM_ {t n r x : Nat} {M : OB} {s : Nat → Int32} (hM : M.2 0 = s) (H : HG t (mmT t) s) (hr : r < 7) (hx : x < 12) (hn : 28 < n) : f6_busyWith n M (nI r) (nI x) = some (oN (bzR s t r x)) := by
  obtain ⟨h4, h5, h3, h8, hmm⟩ := H
  unfold f6_busyWith bzR
  refine loop_S (F := fun k p => f6_busyWith_b5 n M (nI r) (nI x) k p.1 p.2) (S := fun i => (oN (taR (hvP s (if x < 6 then 3 else 4) (nI (x % 6)) (nI r)) i), nI i)) (N := mmT t) ?_ ?_ n (by omega)
  · intro k
    dsimp only
    rw [f6_busyWith_b5, hM]
    simp (disch := omega) only [ald_nI, Option.bind_some, h5, nI_le', Nat.le_refl, if_true]
  · intro k i hi
    dsimp only
    rw [f6_busyWith_b5, hM]
    unfold f6_busyWith_b33
    rw [hM]
    simp (disch := omega) only [ald_nI, Option.bind_some, h5, nI_le', of_, nI_mod, nI_add, taR_s]
    rw [if_neg (by omega)]
    by_cases c : x < 6
    · rw [if_neg (by omega), if_pos c, hvP_r hr]
      by_cases c1 : s (18 + 9 * i + 0) = nI r
      · rw [if_pos c1, decide_eq_true c1, Bool.and_true]
        by_cases c2 : s (18 + 9 * i + 3) = nI (x % 6)
        · rw [if_pos c2, decide_eq_true c2]; rfl
        · rw [if_neg c2, decide_eq_false c2]; rfl
      · rw [if_neg c1, decide_eq_false c1, Bool.and_false]; rfl
    · rw [if_pos (by omega), if_neg c, hvP_r hr]
      by_cases c1 : s (18 + 9 * i + 0) = nI r
      · rw [if_pos c1, decide_eq_true c1, Bool.and_true]
        by_cases c2 : s (18 + 9 * i + 4) = nI (x % 6)
        · rw [if_pos c2, decide_eq_true c2]; rfl
        · rw [if_neg c2, decide_eq_false c2]; rfl
      · rw [if_neg c1, decide_eq_false c1, Bool.and_false]; rfl
theorem busyV_ {t q n r x : Nat} {L : OB} {s : Nat → Int32} (R : RLc t q L s) (U : UNI t s) (hr : r < 7) (hx : x < 6) (hn : 28 < n) : f1_matchInRound_v n L (nI r) (nI x) = some (oN (bzR s t r x)) := by
  have hmm : mmT t ≤ 28 := R.1.1.2.2.2.2
  have goal : ∃ z, f1_matchInRound_v n L (nI r) (nI x) = some z ∧ z = oN (bzR s t r x) := by
    unfold f1_matchInRound_v bzR
    rw [if_pos hx, Nat.mod_eq_of_lt hx]
    refine loop_X (F := fun k p => f1_matchInRound_v_b3 n L (nI r) (nI x) k p) (I := fun i p => p = nI i ∧ ∀ j, j < i → hvP s 3 (nI x) (nI r) j = false) (N := mmT t) ?_ ?_ n (nI 0) (by omega) ⟨rfl, fun j hj => absurd hj (Nat.not_lt_zero j)⟩
    · rintro k v ⟨e, h⟩
      subst e
      rw [f1_matchInRound_v_b3, R.2.1.2.2, if_pos (by rw [nI_le' (by omega) (by omega)]; exact Nat.le_refl _)]
      exact ⟨_, rfl, by rw [taR_no h]; rfl⟩
    · rintro k i v hi ⟨e, h⟩
      subst e
      obtain ⟨⟨c0, -, -⟩, ⟨c3, -⟩, -⟩ := R.2.2.2 i hi
      have next : hvP s 3 (nI x) (nI r) i = false → ∃ st', (st' = nI (i + 1) ∧ ∀ j, j < i + 1 → hvP s 3 (nI x) (nI r) j = false) ∧ f1_matchInRound_v_b3 n L (nI r) (nI x) k (nI i + nI 1) = f1_matchInRound_v_b3 n L (nI r) (nI x) k st' := fun hp => ⟨_, ⟨rfl, fun j hj => by
        by_cases e : j = i
        · rw [e]; exact hp
        · exact h j (by omega)⟩, by rw [nI_add]⟩
      rw [f1_matchInRound_v_b3, R.2.1.2.2, if_neg (by rw [nI_le' (by omega) (by omega)]; omega), if_neg (by rw [nI_le' (by omega) (by omega)]; omega), ald_nI (by omega) (by omega), Option.bind_some, ald_nI (by omega) (by omega), Option.bind_some, c0, c3]
      have hp := hvP_r (s := s) (w := 3) (r := r) (m := i) (y := nI x) hr
      by_cases c1 : s (18 + 9 * i + 0) = nI r
      · rw [if_pos c1]
        rw [decide_eq_true c1, Bool.and_true] at hp
        by_cases c2 : s (18 + 9 * i + 3) = nI x
        · left
          rw [if_pos c2]
          rw [decide_eq_true c2] at hp
          refine ⟨_, rfl, ?_⟩
          rw [taR_u hi hp (fun j hj hp' => cn_uni (U 3 (Or.inl rfl) x hx r hr) hj hi hp' hp)]
          rfl
        · right
          rw [if_neg c2]
          rw [decide_eq_false c2] at hp
          exact next hp
      · right
        rw [if_neg c1]
        rw [decide_eq_false c1, Bool.and_false] at hp
        exact next hp
  obtain ⟨z, h1, h2⟩ := goal
  rw [h1, h2]
theorem busyS_ {t q n r x : Nat} {L : OB} {s : Nat → Int32} (R : RLc t q L s) (U : UNI t s) (hr : r < 7) (hx : x < 6) (hn : 28 < n) : f1_matchInRound_s n L (nI r) (nI x) = some (oN (bzR s t r (x + 6))) := by
  have hmm : mmT t ≤ 28 := R.1.1.2.2.2.2
  have goal : ∃ z, f1_matchInRound_s n L (nI r) (nI x) = some z ∧ z = oN (bzR s t r (x + 6)) := by
    unfold f1_matchInRound_s bzR
    rw [if_neg (show ¬ x + 6 < 6 by omega), show (x + 6) % 6 = x by omega]
    refine loop_X (F := fun k p => f1_matchInRound_s_b3 n L (nI r) (nI x) k p) (I := fun i p => p = nI i ∧ ∀ j, j < i → hvP s 4 (nI x) (nI r) j = false) (N := mmT t) ?_ ?_ n (nI 0) (by omega) ⟨rfl, fun j hj => absurd hj (Nat.not_lt_zero j)⟩
    · rintro k v ⟨e, h⟩
      subst e
      rw [f1_matchInRound_s_b3, R.2.1.2.2, if_pos (by rw [nI_le' (by omega) (by omega)]; exact Nat.le_refl _)]
      exact ⟨_, rfl, by rw [taR_no h]; rfl⟩
    · rintro k i v hi ⟨e, h⟩
      subst e
      obtain ⟨⟨c0, -, -⟩, ⟨-, c4⟩, -⟩ := R.2.2.2 i hi
      have next : hvP s 4 (nI x) (nI r) i = false → ∃ st', (st' = nI (i + 1) ∧ ∀ j, j < i + 1 → hvP s 4 (nI x) (nI r) j = false) ∧ f1_matchInRound_s_b3 n L (nI r) (nI x) k (nI i + nI 1) = f1_matchInRound_s_b3 n L (nI r) (nI x) k st' := fun hp => ⟨_, ⟨rfl, fun j hj => by
        by_cases e : j = i
        · rw [e]; exact hp
        · exact h j (by omega)⟩, by rw [nI_add]⟩
      rw [f1_matchInRound_s_b3, R.2.1.2.2, if_neg (by rw [nI_le' (by omega) (by omega)]; omega), if_neg (by rw [nI_le' (by omega) (by omega)]; omega), ald_nI (by omega) (by omega), Option.bind_some, ald_nI (by omega) (by omega), Option.bind_some, c0, c4]
      have hp := hvP_r (s := s) (w := 4) (r := r) (m := i) (y := nI x) hr
      by_cases c1 : s (18 + 9 * i + 0) = nI r
      · rw [if_pos c1]
        rw [decide_eq_true c1, Bool.and_true] at hp
        by_cases c2 : s (18 + 9 * i + 4) = nI x
        · left
          rw [if_pos c2]
          rw [decide_eq_true c2] at hp
          refine ⟨_, rfl, ?_⟩
          rw [taR_u hi hp (fun j hj hp' => cn_uni (U 4 (Or.inr rfl) x hx r hr) hj hi hp' hp)]
          rfl
        · right
          rw [if_neg c2]
          rw [decide_eq_false c2] at hp
          exact next hp
      · right
        rw [if_neg c1]
        rw [decide_eq_false c1, Bool.and_false] at hp
        exact next hp
  obtain ⟨z, h1, h2⟩ := goal
  rw [h1, h2]
/-! PURE: who meets whom -/
def mtP (t a b m : Nat) : Bool := (decide (fsT t m = a) && decide (scT t m = b)) || (decide (fsT t m = b) && decide (scT t m = a))
def mtB : Bool := (List.range 9).all fun t => decide (t < 3) || ((List.range t).all fun a => (List.range t).all fun b => decide (a = b) || decide (cn (mtP t a b) (mmT t) = 1))
theorem mtB_t : mtB = true := by decide +kernel
theorem mt_1 {t a b : Nat} (h3 : 3 ≤ t) (h8 : t ≤ 8) (ha : a < t) (hb : b < t) (h : a ≠ b) : cn (mtP t a b) (mmT t) = 1 := by
  have h1 := List.all_eq_true.mp mtB_t t (List.mem_range.mpr (by omega))
  rw [decide_eq_false (by omega), Bool.false_or] at h1
  have h2 := List.all_eq_true.mp (List.all_eq_true.mp h1 a (List.mem_range.mpr ha)) b (List.mem_range.mpr hb)
  rw [decide_eq_false h, Bool.false_or] at h2
  exact of_decide_eq_true h2
theorem cn_ex {p : Nat → Bool} : ∀ {n : Nat}, ¬ cn p n = 0 → ∃ m, m < n ∧ p m = true
  | 0, h => absurd rfl h
  | n + 1, h => by
    cases hp : p n with
    | true => exact ⟨n, by omega, hp⟩
    | false =>
      rw [cn_s, hp, if_neg (by decide)] at h
      obtain ⟨m, hm, e⟩ := cn_ex (n := n) h
      exact ⟨m, by omega, e⟩
theorem mt_ex {t a b : Nat} (h3 : 3 ≤ t) (h8 : t ≤ 8) (ha : a < t) (hb : b < t) (h : a ≠ b) : ∃ m, m < mmT t ∧ mtP t a b m = true ∧ taR (mtP t a b) (mmT t) = some m := by
  have h1 := mt_1 h3 h8 ha hb h
  obtain ⟨m, hm, e⟩ := cn_ex (p := mtP t a b) (n := mmT t) (by omega)
  exact ⟨m, hm, e, taR_u hm e (fun j hj hp => cn_uni (by omega) hj hm hp e)⟩
theorem sideOf_ {t n m τ : Nat} {s : Nat → Int32} (h3 : 3 ≤ t) (h8 : t ≤ 8) (TM : TMS t s) (hm : m < mmT t) (hτ : τ < t) : f6_sideOf n s (nI m) (nI τ) = some (if fsT t m = τ then nI 0 else if scT t m = τ then nI 1 else -1) := by
  have hmm := tb_mm h3 h8
  obtain ⟨b0, b1, b2, b3⟩ := tb_m h3 h8 hm
  obtain ⟨r1, r2⟩ := TM m hm
  unfold f6_sideOf
  simp (disch := omega) only [of_, Option.bind_some, r1, r2, nI_inj]
  split
  · rfl
  · split <;> rfl
theorem matchOfBoth_ {t q n a b : Nat} {L : OB} {s : Nat → Int32} (R : RLc t q L s) (ha : a < t) (hb : b < t) (h : a ≠ b) (hn : 28 < n) : f1_matchOfBoth n L (nI a) (nI b) = some (oN (taR (mtP t a b) (mmT t))) := by
  have hmm : mmT t ≤ 28 := R.1.1.2.2.2.2
  have h3 := R.1.1.2.2.1
  have h8 := R.1.1.2.2.2.1
  obtain ⟨m0, hm0, hp0, e0⟩ := mt_ex h3 h8 ha hb h
  have goal : ∃ z, f1_matchOfBoth n L (nI a) (nI b) = some z ∧ z = nI m0 := by
    unfold f1_matchOfBoth
    refine loop_X (F := fun k p => f1_matchOfBoth_b2 n L (nI a) (nI b) k p) (I := fun i p => p = nI i ∧ i ≤ m0) (N := mmT t) ?_ ?_ n (nI 0) (by omega) ⟨rfl, Nat.zero_le _⟩
    · rintro k v ⟨e, h⟩
      omega
    · rintro k i v hi ⟨e, h⟩
      subst e
      obtain ⟨⟨-, c1, c2⟩, -⟩ := R.2.2.2 i hi
      obtain ⟨-, r1, r2⟩ := R.1.2.2 i hi
      obtain ⟨-, b1, b2, b3⟩ := tb_m h3 h8 hi
      rw [f1_matchOfBoth_b2, R.2.1.2.2]
      unfold f1_matchOfBoth_b30
      simp (disch := omega) only [ald_nI, Option.bind_some, c1, c2, r1, r2, nI_le', nI_inj, nI_add]
      rw [if_neg (by omega)]
      by_cases hp : mtP t a b i = true
      · have e : i = m0 := cn_uni (Nat.le_of_eq (mt_1 h3 h8 ha hb ‹_›)) hi hm0 hp hp0
        left
        subst e
        refine ⟨nI i, ?_, rfl⟩
        unfold mtP at hp
        simp only [Bool.or_eq_true, Bool.and_eq_true, decide_eq_true_eq] at hp
        rcases hp with ⟨p1, p2⟩ | ⟨p1, p2⟩
        · rw [if_pos p1, if_pos p2]
        · rw [if_neg (by omega), if_pos p1, if_pos p2]
      · have e : i ≠ m0 := fun e => hp (by rw [e]; exact hp0)
        right
        refine ⟨nI (i + 1), ⟨rfl, by omega⟩, ?_⟩
        unfold mtP at hp
        simp only [Bool.or_eq_true, Bool.and_eq_true, decide_eq_true_eq, not_or, not_and] at hp
        obtain ⟨p1, p2⟩ := hp
        by_cases c1 : fsT t i = a
        · rw [if_pos c1, if_neg (p1 c1)]
          by_cases c2 : fsT t i = b
          · rw [if_pos c2, if_neg (p2 c2)]
          · rw [if_neg c2]
        · rw [if_neg c1]
          by_cases c2 : fsT t i = b
          · rw [if_pos c2, if_neg (p2 c2)]
          · rw [if_neg c2]
  obtain ⟨z, h1, h2⟩ := goal
  rw [h1, h2, e0]
  rfl
def gz : Option Nat → Int32
  | none => nI 0
  | some k => nI k
theorem meetingM_ {t n a b : Nat} {M : OB} {s : Nat → Int32} (hM : M.2 0 = s) (H : HG t (mmT t) s) (TM : TMS t s) (ha : a < t) (hb : b < t) (h : a ≠ b) (hn : 28 < n) : f6_meeting_b43 n (nI a) (nI b) n (nI 0) (nI 0) M = some (oN (taR (mtP t a b) (mmT t)), M) := by
  obtain ⟨h4, h5, h3, h8, hmm⟩ := H
  obtain ⟨m0, hm0, hp0, e0⟩ := mt_ex h3 h8 ha hb h
  refine loop_S (F := fun k p => f6_meeting_b43 n (nI a) (nI b) k p.1 p.2 M) (S := fun i => (gz (taR (mtP t a b) i), nI i)) (N := mmT t) ?_ ?_ n (by omega)
  · intro k
    dsimp only
    rw [f6_meeting_b43, hM]
    simp (disch := omega) only [ald_nI, Option.bind_some, h5, nI_le', Nat.le_refl, if_true, e0]
    rfl
  · intro k i hi
    dsimp only
    obtain ⟨-, b1, b2, b3⟩ := tb_m h3 h8 hi
    rw [f6_meeting_b43, hM, sideOf_ h3 h8 TM hi ha, sideOf_ h3 h8 TM hi hb]
    simp (disch := omega) only [ald_nI, Option.bind_some, h5, nI_le', nI_add, taR_s]
    rw [if_neg (by omega)]
    have s1 : ∀ τ, ((if fsT t i = τ then nI 0 else if scT t i = τ then nI 1 else -1 : Int32) = -1) ↔ ¬ (fsT t i = τ ∨ scT t i = τ) := fun τ => by
      by_cases c1 : fsT t i = τ
      · rw [if_pos c1]
        exact ⟨fun e => absurd e (by decide), fun e => absurd (Or.inl c1) e⟩
      · rw [if_neg c1]
        by_cases c2 : scT t i = τ
        · rw [if_pos c2]
          exact ⟨fun e => absurd e (by decide), fun e => absurd (Or.inr c2) e⟩
        · rw [if_neg c2]
          exact ⟨fun _ => fun e => e.elim c1 c2, fun _ => rfl⟩
    simp only [s1]
    unfold mtP
    by_cases c1 : fsT t i = a ∨ scT t i = a
    · rw [if_neg (fun e => e c1)]
      by_cases c2 : fsT t i = b ∨ scT t i = b
      · rw [if_neg (fun e => e c2), if_pos]
        · rfl
        · simp only [Bool.or_eq_true, Bool.and_eq_true, decide_eq_true_eq]
          omega
      · rw [if_pos c2, if_neg]
        simp only [Bool.or_eq_true, Bool.and_eq_true, decide_eq_true_eq]
        omega
    · rw [if_pos c1, if_neg]
      simp only [Bool.or_eq_true, Bool.and_eq_true, decide_eq_true_eq]
      omega
