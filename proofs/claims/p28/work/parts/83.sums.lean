/-! PURE: places and sums over all teams -/
theorem inj_sur : ∀ {t : Nat} {f : Nat → Nat}, (∀ i, i < t → f i < t) → (∀ i j, i < t → j < t → f i = f j → i = j) → ∀ p, p < t → ∃ i, i < t ∧ f i = p
  | 0, _, _, _, p, h => absurd h (Nat.not_lt_zero p)
  | t + 1, f, hb, hi, p, hp => by
    have hq : ∀ i, i < t → f i = t → f t < t := fun i h e => by
      have h1 := hb t (by omega)
      have h2 : f t ≠ t := fun e2 => by
        have := hi i t (by omega) (by omega) (e.trans e2.symm)
        omega
      omega
    have hg : ∀ i, i < t → (if f i = t then f t else f i) < t := fun i h => by
      by_cases c : f i = t
      · rw [if_pos c]; exact hq i h c
      · rw [if_neg c]; have := hb i (by omega); omega
    have hj : ∀ i j, i < t → j < t → (if f i = t then f t else f i) = (if f j = t then f t else f j) → i = j := fun i j h1 h2 e => by
      by_cases c1 : f i = t
      · by_cases c2 : f j = t
        · exact hi i j (by omega) (by omega) (c1.trans c2.symm)
        · rw [if_pos c1, if_neg c2] at e
          have := hi t j (by omega) (by omega) e
          omega
      · by_cases c2 : f j = t
        · rw [if_neg c1, if_pos c2] at e
          have := hi i t (by omega) (by omega) e
          omega
        · rw [if_neg c1, if_neg c2] at e
          exact hi i j (by omega) (by omega) e
    have ih := inj_sur (t := t) (f := fun i => if f i = t then f t else f i) hg hj
    by_cases c : p = f t
    · exact ⟨t, by omega, c.symm⟩
    · by_cases c2 : p = t
      · have h1 : f t < t := by have := hb t (by omega); omega
        obtain ⟨i, h2, h3⟩ := ih (f t) h1
        by_cases c3 : f i = t
        · exact ⟨i, by omega, c3.trans c2.symm⟩
        · rw [if_neg c3] at h3
          have := hi i t (by omega) (by omega) h3
          omega
      · obtain ⟨i, h2, h3⟩ := ih p (by omega)
        by_cases c3 : f i = t
        · rw [if_pos c3] at h3
          exact absurd h3.symm c
        · rw [if_neg c3] at h3
          exact ⟨i, by omega, h3⟩
section PLS
variable {s : Nat → Int32} {t a b : Nat}
theorem pl_b (ha : a < t) : PL s t a < t := pz_b ha
theorem pl_inj (ha : a < t) (hb : b < t) (h : PL s t a = PL s t b) : a = b := pz_inj ha hb h
theorem ta_own (ha : a < t) : TA s t (PL s t a) = some a := by
  unfold TA
  exact taR_u ha (decide_eq_true rfl) (fun j hj hp => pl_inj hj ha (of_decide_eq_true hp))
theorem ta_ex {p : Nat} (hp : p < t) : ∃ a, a < t ∧ TA s t p = some a ∧ PL s t a = p := by
  obtain ⟨a, ha, e⟩ := inj_sur (t := t) (f := PL s t) (fun i h => pl_b h) (fun i j h1 h2 => pl_inj h1 h2) p hp
  exact ⟨a, ha, by rw [← e]; exact ta_own ha, e⟩
theorem pl_pt (ha : a < t) (hb : b < t) (h : PL s t a ≤ PL s t b) : Pz s (mmT t) b ≤ Pz s (mmT t) a := by
  by_cases c : Pz s (mmT t) b ≤ Pz s (mmT t) a
  · exact c
  · have h1 : ahb (Pz s (mmT t)) (Dz s (mmT t)) (Az s (mmT t)) b a = true := ahb_iff.mpr (Or.inl (by omega))
    have h2 : PL s t b < PL s t a := pz_lt hb h1
    omega
end PLS
/-- the places of the first teams, as bits -/
def PM (s : Nat → Int32) (t : Nat) : Nat → Int32
  | 0 => nI 0
  | i + 1 => PM s t i ||| (nI 1 <<< (nI (PL s t i) &&& 31))
theorem PM_s (s : Nat → Int32) (t i : Nat) : PM s t (i + 1) = PM s t i ||| (nI 1 <<< (nI (PL s t i) &&& 31)) := rfl
theorem bt_sh9 {r : Nat} (hr : r < 9) {i : Nat} (hi : i < 32) : bt (nI 1 <<< (nI r &&& 31)) i = decide (i = r) := by
  rw [b_shl r (by omega) _ hi, bt_1]
  by_cases h : r ≤ i
  · rw [decide_eq_true h, Bool.true_and]
    exact decide_eq_decide.mpr (by omega)
  · rw [decide_eq_false h, Bool.false_and, decide_eq_false (by omega)]
theorem pm_bt {s : Nat → Int32} {t : Nat} (h8 : t ≤ 8) {b : Nat} (hb : b < 32) : ∀ i, i ≤ t → (bt (PM s t i) b = true ↔ ∃ j, j < i ∧ PL s t j = b)
  | 0, _ => ⟨fun h => (by rw [show PM s t 0 = 0 from rfl, b_0] at h; cases h), fun ⟨j, h, _⟩ => absurd h (Nat.not_lt_zero j)⟩
  | i + 1, h => by
    have ih := pm_bt (s := s) h8 hb i (by omega)
    have hp : PL s t i < t := pl_b (by omega)
    rw [PM_s, b_or, bt_sh9 (by omega) hb, Bool.or_eq_true, ih, decide_eq_true_iff]
    constructor
    · rintro (⟨j, h1, h2⟩ | h1)
      · exact ⟨j, by omega, h2⟩
      · exact ⟨i, by omega, h1.symm⟩
    · rintro ⟨j, h1, h2⟩
      by_cases e : j = i
      · subst e; exact Or.inr h2.symm
      · exact Or.inl ⟨j, by omega, h2⟩
theorem pm_key : ∀ t, t < 9 → ∀ b, b < 32 → bt ((nI 1 <<< (nI t &&& 31)) - nI 1) b = decide (b < t) := by decide +kernel
theorem pm_all {s : Nat → Int32} {t : Nat} (h8 : t ≤ 8) : PM s t t = (nI 1 <<< (nI t &&& 31)) - nI 1 := by
  refine b_ext fun b hb => ?_
  rw [pm_key t (by omega) b hb, Bool.eq_iff_iff, pm_bt h8 hb t (Nat.le_refl t), decide_eq_true_iff]
  constructor
  · rintro ⟨j, h1, h2⟩
    rw [← h2]; exact pl_b h1
  · intro h
    obtain ⟨a, h1, -, h2⟩ := ta_ex (s := s) h
    exact ⟨a, h1, h2⟩
theorem ctr_18 (s : Nat → Int32) (m σ : Nat) : ctr s 1 m σ + ctr s 8 m σ = nI 1 := by
  unfold ctr
  by_cases c0 : s (18 + 9 * m + 6) = 0
  · rw [if_pos c0, if_pos c0]; decide
  · rw [if_neg c0, if_neg c0]
    simp only [Nat.reduceEqDiff, if_false, if_true, add_0]
def mcE : Bool := (List.range 9).all fun t => decide (t < 3) || ((List.range t).all fun τ => decide (cn (fun m => decide (fsT t m = τ) || decide (scT t m = τ)) (mmT t) = t - 1))
theorem mcE_t : mcE = true := by decide +kernel
theorem mc_e {t τ : Nat} (h3 : 3 ≤ t) (h8 : t ≤ 8) (hτ : τ < t) : cn (fun m => decide (fsT t m = τ) || decide (scT t m = τ)) (mmT t) = t - 1 := by
  have h := List.all_eq_true.mp mcE_t t (List.mem_range.mpr (by omega))
  rw [decide_eq_false (by omega), Bool.false_or] at h
  exact of_decide_eq_true (List.all_eq_true.mp h τ (List.mem_range.mpr hτ))
section SMS
variable {t q a : Nat} {L : OB} {s : Nat → Int32}
theorem pl_op (I : IL t q L s) (ha : a < t) : ofT s t a 1 + ofT s t a 8 = nI t - nI 1 := by
  show sm (cR s (nI a) 1) (mmT t) + sm (cR s (nI a) 8) (mmT t) = _
  have h3 := I.t3
  have h8 := I.t8
  rw [← sm_add, pk_sub (by omega), ← mc_e h3 h8 ha, ← sm_bI]
  refine sm_congr fun m hm => ?_
  rw [cR_in (w := 1) h3 h8 I.1.tms hm ha, cR_in (w := 8) h3 h8 I.1.tms hm ha]
  by_cases c1 : fsT t m = a
  · rw [if_pos c1, if_pos c1, ctr_18, decide_eq_true c1]; rfl
  · rw [if_neg c1, if_neg c1, decide_eq_false c1]
    by_cases c2 : scT t m = a
    · rw [if_pos c2, if_pos c2, ctr_18, decide_eq_true c2]; rfl
    · rw [if_neg c2, if_neg c2, add_0, decide_eq_false c2]; rfl
theorem sm_le2 {c d : Nat → Int32} : ∀ {n : Nat}, (∀ m, m < n → ∃ k k1, k ≤ k1 ∧ k1 ≤ 1 ∧ c m = nI k ∧ d m = nI k1) → ∃ K K1, K ≤ K1 ∧ K1 ≤ n ∧ sm c n = nI K ∧ sm d n = nI K1
  | 0, _ => ⟨0, 0, by omega, by omega, rfl, rfl⟩
  | n + 1, h => by
    obtain ⟨K, K1, h1, h2, e1, e2⟩ := sm_le2 (n := n) (fun m hm => h m (by omega))
    obtain ⟨k, k1, h3, h4, e3, e4⟩ := h n (by omega)
    exact ⟨K + k, K1 + k1, by omega, by omega, by rw [sm_s, e1, e3, nI_add], by rw [sm_s, e2, e4, nI_add]⟩
theorem ctr_231 {mm m σ : Nat} (G : SGv s) (B : SCB mm s) (hm : m < mm) (hσ : σ < 2) : ∃ k k1, k ≤ k1 ∧ k1 ≤ 1 ∧ ctr s 2 m σ + ctr s 3 m σ = nI k ∧ ctr s 1 m σ = nI k1 := by
  by_cases c0 : s (18 + 9 * m + 6) = 0
  · refine ⟨0, 0, by omega, by omega, ?_, ?_⟩
    · unfold ctr
      rw [if_pos c0, if_pos c0]; decide
    · unfold ctr
      rw [if_pos c0]; decide
  · obtain ⟨k, hk, e⟩ := ctr_23 G B hm hσ
    refine ⟨k, 1, hk, by omega, e, ?_⟩
    unfold ctr
    rw [if_neg c0]
    simp only [Nat.reduceEqDiff, if_false, if_true]
theorem wd_ (I : IL t q L s) (ha : a < t) : ¬ ofT s t a 1 < ofT s t a 2 + ofT s t a 3 := by
  show ¬ sm (cR s (nI a) 1) (mmT t) < sm (cR s (nI a) 2) (mmT t) + sm (cR s (nI a) 3) (mmT t)
  have h3 := I.t3
  have h8 := I.t8
  have hmm := I.mm
  rw [← sm_add]
  obtain ⟨K, K1, h1, h2, e1, e2⟩ := sm_le2 (n := mmT t) (c := fun m => cR s (nI a) 2 m + cR s (nI a) 3 m) (d := cR s (nI a) 1) (fun m hm => by
    rw [cR_in (w := 1) h3 h8 I.1.tms hm ha, cR_in (w := 2) h3 h8 I.1.tms hm ha, cR_in (w := 3) h3 h8 I.1.tms hm ha]
    by_cases c1 : fsT t m = a
    · rw [if_pos c1, if_pos c1, if_pos c1]
      exact ctr_231 I.2.1.1.1 I.2.1.1.2.2 hm (by omega)
    · rw [if_neg c1, if_neg c1, if_neg c1]
      by_cases c2 : scT t m = a
      · rw [if_pos c2, if_pos c2, if_pos c2]
        exact ctr_231 I.2.1.1.1 I.2.1.1.2.2 hm (by omega)
      · rw [if_neg c2, if_neg c2, if_neg c2, add_0]
        exact ⟨0, 0, by omega, by omega, rfl, rfl⟩)
  rw [e1, e2, nI_lt' (by omega) (by omega)]
  omega
theorem ctr_45 (s : Nat → Int32) (m : Nat) : ctr s 4 m 0 + ctr s 4 m 1 = ctr s 5 m 0 + ctr s 5 m 1 := by
  unfold ctr
  by_cases c0 : s (18 + 9 * m + 6) = 0
  · rw [if_pos c0, if_pos c0, if_pos c0, if_pos c0]; decide
  · rw [if_neg c0, if_neg c0, if_neg c0, if_neg c0]
    simp only [Nat.reduceEqDiff, if_false, if_true, Nat.reduceSub]
    exact Int32.add_comm _ _
theorem sums_45 (I : IL t q L s) : sm (fun τ => ofT s t τ 4) t = sm (fun τ => ofT s t τ 5) t := by
  show sm (fun τ => sm (cR s (nI τ) 4) (mmT t)) t = sm (fun τ => sm (cR s (nI τ) 5) (mmT t)) t
  have h3 := I.t3
  have h8 := I.t8
  rw [sm_swap (fun τ => cR s (nI τ) 4), sm_swap (fun τ => cR s (nI τ) 5)]
  refine sm_congr fun m hm => ?_
  obtain ⟨b0, b1, b2, b3⟩ := tb_m h3 h8 hm
  rw [sm_congr (fun τ hτ => cR_in (w := 4) h3 h8 I.1.tms hm hτ), sm_two b1 b2 b3, sm_congr (fun τ hτ => cR_in (w := 5) h3 h8 I.1.tms hm hτ), sm_two b1 b2 b3, ctr_45]
theorem ctr_1 (s : Nat → Int32) (m σ : Nat) : ctr s 1 m σ = nI (bI (rsP s m)) := by
  unfold ctr rsP
  by_cases c0 : s (18 + 9 * m + 6) = 0
  · rw [if_pos c0, decide_eq_false (fun h => h c0)]; decide
  · rw [if_neg c0, decide_eq_true c0]
    simp only [Nat.reduceEqDiff, if_false, if_true]
    rfl
theorem over1_ (I : IL t q L s) : sm (fun τ => ofT s t τ 1) t = nI 2 * nI (cn (rsP s) (mmT t)) := by
  show sm (fun τ => sm (cR s (nI τ) 1) (mmT t)) t = _
  have h3 := I.t3
  have h8 := I.t8
  rw [sm_swap (fun τ => cR s (nI τ) 1), pk_mul, Nat.two_mul, ← nI_add, ← sm_bI, ← sm_add]
  refine sm_congr fun m hm => ?_
  obtain ⟨b0, b1, b2, b3⟩ := tb_m h3 h8 hm
  rw [sm_congr (fun τ hτ => cR_in (w := 1) h3 h8 I.1.tms hm hτ), sm_two b1 b2 b3, ctr_1, ctr_1]
theorem cn_1 {p : Nat → Bool} : ∀ {n : Nat}, (∀ i j, i < n → j < n → p i = true → p j = true → i = j) → cn p n ≤ 1
  | 0, _ => Nat.zero_le 1
  | n + 1, h => by
    rw [cn_s]
    by_cases c : p n = true
    · rw [if_pos c, cn_0.mpr fun k hk => ?_]
      · omega
      · cases hp : p k with
        | false => rfl
        | true => have := h k n (by omega) (by omega) hp c; omega
    · rw [if_neg c]
      exact cn_1 (n := n) fun i j h1 h2 => h i j (by omega) (by omega)
theorem alB_t {p : Nat → Bool} : ∀ {n : Nat}, alB p n = true → ∀ i, i < n → p i = true
  | 0, _, i, h => absurd h (Nat.not_lt_zero i)
  | n + 1, h, i, hi => by
    rw [alB_s, Bool.and_eq_true] at h
    by_cases e : i = n
    · rw [e]; exact h.2
    · exact alB_t h.1 i (by omega)
theorem sure_lt (I : IL t q L s) {b : Nat} (ha : alB (suP s t a) t = true) (hb : b < t) (h : b ≠ a) : Pz s (mmT t) b < Pz s (mmT t) a := by
  have h1 := alB_t ha b hb
  unfold suP at h1
  rw [Bool.or_eq_true, decide_eq_true_iff, decide_eq_true_iff] at h1
  have h2 := h1.resolve_left h
  have hmm := I.mm
  obtain ⟨⟨p1, p2⟩, -⟩ := z_b I.2.1.1.1 I.2.1.1.2.2 hmm b
  obtain ⟨K, -, hK, e8⟩ := sum_b I.2.1.1.1 I.2.1.1.2.2 hmm 8 (nI b)
  have hK := hK (by omega)
  obtain ⟨x, y, z, ⟨e0, x1, x5⟩, -⟩ := I.2.1.1.1
  have m1 : x * K ≤ 5 * 28 := Nat.mul_le_mul x5 hK
  rw [e8, e0, pk_mul, Int32.le_iff_toInt_le] at h2
  have t1 := ti_nI (k := x * K) (by omega)
  have t2 := ti_add (x := ptR s (mmT t) (nI b)) (y := nI (x * K)) (by unfold Pz at p1; omega) (by unfold Pz at p2; omega) (by omega) (by omega)
  unfold Pz at *
  omega
theorem sure_1 (I : IL t q L s) : cn (fun a => alB (suP s t a) t) t ≤ 1 := cn_1 fun i j hi hj h1 h2 => by
  by_cases e : i = j
  · exact e
  · have q1 := sure_lt I h1 hj (fun e2 => e e2.symm)
    have q2 := sure_lt I h2 hi e
    omega
end SMS
