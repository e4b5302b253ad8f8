/-! PURE: what the reference's looks at a row say -/
def HG (t mm : Nat) (s : Nat → Int32) : Prop := s 4 = nI t ∧ s 5 = nI mm ∧ 3 ≤ t ∧ t ≤ 8 ∧ mm ≤ 28
theorem of_ {s : Nat → Int32} {n m w : Nat} (hm : m < 28) (hw : w < 9) : f6_of n s (nI m) (nI w) = some (s (18 + 9 * m + w)) := by
  unfold f6_of
  simp (disch := omega) only [pk_mul, nI_add, ald_nI, Option.bind_some]
def hvP (s : Nat → Int32) (w : Nat) (y r : Int32) : Nat → Bool := fun m => decide (s (18 + 9 * m + w) = y) && (decide (r = -1) || decide (s (18 + 9 * m + 0) = r))
theorem having_ {t mm : Nat} {s : Nat → Int32} (H : HG t mm s) {n w : Nat} {y r : Int32} (hw : w < 9) (hn : mm < n) : f6_having n s (nI w) y r = some (nI (cn (hvP s w y r) mm)) := by
  obtain ⟨h4, h5, h3, h8, hmm⟩ := H
  unfold f6_having
  refine loop_S (F := fun k p => f6_having_b6 n s (nI w) y r k p.1 p.2) (S := fun i => (nI (cn (hvP s w y r) i), nI i)) (N := mm) ?_ ?_ n hn
  · intro k
    show f6_having_b6 n s (nI w) y r (k + 1) (nI (cn (hvP s w y r) mm)) (nI mm) = _
    unfold f6_having_b6
    simp (disch := omega) only [ald_nI, Option.bind_some, h5, nI_le', Nat.le_refl, if_true]
  · intro k i hi
    show f6_having_b6 n s (nI w) y r (k + 1) (nI (cn (hvP s w y r) i)) (nI i) = f6_having_b6 n s (nI w) y r k (nI (cn (hvP s w y r) (i + 1))) (nI (i + 1))
    rw [f6_having_b6]
    simp (disch := omega) only [ald_nI, Option.bind_some, h5, nI_le', of_, nI_add]
    rw [if_neg (by omega), cn_s]
    by_cases c1 : s (18 + 9 * i + w) = y
    · rw [if_pos c1]
      by_cases c2 : r = -1
      · rw [if_pos c2, show hvP s w y r i = true from by unfold hvP; simp [c1, c2], if_pos rfl]
      · rw [if_neg c2]
        by_cases c3 : s (18 + 9 * i + 0) = r
        · rw [if_pos c3, show hvP s w y r i = true from by unfold hvP; simp only [decide_eq_true c1, decide_eq_true c3, Bool.or_true, Bool.and_self], if_pos rfl]
        · rw [if_neg c3, show hvP s w y r i = false from by unfold hvP; simp only [decide_eq_false c3, decide_eq_false c2, Bool.or_self, Bool.and_false], if_neg (by decide)]
    · rw [if_neg c1, show hvP s w y r i = false from by unfold hvP; simp only [decide_eq_false c1, Bool.false_and], if_neg (by decide)]
def bI (b : Bool) : Nat := if b = true then 1 else 0
theorem rounds_ {t mm : Nat} {s : Nat → Int32} (H : HG t mm s) {n : Nat} : f6_rounds n s = some (nI (t - 1 + t % 2)) := by
  obtain ⟨h4, h5, h3, h8, hmm⟩ := H
  unfold f6_rounds
  simp (disch := omega) only [ald_nI, Option.bind_some, h4, nI_mod, pk_sub, nI_add]
theorem isNeutral_ {s : Nat → Int32} {n m k a b : Nat} (hm : m < 28) (ha : s (18 + 9 * m + 1) = nI a) (hb : s (18 + 9 * m + 2) = nI b) (ha8 : a < 8) (hb8 : b < 8) (hk : k < 6) : f6_isNeutral n s (nI m) (nI k) = some (nI (bI (decide (a % 6 ≠ k) && decide (b % 6 ≠ k)))) := by
  unfold f6_isNeutral
  simp (disch := omega) only [of_, Option.bind_some, ha, hb, nI_mod, nI_inj]
  by_cases c1 : a % 6 = k
  · rw [if_pos c1]; simp [bI, c1]
  · rw [if_neg c1]
    by_cases c2 : b % 6 = k
    · rw [if_pos c2]; simp [bI, c2]
    · rw [if_neg c2]; simp [bI, c1, c2]
theorem maySet_ {t mm : Nat} {s : Nat → Int32} (H : HG t mm s) {n m k a b q : Nat} (hn : mm < n) (hm : m < 28) (ha : s (18 + 9 * m + 1) = nI a) (hb : s (18 + 9 * m + 2) = nI b) (ha8 : a < 8) (hb8 : b < 8) (hk : k < 6) (hq : s 3 = nI q) (hq8 : q ≤ 28) : f6_maySet n s (nI m) (nI k) = some (nI (bI (decide (a ≠ k % t) && decide (b ≠ k % t) && decide (cn (hvP s 4 (nI k) (-1)) mm < q)))) := by
  have H0 := H
  obtain ⟨h4, h5, h3, h8, hmm⟩ := H
  have hmod : k % t < 8 := Nat.lt_of_lt_of_le (Nat.mod_lt _ (by omega)) h8
  unfold f6_maySet
  have hcl := cn_le (hvP s 4 (nI k) (-1)) mm
  simp (disch := omega) only [ald_nI, of_, Option.bind_some, ha, hb, hq, h4, nz_nI, nI_mod, nI_inj, having_ H0 (w := 4), nI_le']
  by_cases c1 : a = k % t
  · rw [if_pos c1]; simp [bI, c1]
  · rw [if_neg c1]
    by_cases c2 : b = k % t
    · rw [if_pos c2]; simp [bI, c2]
    · rw [if_neg c2]
      by_cases c3 : q ≤ cn (hvP s 4 (nI k) (-1)) mm
      · rw [if_pos c3]; simp [bI, c1, c2, Nat.not_lt.mpr c3]
      · rw [if_neg c3]; simp [bI, c1, c2, Nat.lt_of_not_le c3]
def oN : Option Nat → Int32
  | none => -1
  | some k => nI k
/-- of those that may, the one with the least load, the lowest of several -/
def bst (may : Nat → Bool) (ld : Nat → Nat) : Nat → Option Nat
  | 0 => none
  | k + 1 => if may k = true then (match bst may ld k with
    | none => some k
    | some b => if ld k < ld b then some k else some b) else bst may ld k
theorem bst_s (may : Nat → Bool) (ld : Nat → Nat) (k : Nat) : bst may ld (k + 1) = if may k = true then (match bst may ld k with
    | none => some k
    | some b => if ld k < ld b then some k else some b) else bst may ld k := rfl
theorem bst_lt {may : Nat → Bool} {ld : Nat → Nat} : ∀ {k b : Nat}, bst may ld k = some b → b < k ∧ may b = true
  | 0, b, h => by cases h
  | k + 1, b, h => by
    rw [bst_s] at h
    by_cases c : may k = true
    · rw [if_pos c] at h
      cases hb : bst may ld k with
      | none => rw [hb] at h; cases h; exact ⟨by omega, c⟩
      | some d =>
        rw [hb] at h
        have h2 := bst_lt hb
        dsimp only at h
        split at h <;> cases h
        · exact ⟨by omega, c⟩
        · exact ⟨by omega, h2.2⟩
    · rw [if_neg c] at h
      have h2 := bst_lt h
      exact ⟨by omega, h2.2⟩
theorem bst_congr {may may' : Nat → Bool} {ld ld' : Nat → Nat} : ∀ {k : Nat}, (∀ j, j < k → may j = may' j ∧ ld j = ld' j) → bst may ld k = bst may' ld' k
  | 0, _ => rfl
  | k + 1, h => by
    have ih := bst_congr (k := k) (fun j hj => h j (by omega))
    rw [bst_s, bst_s, ih, (h k (by omega)).1]
    cases hb : bst may' ld' k with
    | none => rfl
    | some b =>
      have h2 := bst_lt hb
      have e1 := (h k (by omega)).2
      have e2 := (h b (by omega)).2
      simp only [e1, e2]
/-- the round's bit of a mask is not set -/
def mb (x : Int32) (r : Nat) : Bool := decide (((x >>> (nI r &&& 31)) &&& nI 1) = 0)
def may6 (w base : Nat) (m0 : Nat → Bool) (s : Nat → Int32) (mm r : Nat) : Nat → Bool := fun k => m0 k && mb (s (base + k)) r && decide (cn (hvP s w (nI k) (nI r)) mm = 0)
def ld6 (w : Nat) (s : Nat → Int32) (mm : Nat) : Nat → Nat := fun k => cn (hvP s w (nI k) (-1)) mm
theorem found_101 {t mm : Nat} {s : Nat → Int32} (H : HG t mm s) {n w i : Nat} {x1 x2 v5 : Int32} {b : Bool} {may : Nat → Bool} {K : Int32 → Int32 → Int32 → Int32 → Option Int32} (hn : mm < n) (hw : w < 9) (hi : i < 6) (hb : may i = b) : f6_found_b101 n s x1 x2 K (oN (bst may (ld6 w s mm) i)) (nI w) v5 (nI i) (nI (bI b)) = K (oN (bst may (ld6 w s mm) (i + 1))) (nI w) v5 (nI (i + 1)) := by
  have H0 := H
  obtain ⟨h4, h5, h3, h8, hmm⟩ := H
  unfold f6_found_b101
  rw [bst_s, hb]
  cases b with
  | false =>
    rw [if_pos (show nI (bI false) = 0 from rfl), if_neg (by decide), nI_add]
  | true =>
    rw [if_neg (show ¬ nI (bI true) = 0 by decide), if_pos rfl]
    cases hb : bst may (ld6 w s mm) i with
    | none => rw [if_pos (show oN none = -1 from rfl), nI_add]; rfl
    | some d =>
      have h2 := bst_lt hb
      have q1 := cn_le (hvP s w (nI i) (-1)) mm
      have q2 := cn_le (hvP s w (nI d) (-1)) mm
      rw [if_neg (show ¬ oN (some d) = -1 from nI_m1 (by omega))]
      simp (disch := omega) only [oN, having_ H0, Option.bind_some, nI_le', nI_add]
      unfold ld6
      by_cases c : cn (hvP s w (nI d) (-1)) mm ≤ cn (hvP s w (nI i) (-1)) mm
      · rw [if_pos c, if_neg (by omega)]
      · rw [if_neg c, if_pos (by omega)]
theorem found_71 {t mm : Nat} {s : Nat → Int32} (H : HG t mm s) {n w i r base : Nat} {x1 x2 : Int32} {m0 : Nat → Bool} {K : Int32 → Int32 → Int32 → Int32 → Option Int32} (hn : mm < n) (hw : w < 9) (hi : i < 6) (hbase : base < 20) (h0 : m0 i = true) : f6_found_b71 n s x1 x2 K (oN (bst (may6 w base m0 s mm r) (ld6 w s mm) i)) (nI w) (nI r) (nI i) (nI base) = K (oN (bst (may6 w base m0 s mm r) (ld6 w s mm) (i + 1))) (nI w) (nI r) (nI (i + 1)) := by
  have H0 := H
  obtain ⟨h4, h5, h3, h8, hmm⟩ := H
  unfold f6_found_b71
  have q1 := cn_le (hvP s w (nI i) (nI r)) mm
  simp (disch := omega) only [nI_add, ald_nI, Option.bind_some, having_ H0, nI_z]
  by_cases c1 : ((s (base + i) >>> (nI r &&& 31)) &&& nI 1) = 0
  · rw [if_pos c1]
    by_cases c2 : cn (hvP s w (nI i) (nI r)) mm = 0
    · rw [if_pos c2]
      exact found_101 H0 (b := true) hn hw hi (by unfold may6 mb; simp only [h0, c1, c2, decide_true, Bool.and_self])
    · rw [if_neg c2]
      exact found_101 H0 (b := false) hn hw hi (by unfold may6 mb; simp only [decide_eq_false c2, Bool.and_false])
  · rw [if_neg c1]
    exact found_101 H0 (b := false) hn hw hi (by unfold may6 mb; simp only [decide_eq_false c1, Bool.and_false, Bool.false_and])
theorem found_v {t mm : Nat} {s : Nat → Int32} (H : HG t mm s) {n m a b r : Nat} (hn : mm < n) (hn2 : 6 < n) (hm : m < 28) (hr : s (18 + 9 * m + 0) = nI r) (ha : s (18 + 9 * m + 1) = nI a) (hb : s (18 + 9 * m + 2) = nI b) (ha8 : a < 8) (hb8 : b < 8) :
    f6_found n s (nI m) (nI 1) = some (oN (bst (may6 3 6 (fun k => decide (a % 6 ≠ k) && decide (b % 6 ≠ k)) s mm r) (ld6 3 s mm) 6)) := by
  unfold f6_found f6_found_b11
  rw [if_neg (by decide)]
  simp (disch := omega) only [of_, Option.bind_some, hr]
  refine loop_S (F := fun k p => f6_found_b24 n s (nI m) (nI 1) k p.1 p.2.1 p.2.2.1 p.2.2.2) (S := fun i => (oN (bst (may6 3 6 (fun k => decide (a % 6 ≠ k) && decide (b % 6 ≠ k)) s mm r) (ld6 3 s mm) i), nI 3, nI r, nI i)) (N := 6) ?_ ?_ n hn2
  · intro k
    dsimp only
    rw [f6_found_b24, if_pos (by decide)]
  · intro k i hi
    dsimp only
    rw [f6_found_b24]
    simp (disch := omega) only [nI_le', isNeutral_ hm ha hb ha8 hb8, Option.bind_some]
    rw [if_neg (by omega), if_neg (by decide)]
    unfold f6_found_b52
    cases hc : (decide (a % 6 ≠ i) && decide (b % 6 ≠ i)) with
    | false =>
      rw [if_pos (show nI (bI false) = 0 from rfl)]
      exact found_101 H (b := false) hn (by decide) hi (by unfold may6; dsimp only; rw [hc]; rfl)
    | true =>
      rw [if_neg (show ¬ nI (bI true) = 0 by decide), if_neg (by decide)]
      exact found_71 H hn (by decide) hi (by decide) hc
theorem found_s {t mm : Nat} {s : Nat → Int32} (H : HG t mm s) {n m a b r q : Nat} (hn : mm < n) (hn2 : 6 < n) (hm : m < 28) (hr : s (18 + 9 * m + 0) = nI r) (ha : s (18 + 9 * m + 1) = nI a) (hb : s (18 + 9 * m + 2) = nI b) (ha8 : a < 8) (hb8 : b < 8) (hq : s 3 = nI q) (hq8 : q ≤ 28) :
    f6_found n s (nI m) (nI 0) = some (oN (bst (may6 4 12 (fun k => decide (a ≠ k % t) && decide (b ≠ k % t) && decide (cn (hvP s 4 (nI k) (-1)) mm < q)) s mm r) (ld6 4 s mm) 6)) := by
  unfold f6_found f6_found_b11
  rw [if_pos (by decide)]
  simp (disch := omega) only [of_, Option.bind_some, hr]
  refine loop_S (F := fun k p => f6_found_b24 n s (nI m) (nI 0) k p.1 p.2.1 p.2.2.1 p.2.2.2) (S := fun i => (oN (bst (may6 4 12 (fun k => decide (a ≠ k % t) && decide (b ≠ k % t) && decide (cn (hvP s 4 (nI k) (-1)) mm < q)) s mm r) (ld6 4 s mm) i), nI 4, nI r, nI i)) (N := 6) ?_ ?_ n hn2
  · intro k
    dsimp only
    rw [f6_found_b24, if_pos (by decide)]
  · intro k i hi
    dsimp only
    rw [f6_found_b24]
    simp (disch := omega) only [nI_le', maySet_ H hn hm ha hb ha8 hb8 hi hq hq8, Option.bind_some]
    rw [if_neg (by omega), if_pos (by decide)]
    unfold f6_found_b52
    cases hc : (decide (a ≠ i % t) && decide (b ≠ i % t) && decide (cn (hvP s 4 (nI i) (-1)) mm < q)) with
    | false =>
      rw [if_pos (show nI (bI false) = 0 from rfl)]
      exact found_101 H (b := false) hn (by decide) hi (by unfold may6; dsimp only; rw [hc]; rfl)
    | true =>
      rw [if_neg (show ¬ nI (bI true) = 0 by decide), if_pos (by decide)]
      exact found_71 H hn (by decide) hi (by decide) hc
def scR (s : Nat → Int32) (m σ : Nat) : Int32 := if s (18 + 9 * m + 6) = nI 1 then s (18 + 9 * m + (7 + σ)) else if s (18 + 9 * m + 6) = nI (2 + σ) then nI 0 else s 2
theorem scoreOf_ {s : Nat → Int32} {n m σ : Nat} (hm : m < 28) (hσ : σ < 2) : f6_scoreOf n s (nI m) (nI σ) = some (scR s m σ) := by
  unfold f6_scoreOf scR
  simp (disch := omega) only [of_, Option.bind_some, nI_add, ald_nI]
  by_cases c1 : s (18 + 9 * m + 6) = nI 1
  · rw [if_pos c1, if_pos c1]
  · rw [if_neg c1, if_neg c1]
    by_cases c2 : s (18 + 9 * m + 6) = nI (2 + σ)
    · rw [if_pos c2, if_pos c2]
    · rw [if_neg c2, if_neg c2]
def ctr (s : Nat → Int32) (w m σ : Nat) : Int32 := if s (18 + 9 * m + 6) = 0 then (if w = 8 then nI 1 else nI 0) else if w = 4 then scR s m σ else if w = 5 then scR s m (1 - σ) else if w = 1 then nI 1 else if w = 2 then (if scR s m (1 - σ) < scR s m σ then nI 1 else nI 0) else if w = 3 then (if scR s m σ = scR s m (1 - σ) then nI 1 else nI 0) else if w = 6 then (if s (18 + 9 * m + 6) = nI (2 + σ) then nI 1 else nI 0) else nI 0
def cR (s : Nat → Int32) (τ : Int32) (w m : Nat) : Int32 := if s (18 + 9 * m + 1) = τ then ctr s w m 0 else if s (18 + 9 * m + 2) = τ then ctr s w m 1 else nI 0
theorem add_0 (x : Int32) : x + nI 0 = x := Int32.add_zero x
theorem sums_138 {s : Nat → Int32} {n m σ w : Nat} {x1 v3 : Int32} {K : Int32 → Int32 → Option Int32} (hm : m < 28) (hσ : σ < 2) (hw : w < 9) : f6_sums_b138 n s x1 (nI w) K (nI m) (nI σ) (s (18 + 9 * m + 6)) v3 = K (v3 + (if w = 6 then (if s (18 + 9 * m + 6) = nI (2 + σ) then nI 1 else nI 0) else nI 0)) (nI (m + 1)) := by
  unfold f6_sums_b138
  simp (disch := omega) only [nI_inj, nI_add]
  by_cases w6 : w = 6
  · rw [if_pos w6, if_pos w6]
    by_cases c : s (18 + 9 * m + 6) = nI (2 + σ)
    · rw [if_pos c, if_pos c]
    · rw [if_neg c, if_neg c]
  · rw [if_neg w6, if_neg w6]
theorem sums_126 {s : Nat → Int32} {n m σ w : Nat} {x1 v3 v7 v8 : Int32} {K : Int32 → Int32 → Option Int32} (hm : m < 28) (hσ : σ < 2) (hw : w < 9) : f6_sums_b126 n s x1 (nI w) K (nI m) (nI σ) (s (18 + 9 * m + 6)) v7 v8 v3 = K (v3 + (if w = 3 then (if v7 = v8 then nI 1 else nI 0) else if w = 6 then (if s (18 + 9 * m + 6) = nI (2 + σ) then nI 1 else nI 0) else nI 0)) (nI (m + 1)) := by
  unfold f6_sums_b126
  rw [sums_138 hm hσ hw]
  simp (disch := omega) only [nI_inj, nI_add]
  by_cases w3 : w = 3
  · rw [if_pos w3, if_pos w3, if_neg (show ¬ w = 6 by omega)]
    by_cases c : v7 = v8
    · rw [if_pos c, if_pos c]
    · rw [if_neg c, if_neg c]
  · rw [if_neg w3, if_neg w3]
theorem sums_60 {s : Nat → Int32} {n m σ w : Nat} {x1 v3 : Int32} {K : Int32 → Int32 → Option Int32} (hm : m < 28) (hσ : σ < 2) (hw : w < 9) (hr : ¬ s (18 + 9 * m + 6) = 0) : f6_sums_b60 n s x1 (nI w) K v3 (nI m) (nI σ) (s (18 + 9 * m + 6)) = K (v3 + ctr s w m σ) (nI (m + 1)) := by
  unfold f6_sums_b60 ctr
  have e1 : nI 1 - nI σ = nI (1 - σ) := pk_sub (by omega)
  rw [if_neg (nI_m1 (by omega)), if_neg hr, scoreOf_ hm hσ, Option.bind_some, e1, scoreOf_ hm (by omega), Option.bind_some, sums_126 hm hσ hw]
  simp (disch := omega) only [nI_inj, nI_add]
  by_cases w4 : w = 4
  · rw [if_pos w4, if_pos w4]
  rw [if_neg w4, if_neg w4]
  by_cases w5 : w = 5
  · rw [if_pos w5, if_pos w5]
  rw [if_neg w5, if_neg w5]
  by_cases w1 : w = 1
  · rw [if_pos w1, if_pos w1]
  rw [if_neg w1, if_neg w1]
  by_cases w2 : w = 2
  · rw [if_pos w2, if_pos w2, if_neg (show ¬ w = 3 by omega), if_neg (show ¬ w = 6 by omega)]
    by_cases c : scR s m (1 - σ) < scR s m σ
    · rw [if_pos c, if_pos c]
    · rw [if_neg c, if_neg c]
  rw [if_neg w2, if_neg w2]
theorem sums_ {t mm : Nat} {s : Nat → Int32} (H : HG t mm s) {n w : Nat} {τ : Int32} (hn : mm < n) (hw : w < 9) : f6_sums n s τ (nI w) = some (sm (cR s τ w) mm) := by
  have H0 := H
  obtain ⟨h4, h5, h3, h8, hmm⟩ := H
  unfold f6_sums
  refine loop_S (F := fun k p => f6_sums_b5 n s τ (nI w) k p.1 p.2) (S := fun i => (sm (cR s τ w) i, nI i)) (N := mm) ?_ ?_ n hn
  · intro k
    dsimp only
    rw [f6_sums_b5]
    simp (disch := omega) only [ald_nI, Option.bind_some, h5, nI_le', Nat.le_refl, if_true]
  · intro k i hi
    dsimp only
    rw [f6_sums_b5]
    unfold f6_sideOf
    simp (disch := omega) only [ald_nI, Option.bind_some, h5, nI_le', of_, sm_s]
    rw [if_neg (by omega)]
    unfold cR
    by_cases c1 : s (18 + 9 * i + 1) = τ
    · rw [if_pos c1, if_pos c1, Option.bind_some, if_neg (show ¬ nI 0 = -1 by decide)]
      by_cases c0 : s (18 + 9 * i + 6) = 0
      · rw [if_pos c0]
        simp (disch := omega) only [nI_inj, nI_add]
        unfold ctr
        rw [if_pos c0]
        by_cases w8 : w = 8
        · rw [if_pos w8, if_pos w8]
        · rw [if_neg w8, if_neg w8]
      · rw [if_neg c0]
        exact sums_60 (by omega) (by decide) hw c0
    · rw [if_neg c1, if_neg c1]
      by_cases c2 : s (18 + 9 * i + 2) = τ
      · rw [if_pos c2, if_pos c2, Option.bind_some, if_neg (show ¬ nI 1 = -1 by decide)]
        by_cases c0 : s (18 + 9 * i + 6) = 0
        · rw [if_pos c0]
          simp (disch := omega) only [nI_inj, nI_add]
          unfold ctr
          rw [if_pos c0]
          by_cases w8 : w = 8
          · rw [if_pos w8, if_pos w8]
          · rw [if_neg w8, if_neg w8]
        · rw [if_neg c0]
          exact sums_60 (by omega) (by decide) hw c0
      · rw [if_neg c2, if_neg c2, Option.bind_some, if_pos rfl]
        unfold f6_sums_b60
        rw [if_pos rfl, nI_add, add_0]
def ptR (s : Nat → Int32) (mm : Nat) (τ : Int32) : Int32 := ((s 0) * sm (cR s τ 2) mm + (s 1) * sm (cR s τ 3) mm) - sm (cR s τ 6) mm
theorem points_ {t mm : Nat} {s : Nat → Int32} (H : HG t mm s) {n : Nat} {τ : Int32} (hn : mm < n) : f6_points n s τ = some (ptR s mm τ) := by
  unfold f6_points
  simp (disch := omega) only [ald_nI, Option.bind_some, sums_ H hn]
  rfl
def ahR (s : Nat → Int32) (mm : Nat) (a b : Int32) : Bool :=
  if ptR s mm a - ptR s mm b = 0 then (if ((sm (cR s a 4) mm - sm (cR s a 5) mm) - sm (cR s b 4) mm) + sm (cR s b 5) mm = 0 then (if sm (cR s a 4) mm - sm (cR s b 4) mm = 0 then decide (¬ b ≤ a) else decide (¬ sm (cR s a 4) mm - sm (cR s b 4) mm ≤ 0)) else decide (¬ ((sm (cR s a 4) mm - sm (cR s a 5) mm) - sm (cR s b 4) mm) + sm (cR s b 5) mm ≤ 0)) else decide (¬ ptR s mm a - ptR s mm b ≤ 0)
theorem ite_bI {c : Prop} [Decidable c] : (if c then some (nI 0) else some (nI 1)) = some (nI (bI (decide (¬ c)))) := by
  by_cases h : c
  · rw [if_pos h]; simp [bI, h]
  · rw [if_neg h]; simp [bI, h]
theorem isAheadR_ {t mm : Nat} {s : Nat → Int32} (H : HG t mm s) {n : Nat} {a b : Int32} (hn : mm < n) : f6_isAhead n s a b = some (nI (bI (ahR s mm a b))) := by
  unfold f6_isAhead
  simp (disch := omega) only [points_ H hn, sums_ H hn, Option.bind_some, ite_bI]
  unfold ahR
  split
  · split
    · split <;> rfl
    · rfl
  · rfl
def plR (s : Nat → Int32) (t mm : Nat) (a : Nat) : Nat := cn (fun j => decide (j ≠ a) && ahR s mm (nI j) (nI a)) t
theorem placeOfR_ {t mm : Nat} {s : Nat → Int32} (H : HG t mm s) {n a : Nat} (hn : mm < n) (hn2 : t < n) (ha : a < 8) : f6_placeOf n s (nI a) = some (nI (plR s t mm a)) := by
  have H0 := H
  obtain ⟨h4, h5, h3, h8, hmm⟩ := H
  unfold f6_placeOf plR
  refine loop_S (F := fun k p => f6_placeOf_b4 n s (nI a) k p.1 p.2) (S := fun i => (nI (cn (fun j => decide (j ≠ a) && ahR s mm (nI j) (nI a)) i), nI i)) (N := t) ?_ ?_ n hn2
  · intro k
    dsimp only
    rw [f6_placeOf_b4]
    simp (disch := omega) only [ald_nI, Option.bind_some, h4, nI_le', Nat.le_refl, if_true]
  · intro k i hi
    dsimp only
    rw [f6_placeOf_b4]
    simp (disch := omega) only [ald_nI, Option.bind_some, h4, nI_le', nI_inj, cn_s, isAheadR_ H0 hn, nI_add]
    rw [if_neg (by omega)]
    by_cases c1 : i = a
    · rw [if_pos c1, if_neg (by simp [c1])]
    · rw [if_neg c1]
      cases c2 : ahR s mm (nI i) (nI a) with
      | false => rw [if_pos (show nI (bI false) = 0 from rfl), if_neg (by simp)]
      | true => rw [if_neg (show ¬ nI (bI true) = 0 by decide), if_pos (by simp [c1])]
/-- the last one at a place -/
def taR (p : Nat → Bool) : Nat → Option Nat
  | 0 => none
  | k + 1 => if p k = true then some k else taR p k
theorem taR_s (p : Nat → Bool) (k : Nat) : taR p (k + 1) = if p k = true then some k else taR p k := rfl
theorem teamAtR_ {t mm : Nat} {s : Nat → Int32} (H : HG t mm s) {n a : Nat} (hn : mm < n) (hn2 : t < n) (ha : a < 2147483648) : f6_teamAt n s (nI a) = some (oN (taR (fun j => decide (plR s t mm j = a)) t)) := by
  have H0 := H
  obtain ⟨h4, h5, h3, h8, hmm⟩ := H
  unfold f6_teamAt
  refine loop_S (F := fun k p => f6_teamAt_b4 n s (nI a) k p.1 p.2) (S := fun i => (oN (taR (fun j => decide (plR s t mm j = a)) i), nI i)) (N := t) ?_ ?_ n hn2
  · intro k
    dsimp only
    rw [f6_teamAt_b4]
    simp (disch := omega) only [ald_nI, Option.bind_some, h4, nI_le', Nat.le_refl, if_true]
  · intro k i hi
    dsimp only
    rw [f6_teamAt_b4]
    have q := cn_le (fun j => decide (j ≠ i) && ahR s mm (nI j) (nI i)) t
    have q2 : plR s t mm i ≤ t := q
    simp (disch := omega) only [ald_nI, Option.bind_some, h4, nI_le', placeOfR_ H0 hn hn2, nI_inj, nI_add, taR_s]
    rw [if_neg (by omega)]
    by_cases c1 : plR s t mm i = a
    · rw [if_pos c1, if_pos (by simp [c1])]; rfl
    · rw [if_neg c1, if_neg (by simp [c1])]
