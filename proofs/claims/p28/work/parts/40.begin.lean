/-! PURE: a league begins -/
def rT (t : Nat) : Nat := t - 1 + t % 2
def aT (t r i : Nat) : Nat := if r + i < rT t then r + i else r + i - rT t
def bT (t r i : Nat) : Nat := if i ≤ r then r - i else r + rT t - i
def tpB : Bool := (List.range 9).all fun t => decide (t < 3) || (decide (mmT t = rT t * (t / 2)) && (List.range (rT t)).all fun r => (decide (t % 2 = 1) || (decide (rdT t (r * (t / 2)) = r) && decide (fsT t (r * (t / 2)) = rT t) && decide (scT t (r * (t / 2)) = r) && decide (r * (t / 2) < mmT t))) && (List.range ((t + t % 2) / 2)).all fun i => decide (i = 0) || (decide (rdT t (r * (t / 2) + i - t % 2) = r) && decide (fsT t (r * (t / 2) + i - t % 2) = aT t r i) && decide (scT t (r * (t / 2) + i - t % 2) = bT t r i) && decide (r * (t / 2) + i - t % 2 < mmT t) && decide ((r + i) % rT t = aT t r i) && decide ((r + rT t - i) % rT t = bT t r i)))
theorem tpB_t : tpB = true := by decide +kernel
theorem tp_all {t : Nat} (h3 : 3 ≤ t) (h8 : t ≤ 8) : mmT t = rT t * (t / 2) ∧ ∀ r, r < rT t → (t % 2 = 0 → (rdT t (r * (t / 2)) = r ∧ fsT t (r * (t / 2)) = rT t ∧ scT t (r * (t / 2)) = r ∧ r * (t / 2) < mmT t)) ∧ ∀ i, 0 < i → i < (t + t % 2) / 2 → (rdT t (r * (t / 2) + i - t % 2) = r ∧ fsT t (r * (t / 2) + i - t % 2) = aT t r i ∧ scT t (r * (t / 2) + i - t % 2) = bT t r i ∧ r * (t / 2) + i - t % 2 < mmT t ∧ (r + i) % rT t = aT t r i ∧ (r + rT t - i) % rT t = bT t r i) := by
  have h := List.all_eq_true.mp tpB_t t (List.mem_range.mpr (by omega))
  rw [decide_eq_false (by omega), Bool.false_or, Bool.and_eq_true, decide_eq_true_eq] at h
  refine ⟨h.1, fun r hr => ?_⟩
  have h2 := List.all_eq_true.mp h.2 r (List.mem_range.mpr hr)
  rw [Bool.and_eq_true] at h2
  refine ⟨fun he => ?_, fun i h0 hi => ?_⟩
  · have h4 := h2.1
    rw [decide_eq_false (by omega), Bool.false_or] at h4
    simp only [Bool.and_eq_true, decide_eq_true_eq] at h4
    exact ⟨h4.1.1.1, h4.1.1.2, h4.1.2, h4.2⟩
  · have h4 := List.all_eq_true.mp h2.2 i (List.mem_range.mpr hi)
    rw [decide_eq_false (by omega), Bool.false_or] at h4
    simp only [Bool.and_eq_true, decide_eq_true_eq] at h4
    exact ⟨h4.1.1.1.1.1, h4.1.1.1.1.2, h4.1.1.1.2, h4.1.1.2, h4.1.2, h4.2⟩
/-- a row with its first j matches -/
def MB (t j : Nat) (s u : Nat → Int32) : Prop := (∀ k, k < 4 → u k = s k) ∧ (u 4 = nI t ∧ u 5 = nI j) ∧ (∀ k, k < 12 → u (6 + k) = nI 0) ∧ (∀ m, m < j → (u (18 + 9 * m + 0) = nI (rdT t m) ∧ u (18 + 9 * m + 1) = nI (fsT t m) ∧ u (18 + 9 * m + 2) = nI (scT t m)) ∧ u (18 + 9 * m + 3) = -1 ∧ u (18 + 9 * m + 4) = -1) ∧ ∀ m, m < 28 → u (18 + 9 * m + 5) = nI 0 ∧ u (18 + 9 * m + 6) = nI 0 ∧ u (18 + 9 * m + 7) = nI 0 ∧ u (18 + 9 * m + 8) = nI 0
def pr5 (u : Nat → Int32) (j : Nat) (r a b : Int32) : Nat → Int32 := upd (upd (upd (upd (upd (upd u (18 + 9 * j + 0) r) (18 + 9 * j + 1) a) (18 + 9 * j + 2) b) (18 + 9 * j + 3) (-1)) (18 + 9 * j + 4) (-1)) 5 (nI (j + 1))
theorem pr5_o {u : Nat → Int32} {j k : Nat} {r a b : Int32} (h5 : k ≠ 5) (h : k < 18 + 9 * j ∨ 18 + 9 * j + 4 < k) : pr5 u j r a b k = u k := by
  unfold pr5
  rw [upd_n _ _ h5, upd_n _ _ (by omega), upd_n _ _ (by omega), upd_n _ _ (by omega), upd_n _ _ (by omega), upd_n _ _ (by omega)]
theorem mb_pr {t j r a b : Nat} {s u : Nat → Int32} (B : MB t j s u) (hj : j < 28) (hr : rdT t j = r) (ha : fsT t j = a) (hb : scT t j = b) : MB t (j + 1) s (pr5 u j (nI r) (nI a) (nI b)) := by
  obtain ⟨g0, ⟨g4, g5⟩, g6, gm, gz⟩ := B
  refine ⟨fun k hk => ?_, ⟨?_, ?_⟩, fun k hk => ?_, fun m hm => ?_, fun m hm => ⟨?_, ?_, ?_, ?_⟩⟩
  · rw [pr5_o (by omega) (by omega)]; exact g0 k hk
  · rw [pr5_o (by omega) (by omega)]; exact g4
  · unfold pr5; rw [upd_s]
  · rw [pr5_o (by omega) (by omega)]; exact g6 k hk
  · by_cases e : m = j
    · subst e
      subst hr; subst ha; subst hb
      unfold pr5
      refine ⟨⟨?_, ?_, ?_⟩, ?_, ?_⟩
      · rw [upd_n _ _ (by omega), upd_n _ _ (by omega), upd_n _ _ (by omega), upd_n _ _ (by omega), upd_n _ _ (by omega), upd_s]
      · rw [upd_n _ _ (by omega), upd_n _ _ (by omega), upd_n _ _ (by omega), upd_n _ _ (by omega), upd_s]
      · rw [upd_n _ _ (by omega), upd_n _ _ (by omega), upd_n _ _ (by omega), upd_s]
      · rw [upd_n _ _ (by omega), upd_n _ _ (by omega), upd_s]
      · rw [upd_n _ _ (by omega), upd_s]
    · rw [pr5_o (k := 18 + 9 * m + 0) (by omega) (by omega), pr5_o (k := 18 + 9 * m + 1) (by omega) (by omega), pr5_o (k := 18 + 9 * m + 2) (by omega) (by omega), pr5_o (k := 18 + 9 * m + 3) (by omega) (by omega), pr5_o (k := 18 + 9 * m + 4) (by omega) (by omega)]
      exact gm m (by omega)
  · rw [pr5_o (by omega) (by omega)]; exact (gz m hm).1
  · rw [pr5_o (by omega) (by omega)]; exact (gz m hm).2.1
  · rw [pr5_o (by omega) (by omega)]; exact (gz m hm).2.2.1
  · rw [pr5_o (by omega) (by omega)]; exact (gz m hm).2.2.2
theorem pairs_ {t j n r a b : Nat} {M : OB} {s u : Nat → Int32} (B : MB t j s u) (hj : j < 28) (ht : t ≤ 8) (ha8 : a < t) (hb8 : b < t) : f6_pairs n (gsa M 0 u) (nI r) (nI a) (nI b) = some (gsa M 0 (pr5 u j (nI r) (nI a) (nI b))) := by
  obtain ⟨g0, ⟨g4, g5⟩, -⟩ := B
  unfold f6_pairs
  rw [gsa_s]
  simp (disch := omega) only [ald_nI, Option.bind_some, g4, g5, nI_le']
  rw [if_neg (by omega), if_neg (by omega)]
  simp (disch := omega) only [pk_mul, nI_add, oast_nI, Option.bind_some, gsa_gsa, gsa_s, ald_nI]
  rw [upd_n (j := 5) _ _ (by omega), upd_n (j := 5) _ _ (by omega), upd_n (j := 5) _ _ (by omega), upd_n (j := 5) _ _ (by omega), upd_n (j := 5) _ _ (by omega), g5, nI_add]
  rfl
theorem pairs_no {t j n r a b : Nat} {M : OB} {s u : Nat → Int32} (B : MB t j s u) (ht : t ≤ 8) (ha : t ≤ a) (ha2 : a < 100) : f6_pairs n (gsa M 0 u) (nI r) (nI a) (nI b) = some (gsa M 0 u) := by
  obtain ⟨g0, ⟨g4, g5⟩, -⟩ := B
  unfold f6_pairs
  rw [gsa_s]
  simp (disch := omega) only [ald_nI, Option.bind_some, g4, g5, nI_le']
  rw [if_pos (by omega)]
def zrw (s : Nat → Int32) (i : Nat) : Nat → Int32 := fun k => if 4 ≤ k ∧ k < 4 + i then nI 0 else s k
def inU (t r : Nat) (u : Nat → Int32) : Nat → Nat → Int32
  | 0 => u
  | i + 1 => pr5 (inU t r u i) (r * (t / 2) + (i + 1) - t % 2) (nI r) (nI (aT t r (i + 1))) (nI (bT t r (i + 1)))
theorem inU_s (t r : Nat) (u : Nat → Int32) (i : Nat) : inU t r u (i + 1) = pr5 (inU t r u i) (r * (t / 2) + (i + 1) - t % 2) (nI r) (nI (aT t r (i + 1))) (nI (bT t r (i + 1))) := rfl
theorem inU_b {t r : Nat} {s u : Nat → Int32} (h3 : 3 ≤ t) (h8 : t ≤ 8) (hr : r < rT t) (B : MB t (r * (t / 2) + 1 - t % 2) s u) : ∀ i, i ≤ (t + t % 2) / 2 - 1 → MB t (r * (t / 2) + (i + 1) - t % 2) s (inU t r u i)
  | 0, _ => B
  | i + 1, h => by
    have hmm := tb_mm h3 h8
    obtain ⟨q1, q2, q3, q4, q5, q6⟩ := ((tp_all h3 h8).2 r hr).2 (i + 1) (by omega) (by omega)
    rw [inU_s, show r * (t / 2) + (i + 1 + 1) - t % 2 = (r * (t / 2) + (i + 1) - t % 2) + 1 by omega]
    exact mb_pr (inU_b h3 h8 hr B i (by omega)) (by omega) q1 q2 q3
theorem inner_ {t n r : Nat} {M : OB} {s u : Nat → Int32} {K : Int32 → Int32 → OB → Option OB} (h3 : 3 ≤ t) (h8 : t ≤ 8) (hr : r < rT t) (B : MB t (r * (t / 2) + 1 - t % 2) s u) (hn : 28 < n) : f6_begins_b56 n (nI t) K n (nI (t + t % 2)) (nI r) (nI 1) (gsa M 0 u) = K (nI (t + t % 2)) (nI r) (gsa M 0 (inU t r u ((t + t % 2) / 2 - 1))) := by
  have hmm := tb_mm h3 h8
  obtain ⟨tm, tp⟩ := tp_all h3 h8
  have hR : rT t = t - 1 + t % 2 := rfl
  refine loop_S (F := fun k p => f6_begins_b56 n (nI t) K k (nI (t + t % 2)) (nI r) p.1 p.2) (S := fun i => (nI (i + 1), gsa M 0 (inU t r u i))) (N := (t + t % 2) / 2 - 1) ?_ ?_ n (by omega)
  · intro k
    dsimp only
    rw [f6_begins_b56, pk_div (by omega) (by omega) (by omega), if_pos (by rw [nI_le' (by omega) (by omega)]; omega)]
  · intro k i hi
    dsimp only
    have B1 := inU_b h3 h8 hr B i (by omega)
    obtain ⟨q1, q2, q3, q4, q5, q6⟩ := (tp r hr).2 (i + 1) (by omega) (by omega)
    obtain ⟨-, b1, b2, -⟩ := tb_m h3 h8 q4
    rw [q2] at b1
    rw [q3] at b2
    have eR : nI (t + t % 2) - nI 1 = nI (rT t) := by
      rw [pk_sub (by omega)]
      congr 1
      omega
    have eb : ((nI r - nI (i + 1)) + nI (t + t % 2)) - nI 1 = nI (r + rT t - (i + 1)) := by
      rw [← pk_sub (show i + 1 ≤ r + rT t by omega), ← nI_add (a := r), ← eR]
      grind
    rw [f6_begins_b56, pk_div (by omega) (by omega) (by omega), if_neg (by rw [nI_le' (by omega) (by omega)]; omega), eb, eR, nI_add, nI_mod (by omega) (by omega) (by omega), nI_mod (by omega) (by omega) (by omega), q5, q6, nz_nI (by omega) (by omega), Option.bind_some, Option.bind_some, pairs_ B1 (by omega) h8 b1 b2, Option.bind_some, nI_add]
    rfl
theorem begins_ {t n : Nat} {M : OB} (h3 : 3 ≤ t) (h8 : t ≤ 8) (hn : 270 < n) : ∃ u, f6_begins n M (nI t) = some (gsa M 0 u) ∧ MB t (mmT t) (M.2 0) u := by
  have hmm := tb_mm h3 h8
  obtain ⟨tm, tp⟩ := tp_all h3 h8
  have hR : rT t = t - 1 + t % 2 := rfl
  have goal : ∃ z, f6_begins n M (nI t) = some z ∧ ∃ u, z = gsa M 0 u ∧ MB t (mmT t) (M.2 0) u := by
    unfold f6_begins
    have hM : M = gsa M 0 (zrw (M.2 0) 0) := by
      rw [show zrw (M.2 0) 0 = M.2 0 from funext fun k => if_neg (by omega), gsa_id]
    conv => enter [1, z, 1, 1]; rw [hM]
    refine loop_E (F := fun k p => f6_begins_b2 n (nI t) (fun oM => f6_begins_b22 n (nI t) oM) k p.1 p.2) (I := fun i (p : Int32 × OB) => p.1 = nI (4 + i) ∧ p.2 = gsa M 0 (zrw (M.2 0) i)) (N := 266) ?_ ?_ n (nI 4, gsa M 0 (zrw (M.2 0) 0)) (by omega) ⟨rfl, rfl⟩
    · rintro k ⟨v, M1⟩ ⟨e1, e2⟩
      dsimp only at e1 e2 ⊢
      subst e1; subst e2
      rw [f6_begins_b2, if_pos (by decide)]
      unfold f6_begins_b22
      rw [oast_nI (by omega) (by omega), Option.bind_some, gsa_gsa, gsa_s, nI_mod (by omega) (by omega) (by omega), nI_add]
      have B0 : MB t (0 * (t / 2)) (M.2 0) (upd (zrw (M.2 0) 266) 4 (nI t)) := by
        rw [Nat.zero_mul]
        refine ⟨fun k hk => ?_, ⟨upd_s _ _ _, ?_⟩, fun k hk => ?_, fun m hm => absurd hm (Nat.not_lt_zero m), fun m hm => ⟨?_, ?_, ?_, ?_⟩⟩
        · rw [upd_n _ _ (by omega)]; exact if_neg (by omega)
        all_goals rw [upd_n _ _ (by omega)]; exact if_pos (by omega)
      refine loop_E (F := fun k p => f6_begins_b37 n (nI t) k (nI (t + t % 2)) p.1 p.2) (I := fun i (p : Int32 × OB) => p.1 = nI i ∧ ∃ u, p.2 = gsa M 0 u ∧ MB t (i * (t / 2)) (M.2 0) u) (N := rT t) ?_ ?_ n (nI 0, _) (by omega) ⟨rfl, _, rfl, B0⟩
      · rintro k ⟨v, M1⟩ ⟨e1, u1, e2, B1⟩
        dsimp only at e1 e2 ⊢
        subst e1; subst e2
        rw [f6_begins_b37, pk_sub (by omega), if_pos (by rw [nI_le' (by omega) (by omega)]; omega)]
        rw [← tm] at B1
        exact ⟨_, rfl, u1, rfl, B1⟩
      · rintro k i ⟨v, M1⟩ hi ⟨e1, u1, e2, B1⟩
        dsimp only at e1 e2 ⊢
        subst e1; subst e2
        have eR : nI (t + t % 2) - nI 1 = nI (rT t) := by
          rw [pk_sub (by omega)]
          congr 1
          omega
        have key : ∃ u2, f6_pairs n (gsa M 0 u1) (nI i) (nI (rT t)) (nI i) = some (gsa M 0 u2) ∧ MB t (i * (t / 2) + 1 - t % 2) (M.2 0) u2 := by
          rcases Nat.mod_two_eq_zero_or_one t with h2 | h2
          · obtain ⟨q1, q2, q3, q4⟩ := (tp i hi).1 h2
            refine ⟨_, pairs_ B1 (by omega) h8 (by omega) (by omega), ?_⟩
            rw [h2, Nat.sub_zero]
            exact mb_pr B1 (by omega) q1 q2 q3
          · refine ⟨_, pairs_no B1 h8 (by omega) (by omega), ?_⟩
            rw [h2, Nat.add_sub_cancel]
            exact B1
        obtain ⟨u2, e2, B2⟩ := key
        have B3 := inU_b h3 h8 hi B2 _ (Nat.le_refl _)
        refine ⟨(nI (i + 1), gsa M 0 (inU t i u2 ((t + t % 2) / 2 - 1))), ⟨rfl, _, rfl, ?_⟩, ?_⟩
        · rw [Nat.succ_mul, show i * (t / 2) + t / 2 = i * (t / 2) + ((t + t % 2) / 2 - 1 + 1) - t % 2 by omega]
          exact B3
        · dsimp only
          rw [f6_begins_b37, eR, if_neg (by rw [nI_le' (by omega) (by omega)]; omega), e2, Option.bind_some, inner_ h3 h8 hi B2 (by omega)]
          unfold f6_begins_b95
          rw [nI_add]
    · rintro k i ⟨v, M1⟩ hi ⟨e1, e2⟩
      dsimp only at e1 e2 ⊢
      subst e1; subst e2
      refine ⟨(nI (4 + (i + 1)), gsa M 0 (zrw (M.2 0) (i + 1))), ⟨rfl, rfl⟩, ?_⟩
      dsimp only
      rw [f6_begins_b2, if_neg (by rw [nI_le' (by omega) (by omega)]; omega), oast_nI (by omega) (by omega), Option.bind_some, gsa_gsa, gsa_s, nI_add]
      congr 2
      funext k
      rw [upd_e]
      unfold zrw
      by_cases e : k = 4 + i
      · rw [if_pos e, if_pos (by omega)]
      · rw [if_neg e]
        by_cases c : 4 ≤ k ∧ k < 4 + i
        · rw [if_pos c, if_pos (by omega)]
        · rw [if_neg c, if_neg (by omega)]
  obtain ⟨z, h1, u, h2, h4⟩ := goal
  exact ⟨u, by rw [h1, h2], h4⟩
/-- a league with its first j matches -/
def LB (t j : Nat) (L0 L : OB) : Prop := (L.1 0 = nI t ∧ L.1 1 = nI (rT t) ∧ L.1 2 = nI j) ∧ L.2 3 = L0.2 3 ∧ ((∀ k, k < 6 → L.2 4 k = nI 0) ∧ ∀ k, k < 6 → L.2 5 k = nI 0) ∧ ∀ m, m < j → (L.2 6 m = nI (rdT t m) ∧ L.2 7 m = nI (fsT t m) ∧ L.2 8 m = nI (scT t m)) ∧ (L.2 9 m = -1 ∧ L.2 10 m = -1 ∧ L.2 11 m = nI 0) ∧ L.2 12 m = nI 0
theorem addMatch_ {t j n r a b : Nat} {L0 L : OB} (B : LB t j L0 L) (hj : j < 28) (ht : t ≤ 8) (hr : rdT t j = r) (ha : fsT t j = a) (hb : scT t j = b) (ha8 : a < t) (hb8 : b < t) : ∃ L', f1_addMatch n L (nI r) (nI a) (nI b) = some L' ∧ LB t (j + 1) L0 L' := by
  obtain ⟨⟨l0, l1, l2⟩, hs, ⟨k4, k5⟩, hm⟩ := B
  unfold f1_addMatch
  rw [l0, l2, if_neg (by rw [nI_le' (by omega) (by omega)]; omega), if_neg (by rw [nI_le' (by omega) (by omega)]; omega), if_pos (by rw [nI_lt' (by omega) (by omega)]; omega)]
  simp (disch := omega) only [Option.bind_some, nI_add, oast_nI]
  refine ⟨_, rfl, ⟨l0, l1, rfl⟩, hs, ⟨k4, k5⟩, fun m hm2 => ?_⟩
  by_cases e : m = j
  · subst e
    subst hr; subst ha; subst hb
    exact ⟨⟨upd_s _ _ _, upd_s _ _ _, upd_s _ _ _⟩, ⟨upd_s _ _ _, upd_s _ _ _, upd_s _ _ _⟩, upd_s _ _ _⟩
  · obtain ⟨⟨c6, c7, c8⟩, ⟨c9, c10, c11⟩, c12⟩ := hm m (by omega)
    exact ⟨⟨(upd_n _ _ e).trans c6, (upd_n _ _ e).trans c7, (upd_n _ _ e).trans c8⟩, ⟨(upd_n _ _ e).trans c9, (upd_n _ _ e).trans c10, (upd_n _ _ e).trans c11⟩, (upd_n _ _ e).trans c12⟩
theorem addMatch_no {t j n r a b : Nat} {L0 L : OB} (B : LB t j L0 L) (ht : t ≤ 8) (ha : t ≤ a) (ha2 : a < 100) : f1_addMatch n L (nI r) (nI a) (nI b) = some L := by
  obtain ⟨⟨l0, l1, l2⟩, -⟩ := B
  unfold f1_addMatch
  rw [l0, if_pos (by rw [nI_le' (by omega) (by omega)]; omega)]
theorem pairRound_ {t n r : Nat} {L0 L : OB} (h3 : 3 ≤ t) (h8 : t ≤ 8) (hr : r < rT t) (B : LB t (r * (t / 2)) L0 L) (hn : 28 < n) : ∃ L', f1_pairRound n L (nI r) = some L' ∧ LB t ((r + 1) * (t / 2)) L0 L' := by
  have hmm := tb_mm h3 h8
  obtain ⟨tm, tp⟩ := tp_all h3 h8
  have hR : rT t = t - 1 + t % 2 := rfl
  have key : ∃ L2, f1_addMatch n L (nI r) (nI (rT t)) (nI r) = some L2 ∧ LB t (r * (t / 2) + 1 - t % 2) L0 L2 := by
    rcases Nat.mod_two_eq_zero_or_one t with h2 | h2
    · obtain ⟨q1, q2, q3, q4⟩ := (tp r hr).1 h2
      rw [h2, Nat.sub_zero]
      exact addMatch_ B (by omega) h8 q1 q2 q3 (by omega) (by omega)
    · refine ⟨_, addMatch_no B h8 (by omega) (by omega), ?_⟩
      rw [h2, Nat.add_sub_cancel]
      exact B
  obtain ⟨L2, e2, B2⟩ := key
  unfold f1_pairRound
  rw [B.1.2.1, e2, Option.bind_some]
  refine loop_E (F := fun k p => f1_pairRound_b12 n (nI r) k p.1 p.2) (I := fun i (p : Int32 × OB) => p.1 = nI (i + 1) ∧ LB t (r * (t / 2) + (i + 1) - t % 2) L0 p.2) (N := (t + t % 2) / 2 - 1) ?_ ?_ n (nI 1, L2) (by omega) ⟨rfl, B2⟩
  · rintro k ⟨v, L1⟩ ⟨e1, B1⟩
    dsimp only at e1 B1 ⊢
    subst e1
    rw [f1_pairRound_b12, B1.1.2.1, nI_add, pk_div (by omega) (by omega) (by omega), if_pos (by rw [nI_le' (by omega) (by omega)]; omega)]
    refine ⟨_, rfl, ?_⟩
    rw [Nat.succ_mul, show r * (t / 2) + t / 2 = r * (t / 2) + ((t + t % 2) / 2 - 1 + 1) - t % 2 by omega]
    exact B1
  · rintro k i ⟨v, L1⟩ hi ⟨e1, B1⟩
    dsimp only at e1 B1 ⊢
    subst e1
    obtain ⟨q1, q2, q3, q4, q5, q6⟩ := (tp r hr).2 (i + 1) (by omega) (by omega)
    obtain ⟨-, b1, b2, -⟩ := tb_m h3 h8 q4
    rw [q2] at b1
    rw [q3] at b2
    obtain ⟨L3, e3, B3⟩ := addMatch_ (n := n) B1 (by omega) h8 q1 q2 q3 b1 b2
    refine ⟨(nI (i + 1 + 1), L3), ⟨rfl, ?_⟩, ?_⟩
    · rw [show r * (t / 2) + (i + 1 + 1) - t % 2 = (r * (t / 2) + (i + 1) - t % 2) + 1 by omega]
      exact B3
    · dsimp only
      have hb : (if (0 : Int32) ≤ nI r - nI (i + 1) then (f1_addMatch n L1 (nI r) (nI (aT t r (i + 1))) (nI r - nI (i + 1))).bind fun z70 => f1_pairRound_b12 n (nI r) k (nI (i + 1) + nI 1) z70 else (f1_addMatch n L1 (nI r) (nI (aT t r (i + 1))) ((nI r - nI (i + 1)) + nI (rT t))).bind fun z70 => f1_pairRound_b12 n (nI r) k (nI (i + 1) + nI 1) z70) = f1_pairRound_b12 n (nI r) k (nI (i + 1 + 1)) L3 := by
        by_cases c : i + 1 ≤ r
        · have eb : nI r - nI (i + 1) = nI (bT t r (i + 1)) := by rw [pk_sub c]; unfold bT; rw [if_pos c]
          rw [eb, if_pos (Int32.not_lt.mp (nI_neg (by omega))), e3, Option.bind_some, nI_add]
        · have eb : (nI r - nI (i + 1)) + nI (rT t) = nI (bT t r (i + 1)) := by
            unfold bT
            rw [if_neg c, ← pk_sub (show i + 1 ≤ r + rT t by omega), ← nI_add (a := r)]
            grind
          rw [if_neg (Int32.not_le.mpr (pk_sneg (by omega) (by omega))), eb, e3, Option.bind_some, nI_add]
      rw [f1_pairRound_b12]
      unfold f1_pairRound_b53
      rw [B1.1.2.1, nI_add, pk_div (by omega) (by omega) (by omega), if_neg (by rw [nI_le' (by omega) (by omega)]; omega), nI_add]
      by_cases c : r + (i + 1) < rT t
      · rw [if_pos (by rw [nI_lt' (by omega) (by omega)]; exact c)]
        have ea : aT t r (i + 1) = r + (i + 1) := if_pos c
        rw [ea] at hb
        exact hb
      · rw [if_neg (by rw [nI_lt' (by omega) (by omega)]; exact c), pk_sub (show rT t ≤ r + (i + 1) by omega)]
        have ea : aT t r (i + 1) = r + (i + 1) - rT t := if_neg c
        rw [ea] at hb
        exact hb
theorem restart_69 {t n : Nat} {L0 L : OB} (h3 : 3 ≤ t) (h8 : t ≤ 8) (B : LB t 0 L0 L) (hn : 28 < n) : ∃ L', f1_restart_b69 n (nI t) L = some L' ∧ LB t (mmT t) L0 L' := by
  have hmm := tb_mm h3 h8
  obtain ⟨tm, tp⟩ := tp_all h3 h8
  have hR : rT t = t - 1 + t % 2 := rfl
  unfold f1_restart_b69
  refine loop_E (F := fun k p => f1_restart_b71 n (nI t) k p.1 p.2) (I := fun i (p : Int32 × OB) => p.1 = nI i ∧ LB t (i * (t / 2)) L0 p.2) (N := rT t) ?_ ?_ n (nI 0, L) (by omega) ⟨rfl, by rw [Nat.zero_mul]; exact B⟩
  · rintro k ⟨v, L1⟩ ⟨e1, B1⟩
    dsimp only at e1 B1 ⊢
    subst e1
    rw [f1_restart_b71, B1.1.2.1, if_pos (by rw [nI_le' (by omega) (by omega)]; exact Nat.le_refl _)]
    rw [← tm] at B1
    exact ⟨_, rfl, B1⟩
  · rintro k i ⟨v, L1⟩ hi ⟨e1, B1⟩
    dsimp only at e1 B1 ⊢
    subst e1
    obtain ⟨L2, e2, B2⟩ := pairRound_ (n := n) h3 h8 hi B1 hn
    refine ⟨(nI (i + 1), L2), ⟨rfl, B2⟩, ?_⟩
    dsimp only
    rw [f1_restart_b71, B1.1.2.1, if_neg (by rw [nI_le' (by omega) (by omega)]; omega), e2, Option.bind_some, nI_add]
theorem restart_ {t n : Nat} {L : OB} (h3 : 3 ≤ t) (h8 : t ≤ 8) (hn : 28 < n) : ∃ L', f1_restart n L (nI t) = some L' ∧ LB t (mmT t) L L' := by
  have hR : rT t = t - 1 + t % 2 := rfl
  have key : ∀ L1 : OB, (L1.1 0 = nI t ∧ L1.1 1 = nI (rT t) ∧ L1.1 2 = nI 0) → L1.2 3 = L.2 3 → ∃ L', f1_restart_b29 n (nI t) (fun oL => f1_restart_b48 n (nI t) oL) n (nI 0) L1 = some L' ∧ LB t (mmT t) L L' := by
    intro L1 h1 hs
    refine loop_E (F := fun k p => f1_restart_b29 n (nI t) (fun oL => f1_restart_b48 n (nI t) oL) k p.1 p.2) (I := fun i (p : Int32 × OB) => p.1 = nI i ∧ (p.2.1 0 = nI t ∧ p.2.1 1 = nI (rT t) ∧ p.2.1 2 = nI 0) ∧ p.2.2 3 = L.2 3 ∧ ∀ k, k < i → p.2.2 4 k = nI 0) (N := 6) ?_ ?_ n (nI 0, L1) (by omega) ⟨rfl, h1, hs, fun k hk => absurd hk (Nat.not_lt_zero k)⟩
    · rintro k ⟨v, L2⟩ ⟨e1, h2, hs2, z4⟩
      dsimp only at e1 h2 hs2 z4 ⊢
      subst e1
      rw [f1_restart_b29, if_pos (by decide)]
      unfold f1_restart_b48
      refine loop_E (F := fun k p => f1_restart_b50 n (nI t) (fun oL => f1_restart_b69 n (nI t) oL) k p.1 p.2) (I := fun i (p : Int32 × OB) => p.1 = nI i ∧ (p.2.1 0 = nI t ∧ p.2.1 1 = nI (rT t) ∧ p.2.1 2 = nI 0) ∧ p.2.2 3 = L.2 3 ∧ (∀ k, k < 6 → p.2.2 4 k = nI 0) ∧ ∀ k, k < i → p.2.2 5 k = nI 0) (N := 6) ?_ ?_ n (nI 0, L2) (by omega) ⟨rfl, h2, hs2, z4, fun k hk => absurd hk (Nat.not_lt_zero k)⟩
      · rintro k ⟨v, L3⟩ ⟨e1, h3', hs3, z4', z5⟩
        dsimp only at e1 h3' hs3 z4' z5 ⊢
        subst e1
        rw [f1_restart_b50, if_pos (by decide)]
        exact restart_69 h3 h8 ⟨h3', hs3, ⟨z4', z5⟩, fun m hm => absurd hm (Nat.not_lt_zero m)⟩ hn
      · rintro k i ⟨v, L3⟩ hi ⟨e1, h3', hs3, z4', z5⟩
        dsimp only at e1 h3' hs3 z4' z5 ⊢
        subst e1
        refine ⟨(nI (i + 1), gsa L3 5 (upd (L3.2 5) i (nI 0))), ⟨rfl, h3', hs3, z4', fun j hj => ?_⟩, ?_⟩
        · show upd (L3.2 5) i (nI 0) j = _
          rw [upd_e]
          split
          · rfl
          · exact z5 j (by omega)
        · dsimp only
          rw [f1_restart_b50, if_neg (by rw [nI_le' (by omega) (by omega)]; omega), oast_nI (by omega) (by omega), Option.bind_some, nI_add]
    · rintro k i ⟨v, L2⟩ hi ⟨e1, h2, hs2, z4⟩
      dsimp only at e1 h2 hs2 z4 ⊢
      subst e1
      refine ⟨(nI (i + 1), gsa L2 4 (upd (L2.2 4) i (nI 0))), ⟨rfl, h2, hs2, fun j hj => ?_⟩, ?_⟩
      · show upd (L2.2 4) i (nI 0) j = _
        rw [upd_e]
        split
        · rfl
        · exact z4 j (by omega)
      · dsimp only
        rw [f1_restart_b29, if_neg (by rw [nI_le' (by omega) (by omega)]; omega), oast_nI (by omega) (by omega), Option.bind_some, nI_add]
  unfold f1_restart
  simp only [Option.bind_some]
  rw [nI_mod (by omega) (by omega) (by omega)]
  rcases Nat.mod_two_eq_zero_or_one t with h2 | h2
  · rw [h2, if_pos (by rfl), pk_sub (by omega)]
    exact key _ ⟨rfl, by show nI (t - 1) = _; congr 1; omega, rfl⟩ rfl
  · rw [h2, if_neg (by decide)]
    exact key _ ⟨rfl, by show nI t = _; congr 1; omega, rfl⟩ rfl
