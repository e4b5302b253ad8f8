/-! PURE: the class's staging is the reference's -/
/-- a league and a row say the same, but for the reasons, and for the scores of a match without a result -/
def RLc (t q : Nat) (L : OB) (s : Nat → Int32) : Prop := FXR t q s ∧ (L.1 0 = nI t ∧ L.1 1 = nI (t - 1 + t % 2) ∧ L.1 2 = nI (mmT t)) ∧ ((∀ j, j < 4 → L.2 3 j = s j) ∧ (∀ j, j < 6 → L.2 4 j = s (6 + j)) ∧ ∀ j, j < 6 → L.2 5 j = s (12 + j)) ∧ ∀ m, m < mmT t → (L.2 6 m = s (18 + 9 * m + 0) ∧ L.2 7 m = s (18 + 9 * m + 1) ∧ L.2 8 m = s (18 + 9 * m + 2)) ∧ (L.2 9 m = s (18 + 9 * m + 3) ∧ L.2 10 m = s (18 + 9 * m + 4)) ∧ L.2 12 m = s (18 + 9 * m + 6) ∧ (¬ s (18 + 9 * m + 6) = 0 → L.2 13 m = s (18 + 9 * m + 7)) ∧ (¬ s (18 + 9 * m + 6) = 0 → L.2 14 m = s (18 + 9 * m + 8))
def zUsed (w : Nat) (s : Nat → Int32) (mm : Nat) : Nat → Nat → Bool := fun k r => decide (cn (hvP s w (nI k) (nI r)) mm ≠ 0)
def fwV (d : Int32) (ld : Nat → Nat) : Option Nat → Int32
  | none => d
  | some b => nI (ld b)
theorem bI_z {b : Bool} : nI (bI b) = 0 ↔ b = false := by cases b <;> decide
theorem fv_94 {n i : Nat} {G L : OB} {x2 v3 v4 v5 : Int32} {K : Int32 → Int32 → Int32 → Int32 → Int32 → Int32 → Option Int32} {b1 b2 : Bool} {may : Nat → Bool} {ld : Nat → Nat} (hi : i < 6) (hg : G.2 0 i = nI (ld i)) (hb : may i = (b1 && b2)) (hld : ∀ k, ld k ≤ 28) : f3_freeVenue_b94 n G L x2 K v3 v4 v5 (oN (bst may ld i)) (fwV (nI 29) ld (bst may ld i)) (nI i) (nI (bI b1)) (nI (bI b2)) = K v3 v4 v5 (oN (bst may ld (i + 1))) (fwV (nI 29) ld (bst may ld (i + 1))) (nI (i + 1)) := by
  unfold f3_freeVenue_b94
  simp (disch := omega) only [ald_nI, Option.bind_some, nI_add, hg, bI_z]
  rw [bst_s, hb]
  cases b1 with
  | false => rw [if_pos rfl, if_neg (by simp)]
  | true =>
    rw [if_neg (by simp)]
    cases b2 with
    | false => rw [if_pos rfl, if_neg (by simp)]
    | true =>
      rw [if_neg (by simp), if_pos (show (true && true) = true from rfl)]
      have h1 := hld i
      cases hb : bst may ld i with
      | none =>
        rw [if_neg (by show ¬ nI 29 ≤ nI (ld i); rw [nI_le' (by omega) (by omega)]; omega)]
        rfl
      | some d =>
        have h2 := hld d
        have hle : (fwV (nI 29) ld (some d) ≤ nI (ld i)) ↔ ld d ≤ ld i := nI_le' (by omega) (by omega)
        by_cases c : ld d ≤ ld i
        · rw [if_pos (hle.mpr c)]
          dsimp only
          rw [if_neg (by omega)]
        · rw [if_neg (fun h => c (hle.mp h))]
          dsimp only
          rw [if_pos (by omega)]
          rfl
theorem or_free {x y : Int32} {r : Nat} {z : Bool} (hr : r < 7) (hy : bt y r = z) : ((x ||| y) &&& (nI 1 <<< (nI r &&& 31))) = 0 ↔ (mb x r && !z) = true := by
  rw [bt_cl hr, b_or, hy, mb_bt hr]
  cases bt x r <;> cases z <;> decide
theorem freeVenue_ {t q n m : Nat} {G L : OB} {u : Nat → Int32} (R : RLc t q L u) (hl : LQ G (ld6 3 u (mmT t)) (ld6 4 u (mmT t)) (zUsed 3 u (mmT t)) (zUsed 4 u (mmT t))) (hn : 6 < n) (hm : m < mmT t) : f3_freeVenue n G L (nI m) = some (oN (vnR t u m)) := by
  obtain ⟨⟨H, hq, hr⟩, -, ⟨g1, g2, g3⟩, g4⟩ := R
  have hmm : mmT t ≤ 28 := H.2.2.2.2
  have h8 := H.2.2.2.1
  obtain ⟨b0, b1, b2, b3⟩ := tb_m H.2.2.1 h8 hm
  have b7 := tb_r H.2.2.1 h8 hm
  obtain ⟨r0, r1, r2⟩ := hr m hm
  obtain ⟨⟨c0, c1, c2⟩, -⟩ := g4 m hm
  have hld : ∀ k, ld6 3 u (mmT t) k ≤ 28 := fun k => Nat.le_trans (cn_le _ _) hmm
  unfold f3_freeVenue
  simp (disch := omega) only [ald_nI, Option.bind_some, c0, c1, c2, r0, r1, r2, nI_mod]
  refine loop_S (F := fun k p => f3_freeVenue_b41 n G L (nI m) k (nI (fsT t m % 6)) (nI (scT t m % 6)) (nI 1 <<< (nI (rdT t m) &&& 31)) p.1 p.2.1 p.2.2) (S := fun i => (oN (bst (may6 3 6 (nV t m) u (mmT t) (rdT t m)) (ld6 3 u (mmT t)) i), fwV (nI 29) (ld6 3 u (mmT t)) (bst (may6 3 6 (nV t m) u (mmT t) (rdT t m)) (ld6 3 u (mmT t)) i), nI i)) (N := 6) ?_ ?_ n hn
  · intro k
    dsimp only
    rw [f3_freeVenue_b41, if_pos (by decide)]
    rfl
  · intro k i hi
    dsimp only
    obtain ⟨l1, l2, l3⟩ := hl i hi
    have hz := (l3 (rdT t m) b7).1
    have key : ∀ b1 : Bool, nV t m i = b1 → f3_freeVenue_b66 n G L (nI m) (f3_freeVenue_b41 n G L (nI m) k) (nI (fsT t m % 6)) (nI (scT t m % 6)) (nI 1 <<< (nI (rdT t m) &&& 31)) (oN (bst (may6 3 6 (nV t m) u (mmT t) (rdT t m)) (ld6 3 u (mmT t)) i)) (fwV (nI 29) (ld6 3 u (mmT t)) (bst (may6 3 6 (nV t m) u (mmT t) (rdT t m)) (ld6 3 u (mmT t)) i)) (nI i) (nI (bI b1)) = f3_freeVenue_b41 n G L (nI m) k (nI (fsT t m % 6)) (nI (scT t m % 6)) (nI 1 <<< (nI (rdT t m) &&& 31)) (oN (bst (may6 3 6 (nV t m) u (mmT t) (rdT t m)) (ld6 3 u (mmT t)) (i + 1))) (fwV (nI 29) (ld6 3 u (mmT t)) (bst (may6 3 6 (nV t m) u (mmT t) (rdT t m)) (ld6 3 u (mmT t)) (i + 1))) (nI (i + 1)) := by
      intro b1 hb1
      unfold f3_freeVenue_b66
      simp (disch := omega) only [ald_nI, Option.bind_some]
      have hf := or_free (x := L.2 4 i) b7 hz
      simp only [g2 i hi] at hf ⊢
      have hmay : ∀ b2 : Bool, (mb (u (6 + i)) (rdT t m) && !(zUsed 3 u (mmT t) i (rdT t m))) = b2 → may6 3 6 (nV t m) u (mmT t) (rdT t m) i = (b1 && b2) := by
        intro b2 hb2
        unfold may6
        rw [hb1, ← hb2]
        unfold zUsed
        rw [Bool.and_assoc]
        by_cases e : cn (hvP u 3 (nI i) (nI (rdT t m))) (mmT t) = 0 <;> simp [e]
      by_cases c : ((u (6 + i) ||| G.2 1 i) &&& (nI 1 <<< (nI (rdT t m) &&& 31))) = 0
      · rw [if_pos c]
        exact fv_94 (b2 := true) hi l1 (hmay true (hf.mp c)) hld
      · rw [if_neg c]
        exact fv_94 (b2 := false) hi l1 (hmay false (by rw [hf] at c; exact Bool.eq_false_iff.mpr c)) hld
    rw [f3_freeVenue_b41]
    simp (disch := omega) only [nI_le', nI_inj]
    rw [if_neg (by omega)]
    by_cases e1 : i = fsT t m % 6
    · rw [if_pos e1]
      exact key false (by unfold nV; simp [e1])
    · rw [if_neg e1]
      by_cases e2 : i = scT t m % 6
      · rw [if_pos e2]
        exact key false (by unfold nV; simp [e2])
      · rw [if_neg e2]
        exact key true (by unfold nV; simp only [Bool.and_eq_true, decide_eq_true_eq]; omega)
theorem fs_104 {n i qq : Nat} {G L : OB} {x2 v3 : Int32} {K : Int32 → Int32 → Int32 → Int32 → Option Int32} {b1 b2 : Bool} {may : Nat → Bool} {ld : Nat → Nat} (hi : i < 6) (hg : G.2 2 i = nI (ld i)) (hq : qq ≤ 28) (hmq : ∀ k, may k = true → ld k < qq) (hb : may i = (b1 && b2 && decide (ld i < qq))) (hld : ∀ k, ld k ≤ 28) : f3_freeSetter_b104 n G L x2 K v3 (oN (bst may ld i)) (fwV (nI qq) ld (bst may ld i)) (nI i) (nI (bI b1)) (nI (bI b2)) = K v3 (oN (bst may ld (i + 1))) (fwV (nI qq) ld (bst may ld (i + 1))) (nI (i + 1)) := by
  unfold f3_freeSetter_b104
  simp (disch := omega) only [ald_nI, Option.bind_some, nI_add, hg, bI_z]
  rw [bst_s, hb]
  cases b1 with
  | false => rw [if_pos rfl, if_neg (by simp)]
  | true =>
    rw [if_neg (by simp)]
    cases b2 with
    | false => rw [if_pos rfl, if_neg (by simp)]
    | true =>
      rw [if_neg (by simp)]
      have h1 := hld i
      cases hb : bst may ld i with
      | none =>
        have hle : (fwV (nI qq) ld none ≤ nI (ld i)) ↔ qq ≤ ld i := nI_le' (by omega) (by omega)
        by_cases c : qq ≤ ld i
        · rw [if_pos (hle.mpr c), if_neg (by simp; omega)]
        · rw [if_neg (fun h => c (hle.mp h)), if_pos (by simp; omega)]
          rfl
      | some d =>
        have h2 := hld d
        have h3 := hmq d (bst_lt hb).2
        have hle : (fwV (nI qq) ld (some d) ≤ nI (ld i)) ↔ ld d ≤ ld i := nI_le' (by omega) (by omega)
        by_cases c : ld d ≤ ld i
        · rw [if_pos (hle.mpr c)]
          dsimp only
          rw [if_neg (show ¬ ld i < ld d by omega)]
          split <;> rfl
        · rw [if_neg (fun h => c (hle.mp h)), if_pos (by simp; omega)]
          dsimp only
          rw [if_pos (by omega)]
          rfl
theorem freeSetter_ {t q n m : Nat} {G L : OB} {u : Nat → Int32} (R : RLc t q L u) (hl : LQ G (ld6 3 u (mmT t)) (ld6 4 u (mmT t)) (zUsed 3 u (mmT t)) (zUsed 4 u (mmT t))) (hn : 6 < n) (hm : m < mmT t) : f3_freeSetter n G L (nI m) = some (oN (stR t q u m)) := by
  obtain ⟨⟨H, hq, hr⟩, ⟨k0, -, -⟩, ⟨g1, g2, g3⟩, g4⟩ := R
  have hmm : mmT t ≤ 28 := H.2.2.2.2
  have h8 := H.2.2.2.1
  have ht3 := H.2.2.1
  obtain ⟨b0, b1, b2, b3⟩ := tb_m H.2.2.1 h8 hm
  have b7 := tb_r H.2.2.1 h8 hm
  obtain ⟨r0, r1, r2⟩ := hr m hm
  obtain ⟨⟨c0, c1, c2⟩, -⟩ := g4 m hm
  have hld : ∀ k, ld6 4 u (mmT t) k ≤ 28 := fun k => Nat.le_trans (cn_le _ _) hmm
  have hmq : ∀ k, may6 4 12 (nS t q m u) u (mmT t) (rdT t m) k = true → ld6 4 u (mmT t) k < q := by
    intro k hk
    unfold may6 nS at hk
    simp only [Bool.and_eq_true, decide_eq_true_eq] at hk
    exact hk.1.1.2
  unfold f3_freeSetter
  simp (disch := omega) only [ald_nI, Option.bind_some, c0, r0, g1 3 (by omega), hq.1]
  refine loop_S (F := fun k p => f3_freeSetter_b23 n G L (nI m) k (nI 1 <<< (nI (rdT t m) &&& 31)) p.1 p.2.1 p.2.2) (S := fun i => (oN (bst (may6 4 12 (nS t q m u) u (mmT t) (rdT t m)) (ld6 4 u (mmT t)) i), fwV (nI q) (ld6 4 u (mmT t)) (bst (may6 4 12 (nS t q m u) u (mmT t) (rdT t m)) (ld6 4 u (mmT t)) i), nI i)) (N := 6) ?_ ?_ n hn
  · intro k
    dsimp only
    rw [f3_freeSetter_b23, if_pos (by decide)]
    rfl
  · intro k i hi
    dsimp only
    obtain ⟨l1, l2, l3⟩ := hl i hi
    have hz := (l3 (rdT t m) b7).2
    have hmod : i % t < t := Nat.mod_lt _ (by omega)
    have key : ∀ b1 : Bool, (decide (fsT t m ≠ i % t) && decide (scT t m ≠ i % t)) = b1 → f3_freeSetter_b77 n G L (nI m) (f3_freeSetter_b23 n G L (nI m) k) (nI 1 <<< (nI (rdT t m) &&& 31)) (oN (bst (may6 4 12 (nS t q m u) u (mmT t) (rdT t m)) (ld6 4 u (mmT t)) i)) (fwV (nI q) (ld6 4 u (mmT t)) (bst (may6 4 12 (nS t q m u) u (mmT t) (rdT t m)) (ld6 4 u (mmT t)) i)) (nI i) (nI (bI b1)) = f3_freeSetter_b23 n G L (nI m) k (nI 1 <<< (nI (rdT t m) &&& 31)) (oN (bst (may6 4 12 (nS t q m u) u (mmT t) (rdT t m)) (ld6 4 u (mmT t)) (i + 1))) (fwV (nI q) (ld6 4 u (mmT t)) (bst (may6 4 12 (nS t q m u) u (mmT t) (rdT t m)) (ld6 4 u (mmT t)) (i + 1))) (nI (i + 1)) := by
      intro b1 hb1
      unfold f3_freeSetter_b77
      simp (disch := omega) only [ald_nI, Option.bind_some]
      have hf := or_free (x := L.2 5 i) b7 hz
      simp only [g3 i hi] at hf ⊢
      have hmay : ∀ b2 : Bool, (mb (u (12 + i)) (rdT t m) && !(zUsed 4 u (mmT t) i (rdT t m))) = b2 → may6 4 12 (nS t q m u) u (mmT t) (rdT t m) i = (b1 && b2 && decide (ld6 4 u (mmT t) i < q)) := by
        intro b2 hb2
        unfold may6 nS
        rw [hb1, ← hb2]
        unfold zUsed ld6
        by_cases e : cn (hvP u 4 (nI i) (nI (rdT t m))) (mmT t) = 0 <;> by_cases e2 : cn (hvP u 4 (nI i) (-1)) (mmT t) < q <;> cases b1 <;> simp [e, e2]
      by_cases c : ((u (12 + i) ||| G.2 3 i) &&& (nI 1 <<< (nI (rdT t m) &&& 31))) = 0
      · rw [if_pos c]
        exact fs_104 (b2 := true) hi l2 hq.2.2 hmq (hmay true (hf.mp c)) hld
      · rw [if_neg c]
        exact fs_104 (b2 := false) hi l2 hq.2.2 hmq (hmay false (by rw [hf] at c; exact Bool.eq_false_iff.mpr c)) hld
    rw [f3_freeSetter_b23]
    simp (disch := omega) only [nI_le', k0]
    rw [if_neg (by omega), if_neg (by rw [← nI_0, nI_le' (by omega) (by omega)]; omega), nz_nI (by omega) (by omega), Option.bind_some, nI_mod (by omega) (by omega) (by omega)]
    unfold f3_freeSetter_b48
    simp (disch := omega) only [ald_nI, Option.bind_some, c1, c2, r1, r2, nI_inj]
    by_cases e1 : i % t = fsT t m
    · rw [if_pos e1]
      exact key false (by simp [e1])
    · rw [if_neg e1]
      by_cases e2 : i % t = scT t m
      · rw [if_pos e2]
        exact key false (by simp [e2])
      · rw [if_neg e2]
        exact key true (by simp only [Bool.and_eq_true, decide_eq_true_eq]; omega)
