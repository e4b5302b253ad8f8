/-! PURE: the numbers -/
theorem cn_not (p : Nat → Bool) : ∀ n, cn p n + cn (fun m => !p m) n = n
  | 0 => rfl
  | n + 1 => by
    have ih := cn_not p n
    rw [cn_s, cn_s]
    cases h : p n <;> simp <;> omega
theorem sm_bI (p : Nat → Bool) : ∀ n, sm (fun m => nI (bI (p m))) n = nI (cn p n)
  | 0 => rfl
  | n + 1 => by
    rw [sm_s, cn_s, sm_bI p n, nI_add]
    rfl
def vnP (s : Nat → Int32) : Nat → Bool := fun m => !hvP s 3 (-1) (-1) m
theorem withVenue_ {t q n : Nat} {L : OB} {s : Nat → Int32} (R : RLc t q L s) (hn : 28 < n) : f1_withVenue n L = some (nI (cn (vnP s) (mmT t))) := by
  have hmm : mmT t ≤ 28 := R.1.1.2.2.2.2
  unfold f1_withVenue
  refine loop_S (F := fun k p => f1_withVenue_b4 n L k p.1 p.2) (S := fun i => (nI (cn (vnP s) i), nI i)) (N := mmT t) ?_ ?_ n (by omega)
  · intro k
    dsimp only
    rw [f1_withVenue_b4, R.2.1.2.2, if_pos (by rw [nI_le' (by omega) (by omega)]; exact Nat.le_refl _)]
  · intro k i hi
    dsimp only
    obtain ⟨-, ⟨c9, -⟩, -⟩ := R.2.2.2 i hi
    rw [f1_withVenue_b4, R.2.1.2.2]
    simp (disch := omega) only [ald_nI, Option.bind_some, c9, nI_le', nI_add, cn_s]
    rw [if_neg (by omega)]
    unfold vnP hvP
    by_cases c : s (18 + 9 * i + 3) = -1
    · simp [c]
    · simp [c]
theorem withVenueM_ {t n : Nat} {s : Nat → Int32} (H : HG t (mmT t) s) (hn : 28 < n) : (f6_having n s (nI 3) (-1) (-1)) = some (nI (cn (hvP s 3 (-1) (-1)) (mmT t))) ∧ nI (mmT t) - nI (cn (hvP s 3 (-1) (-1)) (mmT t)) = nI (cn (vnP s) (mmT t)) := by
  have h := cn_not (hvP s 3 (-1) (-1)) (mmT t)
  have hmm := H.2.2.2.2
  refine ⟨having_ H (by omega) (by omega), ?_⟩
  rw [pk_sub (cn_le _ _)]
  congr 1
  unfold vnP
  omega
def rsP (s : Nat → Int32) : Nat → Bool := fun m => decide (¬ s (18 + 9 * m + 6) = 0)
theorem withResult_ {t q n : Nat} {L : OB} {s : Nat → Int32} (R : RLc t q L s) (hn : 28 < n) : f1_withResult n L = some (nI (cn (rsP s) (mmT t))) := by
  have hmm : mmT t ≤ 28 := R.1.1.2.2.2.2
  unfold f1_withResult
  refine loop_S (F := fun k p => f1_withResult_b4 n L k p.1 p.2) (S := fun i => (nI (cn (rsP s) i), nI i)) (N := mmT t) ?_ ?_ n (by omega)
  · intro k
    dsimp only
    rw [f1_withResult_b4, R.2.1.2.2, if_pos (by rw [nI_le' (by omega) (by omega)]; exact Nat.le_refl _)]
  · intro k i hi
    dsimp only
    obtain ⟨-, -, c12, -⟩ := R.2.2.2 i hi
    rw [f1_withResult_b4, R.2.1.2.2]
    simp (disch := omega) only [ald_nI, Option.bind_some, c12, nI_le', nI_add, cn_s]
    rw [if_neg (by omega)]
    unfold rsP
    by_cases c : s (18 + 9 * i + 6) = 0
    · simp [c]
    · simp [c]
theorem withResultM_ {t n : Nat} {M : OB} {s : Nat → Int32} (hM : M.2 0 = s) (H : HG t (mmT t) s) (hn : 28 < n) : f6_withResult n M = some (nI (cn (rsP s) (mmT t))) := by
  obtain ⟨h4, h5, h3, h8, hmm⟩ := H
  unfold f6_withResult
  refine loop_S (F := fun k p => f6_withResult_b4 n M k p.1 p.2) (S := fun i => (nI (cn (rsP s) i), nI i)) (N := mmT t) ?_ ?_ n (by omega)
  · intro k
    dsimp only
    rw [f6_withResult_b4, hM]
    simp (disch := omega) only [ald_nI, Option.bind_some, h5, nI_le', Nat.le_refl, if_true]
  · intro k i hi
    dsimp only
    rw [f6_withResult_b4, hM]
    simp (disch := omega) only [ald_nI, Option.bind_some, h5, nI_le', of_, nI_add, cn_s]
    rw [if_neg (by omega)]
    unfold rsP
    by_cases c : s (18 + 9 * i + 6) = 0
    · simp [c]
    · simp [c]
def woP (s : Nat → Int32) : Nat → Bool := fun m => decide (s (18 + 9 * m + 6) = nI 2) || decide (s (18 + 9 * m + 6) = nI 3)
theorem walkovers_ {t q n : Nat} {L : OB} {s : Nat → Int32} (R : RLc t q L s) (hn : 28 < n) : f1_walkovers n L = some (nI (cn (woP s) (mmT t))) := by
  have hmm : mmT t ≤ 28 := R.1.1.2.2.2.2
  unfold f1_walkovers
  refine loop_S (F := fun k p => f1_walkovers_b4 n L k p.1 p.2) (S := fun i => (nI (cn (woP s) i), nI i)) (N := mmT t) ?_ ?_ n (by omega)
  · intro k
    dsimp only
    rw [f1_walkovers_b4, R.2.1.2.2, if_pos (by rw [nI_le' (by omega) (by omega)]; exact Nat.le_refl _)]
  · intro k i hi
    dsimp only
    obtain ⟨-, -, c12, -⟩ := R.2.2.2 i hi
    rw [f1_walkovers_b4, R.2.1.2.2]
    simp (disch := omega) only [ald_nI, Option.bind_some, c12, nI_le', nI_add, cn_s]
    rw [if_neg (by omega)]
    unfold woP
    by_cases c : s (18 + 9 * i + 6) = nI 2
    · rw [if_pos c, decide_eq_true c]; rfl
    · rw [if_neg c, decide_eq_false c, Bool.false_or]
      by_cases c2 : s (18 + 9 * i + 6) = nI 3
      · rw [if_pos c2, decide_eq_true c2]; rfl
      · rw [if_neg c2, decide_eq_false c2]; rfl
theorem sm_z : ∀ n, sm (fun _ => nI 0) n = nI 0
  | 0 => rfl
  | n + 1 => by rw [sm_s, sm_z n, add_0]
theorem sm_swap (f : Nat → Nat → Int32) (n : Nat) : ∀ t, sm (fun τ => sm (f τ) n) t = sm (fun m => sm (fun τ => f τ m) t) n
  | 0 => (sm_z n).symm
  | t + 1 => by
    rw [sm_s, sm_swap f n t, ← sm_add]
    rfl
theorem sm_one {a : Nat} {x : Int32} : ∀ {t : Nat}, sm (fun τ => if a = τ then x else nI 0) t = if a < t then x else nI 0
  | 0 => by rw [if_neg (Nat.not_lt_zero a)]; rfl
  | t + 1 => by
    rw [sm_s, sm_one (t := t)]
    by_cases e : a = t
    · rw [if_neg (by omega), if_pos e, if_pos (by omega), nI_0]
      grind
    · rw [if_neg e, add_0]
      by_cases e2 : a < t
      · rw [if_pos e2, if_pos (by omega)]
      · rw [if_neg e2, if_neg (by omega)]
theorem sm_two {a b : Nat} {x y : Int32} {t : Nat} (ha : a < t) (hb : b < t) (h : a ≠ b) : sm (fun τ => if a = τ then x else if b = τ then y else nI 0) t = x + y := by
  have e1 := sm_one (a := a) (x := x) (t := t)
  have e2 := sm_one (a := b) (x := y) (t := t)
  rw [if_pos ha] at e1
  rw [if_pos hb] at e2
  have e3 : x + y = sm (fun τ => if a = τ then x else nI 0) t + sm (fun τ => if b = τ then y else nI 0) t := by rw [e1, e2]
  rw [e3, ← sm_add]
  refine sm_congr fun k hk => ?_
  by_cases e : a = k
  · rw [if_pos e, if_pos e, if_neg (by omega), add_0]
  · rw [if_neg e, if_neg e]
    by_cases e2 : b = k
    · rw [if_pos e2, nI_0]; grind
    · rw [if_neg e2, add_0]
theorem ctr_6 (s : Nat → Int32) (m : Nat) : ctr s 6 m 0 + ctr s 6 m 1 = nI (bI (woP s m)) := by
  unfold ctr woP
  by_cases c0 : s (18 + 9 * m + 6) = 0
  · rw [if_pos c0, if_pos c0, c0]
    decide
  · rw [if_neg c0, if_neg c0]
    simp only [Nat.reduceEqDiff, if_false, if_true, Nat.reduceAdd, Nat.add_zero]
    by_cases c2 : s (18 + 9 * m + 6) = nI 2
    · rw [c2]; decide
    · rw [if_neg c2, decide_eq_false c2, Bool.false_or]
      by_cases c3 : s (18 + 9 * m + 6) = nI 3
      · rw [c3]; decide
      · rw [if_neg c3, decide_eq_false c3]; decide
theorem over6_ {t : Nat} {s : Nat → Int32} (h3 : 3 ≤ t) (h8 : t ≤ 8) (M : TMS t s) : sm (fun τ => ofT s t τ 6) t = nI (cn (woP s) (mmT t)) := by
  show sm (fun τ => sm (cR s (nI τ) 6) (mmT t)) t = _
  rw [sm_swap (fun τ => cR s (nI τ) 6), ← sm_bI]
  refine sm_congr fun m hm => ?_
  obtain ⟨b0, b1, b2, b3⟩ := tb_m h3 h8 hm
  rw [sm_congr (fun τ hτ => cR_in h3 h8 M hm hτ), sm_two b1 b2 b3, ctr_6]
def mxN (f : Nat → Nat) : Nat → Nat
  | 0 => 0
  | n + 1 => if mxN f n < f n then f n else mxN f n
theorem mxN_s (f : Nat → Nat) (n : Nat) : mxN f (n + 1) = if mxN f n < f n then f n else mxN f n := rfl
theorem mxN_le {f : Nat → Nat} {B : Nat} (h : ∀ k, f k ≤ B) : ∀ n, mxN f n ≤ B
  | 0 => Nat.zero_le B
  | n + 1 => by
    rw [mxN_s]
    split
    · exact h n
    · exact mxN_le h n
theorem mostM_ {t n w : Nat} {M : OB} {s : Nat → Int32} (hM : M.2 0 = s) (H : HG t (mmT t) s) (hw : w < 9) (hn : 28 < n) : f6_most n M (nI w) = some (nI (mxN (ld6 w s (mmT t)) 6)) := by
  have hmm := H.2.2.2.2
  have hb : ∀ k, ld6 w s (mmT t) k ≤ 28 := fun k => Nat.le_trans (cn_le _ _) hmm
  unfold f6_most
  refine loop_S (F := fun k p => f6_most_b4 n M (nI w) k p.1 p.2) (S := fun i => (nI (mxN (ld6 w s (mmT t)) i), nI i)) (N := 6) ?_ ?_ n (by omega)
  · intro k
    dsimp only
    rw [f6_most_b4, if_pos (by decide)]
  · intro k i hi
    dsimp only
    have h1 := hb i
    have h2 := mxN_le hb i
    rw [f6_most_b4, hM, having_ H hw (by omega), Option.bind_some, if_neg (by rw [nI_le' (by omega) (by omega)]; omega), mxN_s]
    show (if nI (ld6 w s (mmT t) i) ≤ _ then _ else f6_most_b4 n M (nI w) k (nI (ld6 w s (mmT t) i)) _) = _
    simp (disch := omega) only [nI_le', nI_add]
    by_cases c : mxN (ld6 w s (mmT t)) i < ld6 w s (mmT t) i
    · rw [if_neg (by omega), if_pos c]
    · rw [if_pos (by omega), if_neg c]
theorem mostV_ {t q n : Nat} {L : OB} {s : Nat → Int32} (R : RLc t q L s) (hn : 28 < n) : f1_mostOften_v n L (nI 6) = some (nI (mxN (ld6 3 s (mmT t)) 6)) := by
  have hmm : mmT t ≤ 28 := R.1.1.2.2.2.2
  have hb : ∀ k, ld6 3 s (mmT t) k ≤ 28 := fun k => Nat.le_trans (cn_le _ _) hmm
  unfold f1_mostOften_v
  refine loop_S (F := fun k p => f1_mostOften_v_b5 n L (nI 6) k p.1 p.2) (S := fun i => (nI (mxN (ld6 3 s (mmT t)) i), nI i)) (N := 6) ?_ ?_ n (by omega)
  · intro k
    dsimp only
    rw [f1_mostOften_v_b5, if_pos (by decide)]
  · intro k i hi
    dsimp only
    have h1 := hb i
    have h2 := mxN_le hb i
    rw [f1_mostOften_v_b5, if_neg (by rw [nI_le' (by omega) (by omega)]; omega)]
    refine loop_S (F := fun k' p => f1_mostOften_v_b17 n L (nI 6) (fun v3 v4 v5 => f1_mostOften_v_b51 n L (nI 6) (f1_mostOften_v_b5 n L (nI 6) k) v3 v4 v5) k' p.1 p.2.1 p.2.2.1 p.2.2.2) (S := fun j => (nI (mxN (ld6 3 s (mmT t)) i), nI i, nI (cn (hvP s 3 (nI i) (-1)) j), nI j)) (N := mmT t) ?_ ?_ n (by omega)
    · intro k'
      dsimp only
      rw [f1_mostOften_v_b17, R.2.1.2.2, if_pos (by rw [nI_le' (by omega) (by omega)]; exact Nat.le_refl _)]
      unfold f1_mostOften_v_b51
      rw [Option.bind_some, mxN_s, nI_add]
      show f1_mostOften_v_b5 n L (nI 6) k (if _ < nI (ld6 3 s (mmT t) i) then nI (ld6 3 s (mmT t) i) else _) _ = _
      simp (disch := omega) only [nI_lt']
      by_cases c : mxN (ld6 3 s (mmT t)) i < ld6 3 s (mmT t) i
      · rw [if_pos c, if_pos c]
      · rw [if_neg c, if_neg c]
    · intro k' j hj
      dsimp only
      obtain ⟨-, ⟨c9, -⟩, -⟩ := R.2.2.2 j hj
      rw [f1_mostOften_v_b17, R.2.1.2.2]
      simp (disch := omega) only [ald_nI, Option.bind_some, c9, nI_le', nI_add, cn_s]
      rw [if_neg (by omega), if_neg (by omega)]
      unfold hvP
      by_cases c : s (18 + 9 * j + 3) = nI i
      · rw [if_pos c, decide_eq_true c]; rfl
      · rw [if_neg c, decide_eq_false c]; rfl
theorem mostS_ {t q n : Nat} {L : OB} {s : Nat → Int32} (R : RLc t q L s) (hn : 28 < n) : f1_mostOften_s n L (nI 6) = some (nI (mxN (ld6 4 s (mmT t)) 6)) := by
  have hmm : mmT t ≤ 28 := R.1.1.2.2.2.2
  have hb : ∀ k, ld6 4 s (mmT t) k ≤ 28 := fun k => Nat.le_trans (cn_le _ _) hmm
  unfold f1_mostOften_s
  refine loop_S (F := fun k p => f1_mostOften_s_b5 n L (nI 6) k p.1 p.2) (S := fun i => (nI (mxN (ld6 4 s (mmT t)) i), nI i)) (N := 6) ?_ ?_ n (by omega)
  · intro k
    dsimp only
    rw [f1_mostOften_s_b5, if_pos (by decide)]
  · intro k i hi
    dsimp only
    have h1 := hb i
    have h2 := mxN_le hb i
    rw [f1_mostOften_s_b5, if_neg (by rw [nI_le' (by omega) (by omega)]; omega)]
    refine loop_S (F := fun k' p => f1_mostOften_s_b17 n L (nI 6) (fun v3 v4 v5 => f1_mostOften_s_b51 n L (nI 6) (f1_mostOften_s_b5 n L (nI 6) k) v3 v4 v5) k' p.1 p.2.1 p.2.2.1 p.2.2.2) (S := fun j => (nI (mxN (ld6 4 s (mmT t)) i), nI i, nI (cn (hvP s 4 (nI i) (-1)) j), nI j)) (N := mmT t) ?_ ?_ n (by omega)
    · intro k'
      dsimp only
      rw [f1_mostOften_s_b17, R.2.1.2.2, if_pos (by rw [nI_le' (by omega) (by omega)]; exact Nat.le_refl _)]
      unfold f1_mostOften_s_b51
      rw [Option.bind_some, mxN_s, nI_add]
      show f1_mostOften_s_b5 n L (nI 6) k (if _ < nI (ld6 4 s (mmT t) i) then nI (ld6 4 s (mmT t) i) else _) _ = _
      simp (disch := omega) only [nI_lt']
      by_cases c : mxN (ld6 4 s (mmT t)) i < ld6 4 s (mmT t) i
      · rw [if_pos c, if_pos c]
      · rw [if_neg c, if_neg c]
    · intro k' j hj
      dsimp only
      obtain ⟨-, ⟨-, c10⟩, -⟩ := R.2.2.2 j hj
      rw [f1_mostOften_s_b17, R.2.1.2.2]
      simp (disch := omega) only [ald_nI, Option.bind_some, c10, nI_le', nI_add, cn_s]
      rw [if_neg (by omega), if_neg (by omega)]
      unfold hvP
      by_cases c : s (18 + 9 * j + 4) = nI i
      · rw [if_pos c, decide_eq_true c]; rfl
      · rw [if_neg c, decide_eq_false c]; rfl
def cnV (s : Nat → Int32) (t kept w : Nat) : Int32 := if w = 0 then nI t else if w = 1 then nI (t - 1 + t % 2) else if w = 2 then nI (mmT t) else if w = 3 then nI (cn (vnP s) (mmT t)) else if w = 4 then nI (cn (rsP s) (mmT t)) else if w = 5 then nI (cn (woP s) (mmT t)) else if w = 6 then sm (fun τ => ofT s t τ 0) t else if w = 7 then nI (mxN (ld6 4 s (mmT t)) 6) else if w = 8 then nI (mxN (ld6 3 s (mmT t)) 6) else nI kept
theorem counted_ {t n kept w : Nat} {S M : OB} {s : Nat → Int32} (hM : M.2 0 = s) (hk : M.1 3 = nI kept) (H : HG t (mmT t) s) (T : TBL S t s) (TM : TMS t s) (hw : w < 10) (hn : 28 < n) : f6_counted n M (nI w) = some (cnV s t kept w) := by
  have h8 := T.2.2.2.2
  have h3 := T.2.2.2.1
  have hv := withVenueM_ H hn
  unfold f6_counted cnV
  rw [hM, withResultM_ hM H hn, overTeams_ hM H T (by omega) hn, overTeams_ hM H T (by omega) hn, mostM_ hM H (by omega) hn, mostM_ hM H (by omega) hn, over6_ h3 h8 TM, rounds_ H, hv.1, hk, ← hv.2]
  simp (disch := omega) only [ald_nI, Option.bind_some, nI_inj, H.1, H.2.1]
  have e9 : w = 0 ∨ w = 1 ∨ w = 2 ∨ w = 3 ∨ w = 4 ∨ w = 5 ∨ w = 6 ∨ w = 7 ∨ w = 8 ∨ w = 9 := by omega
  rcases e9 with rfl | rfl | rfl | rfl | rfl | rfl | rfl | rfl | rfl | rfl <;> rfl
theorem number_ {t q n kept w : Nat} {S G L U V B : OB} {X : HS} {s : Nat → Int32} (R : RLc t q L s) (hk : X.1 = nI kept) (T : TBL S t s) (hw : w < 10) (hn : 28 < n) : f5_number n S G L U V B X (nI w) = some (cnV s t kept w) := by
  unfold f5_number cnV
  rw [withVenue_ R hn, withResult_ R hn, walkovers_ R hn, allPoints_ T hn, mostS_ R hn, mostV_ R hn, hk, R.2.1.1, R.2.1.2.1, R.2.1.2.2]
  simp (disch := omega) only [Option.bind_some, nI_inj]
  have e9 : w = 0 ∨ w = 1 ∨ w = 2 ∨ w = 3 ∨ w = 4 ∨ w = 5 ∨ w = 6 ∨ w = 7 ∨ w = 8 ∨ w = 9 := by omega
  rcases e9 with rfl | rfl | rfl | rfl | rfl | rfl | rfl | rfl | rfl | rfl <;> rfl
