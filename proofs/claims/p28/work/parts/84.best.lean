/-! PURE: the best place is never behind the one of now -/
section WN
variable {t a m j w : Nat} {s u : Nat → Int32}
theorem wn1_o (h : j ≠ 18 + 9 * m + 6 ∧ j ≠ 18 + 9 * m + 7 ∧ j ≠ 18 + 9 * m + 8) : wn1 t a s m j = s j := by
  unfold wn1
  split
  · split
    · exact gv_o h.1 h.2.1 h.2.2
    · split
      · exact gv_o h.1 h.2.1 h.2.2
      · rfl
  · rfl
theorem wn_k (h : ∀ m, j ≠ 18 + 9 * m + 6 ∧ j ≠ 18 + 9 * m + 7 ∧ j ≠ 18 + 9 * m + 8) : ∀ i, wnR t a s i j = s j
  | 0 => rfl
  | i + 1 => by
    rw [wnR_s, wn1_o (h i)]
    exact wn_k h i
theorem wn_ge (hw : w < 9) : ∀ i, i ≤ m → wnR t a s i (18 + 9 * m + w) = s (18 + 9 * m + w)
  | 0, _ => rfl
  | i + 1, h => by
    rw [wnR_s, wn1_o ⟨by omega, by omega, by omega⟩]
    exact wn_ge hw i (by omega)
theorem gv_cg {x y z : Int32} (h : u j = s j) : gv u m x y z j = gv s m x y z j := by
  unfold gv
  simp only [upd_e]
  rw [h]
theorem wn1_cg (h : ∀ w, w < 9 → u (18 + 9 * m + w) = s (18 + 9 * m + w)) (hw : w < 9) : wn1 t a u m (18 + 9 * m + w) = wn1 t a s m (18 + 9 * m + w) := by
  unfold wn1
  rw [h 6 (by omega)]
  by_cases c0 : s (18 + 9 * m + 6) = 0
  · rw [if_pos c0, if_pos c0]
    by_cases c1 : fsT t m = a
    · rw [if_pos c1, if_pos c1]; exact gv_cg (h w hw)
    · rw [if_neg c1, if_neg c1]
      by_cases c2 : scT t m = a
      · rw [if_pos c2, if_pos c2]; exact gv_cg (h w hw)
      · rw [if_neg c2, if_neg c2]; exact h w hw
  · rw [if_neg c0, if_neg c0]; exact h w hw
theorem wn_at (hw : w < 9) : ∀ i, m < i → wnR t a s i (18 + 9 * m + w) = wn1 t a s m (18 + 9 * m + w)
  | 0, h => absurd h (Nat.not_lt_zero m)
  | i + 1, h => by
    rw [wnR_s]
    by_cases e : m = i
    · rw [← e]
      exact wn1_cg (fun w hw => wn_ge hw m (Nat.le_refl m)) hw
    · rw [wn1_o ⟨by omega, by omega, by omega⟩]
      exact wn_at hw i (by omega)
/-- an open match of this team -/
def opA (t a : Nat) (s : Nat → Int32) : Nat → Bool := fun m => decide (s (18 + 9 * m + 6) = 0) && (decide (fsT t m = a) || decide (scT t m = a))
theorem wn1_no (h : opA t a s m = false) : wn1 t a s m = s := by
  unfold opA at h
  unfold wn1
  by_cases c : s (18 + 9 * m + 6) = 0
  · rw [decide_eq_true c, Bool.true_and, Bool.or_eq_false_iff, decide_eq_false_iff_not, decide_eq_false_iff_not] at h
    rw [if_pos c, if_neg h.1, if_neg h.2]
  · rw [if_neg c]
theorem wn_no {n : Nat} (h : ∀ m, m < n → opA t a s m = false) : ∀ i, i ≤ n → wnR t a s i = s
  | 0, _ => rfl
  | i + 1, hi => by
    rw [wnR_s, wn_no h i (by omega)]
    exact wn1_no (h i (by omega))
theorem ctr_w (x y : Int32) : (ctr (gv s m (nI 1) x y) 2 m 0 = (if y < x then nI 1 else nI 0) ∧ ctr (gv s m (nI 1) x y) 3 m 0 = (if x = y then nI 1 else nI 0) ∧ ctr (gv s m (nI 1) x y) 6 m 0 = nI 0) ∧ ctr (gv s m (nI 1) x y) 2 m 1 = (if x < y then nI 1 else nI 0) ∧ ctr (gv s m (nI 1) x y) 3 m 1 = (if y = x then nI 1 else nI 0) ∧ ctr (gv s m (nI 1) x y) 6 m 1 = nI 0 := by
  have e0 : scR (gv s m (nI 1) x y) m 0 = x := by
    unfold scR
    rw [gv_6, if_pos rfl]
    exact gv_7 _ _ _ _ _
  have e1 : scR (gv s m (nI 1) x y) m 1 = y := by
    unfold scR
    rw [gv_6, if_pos rfl]
    exact gv_8 _ _ _ _ _
  have z : ¬ gv s m (nI 1) x y (18 + 9 * m + 6) = 0 := by rw [gv_6]; decide
  refine ⟨⟨?_, ?_, ?_⟩, ?_, ?_, ?_⟩
  · unfold ctr
    rw [if_neg z]
    simp only [Nat.reduceEqDiff, if_false, if_true, Nat.reduceSub, e0, e1]
  · unfold ctr
    rw [if_neg z]
    simp only [Nat.reduceEqDiff, if_false, if_true, Nat.reduceSub, e0, e1]
  · unfold ctr
    rw [if_neg z, gv_6]
    simp only [Nat.reduceEqDiff, if_false, if_true]
    decide
  · unfold ctr
    rw [if_neg z]
    simp only [Nat.reduceEqDiff, if_false, if_true, Nat.reduceSub, e0, e1]
  · unfold ctr
    rw [if_neg z]
    simp only [Nat.reduceEqDiff, if_false, if_true, Nat.reduceSub, e0, e1]
  · unfold ctr
    rw [if_neg z, gv_6]
    simp only [Nat.reduceEqDiff, if_false, if_true]
    decide
theorem pC_w1 : pC (gv s m (nI 1) (nI 99) (nI 0)) m 0 = s 0 ∧ pC (gv s m (nI 1) (nI 99) (nI 0)) m 1 = nI 0 := by
  obtain ⟨⟨a1, a2, a3⟩, a4, a5, a6⟩ := ctr_w (s := s) (m := m) (nI 99) (nI 0)
  unfold pC
  rw [a1, a2, a3, a4, a5, a6, gv_o (j := 0) (by omega) (by omega) (by omega), gv_o (j := 1) (by omega) (by omega) (by omega), if_pos (by decide), if_neg (by decide), if_neg (by decide), if_neg (by decide), (pw _ _).1, (pw _ _).2.2, sub_0, sub_0]
  exact ⟨rfl, rfl⟩
theorem pC_w2 : pC (gv s m (nI 1) (nI 0) (nI 99)) m 0 = nI 0 ∧ pC (gv s m (nI 1) (nI 0) (nI 99)) m 1 = s 0 := by
  obtain ⟨⟨a1, a2, a3⟩, a4, a5, a6⟩ := ctr_w (s := s) (m := m) (nI 0) (nI 99)
  unfold pC
  rw [a1, a2, a3, a4, a5, a6, gv_o (j := 0) (by omega) (by omega) (by omega), gv_o (j := 1) (by omega) (by omega) (by omega), if_neg (show ¬ nI 99 < nI 0 by decide), if_neg (show ¬ nI 0 = nI 99 by decide), if_pos (show nI 0 < nI 99 by decide), if_neg (show ¬ nI 99 = nI 0 by decide), (pw _ _).1, (pw _ _).2.2, sub_0, sub_0]
  exact ⟨rfl, rfl⟩
theorem pC_wn {n σ : Nat} (hm : m < n) (hσ : σ < 2) : pC (wnR t a s n) m σ = pC (wn1 t a s m) m σ := by
  have k : ∀ j, j < 18 → wnR t a s n j = wn1 t a s m j := fun j hj => by rw [wn_k (fun _ => ⟨by omega, by omega, by omega⟩), wn1_o ⟨by omega, by omega, by omega⟩]
  have c : ∀ w, ctr (wnR t a s n) w m σ = ctr (wn1 t a s m) w m σ := fun w => ctr_cg (k 2 (by omega)) (wn_at (by omega) n hm) (wn_at (by omega) n hm) (wn_at (by omega) n hm) hσ
  unfold pC
  rw [c, c, c, k 0 (by omega), k 1 (by omega)]
theorem pC_0 {σ : Nat} (c0 : s (18 + 9 * m + 6) = 0) : pC s m σ = nI 0 := by
  have k : ∀ w, ctr s w m σ = if w = 8 then nI 1 else nI 0 := fun w => by unfold ctr; rw [if_pos c0]
  unfold pC
  rw [k, k, k, if_neg (by decide), if_neg (by decide), if_neg (by decide), (pw _ _).2.2, sub_0]
theorem z_add (x : Int32) : nI 0 + x = x := by rw [nI_0]; exact Int32.zero_add x
theorem pcR_wn {q τ : Nat} {L L' : OB} (R : RLr t q L s) (R' : RLr t q L' (wnR t a s (mmT t))) (hm : m < mmT t) (hτ : τ < t) : pcR (wnR t a s (mmT t)) τ m = pcR s τ m + (if τ = a then (if opA t a s m = true then s 0 else nI 0) else nI 0) := by
  rw [pcR_T R'.1 hm hτ, pcR_T R.1 hm hτ, pC_wn hm (by omega), pC_wn hm (by omega)]
  cases ho : opA t a s m with
  | false => rw [wn1_no ho, if_neg (show ¬ false = true by decide), ite_self, add_0]
  | true =>
    rw [if_pos rfl]
    unfold opA at ho
    rw [Bool.and_eq_true, Bool.or_eq_true, decide_eq_true_iff, decide_eq_true_iff, decide_eq_true_iff] at ho
    obtain ⟨c0, hs⟩ := ho
    rw [pC_0 (σ := 0) c0, pC_0 (σ := 1) c0]
    by_cases f : fsT t m = a
    · have w : wn1 t a s m = gv s m (nI 1) (nI 99) (nI 0) := by unfold wn1; rw [if_pos c0, if_pos f]
      rw [w, pC_w1.1, pC_w1.2, f]
      by_cases e : τ = a
      · simp only [if_pos e]
        rw [z_add]
      · simp only [if_neg e, ite_self, add_0]
    · have g := hs.resolve_left f
      have w : wn1 t a s m = gv s m (nI 1) (nI 0) (nI 99) := by unfold wn1; rw [if_pos c0, if_neg f, if_pos g]
      rw [w, pC_w2.1, pC_w2.2, g]
      by_cases e : τ = a
      · have e2 : ¬ τ = fsT t m := fun h => f (h.symm.trans e)
        simp only [if_neg e2, if_pos e]
        rw [z_add]
      · simp only [if_neg e, ite_self, add_0]
theorem sm_cst (x : Int32) (p : Nat → Bool) : ∀ n, sm (fun m => if p m = true then x else nI 0) n = x * nI (cn p n)
  | 0 => by
    show nI 0 = x * nI 0
    rw [nI_0]; exact Int32.mul_zero.symm
  | n + 1 => by
    rw [sm_s, sm_cst x p n, cn_s]
    by_cases c : p n = true
    · rw [if_pos c, if_pos c, ← nI_add, Int32.mul_add, n1_1, Int32.mul_one]
    · rw [if_neg c, if_neg c, add_0, Nat.add_zero]
theorem pt_wn {q τ : Nat} {L L' : OB} (R : RLr t q L s) (R' : RLr t q L' (wnR t a s (mmT t))) (hτ : τ < t) : ptR (wnR t a s (mmT t)) (mmT t) (nI τ) = ptR s (mmT t) (nI τ) + (if τ = a then s 0 * nI (cn (opA t a s) (mmT t)) else nI 0) := by
  rw [← pcR_sm, ← pcR_sm, sm_congr (fun m hm => pcR_wn R R' hm hτ), sm_add]
  congr 1
  by_cases e : τ = a
  · simp only [if_pos e]
    exact sm_cst _ _ _
  · simp only [if_neg e]
    exact sm_z _
theorem best_le {q : Nat} {L : OB} (I : IL t q L s) (ha : a < t) : PL (wnR t a s (mmT t)) t a ≤ PL s t a := by
  have hmm := I.mm
  obtain ⟨L', e, R'⟩ := winAll_ (n := 3000) I.1 ha (by omega)
  by_cases c : cn (opA t a s) (mmT t) = 0
  · rw [wn_no (n := mmT t) (fun m hm => cn_0.mp c m hm) _ (Nat.le_refl _)]
    exact Nat.le_refl _
  · unfold PL pz
    refine cn_mono fun k hk hp => ?_
    rw [Bool.and_eq_true, decide_eq_true_iff] at hp ⊢
    refine ⟨hp.1, ahb_iff.mpr (Or.inl ?_)⟩
    have h1 := ahb_iff.mp hp.2
    have e1 := pt_wn I.1 R' hk
    rw [if_neg hp.1, add_0] at e1
    have e2 := pt_wn I.1 R' ha
    rw [if_pos rfl] at e2
    have z1 : Pz (wnR t a s (mmT t)) (mmT t) k = Pz s (mmT t) k := by unfold Pz; rw [e1]
    obtain ⟨⟨p1, p2⟩, -⟩ := z_b I.2.1.1.1 I.2.1.1.2.2 hmm a
    obtain ⟨x, y, z, ⟨e0, x1, x5⟩, -⟩ := I.2.1.1.1
    have hc := cn_le (opA t a s) (mmT t)
    have m1 : x * cn (opA t a s) (mmT t) ≤ 5 * 28 := Nat.mul_le_mul x5 (by omega)
    have m2 : 0 < x * cn (opA t a s) (mmT t) := Nat.mul_pos (by omega) (by omega)
    rw [e0, pk_mul] at e2
    have t1 := ti_nI (k := x * cn (opA t a s) (mmT t)) (by omega)
    have t2 := ti_add (x := ptR s (mmT t) (nI a)) (y := nI (x * cn (opA t a s) (mmT t))) (by unfold Pz at p1; omega) (by unfold Pz at p2; omega) (by omega) (by omega)
    have z2 : Pz (wnR t a s (mmT t)) (mmT t) a = Pz s (mmT t) a + (x * cn (opA t a s) (mmT t) : Nat) := by
      unfold Pz
      rw [e2, t2, t1]
    omega
end WN
