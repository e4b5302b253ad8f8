/-! PURE: the reference's staging -/
def prT (t : Nat) : List (Nat × Nat × Nat) := (List.range (t - 1 + t % 2)).flatMap fun r => ((List.range ((t + t % 2) / 2)).map fun i => if i = 0 then (r, t - 1 + t % 2, r) else (r, (r + i) % (t - 1 + t % 2), (r + (t - 1 + t % 2) - i) % (t - 1 + t % 2))).filter fun q => decide (q.2.1 < t) && decide (q.2.2 < t)
def mmT (t : Nat) : Nat := (prT t).length
def rdT (t m : Nat) : Nat := ((prT t).getD m (0, 0, 0)).1
def fsT (t m : Nat) : Nat := ((prT t).getD m (0, 0, 0)).2.1
def scT (t m : Nat) : Nat := ((prT t).getD m (0, 0, 0)).2.2
def tbB : Bool := (List.range 9).all fun t => decide (t < 3) || (decide (mmT t ≤ 28) && (List.range (mmT t)).all fun m => decide (rdT t m < t - 1 + t % 2) && decide (fsT t m < t) && decide (scT t m < t) && decide (fsT t m ≠ scT t m))
theorem tbB_t : tbB = true := by decide +kernel
theorem tb_all {t : Nat} (h3 : 3 ≤ t) (h8 : t ≤ 8) : mmT t ≤ 28 ∧ ∀ m, m < mmT t → rdT t m < t - 1 + t % 2 ∧ fsT t m < t ∧ scT t m < t ∧ fsT t m ≠ scT t m := by
  have h := List.all_eq_true.mp tbB_t t (List.mem_range.mpr (by omega))
  rw [decide_eq_false (by omega), Bool.false_or, Bool.and_eq_true] at h
  refine ⟨of_decide_eq_true h.1, fun m hm => ?_⟩
  have h2 := List.all_eq_true.mp h.2 m (List.mem_range.mpr hm)
  simp only [Bool.and_eq_true, decide_eq_true_eq] at h2
  exact ⟨h2.1.1.1, h2.1.1.2, h2.1.2, h2.2⟩
theorem tb_mm {t : Nat} (h3 : 3 ≤ t) (h8 : t ≤ 8) : mmT t ≤ 28 := (tb_all h3 h8).1
theorem tb_m {t m : Nat} (h3 : 3 ≤ t) (h8 : t ≤ 8) (hm : m < mmT t) : rdT t m < t - 1 + t % 2 ∧ fsT t m < t ∧ scT t m < t ∧ fsT t m ≠ scT t m := (tb_all h3 h8).2 m hm
theorem tb_r {t m : Nat} (h3 : 3 ≤ t) (h8 : t ≤ 8) (hm : m < mmT t) : rdT t m < 7 := by have := (tb_m h3 h8 hm).1; omega
/-- what of a row stays through a staging -/
def FXR (t q : Nat) (s : Nat → Int32) : Prop := HG t (mmT t) s ∧ (s 3 = nI q ∧ 1 ≤ q ∧ q ≤ 28) ∧ ∀ m, m < mmT t → s (18 + 9 * m + 0) = nI (rdT t m) ∧ s (18 + 9 * m + 1) = nI (fsT t m) ∧ s (18 + 9 * m + 2) = nI (scT t m)
def up3 (s : Nat → Int32) (m : Nat) (v q y : Int32) : Nat → Int32 := upd (upd (upd s (18 + 9 * m + 3) v) (18 + 9 * m + 4) q) (18 + 9 * m + 5) y
theorem up3_o {s : Nat → Int32} {m j : Nat} {v q y : Int32} (h3 : j ≠ 18 + 9 * m + 3) (h4 : j ≠ 18 + 9 * m + 4) (h5 : j ≠ 18 + 9 * m + 5) : up3 s m v q y j = s j := by
  unfold up3
  rw [upd_n _ _ h5, upd_n _ _ h4, upd_n _ _ h3]
theorem up3_3 (s : Nat → Int32) (m : Nat) (v q y : Int32) : up3 s m v q y (18 + 9 * m + 3) = v := by
  unfold up3
  rw [upd_n _ _ (by omega), upd_n _ _ (by omega), upd_s]
theorem up3_4 (s : Nat → Int32) (m : Nat) (v q y : Int32) : up3 s m v q y (18 + 9 * m + 4) = q := by
  unfold up3
  rw [upd_n _ _ (by omega), upd_s]
theorem up3_5 (s : Nat → Int32) (m : Nat) (v q y : Int32) : up3 s m v q y (18 + 9 * m + 5) = y := by
  unfold up3
  rw [upd_s]
theorem fx_up {t qq : Nat} {s : Nat → Int32} (F : FXR t qq s) {m : Nat} {v q y : Int32} : FXR t qq (up3 s m v q y) := by
  obtain ⟨⟨h4, h5, h3, h8, hmm⟩, hq, hr⟩ := F
  refine ⟨⟨?_, ?_, h3, h8, hmm⟩, ⟨?_, hq.2⟩, fun k hk => ⟨?_, ?_, ?_⟩⟩
  · rw [up3_o (by omega) (by omega) (by omega)]; exact h4
  · rw [up3_o (by omega) (by omega) (by omega)]; exact h5
  · rw [up3_o (by omega) (by omega) (by omega)]; exact hq.1
  · rw [up3_o (by omega) (by omega) (by omega)]; exact (hr k hk).1
  · rw [up3_o (by omega) (by omega) (by omega)]; exact (hr k hk).2.1
  · rw [up3_o (by omega) (by omega) (by omega)]; exact (hr k hk).2.2
def clr1 (s : Nat → Int32) (m : Nat) : Nat → Int32 := if s (18 + 9 * m + 6) = 0 then up3 s m (-1) (-1) (nI 0) else s
def clrR (s : Nat → Int32) : Nat → Nat → Int32
  | 0 => s
  | m + 1 => clr1 (clrR s m) m
theorem clrR_s (s : Nat → Int32) (m : Nat) : clrR s (m + 1) = clr1 (clrR s m) m := rfl
theorem fx_clr1 {t q : Nat} {s : Nat → Int32} (F : FXR t q s) (m : Nat) : FXR t q (clr1 s m) := by
  unfold clr1
  split
  · exact fx_up F
  · exact F
theorem fx_clr {t q : Nat} {s : Nat → Int32} (F : FXR t q s) : ∀ m, FXR t q (clrR s m)
  | 0 => F
  | m + 1 => fx_clr1 (fx_clr F m) m
def nV (t m : Nat) : Nat → Bool := fun k => decide (fsT t m % 6 ≠ k) && decide (scT t m % 6 ≠ k)
def nS (t q m : Nat) (s : Nat → Int32) : Nat → Bool := fun k => decide (fsT t m ≠ k % t) && decide (scT t m ≠ k % t) && decide (cn (hvP s 4 (nI k) (-1)) (mmT t) < q)
def vnR (t : Nat) (s : Nat → Int32) (m : Nat) : Option Nat := bst (may6 3 6 (nV t m) s (mmT t) (rdT t m)) (ld6 3 s (mmT t)) 6
def stR (t q : Nat) (s : Nat → Int32) (m : Nat) : Option Nat := bst (may6 4 12 (nS t q m s) s (mmT t) (rdT t m)) (ld6 4 s (mmT t)) 6
def asg1 (t q : Nat) (s : Nat → Int32) (m : Nat) : Nat × (Nat → Int32) := if s (18 + 9 * m + 6) = 0 then (match vnR t s m with
    | none => (0, up3 s m (-1) (-1) (nI 1))
    | some v => match stR t q s m with
      | none => (0, up3 s m (-1) (-1) (nI 2))
      | some k => (1, up3 s m (nI v) (nI k) (nI 0))) else (0, s)
def asgR (t q : Nat) (s : Nat → Int32) : Nat → Nat × (Nat → Int32)
  | 0 => (0, s)
  | m + 1 => ((asgR t q s m).1 + (asg1 t q (asgR t q s m).2 m).1, (asg1 t q (asgR t q s m).2 m).2)
theorem asgR_s (t q : Nat) (s : Nat → Int32) (m : Nat) : asgR t q s (m + 1) = ((asgR t q s m).1 + (asg1 t q (asgR t q s m).2 m).1, (asg1 t q (asgR t q s m).2 m).2) := rfl
theorem fx_asg1 {t q : Nat} {s : Nat → Int32} (F : FXR t q s) (m : Nat) : FXR t q (asg1 t q s m).2 := by
  unfold asg1
  split
  · split
    · exact fx_up F
    · split
      · exact fx_up F
      · exact fx_up F
  · exact F
theorem fx_asg {t q : Nat} {s : Nat → Int32} (F : FXR t q s) : ∀ m, FXR t q (asgR t q s m).2
  | 0 => F
  | m + 1 => fx_asg1 (fx_asg F m) m
theorem asg1_le (t q : Nat) (s : Nat → Int32) (m : Nat) : (asg1 t q s m).1 ≤ 1 := by
  unfold asg1
  split
  · split
    · exact Nat.zero_le 1
    · split
      · exact Nat.zero_le 1
      · exact Nat.le_refl 1
  · exact Nat.zero_le 1
theorem asgR_le (t q : Nat) (s : Nat → Int32) : ∀ m, (asgR t q s m).1 ≤ m
  | 0 => Nat.le_refl 0
  | m + 1 => by
    have h1 := asgR_le t q s m
    have h2 := asg1_le t q (asgR t q s m).2 m
    rw [asgR_s]
    dsimp only
    omega
def stgR (t q : Nat) (s : Nat → Int32) : Nat × (Nat → Int32) := asgR t q (clrR s (mmT t)) (mmT t)
theorem stages_127 {n m c : Nat} {s : Nat → Int32} {v q : Int32} {K : Int32 → Int32 → (Nat → Int32) → Option (Int32 × (Nat → Int32))} (hm : m < 28) :
    f6_stages_b104 n K (nI c) (nI m) v q s = K (nI (c + (if q = -1 then 0 else 1))) (nI (m + 1)) (up3 s m (if q = -1 then -1 else v) q (nI (if v = -1 then 1 else if q = -1 then 2 else 0))) := by
  unfold f6_stages_b104 f6_stages_b127 f6_stages_b171
  simp (disch := omega) only [pk_mul, nI_add, ast_nI, Option.bind_some]
  by_cases hq : q = -1
  · simp only [hq, if_true]
    by_cases c1 : v = -1
    · simp only [c1, if_true]; rfl
    · simp only [c1, if_false]; rfl
  · simp only [hq, if_false]
    by_cases c1 : v = -1
    · simp only [c1, if_true]; rfl
    · simp only [c1, if_false]; rfl
theorem found_vT {t q n i : Nat} {u : Nat → Int32} (F : FXR t q u) (hn : 28 < n) (hi : i < mmT t) : f6_found n u (nI i) (nI 1) = some (oN (vnR t u i)) := by
  obtain ⟨H, hq, hr⟩ := F
  have hmm : mmT t ≤ 28 := H.2.2.2.2
  have h8 := H.2.2.2.1
  obtain ⟨r0, r1, r2⟩ := hr i hi
  obtain ⟨b0, b1, b2, b3⟩ := tb_m H.2.2.1 h8 hi
  exact found_v H (by omega) (by omega) (by omega) r0 r1 r2 (by omega) (by omega)
theorem found_sT {t q n i : Nat} {u : Nat → Int32} (F : FXR t q u) (hn : 28 < n) (hi : i < mmT t) : f6_found n u (nI i) (nI 0) = some (oN (stR t q u i)) := by
  obtain ⟨H, hq, hr⟩ := F
  have hmm : mmT t ≤ 28 := H.2.2.2.2
  have h8 := H.2.2.2.1
  obtain ⟨r0, r1, r2⟩ := hr i hi
  obtain ⟨b0, b1, b2, b3⟩ := tb_m H.2.2.1 h8 hi
  exact found_s H (by omega) (by omega) (by omega) r0 r1 r2 (by omega) (by omega) hq.1 hq.2.2
theorem oN_m1 {o : Option Nat} {b : Nat} (hb : o = some b) (h : b < 2147483648) : ¬ oN o = -1 := by rw [hb]; exact nI_m1 h
theorem stages_ {t q n : Nat} {s : Nat → Int32} (F : FXR t q s) (hn : 28 < n) : f6_stages n s = some (nI (stgR t q s).1, (stgR t q s).2) := by
  have hmm : mmT t ≤ 28 := F.1.2.2.2.2
  have h3 := F.1.2.2.1
  have h8 := F.1.2.2.2.1
  unfold f6_stages
  refine loop_S (F := fun k p => f6_stages_b2 n (fun oR => f6_stages_b61 n oR) k p.1 p.2) (S := fun i => (nI i, clrR s i)) (N := mmT t) ?_ ?_ n (by omega)
  · intro k
    dsimp only
    have F1 := fx_clr F (mmT t)
    rw [f6_stages_b2]
    simp (disch := omega) only [ald_nI, Option.bind_some, F1.1.2.1, nI_le', Nat.le_refl, if_true]
    unfold f6_stages_b61
    refine loop_S (F := fun k p => f6_stages_b65 n k p.1 p.2.1 p.2.2) (S := fun i => (nI (asgR t q (clrR s (mmT t)) i).1, nI i, (asgR t q (clrR s (mmT t)) i).2)) (N := mmT t) ?_ ?_ n (by omega)
    · intro k
      dsimp only
      have F2 := fx_asg F1 (mmT t)
      rw [f6_stages_b65]
      simp (disch := omega) only [ald_nI, Option.bind_some, F2.1.2.1, nI_le', Nat.le_refl, if_true]
      rfl
    · intro k i hi
      dsimp only
      have F2 := fx_asg F1 i
      rw [asgR_s]
      generalize asgR t q (clrR s (mmT t)) i = p at F2 ⊢
      obtain ⟨c, u⟩ := p
      dsimp only at F2 ⊢
      rw [f6_stages_b65]
      simp (disch := omega) only [ald_nI, Option.bind_some, F2.1.2.1, nI_le', of_]
      rw [if_neg (by omega)]
      unfold asg1
      by_cases c0 : u (18 + 9 * i + 6) = 0
      · rw [if_pos c0, if_pos c0, found_vT F2 hn hi, Option.bind_some, found_sT F2 hn hi, Option.bind_some, stages_127 (by omega), stages_127 (by omega)]
        cases hv : vnR t u i with
        | none => rfl
        | some v =>
          have hv6 := (bst_lt hv).1
          rw [if_neg (show ¬ oN (some v) = -1 from nI_m1 (by omega))]
          cases hk : stR t q u i with
          | none =>
            simp only [if_neg (show ¬ oN (some v) = -1 from nI_m1 (by omega)), if_pos (show oN none = -1 from rfl)]
            rfl
          | some k2 =>
            have hk6 := (bst_lt hk).1
            simp only [if_neg (show ¬ oN (some v) = -1 from nI_m1 (by omega)), if_neg (show ¬ oN (some k2) = -1 from nI_m1 (by omega))]
            rfl
      · rw [if_neg c0, if_neg c0, nI_add]
        rfl
  · intro k i hi
    dsimp only
    have F1 := fx_clr F i
    rw [clrR_s]
    generalize clrR s i = u at F1 ⊢
    obtain ⟨H, hq, hr⟩ := F1
    rw [f6_stages_b2]
    simp (disch := omega) only [ald_nI, Option.bind_some, H.2.1, nI_le', of_]
    rw [if_neg (by omega)]
    unfold clr1
    by_cases c0 : u (18 + 9 * i + 6) = 0
    · rw [if_pos c0, if_pos c0]
      simp (disch := omega) only [pk_mul, nI_add, ast_nI, Option.bind_some]
      rfl
    · rw [if_neg c0, if_neg c0, nI_add]
