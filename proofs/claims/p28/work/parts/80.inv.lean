/-! PURE: what holds of the class alone -/
/-- a match has neither, or a neutral venue and a setter of another team, and no reason -/
def NVm (t m : Nat) (s : Nat → Int32) : Prop := (s (18 + 9 * m + 3) = -1 ∧ s (18 + 9 * m + 4) = -1) ∨ ∃ v k, (v < 6 ∧ k < 6) ∧ (s (18 + 9 * m + 3) = nI v ∧ s (18 + 9 * m + 4) = nI k ∧ s (18 + 9 * m + 5) = nI 0) ∧ nV t m v = true ∧ fsT t m ≠ k % t ∧ scT t m ≠ k % t
def NV (t : Nat) (s : Nat → Int32) : Prop := ∀ m, m < mmT t → NVm t m s
theorem NV.congr {t : Nat} {s s' : Nat → Int32} (W : NV t s) (h : ∀ m, m < mmT t → s' (18 + 9 * m + 3) = s (18 + 9 * m + 3) ∧ s' (18 + 9 * m + 4) = s (18 + 9 * m + 4) ∧ s' (18 + 9 * m + 5) = s (18 + 9 * m + 5)) : NV t s' := by
  intro m hm
  obtain ⟨e3, e4, e5⟩ := h m hm
  have w := W m hm
  unfold NVm at w ⊢
  rw [e3, e4, e5]
  exact w
theorem NV.gv {t m : Nat} {s : Nat → Int32} {x y z : Int32} (W : NV t s) : NV t (gv s m x y z) := W.congr fun k _ => ⟨gv_o (by omega) (by omega) (by omega), gv_o (by omega) (by omega) (by omega), gv_o (by omega) (by omega) (by omega)⟩
theorem NV.low {t j : Nat} {s : Nat → Int32} {v : Int32} (W : NV t s) (h18 : j < 18) : NV t (upd s j v) := W.congr fun k _ => ⟨upd_n _ _ (by omega), upd_n _ _ (by omega), upd_n _ _ (by omega)⟩
theorem nv_up {t i : Nat} {u : Nat → Int32} {v k y : Int32} (W : NV t u) (h : (v = -1 ∧ k = -1) ∨ ∃ a b, (a < 6 ∧ b < 6) ∧ (v = nI a ∧ k = nI b ∧ y = nI 0) ∧ nV t i a = true ∧ fsT t i ≠ b % t ∧ scT t i ≠ b % t) : NV t (up3 u i v k y) := by
  intro m hm
  by_cases e : m = i
  · subst e
    unfold NVm
    rw [up3_3, up3_4, up3_5]
    exact h
  · have w := W m hm
    unfold NVm at w ⊢
    rw [up3_o (j := 18 + 9 * m + 3) (by omega) (by omega) (by omega), up3_o (j := 18 + 9 * m + 4) (by omega) (by omega) (by omega), up3_o (j := 18 + 9 * m + 5) (by omega) (by omega) (by omega)]
    exact w
theorem nv_clr {t : Nat} {s : Nat → Int32} (W : NV t s) : ∀ i, NV t (clrR s i)
  | 0 => W
  | i + 1 => by
    rw [clrR_s]
    unfold clr1
    split
    · exact nv_up (nv_clr W i) (Or.inl ⟨rfl, rfl⟩)
    · exact nv_clr W i
theorem nv_asg {t q : Nat} {s : Nat → Int32} (W : NV t s) : ∀ i, NV t (asgR t q s i).2
  | 0 => W
  | i + 1 => by
    have ih := nv_asg (q := q) W i
    rw [asgR_s]
    generalize (asgR t q s i).2 = u at ih ⊢
    show NV t (asg1 t q u i).2
    unfold asg1
    split
    · cases hv : vnR t u i with
      | none => exact nv_up ih (Or.inl ⟨rfl, rfl⟩)
      | some v =>
        cases hk : stR t q u i with
        | none => exact nv_up ih (Or.inl ⟨rfl, rfl⟩)
        | some k =>
          obtain ⟨v6, w1⟩ := bst_lt hv
          obtain ⟨k6, w2⟩ := bst_lt hk
          unfold may6 at w1 w2
          rw [Bool.and_eq_true, Bool.and_eq_true] at w1 w2
          have w3 := w2.1.1
          unfold nS at w3
          rw [Bool.and_eq_true, Bool.and_eq_true, decide_eq_true_eq, decide_eq_true_eq] at w3
          exact nv_up ih (Or.inr ⟨v, k, ⟨v6, k6⟩, ⟨rfl, rfl, rfl⟩, w1.1.1, w3.1.1, w3.1.2⟩)
    · exact ih
theorem NV.stg {t q : Nat} {s : Nat → Int32} (W : NV t s) : NV t (stgR t q s).2 := nv_asg (nv_clr W _) _
/-- the masks of venues and setters -/
def MK (s : Nat → Int32) : Prop := ∀ j, j < 12 → ∃ y, y ≤ 127 ∧ s (6 + j) = nI y
theorem MK.congr {s s' : Nat → Int32} (W : MK s) (h : ∀ j, j < 12 → s' (6 + j) = s (6 + j)) : MK s' := fun j hj => by
  rw [h j hj]; exact W j hj
theorem MK.gv {m : Nat} {s : Nat → Int32} {x y z : Int32} (W : MK s) : MK (gv s m x y z) := W.congr fun j hj => gv_o (by omega) (by omega) (by omega)
theorem MK.set {k : Nat} {s : Nat → Int32} {v : Int32} (W : MK s) (hk : k < 6) : MK (upd s k v) := W.congr fun j hj => upd_n _ _ (by omega)
theorem MK.mask {k y : Nat} {s : Nat → Int32} (W : MK s) (hy : y ≤ 127) : MK (upd s (6 + k) (nI y)) := fun j hj => by
  rw [upd_e]
  by_cases e : 6 + j = 6 + k
  · rw [if_pos e]; exact ⟨y, hy, rfl⟩
  · rw [if_neg e]; exact W j hj
theorem MK.stg {t q : Nat} {s : Nat → Int32} (W : MK s) : MK (stgR t q s).2 := W.congr fun j hj => stg_k fun m _ => by omega
/-- a league, as its row says -/
def IL (t q : Nat) (L : OB) (s : Nat → Int32) : Prop := RLr t q L s ∧ GR t s ∧ NV t s ∧ MK s
def LX (L : OB) : Prop := ∃ t q s, IL t q L s
def PX (X : HS) : Prop := ∃ j, X.1 = nI j ∧ j ≤ 6 ∧ ∀ i, i < j → LX (X.2.2 i)
theorem LX.cpy {L V : OB} (h : LX L) (C : CPY V L) : LX V := by
  obtain ⟨t, q, s, R, g, v⟩ := h
  exact ⟨t, q, s, R.cpy C, g, v⟩
theorem putX {j : Nat} {L : OB} {X : HS} (hL : LX L) (h1 : X.1 = nI j) (hj : j < 6) (hP : ∀ i, i < j → LX (X.2.2 i)) : ∃ X', f0_put 3000 L X = some X' ∧ PX X' := by
  obtain ⟨V, e1, C⟩ := copyFrom_b_ 3000 (X.2.2 j) L
  refine ⟨(nI (j + 1), X.2.1, fun i => if i = j then V else X.2.2 i), ?_, j + 1, rfl, by omega, fun i hi => ?_⟩
  · unfold f0_put
    rw [h1, if_pos (ck_nI hj (by omega)), nI_clamp (by omega), e1, Option.bind_some]
    congr 1
    refine Prod.ext ?_ rfl
    show nI j + nI 1 = nI (j + 1)
    rw [nI_add]
  · show LX (if i = j then V else X.2.2 i)
    by_cases e : i = j
    · rw [if_pos e]; exact hL.cpy C
    · rw [if_neg e]; exact hP i (by omega)
theorem keepX {L : OB} {X : HS} (hL : LX L) (P : PX X) : ∃ X', f0_keep 3000 L X = some X' ∧ PX X' := by
  obtain ⟨j, h1, h6, hP⟩ := P
  unfold f0_keep
  rw [show (6 : Int32) = nI 6 from rfl]
  simp (disch := omega) only [h1, nI_le']
  by_cases c : j = 6
  · subst c
    rw [if_pos (Nat.le_refl _)]
    refine putX hL (j := 5) rfl (by omega) fun i hi => ?_
    show LX (rotA X.2.2 i)
    unfold rotA
    rw [if_pos hi]
    exact hP (i + 1) (by omega)
  · rw [if_neg (by omega)]
    exact putX hL h1 (by omega) hP
theorem undoX {j : Nat} {L : OB} {X : HS} (h1 : X.1 = nI (j + 1)) (h6 : j + 1 ≤ 6) (hP : ∀ i, i < j + 1 → LX (X.2.2 i)) : ∃ L', f0_restore 3000 L X = some (L', nI j, X.2) ∧ LX L' := by
  obtain ⟨V, e1, C⟩ := copyFrom_ 3000 L (X.2.2 j)
  refine ⟨V, ?_, (hP j (by omega)).cpy C⟩
  unfold f0_restore
  rw [h1, show nI (j + 1) - 1 = nI j from pk_sub (a := j + 1) (b := 1) (by omega), if_pos (ck_nI (by omega) (by omega)), nI_clamp (by omega), e1, Option.bind_some]
/-! what is counted, behind a staging -/
theorem vnP_e (s : Nat → Int32) (m : Nat) : vnP s m = decide (¬ s (18 + 9 * m + 3) = -1) := by
  unfold vnP hvP
  by_cases c : s (18 + 9 * m + 3) = -1 <;> simp [c]
theorem asg_n {t q : Nat} {c : Nat → Int32} (h : ∀ m, m < mmT t → ¬ c (18 + 9 * m + 6) = 0 → ¬ c (18 + 9 * m + 3) = -1) : ∀ i, i ≤ mmT t → (asgR t q c i).1 + cn (rsP c) i = cn (vnP (asgR t q c i).2) i
  | 0, _ => rfl
  | i + 1, hi => by
    have ih := asg_n (q := q) h i (by omega)
    have h6 : (asgR t q c i).2 (18 + 9 * i + 6) = c (18 + 9 * i + 6) := asg_6 i i
    have h3 : ¬ c (18 + 9 * i + 6) = 0 → (asgR t q c i).2 (18 + 9 * i + 3) = c (18 + 9 * i + 3) := fun h0 => asg_k (fun m hm => by
      by_cases e : m = i
      · subst e; exact absurd hm h0
      · omega) i
    rw [asgR_s, cn_s, cn_s]
    generalize asgR t q c i = P at ih h6 h3 ⊢
    obtain ⟨a, u⟩ := P
    dsimp only at ih h6 h3 ⊢
    have key : ∀ v k y, cn (vnP (up3 u i v k y)) i = cn (vnP u) i := fun v k y => cn_congr fun m hm => by
      rw [vnP_e, vnP_e, up3_o (by omega) (by omega) (by omega)]
    have rs : rsP c i = decide (¬ c (18 + 9 * i + 6) = 0) := rfl
    unfold asg1
    by_cases c0 : c (18 + 9 * i + 6) = 0
    · rw [if_pos (h6.trans c0), rs, decide_eq_false (fun h => h c0)]
      cases hv : vnR t u i with
      | none =>
        dsimp only
        rw [key, vnP_e, up3_3, decide_eq_false (fun h => h rfl)]
        simpa using ih
      | some v =>
        cases hk : stR t q u i with
        | none =>
          dsimp only
          rw [key, vnP_e, up3_3, decide_eq_false (fun h => h rfl)]
          simpa using ih
        | some k =>
          dsimp only
          have v6 := (bst_lt hv).1
          rw [key, vnP_e, up3_3, decide_eq_true (nI_m1 (by omega))]
          simp
          omega
    · rw [if_neg (fun e => c0 (h6.symm.trans e)), rs, decide_eq_true c0]
      dsimp only
      rw [vnP_e, h3 c0, decide_eq_true (h i (by omega) c0)]
      simp
      omega
theorem clr_rs (s : Nat → Int32) (i n : Nat) : cn (rsP (clrR s i)) n = cn (rsP s) n := cn_congr fun m _ => by
  show decide (¬ clrR s i (18 + 9 * m + 6) = 0) = decide (¬ s (18 + 9 * m + 6) = 0)
  rw [clr_6]
theorem clr_cl {s : Nat → Int32} {m : Nat} (h0 : ¬ s (18 + 9 * m + 6) = 0) (i : Nat) : clrR s i (18 + 9 * m + 3) = s (18 + 9 * m + 3) := clr_k (fun k hk => by
  by_cases e : k = m
  · subst e; exact absurd hk h0
  · omega) i
/-- as many as have a venue behind a staging: the staged ones and those with a result -/
theorem stg_n {t q : Nat} {s : Nat → Int32} (V : VS (mmT t) s) : (stgR t q s).1 + cn (rsP s) (mmT t) = cn (vnP (stgR t q s).2) (mmT t) := by
  unfold stgR
  rw [← asg_n (q := q) (fun m hm h0 => ?_) (mmT t) (Nat.le_refl _), clr_rs]
  rw [clr_6] at h0
  rw [clr_cl h0]
  obtain ⟨v, k, v6, -, e, -⟩ := V m hm h0
  rw [e]
  exact nI_m1 (by omega)
theorem stg_rs {t q : Nat} {s : Nat → Int32} : cn (rsP (stgR t q s).2) (mmT t) = cn (rsP s) (mmT t) := cn_congr fun m _ => by
  show decide (¬ (stgR t q s).2 (18 + 9 * m + 6) = 0) = decide (¬ s (18 + 9 * m + 6) = 0)
  rw [stg_k (fun k _ => by omega)]
theorem ctr_cg {s s' : Nat → Int32} {m : Nat} (h2 : s' 2 = s 2) (h6 : s' (18 + 9 * m + 6) = s (18 + 9 * m + 6)) (h7 : s' (18 + 9 * m + 7) = s (18 + 9 * m + 7)) (h8 : s' (18 + 9 * m + 8) = s (18 + 9 * m + 8)) {w σ : Nat} (hσ : σ < 2) : ctr s' w m σ = ctr s w m σ := by
  have k : ∀ σ, σ < 2 → scR s' m σ = scR s m σ := fun σ hσ => by
    unfold scR
    rcases (show σ = 0 ∨ σ = 1 by omega) with rfl | rfl
    · rw [h6, h2, show 7 + 0 = 7 from rfl, h7]
    · rw [h6, h2, show 7 + 1 = 8 from rfl, h8]
  unfold ctr
  rw [h6, k σ hσ, k (1 - σ) (by omega)]
theorem sm_cR_cg {s s' : Nat → Int32} {mm : Nat} (h2 : s' 2 = s 2) (h : ∀ m w, m < mm → w < 9 → w ≠ 3 → w ≠ 4 → w ≠ 5 → s' (18 + 9 * m + w) = s (18 + 9 * m + w)) (τ : Int32) (w : Nat) : sm (cR s' τ w) mm = sm (cR s τ w) mm := sm_congr fun m hm => by
  unfold cR
  rw [h m 1 hm (by omega) (by omega) (by omega) (by omega), h m 2 hm (by omega) (by omega) (by omega) (by omega)]
  have k : ∀ σ, σ < 2 → ctr s' w m σ = ctr s w m σ := fun σ hσ => ctr_cg h2 (h m 6 hm (by omega) (by omega) (by omega) (by omega)) (h m 7 hm (by omega) (by omega) (by omega) (by omega)) (h m 8 hm (by omega) (by omega) (by omega) (by omega)) hσ
  rw [k 0 (by omega), k 1 (by omega)]
theorem stg_pt {t q : Nat} {s : Nat → Int32} : sm (fun τ => ofT (stgR t q s).2 t τ 0) t = sm (fun τ => ofT s t τ 0) t := sm_congr fun τ _ => by
  have e : ∀ w, sm (cR (stgR t q s).2 (nI τ) w) (mmT t) = sm (cR s (nI τ) w) (mmT t) := fun w => sm_cR_cg (stg_k fun k _ => by omega) (fun m w hm h9 h3 h4 h5 => stg_k fun k _ => by omega) _ _
  show ptR _ _ _ = ptR _ _ _
  unfold ptR
  rw [e, e, e, stg_k (j := 0) (fun k _ => by omega), stg_k (j := 1) (fun k _ => by omega)]
