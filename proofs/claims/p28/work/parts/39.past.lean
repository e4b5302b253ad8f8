/-! PURE: what is kept -/
def slc (f : Nat → Int32) (i : Nat) : Nat → Int32 := fun k => f (270 * i + k)
/-- a league and a row that say the same, and are good -/
def LG (L : OB) (s : Nat → Int32) : Prop := ∃ t q, RLr t q L s ∧ GR t s
def PST (M : OB) (X : HS) (j : Nat) : Prop := M.1 3 = nI j ∧ X.1 = nI j ∧ j ≤ 6 ∧ ∀ i, i < j → LG (X.2.2 i) (slc (M.2 2) i)
def PSR (M : OB) (X : HS) : Prop := ∃ j, PST M X j
theorem LG.congr {L : OB} {s s' : Nat → Int32} (h : LG L s) (E : EQR s s') : LG L s' := by
  obtain ⟨t, q, R, G⟩ := h
  exact ⟨t, q, R.congr E, G.congr R.1.1.1.2.2.2.2 E⟩
theorem LG.cpy {L V : OB} {s : Nat → Int32} (h : LG L s) (C : CPY V L) : LG V s := by
  obtain ⟨t, q, R, G⟩ := h
  exact ⟨t, q, R.cpy C, G⟩
/-- a row that is changed but in the past -/
def SAME (M' M : OB) : Prop := (∀ j, j ≠ 3 → M'.1 j = M.1 j) ∧ ∀ j, j ≠ 2 → M'.2 j = M.2 j
theorem put_ {n j : Nat} {L M : OB} {X : HS} (hL : LG L (M.2 0)) (P : PST M X j) (hj : j < 6) (hn : 270 < n) : ∃ X' M', f0_put n L X = some X' ∧ f6_saves_b50 n M = some M' ∧ PST M' X' (j + 1) ∧ SAME M' M := by
  obtain ⟨h3, hX, -, hP⟩ := P
  obtain ⟨V, e1, C⟩ := copyFrom_b_ n (X.2.2 j) L
  refine ⟨(nI (j + 1), X.2.1, fun i => if i = j then V else X.2.2 i), gsi (gsa M 2 (va_cpy (M.2 0) (M.2 2) 0 (270 * j) 270)) 3 (nI (j + 1)), ?_, ?_, ⟨gsi_s _ _ _, rfl, by omega, fun i hi => ?_⟩, fun k hk => ?_, fun k hk => ?_⟩
  · unfold f0_put
    rw [hX, if_pos (ck_nI hj (by omega)), nI_clamp (by omega), e1, Option.bind_some]
    congr 1
    refine Prod.ext ?_ rfl
    show nI j + nI 1 = nI (j + 1)
    rw [nI_add]
  · unfold f6_saves_b50
    rw [h3, pk_mul, copies_ (by omega) (by omega) (by omega) (by omega) hn, Option.bind_some]
    show some (gsi _ 3 (M.1 3 + nI 1)) = _
    rw [h3, nI_add]
  · show LG (if i = j then V else X.2.2 i) (slc (va_cpy (M.2 0) (M.2 2) 0 (270 * j) 270) i)
    by_cases e : i = j
    · subst e
      rw [if_pos rfl]
      refine (hL.cpy C).congr fun k hk => ?_
      show va_cpy (M.2 0) (M.2 2) 0 (270 * i) 270 (270 * i + k) = _
      rw [pk_cpy_in (by omega) (by omega), show 0 + (270 * i + k - 270 * i) = k by omega]
    · rw [if_neg e]
      refine (hP i (by omega)).congr fun k hk => ?_
      show va_cpy (M.2 0) (M.2 2) 0 (270 * j) 270 (270 * i + k) = _
      rw [pk_cpy_out (by omega)]
      rfl
  · rw [gsi_n _ _ hk]; rfl
  · show (gsa M 2 _).2 k = _
    rw [gsa_n _ _ hk]
def shf (f : Nat → Int32) (i : Nat) : Nat → Int32 := fun k => if k < i then f (k + 270) else f k
theorem shift_ {n : Nat} {M : OB} {K : OB → Option OB} (hn : 1350 < n) : f6_saves_b11 n K n (nI 0) M = K (gsa M 2 (shf (M.2 2) 1350)) := by
  have h0 : M = gsa M 2 (shf (M.2 2) 0) := by
    rw [show shf (M.2 2) 0 = M.2 2 from funext fun k => if_neg (Nat.not_lt_zero k), gsa_id]
  conv => lhs; rw [h0]
  refine loop_S (F := fun k p => f6_saves_b11 n K k p.1 (gsa M 2 p.2)) (S := fun i => (nI i, shf (M.2 2) i)) (N := 1350) ?_ ?_ n hn
  · intro k
    dsimp only
    rw [f6_saves_b11, if_pos (by decide)]
  · intro k i hi
    dsimp only
    rw [f6_saves_b11, if_neg (by rw [nI_le' (by omega) (by omega)]; omega), gsa_s, nI_add, ald_nI (by omega) (by omega), Option.bind_some, oast_nI (by omega) (by omega), Option.bind_some, gsa_gsa, gsa_s, nI_add]
    congr 2
    funext k
    rw [upd_e]
    unfold shf
    by_cases e : k = i
    · rw [if_pos e, if_neg (by omega), if_pos (by omega), e]
    · rw [if_neg e]
      by_cases c : k < i
      · rw [if_pos c, if_pos (by omega)]
      · rw [if_neg c, if_neg (by omega)]
theorem keep_ {n : Nat} {L M : OB} {X : HS} (hL : LG L (M.2 0)) (P : PSR M X) (hn : 1350 < n) : ∃ X' M', f0_keep n L X = some X' ∧ f6_saves n M = some M' ∧ PSR M' X' ∧ SAME M' M := by
  obtain ⟨j, P⟩ := P
  have P0 := P
  obtain ⟨h3, hX, h6, hP⟩ := P
  unfold f0_keep f6_saves
  rw [show (6 : Int32) = nI 6 from rfl]
  simp (disch := omega) only [hX, h3, nI_le', nI_inj]
  by_cases c : j = 6
  · subst c
    rw [if_pos (Nat.le_refl _), if_pos rfl, shift_ hn]
    unfold f6_saves_b40
    have P1 : PST (gsi (gsa M 2 (shf (M.2 2) 1350)) 3 (nI 5)) (f0_dropOldest X) 5 := by
      refine ⟨gsi_s _ _ _, rfl, by omega, fun i hi => ?_⟩
      show LG (rotA X.2.2 i) (slc (shf (M.2 2) 1350) i)
      unfold rotA
      rw [if_pos hi]
      refine (hP (i + 1) (by omega)).congr fun k hk => ?_
      show shf (M.2 2) 1350 (270 * i + k) = M.2 2 (270 * (i + 1) + k)
      unfold shf
      rw [if_pos (by omega), show 270 * i + k + 270 = 270 * (i + 1) + k by omega]
    obtain ⟨X', M', e1, e2, P2, S2⟩ := put_ (L := L) (M := gsi (gsa M 2 (shf (M.2 2) 1350)) 3 (nI 5)) hL P1 (by omega) (by omega : 270 < n)
    refine ⟨X', M', e1, ?_, ⟨_, P2⟩, fun k hk => ?_, fun k hk => ?_⟩
    · show (some (gsi (gsa M 2 (shf (M.2 2) 1350)) 3 (M.1 3 - nI 1))).bind _ = _
      rw [h3, pk_sub (by omega), Option.bind_some]
      exact e2
    · rw [S2.1 k hk, gsi_n _ _ hk]; rfl
    · rw [S2.2 k hk]
      show (gsa M 2 _).2 k = _
      rw [gsa_n _ _ hk]
  · rw [if_neg (by omega), if_neg c]
    obtain ⟨X', M', e1, e2, P2, S2⟩ := put_ hL P0 (by omega) (by omega : 270 < n)
    exact ⟨X', M', e1, e2, ⟨_, P2⟩, S2⟩
theorem undo_ {n j : Nat} {L M : OB} {X : HS} (P : PST M X (j + 1)) (hn : 270 < n) : ∃ L', f0_restore n L X = some (L', nI j, X.2) ∧ LG L' (va_cpy (M.2 2) (M.2 0) (270 * j) 0 270) ∧ ∀ M1 : OB, M1.2 = M.2 → M1.1 3 = nI j → f6_copies_b n 270 (M1.2 0) 1620 (M1.2 2) (nI 270 * M1.1 3) (nI 0) = some (va_cpy (M.2 2) (M.2 0) (270 * j) 0 270) := by
  obtain ⟨h3, hX, h6, hP⟩ := P
  obtain ⟨V, e1, C⟩ := copyFrom_ n L (X.2.2 j)
  refine ⟨V, ?_, ?_, fun M1 hM h => ?_⟩
  · unfold f0_restore
    rw [hX, show nI (j + 1) - 1 = nI j from pk_sub (a := j + 1) (b := 1) (by omega), if_pos (ck_nI (by omega) (by omega)), nI_clamp (by omega), e1, Option.bind_some]
  · refine ((hP j (by omega)).cpy C).congr fun k hk => ?_
    rw [pk_cpy_in (by omega) (by omega)]
    show M.2 2 _ = M.2 2 _
    congr 1
  · rw [hM, h, pk_mul, copies_b_ (by omega) (by omega) (by omega) (by omega) hn]
