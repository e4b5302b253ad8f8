/-! PURE: places -/
theorem ahb_ir {P D A : Nat → Int} {a : Nat} : ahb P D A a a = false := by rw [ahb_f]; omega
theorem ahb_tr {P D A : Nat → Int} {a b c : Nat} (h1 : ahb P D A a b = true) (h2 : ahb P D A b c = true) : ahb P D A a c = true := by
  rw [ahb_iff] at *
  omega
theorem ahb_tot {P D A : Nat → Int} {a b : Nat} (h : a ≠ b) : ahb P D A a b = true ∨ ahb P D A b a = true := by
  rw [ahb_iff, ahb_iff]
  omega
theorem cn_mono {p q : Nat → Bool} : ∀ {n : Nat}, (∀ k, k < n → p k = true → q k = true) → cn p n ≤ cn q n
  | 0, _ => Nat.le_refl 0
  | n + 1, h => by
    have ih := cn_mono (n := n) (fun k hk => h k (by omega))
    have h1 := h n (by omega)
    rw [cn_s, cn_s]
    by_cases c : p n = true
    · rw [if_pos c, if_pos (h1 c)]; omega
    · rw [if_neg c]; omega
theorem cn_lt {p q : Nat → Bool} {j : Nat} : ∀ {n : Nat}, (∀ k, k < n → p k = true → q k = true) → j < n → p j = false → q j = true → cn p n < cn q n
  | 0, _, h, _, _ => absurd h (Nat.not_lt_zero j)
  | n + 1, h, hj, hp, hq => by
    have ih := cn_mono (n := n) (fun k hk => h k (by omega))
    rw [cn_s, cn_s]
    by_cases e : j = n
    · subst e
      rw [hp, hq, if_neg (by decide), if_pos rfl]
      omega
    · have ih2 := cn_lt (n := n) (fun k hk => h k (by omega)) (by omega) hp hq
      have h1 := h n (by omega)
      by_cases c : p n = true
      · rw [if_pos c, if_pos (h1 c)]; omega
      · rw [if_neg c]; omega
def pz (P D A : Nat → Int) (t a : Nat) : Nat := cn (fun j => decide (j ≠ a) && ahb P D A j a) t
theorem pz_lt {P D A : Nat → Int} {t a b : Nat} (ha : a < t) (h : ahb P D A a b = true) : pz P D A t a < pz P D A t b := by
  have hab : a ≠ b := fun e => by rw [e, ahb_ir] at h; cases h
  refine cn_lt (j := a) (fun k hk hp => ?_) ha ?_ ?_
  · rw [Bool.and_eq_true, decide_eq_true_eq] at hp ⊢
    refine ⟨fun e => ?_, ahb_tr hp.2 h⟩
    subst e
    have := ahb_tr hp.2 h
    rw [ahb_ir] at this
    cases this
  · rw [ahb_ir, Bool.and_false]
  · rw [h, decide_eq_true hab]; rfl
theorem pz_inj {P D A : Nat → Int} {t a b : Nat} (ha : a < t) (hb : b < t) (h : pz P D A t a = pz P D A t b) : a = b := by
  by_cases e : a = b
  · exact e
  · rcases ahb_tot (P := P) (D := D) (A := A) e with q | q
    · have := pz_lt (t := t) ha q; omega
    · have := pz_lt (t := t) hb q; omega
theorem pz_b {P D A : Nat → Int} {t a : Nat} (ha : a < t) : pz P D A t a < t := by
  have h : pz P D A t a < cn (fun _ => true) t := cn_lt (j := a) (fun _ _ _ => rfl) ha (by simp) rfl
  exact Nat.lt_of_lt_of_le h (cn_le _ _)
theorem cn_all {p : Nat → Bool} : ∀ {n : Nat}, (∀ k, k < n → p k = true) → cn p n = n
  | 0, _ => rfl
  | n + 1, h => by rw [cn_s, cn_all (fun k hk => h k (by omega)), h n (by omega), if_pos rfl]
/-- there is a first one, and a last one -/
theorem ex_first {P D A : Nat → Int} : ∀ {t : Nat}, 0 < t → ∃ a, a < t ∧ ∀ j, j < t → j ≠ a → ahb P D A a j = true
  | 0, h => absurd h (Nat.lt_irrefl 0)
  | t + 1, _ => by
    rcases Nat.eq_zero_or_pos t with e | e
    · subst e
      exact ⟨0, by omega, fun j hj h => absurd (by omega) h⟩
    · obtain ⟨a, ha, h⟩ := ex_first (t := t) e
      rcases ahb_tot (P := P) (D := D) (A := A) (show a ≠ t by omega) with q | q
      · exact ⟨a, by omega, fun j hj hn => by
          by_cases e2 : j = t
          · rw [e2]; exact q
          · exact h j (by omega) hn⟩
      · exact ⟨t, by omega, fun j hj hn => by
          by_cases e2 : j = a
          · rw [e2]; exact q
          · exact ahb_tr q (h j (by omega) e2)⟩
theorem ex_last {P D A : Nat → Int} : ∀ {t : Nat}, 0 < t → ∃ a, a < t ∧ ∀ j, j < t → j ≠ a → ahb P D A j a = true
  | 0, h => absurd h (Nat.lt_irrefl 0)
  | t + 1, _ => by
    rcases Nat.eq_zero_or_pos t with e | e
    · subst e
      exact ⟨0, by omega, fun j hj h => absurd (by omega) h⟩
    · obtain ⟨a, ha, h⟩ := ex_last (t := t) e
      rcases ahb_tot (P := P) (D := D) (A := A) (show a ≠ t by omega) with q | q
      · exact ⟨t, by omega, fun j hj hn => by
          by_cases e2 : j = a
          · rw [e2]; exact q
          · exact ahb_tr (h j (by omega) e2) q⟩
      · exact ⟨a, by omega, fun j hj hn => by
          by_cases e2 : j = t
          · rw [e2]; exact q
          · exact h j (by omega) hn⟩
theorem pz_first {P D A : Nat → Int} {t : Nat} (h0 : 0 < t) : ∃ a, a < t ∧ pz P D A t a = 0 ∧ ∀ j, j < t → P j ≤ P a := by
  obtain ⟨a, ha, h⟩ := ex_first (P := P) (D := D) (A := A) h0
  refine ⟨a, ha, cn_0.mpr fun k hk => ?_, fun j hj => ?_⟩
  · by_cases e : k = a
    · simp [e]
    · have h1 := h k hk e
      cases h2 : ahb P D A k a with
      | false => simp
      | true => have := ahb_tr h1 h2; rw [ahb_ir] at this; cases this
  · by_cases e : j = a
    · rw [e]; exact Int.le_refl _
    · have h1 := ahb_iff.mp (h j hj e); omega
theorem pz_last {P D A : Nat → Int} {t : Nat} (h0 : 0 < t) : ∃ a, a < t ∧ pz P D A t a = t - 1 := by
  obtain ⟨a, ha, h⟩ := ex_last (P := P) (D := D) (A := A) h0
  refine ⟨a, ha, ?_⟩
  have h1 : cn (fun _ => true) t = cn (fun j => decide (j ≠ a) && ahb P D A j a) t + 1 := by
    have h2 := cn_set (p := fun j => decide (j ≠ a) && ahb P D A j a) (p' := fun j => decide (j = a) || (decide (j ≠ a) && ahb P D A j a)) (i := a) (fun m hm => by simp [hm]) (by simp) (N := t) ha
    have h3 : cn (fun j => decide (j = a) || (decide (j ≠ a) && ahb P D A j a)) t = cn (fun _ => true) t := cn_congr fun k hk => by
      by_cases e : k = a
      · simp [e]
      · simp [e, h k hk e]
    rw [h3] at h2
    rw [h2]
    simp [bI]
  rw [cn_all (fun _ _ => rfl)] at h1
  unfold pz
  omega
theorem taR_u {p : Nat → Bool} {i : Nat} : ∀ {t : Nat}, i < t → p i = true → (∀ j, j < t → p j = true → j = i) → taR p t = some i
  | 0, h, _, _ => absurd h (Nat.not_lt_zero i)
  | t + 1, h, hp, hu => by
    rw [taR_s]
    by_cases e : i = t
    · rw [← e, if_pos hp]
    · rw [if_neg (fun h2 => e (hu t (by omega) h2).symm)]
      exact taR_u (by omega) hp (fun j hj => hu j (by omega))
theorem taR_no {p : Nat → Bool} : ∀ {t : Nat}, (∀ j, j < t → p j = false) → taR p t = none
  | 0, _ => rfl
  | t + 1, h => by rw [taR_s, h t (by omega), if_neg (by decide)]; exact taR_no fun j hj => h j (by omega)
theorem taR_lt {p : Nat → Bool} {b : Nat} : ∀ {t : Nat}, taR p t = some b → b < t ∧ p b = true
  | 0, h => by cases h
  | t + 1, h => by
    rw [taR_s] at h
    by_cases c : p t = true
    · rw [if_pos c] at h; cases h; exact ⟨by omega, c⟩
    · rw [if_neg c] at h
      have := taR_lt h
      exact ⟨by omega, this.2⟩
theorem plR_z {t mm : Nat} {s : Nat → Int32} (G : SGv s) (B : SCB mm s) (h : mm ≤ 28) (ht : t ≤ 8) {a : Nat} (ha : a < t) : plR s t mm a = pz (Pz s mm) (Dz s mm) (Az s mm) t a := by
  unfold plR pz
  refine cn_congr fun k hk => ?_
  rw [ahR_z G B h (by omega) (by omega)]
/-- a loop that may end early -/
theorem loop_X {σ ρ : Type} {F : Nat → σ → Option ρ} {I : Nat → σ → Prop} {N : Nat} {Post : ρ → Prop} (hx : ∀ k st, I N st → ∃ r, F (k + 1) st = some r ∧ Post r) (hs : ∀ k i st, i < N → I i st → (∃ r, F (k + 1) st = some r ∧ Post r) ∨ ∃ st', I (i + 1) st' ∧ F (k + 1) st = F k st') : ∀ k st, N < k → I 0 st → ∃ r, F k st = some r ∧ Post r := by
  have key : ∀ j i k st, i + j = N → j < k → I i st → ∃ r, F k st = some r ∧ Post r := by
    intro j
    induction j with
    | zero =>
      intro i k st hi hk hI
      obtain ⟨k, rfl⟩ : ∃ q, k = q + 1 := ⟨k - 1, by omega⟩
      exact hx k st (by rw [← hi]; exact hI)
    | succ j ih =>
      intro i k st hi hk hI
      obtain ⟨k, rfl⟩ : ∃ q, k = q + 1 := ⟨k - 1, by omega⟩
      rcases hs k i st (by omega) hI with h | ⟨st', h1, h2⟩
      · exact h
      · rw [h2]
        exact ih (i + 1) k st' (by omega) (by omega) h1
  exact fun k st hk => key N 0 k st (by omega) hk
def PL (s : Nat → Int32) (t : Nat) (a : Nat) : Nat := pz (Pz s (mmT t)) (Dz s (mmT t)) (Az s (mmT t)) t a
/-- what the looks at the table need: the standings are counted, the row is good -/
def TBL (S : OB) (t : Nat) (s : Nat → Int32) : Prop := CUs S t s (mmT t) ∧ SGv s ∧ SCB (mmT t) s ∧ 3 ≤ t ∧ t ≤ 8
theorem placeOfC_ {t n : Nat} {S : OB} {s : Nat → Int32} (T : TBL S t s) {a : Nat} (ha : a < t) (hn : 8 < n) : f4_placeOf n S (nI a) = some (nI (PL s t a)) := by
  obtain ⟨C, G, B, h3, h8⟩ := T
  have hmm := tb_mm h3 h8
  unfold f4_placeOf PL pz
  refine loop_S (F := fun k p => f4_placeOf_b4 n S (nI a) k p.1 p.2) (S := fun i => (nI (cn (fun j => decide (j ≠ a) && ahb (Pz s (mmT t)) (Dz s (mmT t)) (Az s (mmT t)) j a) i), nI i)) (N := t) ?_ ?_ n (by omega)
  · intro k
    dsimp only
    rw [f4_placeOf_b4, C.1, if_pos (by rw [nI_le' (by omega) (by omega)]; exact Nat.le_refl _)]
  · intro k i hi
    dsimp only
    rw [f4_placeOf_b4, C.1, isAheadC_ C G B hmm h8 hi ha, Option.bind_some]
    simp (disch := omega) only [nI_le', nI_inj, bI_z, nI_add, cn_s]
    rw [if_neg (by omega)]
    by_cases e : i = a
    · simp [e]
    · cases hb : ahb (Pz s (mmT t)) (Dz s (mmT t)) (Az s (mmT t)) i a <;> simp [e, hb]
theorem placeOfM_ {t n : Nat} {S : OB} {s : Nat → Int32} (H : HG t (mmT t) s) (T : TBL S t s) {a : Nat} (ha : a < t) (hn : 28 < n) : f6_placeOf n s (nI a) = some (nI (PL s t a)) := by
  obtain ⟨C, G, B, h3, h8⟩ := T
  have hmm := tb_mm h3 h8
  rw [placeOfR_ H (by omega) (by omega) (by omega), plR_z G B hmm h8 ha]
  rfl
def TA (s : Nat → Int32) (t a : Nat) : Option Nat := taR (fun j => decide (PL s t j = a)) t
theorem teamAtM_ {t n : Nat} {S : OB} {s : Nat → Int32} (H : HG t (mmT t) s) (T : TBL S t s) {a : Nat} (ha : a < 2147483648) (hn : 28 < n) : f6_teamAt n s (nI a) = some (oN (TA s t a)) := by
  obtain ⟨C, G, B, h3, h8⟩ := T
  have hmm := tb_mm h3 h8
  rw [teamAtR_ H (by omega) (by omega) ha]
  have key : ∀ k, k ≤ t → taR (fun j => decide (plR s t (mmT t) j = a)) k = taR (fun j => decide (PL s t j = a)) k := by
    intro k
    induction k with
    | zero => intro _; rfl
    | succ k ih =>
      intro hk
      rw [taR_s, taR_s, ih (by omega), plR_z G B hmm h8 (show k < t by omega)]
      rfl
  rw [key t (Nat.le_refl _)]
  rfl
theorem teamAtC_ {t n : Nat} {S : OB} {s : Nat → Int32} (T : TBL S t s) {a : Nat} (ha : a < 2147483648) (hn : 28 < n) : f4_teamAt n S (nI a) = some (oN (TA s t a)) := by
  have T0 := T
  obtain ⟨C, G, B, h3, h8⟩ := T
  have goal : ∃ r, f4_teamAt n S (nI a) = some r ∧ r = oN (TA s t a) := by
    unfold f4_teamAt
    refine loop_X (F := fun k p => f4_teamAt_b2 n S (nI a) k p) (I := fun i p => p = nI i ∧ ∀ j, j < i → PL s t j ≠ a) (N := t) ?_ ?_ n (nI 0) (by omega) ⟨rfl, fun j hj => absurd hj (Nat.not_lt_zero j)⟩
    · rintro k v ⟨e, h⟩
      subst e
      rw [f4_teamAt_b2, C.1, if_pos (by rw [nI_le' (by omega) (by omega)]; exact Nat.le_refl _)]
      refine ⟨_, rfl, ?_⟩
      unfold TA
      rw [taR_no fun j hj => decide_eq_false (h j hj)]
      rfl
    · rintro k i v hi ⟨e, h⟩
      subst e
      have hb : PL s t i < t := pz_b hi
      rw [f4_teamAt_b2, C.1, placeOfC_ T0 hi (by omega), Option.bind_some]
      simp (disch := omega) only [nI_le', nI_inj, nI_add]
      rw [if_neg (by omega)]
      by_cases c : PL s t i = a
      · left
        rw [if_pos c]
        refine ⟨_, rfl, ?_⟩
        unfold TA
        rw [taR_u hi (decide_eq_true c) (fun j hj hp => pz_inj hj hi ((of_decide_eq_true hp).trans c.symm))]
        rfl
      · right
        rw [if_neg c]
        refine ⟨_, ⟨rfl, fun j hj => ?_⟩, rfl⟩
        by_cases e : j = i
        · rw [e]; exact c
        · exact h j (by omega)
  obtain ⟨r, h1, h2⟩ := goal
  rw [h1, h2]
