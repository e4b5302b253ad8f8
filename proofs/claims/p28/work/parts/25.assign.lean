/-! PURE: assign -/
/-- a loop by what stands at its head -/
theorem loop_E {σ ρ : Type} {F : Nat → σ → Option ρ} {I : Nat → σ → Prop} {N : Nat} {Post : ρ → Prop} (hx : ∀ k st, I N st → ∃ r, F (k + 1) st = some r ∧ Post r) (hs : ∀ k i st, i < N → I i st → ∃ st', I (i + 1) st' ∧ F (k + 1) st = F k st') : ∀ k st, N < k → I 0 st → ∃ r, F k st = some r ∧ Post r := by
  have key : ∀ j i k st, i + j = N → j < k → I i st → ∃ r, F k st = some r ∧ Post r := by
    intro j
    induction j with
    | zero =>
      intro i k st hi hk h
      obtain ⟨k, rfl⟩ : ∃ q, k = q + 1 := ⟨k - 1, by omega⟩
      rw [show i = N by omega] at h
      exact hx k st h
    | succ j ih =>
      intro i k st hi hk h
      obtain ⟨k, rfl⟩ : ∃ q, k = q + 1 := ⟨k - 1, by omega⟩
      obtain ⟨st', h', e⟩ := hs k i st (by omega) h
      rw [e]
      exact ih (i + 1) k st' (by omega) (by omega) h'
  exact fun k st hk h => key N 0 k st (by omega) hk h
theorem cn_set {p p' : Nat → Bool} {i : Nat} (h : ∀ m, m ≠ i → p' m = p m) (hi : p i = false) : ∀ {N : Nat}, i < N → cn p' N = cn p N + bI (p' i)
  | 0, h0 => absurd h0 (Nat.not_lt_zero i)
  | N + 1, h0 => by
    rw [cn_s, cn_s]
    rcases Nat.lt_or_ge i N with q | q
    · rw [cn_set h hi q, h N (by omega)]
      omega
    · have e : i = N := by omega
      subst e
      rw [cn_congr (fun k hk => h k (by omega)), hi]
      unfold bI
      rw [if_neg (show ¬ false = true by decide), Nat.add_zero]
def VS (mm : Nat) (s : Nat → Int32) : Prop := ∀ m, m < mm → ¬ s (18 + 9 * m + 6) = 0 → ∃ v k, v < 6 ∧ k < 6 ∧ s (18 + 9 * m + 3) = nI v ∧ s (18 + 9 * m + 4) = nI k
def RLi (t q : Nat) (L : OB) (u : Nat → Int32) (i : Nat) : Prop := RLc t q L u ∧ ∀ m, m < mmT t → (m < i ∨ ¬ u (18 + 9 * m + 6) = 0) → L.2 11 m = u (18 + 9 * m + 5)
def RLr (t q : Nat) (L : OB) (s : Nat → Int32) : Prop := RLc t q L s ∧ ∀ m, m < mmT t → L.2 11 m = s (18 + 9 * m + 5)
def LQs (G : OB) (u : Nat → Int32) (i : Nat) : Prop := LQ G (ld6 3 u i) (ld6 4 u i) (zUsed 3 u i) (zUsed 4 u i)
theorem forget_ {n : Nat} {G : OB} {u : Nat → Int32} (hn : 6 < n) : ∃ G', f3_forgetLoads n G = some G' ∧ LQs G' u 0 := by
  have z : ∀ G' : OB, (∀ k, k < 6 → G'.2 0 k = nI 0 ∧ G'.2 1 k = nI 0 ∧ G'.2 2 k = nI 0 ∧ G'.2 3 k = nI 0) → LQs G' u 0 := by
    intro G' h k hk
    obtain ⟨h0, h1, h2, h3⟩ := h k hk
    refine ⟨h0, h2, fun r hr => ⟨?_, ?_⟩⟩
    · rw [h1]; exact b_0 r
    · rw [h3]; exact b_0 r
  unfold f3_forgetLoads
  refine loop_E (F := fun k p => f3_forgetLoads_b2 n (fun oG => f3_forgetLoads_b28 n oG) k p.1 p.2) (I := fun i (p : Int32 × OB) => p.1 = nI i ∧ ∀ k, k < i → p.2.2 0 k = nI 0 ∧ p.2.2 1 k = nI 0) (N := 6) ?_ ?_ n (nI 0, G) hn ⟨rfl, fun k hk => absurd hk (Nat.not_lt_zero k)⟩
  · rintro k ⟨v, G1⟩ ⟨h1, h2⟩
    dsimp only at h1 h2 ⊢
    subst h1
    rw [f3_forgetLoads_b2, if_pos (by decide)]
    unfold f3_forgetLoads_b28
    refine loop_E (F := fun k p => f3_forgetLoads_b30 n k p.1 p.2) (I := fun i (p : Int32 × OB) => p.1 = nI i ∧ (∀ k, k < 6 → p.2.2 0 k = nI 0 ∧ p.2.2 1 k = nI 0) ∧ ∀ k, k < i → p.2.2 2 k = nI 0 ∧ p.2.2 3 k = nI 0) (N := 6) ?_ ?_ n (nI 0, G1) hn ⟨rfl, h2, fun k hk => absurd hk (Nat.not_lt_zero k)⟩
    · rintro k ⟨v, G2⟩ ⟨h1, h3, h4⟩
      dsimp only at h1 h3 h4 ⊢
      subst h1
      rw [f3_forgetLoads_b30, if_pos (by decide)]
      exact ⟨_, rfl, z G2 fun k hk => ⟨(h3 k hk).1, (h3 k hk).2, (h4 k hk).1, (h4 k hk).2⟩⟩
    · rintro k i ⟨v, G2⟩ hi ⟨h1, h3, h4⟩
      dsimp only at h1 h3 h4 ⊢
      subst h1
      refine ⟨(nI (i + 1), gsa (gsa G2 2 (upd (G2.2 2) i (nI 0))) 3 (upd ((gsa G2 2 (upd (G2.2 2) i (nI 0))).2 3) i (nI 0))), ⟨rfl, fun k hk => ?_, fun k hk => ?_⟩, ?_⟩
      · simp only [gsa_2, Nat.reduceEqDiff, if_false]
        exact h3 k hk
      · simp only [gsa_2, Nat.reduceEqDiff, if_false, if_true, upd_e]
        by_cases e : k = i
        · simp only [e, if_true, and_self]
        · simp only [e, if_false]
          exact h4 k (by omega)
      · dsimp only
        rw [f3_forgetLoads_b30]
        simp (disch := omega) only [nI_le', oast_nI, Option.bind_some, nI_add]
        rw [if_neg (by omega)]
  · rintro k i ⟨v, G2⟩ hi ⟨h1, h4⟩
    dsimp only at h1 h4 ⊢
    subst h1
    refine ⟨(nI (i + 1), gsa (gsa G2 0 (upd (G2.2 0) i (nI 0))) 1 (upd ((gsa G2 0 (upd (G2.2 0) i (nI 0))).2 1) i (nI 0))), ⟨rfl, fun k hk => ?_⟩, ?_⟩
    · simp only [gsa_2, Nat.reduceEqDiff, if_false, if_true, upd_e]
      by_cases e : k = i
      · simp only [e, if_true, and_self]
      · simp only [e, if_false]
        exact h4 k (by omega)
    · dsimp only
      rw [f3_forgetLoads_b2]
      simp (disch := omega) only [nI_le', oast_nI, Option.bind_some, nI_add]
      rw [if_neg (by omega)]
theorem hv_up3 {u : Nat → Int32} {i m w : Nat} {v k y a r : Int32} (h : m ≠ i) (hw : w = 3 ∨ w = 4) : hvP (up3 u i v k y) w a r m = hvP u w a r m := by
  unfold hvP
  rcases hw with rfl | rfl
  · rw [up3_o (by omega) (by omega) (by omega), up3_o (by omega) (by omega) (by omega)]
  · rw [up3_o (by omega) (by omega) (by omega), up3_o (by omega) (by omega) (by omega)]
theorem hv_m1 {u : Nat → Int32} {m w k : Nat} {r : Int32} (hk : k < 6) (h : u (18 + 9 * m + w) = -1) : hvP u w (nI k) r m = false := by
  unfold hvP
  rw [h, decide_eq_false (fun e => nI_m1 (by omega) e.symm), Bool.false_and]
/-- a row of a cell is set in both -/
theorem RLc.put {t q : Nat} {L : OB} {u : Nat → Int32} (R : RLc t q L u) {i : Nat} {v k y : Int32} {L' : OB} (hi : i < 28) (e1 : L'.1 = L.1) (e9 : L'.2 9 = upd (L.2 9) i v) (e10 : L'.2 10 = upd (L.2 10) i k) (eo : ∀ j, j ≠ 9 → j ≠ 10 → j ≠ 11 → L'.2 j = L.2 j) : RLc t q L' (up3 u i v k y) := by
  obtain ⟨F, ⟨k0, k1, k2⟩, ⟨g1, g2, g3⟩, g4⟩ := R
  refine ⟨fx_up F, ⟨by rw [e1]; exact k0, by rw [e1]; exact k1, by rw [e1]; exact k2⟩, ⟨fun j hj => ?_, fun j hj => ?_, fun j hj => ?_⟩, fun m hm => ?_⟩
  · rw [eo 3 (by decide) (by decide) (by decide), up3_o (by omega) (by omega) (by omega)]; exact g1 j hj
  · rw [eo 4 (by decide) (by decide) (by decide), up3_o (by omega) (by omega) (by omega)]; exact g2 j hj
  · rw [eo 5 (by decide) (by decide) (by decide), up3_o (by omega) (by omega) (by omega)]; exact g3 j hj
  · obtain ⟨⟨c0, c1, c2⟩, ⟨c3, c4⟩, c6, c7, c8⟩ := g4 m hm
    refine ⟨⟨?_, ?_, ?_⟩, ⟨?_, ?_⟩, ?_, ?_, ?_⟩
    · rw [eo 6 (by decide) (by decide) (by decide), up3_o (by omega) (by omega) (by omega)]; exact c0
    · rw [eo 7 (by decide) (by decide) (by decide), up3_o (by omega) (by omega) (by omega)]; exact c1
    · rw [eo 8 (by decide) (by decide) (by decide), up3_o (by omega) (by omega) (by omega)]; exact c2
    · rw [e9]
      by_cases e : m = i
      · rw [e, upd_s, up3_3]
      · rw [upd_n _ _ e, up3_o (by omega) (by omega) (by omega)]; exact c3
    · rw [e10]
      by_cases e : m = i
      · rw [e, upd_s, up3_4]
      · rw [upd_n _ _ e, up3_o (by omega) (by omega) (by omega)]; exact c4
    · rw [eo 12 (by decide) (by decide) (by decide), up3_o (by omega) (by omega) (by omega)]; exact c6
    · rw [eo 13 (by decide) (by decide) (by decide), up3_o (j := 18 + 9 * m + 6) (by omega) (by omega) (by omega), up3_o (j := 18 + 9 * m + 7) (by omega) (by omega) (by omega)]; exact c7
    · rw [eo 14 (by decide) (by decide) (by decide), up3_o (j := 18 + 9 * m + 6) (by omega) (by omega) (by omega), up3_o (j := 18 + 9 * m + 8) (by omega) (by omega) (by omega)]; exact c8
theorem upd_same {f : Nat → Int32} {i : Nat} {v : Int32} (h : f i = v) : upd f i v = f := by
  funext j
  rw [upd_e]
  split
  · rename_i e; rw [e, h]
  · rfl
def OPN (mm : Nat) (u : Nat → Int32) (i : Nat) : Prop := ∀ m, m < mm → i ≤ m → u (18 + 9 * m + 6) = 0 → u (18 + 9 * m + 3) = -1 ∧ u (18 + 9 * m + 4) = -1
theorem assignOne_ {t q n i : Nat} {G L : OB} {u : Nat → Int32} (R : RLi t q L u i) (hl : LQs G u (mmT t)) (ho : OPN (mmT t) u i) (hn : 6 < n) (hi : i < mmT t) (h0 : u (18 + 9 * i + 6) = 0) :
    ∃ G' L', f3_assignOne n G L (nI i) = some (nI (asg1 t q u i).1, G', L') ∧ RLi t q L' (asg1 t q u i).2 (i + 1) ∧ LQs G' (asg1 t q u i).2 (mmT t) ∧ OPN (mmT t) (asg1 t q u i).2 (i + 1) := by
  obtain ⟨Rc, Rr⟩ := R
  have hmm : mmT t ≤ 28 := Rc.1.1.2.2.2.2
  have h3 := Rc.1.1.2.2.1
  have h8 := Rc.1.1.2.2.2.1
  have b7 := tb_r h3 h8 hi
  obtain ⟨o3, o4⟩ := ho i hi (Nat.le_refl i) h0
  obtain ⟨⟨c0, c1, c2⟩, ⟨c9, c10⟩, -⟩ := Rc.2.2.2 i hi
  have hr0 := (Rc.1.2.2 i hi).1
  have hopn : ∀ (v k y : Int32), OPN (mmT t) (up3 u i v k y) (i + 1) := by
    intro v k y m hm him h
    rw [up3_o (by omega) (by omega) (by omega)] at h
    rw [up3_o (by omega) (by omega) (by omega), up3_o (by omega) (by omega) (by omega)]
    exact ho m hm (by omega) h
  have hrs : ∀ (v k y : Int32) (L' : OB), L'.2 11 = upd (L.2 11) i y → ∀ m, m < mmT t → (m < i + 1 ∨ ¬ (up3 u i v k y) (18 + 9 * m + 6) = 0) → L'.2 11 m = (up3 u i v k y) (18 + 9 * m + 5) := by
    intro v k y L' e m hm h
    rw [e]
    by_cases em : m = i
    · rw [em, upd_s, up3_5]
    · rw [upd_n _ _ em, up3_o (by omega) (by omega) (by omega)]
      refine Rr m hm ?_
      rcases h with h | h
      · exact Or.inl (by omega)
      · rw [up3_o (by omega) (by omega) (by omega)] at h
        exact Or.inr h
  have hlq : ∀ y : Int32, LQs G (up3 u i (-1) (-1) y) (mmT t) := by
    intro y
    have hc : ∀ (w : Nat) (a : Nat) (r : Int32), (w = 3 ∨ w = 4) → a < 6 → cn (hvP u w (nI a) r) (mmT t) = cn (hvP (up3 u i (-1) (-1) y) w (nI a) r) (mmT t) := by
      intro w a r hw ha
      refine cn_congr fun m hm => ?_
      by_cases e : m = i
      · subst e
        rcases hw with rfl | rfl
        · rw [hv_m1 ha o3, hv_m1 ha (up3_3 _ _ _ _ _)]
        · rw [hv_m1 ha o4, hv_m1 ha (up3_4 _ _ _ _ _)]
      · rw [hv_up3 e hw]
    refine LQ.congr hl fun a ha => ⟨hc 3 a _ (Or.inl rfl) ha, hc 4 a _ (Or.inr rfl) ha, fun r hr => ⟨?_, ?_⟩⟩
    · unfold zUsed; rw [hc 3 a _ (Or.inl rfl) ha]
    · unfold zUsed; rw [hc 4 a _ (Or.inr rfl) ha]
  unfold f3_assignOne asg1
  rw [if_pos h0, freeVenue_ Rc hl hn hi, Option.bind_some, freeSetter_ Rc hl hn hi, Option.bind_some]
  cases hv : vnR t u i with
  | none =>
    rw [if_pos (show oN none = -1 from rfl)]
    simp (disch := omega) only [oast_nI, Option.bind_some]
    refine ⟨_, _, rfl, ⟨Rc.put (by omega) rfl ?_ ?_ (fun j h9 h10 h11 => gsa_n _ _ h11), hrs _ _ _ _ (gsa_s _ _ _)⟩, hlq _, hopn _ _ _⟩
    · rw [gsa_n _ _ (by decide), upd_same (by rw [c9, o3])]
    · rw [gsa_n _ _ (by decide), upd_same (by rw [c10, o4])]
  | some v =>
    have hv6 := (bst_lt hv).1
    rw [if_neg (show ¬ oN (some v) = -1 from nI_m1 (by omega))]
    cases hk : stR t q u i with
    | none =>
      rw [if_pos (show oN none = -1 from rfl)]
      simp (disch := omega) only [oast_nI, Option.bind_some]
      refine ⟨_, _, rfl, ⟨Rc.put (by omega) rfl ?_ ?_ (fun j h9 h10 h11 => gsa_n _ _ h11), hrs _ _ _ _ (gsa_s _ _ _)⟩, hlq _, hopn _ _ _⟩
      · rw [gsa_n _ _ (by decide), upd_same (by rw [c9, o3])]
      · rw [gsa_n _ _ (by decide), upd_same (by rw [c10, o4])]
    | some k =>
      have hk6 := (bst_lt hk).1
      rw [if_neg (show ¬ oN (some k) = -1 from nI_m1 (by omega))]
      dsimp only [oN]
      simp (disch := omega) only [oast_nI, ald_nI, Option.bind_some]
      simp only [gsa_2, Nat.reduceEqDiff, if_false]
      rw [c0, hr0]
      obtain ⟨G', hG, hlG⟩ := load_ (n := n) hl hv6 hk6 b7
      rw [hG, Option.bind_some]
      refine ⟨_, _, rfl, ⟨Rc.put (by omega) rfl ?_ ?_ (fun j h9 h10 h11 => ?_), hrs _ _ _ _ ?_⟩, ?_, hopn _ _ _⟩
      · simp only [gsa_2, Nat.reduceEqDiff, if_false, if_true]
      · simp only [gsa_2, Nat.reduceEqDiff, if_false, if_true]
      · simp only [gsa_2, h9, h10, h11, if_false]
      · simp only [gsa_2, Nat.reduceEqDiff, if_false, if_true]
      · have hu0 : (up3 u i (nI v) (nI k) (nI 0)) (18 + 9 * i + 0) = nI (rdT t i) := by rw [up3_o (by omega) (by omega) (by omega)]; exact hr0
        have hc : ∀ (w x a : Nat) (r : Int32), (w = 3 ∨ w = 4) → (up3 u i (nI v) (nI k) (nI 0)) (18 + 9 * i + w) = nI x → x < 6 → a < 6 → cn (hvP (up3 u i (nI v) (nI k) (nI 0)) w (nI a) r) (mmT t) = cn (hvP u w (nI a) r) (mmT t) + bI (decide (x = a) && (decide (r = -1) || decide (nI (rdT t i) = r))) := by
          intro w x a r hw hx hx6 ha
          rw [cn_set (i := i) (fun m hm => hv_up3 hm hw) (by rcases hw with rfl | rfl; exact hv_m1 ha o3; exact hv_m1 ha o4) hi]
          congr 2
          show (decide (_ = nI a) && (_ || decide (_ = r))) = _
          rw [hx, hu0]
          congr 1
          exact decide_eq_decide.mpr (nI_inj (by omega) (by omega))
        refine LQ.congr hlG fun a ha => ⟨?_, ?_, fun r hr => ⟨?_, ?_⟩⟩
        · show _ = cn _ _
          rw [hc 3 v a (-1) (Or.inl rfl) (up3_3 _ _ _ _ _) hv6 ha]
          unfold bI ld6
          by_cases e : a = v
          · simp [e]
          · simp [e, Ne.symm e]
        · show _ = cn _ _
          rw [hc 4 k a (-1) (Or.inr rfl) (up3_4 _ _ _ _ _) hk6 ha]
          unfold bI ld6
          by_cases e : a = k
          · simp [e]
          · simp [e, Ne.symm e]
        · unfold zUsed
          rw [hc 3 v a (nI r) (Or.inl rfl) (up3_3 _ _ _ _ _) hv6 ha, decide_eq_false (nI_m1 (by omega)), Bool.false_or, decide_eq_decide.mpr (nI_inj (show rdT t i < 2147483648 by omega) (show r < 2147483648 by omega))]
          rw [show decide (v = a) = decide (a = v) from decide_eq_decide.mpr eq_comm, show decide (rdT t i = r) = decide (r = rdT t i) from decide_eq_decide.mpr eq_comm]
          unfold bI
          by_cases e : a = v <;> by_cases e2 : r = rdT t i <;> by_cases e3 : cn (hvP u 3 (nI a) (nI r)) (mmT t) = 0 <;> simp [e, e2, e3]
        · unfold zUsed
          rw [hc 4 k a (nI r) (Or.inr rfl) (up3_4 _ _ _ _ _) hk6 ha, decide_eq_false (nI_m1 (by omega)), Bool.false_or, decide_eq_decide.mpr (nI_inj (show rdT t i < 2147483648 by omega) (show r < 2147483648 by omega))]
          rw [show decide (k = a) = decide (a = k) from decide_eq_decide.mpr eq_comm, show decide (rdT t i = r) = decide (r = rdT t i) from decide_eq_decide.mpr eq_comm]
          unfold bI
          by_cases e : a = k <;> by_cases e2 : r = rdT t i <;> by_cases e3 : cn (hvP u 4 (nI a) (nI r)) (mmT t) = 0 <;> simp [e, e2, e3]
