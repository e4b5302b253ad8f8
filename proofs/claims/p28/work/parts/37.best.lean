/-! PURE: a team wins all that is open -/
def wn1 (t a : Nat) (s : Nat → Int32) (m : Nat) : Nat → Int32 := if s (18 + 9 * m + 6) = 0 then (if fsT t m = a then gv s m (nI 1) (nI 99) (nI 0) else if scT t m = a then gv s m (nI 1) (nI 0) (nI 99) else s) else s
def wnR (t a : Nat) (s : Nat → Int32) : Nat → Nat → Int32
  | 0 => s
  | m + 1 => wn1 t a (wnR t a s m) m
theorem wnR_s (t a : Nat) (s : Nat → Int32) (m : Nat) : wnR t a s (m + 1) = wn1 t a (wnR t a s m) m := rfl
theorem gt_wn1 {t a m : Nat} {s : Nat → Int32} (G : GT t s) : GT t (wn1 t a s m) := by
  unfold wn1
  split
  · split
    · exact G.gv (by omega) (by omega) (by omega)
    · split
      · exact G.gv (by omega) (by omega) (by omega)
      · exact G
  · exact G
theorem GT.wn {t a : Nat} {s : Nat → Int32} (G : GT t s) : ∀ i, GT t (wnR t a s i)
  | 0 => G
  | i + 1 => gt_wn1 (GT.wn G i)
theorem winAll_ {t q n a : Nat} {V : OB} {s : Nat → Int32} (R : RLr t q V s) (ha : a < t) (hn : 28 < n) : ∃ V', f1_winAll n V (nI a) = some V' ∧ RLr t q V' (wnR t a s (mmT t)) := by
  have h3 := R.1.1.1.2.2.1
  have h8 := R.1.1.1.2.2.2.1
  have hmm := tb_mm h3 h8
  unfold f1_winAll
  refine loop_E (F := fun k p => f1_winAll_b2 n (nI a) k p.1 p.2) (I := fun i (p : Int32 × OB) => p.1 = nI i ∧ RLr t q p.2 (wnR t a s i)) (N := mmT t) ?_ ?_ n (nI 0, V) (by omega) ⟨rfl, R⟩
  · rintro k ⟨v, V1⟩ ⟨e, R1⟩
    dsimp only at e R1 ⊢
    subst e
    rw [f1_winAll_b2, R1.1.2.1.2.2, if_pos (by rw [nI_le' (by omega) (by omega)]; exact Nat.le_refl _)]
    exact ⟨_, rfl, R1⟩
  · rintro k i ⟨v, V1⟩ hi ⟨e, R1⟩
    dsimp only at e R1 ⊢
    subst e
    obtain ⟨-, b1, b2, b3⟩ := tb_m h3 h8 hi
    obtain ⟨-, r1, r2⟩ := R1.1.1.2.2 i hi
    obtain ⟨⟨-, c1, c2⟩, -, c6, -⟩ := R1.1.2.2.2 i hi
    rw [f1_winAll_b2, R1.1.2.1.2.2]
    unfold f1_winAll_b41
    rw [wnR_s]
    unfold wn1
    simp (disch := omega) only [ald_nI, Option.bind_some, c1, c2, r1, r2, c6, nI_le', nI_inj, nI_add]
    rw [if_neg (show ¬ mmT t ≤ i by omega)]
    by_cases c0 : wnR t a s i (18 + 9 * i + 6) = 0
    · simp only [if_pos c0]
      by_cases d1 : fsT t i = a
      · simp only [if_pos d1]
        obtain ⟨V2, e2, R2⟩ := give_ (n := n) (x := nI 1) (y := nI 99) (z := nI 0) R1 hi
        rw [e2, Option.bind_some]
        exact ⟨(nI (i + 1), V2), ⟨rfl, R2⟩, rfl⟩
      · simp only [if_neg d1]
        by_cases d2 : scT t i = a
        · simp only [if_pos d2]
          obtain ⟨V2, e2, R2⟩ := give_ (n := n) (x := nI 1) (y := nI 0) (z := nI 99) R1 hi
          rw [e2, Option.bind_some]
          exact ⟨(nI (i + 1), V2), ⟨rfl, R2⟩, rfl⟩
        · simp only [if_neg d2]
          exact ⟨(nI (i + 1), V1), ⟨rfl, R1⟩, rfl⟩
    · simp only [if_neg c0]
      exact ⟨(nI (i + 1), V1), ⟨rfl, R1⟩, rfl⟩
theorem tbl_ {t q n : Nat} {S L : OB} {s : Nat → Int32} (R : RLr t q L s) (G : GT t s) (hn : 28 < n) : ∃ S', f4_countUp n S L = some S' ∧ TBL S' t s := by
  obtain ⟨S', e, C⟩ := countUp_ (S := S) R.1 G.2.1 hn
  exact ⟨S', e, C, G.1, G.2.2, R.1.1.1.2.2.1, R.1.1.1.2.2.2.1⟩
theorem RLr.tms {t q : Nat} {L : OB} {s : Nat → Int32} (R : RLr t q L s) : TMS t s := fun m hm => (R.1.1.2.2 m hm).2
theorem placeByWinningAll_ {t q n a : Nat} {S G L U V B : OB} {X : HS} {s s' : Nat → Int32} (R : RLr t q L s) (g : GT t s) (E : EQR s s') (ha : a < t) (hn : 28 < n) : ∃ U' V', f5_placeByWinningAll n S G L U V B X (nI a) = some (nI (PL (wnR t a s' (mmT t)) t a), U', V') := by
  have h3 := R.1.1.1.2.2.1
  have h8 := R.1.1.1.2.2.2.1
  have hmm := tb_mm h3 h8
  obtain ⟨V1, e1, C1⟩ := copyFrom_b_ n V L
  obtain ⟨V2, e2, R2⟩ := winAll_ ((R.cpy C1).congr E) ha hn
  obtain ⟨U1, e3, T⟩ := tbl_ (S := U) R2 ((g.congr hmm E).wn _) hn
  refine ⟨U1, V2, ?_⟩
  unfold f5_placeByWinningAll
  rw [e1, Option.bind_some, e2, Option.bind_some, e3, Option.bind_some, placeOfC_ T ha (by omega), Option.bind_some]
theorem gsa_gsa (o : OB) (k : Nat) (f g : Nat → Int32) : gsa (gsa o k f) k g = gsa o k g := by
  refine Prod.ext rfl (funext fun j => ?_)
  show (gsa (gsa o k f) k g).2 j = (gsa o k g).2 j
  rw [gsa_2, gsa_2, gsa_2]
  split <;> rfl
theorem gsa_id (o : OB) (k : Nat) : gsa o k (o.2 k) = o := by
  refine Prod.ext rfl (funext fun j => ?_)
  show (gsa o k (o.2 k)).2 j = o.2 j
  rw [gsa_2]
  split
  · rename_i h; rw [h]
  · rfl
/-- the reference's second row after a copy -/
def cp1 (M : OB) : Nat → Int32 := va_cpy (M.2 0) (M.2 1) 0 0 270
theorem best_ {t q n a : Nat} {L M : OB} {s : Nat → Int32} (hM : M.2 0 = s) (R : RLr t q L s) (g : GT t s) (ha : a < t) (hn : 270 < n) : f6_best n M (nI a) = some (nI (PL (wnR t a (cp1 M) (mmT t)) t a), gsa M 1 (wnR t a (cp1 M) (mmT t))) := by
  have h3 := R.1.1.1.2.2.1
  have h8 := R.1.1.1.2.2.2.1
  have hmm := tb_mm h3 h8
  have E : EQR s (cp1 M) := by unfold cp1; rw [hM]; exact eqr_cpy _ _
  have R1 := R.congr E
  have g1 := g.congr hmm E
  unfold f6_best
  rw [show nI 0 = nI 0 from rfl, copies_ (by omega) (by omega) (by omega) (by omega) hn, Option.bind_some]
  show f6_best_b15 n (nI a) (fun oM => f6_best_b88 n (nI a) oM) n (nI 0) (gsa M 1 (cp1 M)) = _
  generalize cp1 M = u at E R1 g1 ⊢
  have FR : ∀ i, ∃ L', RLr t q L' (wnR t a u i) := by
    intro i
    induction i with
    | zero => exact ⟨L, R1⟩
    | succ i ih =>
      obtain ⟨L', R'⟩ := ih
      rw [wnR_s]
      unfold wn1
      by_cases hi : i < mmT t
      · split
        · split
          · obtain ⟨L2, -, R2⟩ := give_ (n := n) (x := nI 1) (y := nI 99) (z := nI 0) R' hi
            exact ⟨L2, R2⟩
          · split
            · obtain ⟨L2, -, R2⟩ := give_ (n := n) (x := nI 1) (y := nI 0) (z := nI 99) R' hi
              exact ⟨L2, R2⟩
            · exact ⟨L', R'⟩
        · exact ⟨L', R'⟩
      · refine ⟨L', ?_⟩
        obtain ⟨⟨F, hL, ⟨g3, g4, g5⟩, hr⟩, Rr⟩ := R'
        have key : ∀ x y z, RLr t q L' (gv (wnR t a u i) i x y z) := fun x y z => by
          refine ⟨⟨F.gv, hL, ⟨fun j hj => ?_, fun j hj => ?_, fun j hj => ?_⟩, fun k hk => ?_⟩, fun k hk => ?_⟩
          · rw [gv_o (by omega) (by omega) (by omega)]; exact g3 j hj
          · rw [gv_o (by omega) (by omega) (by omega)]; exact g4 j hj
          · rw [gv_o (by omega) (by omega) (by omega)]; exact g5 j hj
          · rw [gv_o (j := 18 + 9 * k + 0) (by omega) (by omega) (by omega), gv_o (j := 18 + 9 * k + 1) (by omega) (by omega) (by omega), gv_o (j := 18 + 9 * k + 2) (by omega) (by omega) (by omega), gv_o (j := 18 + 9 * k + 3) (by omega) (by omega) (by omega), gv_o (j := 18 + 9 * k + 4) (by omega) (by omega) (by omega), gv_o (j := 18 + 9 * k + 6) (by omega) (by omega) (by omega), gv_o (j := 18 + 9 * k + 7) (by omega) (by omega) (by omega), gv_o (j := 18 + 9 * k + 8) (by omega) (by omega) (by omega)]
            exact hr k hk
          · rw [gv_o (by omega) (by omega) (by omega)]; exact Rr k hk
        split
        · split
          · exact key _ _ _
          · split
            · exact key _ _ _
            · exact ⟨⟨F, hL, ⟨g3, g4, g5⟩, hr⟩, Rr⟩
        · exact ⟨⟨F, hL, ⟨g3, g4, g5⟩, hr⟩, Rr⟩
  refine loop_S (F := fun k p => f6_best_b15 n (nI a) (fun oM => f6_best_b88 n (nI a) oM) k p.1 (gsa M 1 p.2)) (S := fun i => (nI i, wnR t a u i)) (N := mmT t) ?_ ?_ n (by omega)
  · intro k
    dsimp only
    obtain ⟨L', R'⟩ := FR (mmT t)
    rw [f6_best_b15, gsa_s]
    simp (disch := omega) only [ald_nI, Option.bind_some, R'.1.1.1.2.1, nI_le', Nat.le_refl, if_true]
    unfold f6_best_b88
    rw [gsa_s]
    obtain ⟨S', -, T⟩ := tbl_ (S := L) R' (g1.wn (a := a) (mmT t)) (show 28 < n by omega)
    rw [placeOfM_ R'.1.1.1 T ha (by omega), Option.bind_some]
  · intro k i hi
    dsimp only
    obtain ⟨L', R'⟩ := FR i
    obtain ⟨-, b1, b2, b3⟩ := tb_m h3 h8 hi
    rw [f6_best_b15, gsa_s, sideOf_ h3 h8 R'.tms hi ha]
    simp (disch := omega) only [ald_nI, Option.bind_some, R'.1.1.1.2.1, nI_le', of_, nI_add]
    rw [if_neg (by omega), wnR_s]
    unfold wn1 f6_best_b69
    simp (disch := omega) only [gsa_s, gives_, Option.bind_some, gsa_gsa, nI_add]
    by_cases d1 : fsT t i = a
    · simp only [if_pos d1, if_neg (show ¬ nI 0 = -1 by decide), if_pos (show nI 0 = 0 from rfl)]
      by_cases c0 : wnR t a u i (18 + 9 * i + 6) = 0
      · simp only [if_pos c0]
      · simp only [if_neg c0]
    · simp only [if_neg d1]
      by_cases d2 : scT t i = a
      · simp only [if_pos d2, if_neg (show ¬ nI 1 = -1 by decide), if_neg (show ¬ nI 1 = 0 by decide)]
        by_cases c0 : wnR t a u i (18 + 9 * i + 6) = 0
        · simp only [if_pos c0]
        · simp only [if_neg c0]
      · simp only [if_neg d2, if_true]
        split <;> rfl
