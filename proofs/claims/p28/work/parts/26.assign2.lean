/-! PURE: assign, both loops -/
theorem clr_6 (s : Nat → Int32) (m : Nat) : ∀ i, clrR s i (18 + 9 * m + 6) = s (18 + 9 * m + 6)
  | 0 => rfl
  | i + 1 => by
    rw [clrR_s]
    unfold clr1
    split
    · rw [up3_o (by omega) (by omega) (by omega)]; exact clr_6 s m i
    · exact clr_6 s m i
theorem clr_ge (s : Nat → Int32) {m w : Nat} (hw : w < 9) : ∀ i, i ≤ m → clrR s i (18 + 9 * m + w) = s (18 + 9 * m + w)
  | 0, _ => rfl
  | i + 1, h => by
    rw [clrR_s]
    unfold clr1
    split
    · rw [up3_o (by omega) (by omega) (by omega)]; exact clr_ge s hw i (by omega)
    · exact clr_ge s hw i (by omega)
theorem clr_low (s : Nat → Int32) {j : Nat} (hj : j < 18) : ∀ i, clrR s i j = s j
  | 0 => rfl
  | i + 1 => by
    rw [clrR_s]
    unfold clr1
    split
    · rw [up3_o (by omega) (by omega) (by omega)]; exact clr_low s hj i
    · exact clr_low s hj i
theorem clr_open (s : Nat → Int32) {m : Nat} : ∀ i, m < i → s (18 + 9 * m + 6) = 0 → clrR s i (18 + 9 * m + 3) = -1 ∧ clrR s i (18 + 9 * m + 4) = -1
  | 0, h, _ => absurd h (Nat.not_lt_zero m)
  | i + 1, h, h0 => by
    rw [clrR_s]
    unfold clr1
    by_cases e : m = i
    · subst e
      rw [if_pos (by rw [clr_6]; exact h0), up3_3, up3_4]
      exact ⟨rfl, rfl⟩
    · split
      · rw [up3_o (by omega) (by omega) (by omega), up3_o (by omega) (by omega) (by omega)]; exact clr_open s i (by omega) h0
      · exact clr_open s i (by omega) h0
theorem assign_ {t q n : Nat} {G L : OB} {s : Nat → Int32} (R : RLr t q L s) (V : VS (mmT t) s) (hn : 28 < n) : ∃ G' L', f3_assign n G L = some (nI (stgR t q s).1, G', L') ∧ RLr t q L' (stgR t q s).2 := by
  obtain ⟨Rc, Rr⟩ := R
  have hmm : mmT t ≤ 28 := Rc.1.1.2.2.2.2
  have h3 := Rc.1.1.2.2.1
  have h8 := Rc.1.1.2.2.2.1
  obtain ⟨G0, hG0, hl0⟩ := forget_ (n := n) (G := G) (u := s) (by omega)
  have goal : ∃ r, f3_assign n G L = some r ∧ ∃ G' L', r = (nI (stgR t q s).1, G', L') ∧ RLr t q L' (stgR t q s).2 := by
    unfold f3_assign
    rw [hG0, Option.bind_some]
    refine loop_E (F := fun k p => f3_assign_b6 n (fun oG oL => f3_assign_b68 n oG oL) k p.1 p.2.1 p.2.2) (I := fun i (p : Int32 × OB × OB) => p.1 = nI i ∧ LQs p.2.1 (clrR s i) i ∧ RLc t q p.2.2 (clrR s i) ∧ ∀ m, m < mmT t → ¬ s (18 + 9 * m + 6) = 0 → p.2.2.2 11 m = clrR s i (18 + 9 * m + 5)) (N := mmT t) ?_ ?_ n (nI 0, G0, L) (by omega) ⟨rfl, hl0, Rc, fun m hm _ => Rr m hm⟩
    · rintro k ⟨v, G1, L1⟩ ⟨e, hl, R1, hr⟩
      dsimp only at e hl R1 hr ⊢
      subst e
      rw [f3_assign_b6, R1.2.1.2.2, if_pos (by rw [nI_le' (by omega) (by omega)]; exact Nat.le_refl _)]
      unfold f3_assign_b68
      refine loop_E (F := fun k p => f3_assign_b72 n k p.1 p.2.1 p.2.2.1 p.2.2.2) (I := fun i (p : Int32 × Int32 × OB × OB) => p.1 = nI (asgR t q (clrR s (mmT t)) i).1 ∧ p.2.1 = nI i ∧ RLi t q p.2.2.2 (asgR t q (clrR s (mmT t)) i).2 i ∧ LQs p.2.2.1 (asgR t q (clrR s (mmT t)) i).2 (mmT t) ∧ OPN (mmT t) (asgR t q (clrR s (mmT t)) i).2 i) (N := mmT t) ?_ ?_ n (nI 0, nI 0, G1, L1) (by omega) ⟨rfl, rfl, ⟨R1, fun m hm h => ?_⟩, hl, fun m hm _ h => ?_⟩
      · rintro k ⟨c, v, G2, L2⟩ ⟨e1, e2, R2, hl2, ho2⟩
        dsimp only at e1 e2 R2 hl2 ho2 ⊢
        subst e1; subst e2
        rw [f3_assign_b72, R2.1.2.1.2.2, if_pos (by rw [nI_le' (by omega) (by omega)]; exact Nat.le_refl _)]
        exact ⟨_, rfl, _, _, rfl, R2.1, fun m hm => R2.2 m hm (Or.inl hm)⟩
      · rintro k i ⟨c, v, G2, L2⟩ hi ⟨e1, e2, R2, hl2, ho2⟩
        dsimp only at e1 e2 R2 hl2 ho2 ⊢
        subst e1; subst e2
        rw [asgR_s]
        have hcl := asgR_le t q (clrR s (mmT t)) i
        generalize asgR t q (clrR s (mmT t)) i = P at R2 hl2 ho2 hcl ⊢
        obtain ⟨c, u⟩ := P
        dsimp only at R2 hl2 ho2 hcl ⊢
        have h12 : L2.2 12 i = u (18 + 9 * i + 6) := (R2.1.2.2.2 i hi).2.2.1
        by_cases c0 : u (18 + 9 * i + 6) = 0
        · obtain ⟨G', L', hA, R', hl', ho'⟩ := assignOne_ (n := n) R2 hl2 ho2 (by omega) hi c0
          refine ⟨(nI (c + (asg1 t q u i).1), nI (i + 1), G', L'), ⟨rfl, rfl, R', hl', ho'⟩, ?_⟩
          dsimp only
          rw [f3_assign_b72, R2.1.2.1.2.2]
          simp (disch := omega) only [nI_le', ald_nI, Option.bind_some, h12, c0]
          rw [if_neg (by omega), if_pos trivial, hA, Option.bind_some]
          dsimp only
          have h1 := asg1_le t q u i
          by_cases e : (asg1 t q u i).1 = 0
          · rw [e, if_pos (show nI 0 = 0 from rfl), nI_add]; rfl
          · have e : (asg1 t q u i).1 = 1 := by omega
            rw [e, if_neg (show ¬ nI 1 = 0 by decide), nI_add, nI_add]
        · have ha : asg1 t q u i = (0, u) := by unfold asg1; rw [if_neg c0]
          rw [ha]
          refine ⟨(nI (c + 0), nI (i + 1), G2, L2), ⟨rfl, rfl, ⟨R2.1, fun m hm h => ?_⟩, hl2, fun m hm him h => ho2 m hm (by omega) h⟩, ?_⟩
          · rcases h with h | h
            · by_cases e : m = i
              · subst e
                exact R2.2 m hm (Or.inr c0)
              · exact R2.2 m hm (Or.inl (by omega))
            · exact R2.2 m hm (Or.inr h)
          · dsimp only
            rw [f3_assign_b72, R2.1.2.1.2.2]
            simp (disch := omega) only [nI_le', ald_nI, Option.bind_some, h12, c0, if_false, nI_add]
            rw [if_neg (by omega)]
            rfl
      · rcases h with h | h
        · exact absurd h (Nat.not_lt_zero m)
        · exact hr m hm (by rw [← clr_6 s m (mmT t)]; exact h)
      · exact clr_open s (mmT t) hm (by rw [← clr_6 s m (mmT t)]; exact h)
    · rintro k i ⟨v, G1, L1⟩ hi ⟨e, hl, R1, hr⟩
      dsimp only at e hl R1 hr ⊢
      subst e
      have h12 : L1.2 12 i = clrR s i (18 + 9 * i + 6) := (R1.2.2.2 i hi).2.2.1
      rw [clr_6] at h12
      obtain ⟨⟨c0', c1', c2'⟩, ⟨c9, c10⟩, -⟩ := R1.2.2.2 i hi
      have hr0 := (R1.1.2.2 i hi).1
      have b7 := tb_r h3 h8 hi
      rw [clrR_s]
      by_cases c0 : s (18 + 9 * i + 6) = 0
      · have hc1 : clr1 (clrR s i) i = up3 (clrR s i) i (-1) (-1) (nI 0) := by unfold clr1; rw [if_pos (by rw [clr_6]; exact c0)]
        rw [hc1]
        refine ⟨(nI (i + 1), G1, gsa (gsa L1 9 (upd (L1.2 9) i (-1))) 10 (upd ((gsa L1 9 (upd (L1.2 9) i (-1))).2 10) i (-1))), ⟨rfl, ?_, R1.put (by omega) rfl ?_ ?_ ?_, fun m hm h => ?_⟩, ?_⟩
        · refine LQ.congr hl fun a ha => ?_
          have hc : ∀ (w : Nat) (r : Int32), (w = 3 ∨ w = 4) → cn (hvP (clrR s i) w (nI a) r) i = cn (hvP (up3 (clrR s i) i (-1) (-1) (nI 0)) w (nI a) r) (i + 1) := by
            intro w r hw
            rw [cn_s, cn_congr (fun m hm => hv_up3 (v := -1) (k := -1) (y := nI 0) (u := clrR s i) (a := nI a) (r := r) (show m ≠ i by omega) hw)]
            rw [show hvP (up3 (clrR s i) i (-1) (-1) (nI 0)) w (nI a) r i = false from by rcases hw with rfl | rfl; exact hv_m1 ha (up3_3 _ _ _ _ _); exact hv_m1 ha (up3_4 _ _ _ _ _)]
            rfl
          refine ⟨hc 3 _ (Or.inl rfl), hc 4 _ (Or.inr rfl), fun r hr => ⟨?_, ?_⟩⟩
          · unfold zUsed; rw [hc 3 _ (Or.inl rfl)]
          · unfold zUsed; rw [hc 4 _ (Or.inr rfl)]
        · simp only [gsa_2, Nat.reduceEqDiff, if_false, if_true]
        · simp only [gsa_2, Nat.reduceEqDiff, if_false, if_true]
        · intro j h9 h10 h11
          simp only [gsa_2, h9, h10, if_false]
        · have hmi : m ≠ i := fun e => h (by rw [e]; exact c0)
          rw [up3_o (by omega) (by omega) (by omega)]
          simp only [gsa_2, Nat.reduceEqDiff, if_false]
          exact hr m hm h
        · dsimp only
          rw [f3_assign_b6, R1.2.1.2.2]
          simp (disch := omega) only [nI_le', ald_nI, Option.bind_some, h12, c0, if_true, oast_nI, nI_add]
          rw [if_neg (by omega)]
      · have hc1 : clr1 (clrR s i) i = clrR s i := by unfold clr1; rw [if_neg (by rw [clr_6]; exact c0)]
        rw [hc1]
        obtain ⟨v, x, hv, hx, e3, e4⟩ := V i hi c0
        have g3 : clrR s i (18 + 9 * i + 3) = nI v := by rw [clr_ge s (by omega) i (Nat.le_refl i)]; exact e3
        have g4 : clrR s i (18 + 9 * i + 4) = nI x := by rw [clr_ge s (by omega) i (Nat.le_refl i)]; exact e4
        obtain ⟨G', hG, hlG⟩ := load_ (n := n) hl hv hx b7
        refine ⟨(nI (i + 1), G', L1), ⟨rfl, ?_, R1, hr⟩, ?_⟩
        · have hp : ∀ (w y a : Nat) (r : Int32), y < 6 → a < 6 → clrR s i (18 + 9 * i + w) = nI y → hvP (clrR s i) w (nI a) r i = (decide (a = y) && (decide (r = -1) || decide (nI (rdT t i) = r))) := by
            intro w y a r hy ha e
            unfold hvP
            rw [e, hr0]
            congr 1
            exact decide_eq_decide.mpr ((nI_inj (show y < 2147483648 by omega) (show a < 2147483648 by omega)).trans eq_comm)
          refine LQ.congr hlG fun a ha => ⟨?_, ?_, fun r hr => ⟨?_, ?_⟩⟩
          · show _ = cn _ (i + 1)
            rw [cn_s, hp 3 v a (-1) hv ha g3]
            unfold ld6
            by_cases e : a = v <;> simp [e]
          · show _ = cn _ (i + 1)
            rw [cn_s, hp 4 x a (-1) hx ha g4]
            unfold ld6
            by_cases e : a = x <;> simp [e]
          · unfold zUsed
            rw [cn_s, hp 3 v a (nI r) hv ha g3, decide_eq_false (nI_m1 (by omega)), Bool.false_or, decide_eq_decide.mpr (nI_inj (show rdT t i < 2147483648 by omega) (show r < 2147483648 by omega)), show decide (rdT t i = r) = decide (r = rdT t i) from decide_eq_decide.mpr eq_comm]
            by_cases e : a = v <;> by_cases e2 : r = rdT t i <;> by_cases e3 : cn (hvP (clrR s i) 3 (nI a) (nI r)) i = 0 <;> simp [e, e2, e3]
          · unfold zUsed
            rw [cn_s, hp 4 x a (nI r) hx ha g4, decide_eq_false (nI_m1 (by omega)), Bool.false_or, decide_eq_decide.mpr (nI_inj (show rdT t i < 2147483648 by omega) (show r < 2147483648 by omega)), show decide (rdT t i = r) = decide (r = rdT t i) from decide_eq_decide.mpr eq_comm]
            by_cases e : a = x <;> by_cases e2 : r = rdT t i <;> by_cases e3 : cn (hvP (clrR s i) 4 (nI a) (nI r)) i = 0 <;> simp [e, e2, e3]
        · dsimp only
          rw [f3_assign_b6, R1.2.1.2.2]
          simp (disch := omega) only [nI_le', ald_nI, Option.bind_some, h12, c0, if_false, nI_add, c9, c10, c0', g3, g4, hr0, hG]
          rw [if_neg (by omega)]
  obtain ⟨r, h1, G', L', rfl, h2⟩ := goal
  exact ⟨G', L', h1, h2⟩
