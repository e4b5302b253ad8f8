/-! PURE: the share of the last is 1.0 at most -/
def fpC (a : Nat) : Bool := (List.range (a + 8)).all fun b => decide (¬ (0 : Int32) < Op.cmpValue (FP.dcmp (FP.ddiv (FP.i2d (nI b - nI 7)) (FP.i2d (nI a))) FP.dconst1) .g)
theorem fpC_all : (List.range 36).all (fun a => decide (a = 0) || fpC a) = true := by decide +kernel
theorem fp_1 : ¬ (0 : Int32) < Op.cmpValue (FP.dcmp FP.dconst1 FP.dconst1) .g := by decide +kernel
theorem fp_le {a b : Nat} (h0 : 0 < a) (ha : a < 36) (hb : b < a + 8) : ¬ (0 : Int32) < Op.cmpValue (FP.dcmp (FP.ddiv (FP.i2d (nI b - nI 7)) (FP.i2d (nI a))) FP.dconst1) .g := by
  have h1 := List.all_eq_true.mp fpC_all a (List.mem_range.mpr ha)
  rw [decide_eq_false (by omega), Bool.false_or] at h1
  exact of_decide_eq_true (List.all_eq_true.mp h1 b (List.mem_range.mpr hb))
theorem clo_ {t q : Nat} {S G L U V B : OB} {X : HS} {s : Nat → Int32} (I : IL t q L s) : ∃ v, f5_closeness 3000 S G L U V B X = some (v, CS S L) ∧ ¬ (0 : Int32) < Op.cmpValue (FP.dcmp v FP.dconst1) .g := by
  obtain ⟨ec, T0⟩ := cs_ (S := S) I
  have T1 := T0
  obtain ⟨C, Gg, Bb, h3, h8⟩ := T1
  have hmm := I.mm
  obtain ⟨f, hf, ef⟩ := ta_first (s := s) h3
  obtain ⟨l, hl, el⟩ := ta_last (s := s) h3
  obtain ⟨x, y, hx, hy, e1⟩ := pt_35 Gg Bb I.1.tms h3 h8 hf
  obtain ⟨x', y', hx', hy', e2⟩ := pt_35 Gg Bb I.1.tms h3 h8 hl
  obtain ⟨-, k2⟩ := shr_ok hx hy hx' hy'
  have pf : PL s t f = 0 := of_decide_eq_true (taR_lt ef).2
  have hle := pl_pt (s := s) hf hl (by omega)
  have hsh : f4_shareOfLast 3000 (CS S L) = some (shr (ptR s (mmT t) (nI f)) (ptR s (mmT t) (nI l))) := by
    rw [← e1, ← e2] at k2
    unfold f4_shareOfLast
    rw [teamAtC_ T0 (by omega) (by omega), ef, Option.bind_some]
    dsimp only [oN]
    rw [propertyC_ T0 hf (by omega) (by omega), Option.bind_some, C.1, pk_sub (by omega), teamAtC_ T0 (by omega) (by omega), el, Option.bind_some]
    dsimp only [oN]
    rw [propertyC_ T0 hl (by omega) (by omega), Option.bind_some]
    unfold shr
    rw [show ofT s t f 0 = ptR s (mmT t) (nI f) from rfl, show ofT s t l 0 = ptR s (mmT t) (nI l) from rfl]
    by_cases c : (0 : Int32) < ptR s (mmT t) (nI f)
    · obtain ⟨u, hu⟩ := k2 c
      rw [if_pos c, if_pos c, hu, Option.bind_some]
    · rw [if_neg c, if_neg c]
  refine ⟨shr (ptR s (mmT t) (nI f)) (ptR s (mmT t) (nI l)), ?_, ?_⟩
  · unfold f5_closeness
    rw [ec, Option.bind_some, hsh, Option.bind_some]
  · unfold shr
    by_cases c : (0 : Int32) < ptR s (mmT t) (nI f)
    · rw [if_pos c]
      unfold Pz at hle
      rw [e1] at c hle ⊢
      rw [e2] at hle ⊢
      have c1 := Int32.lt_iff_toInt_lt.mp c
      have a1 := ti_nI (k := x) (by omega)
      have a2 := ti_nI (k := y) (by omega)
      have a3 := ti_nI (k := x') (by omega)
      have a4 := ti_nI (k := y') (by omega)
      have b1 := ti_sub (x := nI x) (y := nI y) (by omega) (by omega) (by omega) (by omega)
      have b2 := ti_sub (x := nI x') (y := nI y') (by omega) (by omega) (by omega) (by omega)
      have b0 : (0 : Int32).toInt = 0 := rfl
      have hyx : y < x := by omega
      have e3 : nI x' - nI y' = nI (x' + 7 - y') - nI 7 := by
        rw [← pk_sub (show y' ≤ x' + 7 by omega), ← nI_add]
        grind
      rw [e3, pk_sub (show y ≤ x by omega)]
      exact fp_le (by omega) (by omega) (by omega)
    · rw [if_neg c]
      exact fp_1
