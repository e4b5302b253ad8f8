/-! PURE: the share of the last -/
theorem ta_first {t : Nat} {s : Nat → Int32} (h3 : 3 ≤ t) : ∃ f, f < t ∧ TA s t 0 = some f := by
  obtain ⟨a, ha, h0, -⟩ := pz_first (P := Pz s (mmT t)) (D := Dz s (mmT t)) (A := Az s (mmT t)) (t := t) (by omega)
  refine ⟨a, ha, ?_⟩
  unfold TA
  exact taR_u ha (decide_eq_true h0) (fun j hj hp => pz_inj hj ha ((of_decide_eq_true hp).trans h0.symm))
theorem ta_last {t : Nat} {s : Nat → Int32} (h3 : 3 ≤ t) : ∃ l, l < t ∧ TA s t (t - 1) = some l := by
  obtain ⟨a, ha, h0⟩ := pz_last (P := Pz s (mmT t)) (D := Dz s (mmT t)) (A := Az s (mmT t)) (t := t) (by omega)
  refine ⟨a, ha, ?_⟩
  unfold TA
  exact taR_u ha (decide_eq_true h0) (fun j hj hp => pz_inj hj ha ((of_decide_eq_true hp).trans h0.symm))
def SHR (v : UInt64) : Prop := f5_bitsOf 3000 v = fJ_doubleToLongBits_ccdee 3000 v ∧ (fJ_doubleToLongBits_ccdee 3000 v).isSome = true
theorem shr_ok {x y x' y' : Nat} (hx : x ≤ 35) (hy : y ≤ 7) (hx' : x' ≤ 35) (hy' : y' ≤ 7) : SHR (shr (nI x - nI y) (nI x' - nI y')) ∧ ((0 : Int32) < nI x - nI y → ∃ u, nn (FP.ddiv (FP.i2d (nI x' - nI y')) (FP.i2d (nI x - nI y))) = some u) := by
  have e2 : nI x' - nI y' = nI (x' + 7 - y') - nI 7 := by
    rw [← pk_sub (show y' ≤ x' + 7 by omega), ← nI_add]
    grind
  unfold shr SHR
  by_cases c : (0 : Int32) < nI x - nI y
  · have c' : y < x := by
      have h1 := Int32.lt_iff_toInt_lt.mp c
      rw [ti_sub (by rw [ti_nI (by omega)]; omega) (by rw [ti_nI (by omega)]; omega) (by rw [ti_nI (by omega)]; omega) (by rw [ti_nI (by omega)]; omega), ti_nI (by omega), ti_nI (by omega), show (0 : Int32).toInt = 0 from rfl] at h1
      omega
    have h := fp_pair (a := x - y) (b := x' + 7 - y') (by omega) (by omega) (by omega)
    rw [if_pos c, e2, pk_sub (show y ≤ x by omega)]
    exact ⟨⟨h.2.1, h.2.2⟩, fun _ => h.1⟩
  · rw [if_neg c]
    exact ⟨⟨fp_one.2, fp_one.1⟩, fun h => absurd h c⟩
theorem share_ {t n : Nat} {S M : OB} {s : Nat → Int32} (hM : M.2 0 = s) (H : HG t (mmT t) s) (T : TBL S t s) (TM : TMS t s) (hn : 28 < n) : ∃ v, f4_shareOfLast n S = some v ∧ f6_nearness n M = some v ∧ SHR v := by
  have T0 := T
  obtain ⟨C, G, B, h3, h8⟩ := T
  have hmm := tb_mm h3 h8
  obtain ⟨f, hf, ef⟩ := ta_first (s := s) h3
  obtain ⟨l, hl, el⟩ := ta_last (s := s) h3
  obtain ⟨x, y, hx, hy, e1⟩ := pt_35 G B TM h3 h8 hf
  obtain ⟨x', y', hx', hy', e2⟩ := pt_35 G B TM h3 h8 hl
  obtain ⟨k1, k2⟩ := shr_ok hx hy hx' hy'
  rw [← e1, ← e2] at k1 k2
  refine ⟨_, ?_, ?_, k1⟩
  · unfold f4_shareOfLast
    rw [teamAtC_ T0 (by omega) hn, ef, Option.bind_some]
    dsimp only [oN]
    rw [propertyC_ T0 hf (by omega) hn, Option.bind_some, C.1, pk_sub (by omega), teamAtC_ T0 (by omega) hn, el, Option.bind_some]
    dsimp only [oN]
    rw [propertyC_ T0 hl (by omega) hn, Option.bind_some]
    unfold shr
    rw [show ofT s t f 0 = ptR s (mmT t) (nI f) from rfl, show ofT s t l 0 = ptR s (mmT t) (nI l) from rfl]
    by_cases c : (0 : Int32) < ptR s (mmT t) (nI f)
    · obtain ⟨u, hu⟩ := k2 c
      rw [if_pos c, if_pos c, hu, Option.bind_some]
    · rw [if_neg c, if_neg c]
  · unfold f6_nearness
    rw [hM, teamAtM_ H T0 (by omega) hn, ef, Option.bind_some]
    dsimp only [oN]
    rw [points_ H (by omega), Option.bind_some, ald_nI (by omega) (by omega), Option.bind_some, H.1, pk_sub (by omega), teamAtM_ H T0 (by omega) hn, el, Option.bind_some]
    dsimp only [oN]
    rw [points_ H (by omega), Option.bind_some]
    unfold shr
    by_cases c : (0 : Int32) < ptR s (mmT t) (nI f)
    · obtain ⟨u, hu⟩ := k2 c
      rw [if_pos c, if_pos c, hu, Option.bind_some]
    · rw [if_neg c, if_neg c]
