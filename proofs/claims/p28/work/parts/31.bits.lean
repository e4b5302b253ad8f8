/-! PURE: the share of the last: its pairs -/
def shr (x y : Int32) : UInt64 := if 0 < x then FP.ddiv (FP.i2d y) (FP.i2d x) else FP.dconst1
def fpB (a : Nat) : Bool := (List.range 43).all fun b => (nn (FP.ddiv (FP.i2d (nI b - nI 7)) (FP.i2d (nI a)))).isSome && decide (f5_bitsOf 3000 (FP.ddiv (FP.i2d (nI b - nI 7)) (FP.i2d (nI a))) = fJ_doubleToLongBits_ccdee 3000 (FP.ddiv (FP.i2d (nI b - nI 7)) (FP.i2d (nI a)))) && (fJ_doubleToLongBits_ccdee 3000 (FP.ddiv (FP.i2d (nI b - nI 7)) (FP.i2d (nI a)))).isSome
theorem fpB_all : (List.range 36).all (fun a => decide (a = 0) || fpB a) = true := by decide +kernel
theorem fp_one : (fJ_doubleToLongBits_ccdee 3000 FP.dconst1).isSome = true ∧ f5_bitsOf 3000 FP.dconst1 = fJ_doubleToLongBits_ccdee 3000 FP.dconst1 := by decide +kernel
theorem fp_pair {a b : Nat} (h0 : 0 < a) (ha : a < 36) (hb : b < 43) : (∃ u, nn (FP.ddiv (FP.i2d (nI b - nI 7)) (FP.i2d (nI a))) = some u) ∧ f5_bitsOf 3000 (FP.ddiv (FP.i2d (nI b - nI 7)) (FP.i2d (nI a))) = fJ_doubleToLongBits_ccdee 3000 (FP.ddiv (FP.i2d (nI b - nI 7)) (FP.i2d (nI a))) ∧ (fJ_doubleToLongBits_ccdee 3000 (FP.ddiv (FP.i2d (nI b - nI 7)) (FP.i2d (nI a)))).isSome = true := by
  have h1 := List.all_eq_true.mp fpB_all a (List.mem_range.mpr ha)
  rw [decide_eq_false (by omega), Bool.false_or] at h1
  have h2 := List.all_eq_true.mp h1 b (List.mem_range.mpr hb)
  rw [Bool.and_eq_true, Bool.and_eq_true, decide_eq_true_eq] at h2
  obtain ⟨⟨h3, h4⟩, h5⟩ := h2
  refine ⟨?_, h4, h5⟩
  revert h3
  cases nn (FP.ddiv (FP.i2d (nI b - nI 7)) (FP.i2d (nI a))) with
  | none => intro h; cases h
  | some u => intro _; exact ⟨u, rfl⟩
