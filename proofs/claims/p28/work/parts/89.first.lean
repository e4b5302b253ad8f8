/-! WHAT HOLDS AT FIRST -/
theorem first_ : ∃ z, f1_restart 3000 oS1 (4 : Int32) = some z ∧ LX z := by
  obtain ⟨z, e1, C1⟩ := restart_ (t := 4) (n := 3000) (L := oS1) (by omega) (by omega) (by omega)
  obtain ⟨u, -, Bb⟩ := begins_ (t := 4) (n := 3000) (M := gsa oZ 0 sVF) (by omega) (by omega) (by omega)
  rw [gsa_s] at Bb
  refine ⟨z, e1, ?_⟩
  obtain ⟨t2, q2, R2, G2⟩ := lg_begin (t := 4) (q := 9) (L := oS1) (s := sVF) (by omega) (by omega) ⟨2, 1, 20, ⟨by decide +kernel, by omega, by omega⟩, ⟨by decide +kernel, by omega⟩, ⟨by decide +kernel, by omega, by omega⟩⟩ (by decide +kernel) (by omega) (by omega) (by
    intro j hj
    rcases (show j = 0 ∨ j = 1 ∨ j = 2 ∨ j = 3 by omega) with rfl | rfl | rfl | rfl <;> decide +kernel) Bb C1
  have h8 := R2.1.1.1.2.2.2.1
  have et : t2 = 4 := (nI_inj (by omega) (by omega)).mp (R2.1.1.1.1.symm.trans Bb.2.1.1)
  refine ⟨t2, q2, u, R2, G2, ?_, ?_⟩
  · rw [et]
    exact fun k hk => Or.inl (Bb.2.2.2.1 k hk).2
  · exact fun k hk => ⟨0, by omega, Bb.2.2.1 k hk⟩
theorem first_P (ad : Nat → Nat → Nat) (z : OB) : PX ((0 : Int32), ad, fun _ => z) := ⟨0, rfl, by omega, fun i hi => absurd hi (Nat.not_lt_zero i)⟩
