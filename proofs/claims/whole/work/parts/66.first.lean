/-! WHAT HOLDS AT FIRST -/
theorem first_ (ad : Nat → Nat → Nat) : ∃ z zM, f1_restart 3000 oS1 (4 : Int32) = some z ∧ f6_begins 3000 oS6 (4 : Int32) = some zM ∧ AL z oZ ((0 : Int32), ad, fun _ => z) zM := by
  obtain ⟨z, e1, C1⟩ := restart_ (t := 4) (n := 3000) (L := oS1) (by omega) (by omega) (by omega)
  obtain ⟨u, e2, C2⟩ := begins_ (t := 4) (n := 3000) (M := oS6) (by omega) (by omega) (by omega)
  refine ⟨z, gsa oS6 0 u, e1, e2, ?_, ?_, ?_⟩
  · show LG z u
    refine lg_begin (t := 4) (q := 9) (L := oS1) (s := oS6.2 0) (by omega) (by omega) ⟨2, 1, 20, ⟨by decide +kernel, by omega, by omega⟩, ⟨by decide +kernel, by omega⟩, ⟨by decide +kernel, by omega, by omega⟩⟩ (by decide +kernel) (by omega) (by omega) ?_ C2 C1
    intro j hj
    rcases (show j = 0 ∨ j = 1 ∨ j = 2 ∨ j = 3 by omega) with rfl | rfl | rfl | rfl <;> decide +kernel
  · exact ⟨0, rfl, rfl, by omega, fun k hk => absurd hk (by omega)⟩
  · exact ⟨fun _ => 0, 0, by omega, fun k hk => absurd hk (by omega), ⟨rfl, fun k hk => absurd hk (by omega)⟩, rfl, fun k hk => absurd hk (by omega)⟩
