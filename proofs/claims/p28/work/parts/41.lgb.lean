/-! PURE: what a league is that begins -/
theorem lg_begin {t q : Nat} {L L' : OB} {s u : Nat → Int32} (h3 : 3 ≤ t) (h8 : t ≤ 8) (G : SGv s) (hq : s 3 = nI q) (hq1 : 1 ≤ q) (hq2 : q ≤ 28) (g3 : ∀ j, j < 4 → L.2 3 j = s j) (B : MB t (mmT t) s u) (C : LB t (mmT t) L L') : LG L' u := by
  have hmm := tb_mm h3 h8
  obtain ⟨m0, ⟨m4, m5⟩, m6, mm1, mz⟩ := B
  obtain ⟨⟨l0, l1, l2⟩, ls, ⟨k4, k5⟩, lm⟩ := C
  obtain ⟨a, b, c, ha, hb, hc⟩ := G
  refine ⟨t, q, ⟨⟨⟨⟨m4, m5, h3, h8, hmm⟩, ⟨(m0 3 (by omega)).trans hq, hq1, hq2⟩, fun m hm => (mm1 m hm).1⟩, ⟨l0, l1, l2⟩, ⟨fun j hj => ?_, fun j hj => ?_, fun j hj => ?_⟩, fun m hm => ?_⟩, fun m hm => ?_⟩, ⟨⟨⟨a, b, c, ?_, ?_, ?_⟩, fun m hm => ⟨0, by omega, (mz m (by omega)).2.1⟩, fun m hm => ⟨0, 0, by omega, by omega, (mz m (by omega)).2.2.1, (mz m (by omega)).2.2.2⟩⟩, fun m hm h0 => absurd (mz m (by omega)).2.1 h0, fun w hw k hk r hr => ?_, fun m hm => Or.inl (mm1 m hm).2.1⟩⟩
  · rw [ls, g3 j hj, m0 j hj]
  · rw [k4 j hj, m6 j (by omega)]
  · rw [k5 j hj, show 12 + j = 6 + (6 + j) by omega, m6 (6 + j) (by omega)]
  · obtain ⟨⟨c6, c7, c8⟩, ⟨c9, c10, c11⟩, c12⟩ := lm m hm
    obtain ⟨⟨d0, d1, d2⟩, d3, d4⟩ := mm1 m hm
    obtain ⟨d5, d6, d7, d8⟩ := mz m (by omega)
    exact ⟨⟨c6.trans d0.symm, c7.trans d1.symm, c8.trans d2.symm⟩, ⟨c9.trans d3.symm, c10.trans d4.symm⟩, c12.trans d6.symm, fun h => absurd (d6.trans nI_0) h, fun h => absurd (d6.trans nI_0) h⟩
  · exact (lm m hm).2.1.2.2.trans (mz m (by omega)).1.symm
  · rw [m0 0 (by omega)]; exact ha
  · rw [m0 1 (by omega)]; exact hb
  · rw [m0 2 (by omega)]; exact hc
  · rw [cn_0.mpr fun m hm => hv_m1 hk (by rcases hw with rfl | rfl; exact (mm1 m hm).2.1; exact (mm1 m hm).2.2)]
    omega
theorem lg_again {t n : Nat} {L M : OB} (h3 : 3 ≤ t) (h8 : t ≤ 8) (hL : LG L (M.2 0)) (hn : 270 < n) : ∃ L' u, f1_restart n L (nI t) = some L' ∧ f6_begins n M (nI t) = some (gsa M 0 u) ∧ LG L' u ∧ L'.1 2 = nI (mmT t) ∧ u 5 = nI (mmT t) := by
  obtain ⟨t0, q, R, G⟩ := hL
  obtain ⟨L', e1, C⟩ := restart_ (L := L) h3 h8 (show 28 < n by omega)
  obtain ⟨u, e2, B⟩ := begins_ (M := M) h3 h8 hn
  exact ⟨L', u, e1, e2, lg_begin h3 h8 G.1.1 R.1.1.2.1.1 R.1.1.2.1.2.1 R.1.1.2.1.2.2 R.1.2.2.1.1 B C, C.1.2.2, B.2.1.2⟩
