/-! PURE: the law's look at the matches -/
theorem ofM_lo {s : Nat → Int32} {m w : Nat} (h : w < 6) : ofM s m w = s (18 + 9 * m + w) := if_pos h
theorem ofM_8 {s : Nat → Int32} {m : Nat} : ofM s m 8 = s (18 + 9 * m + 6) := by unfold ofM; rw [if_neg (by decide), if_pos rfl]
theorem ofM_67 {s : Nat → Int32} {m σ : Nat} (hσ : σ < 2) : ofM s m (6 + σ) = if s (18 + 9 * m + 6) = 0 then -1 else scR s m σ := by
  unfold ofM
  rw [if_neg (by omega), if_neg (by omega), show 6 + σ - 6 = σ by omega]
theorem mt_own {t m : Nat} (h3 : 3 ≤ t) (h8 : t ≤ 8) (hm : m < mmT t) : taR (mtP t (fsT t m) (scT t m)) (mmT t) = some m := by
  obtain ⟨-, b1, b2, b3⟩ := tb_m h3 h8 hm
  have h1 := mt_1 h3 h8 b1 b2 b3
  have hp : mtP t (fsT t m) (scT t m) m = true := by unfold mtP; simp
  exact taR_u hm hp fun j hj hpj => cn_uni (by omega) hj hm hpj hp
theorem bz_own {t m r x w : Nat} {s : Nat → Int32} (U : UNI t s) (hm : m < mmT t) (hr : r < 7) (hx : x < 12) (hw : w = if x < 6 then 3 else 4) (h0 : s (18 + 9 * m + 0) = nI r) (hv : s (18 + 9 * m + w) = nI (x % 6)) : bzR s t r x = some m := by
  unfold bzR
  rw [← hw]
  have hp : hvP s w (nI (x % 6)) (nI r) m = true := by rw [hvP_r hr, hv, h0]; simp
  have hc := U w (by rw [hw]; split <;> omega) (x % 6) (by omega) r hr
  exact taR_u hm hp fun j hj hpj => cn_uni hc hj hm hpj hp
section MA
variable {t q j i ρ : Nat} {S G L U V B : OB} {X : HS} {s : Nat → Int32} {k12 : Int32 → Int32 → Int32 → Int32 → Int32 → OB → Option (Int32 × (OB))} {k429 : Int32 → Int32 → Int32 → Int32 → OB → Option (Int32 × (OB))} {v1 v2 v3 v5 v6 v10 s0 : Int32}
theorem m380 : fL_matches_b380 3000 G L U V B X k12 k429 v1 v2 v3 v5 v6 v10 s0 S = k12 (v1 + (if v6 = -1 then nI 0 else nI 1)) (v2 + (if v10 = 0 then nI 0 else nI 1)) (v3 + (if v10 ≤ nI 1 then nI 0 else nI 1)) s0 (v5 + nI 1) S := by
  unfold fL_matches_b380 fL_matches_b407
  by_cases c1 : v6 = -1 <;> by_cases c2 : v10 = 0 <;> by_cases c3 : v10 ≤ nI 1 <;> simp only [c1, c2, c3, if_true, if_false] <;> rfl
theorem sc_n0 (I : IL t q L s) (hi : i < mmT t) {σ : Nat} (hσ : σ < 2) : ¬ scR s i σ = -1 := by
  obtain ⟨k, hk, e⟩ := scR_b I.2.1.1.1 I.2.1.1.2.2 hi hσ
  rw [e]
  exact nI_m1 (by omega)
theorem m313 (I : IL t q L s) (hi : i < mmT t) (h6 : s (18 + 9 * i + 6) = nI ρ) (hρ : ρ < 4) : fL_matches_b313 3000 G L U V B X k12 k429 v1 v2 v3 (nI i) v6 (nI ρ) (nI 1) S = fL_matches_b380 3000 G L U V B X k12 k429 v1 v2 v3 (nI i) v6 (nI ρ) (nI 1) S := by
  have n0 : ¬ nI 1 = 0 := by decide
  have o6 : ofM s i 6 = if s (18 + 9 * i + 6) = 0 then -1 else scR s i 0 := ofM_67 (σ := 0) (by omega)
  have o7 : ofM s i 7 = if s (18 + 9 * i + 6) = 0 then -1 else scR s i 1 := ofM_67 (σ := 1) (by omega)
  unfold fL_matches_b313
  rw [if_neg n0]
  rcases (show ρ = 0 ∨ ρ = 1 ∨ ρ = 2 ∨ ρ = 3 by omega) with rfl | rfl | rfl | rfl
  · rw [if_pos (by decide)]
  · rw [if_pos (by decide)]
  · have e0 : scR s i 0 = nI 0 := by unfold scR; rw [h6, if_neg (by decide), if_pos rfl]
    have e1 : scR s i 1 = s 2 := by unfold scR; rw [h6, if_neg (by decide), if_neg (by decide)]
    have p6 : ofM s i 6 = nI 0 := by rw [o6, h6, if_neg (show ¬ nI 2 = 0 by decide), e0]
    have p7 : ofM s i 7 = s 2 := by rw [o7, h6, if_neg (show ¬ nI 2 = 0 by decide), e1]
    rw [if_neg (by decide), if_pos rfl]
    unfold fL_matches_b342
    rw [mat_ I hi (by omega), Option.bind_some, p6, if_pos (show nI 0 = 0 from rfl), if_pos rfl]
    unfold fL_matches_b364
    rw [mat_ I hi (by omega), Option.bind_some, set_ I (by omega), Option.bind_some, p7, if_pos rfl]
  · have e1 : scR s i 1 = nI 0 := by unfold scR; rw [h6, if_neg (by decide), if_pos rfl]
    have e0 : scR s i 0 = s 2 := by unfold scR; rw [h6, if_neg (by decide), if_neg (by decide)]
    have p6 : ofM s i 6 = s 2 := by rw [o6, h6, if_neg (show ¬ nI 3 = 0 by decide), e0]
    have p7 : ofM s i 7 = nI 0 := by rw [o7, h6, if_neg (show ¬ nI 3 = 0 by decide), e1]
    rw [if_neg (by decide), if_neg (by decide)]
    unfold fL_matches_b342
    rw [mat_ I hi (by omega), Option.bind_some, p7, if_pos (show nI 0 = 0 from rfl), if_neg (by decide)]
    unfold fL_matches_b364
    rw [mat_ I hi (by omega), Option.bind_some, set_ I (by omega), Option.bind_some, p6, if_pos rfl]
theorem m216 (I : IL t q L s) (hi : i < mmT t) (h6 : s (18 + 9 * i + 6) = nI ρ) (hρ : ρ < 4) : fL_matches_b216 3000 G L U V B X k12 k429 v1 v2 v3 (nI i) (s (18 + 9 * i + 3)) (s (18 + 9 * i + 4)) (nI (fsT t i)) (nI (scT t i)) (nI ρ) (nI t) (nI 1) S = fL_matches_b380 3000 G L U V B X k12 k429 v1 v2 v3 (nI i) (s (18 + 9 * i + 3)) (nI ρ) (nI 1) S := by
  have n0 : ¬ nI 1 = 0 := by decide
  have h3 := I.t3
  have h8 := I.t8
  have hmm := I.mm
  obtain ⟨b0, b1, b2, b3⟩ := tb_m h3 h8 hi
  obtain ⟨r0, r1, r2⟩ := I.1.1.1.2.2 i hi
  have b7 := tb_r h3 h8 hi
  unfold fL_matches_b216
  rw [if_neg n0, m313 I hi h6 hρ]
  rcases I.2.2.1 i hi with ⟨e3, e4⟩ | ⟨v, k, ⟨v6, k6⟩, ⟨e3, e4, e5⟩, nv, n1, n2⟩
  · rw [e3, if_pos rfl]
  · unfold nV at nv
    rw [Bool.and_eq_true, decide_eq_true_eq, decide_eq_true_eq] at nv
    have z1 : bzR s t (rdT t i) v = some i := bz_own (w := 3) I.2.1.2.2.1 hi b7 (by omega) (by rw [if_pos v6]) r0 (by rw [e3, Nat.mod_eq_of_lt v6])
    have z2 : bzR s t (rdT t i) (6 + k) = some i := bz_own (w := 4) I.2.1.2.2.1 hi b7 (by omega) (by rw [if_neg (by omega)]) r0 (by rw [e4, show (6 + k) % 6 = k by omega])
    rw [e3, e4, if_neg (nI_m1 (by omega)), nI_mod (by omega) (by omega) (by omega), if_neg (fun e => nv.1 ((nI_inj (by omega) (by omega)).mp e).symm), nI_mod (by omega) (by omega) (by omega), if_neg (fun e => nv.2 ((nI_inj (by omega) (by omega)).mp e).symm), nz_nI (by omega) (by omega), Option.bind_some, nI_mod (by omega) (by omega) (by omega)]
    have hk8 : k % t < 8 := Nat.lt_of_lt_of_le (Nat.mod_lt k (by omega)) h8
    rw [if_neg (fun e => n1 ((nI_inj (by omega) (by omega)).mp e).symm), Option.bind_some, if_neg (fun e => n2 ((nI_inj (by omega) (by omega)).mp e).symm), mat_ I hi (by omega), Option.bind_some, ofM_lo (by omega), r0, bus_ I b0 (by omega), Option.bind_some, z1]
    rw [if_pos (show oN (some i) = nI i from rfl), Option.bind_some, nI_add, bus_ I b0 (by omega), Option.bind_some, z2, if_pos (show oN (some i) = nI i from rfl)]
theorem m122 (I : IL t q L s) (hi : i < mmT t) (h6 : s (18 + 9 * i + 6) = nI ρ) (hρ : ρ < 4) : fL_matches_b122 3000 G L U V B X k12 k429 v1 v2 v3 (nI i) (s (18 + 9 * i + 3)) (s (18 + 9 * i + 4)) (nI (fsT t i)) (nI (scT t i)) (nI ρ) (nI t) s0 s0 S = fL_matches_b380 3000 G L U V B X k12 k429 v1 v2 v3 (nI i) (s (18 + 9 * i + 3)) (nI ρ) (nI 1) S := by
  have hmm := I.mm
  have o6 : ofM s i 6 = if s (18 + 9 * i + 6) = 0 then -1 else scR s i 0 := ofM_67 (σ := 0) (by omega)
  have o7 : ofM s i 7 = if s (18 + 9 * i + 6) = 0 then -1 else scR s i 1 := ofM_67 (σ := 1) (by omega)
  have n6 := sc_n0 I hi (σ := 0) (by omega)
  have n7 := sc_n0 I hi (σ := 1) (by omega)
  have f192 : ∀ x, fL_matches_b192 3000 G L U V B X k12 k429 v1 v2 v3 (nI i) (s (18 + 9 * i + 3)) (s (18 + 9 * i + 4)) (nI (fsT t i)) (nI (scT t i)) (nI ρ) (nI t) x x S = fL_matches_b380 3000 G L U V B X k12 k429 v1 v2 v3 (nI i) (s (18 + 9 * i + 3)) (nI ρ) (nI 1) S := by
    intro x
    unfold fL_matches_b192
    rw [if_pos rfl, m216 I hi h6 hρ]
    split
    · rfl
    · rename_i c
      rcases I.2.2.1 i hi with ⟨e3, e4⟩ | ⟨v, k, ⟨v6, k6⟩, ⟨e3, e4, e5⟩, nv, n1, n2⟩
      · exact absurd e3 c
      · rw [mat_ I hi (by omega), Option.bind_some, ofM_lo (by omega), e5, if_pos (show nI 0 = 0 from rfl)]
  unfold fL_matches_b122
  rw [if_pos rfl]
  by_cases c0 : ρ = 0
  · subst c0
    rw [if_pos (show nI 0 = 0 from rfl), if_pos (show nI 0 = 0 from rfl)]
    unfold fL_matches_b145
    rw [mat_ I hi (by omega), Option.bind_some, o6, h6, if_pos (show nI 0 = 0 from rfl), if_pos rfl, if_pos rfl, if_pos (show nI 0 = 0 from rfl)]
    unfold fL_matches_b175
    rw [mat_ I hi (by omega), Option.bind_some, o7, h6, if_pos (show nI 0 = 0 from rfl), if_pos rfl]
    exact f192 _
  · have cz : ¬ nI ρ = 0 := fun e => c0 ((nI_z (by omega)).mp e)
    have hv : ¬ s (18 + 9 * i + 3) < (0 : Int32) := by
      obtain ⟨v, k, v6, -, e, -⟩ := I.2.1.2.1 i hi (by rw [h6]; exact cz)
      rw [e]
      exact nI_neg (by omega)
    rw [if_neg cz, if_neg hv, if_neg cz]
    unfold fL_matches_b145
    rw [mat_ I hi (by omega), Option.bind_some, o6, h6, if_neg cz, if_neg n6, if_pos rfl, if_neg cz]
    unfold fL_matches_b175
    rw [mat_ I hi (by omega), Option.bind_some, o7, h6, if_neg cz, if_neg n7]
    exact f192 _
theorem ma_1 (I : IL t q L s) (hj : X.1 = nI j) {K : Int32 → Int32 → Int32 → Int32 → OB → Option (Int32 × (OB))} : ∀ (d i k : Nat) (S : OB), i + d = mmT t → d < k → ∃ S', fL_matches_b12 3000 G L U V B X K k (nI (cn (vnP s) i)) (nI (cn (rsP s) i)) (nI (cn (woP s) i)) (nI 1) (nI i) S = K (nI (cn (vnP s) (mmT t))) (nI (cn (rsP s) (mmT t))) (nI (cn (woP s) (mmT t))) (nI 1) S' := by
  have h3 := I.t3
  have h8 := I.t8
  have hmm := I.mm
  intro d
  induction d with
  | zero =>
    intro i k S h hk
    obtain ⟨k, rfl⟩ : ∃ z, k = z + 1 := ⟨k - 1, by omega⟩
    have e : i = mmT t := by omega
    rw [e, fL_matches_b12, cnt_ I hj (by omega), Option.bind_some]
    dsimp only
    rw [if_pos (show cnV s t j 2 ≤ nI (mmT t) by show nI (mmT t) ≤ nI (mmT t); exact Int32.le_refl _)]
    exact ⟨_, rfl⟩
  | succ d ih =>
    intro i k S h hk
    obtain ⟨k, rfl⟩ : ∃ z, k = z + 1 := ⟨k - 1, by omega⟩
    have hi : i < mmT t := by omega
    obtain ⟨b0, b1, b2, b3⟩ := tb_m h3 h8 hi
    obtain ⟨r0, r1, r2⟩ := I.1.1.1.2.2 i hi
    obtain ⟨ρ, hρ, h6⟩ := I.2.1.1.2.1 i hi
    have i1 := ih (i + 1) k (CS (CS S L) L) (by omega) (by omega)
    rw [cn_s, cn_s, cn_s] at i1
    rw [fL_matches_b12, cnt_ I hj (by omega), Option.bind_some]
    dsimp only
    rw [if_neg (show ¬ cnV s t j 2 ≤ nI i by show ¬ nI (mmT t) ≤ nI i; rw [nI_le' (by omega) (by omega)]; omega), if_neg (show ¬ nI 1 = 0 by decide)]
    rw [mat_ I hi (by omega), Option.bind_some, mat_ I hi (by omega), Option.bind_some, mat_ I hi (by omega), Option.bind_some, mat_ I hi (by omega), Option.bind_some, mat_ I hi (by omega), Option.bind_some, cnt_ I hj (by omega), Option.bind_some]
    dsimp only
    rw [ofM_lo (w := 3) (by omega), ofM_lo (w := 4) (by omega), ofM_lo (w := 1) (by omega), ofM_lo (w := 2) (by omega), ofM_8, r1, r2, h6, show cnV s t j 0 = nI t from rfl]
    rw [if_neg (fun e => b3 ((nI_inj (by omega) (by omega)).mp e)), mee_ I b1 b2 b3, Option.bind_some, mt_own h3 h8 hi, if_pos (show oN (some i) = nI i from rfl)]
    have fin : ∀ x, ∃ S', fL_matches_b122 3000 G L U V B X (fL_matches_b12 3000 G L U V B X K k) K (nI (cn (vnP s) i)) (nI (cn (rsP s) i)) (nI (cn (woP s) i)) (nI i) (s (18 + 9 * i + 3)) (s (18 + 9 * i + 4)) (nI (fsT t i)) (nI (scT t i)) (nI ρ) (nI t) x x (CS (CS S L) L) = K (nI (cn (vnP s) (mmT t))) (nI (cn (rsP s) (mmT t))) (nI (cn (woP s) (mmT t))) (nI 1) S' := by
      intro x
      rw [m122 I hi h6 hρ, m380, nI_add]
      have a1 : nI (cn (vnP s) i) + (if s (18 + 9 * i + 3) = -1 then nI 0 else nI 1) = nI (cn (vnP s) i + if vnP s i = true then 1 else 0) := by
        rw [vnP_e]
        by_cases c : s (18 + 9 * i + 3) = -1
        · rw [if_pos c, decide_eq_false (fun h => h c), nI_add]; rfl
        · rw [if_neg c, decide_eq_true c, nI_add]; rfl
      have a2 : nI (cn (rsP s) i) + (if nI ρ = 0 then nI 0 else nI 1) = nI (cn (rsP s) i + if rsP s i = true then 1 else 0) := by
        unfold rsP
        rw [h6]
        by_cases c : nI ρ = 0
        · rw [if_pos c, decide_eq_false (fun h => h c), nI_add]; rfl
        · rw [if_neg c, decide_eq_true c, nI_add]; rfl
      have a3 : nI (cn (woP s) i) + (if nI ρ ≤ nI 1 then nI 0 else nI 1) = nI (cn (woP s) i + if woP s i = true then 1 else 0) := by
        have w : woP s i = decide (¬ nI ρ ≤ nI 1) := by
          unfold woP
          rw [h6]
          rcases (show ρ = 0 ∨ ρ = 1 ∨ ρ = 2 ∨ ρ = 3 by omega) with rfl | rfl | rfl | rfl <;> decide
        rw [w]
        by_cases c : nI ρ ≤ nI 1
        · rw [if_pos c, decide_eq_false (fun h => h c), nI_add]; rfl
        · rw [if_neg c, decide_eq_true c, nI_add]; rfl
      rw [a1, a2, a3]
      exact i1
    rcases I.2.2.1 i hi with ⟨e3, e4⟩ | ⟨v, x, ⟨v6, k6⟩, ⟨e3, e4, -⟩, -⟩
    · rw [if_pos e3, if_pos e4]; exact fin _
    · rw [if_neg (by rw [e3]; exact nI_m1 (by omega)), if_neg (by rw [e4]; exact nI_m1 (by omega))]; exact fin _
end MA
theorem matches_ {t q j : Nat} {S G L U V B : OB} {X : HS} {s : Nat → Int32} (I : IL t q L s) (hj : X.1 = nI j) : ∃ S', fL_matches 3000 S G L U V B X = some (nI 1, S') := by
  have hmm := I.mm
  obtain ⟨S1, e1⟩ := ma_1 (G := G) (U := U) (V := V) (B := B) I hj (K := fun v1 v2 v3 v4 oS => fL_matches_b429 3000 G L U V B X v1 v2 v3 v4 oS) (mmT t) 0 3000 S (by omega) (by omega)
  have e2 : fL_matches_b429 3000 G L U V B X (nI (cn (vnP s) (mmT t))) (nI (cn (rsP s) (mmT t))) (nI (cn (woP s) (mmT t))) (nI 1) S1 = some (nI 1, CS (CS (CS S1 L) L) L) := by
    unfold fL_matches_b429
    rw [if_neg (by decide), cnt_ I hj (by omega), Option.bind_some]
    dsimp only
    rw [if_pos (show nI (cn (vnP s) (mmT t)) = cnV s t j 3 from rfl), cnt_ I hj (by omega), Option.bind_some]
    dsimp only
    rw [if_pos (show nI (cn (rsP s) (mmT t)) = cnV s t j 4 from rfl), cnt_ I hj (by omega), Option.bind_some]
    dsimp only
    rw [if_pos (show nI (cn (woP s) (mmT t)) = cnV s t j 5 from rfl)]
  exact ⟨_, e1.trans e2⟩
