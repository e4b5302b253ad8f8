/-! PURE: a turn of the law, and its last look -/
theorem turn_ {S G L U V B : OB} {X : HS} (hL : LX L) (P : PX X) {len i : Nat} {xs : Nat → Int32} {x3 : Int32} (hi : i < 1000) (hlen : len < 2147483648) {K : Int32 → OB → OB → OB → OB → OB → HS → Option (Int32 × (OB) × (OB) × (OB) × (OB) × (OB) × (HS))} : ∃ S' G' L' U' V' X', LX L' ∧ PX X' ∧ fL_law_t_b42 3000 len xs B x3 (nI i) K S G L U V X = K (nI 1) S' G' L' U' V' X' := by
  obtain ⟨t, q, s, I⟩ := hL
  have P0 := P
  obtain ⟨j, hj, -, -⟩ := P0
  have hmm := I.mm
  have hm := lw_lt (x := cV len xs (3 * i + 1)) I.mp
  have hk := lw_lt (x := cV len xs (3 * i)) (d := 18) (by omega)
  obtain ⟨told, S1, G1, L1, X1, eA, PX1, t1, q1, s1, I1, hT, hS, hR, hN⟩ := act_ (S := CS (CS (CS (CS (CS S L) L) L) L) L) (G := G) (U := U) (V := V) (B := B) I P hj (len := len) (xs := xs) (k0 := 3 * i) (by omega) hlen
  unfold fL_law_t_b42
  rw [cnt_ I hj (by omega), Option.bind_some, cnt_ I hj (by omega), Option.bind_some, cnt_ I hj (by omega), Option.bind_some, cnt_ I hj (by omega), Option.bind_some, pk_mul, cell_ (by omega) hlen, Option.bind_some, low_ (cV len xs (3 * i)) (by omega) (by omega), Option.bind_some, nI_add, cell_ (by omega) hlen, Option.bind_some, cnt_ I hj (by omega), Option.bind_some]
  dsimp only
  rw [show cnV s t j 2 = nI (mmT t) from rfl, low_ (cV len xs (3 * i + 1)) I.mp (by omega), Option.bind_some, mat_ I hm (by omega), Option.bind_some, ofM_lo (by omega)]
  generalize lowN (cV len xs (3 * i)) 18 = kd at hk hS hR hN ⊢
  generalize lowN (cV len xs (3 * i + 1)) (mmT t) = m at hm hR ⊢
  have Q1 := PX1
  obtain ⟨j1, hj1, -, -⟩ := PX1
  have f286 : ∀ S G U V, ∃ S' G' U' V', fL_law_t_b286 3000 len xs B x3 (nI i) K S G L1 U V X1 = K (nI 1) S' G' L1 U' V' X1 := fun S G U V => by
    obtain ⟨S2, e2⟩ := matches_ (S := S) (G := G) (U := U) (V := V) (B := B) I1 hj1
    obtain ⟨S3, U3, V3, e3⟩ := teams_ (S := S2) (G := G) (U := U) (V := V) (B := B) I1 hj1
    unfold fL_law_t_b286
    rw [e2, Option.bind_some, if_neg (show ¬ nI 1 = 0 by decide), e3, Option.bind_some, if_neg (show ¬ nI 1 = 0 by decide)]
    exact ⟨_, _, _, _, rfl⟩
  have f266 : ∀ S G U V, ∃ S' G' U' V', fL_law_t_b266 3000 len xs B x3 (nI i) K (cnV s t j 4) (nI kd) told S G L1 U V X1 = K (nI 1) S' G' L1 U' V' X1 := fun S G U V => by
    unfold fL_law_t_b266
    by_cases c : kd = 11
    · obtain ⟨et, b, eb, hc⟩ := hN c
      subst et
      have hb : bI b ≤ 1 := by unfold bI; split <;> omega
      rw [if_pos (by rw [c]), cnt_ I1 hj1 (by omega), Option.bind_some, if_pos (show cnV s1 t1 j1 4 = cnV s t1 j 4 - told by
        show nI (cn (rsP s1) (mmT t1)) = nI (cn (rsP s) (mmT t1)) - told
        rw [eb, ← hc, pk_sub (by omega), Nat.add_sub_cancel])]
      exact f286 _ _ _ _
    · rw [if_neg (fun e => c ((nI_inj (by omega) (by omega)).mp e))]
      exact f286 _ _ _ _
  have f238 : ∀ (v11 : Int32) S G U V, ((s (18 + 9 * m + 3) = -1 ∧ v11 = nI 0) ∨ (¬ s (18 + 9 * m + 3) = -1 ∧ v11 = nI 1)) → ∃ S' G' U' V', fL_law_t_b238 3000 len xs B x3 (nI i) K (cnV s t j 4) (nI kd) v11 told S G L1 U V X1 = K (nI 1) S' G' L1 U' V' X1 := fun v11 S G U V hv => by
    unfold fL_law_t_b238
    by_cases c : kd < 4
    · rw [if_pos ((nI_lt' (by omega) (by omega)).mpr c)]
      exact f266 _ _ _ _
    · rw [if_neg (fun e => c ((nI_lt' (by omega) (by omega)).mp e))]
      by_cases c2 : 10 < kd
      · rw [if_pos ((nI_lt' (by omega) (by omega)).mpr c2)]
        exact f266 _ _ _ _
      · rw [if_neg (fun e => c2 ((nI_lt' (by omega) (by omega)).mp e))]
        have hr := hR (by omega) (by omega)
        rcases hv with ⟨h3, e⟩ | ⟨h3, e⟩
        · rw [if_pos (Int32.not_le.mp (fun h => hr.mp h h3)), if_pos e]
          exact f266 _ _ _ _
        · rw [if_neg (Int32.not_lt.mpr (hr.mpr h3)), if_pos e]
          exact f266 _ _ _ _
  have f187 : ∀ (v11 : Int32) S G U V, ((s (18 + 9 * m + 3) = -1 ∧ v11 = nI 0) ∨ (¬ s (18 + 9 * m + 3) = -1 ∧ v11 = nI 1)) → ∃ S' G' U' V', fL_law_t_b187 3000 len xs B x3 (nI i) K (cnV s t j 4) (cnV s t j 6) (nI kd) v11 told (nI 1) S G L1 U V X1 = K (nI 1) S' G' L1 U' V' X1 := fun v11 S G U V hv => by
    unfold fL_law_t_b187
    rw [if_neg (show ¬ nI 1 = 0 by decide)]
    by_cases c : kd < 1
    · rw [if_pos ((nI_lt' (by omega) (by omega)).mpr c)]
      exact f238 _ _ _ _ _ hv
    · rw [if_neg (fun e => c ((nI_lt' (by omega) (by omega)).mp e))]
      by_cases c2 : 3 < kd
      · rw [if_pos ((nI_lt' (by omega) (by omega)).mpr c2)]
        exact f238 _ _ _ _ _ hv
      · rw [if_neg (fun e => c2 ((nI_lt' (by omega) (by omega)).mp e))]
        obtain ⟨et, ⟨n, en, hn⟩, hr, hp⟩ := hS (by omega) (by omega)
        subst et
        rw [cnt_ I1 hj1 (by omega), Option.bind_some, if_pos (show told = cnV s1 t1 j1 3 - cnV s t1 j 4 by
          show told = nI (cn (vnP s1) (mmT t1)) - nI (cn (rsP s) (mmT t1))
          rw [en, ← hn, pk_sub (by omega), Nat.add_sub_cancel])]
        dsimp only
        rw [cnt_ I1 hj1 (by omega), Option.bind_some, if_pos (show cnV s1 t1 j1 4 = cnV s t1 j 4 by
          show nI (cn (rsP s1) (mmT t1)) = nI (cn (rsP s) (mmT t1))
          rw [hr])]
        dsimp only
        rw [cnt_ I1 hj1 (by omega), Option.bind_some, if_pos (show cnV s1 t1 j1 6 = cnV s t1 j 6 from hp)]
        exact f238 _ _ _ _ _ hv
  have f122 : ∀ (v11 : Int32), ((s (18 + 9 * m + 3) = -1 ∧ v11 = nI 0) ∨ (¬ s (18 + 9 * m + 3) = -1 ∧ v11 = nI 1)) → ∃ S' G' U' V', fL_law_t_b122 3000 len xs B x3 (nI i) K (cnV s t j 9) (cnV s t j 4) (cnV s t j 6) (cnV s t j 3) (nI kd) v11 (CS (CS (CS (CS (CS S L) L) L) L) L) G L U V X = K (nI 1) S' G' L1 U' V' X1 := fun v11 hv => by
    unfold fL_law_t_b122
    rw [pk_mul, eA, Option.bind_some]
    dsimp only
    by_cases ht : (0 : Int32) ≤ told
    · rw [if_pos ht]
      exact f187 _ _ _ _ _ hv
    · obtain ⟨eL, eX⟩ := hT (Int32.not_le.mp ht)
      subst eL
      subst eX
      rw [if_neg ht, cnt_ I hj (by omega), Option.bind_some, if_pos rfl]
      dsimp only
      rw [cnt_ I hj (by omega), Option.bind_some, if_pos rfl]
      dsimp only
      rw [cnt_ I hj (by omega), Option.bind_some, if_pos rfl]
      dsimp only
      rw [cnt_ I hj (by omega), Option.bind_some, if_pos rfl]
      exact f187 _ _ _ _ _ hv
  have fin : ∃ S' G' U' V', (if s (18 + 9 * m + 3) < (0 : Int32) then fL_law_t_b122 3000 len xs B x3 (nI i) K (cnV s t j 9) (cnV s t j 4) (cnV s t j 6) (cnV s t j 3) (nI kd) (nI 0) (CS (CS (CS (CS (CS S L) L) L) L) L) G L U V X else fL_law_t_b122 3000 len xs B x3 (nI i) K (cnV s t j 9) (cnV s t j 4) (cnV s t j 6) (cnV s t j 3) (nI kd) (nI 1) (CS (CS (CS (CS (CS S L) L) L) L) L) G L U V X) = K (nI 1) S' G' L1 U' V' X1 := by
    rcases I.2.2.1 m hm with ⟨e3, e4⟩ | ⟨v, k, ⟨v6, k6⟩, ⟨e3, -, -⟩, -⟩
    · rw [if_pos (by rw [e3]; decide)]
      exact f122 _ (Or.inl ⟨e3, rfl⟩)
    · rw [if_neg (by rw [e3]; exact nI_neg (by omega))]
      exact f122 _ (Or.inr ⟨by rw [e3]; exact nI_m1 (by omega), rfl⟩)
  obtain ⟨S', G', U', V', e⟩ := fin
  exact ⟨S', G', L1, U', V', X1, ⟨t1, q1, s1, I1⟩, Q1, e⟩
theorem last_ {S G L U V B : OB} {X : HS} (hL : LX L) (P : PX X) {len : Nat} {xs : Nat → Int32} (hlen : len < 2147483648) {K : Int32 → OB → OB → OB → Option (Int32 × (OB) × (OB) × (OB))} : ∃ S' G' V', fL_law_e_b312 3000 len xs L U B X (nI 1) K S G V = K (nI 1) S' G' V' := by
  obtain ⟨t, q, s, I⟩ := hL
  obtain ⟨j, hj, -, -⟩ := P
  have hmm := I.mm
  have hk := lw_lt (x := cV len xs 1) (d := 12) (by omega)
  unfold fL_law_e_b312
  rw [cell_ (by omega) hlen, Option.bind_some, low_ (cV len xs 1) (by omega) (by omega), Option.bind_some, if_neg (show ¬ nI 1 = 0 by decide)]
  generalize lowN (cV len xs 1) 12 = k at hk ⊢
  obtain ⟨G1, V1, e1⟩ := ifm_ (S := S) (G := G) (U := U) (V := V) (B := B) (X := X) I hk
  obtain ⟨G2, V2, e2⟩ := ifm_ (S := CS (CS S L) L) (G := G1) (U := U) (V := V1) (B := B) (X := X) I hk
  have hw := wo_le (q := q) I.2.1.2.1 hk
  rw [e1, Option.bind_some, cnt_ I hj (by omega), Option.bind_some, cnt_ I hj (by omega), Option.bind_some]
  dsimp only
  rw [if_neg (show ¬ cnV s t j 2 - cnV s t j 4 < nI (WO t q k s).1 by
    show ¬ nI (mmT t) - nI (cn (rsP s) (mmT t)) < nI (WO t q k s).1
    rw [pk_sub (by omega), nI_lt' (by omega) (by omega)]; omega), e2, Option.bind_some]
  dsimp only
  rw [if_neg (nI_neg (by omega))]
  exact ⟨_, _, _, rfl⟩
