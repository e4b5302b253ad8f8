/-! PURE: an act, by its sort -/
theorem act_ {t q j : Nat} {S G L U V B : OB} {X : HS} {s : Nat → Int32} (I : IL t q L s) (P : PX X) (hj : X.1 = nI j) {len k0 : Nat} {xs : Nat → Int32} (hk0 : k0 < 1000000) (hlen : len < 2147483648) : ∃ told S' G' L' X', fL_act 3000 len xs S G L U V B X (nI k0) = some (told, S', G', L', X') ∧ AP t s L X (lowN (cV len xs k0) 18) (lowN (cV len xs (k0 + 1)) (mmT t)) told L' X' := by
  have hmm := I.mm
  have hm := lw_lt (x := cV len xs (k0 + 1)) I.mp
  have hk := lw_lt (x := cV len xs k0) (d := 18) (by omega)
  unfold fL_act
  rw [nI_add k0 1, cell_ (by omega) hlen, Option.bind_some, nI_add k0 2, cell_ (by omega) hlen, Option.bind_some, cnt_ I hj (by omega), Option.bind_some]
  dsimp only
  rw [show cnV s t j 2 = nI (mmT t) from rfl, low_ (cV len xs (k0 + 1)) I.mp (by omega), Option.bind_some, cell_ (k := k0) (by omega) hlen, Option.bind_some, low_ (cV len xs k0) (by omega) (by omega), Option.bind_some]
  generalize lowN (cV len xs k0) 18 = kd at hk ⊢
  generalize lowN (cV len xs (k0 + 1)) (mmT t) = m at hm ⊢
  generalize cV len xs (k0 + 1) = a
  generalize cV len xs (k0 + 2) = b
  have nk : ∀ z, z < 100 → kd ≠ z → ¬ nI kd = nI z := fun z hz h e => h ((nI_inj (by omega) (by omega)).mp e)
  have e3 : ∀ k, k < 100 → lowN b k < 100 → nI 3 + nI k = nI (3 + k) := fun k _ _ => nI_add 3 k
  by_cases k0 : kd = 0
  · subst k0
    rw [if_pos rfl, low_ b (by omega) (by omega), Option.bind_some]
    by_cases c : lowN b 2 = 0
    · rw [if_pos (show nI (lowN b 2) = 0 by rw [c]; rfl), low_ b (by omega) (by omega), Option.bind_some]
      obtain ⟨told, L', X', e, A⟩ := act_begin (S := CS S L) (G := G) (U := U) (V := V) (B := B) (m := m) I P (lw_lt (x := b) (d := 6) (by omega))
      rw [e, Option.bind_some]
      exact ⟨_, _, _, _, _, rfl, A⟩
    · have := lw_lt (x := b) (d := 2) (by omega)
      rw [if_neg (fun e => c ((nI_z (by omega)).mp e))]
      exact ⟨_, _, _, _, _, rfl, AP.any P ⟨t, q, s, I⟩ (nng (by omega)) (Or.inl rfl)⟩
  rw [if_neg (nk 0 (by omega) k0)]
  have stg : 1 ≤ kd → kd ≤ 3 → ∃ told S' G' L' X', ((f5_stage 3000 (CS S L) G L U V B X).bind fun z144 => some (z144.1, CS S L, z144.2.1, z144.2.2.1, z144.2.2.2)) = some (told, S', G', L', X') ∧ AP t s L X kd m told L' X' := fun h1 h3 => by
    obtain ⟨told, G', L', X', e, A⟩ := act_stage (S := CS S L) (G := G) (U := U) (V := V) (B := B) (m := m) I P h1 h3
    rw [e, Option.bind_some]
    exact ⟨_, _, _, _, _, rfl, A⟩
  by_cases k1 : kd = 1
  · rw [if_pos (by rw [k1])]
    exact stg (by omega) (by omega)
  rw [if_neg (nk 1 (by omega) k1)]
  by_cases k2 : kd = 2
  · rw [if_pos (by rw [k2])]
    exact stg (by omega) (by omega)
  rw [if_neg (nk 2 (by omega) k2)]
  by_cases k3 : kd = 3
  · rw [if_pos (by rw [k3])]
    exact stg (by omega) (by omega)
  rw [if_neg (nk 3 (by omega) k3)]
  have sco : 4 ≤ kd → kd ≤ 10 → ∀ x2, ∃ told S' G' L' X', fL_act_b148 3000 len xs U V B x2 a b (nI m) (CS S L) G L X = some (told, S', G', L', X') ∧ AP t s L X kd m told L' X' := fun h4 h10 x2 => by
    unfold fL_act_b148
    rw [low_ b (by omega) (by omega), Option.bind_some, low_ (a + b) (by omega) (by omega), Option.bind_some]
    by_cases c : nI (lowN (a + b) 3) = 0
    · rw [if_pos c, Option.bind_some]
      obtain ⟨told, S', L', X', e, A⟩ := act_score (S := CS S L) (G := G) (U := U) (V := V) (B := B) (len := len) (xs := xs) (x2 := x2) I P hm (lw_lt (x := b) (d := 100) (by omega)) (lw_lt (x := b) (d := 100) (by omega)) h4 h10
      exact ⟨_, _, _, _, _, e, A⟩
    · rw [if_neg c, low_ (a + b) (by omega) (by omega), Option.bind_some]
      obtain ⟨told, S', L', X', e, A⟩ := act_score (S := CS S L) (G := G) (U := U) (V := V) (B := B) (len := len) (xs := xs) (x2 := x2) I P hm (lw_lt (x := b) (d := 100) (by omega)) (lw_lt (x := a + b) (d := 100) (by omega)) h4 h10
      exact ⟨_, _, _, _, _, e, A⟩
  by_cases k4 : kd = 4
  · rw [if_pos (by rw [k4])]
    exact sco (by omega) (by omega) _
  rw [if_neg (nk 4 (by omega) k4)]
  by_cases k5 : kd = 5
  · rw [if_pos (by rw [k5])]
    exact sco (by omega) (by omega) _
  rw [if_neg (nk 5 (by omega) k5)]
  by_cases k6 : kd = 6
  · rw [if_pos (by rw [k6])]
    exact sco (by omega) (by omega) _
  rw [if_neg (nk 6 (by omega) k6)]
  by_cases k7 : kd = 7
  · rw [if_pos (by rw [k7])]
    exact sco (by omega) (by omega) _
  rw [if_neg (nk 7 (by omega) k7)]
  by_cases k8 : kd = 8
  · rw [if_pos (by rw [k8])]
    exact sco (by omega) (by omega) _
  rw [if_neg (nk 8 (by omega) k8)]
  have wal : 4 ≤ kd → kd ≤ 10 → ∀ x2, ∃ told S' G' L' X', fL_act_b204 3000 len xs U V B x2 b (nI m) (CS S L) G L X = some (told, S', G', L', X') ∧ AP t s L X kd m told L' X' := fun h4 h10 x2 => by
    unfold fL_act_b204
    rw [low_ b (by omega) (by omega), Option.bind_some]
    by_cases c : nI (lowN b 2) = 0
    · rw [if_pos c]
      obtain ⟨told, S', L', X', e, A⟩ := act_walk (S := CS S L) (G := G) (U := U) (V := V) (B := B) (len := len) (xs := xs) (x2 := x2) (y := 1) I P hm h4 h10
      exact ⟨_, _, _, _, _, e, A⟩
    · rw [if_neg c]
      obtain ⟨told, S', L', X', e, A⟩ := act_walk (S := CS S L) (G := G) (U := U) (V := V) (B := B) (len := len) (xs := xs) (x2 := x2) (y := 0) I P hm h4 h10
      exact ⟨_, _, _, _, _, e, A⟩
  by_cases k9 : kd = 9
  · rw [if_pos (by rw [k9])]
    exact wal (by omega) (by omega) _
  rw [if_neg (nk 9 (by omega) k9)]
  by_cases k10 : kd = 10
  · rw [if_pos (by rw [k10])]
    exact wal (by omega) (by omega) _
  rw [if_neg (nk 10 (by omega) k10)]
  by_cases k11 : kd = 11
  · subst k11
    obtain ⟨told, L', X', e, A⟩ := act_annul (S := CS S L) (G := G) (U := U) (V := V) (B := B) I P hm
    rw [if_pos rfl, e, Option.bind_some]
    exact ⟨_, _, _, _, _, rfl, A⟩
  rw [if_neg (nk 11 (by omega) k11)]
  obtain ⟨y1, h1, e1⟩ := and_nI b (k := 127) (by omega)
  obtain ⟨y2, h2, e2⟩ := and_nI2 a (k := y1) (by omega)
  rw [e1, e2]
  by_cases k12 : kd = 12
  · obtain ⟨told, L', X', e, A⟩ := act_close (S := CS S L) (G := G) (U := U) (V := V) (B := B) (m := m) (kd := kd) I P (lw_lt (x := a) (d := 6) (by omega)) (show y2 ≤ 127 by omega) (by omega)
    rw [if_pos (by rw [k12]), low_ a (by omega) (by omega), Option.bind_some, e, Option.bind_some]
    exact ⟨_, _, _, _, _, rfl, A⟩
  rw [if_neg (nk 12 (by omega) k12)]
  by_cases k13 : kd = 13
  · obtain ⟨told, L', X', e, A⟩ := act_away (S := CS S L) (G := G) (U := U) (V := V) (B := B) (m := m) (kd := kd) I P (lw_lt (x := a) (d := 6) (by omega)) (show y2 ≤ 127 by omega) (by omega)
    rw [if_pos (by rw [k13]), low_ a (by omega) (by omega), Option.bind_some, e, Option.bind_some]
    exact ⟨_, _, _, _, _, rfl, A⟩
  rw [if_neg (nk 13 (by omega) k13)]
  by_cases k14 : kd = 14
  · have a2 := lw_lt (x := a) (d := 2) (by omega)
    have b3 := lw_lt (x := b) (d := 3) (by omega)
    obtain ⟨z, told, e, ev, A⟩ := act_set (S := CS S L) (G := G) (U := U) (V := V) (B := B) (m := m) (kd := kd) (k := lowN a 2) (v := 1 + lowN b 3) I P (by omega) (by unfold loS; split <;> omega) (by unfold hiS; split <;> (try split) <;> omega) (by omega)
    rw [if_pos (by rw [k14]), low_ a (by omega) (by omega), Option.bind_some, low_ b (by omega) (by omega), Option.bind_some, nI_add, e, Option.bind_some, ev, Option.bind_some]
    exact ⟨_, _, _, _, _, rfl, A⟩
  rw [if_neg (nk 14 (by omega) k14)]
  by_cases k15 : kd = 15
  · have a2 := lw_lt (x := a) (d := 2) (by omega)
    have b3 := lw_lt (x := b) (d := 20) (by omega)
    obtain ⟨z, told, e, ev, A⟩ := act_set (S := CS S L) (G := G) (U := U) (V := V) (B := B) (m := m) (kd := kd) (k := 2 + lowN a 2) (v := 1 + lowN b 20) I P (by omega) (by unfold loS; split <;> omega) (by unfold hiS; split <;> (try split) <;> (try split) <;> omega) (by omega)
    rw [if_pos (by rw [k15]), low_ a (by omega) (by omega), Option.bind_some, low_ b (by omega) (by omega), Option.bind_some, nI_add, nI_add, e, Option.bind_some, ev, Option.bind_some]
    exact ⟨_, _, _, _, _, rfl, A⟩
  rw [if_neg (nk 15 (by omega) k15)]
  obtain ⟨z, told, e, ev, A⟩ := act_undo (S := CS S L) (G := G) (U := U) (V := V) (B := B) (m := m) (kd := kd) I P (by omega)
  rw [e, Option.bind_some, ev, Option.bind_some]
  exact ⟨_, _, _, _, _, rfl, A⟩
