/-! PURE: the digest's folds over teams, and the text -/
def tmF (s : Nat → Int32) (t : Nat) : Nat → Int64 → Int64 := fun a h => (31 : Int64) * ((31 : Int64) * hf (fun w => (ofT s t a w).toInt64) h 9 + (nI (PL (wnR t a s (mmT t)) t a)).toInt64) + (nI (bI (alB (suP s t a) t))).toInt64
theorem eqr_refl (s : Nat → Int32) : EQR s s := fun _ _ => rfl
theorem mixTeams_ {t q n : Nat} {S G L U V B : OB} {X : HS} {s : Nat → Int32} {h : Int64} (R : RLr t q L s) (g : GT t s) (T : TBL S t s) (hn : 28 < n) : ∃ U' V', f5_mixTeams n S G L U V B X h = some (gf (tmF s t) h t, U', V') := by
  have h3 := R.1.1.1.2.2.1
  have h8 := R.1.1.1.2.2.2.1
  have goal : ∃ r, f5_mixTeams n S G L U V B X h = some r ∧ ∃ U' V', r = (gf (tmF s t) h t, U', V') := by
    unfold f5_mixTeams
    rw [ald_nI (by omega) (by omega), Option.bind_some, R.1.2.2.1.1 0 (by omega)]
    refine loop_E (F := fun k p => f5_mixTeams_b16 n S G L B X h (fun v3 oU oV => f5_mixTeams_b103 n S G L B X h v3 oU oV) k p.1 (s 0) p.2.1 p.2.2.1 p.2.2.2) (I := fun i (p : Int64 × Int32 × OB × OB) => p.1 = gf (tmF s t) h i ∧ p.2.1 = nI i) (N := t) ?_ ?_ n (h, nI 0, U, V) (by omega) ⟨rfl, rfl⟩
    · rintro k ⟨v3, v6, U1, V1⟩ ⟨e1, e2⟩
      dsimp only at e1 e2 ⊢
      subst e1; subst e2
      rw [f5_mixTeams_b16, R.1.2.1.1, if_pos (by rw [nI_le' (by omega) (by omega)]; exact Nat.le_refl _)]
      exact ⟨_, rfl, U1, V1, rfl⟩
    · rintro k i ⟨v3, v6, U1, V1⟩ hi ⟨e1, e2⟩
      dsimp only at e1 e2 ⊢
      subst e1; subst e2
      obtain ⟨U2, V2, eP⟩ := placeByWinningAll_ (S := S) (G := G) (U := U1) (V := V1) (B := B) (X := X) R g (eqr_refl s) hi hn
      refine ⟨(gf (tmF s t) h (i + 1), nI (i + 1), U2, V2), ⟨rfl, rfl⟩, ?_⟩
      dsimp only
      rw [f5_mixTeams_b16, R.1.2.1.1, if_neg (by rw [nI_le' (by omega) (by omega)]; omega), gf_s]
      generalize gf (tmF s t) h i = h1
      refine loop_S (F := fun k' p => f5_mixTeams_b31 n S G L B X h (fun v3 v5 v6 oU oV => f5_mixTeams_b61 n S G L B X h (f5_mixTeams_b16 n S G L B X h (fun v3 oU oV => f5_mixTeams_b103 n S G L B X h v3 oU oV) k) (fun v3 oU oV => f5_mixTeams_b103 n S G L B X h v3 oU oV) v3 v5 v6 oU oV) k' p.1 (s 0) (nI i) p.2 U1 V1) (S := fun j => (hf (fun w => (ofT s t i w).toInt64) h1 j, nI j)) (N := 9) ?_ ?_ n (by omega)
      · intro k'
        dsimp only
        rw [f5_mixTeams_b31, if_pos (by decide)]
        unfold f5_mixTeams_b61 f5_mix
        rw [eP, Option.bind_some, Option.bind_some, sureC_ T hi hn, Option.bind_some]
        simp only [Option.bind_some, nI_add]
        unfold tmF
        cases alB (suP s t i) t with
        | false => rw [if_pos (show nI (bI false) = 0 from rfl)]; rfl
        | true => rw [if_neg (show ¬ nI (bI true) = 0 by decide)]; rfl
      · intro k' j hj
        dsimp only
        rw [f5_mixTeams_b31, if_neg (by rw [nI_le' (by omega) (by omega)]; omega), propertyC_ T hi hj hn, Option.bind_some]
        unfold f5_mix
        rw [Option.bind_some, nI_add, hf_s]
  obtain ⟨r, e, U', V', rfl⟩ := goal
  exact ⟨U', V', e⟩
theorem mixText_ {cd : Nat → Nat} {len n : Nat} {S G L U V B : OB} {X : HS} {h : Int64} (Tx : TX cd len B) (h60 : len ≤ 60) (hn : 61 < n) : f5_mixText n S G L U V B X h = some (hf (fun k => (nI (cd k)).toInt64) ((31 : Int64) * h + (nI len).toInt64) len) := by
  unfold f5_mixText f5_mix
  rw [Tx.1, Option.bind_some]
  refine loop_S (F := fun k p => f5_mixText_b16 n S G L U V B X h (fun v3 => f5_mixText_b50 n S G L U V B X h v3) k p.1 p.2) (S := fun i => (hf (fun k => (nI (cd k)).toInt64) ((31 : Int64) * h + (nI len).toInt64) i, nI i)) (N := len) ?_ ?_ n (by omega)
  · intro k
    dsimp only
    rw [f5_mixText_b16, Tx.1, if_pos (by rw [nI_le' (by omega) (by omega)]; exact Nat.le_refl _)]
    rfl
  · intro k i hi
    dsimp only
    rw [f5_mixText_b16, Tx.1, if_neg (by rw [nI_le' (by omega) (by omega)]; omega), ald_nI (by omega) (by omega), Option.bind_some, Tx.2 i hi]
    unfold f5_mix
    rw [Option.bind_some, nI_add, hf_s]
/-- the digest of a row -/
def dgV (s : Nat → Int32) (t q kept len : Nat) (cd : Nat → Nat) (bits : Int64) : Int64 :=
  hf (fun k => (nI (cd k)).toInt64) ((31 : Int64) * ((31 : Int64) * hf (fun k => (nI (WO t q k s).1).toInt64) (hf (fun p => (oN (TA s t p)).toInt64) (gf (tmF s t) (gf (mtF s) (hf (fun k => (s (6 + k)).toInt64) (hf (fun k => (s k).toInt64) (hf (fun w => (cnV s t kept w).toInt64) (3011 : Int64) 10) 4) 12) (mmT t)) t) t) 12 + bits) + (nI len).toInt64) len
theorem wo_any {t q k : Nat} {L : OB} {s s' : Nat → Int32} (R : RLr t q L s) (v : VS (mmT t) s) (E : EQR s s') (hk : k < 12) : nI (WO t q k s').1 = nI (WO t q k s).1 := by
  obtain ⟨G1, V1, e1⟩ := assignedWithout_ (S := L) (G := L) (U := L) (V := L) (B := L) (X := (nI 0, fun _ _ => 0, fun _ => L)) R v E hk (show 28 < 3000 by omega)
  obtain ⟨G2, V2, e2⟩ := assignedWithout_ (S := L) (G := L) (U := L) (V := L) (B := L) (X := (nI 0, fun _ _ => 0, fun _ => L)) R v (eqr_refl s) hk (show 28 < 3000 by omega)
  rw [e1] at e2
  exact congrArg Prod.fst (Option.some.inj e2)
theorem pl_any {t q a : Nat} {L : OB} {s s' : Nat → Int32} (R : RLr t q L s) (g : GT t s) (E : EQR s s') (ha : a < t) : nI (PL (wnR t a s' (mmT t)) t a) = nI (PL (wnR t a s (mmT t)) t a) := by
  obtain ⟨G1, V1, e1⟩ := placeByWinningAll_ (S := L) (G := L) (U := L) (V := L) (B := L) (X := (nI 0, fun _ _ => 0, fun _ => L)) R g E ha (show 28 < 3000 by omega)
  obtain ⟨G2, V2, e2⟩ := placeByWinningAll_ (S := L) (G := L) (U := L) (V := L) (B := L) (X := (nI 0, fun _ _ => 0, fun _ => L)) R g (eqr_refl s) ha (show 28 < 3000 by omega)
  rw [e1] at e2
  exact congrArg Prod.fst (Option.some.inj e2)
theorem digestC_ {t q kept len : Nat} {cd : Nat → Nat} {S G L U V B : OB} {X : HS} {s : Nat → Int32} {bits : Int64} {w : UInt64} {S' : OB} (R : RLr t q L s) (g : GR t s) (hk : X.1 = nI kept) (Tx : TX cd len B) (h60 : len ≤ 60) (eT : f4_countUp 3000 S L = some S') (T : TBL S' t s) (eS : f4_shareOfLast 3000 S' = some w) (eB : f5_bitsOf 3000 w = some bits) : ∃ G' U' V', f5_digest 3000 S G L U V B X = some (dgV s t q kept len cd bits, S', G', U', V') := by
  have h8 := R.1.1.1.2.2.2.1
  obtain ⟨U1, V1, e2⟩ := mixTeams_ (U := U) (V := V) (G := G) (B := B) (X := X) (h := gf (mtF s) (hf (fun k => (s (6 + k)).toInt64) (hf (fun k => (s k).toInt64) (hf (fun w => (cnV s t kept w).toInt64) (3011 : Int64) 10) 4) 12) (mmT t)) R g.1 T (show 28 < 3000 by omega)
  have inner : ∀ h, ∃ G' V', f5_digest_b64 3000 L B X h S' G U1 V1 = some (hf (fun k => (nI (cd k)).toInt64) ((31 : Int64) * ((31 : Int64) * hf (fun k => (nI (WO t q k s).1).toInt64) h 12 + bits) + (nI len).toInt64) len, S', G', U1, V') := by
    intro h
    have goal : ∃ r, f5_digest_b64 3000 L B X h S' G U1 V1 = some r ∧ ∃ G' V', r = (hf (fun k => (nI (cd k)).toInt64) ((31 : Int64) * ((31 : Int64) * hf (fun k => (nI (WO t q k s).1).toInt64) h 12 + bits) + (nI len).toInt64) len, S', G', U1, V') := by
      unfold f5_digest_b64
      refine loop_E (F := fun k p => f5_digest_b66 3000 L B X (fun v1 oS oG oU oV => f5_digest_b89 3000 L B X v1 oS oG oU oV) k p.1 p.2.1 S' p.2.2.1 U1 p.2.2.2) (I := fun i (p : Int64 × Int32 × OB × OB) => p.1 = hf (fun k => (nI (WO t q k s).1).toInt64) h i ∧ p.2.1 = nI i) (N := 12) ?_ ?_ 3000 (h, nI 0, G, V1) (by omega) ⟨rfl, rfl⟩
      · rintro k ⟨v1, v3, G2, V2⟩ ⟨e1, e2⟩
        dsimp only at e1 e2 ⊢
        subst e1; subst e2
        rw [f5_digest_b66, if_pos (by decide)]
        unfold f5_digest_b89
        rw [eS, Option.bind_some, eB, Option.bind_some]
        show ∃ r, (some _).bind _ = some r ∧ _
        rw [Option.bind_some, mixText_ Tx h60 (by omega), Option.bind_some]
        exact ⟨_, rfl, G2, V2, rfl⟩
      · rintro k i ⟨v1, v3, G2, V2⟩ hi ⟨e1, e2⟩
        dsimp only at e1 e2 ⊢
        subst e1; subst e2
        obtain ⟨G3, V3, e3⟩ := assignedWithout_ (S := S') (G := G2) (U := U1) (V := V2) (B := B) (X := X) R g.2.1 (eqr_refl s) hi (show 28 < 3000 by omega)
        refine ⟨(hf (fun k => (nI (WO t q k s).1).toInt64) h (i + 1), nI (i + 1), G3, V3), ⟨rfl, rfl⟩, ?_⟩
        dsimp only
        rw [f5_digest_b66, if_neg (by rw [nI_le' (by omega) (by omega)]; omega), e3, Option.bind_some]
        unfold f5_mix
        rw [Option.bind_some, nI_add, hf_s]
    obtain ⟨r, e, G', V', rfl⟩ := goal
    exact ⟨G', V', e⟩
  obtain ⟨G', V', e3⟩ := inner (hf (fun p => (oN (TA s t p)).toInt64) (gf (tmF s t) (gf (mtF s) (hf (fun k => (s (6 + k)).toInt64) (hf (fun k => (s k).toInt64) (hf (fun w => (cnV s t kept w).toInt64) (3011 : Int64) 10) 4) 12) (mmT t)) t) t)
  refine ⟨G', U1, V', ?_⟩
  unfold dgV
  unfold f5_digest
  rw [eT, Option.bind_some, mixLeague_ R hk T (by omega), Option.bind_some, mixMatches_ R g.1 (by omega), Option.bind_some, e2, Option.bind_some]
  dsimp only
  generalize gf (tmF s t) (gf (mtF s) (hf (fun k => (s (6 + k)).toInt64) (hf (fun k => (s k).toInt64) (hf (fun w => (cnV s t kept w).toInt64) (3011 : Int64) 10) 4) 12) (mmT t)) t = h1 at e3 ⊢
  refine loop_S (F := fun k p => f5_digest_b33 3000 L B X (fun v1 oS oG oU oV => f5_digest_b64 3000 L B X v1 oS oG oU oV) k p.1 p.2 S' G U1 V1) (S := fun i => (hf (fun p => (oN (TA s t p)).toInt64) h1 i, nI i)) (N := t) ?_ ?_ 3000 (by omega)
  · intro k
    dsimp only
    rw [f5_digest_b33, R.1.2.1.1, if_pos (by rw [nI_le' (by omega) (by omega)]; exact Nat.le_refl _)]
    exact e3
  · intro k i hi
    dsimp only
    rw [f5_digest_b33, R.1.2.1.1, if_neg (by rw [nI_le' (by omega) (by omega)]; omega), teamAtC_ T (by omega) (by omega), Option.bind_some]
    unfold f5_mix
    rw [Option.bind_some, nI_add, hf_s]
