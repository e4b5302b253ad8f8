/-! PURE: the law's look at the teams -/
section TE
variable {t q j : Nat} {S G L U V B : OB} {X : HS} {s : Nat → Int32}
def fS (s : Nat → Int32) (t w i : Nat) : Int32 := sm (fun τ => ofT s t τ w) i
theorem fS_s (s : Nat → Int32) (t w i : Nat) : fS s t w (i + 1) = fS s t w i + ofT s t i w := rfl
def suN (s : Nat → Int32) (t i : Nat) : Int32 := nI (cn (fun a => alB (suP s t a) t) i)
theorem suN_s (s : Nat → Int32) (t i : Nat) : suN s t (i + 1) = suN s t i + nI (bI (alB (suP s t i) t)) := by
  unfold suN
  rw [cn_s, nI_add]
  rfl
theorem te_1 (I : IL t q L s) {K : Int32 → Int32 → Int32 → Int32 → Int32 → Int32 → Int32 → Int32 → Int32 → OB → OB → OB → Option (Int32 × (OB) × (OB) × (OB))} : ∀ (d i k : Nat) (S U V : OB), i + d = t → d < k → ∃ S' U' V', fL_teams_b31 3000 G L B X K k (nI t) (PM s t i) (fS s t 4 i) (fS s t 5 i) (fS s t 0 i) (fS s t 1 i) (fS s t 6 i) (suN s t i) (nI 1) (nI i) S U V = K (nI t) (PM s t t) (fS s t 4 t) (fS s t 5 t) (fS s t 0 t) (fS s t 1 t) (fS s t 6 t) (suN s t t) (nI 1) S' U' V' := by
  have h3 := I.t3
  have h8 := I.t8
  intro d
  induction d with
  | zero =>
    intro i k S U V h hk
    obtain ⟨k, rfl⟩ : ∃ z, k = z + 1 := ⟨k - 1, by omega⟩
    have e : i = t := by omega
    rw [e, fL_teams_b31, if_pos (Int32.le_refl _)]
    exact ⟨_, _, _, rfl⟩
  | succ d ih =>
    intro i k S U V h hk
    obtain ⟨k, rfl⟩ : ∃ z, k = z + 1 := ⟨k - 1, by omega⟩
    have hi : i < t := by omega
    have o7 : ofT s t i 7 = nI (PL s t i) := rfl
    have hp : PL s t i < t := pl_b hi
    have hp2 : PL (wnR t i s (mmT t)) t i < t := pl_b hi
    have hbest := best_le I hi
    have i1 := ih (i + 1) k
    rw [fS_s, fS_s, fS_s, fS_s, fS_s, suN_s, PM_s] at i1
    rw [fL_teams_b31, if_neg (by rw [nI_le' (by omega) (by omega)]; omega), if_neg (show ¬ nI 1 = 0 by decide)]
    rw [tea_ I hi (by omega), Option.bind_some, tea_ I hi (by omega), Option.bind_some, tea_ I hi (by omega), Option.bind_some, tea_ I hi (by omega), Option.bind_some, tea_ I hi (by omega), Option.bind_some, tea_ I hi (by omega), Option.bind_some, sur_ I hi, Option.bind_some, tea_ I hi (by omega), Option.bind_some, tea_ I hi (by omega), Option.bind_some]
    dsimp only
    rw [if_pos (pl_op I hi), tea_ I hi (by omega), Option.bind_some]
    dsimp only
    rw [o7, tab_ I (by omega), Option.bind_some]
    dsimp only
    rw [ta_own hi, if_pos (show oN (some i) = nI i from rfl), bes_ I hi, Option.bind_some, tea_ I hi (by omega), Option.bind_some]
    dsimp only
    rw [o7, if_neg (by rw [nI_lt' (by omega) (by omega)]; omega), tea_ I hi (by omega), Option.bind_some, tea_ I hi (by omega), Option.bind_some, tea_ I hi (by omega), Option.bind_some]
    dsimp only
    rw [if_neg (wd_ I hi), tea_ I hi (by omega), Option.bind_some, set_ I (by omega), Option.bind_some, tea_ I hi (by omega), Option.bind_some, set_ I (by omega), Option.bind_some, tea_ I hi (by omega), Option.bind_some, tea_ I hi (by omega), Option.bind_some]
    dsimp only
    rw [if_pos (show ofT s t i 0 = (s 0 * ofT s t i 2 + s 1 * ofT s t i 3) - ofT s t i 6 from rfl), nI_add]
    exact i1 _ _ _ (by omega) (by omega)
theorem te_2 (I : IL t q L s) {v2 v3 v4 v5 v6 v7 v8 : Int32} {K : Int32 → Int32 → Int32 → Int32 → Int32 → Int32 → Int32 → Int32 → Int32 → OB → OB → OB → Option (Int32 × (OB) × (OB) × (OB))} : ∀ (d i k : Nat) (S : OB), 1 ≤ i → i + d = t → d < k → ∃ S', fL_teams_b268 3000 G L B X K k (nI t) v2 v3 v4 v5 v6 v7 v8 (nI 1) (nI i) S U V = K (nI t) v2 v3 v4 v5 v6 v7 v8 (nI 1) S' U V := by
  have h3 := I.t3
  have h8 := I.t8
  intro d
  induction d with
  | zero =>
    intro i k S h1 h hk
    obtain ⟨k, rfl⟩ : ∃ z, k = z + 1 := ⟨k - 1, by omega⟩
    have e : i = t := by omega
    rw [e, fL_teams_b268, if_pos (Int32.le_refl _)]
    exact ⟨_, rfl⟩
  | succ d ih =>
    intro i k S h1 h hk
    obtain ⟨k, rfl⟩ : ∃ z, k = z + 1 := ⟨k - 1, by omega⟩
    obtain ⟨a, ha, ea, pa⟩ := ta_ex (s := s) (t := t) (p := i - 1) (by omega)
    obtain ⟨b, hb, eb, pb⟩ := ta_ex (s := s) (t := t) (p := i) (by omega)
    have hle := pl_pt (s := s) ha hb (by omega)
    have hn : ¬ ofT s t a 0 < ofT s t b 0 := fun e => by
      have e := Int32.lt_iff_toInt_lt.mp (show ptR s (mmT t) (nI a) < ptR s (mmT t) (nI b) from e)
      unfold Pz at hle
      omega
    rw [fL_teams_b268, if_neg (by rw [nI_le' (by omega) (by omega)]; omega), if_neg (show ¬ nI 1 = 0 by decide), pk_sub h1, tab_ I (by omega), Option.bind_some]
    dsimp only
    rw [ea, show oN (some a) = nI a from rfl, tea_ I ha (by omega), Option.bind_some]
    dsimp only
    rw [tab_ I (by omega), Option.bind_some]
    dsimp only
    rw [eb, show oN (some b) = nI b from rfl, tea_ I hb (by omega), Option.bind_some]
    dsimp only
    rw [if_neg hn, nI_add]
    exact ih (i + 1) k _ (by omega) (by omega) (by omega)
theorem teams_ (I : IL t q L s) (hj : X.1 = nI j) : ∃ S' U' V', fL_teams 3000 S G L U V B X = some (nI 1, S', U', V') := by
  have h3 := I.t3
  have h8 := I.t8
  have hmm := I.mm
  unfold fL_teams
  rw [cnt_ I hj (by omega), Option.bind_some]
  dsimp only
  obtain ⟨S1, U1, V1, e1⟩ := te_1 (G := G) (B := B) (X := X) I (K := fun v1 v2 v3 v4 v5 v6 v7 v8 v9 oS oU oV => fL_teams_b265 3000 G L B X v1 v2 v3 v4 v5 v6 v7 v8 v9 oS oU oV) t 0 3000 (CS S L) U V (by omega) (by omega)
  obtain ⟨S2, e2⟩ := te_2 (G := G) (B := B) (X := X) (U := U1) (V := V1) I (v2 := PM s t t) (v3 := fS s t 4 t) (v4 := fS s t 5 t) (v5 := fS s t 0 t) (v6 := fS s t 1 t) (v7 := fS s t 6 t) (v8 := suN s t t) (K := fun v1 v2 v3 v4 v5 v6 v7 v8 v9 oS oU oV => fL_teams_b319 3000 G L B X v1 v2 v3 v4 v5 v6 v7 v8 v9 oS oU oV) (t - 1) 1 3000 S1 (by omega) (by omega) (by omega)
  obtain ⟨v, ev, hv⟩ := clo_ (S := CS (CS (CS S2 L) L) L) (G := G) (U := U1) (V := V1) (B := B) (X := X) I
  have e3 : fL_teams_b319 3000 G L B X (nI t) (PM s t t) (fS s t 4 t) (fS s t 5 t) (fS s t 0 t) (fS s t 1 t) (fS s t 6 t) (suN s t t) (nI 1) S2 U1 V1 = some (nI 1, CS (CS (CS (CS S2 L) L) L) L, U1, V1) := by
    unfold fL_teams_b319
    rw [if_neg (show ¬ nI 1 = 0 by decide), if_pos (pm_all h8), if_pos (show fS s t 4 t = fS s t 5 t from sums_45 I), cnt_ I hj (by omega), Option.bind_some]
    dsimp only
    rw [if_pos (show fS s t 0 t = cnV s t j 6 from rfl), cnt_ I hj (by omega), Option.bind_some]
    dsimp only
    rw [if_pos (show fS s t 1 t = nI 2 * cnV s t j 4 from over1_ I), cnt_ I hj (by omega), Option.bind_some]
    dsimp only
    have hs := sure_1 I
    rw [if_pos (show fS s t 6 t = cnV s t j 5 from over6_ h3 h8 I.1.tms), if_neg (show ¬ nI 2 ≤ suN s t t by unfold suN; rw [nI_le' (by omega) (by omega)]; omega), ev, Option.bind_some]
    dsimp only
    rw [if_neg hv]
  exact ⟨_, _, _, e1.trans (e2.trans e3)⟩
end TE
