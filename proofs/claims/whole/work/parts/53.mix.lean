/-! PURE: the digest's folds -/
def hf (f : Nat → Int64) (h : Int64) : Nat → Int64
  | 0 => h
  | n + 1 => (31 : Int64) * hf f h n + f n
theorem hf_s (f : Nat → Int64) (h : Int64) (n : Nat) : hf f h (n + 1) = (31 : Int64) * hf f h n + f n := rfl
theorem hf_add (f : Nat → Int64) (h : Int64) (a : Nat) : ∀ b, hf f h (a + b) = hf (fun k => f (a + k)) (hf f h a) b
  | 0 => rfl
  | b + 1 => by
    rw [← Nat.add_assoc, hf_s, hf_s, hf_add f h a b]
theorem hf_congr {f g : Nat → Int64} {h : Int64} : ∀ {n : Nat}, (∀ k, k < n → f k = g k) → hf f h n = hf g h n
  | 0, _ => rfl
  | n + 1, e => by rw [hf_s, hf_s, hf_congr (fun k hk => e k (by omega)), e n (by omega)]
theorem mixLeague_ {t q n kept : Nat} {S G L U V B : OB} {X : HS} {s : Nat → Int32} {h : Int64} (R : RLr t q L s) (hk : X.1 = nI kept) (T : TBL S t s) (hn : 28 < n) : f5_mixLeague n S G L U V B X h = some (hf (fun k => (s (6 + k)).toInt64) (hf (fun k => (s k).toInt64) (hf (fun w => (cnV s t kept w).toInt64) h 10) 4) 12) := by
  unfold f5_mixLeague
  refine loop_S (F := fun k p => f5_mixLeague_b5 n S G L U V B X h (fun v3 => f5_mixLeague_b30 n S G L U V B X h v3) k p.1 p.2) (S := fun i => (hf (fun w => (cnV s t kept w).toInt64) h i, nI i)) (N := 10) ?_ ?_ n (by omega)
  · intro k
    dsimp only
    rw [f5_mixLeague_b5, if_pos (by decide)]
    unfold f5_mixLeague_b30
    generalize hf (fun w => (cnV s t kept w).toInt64) h 10 = h1
    refine loop_S (F := fun k p => f5_mixLeague_b33 n S G L U V B X h (fun v3 => f5_mixLeague_b61 n S G L U V B X h v3) k p.1 p.2) (S := fun i => (hf (fun k => (s k).toInt64) h1 i, nI i)) (N := 4) ?_ ?_ n (by omega)
    · intro k
      dsimp only
      rw [f5_mixLeague_b33, if_pos (by decide)]
      unfold f5_mixLeague_b61
      generalize hf (fun k => (s k).toInt64) h1 4 = h2
      refine loop_S (F := fun k p => f5_mixLeague_b64 n S G L U V B X h (fun v3 => f5_mixLeague_b93 n S G L U V B X h v3) k p.1 p.2) (S := fun i => (hf (fun k => (s (6 + k)).toInt64) h2 i, nI i)) (N := 6) ?_ ?_ n (by omega)
      · intro k
        dsimp only
        rw [f5_mixLeague_b64, if_pos (by decide)]
        unfold f5_mixLeague_b93
        rw [show (12 : Nat) = 6 + 6 from rfl, hf_add]
        generalize hf (fun k => (s (6 + k)).toInt64) h2 6 = h3
        refine loop_S (F := fun k p => f5_mixLeague_b96 n S G L U V B X h (fun v3 => f5_mixLeague_b125 n S G L U V B X h v3) k p.1 p.2) (S := fun i => (hf (fun k => (s (6 + (6 + k))).toInt64) h3 i, nI i)) (N := 6) ?_ ?_ n (by omega)
        · intro k
          dsimp only
          rw [f5_mixLeague_b96, if_pos (by decide)]
          rfl
        · intro k i hi
          dsimp only
          rw [f5_mixLeague_b96, if_neg (by rw [nI_le' (by omega) (by omega)]; omega), ald_nI hi (by omega), Option.bind_some, R.1.2.2.1.2.2 i hi, show 12 + i = 6 + (6 + i) by omega]
          unfold f5_mix
          rw [Option.bind_some, nI_add, hf_s]
      · intro k i hi
        dsimp only
        rw [f5_mixLeague_b64, if_neg (by rw [nI_le' (by omega) (by omega)]; omega), ald_nI hi (by omega), Option.bind_some, R.1.2.2.1.2.1 i hi]
        unfold f5_mix
        rw [Option.bind_some, nI_add, hf_s]
    · intro k i hi
      dsimp only
      rw [f5_mixLeague_b33, if_neg (by rw [nI_le' (by omega) (by omega)]; omega), ald_nI hi (by omega), Option.bind_some, R.1.2.2.1.1 i hi]
      unfold f5_mix
      rw [Option.bind_some, nI_add, hf_s]
  · intro k i hi
    dsimp only
    rw [f5_mixLeague_b5, if_neg (by rw [nI_le' (by omega) (by omega)]; omega), number_ R.1 hk T hi hn, Option.bind_some]
    unfold f5_mix
    rw [Option.bind_some, nI_add, hf_s]
/-- a fold over things that are folded themselves -/
def gf (F : Nat → Int64 → Int64) (h : Int64) : Nat → Int64
  | 0 => h
  | n + 1 => F n (gf F h n)
theorem gf_s (F : Nat → Int64 → Int64) (h : Int64) (n : Nat) : gf F h (n + 1) = F n (gf F h n) := rfl
def mtF (s : Nat → Int32) : Nat → Int64 → Int64 := fun m h => hf (fun w => (ofM s m w).toInt64) h 9
theorem mixMatches_ {t q n : Nat} {S G L U V B : OB} {X : HS} {s : Nat → Int32} {h : Int64} (R : RLr t q L s) (g : GT t s) (hn : 28 < n) : f5_mixMatches n S G L U V B X h = some (gf (mtF s) h (mmT t)) := by
  obtain ⟨r5, r4, mp, mm⟩ := row_e R
  unfold f5_mixMatches
  refine loop_S (F := fun k p => f5_mixMatches_b5 n S G L U V B X h (fun v3 => f5_mixMatches_b56 n S G L U V B X h v3) k p.1 p.2) (S := fun i => (gf (mtF s) h i, nI i)) (N := mmT t) ?_ ?_ n (by omega)
  · intro k
    dsimp only
    rw [f5_mixMatches_b5, R.1.2.1.2.2, if_pos (by rw [nI_le' (by omega) (by omega)]; exact Nat.le_refl _)]
    rfl
  · intro k i hi
    dsimp only
    rw [f5_mixMatches_b5, R.1.2.1.2.2, if_neg (by rw [nI_le' (by omega) (by omega)]; omega), gf_s]
    generalize gf (mtF s) h i = h1
    unfold mtF
    refine loop_S (F := fun k' p => f5_mixMatches_b20 n S G L U V B X h (fun v3 v5 => f5_mixMatches_b50 n S G L U V B X h (f5_mixMatches_b5 n S G L U V B X h (fun v3 => f5_mixMatches_b56 n S G L U V B X h v3) k) (fun v3 => f5_mixMatches_b56 n S G L U V B X h v3) v3 v5) k' p.1 (nI i) p.2) (S := fun j => (hf (fun w => (ofM s i w).toInt64) h1 j, nI j)) (N := 9) ?_ ?_ n (by omega)
    · intro k'
      dsimp only
      rw [f5_mixMatches_b20, if_pos (by decide)]
      unfold f5_mixMatches_b50
      rw [nI_add]
    · intro k' j hj
      dsimp only
      rw [f5_mixMatches_b20, if_neg (by rw [nI_le' (by omega) (by omega)]; omega), propertyL_ R g.2.1 hi hj, Option.bind_some]
      unfold f5_mix
      rw [Option.bind_some, nI_add, hf_s]
