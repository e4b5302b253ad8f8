/-! PURE: the reference's digest, its beginning; both sides -/
theorem digestM_ {t q kept len : Nat} {cd : Nat → Nat} {s : Nat → Int32} {M L S : OB} {bits : Int64} {w : UInt64} (R : RLr t q L s) (g : GT t s) (T : TBL S t s) (v : VS (mmT t) s) (d : DF s kept len cd (gsi M 6 (nI 0))) (h60 : len ≤ 60) (e1 : ∀ r, f6_nearness 3000 (gsa (gsi M 6 (nI 0)) 1 r) = some w) (e2 : fJ_doubleToLongBits_ccdee 3000 w = some bits) : ∃ r, f6_digest 3000 M = some (dgV s t q kept len cd bits, gsa (gsi M 6 (nI 0)) 1 r) := by
  obtain ⟨r5, r4, mp, mm⟩ := row_e R
  have h8 := R.1.1.1.2.2.2.1
  obtain ⟨r, e3⟩ := d143_ (S := S) (h := gf (mtF s) (hf (fun k => (s (6 + k)).toInt64) (hf (fun k => (s k).toInt64) (hf (fun w => (cnV s t kept w).toInt64) (3011 : Int64) 10) 4) 12) (mmT t)) R g T v d h60 e1 e2
  refine ⟨r, ?_⟩
  unfold dgE at e3
  unfold dgV
  unfold f6_digest
  rw [Option.bind_some]
  generalize gsi M 6 (nI 0) = N at d e1 e3 ⊢
  refine loop_S (F := fun k p => f6_digest_b11 3000 (fun v1 oM => f6_digest_b36 3000 v1 oM) k p.1 p.2 N) (S := fun i => (hf (fun w => (cnV s t kept w).toInt64) (3011 : Int64) i, nI i)) (N := 10) ?_ ?_ 3000 (by omega)
  · intro k
    dsimp only
    rw [f6_digest_b11, if_pos (by decide)]
    unfold f6_digest_b36
    generalize hf (fun w => (cnV s t kept w).toInt64) (3011 : Int64) 10 = h1 at e3 ⊢
    refine loop_S (F := fun k p => f6_digest_b38 3000 (fun v1 oM => f6_digest_b63 3000 v1 oM) k p.1 p.2 N) (S := fun i => (hf (fun k => (s k).toInt64) h1 i, nI i)) (N := 4) ?_ ?_ 3000 (by omega)
    · intro k
      dsimp only
      rw [f6_digest_b38, if_pos (by decide)]
      unfold f6_digest_b63
      generalize hf (fun k => (s k).toInt64) h1 4 = h2 at e3 ⊢
      refine loop_S (F := fun k p => f6_digest_b65 3000 (fun v1 oM => f6_digest_b94 3000 v1 oM) k p.1 p.2 N) (S := fun i => (hf (fun k => (s (6 + k)).toInt64) h2 i, nI i)) (N := 12) ?_ ?_ 3000 (by omega)
      · intro k
        dsimp only
        rw [f6_digest_b65, if_pos (by decide)]
        unfold f6_digest_b94
        generalize hf (fun k => (s (6 + k)).toInt64) h2 12 = h3 at e3 ⊢
        refine loop_S (F := fun k p => f6_digest_b96 3000 (fun v1 oM => f6_digest_b143 3000 v1 oM) k p.1 p.2 N) (S := fun i => (gf (mtF s) h3 i, nI i)) (N := mmT t) ?_ ?_ 3000 (by omega)
        · intro k
          dsimp only
          rw [f6_digest_b96, d.1, ald_nI (by omega) (by omega), Option.bind_some, r5, if_pos (by rw [nI_le' (by omega) (by omega)]; exact Nat.le_refl _)]
          exact e3
        · intro k i hi
          dsimp only
          rw [f6_digest_b96, d.1, ald_nI (by omega) (by omega), Option.bind_some, r5, if_neg (by rw [nI_le' (by omega) (by omega)]; omega), gf_s]
          generalize gf (mtF s) h3 i = h4
          unfold mtF
          refine loop_S (F := fun k' p => f6_digest_b109 3000 (fun v1 v3 oM => f6_digest_b137 3000 (f6_digest_b96 3000 (fun v1 oM => f6_digest_b143 3000 v1 oM) k) (fun v1 oM => f6_digest_b143 3000 v1 oM) v1 v3 oM) k' p.1 (nI i) p.2 N) (S := fun j => (hf (fun w => (ofM s i w).toInt64) h4 j, nI j)) (N := 9) ?_ ?_ 3000 (by omega)
          · intro k'
            dsimp only
            rw [f6_digest_b109, if_pos (by decide)]
            unfold f6_digest_b137
            rw [nI_add]
          · intro k' j hj
            dsimp only
            rw [f6_digest_b109, if_neg (by rw [nI_le' (by omega) (by omega)]; omega), ofMatch_ d.1 (by omega) hj, Option.bind_some, nI_add, hf_s]
      · intro k i hi
        dsimp only
        rw [f6_digest_b65, if_neg (by rw [nI_le' (by omega) (by omega)]; omega), d.1, nI_add, ald_nI (by omega) (by omega), Option.bind_some, nI_add, hf_s]
    · intro k i hi
      dsimp only
      rw [f6_digest_b38, if_neg (by rw [nI_le' (by omega) (by omega)]; omega), d.1, ald_nI (by omega) (by omega), Option.bind_some, nI_add, hf_s]
  · intro k i hi
    dsimp only
    rw [f6_digest_b11, if_neg (by rw [nI_le' (by omega) (by omega)]; omega), counted_ d.1 d.2.1 R.1.1.1 T R.tms hi (by omega), Option.bind_some, nI_add, hf_s]
theorem call_digest {S G L U V B M : OB} {X : HS} (A : AL L B X M) : ∃ z w, f5_digest 3000 S G L U V B X = some z ∧ f6_digest 3000 M = some w ∧ z.1 = w.1 ∧ AL L B X w.2 := by
  obtain ⟨t, q, R, g⟩ := A.1
  obtain ⟨j, b3, bX, -⟩ := A.2.1
  obtain ⟨cd, len, h60, hc, Tx, Y⟩ := A.2.2
  obtain ⟨S', eT, T⟩ := tbl_ (S := S) R g.1 (show 28 < 3000 by omega)
  obtain ⟨w, eS, -, sB, sS⟩ := share_ (M := M) rfl R.1.1.1 T R.tms (show 28 < 3000 by omega)
  obtain ⟨bits, eJ⟩ := Option.isSome_iff_exists.mp sS
  obtain ⟨G', U', V', eC⟩ := digestC_ (G := G) (U := U) (V := V) R g bX Tx h60 eT T eS (sB.trans eJ)
  have eN : ∀ r, f6_nearness 3000 (gsa (gsi M 6 (nI 0)) 1 r) = some w := fun r => by
    obtain ⟨w', e1, e2, -⟩ := share_ (M := gsa (gsi M 6 (nI 0)) 1 r) (s := M.2 0) rfl R.1.1.1 T R.tms (show 28 < 3000 by omega)
    rw [eS] at e1
    rw [e2, ← Option.some.inj e1]
  obtain ⟨r, eM⟩ := digestM_ (S := S') (M := M) R g.1 T g.2.1 ⟨rfl, b3, Y⟩ h60 eN eJ
  exact ⟨_, _, eC, eM, rfl, A.th.row1⟩
