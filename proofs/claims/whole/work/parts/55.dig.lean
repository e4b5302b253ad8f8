/-! PURE: the reference's digest -/
def DF (s : Nat → Int32) (kept len : Nat) (cd : Nat → Nat) (M : OB) : Prop := M.2 0 = s ∧ M.1 3 = nI kept ∧ TY cd len M
theorem DF.r1 {s : Nat → Int32} {kept len : Nat} {cd : Nat → Nat} {M : OB} (d : DF s kept len cd M) (r : Nat → Int32) : DF s kept len cd (gsa M 1 r) := ⟨d.1, d.2.1, d.2.2⟩
theorem d277_ {t kept len n : Nat} {cd : Nat → Nat} {s : Nat → Int32} {M S : OB} {h bits : Int64} {w : UInt64} (d : DF s kept len cd M) (h60 : len ≤ 60) (e1 : f6_nearness n M = some w) (e2 : fJ_doubleToLongBits_ccdee n w = some bits) (hn : 61 < n) : f6_digest_b277 n h M = some (hf (fun k => (nI (cd k)).toInt64) ((31 : Int64) * ((31 : Int64) * h + bits) + (nI len).toInt64) len, M) := by
  obtain ⟨hM, h3, Y⟩ := d
  unfold f6_digest_b277
  rw [e1, Option.bind_some, e2, Option.bind_some, Y.1]
  generalize (31 : Int64) * ((31 : Int64) * h + bits) + (nI len).toInt64 = h0
  refine loop_S (F := fun k p => f6_digest_b303 n (fun v1 oM => f6_digest_b331 n v1 oM) k p.1 p.2 M) (S := fun i => (hf (fun k => (nI (cd k)).toInt64) h0 i, nI i)) (N := len) ?_ ?_ n (by omega)
  · intro k
    dsimp only
    rw [f6_digest_b303, Y.1, if_pos (by rw [nI_le' (by omega) (by omega)]; exact Nat.le_refl _)]
    rfl
  · intro k i hi
    dsimp only
    rw [f6_digest_b303, Y.1, if_neg (by rw [nI_le' (by omega) (by omega)]; omega), ald_nI (by omega) (by omega), Option.bind_some, Y.2 i hi, nI_add, hf_s]
set_option maxRecDepth 20000 in
theorem d250_ {t q kept len : Nat} {cd : Nat → Nat} {s : Nat → Int32} {M L : OB} {h bits : Int64} {w : UInt64} (R : RLr t q L s) (v : VS (mmT t) s) (d : DF s kept len cd M) (h60 : len ≤ 60) (e1 : ∀ r, f6_nearness 3000 (gsa M 1 r) = some w) (e2 : fJ_doubleToLongBits_ccdee 3000 w = some bits) : ∃ r, f6_digest_b250 3000 h M = some (hf (fun k => (nI (cd k)).toInt64) ((31 : Int64) * ((31 : Int64) * hf (fun k => (nI (WO t q k s).1).toInt64) h 12 + bits) + (nI len).toInt64) len, gsa M 1 r) := by
  have goal : ∃ z, f6_digest_b250 3000 h M = some z ∧ ∃ r, z = (hf (fun k => (nI (cd k)).toInt64) ((31 : Int64) * ((31 : Int64) * hf (fun k => (nI (WO t q k s).1).toInt64) h 12 + bits) + (nI len).toInt64) len, gsa M 1 r) := by
    unfold f6_digest_b250
    refine loop_E (F := fun k p => f6_digest_b252 3000 (fun v1 oM => f6_digest_b277 3000 v1 oM) k p.1 p.2.1 p.2.2) (I := fun i (p : Int64 × Int32 × OB) => p.1 = hf (fun k => (nI (WO t q k s).1).toInt64) h i ∧ p.2.1 = nI i ∧ ∃ r, p.2.2 = gsa M 1 r) (N := 12) ?_ ?_ 3000 (h, nI 0, M) (by omega) ⟨rfl, rfl, M.2 1, (gsa_id M 1).symm⟩
    · rintro k ⟨v1, v3, M1⟩ ⟨e3, e4, r, e5⟩
      dsimp only at e3 e4 e5 ⊢
      subst e3; subst e4; subst e5
      rw [f6_digest_b252, if_pos (by decide), d277_ (t := t) (S := L) (d.r1 r) h60 (e1 r) e2 (by omega)]
      exact ⟨_, rfl, r, rfl⟩
    · rintro k i ⟨v1, v3, M1⟩ hi ⟨e3, e4, r, e5⟩
      dsimp only at e3 e4 e5 ⊢
      subst e3; subst e4; subst e5
      have E : EQR s (cp1 (gsa M 1 r)) := by
        unfold cp1
        rw [show (gsa M 1 r).2 0 = s from d.1]
        exact eqr_cpy _ _
      refine ⟨(hf (fun k => (nI (WO t q k s).1).toInt64) h (i + 1), nI (i + 1), gsa M 1 (WO t q i (cp1 (gsa M 1 r))).2), ⟨rfl, rfl, _, rfl⟩, ?_⟩
      dsimp only
      rw [f6_digest_b252, if_neg (by rw [nI_le' (by omega) (by omega)]; omega), without_ (M := gsa M 1 r) (s := s) d.1 R hi (by omega), Option.bind_some, wo_any R v E hi, gsa_gsa, nI_add, hf_s]
  obtain ⟨z, e, r, rfl⟩ := goal
  exact ⟨r, e⟩
theorem d216_ {t q kept len : Nat} {cd : Nat → Nat} {s : Nat → Int32} {M L S : OB} {h bits : Int64} {w : UInt64} (R : RLr t q L s) (T : TBL S t s) (v : VS (mmT t) s) (d : DF s kept len cd M) (h60 : len ≤ 60) (e1 : ∀ r, f6_nearness 3000 (gsa M 1 r) = some w) (e2 : fJ_doubleToLongBits_ccdee 3000 w = some bits) : ∃ r, f6_digest_b216 3000 h M = some (hf (fun k => (nI (cd k)).toInt64) ((31 : Int64) * ((31 : Int64) * hf (fun k => (nI (WO t q k s).1).toInt64) (hf (fun p => (oN (TA s t p)).toInt64) h t) 12 + bits) + (nI len).toInt64) len, gsa M 1 r) := by
  have h8 := R.1.1.1.2.2.2.1
  obtain ⟨r, e3⟩ := d250_ (h := hf (fun p => (oN (TA s t p)).toInt64) h t) R v d h60 e1 e2
  refine ⟨r, ?_⟩
  unfold f6_digest_b216
  refine loop_S (F := fun k p => f6_digest_b218 3000 (fun v1 oM => f6_digest_b250 3000 v1 oM) k p.1 p.2 M) (S := fun i => (hf (fun p => (oN (TA s t p)).toInt64) h i, nI i)) (N := t) ?_ ?_ 3000 (by omega)
  · intro k
    dsimp only
    rw [f6_digest_b218, d.1, ald_nI (by omega) (by omega), Option.bind_some, R.1.1.1.1, if_pos (by rw [nI_le' (by omega) (by omega)]; exact Nat.le_refl _)]
    exact e3
  · intro k i hi
    dsimp only
    rw [f6_digest_b218, d.1, ald_nI (by omega) (by omega), Option.bind_some, R.1.1.1.1, if_neg (by rw [nI_le' (by omega) (by omega)]; omega), teamAtM_ R.1.1.1 T (by omega) (by omega), Option.bind_some, nI_add, hf_s]
/-- the digest's end, from the teams on -/
def dgE (s : Nat → Int32) (t q len : Nat) (cd : Nat → Nat) (bits h : Int64) : Int64 :=
  hf (fun k => (nI (cd k)).toInt64) ((31 : Int64) * ((31 : Int64) * hf (fun k => (nI (WO t q k s).1).toInt64) (hf (fun p => (oN (TA s t p)).toInt64) h t) 12 + bits) + (nI len).toInt64) len
theorem d143_ {t q kept len : Nat} {cd : Nat → Nat} {s : Nat → Int32} {M L S : OB} {h bits : Int64} {w : UInt64} (R : RLr t q L s) (g : GT t s) (T : TBL S t s) (v : VS (mmT t) s) (d : DF s kept len cd M) (h60 : len ≤ 60) (e1 : ∀ r, f6_nearness 3000 (gsa M 1 r) = some w) (e2 : fJ_doubleToLongBits_ccdee 3000 w = some bits) : ∃ r, f6_digest_b143 3000 h M = some (dgE s t q len cd bits (gf (tmF s t) h t), gsa M 1 r) := by
  have h8 := R.1.1.1.2.2.2.1
  have goal : ∃ z, f6_digest_b143 3000 h M = some z ∧ ∃ r, z = (dgE s t q len cd bits (gf (tmF s t) h t), gsa M 1 r) := by
    unfold f6_digest_b143
    refine loop_E (F := fun k p => f6_digest_b145 3000 (fun v1 oM => f6_digest_b216 3000 v1 oM) k p.1 p.2.1 p.2.2) (I := fun i (p : Int64 × Int32 × OB) => p.1 = gf (tmF s t) h i ∧ p.2.1 = nI i ∧ ∃ r, p.2.2 = gsa M 1 r) (N := t) ?_ ?_ 3000 (h, nI 0, M) (by omega) ⟨rfl, rfl, M.2 1, (gsa_id M 1).symm⟩
    · rintro k ⟨v1, v3, M1⟩ ⟨e3, e4, r, e5⟩
      dsimp only at e3 e4 e5 ⊢
      subst e3; subst e4; subst e5
      obtain ⟨r2, e6⟩ := d216_ (S := S) (M := gsa M 1 r) (h := gf (tmF s t) h t) R T v (d.r1 r) h60 (fun r' => by rw [gsa_gsa]; exact e1 r') e2
      rw [f6_digest_b145, show (gsa M 1 r).2 0 = s from d.1, ald_nI (by omega) (by omega), Option.bind_some, R.1.1.1.1, if_pos (by rw [nI_le' (by omega) (by omega)]; exact Nat.le_refl _)]
      refine ⟨_, e6, r2, ?_⟩
      rw [gsa_gsa]
      rfl
    · rintro k i ⟨v1, v3, M1⟩ hi ⟨e3, e4, r, e5⟩
      dsimp only at e3 e4 e5 ⊢
      subst e3; subst e4; subst e5
      have E : EQR s (cp1 (gsa M 1 r)) := by
        unfold cp1
        rw [show (gsa M 1 r).2 0 = s from d.1]
        exact eqr_cpy _ _
      have eB := best_ (M := gsa M 1 r) (s := s) d.1 R g hi (show 270 < 3000 by omega)
      rw [pl_any R g E hi, gsa_gsa] at eB
      refine ⟨(gf (tmF s t) h (i + 1), nI (i + 1), gsa M 1 (wnR t i (cp1 (gsa M 1 r)) (mmT t))), ⟨rfl, rfl, _, rfl⟩, ?_⟩
      dsimp only
      rw [f6_digest_b145, show (gsa M 1 r).2 0 = s from d.1, ald_nI (by omega) (by omega), Option.bind_some, R.1.1.1.1, if_neg (by rw [nI_le' (by omega) (by omega)]; omega), gf_s]
      generalize gf (tmF s t) h i = h1
      refine loop_S (F := fun k' p => f6_digest_b158 3000 (fun v1 v3 oM => f6_digest_b186 3000 (f6_digest_b145 3000 (fun v1 oM => f6_digest_b216 3000 v1 oM) k) (fun v1 oM => f6_digest_b216 3000 v1 oM) v1 v3 oM) k' p.1 (nI i) p.2 (gsa M 1 r)) (S := fun j => (hf (fun w => (ofT s t i w).toInt64) h1 j, nI j)) (N := 9) ?_ ?_ 3000 (by omega)
      · intro k'
        dsimp only
        rw [f6_digest_b158, if_pos (by decide)]
        unfold f6_digest_b186
        rw [eB, Option.bind_some]
        dsimp only
        rw [sureM_ (M := gsa M 1 (wnR t i (cp1 (gsa M 1 r)) (mmT t))) (s := s) d.1 R.1.1.1 hi (by omega), Option.bind_some, nI_add]
        rfl
      · intro k' j hj
        dsimp only
        rw [f6_digest_b158, if_neg (by rw [nI_le' (by omega) (by omega)]; omega), ofTeam_ (M := gsa M 1 r) (s := s) d.1 R.1.1.1 T hi hj (by omega), Option.bind_some, nI_add, hf_s]
  obtain ⟨z, e, r, rfl⟩ := goal
  exact ⟨r, e⟩
