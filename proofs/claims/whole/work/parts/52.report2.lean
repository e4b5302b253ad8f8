/-! PURE: report, both sides -/
theorem complete_ {n : Nat} {B : OB} (h : B.1 7 = nI 5 ∨ B.1 7 = nI 7) : f2_isComplete n B = some (nI 1) := by
  unfold f2_isComplete
  rcases h with h | h
  · rw [h, if_pos rfl]
  · rw [h, if_neg (by decide), if_pos rfl]
theorem complete_no {n : Nat} {B : OB} (h : B.1 7 ≠ nI 5 ∧ B.1 7 ≠ nI 7) : f2_isComplete n B = some (nI 0) := by
  unfold f2_isComplete
  rw [if_neg h.1, if_neg h.2]
theorem parts_ {n p : Nat} {B : OB} (h : B.1 7 = nI 5 ∨ B.1 7 = nI 7) (hp : B.1 6 = nI p) (p12 : p < 12) : f2_parts n B = some (nI (p + 1)) := by
  unfold f2_parts
  rw [complete_ h, Option.bind_some, if_neg (show ¬ nI 1 = 0 by decide), Option.bind_some, hp, nI_add, if_neg (by rw [nI_lt' (by omega) (by omega)]; omega)]
theorem givesM_ {t Q n : Nat} {B M : OB} {s : Nat → Int32} {K : OB → Option (Int32 × OB)} (hmm : mmT t ≤ 28) (W : VALS Q B M) (hQ : Q ≤ 12) (hT : M.1 11 = nI Q) (hM : M.2 0 = s) (hn : 28 < n) : f6_report_b86 n K n (nI 0) M = K (gsa M 0 (rpR B s Q)) := by
  have h0 : M = gsa M 0 (rpR B s 0) := by
    show M = gsa M 0 s
    rw [← hM, gsa_id]
  conv => lhs; rw [h0]
  refine loop_S (F := fun k p => f6_report_b86 n K k p.1 p.2) (S := fun i => (nI i, gsa M 0 (rpR B s i))) (N := Q) ?_ ?_ n (by omega)
  · intro k
    dsimp only
    rw [f6_report_b86]
    show (if M.1 11 ≤ nI Q then _ else _) = _
    rw [hT, if_pos (by rw [nI_le' (by omega) (by omega)]; exact Nat.le_refl _)]
  · intro k i hi
    dsimp only
    obtain ⟨⟨v1, -⟩, -, m0, m1, m2, m3⟩ := W.f hi
    rw [f6_report_b86]
    show (if M.1 11 ≤ nI i then _ else (ald 68 (M.2 10) (nI 4 * nI i)).bind _) = _
    rw [hT, if_neg (by rw [nI_le' (by omega) (by omega)]; omega), pk_mul, ald_nI (by omega) (by omega), Option.bind_some]
    show ((ald 68 (M.2 10) (nI (4 * i) + nI 1)).bind _) = _
    rw [nI_add, ald_nI (by omega) (by omega), Option.bind_some]
    show ((ald 68 (M.2 10) (nI (4 * i) + nI 2)).bind _) = _
    rw [nI_add, ald_nI (by omega) (by omega), Option.bind_some]
    show ((ald 68 (M.2 10) (nI (4 * i) + nI 3)).bind _) = _
    rw [nI_add, ald_nI (by omega) (by omega), Option.bind_some, gsa_s, m0, m1, m2, m3, gives_ (by omega), Option.bind_some, gsa_gsa, nI_add, rpR_s]
theorem givesC_ {t q Q n : Nat} {S G U V L B M : OB} {X : HS} {s : Nat → Int32} {K : OB → OB → HS → Option ((String ⊕ Int32) × (OB) × (OB) × (HS))} {Post : (String ⊕ Int32) × (OB) × (OB) × (HS) → Prop} (R : RLr t q L s) (W : VALS Q B M) (hQ : Q ≤ 12) (hk : ∀ i, i < Q → okR t s B i = true) (hn : 28 < n) (hK : ∀ L', RLr t q L' (rpR B s Q) → ∃ r, K L' B X = some r ∧ Post r) : ∃ r, f5_report_b66 n S G U V K n (nI Q) (nI 0) L B X = some r ∧ Post r := by
  refine loop_E (F := fun k p => f5_report_b66 n S G U V K k (nI Q) p.1 p.2 B X) (I := fun i (p : Int32 × OB) => p.1 = nI i ∧ RLr t q p.2 (rpR B s i)) (N := Q) ?_ ?_ n (nI 0, L) (by omega) ⟨rfl, R⟩
  · rintro k ⟨v, L1⟩ ⟨e, R1⟩
    dsimp only at e R1 ⊢
    subst e
    rw [f5_report_b66, if_pos (by rw [nI_le' (by omega) (by omega)]; exact Nat.le_refl _)]
    exact hK L1 R1
  · rintro k i ⟨v, L1⟩ hi ⟨e, R1⟩
    dsimp only at e R1 ⊢
    subst e
    obtain ⟨-, ⟨b2, b3, b4, b5⟩, -⟩ := W.f hi
    have h := hk i hi
    unfold okR at h
    rw [Bool.and_eq_true, decide_eq_true_eq, decide_eq_true_eq] at h
    obtain ⟨L2, e2, R2⟩ := give_ (n := n) (x := nI (cl (B.2 3 i))) (y := nI (cl (B.2 4 i))) (z := nI (cl (B.2 5 i))) R1 h.1
    refine ⟨(nI (i + 1), L2), ⟨rfl, R2⟩, ?_⟩
    dsimp only
    rw [f5_report_b66, if_neg (by rw [nI_le' (by omega) (by omega)]; omega), ald_nI (by omega) (by omega), Option.bind_some, ald_nI (by omega) (by omega), Option.bind_some, ald_nI (by omega) (by omega), Option.bind_some, ald_nI (by omega) (by omega), Option.bind_some]
    rw [show f1_give n L1 (B.2 2 i) (B.2 3 i) (B.2 4 i) (B.2 5 i) = some L2 by rw [← e2, ← b2, ← b3, ← b4, ← b5], Option.bind_some, nI_add]
theorem call_report {S G L U V B M : OB} {X : HS} (A : AL L B X M) : ∃ zz w, f5_report 3000 S G L U V B X = some zz ∧ f6_report 3000 M = some w ∧ AG ["java/lang/IllegalArgumentException", "java/lang/IllegalStateException"] zz.1 w.1 (w.2.1 6) ∧ AL zz.2.1 zz.2.2.1 zz.2.2.2 w.2 := by
  obtain ⟨t, q, R, g⟩ := A.1
  obtain ⟨r5, r4, mp, mm⟩ := row_e R
  obtain ⟨a, P, cd, len, h60, hc, T, Y⟩ := A
  obtain ⟨B0, M0, e0, kb, km, H⟩ := text_ (n := 3000) (M := gsi M 6 (nI 0)) h60 hc (by omega) T Y
  have al : ∀ B' M', KBx B' B0 → KM M' M0 → AL L B' X M' := fun B' M' k1 k2 => by
    have k3 := k2.trans km
    obtain ⟨j, b3, bX, b6, bP⟩ := P
    refine ⟨by rw [k3.2 0 (by decide)]; exact a, ⟨j, (k3.1 3 (by decide) (by decide) (by decide) (by decide)).trans b3, bX, b6, fun i hi => by rw [k3.2 2 (by decide)]; exact bP i hi⟩, cd, len, h60, hc, ⟨(k1.1.trans kb.1).trans T.1, fun k hk => by rw [k1.2, kb.2]; exact T.2 k hk⟩, ⟨(k3.1 5 (by decide) (by decide) (by decide) (by decide)).trans Y.1, fun k hk => by rw [k3.2 4 (by decide)]; exact Y.2 k hk⟩⟩
  unfold f5_report f6_report
  simp only [Option.bind_some]
  rcases H with ⟨M', e1, k1, z, B', o1, o2, o3, o4⟩ | ⟨M', B', p, e1, k1, o1, o2, st, p12, b6, m11, W⟩
  · rw [e0, o1, e1, Option.bind_some, Option.bind_some, complete_no o2, Option.bind_some, if_pos (show nI 0 = 0 from rfl), if_pos (show nI 0 = 0 from rfl)]
    exact ⟨_, _, rfl, rfl, AG.no (by decide) (gsi_s _ _ _) (by decide), (al _ _ o4 k1).th⟩
  · have k3 := k1.trans km
    have hM0 : M'.2 0 = M.2 0 := k3.2 0 (by decide)
    have hM6 : M'.1 6 = nI 0 := k3.1 6 (by decide) (by decide) (by decide) (by decide)
    have A' := al B' M' o2 k1
    rw [e0, o1, e1, Option.bind_some, Option.bind_some, complete_ st, Option.bind_some, if_neg (show ¬ nI 1 = 0 by decide), if_neg (show ¬ nI 1 = 0 by decide), canAll_ R W (by omega) (parts_ st b6 p12) (by omega), Option.bind_some, toldAll_ R hM0 W (by omega) m11 (by omega)]
    cases h : alB (okR t (M.2 0) B') (p + 1) with
    | false =>
      rw [if_pos (show nI (bI false) = 0 from rfl), if_neg (by decide)]
      exact ⟨_, _, rfl, rfl, AG.no (by decide) (gsi_s _ _ _) (by decide), A'.th⟩
    | true =>
      rw [if_neg (show ¬ nI (bI true) = 0 by decide), if_pos rfl]
      have hk := alB_t h
      obtain ⟨X', M2, e2, e3, P2, S1, S2⟩ := keep_ (n := 3000) (L := L) (M := M') (by rw [hM0]; exact a) A'.2.1 (by omega)
      rw [e2, Option.bind_some, parts_ st b6 p12, Option.bind_some]
      unfold f6_report_b75
      rw [e3, Option.bind_some, Option.bind_some]
      have W2 : VALS (p + 1) B' (gsi M2 5 (nI 0)) := fun i hi => by
        obtain ⟨m, ρ, x, y, w1, w2, w3⟩ := W i hi
        exact ⟨m, ρ, x, y, w1, w2, by show M2.2 10 _ = _ ∧ M2.2 10 _ = _ ∧ M2.2 10 _ = _ ∧ M2.2 10 _ = _; rw [S2 10 (by decide)]; exact w3⟩
      rw [givesM_ (M := gsi M2 5 (nI 0)) (s := M.2 0) mm W2 (by omega) ((gsi_n _ _ (by decide)).trans ((S1 11 (by decide)).trans m11)) ((S2 0 (by decide)).trans hM0) (by omega)]
      have fin := givesC_ (S := S) (G := G) (U := U) (V := V) (X := X') (n := 3000) (K := fun oL oB oH => f5_report_b120 3000 S G U V oL oB oH) (Post := fun r => ∃ L', r = (.inr (nI (cn (rsP (rpR B' (M.2 0) (p + 1))) (mmT t))), L', gsi B' 0 (nI 0), X') ∧ RLr t q L' (rpR B' (M.2 0) (p + 1))) R W (by omega) hk (by omega) (fun L' R' => by
        unfold f5_report_b120
        rw [Option.bind_some, withResult_ R'.1 (by omega), Option.bind_some]
        exact ⟨_, rfl, L', rfl, R'⟩)
      obtain ⟨r, f1, L', rfl, R'⟩ := fin
      rw [f1]
      unfold f6_report_b145
      rw [withResultM_ (gsa_s _ _ _) R'.1.1.1 (by omega), Option.bind_some]
      refine ⟨_, _, rfl, rfl, ?_, ⟨t, q, ?_, ?_⟩, ?_, cd, 0, by omega, fun k hk => absurd hk (Nat.not_lt_zero k), ⟨rfl, fun k hk => absurd hk (Nat.not_lt_zero k)⟩, ⟨rfl, fun k hk => absurd hk (Nat.not_lt_zero k)⟩⟩
      · show AG _ _ _ (M2.1 6)
        rw [S1 6 (by decide), hM6]
        exact AG.ok
      · show RLr t q L' ((gsa (gsi M2 5 (nI 0)) 0 _).2 0)
        rw [gsa_s]
        exact R'
      · show GR t ((gsa (gsi M2 5 (nI 0)) 0 _).2 0)
        rw [gsa_s]
        exact rpR_g W g hk _ (Nat.le_refl _)
      · obtain ⟨j, b3, bX, b6', bP⟩ := P2
        exact ⟨j, b3, bX, b6', bP⟩
