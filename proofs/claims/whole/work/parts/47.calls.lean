/-! PURE: the calls, both sides -/
theorem rng {x : Int32} {a b : Nat} (ha : a < 2147483648) (hb : b < 2147483648) (h1 : nI a ≤ x) (h2 : x ≤ nI b) : ∃ t, a ≤ t ∧ t ≤ b ∧ x = nI t := by
  rw [Int32.le_iff_toInt_le, ti_nI ha] at h1
  rw [Int32.le_iff_toInt_le, ti_nI hb] at h2
  refine ⟨x.toInt.toNat, by omega, by omega, Int32.toInt_inj.mp ?_⟩
  rw [ti_nI (by omega)]
  omega
/-- the answers of a call agree -/
def AG (order : List String) (zr : String ⊕ Int32) (w th : Int32) : Prop := (∀ E, zr = .inl E → E ∈ order) ∧ th = kO order zr ∧ ∀ r, zr = .inr r → r = w
theorem AG.ok {order : List String} {w : Int32} : AG order (.inr w) w (nI 0) := ⟨fun E h => (by cases h), rfl, fun r h => (by cases h; rfl)⟩
theorem AG.no {order : List String} {E : String} {w th v : Int32} (h : E ∈ order) (ht : th = v) (hv : v = kO order (.inl E)) : AG order (.inl E) w th := ⟨fun E' h' => (by cases h'; exact h), ht.trans hv, fun r h => (by cases h)⟩
/-- what holds between the class and the reference -/
def AL (L B : OB) (X : HS) (M : OB) : Prop := LG L (M.2 0) ∧ PSR M X ∧ ∃ (cd : Nat → Nat) (len : Nat), len ≤ 60 ∧ (∀ k, k < len → cd k < 128) ∧ TX cd len B ∧ TY cd len M
theorem AL.frm {L B : OB} {X : HS} {M M' : OB} (h : AL L B X M) (h3 : M'.1 3 = M.1 3) (h5 : M'.1 5 = M.1 5) (g0 : M'.2 0 = M.2 0) (g2 : M'.2 2 = M.2 2) (g4 : M'.2 4 = M.2 4) : AL L B X M' := by
  obtain ⟨a, ⟨j, b3, bX, b6, bP⟩, cd, len, c1, c2, c3, c4, c5⟩ := h
  exact ⟨by rw [g0]; exact a, ⟨j, h3.trans b3, bX, b6, by rw [g2]; exact bP⟩, cd, len, c1, c2, c3, h5.trans c4, by rw [g4]; exact c5⟩
theorem AL.th {L B : OB} {X : HS} {M : OB} {v : Int32} (h : AL L B X M) : AL L B X (gsi M 6 v) := h.frm rfl rfl rfl rfl rfl
/-- the state is kept, then the league and the row change together -/
theorem AL.keep {L B : OB} {X : HS} {M : OB} (h : AL L B X M) : ∃ X' M', f0_keep 3000 L X = some X' ∧ f6_saves 3000 (gsi M 6 (nI 0)) = some M' ∧ M'.2 0 = M.2 0 ∧ M'.1 6 = nI 0 ∧ ∀ L' u, LG L' u → AL L' B X' (gsa M' 0 u) := by
  obtain ⟨a, P, cd, len, c1, c2, c3, c4⟩ := h
  obtain ⟨X', M', e1, e2, P', S1, S2⟩ := keep_ (n := 3000) (M := gsi M 6 (nI 0)) a P (by omega)
  refine ⟨X', M', e1, e2, S2 0 (by decide), S1 6 (by decide), fun L' u hL => ⟨by rw [gsa_s]; exact hL, ?_, cd, len, c1, c2, c3, (S1 5 (by decide)).trans c4.1, ?_⟩⟩
  · obtain ⟨j, b3, bX, b6, bP⟩ := P'
    exact ⟨j, b3, bX, b6, bP⟩
  · intro k hk
    show M'.2 4 k = _
    rw [S2 4 (by decide)]
    exact c4.2 k hk
theorem in_no {n : Nat} {x lo hi : Int32} (h : x < lo ∨ hi < x) : f6_in n x lo hi = some (nI 0) := by
  unfold f6_in
  by_cases c : x < lo
  · rw [if_pos c]
  · rw [if_neg c, if_pos (h.resolve_left c)]
theorem in_ok {n : Nat} {x lo hi : Int32} (h1 : ¬ x < lo) (h2 : ¬ hi < x) : f6_in n x lo hi = some (nI 1) := by
  unfold f6_in
  rw [if_neg h1, if_neg h2]
theorem call_begin {S G L U V B M : OB} {X : HS} {x : Int32} (A : AL L B X M) : ∃ z w, f5_begin 3000 S G L U V B X x = some z ∧ f6_begin 3000 M x = some w ∧ AG ["java/lang/IllegalArgumentException"] z.1 w.1 (w.2.1 6) ∧ AL z.2.1 B z.2.2 w.2 := by
  unfold f5_begin f6_begin f6_fails
  simp only [Option.bind_some]
  by_cases c1 : x < nI 3
  · rw [if_pos c1, in_no (Or.inl c1), Option.bind_some, if_pos (show nI 0 = 0 from rfl)]
    exact ⟨_, _, rfl, rfl, AG.no (by decide) (gsi_s _ _ _) (by decide), A.th.th⟩
  · rw [if_neg c1]
    by_cases c2 : x ≤ nI 8
    · rw [if_pos c2, in_ok c1 (Int32.not_lt.mpr c2), Option.bind_some, if_neg (show ¬ nI 1 = 0 by decide)]
      obtain ⟨t, t3, t8, rfl⟩ := rng (by decide) (by decide) (Int32.not_lt.mp c1) c2
      obtain ⟨X', M', e1, e2, m0, m6, K⟩ := A.keep
      obtain ⟨L', u, e3, e4, hL, l2, u5⟩ := lg_again (n := 3000) (M := M') t3 t8 (show LG L (M'.2 0) by rw [m0]; exact A.1) (by omega)
      rw [e1, Option.bind_some, e3, Option.bind_some, e2, Option.bind_some, e4, Option.bind_some, gsa_s, ald_nI (by omega) (by omega), Option.bind_some]
      refine ⟨_, _, rfl, rfl, ?_, K L' u hL⟩
      show AG _ (.inr (L'.1 2)) (u 5) (M'.1 6)
      rw [l2, u5, m6]
      exact AG.ok
    · rw [if_neg c2, in_no (Or.inr (Int32.not_le.mp c2)), Option.bind_some, if_pos (show nI 0 = 0 from rfl)]
      exact ⟨_, _, rfl, rfl, AG.no (by decide) (gsi_s _ _ _) (by decide), A.th.th⟩
theorem isMask_no {n : Nat} {x : Int32} (h : x < nI 0 ∨ nI 127 < x) : f5_isMask n x = some (nI 0) := in_no (n := n) h
theorem isMask_ok {n : Nat} {x : Int32} (h1 : ¬ x < nI 0) (h2 : ¬ nI 127 < x) : f5_isMask n x = some (nI 1) := in_ok (n := n) h1 h2
theorem saves_same {M M' : OB} (h : f6_saves 3000 M = some M') : True := trivial
theorem call_close {S G L U V B M : OB} {X : HS} {x y : Int32} (A : AL L B X M) : ∃ z w, f5_close 3000 S G L U V B X x y = some z ∧ f6_close 3000 M x y = some w ∧ AG ["java/lang/IndexOutOfBoundsException", "java/lang/IllegalArgumentException"] z.1 w.1 (w.2.1 6) ∧ AL z.2.1 B z.2.2 w.2 := by
  unfold f5_close f6_close f6_masks f6_fails
  simp only [Option.bind_some]
  rw [show (0 : Int32) = nI 0 from rfl]
  by_cases c1 : x < nI 0
  · rw [if_pos c1, in_no (Or.inl c1), Option.bind_some, if_pos rfl]
    exact ⟨_, _, rfl, rfl, AG.no (by decide) (gsi_s _ _ _) (by decide), A.th.th⟩
  · rw [if_neg c1]
    by_cases c2 : x < nI 6
    · have c2' : x ≤ nI 5 := by
        rw [Int32.lt_iff_toInt_lt, ti_nI (by omega)] at c2
        rw [Int32.le_iff_toInt_le, ti_nI (by omega)]
        omega
      rw [if_pos c2, in_ok c1 (Int32.not_lt.mpr c2'), Option.bind_some, if_neg (show ¬ nI 1 = nI 0 by decide)]
      by_cases c3 : y < nI 0 ∨ nI 127 < y
      · rw [isMask_no c3, in_no c3, Option.bind_some, Option.bind_some, if_pos rfl, if_pos rfl]
        exact ⟨_, _, rfl, rfl, AG.no (by decide) (gsi_s _ _ _) (by decide), A.th.th⟩
      · rw [isMask_ok (fun e => c3 (Or.inl e)) (fun e => c3 (Or.inr e)), in_ok (fun e => c3 (Or.inl e)) (fun e => c3 (Or.inr e)), Option.bind_some, Option.bind_some, if_neg (show ¬ nI 1 = nI 0 by decide), if_neg (show ¬ nI 1 = nI 0 by decide)]
        obtain ⟨k, -, k5, rfl⟩ := rng (by decide) (by decide) (Int32.not_lt.mp c1) c2'
        obtain ⟨X', M', e1, e2, m0, m6, K⟩ := A.keep
        obtain ⟨t, q, R, G⟩ := A.1
        rw [e1, Option.bind_some, ald_nI (by omega) (by omega), Option.bind_some, oast_nI (by omega) (by omega), Option.bind_some, e2, Option.bind_some]
        unfold f6_changes
        rw [nI_add, ald_nI (by omega) (by omega), Option.bind_some, oast_nI (by omega) (by omega), Option.bind_some, Option.bind_some]
        refine ⟨_, _, rfl, rfl, ?_, K _ _ ?_⟩
        · show AG _ (.inr (L.2 4 k)) (M'.2 0 (6 + k)) (M'.1 6)
          rw [m6, m0, R.1.2.2.1.2.1 k (by omega)]
          exact AG.ok
        · rw [m0]
          exact ⟨t, q, R.mask4 (by omega), G.mask (by omega) (by omega)⟩
    · have c2' : nI 5 < x := by
        rw [Int32.lt_iff_toInt_lt, ti_nI (by omega)] at c2
        rw [Int32.lt_iff_toInt_lt, ti_nI (by omega)]
        omega
      rw [if_neg c2, in_no (Or.inr c2'), Option.bind_some, if_pos rfl]
      exact ⟨_, _, rfl, rfl, AG.no (by decide) (gsi_s _ _ _) (by decide), A.th.th⟩
theorem call_away {S G L U V B M : OB} {X : HS} {x y : Int32} (A : AL L B X M) : ∃ z w, f5_away 3000 S G L U V B X x y = some z ∧ f6_away 3000 M x y = some w ∧ AG ["java/lang/IndexOutOfBoundsException", "java/lang/IllegalArgumentException"] z.1 w.1 (w.2.1 6) ∧ AL z.2.1 B z.2.2 w.2 := by
  unfold f5_away f6_away f6_masks f6_fails
  simp only [Option.bind_some]
  rw [show (0 : Int32) = nI 0 from rfl]
  by_cases c1 : x < nI 0
  · rw [if_pos c1, in_no (Or.inl c1), Option.bind_some, if_pos rfl]
    exact ⟨_, _, rfl, rfl, AG.no (by decide) (gsi_s _ _ _) (by decide), A.th.th⟩
  · rw [if_neg c1]
    by_cases c2 : x < nI 6
    · have c2' : x ≤ nI 5 := by
        rw [Int32.lt_iff_toInt_lt, ti_nI (by omega)] at c2
        rw [Int32.le_iff_toInt_le, ti_nI (by omega)]
        omega
      rw [if_pos c2, in_ok c1 (Int32.not_lt.mpr c2'), Option.bind_some, if_neg (show ¬ nI 1 = nI 0 by decide)]
      by_cases c3 : y < nI 0 ∨ nI 127 < y
      · rw [isMask_no c3, in_no c3, Option.bind_some, Option.bind_some, if_pos rfl, if_pos rfl]
        exact ⟨_, _, rfl, rfl, AG.no (by decide) (gsi_s _ _ _) (by decide), A.th.th⟩
      · rw [isMask_ok (fun e => c3 (Or.inl e)) (fun e => c3 (Or.inr e)), in_ok (fun e => c3 (Or.inl e)) (fun e => c3 (Or.inr e)), Option.bind_some, Option.bind_some, if_neg (show ¬ nI 1 = nI 0 by decide), if_neg (show ¬ nI 1 = nI 0 by decide)]
        obtain ⟨k, -, k5, rfl⟩ := rng (by decide) (by decide) (Int32.not_lt.mp c1) c2'
        obtain ⟨X', M', e1, e2, m0, m6, K⟩ := A.keep
        obtain ⟨t, q, R, G⟩ := A.1
        rw [e1, Option.bind_some, ald_nI (by omega) (by omega), Option.bind_some, oast_nI (by omega) (by omega), Option.bind_some, e2, Option.bind_some]
        unfold f6_changes
        rw [nI_add, ald_nI (by omega) (by omega), Option.bind_some, oast_nI (by omega) (by omega), Option.bind_some, Option.bind_some]
        refine ⟨_, _, rfl, rfl, ?_, K _ _ ?_⟩
        · show AG _ (.inr (L.2 5 k)) (M'.2 0 (12 + k)) (M'.1 6)
          rw [m6, m0, R.1.2.2.1.2.2 k (by omega)]
          exact AG.ok
        · rw [m0]
          exact ⟨t, q, R.mask5 (by omega), G.mask (by omega) (by omega)⟩
    · have c2' : nI 5 < x := by
        rw [Int32.lt_iff_toInt_lt, ti_nI (by omega)] at c2
        rw [Int32.lt_iff_toInt_lt, ti_nI (by omega)]
        omega
      rw [if_neg c2, in_no (Or.inr c2'), Option.bind_some, if_pos rfl]
      exact ⟨_, _, rfl, rfl, AG.no (by decide) (gsi_s _ _ _) (by decide), A.th.th⟩
theorem call_stage {S G L U V B M : OB} {X : HS} (A : AL L B X M) : ∃ z w, f5_stage 3000 S G L U V B X = some z ∧ f6_stage 3000 M = some w ∧ z.1 = w.1 ∧ AL z.2.2.1 B z.2.2.2 w.2 := by
  unfold f5_stage f6_stage
  simp only [Option.bind_some]
  obtain ⟨X', M', e1, e2, m0, m6, K⟩ := A.keep
  obtain ⟨t, q, R, g⟩ := A.1
  obtain ⟨G', L', e3, R'⟩ := assign_ (G := G) (n := 3000) R g.2.1 (by omega)
  rw [e1, Option.bind_some, e3, Option.bind_some, e2, Option.bind_some, m0, stages_ R.1.1 (by omega), Option.bind_some]
  exact ⟨_, _, rfl, rfl, rfl, K _ _ ⟨t, q, R', GR.stg R.1.1 g⟩⟩
