/-! PURE: report -/
def cl (x : Int32) : Nat := x.toNatClampNeg
theorem VALS.f {P : Nat} {B M : OB} (V : VALS P B M) {i : Nat} (hi : i < P) : VAL i (cl (B.2 2 i)) (cl (B.2 3 i)) (cl (B.2 4 i)) (cl (B.2 5 i)) B M := by
  obtain ⟨m, ρ, x, y, v⟩ := V i hi
  have v0 := v
  obtain ⟨⟨v1, ⟨v2, v3⟩, v4, v5⟩, ⟨b2, b3, b4, b5⟩, -⟩ := v
  have e2 : cl (B.2 2 i) = m := by unfold cl; rw [b2, nI_clamp (by omega)]
  have e3 : cl (B.2 3 i) = ρ := by unfold cl; rw [b3, nI_clamp (by omega)]
  have e4 : cl (B.2 4 i) = x := by unfold cl; rw [b4, nI_clamp (by omega)]
  have e5 : cl (B.2 5 i) = y := by unfold cl; rw [b5, nI_clamp (by omega)]
  rw [e2, e3, e4, e5]
  exact v0
theorem loop_B {α : Type} {F : Nat → Nat → α} {ok : Nat → Bool} {Q : Nat} {a b : α} (hx : ∀ k, F (k + 1) Q = a) (hy : ∀ k i, i < Q → ok i = true → F (k + 1) i = F k (i + 1)) (hn : ∀ k i, i < Q → ok i = false → F (k + 1) i = b) : ∀ k, Q < k → F k 0 = if alB ok Q = true then a else b := by
  have key : ∀ j i k, i + j = Q → j < k → alB ok i = true → F k i = if alB ok Q = true then a else b := by
    intro j
    induction j with
    | zero =>
      intro i k hi hk h
      obtain ⟨k, rfl⟩ : ∃ q, k = q + 1 := ⟨k - 1, by omega⟩
      have e : i = Q := by omega
      subst e
      rw [if_pos h]
      exact hx k
    | succ j ih =>
      intro i k hi hk h
      obtain ⟨k, rfl⟩ : ∃ q, k = q + 1 := ⟨k - 1, by omega⟩
      cases c : ok i with
      | true =>
        rw [hy k i (by omega) c]
        exact ih (i + 1) k (by omega) (by omega) (by rw [alB_s, h, c]; rfl)
      | false =>
        rw [hn k i (by omega) c, alB_f c (show i < Q by omega), if_neg (by decide)]
  exact fun k hk => key Q 0 k (by omega) hk rfl
theorem alB_t {p : Nat → Bool} : ∀ {n : Nat}, alB p n = true → ∀ i, i < n → p i = true
  | 0, _, i, hi => absurd hi (Nat.not_lt_zero i)
  | n + 1, h, i, hi => by
    rw [alB_s, Bool.and_eq_true] at h
    by_cases e : i = n
    · rw [e]; exact h.2
    · exact alB_t h.1 i (by omega)
def okR (t : Nat) (s : Nat → Int32) (B : OB) (i : Nat) : Bool := decide (cl (B.2 2 i) < mmT t) && decide (¬ s (18 + 9 * cl (B.2 2 i) + 3) = -1)
def rpR (B : OB) (s : Nat → Int32) : Nat → Nat → Int32
  | 0 => s
  | i + 1 => gv (rpR B s i) (cl (B.2 2 i)) (nI (cl (B.2 3 i))) (nI (cl (B.2 4 i))) (nI (cl (B.2 5 i)))
theorem rpR_s (B : OB) (s : Nat → Int32) (i : Nat) : rpR B s (i + 1) = gv (rpR B s i) (cl (B.2 2 i)) (nI (cl (B.2 3 i))) (nI (cl (B.2 4 i))) (nI (cl (B.2 5 i))) := rfl
theorem rpR_3 (B : OB) (s : Nat → Int32) (m : Nat) : ∀ i, rpR B s i (18 + 9 * m + 3) = s (18 + 9 * m + 3)
  | 0 => rfl
  | i + 1 => by
    rw [rpR_s, gv_o (by omega) (by omega) (by omega)]
    exact rpR_3 B s m i
theorem rpR_g {t P : Nat} {B M : OB} {s : Nat → Int32} (V : VALS P B M) (g : GR t s) (h : ∀ i, i < P → okR t s B i = true) : ∀ i, i ≤ P → GR t (rpR B s i)
  | 0, _ => g
  | i + 1, hi => by
    have ih := rpR_g V g h i (by omega)
    obtain ⟨⟨v1, ⟨v2, v3⟩, v4, v5⟩, -⟩ := V.f (show i < P by omega)
    have hk := h i (by omega)
    unfold okR at hk
    rw [Bool.and_eq_true, decide_eq_true_eq, decide_eq_true_eq] at hk
    rw [rpR_s]
    refine ih.gv (by omega) v4 v5 (fun _ => (ih.2.2.2 _ hk.1).resolve_left ?_)
    rw [rpR_3]
    exact hk.2
theorem canAll_ {t q Q n : Nat} {S G L U V B M : OB} {X : HS} {s : Nat → Int32} (R : RLr t q L s) (W : VALS Q B M) (hQ : Q ≤ 12) (hp : f2_parts n B = some (nI Q)) (hn : 28 < n) : f5_canReportAll n S G L U V B X = some (nI (bI (alB (okR t s B) Q))) := by
  obtain ⟨r5, r4, mp, mm⟩ := row_e R
  have h := loop_B (F := fun k i => f5_canReportAll_b10 n S G L U V B X k (nI Q) (nI i)) (ok := okR t s B) (Q := Q) (a := some (nI 1)) (b := some (nI 0)) (fun k => by
    rw [f5_canReportAll_b10, if_pos (by rw [nI_le' (by omega) (by omega)]; exact Nat.le_refl _)]) (fun k i hi c => by
    obtain ⟨⟨v1, -⟩, ⟨b2, -⟩, -⟩ := W.f hi
    unfold okR at c
    rw [Bool.and_eq_true, decide_eq_true_eq, decide_eq_true_eq] at c
    rw [f5_canReportAll_b10, if_neg (by rw [nI_le' (by omega) (by omega)]; omega), ald_nI (by omega) (by omega), Option.bind_some, b2, hasMatch_ R.1.2.1.2.2 mm c.1, Option.bind_some, if_neg (show ¬ nI 1 = 0 by decide), canHave_ R.1 c.1, Option.bind_some, if_neg c.2, if_neg (show ¬ nI 1 = 0 by decide), nI_add]) (fun k i hi c => by
    obtain ⟨⟨v1, -⟩, ⟨b2, -⟩, -⟩ := W.f hi
    unfold okR at c
    rw [f5_canReportAll_b10, if_neg (by rw [nI_le' (by omega) (by omega)]; omega), ald_nI (by omega) (by omega), Option.bind_some, b2]
    by_cases c1 : cl (B.2 2 i) < mmT t
    · rw [decide_eq_true c1, Bool.true_and, decide_eq_false_iff_not, Classical.not_not] at c
      rw [hasMatch_ R.1.2.1.2.2 mm c1, Option.bind_some, if_neg (show ¬ nI 1 = 0 by decide), canHave_ R.1 c1, Option.bind_some, if_pos c, if_pos (show nI 0 = 0 from rfl)]
    · rw [hasMatch_no R.1.2.1.2.2 (Or.inr (by rw [nI_le' (by omega) (by omega)]; omega)), Option.bind_some, if_pos (show nI 0 = 0 from rfl)]) n (by omega)
  unfold f5_canReportAll
  rw [hp, Option.bind_some, h]
  cases alB (okR t s B) Q <;> rfl
theorem toldAll_ {t q Q n : Nat} {L B M : OB} {s : Nat → Int32} {K63 K75 : OB → Option (Int32 × OB)} (R : RLr t q L s) (hM : M.2 0 = s) (W : VALS Q B M) (hQ : Q ≤ 12) (hT : M.1 11 = nI Q) (hn : 28 < n) : f6_report_b20 n K63 K75 n (nI 0) M = if alB (okR t s B) Q = true then K75 M else K63 M := by
  obtain ⟨r5, r4, mp, mm⟩ := row_e R
  refine loop_B (F := fun k i => f6_report_b20 n K63 K75 k (nI i) M) (ok := okR t s B) (Q := Q) (a := K75 M) (b := K63 M) (fun k => by
    rw [f6_report_b20, hT, if_pos (by rw [nI_le' (by omega) (by omega)]; exact Nat.le_refl _)]) (fun k i hi c => by
    obtain ⟨⟨v1, -⟩, -, m0, -⟩ := W.f hi
    unfold okR at c
    rw [Bool.and_eq_true, decide_eq_true_eq, decide_eq_true_eq] at c
    rw [f6_report_b20, hT, if_neg (by rw [nI_le' (by omega) (by omega)]; omega), pk_mul, ald_nI (by omega) (by omega), Option.bind_some, Option.bind_some, m0, isMatch_ok (M := M) (by rw [hM]; exact r5) mm c.1, Option.bind_some, if_neg (show ¬ nI 1 = 0 by decide), of_ (by omega) (by omega), Option.bind_some, hM, if_neg c.2, nI_add]) (fun k i hi c => by
    obtain ⟨⟨v1, -⟩, -, m0, -⟩ := W.f hi
    unfold okR at c
    rw [f6_report_b20, hT, if_neg (by rw [nI_le' (by omega) (by omega)]; omega), pk_mul, ald_nI (by omega) (by omega), Option.bind_some, Option.bind_some, m0]
    by_cases c1 : cl (B.2 2 i) < mmT t
    · rw [decide_eq_true c1, Bool.true_and, decide_eq_false_iff_not, Classical.not_not] at c
      rw [isMatch_ok (M := M) (by rw [hM]; exact r5) mm c1, Option.bind_some, if_neg (show ¬ nI 1 = 0 by decide), of_ (by omega) (by omega), Option.bind_some, hM, if_pos c]
    · rw [isMatch_no (M := M) (by rw [hM]; exact r5) mp mm (Or.inr (by rw [nI_le' (by omega) (by omega)]; omega)), Option.bind_some, if_pos (show nI 0 = 0 from rfl)]) n (by omega)
