/-! PURE: the text, both readers -/
def TX (cd : Nat → Nat) (len : Nat) (B : OB) : Prop := B.1 0 = nI len ∧ ∀ k, k < len → B.2 1 k = nI (cd k)
def TY (cd : Nat → Nat) (len : Nat) (M : OB) : Prop := M.1 5 = nI len ∧ ∀ k, k < len → M.2 4 k = nI (cd k)
def Dl (n at_ : Nat) (B : OB) : Option (Int32 × OB) := f2_read_b12 n (fun oB => f2_read_b71 n oB) (n - at_) (nI at_) B
theorem d_step {cd : Nat → Nat} {len n a p : Nat} {B B' : OB} {x : Int32} (T : TX cd len B) (h60 : len ≤ 60) (hp : B.1 6 = nI p) (hp2 : p < 12) (ha : a < len) (hn : 61 < n) (h : f2_next n B (nI (cd a)) = some (x, B')) : Dl n a B = if x = nI 8 then some (nI a, gsi B' 7 x) else Dl n (a + 1) (gsi B' 7 x) := by
  unfold Dl
  rw [show n - a = (n - (a + 1)) + 1 by omega, f2_read_b12, T.1, if_neg (by rw [nI_le' (by omega) (by omega)]; omega), if_neg (by rw [nI_le' (by omega) (by omega)]; omega), hp, if_neg (by rw [nI_le' (by omega) (by omega)]; omega), ald_nI (by omega) (by omega), Option.bind_some, T.2 a ha, h, Option.bind_some]
  unfold f2_read_b51
  rw [Option.bind_some, gsi_s, nI_add]
theorem d_end {cd : Nat → Nat} {len n : Nat} {B : OB} (T : TX cd len B) (h60 : len ≤ 60) (hn : 61 < n) : Dl n len B = some (nI len, B) := by
  unfold Dl
  rw [show n - len = (n - len - 1) + 1 by omega, f2_read_b12, T.1, if_pos (by rw [nI_le' (by omega) (by omega)]; exact Nat.le_refl _)]
  unfold f2_read_b71
  rw [T.1]
def sc (cd : Nat → Nat) (len hi : Nat) : Nat → Nat → Nat → Nat × Nat
  | 0, v, a => (v, a)
  | f + 1, v, a => if a < len ∧ gwB (cd a) v hi = true then sc cd len hi f (10 * v + cd a - 48) (a + 1) else (v, a)
theorem sc_s (cd : Nat → Nat) (len hi f v a : Nat) : sc cd len hi (f + 1) v a = if a < len ∧ gwB (cd a) v hi = true then sc cd len hi f (10 * v + cd a - 48) (a + 1) else (v, a) := rfl
theorem gwB_le {c v hi : Nat} (h : gwB c v hi = true) : 10 * v + c - 48 ≤ hi ∧ 48 ≤ c ∧ c ≤ 57 ∧ v ≠ 0 := by
  unfold gwB at h
  rw [Bool.and_eq_true, Bool.and_eq_true, decide_eq_true_eq, decide_eq_true_eq] at h
  have := isD_t h.1.1
  exact ⟨h.2, this.1, this.2, h.1.2⟩
theorem sc_ok {cd : Nat → Nat} {len hi : Nat} : ∀ {f v a : Nat}, len ≤ f + a → a ≤ len → v ≤ hi → (sc cd len hi f v a).1 ≤ hi ∧ a ≤ (sc cd len hi f v a).2 ∧ (sc cd len hi f v a).2 ≤ len ∧ ¬ ((sc cd len hi f v a).2 < len ∧ gwB (cd (sc cd len hi f v a).2) (sc cd len hi f v a).1 hi = true)
  | 0, v, a, h, ha, hv => ⟨hv, Nat.le_refl _, ha, fun e => by have := e.1; simp only [sc] at this; omega⟩
  | f + 1, v, a, h, ha, hv => by
    rw [sc_s]
    by_cases c : a < len ∧ gwB (cd a) v hi = true
    · rw [if_pos c]
      have ih := sc_ok (cd := cd) (len := len) (hi := hi) (f := f) (v := 10 * v + cd a - 48) (a := a + 1) (by omega) (by omega) (gwB_le c.2).1
      exact ⟨ih.1, by omega, ih.2.2⟩
    · rw [if_neg c]
      exact ⟨hv, Nat.le_refl _, ha, c⟩
/-- the class in a number -/
def nb (ρ si p : Nat) (B : OB) (v : Nat) : OB := gsi (st1 B ρ p (nI v)) 7 (nI si)
theorem upd_upd (f : Nat → Int32) (k : Nat) (v w : Int32) : upd (upd f k v) k w = upd f k w := by
  funext j
  rw [upd_e, upd_e, upd_e]
  split <;> rfl
theorem nb_nb (ρ si p : Nat) (B : OB) (v w : Nat) : gsi (st1 (nb ρ si p B v) ρ p (nI w)) 7 (nI si) = nb ρ si p B w := by
  unfold nb st1
  refine Prod.ext (funext fun j => ?_) (funext fun j => ?_)
  · rw [gsi_1, gsi_1]
    show (if j = 7 then nI si else (gsi (gsa B ρ _) 7 (nI si)).1 j) = if j = 7 then nI si else B.1 j
    rw [gsi_1]
    split <;> rfl
  · show (gsa (gsi (gsa B ρ (upd (B.2 ρ) p (nI v))) 7 (nI si)) ρ (upd ((gsa B ρ (upd (B.2 ρ) p (nI v))).2 ρ) p (nI w))).2 j = (gsa B ρ (upd (B.2 ρ) p (nI w))).2 j
    rw [gsa_2, gsa_s, upd_upd, gsa_2]
    split
    · rfl
    · rename_i h
      show (gsa B ρ _).2 j = _
      rw [gsa_n _ _ h]
theorem TX.nb {cd : Nat → Nat} {len ρ si p v : Nat} {B : OB} (T : TX cd len B) (hρ : ρ ≠ 1) : TX cd len (nb ρ si p B v) := ⟨T.1, fun k hk => by
  show (gsa B ρ _).2 1 k = _
  rw [gsa_n _ _ (Ne.symm hρ)]
  exact T.2 k hk⟩
theorem run_m {cd : Nat → Nat} {len n p : Nat} {B : OB} (h60 : len ≤ 60) (hc : ∀ k, k < len → cd k < 128) (T : TX cd len B) (hp : B.1 6 = nI p) (hp2 : p < 12) (hn : 61 < n) : ∀ {f v a : Nat}, v ≤ 27 → Dl n a (nb 2 1 p B v) = Dl n (sc cd len 27 f v a).2 (nb 2 1 p B (sc cd len 27 f v a).1)
  | 0, _, _, _ => rfl
  | f + 1, v, a, hv => by
    rw [sc_s]
    by_cases c : a < len ∧ gwB (cd a) v 27 = true
    · rw [if_pos c]
      obtain ⟨g1, g2, g3, g4⟩ := gwB_le c.2
      have hx := nx_1 (n := n) (B := nb 2 1 p B v) (v := v) rfl hp hp2 (hc a c.1) (upd_s _ _ _) (by omega)
      rw [if_neg (show ¬ cd a = 61 by omega), if_pos c.2] at hx
      rw [d_step (T.nb (by decide)) h60 hp hp2 c.1 hn hx, if_neg (show ¬ nI 1 = nI 8 by decide), nb_nb]
      exact run_m h60 hc T hp hp2 hn g1
    · rw [if_neg c]
theorem run_f {cd : Nat → Nat} {len n p : Nat} {B : OB} (h60 : len ≤ 60) (hc : ∀ k, k < len → cd k < 128) (T : TX cd len B) (hp : B.1 6 = nI p) (hp2 : p < 12) (hn : 61 < n) : ∀ {f v a : Nat}, v ≤ 99 → Dl n a (nb 4 3 p B v) = Dl n (sc cd len 99 f v a).2 (nb 4 3 p B (sc cd len 99 f v a).1)
  | 0, _, _, _ => rfl
  | f + 1, v, a, hv => by
    rw [sc_s]
    by_cases c : a < len ∧ gwB (cd a) v 99 = true
    · rw [if_pos c]
      obtain ⟨g1, g2, g3, g4⟩ := gwB_le c.2
      have hx := nx_3 (n := n) (B := nb 4 3 p B v) (v := v) rfl hp hp2 (hc a c.1) (upd_s _ _ _) (by omega)
      rw [if_neg (show ¬ cd a = 58 by omega), if_pos c.2] at hx
      rw [d_step (T.nb (by decide)) h60 hp hp2 c.1 hn hx, if_neg (show ¬ nI 3 = nI 8 by decide), nb_nb]
      exact run_f h60 hc T hp hp2 hn g1
    · rw [if_neg c]
theorem run_s {cd : Nat → Nat} {len n p : Nat} {B : OB} (h60 : len ≤ 60) (hc : ∀ k, k < len → cd k < 128) (T : TX cd len B) (hp : B.1 6 = nI p) (hp2 : p < 12) (hn : 61 < n) : ∀ {f v a : Nat}, v ≤ 99 → Dl n a (nb 5 5 p B v) = Dl n (sc cd len 99 f v a).2 (nb 5 5 p B (sc cd len 99 f v a).1)
  | 0, _, _, _ => rfl
  | f + 1, v, a, hv => by
    rw [sc_s]
    by_cases c : a < len ∧ gwB (cd a) v 99 = true
    · rw [if_pos c]
      obtain ⟨g1, g2, g3, g4⟩ := gwB_le c.2
      have hx := nx_5 (n := n) (B := nb 5 5 p B v) (v := v) rfl hp hp2 (hc a c.1) (upd_s _ _ _) (by omega)
      rw [if_neg (show ¬ cd a = 59 by omega), if_pos c.2] at hx
      rw [d_step (T.nb (by decide)) h60 hp hp2 c.1 hn hx, if_neg (show ¬ nI 5 = nI 8 by decide), nb_nb]
      exact run_s h60 hc T hp hp2 hn g1
    · rw [if_neg c]
/-! PURE: the reference's reader -/
theorem isAt_ {cd : Nat → Nat} {len n a lo hi : Nat} {M : OB} (T : TY cd len M) (h60 : len ≤ 60) (hc : ∀ k, k < len → cd k < 128) (ha : M.1 7 = nI a) (ha2 : a ≤ 60) (hlo : lo < 200) (hhi : hi < 200) : f6_isAt n M (nI lo) (nI hi) = some (nI (bI (decide (a < len) && (decide (lo ≤ cd a) && decide (cd a ≤ hi))))) := by
  unfold f6_isAt f6_in
  rw [T.1, ha]
  by_cases c : a < len
  · have hc' := hc a c
    rw [if_neg (by rw [nI_le' (by omega) (by omega)]; omega), ald_nI (by omega) (by omega), Option.bind_some, T.2 a c, decide_eq_true c, Bool.true_and]
    simp (disch := omega) only [nI_lt']
    by_cases c1 : cd a < lo
    · rw [if_pos c1, decide_eq_false (show ¬ lo ≤ cd a by omega)]; rfl
    · rw [if_neg c1, decide_eq_true (show lo ≤ cd a by omega)]
      by_cases c2 : hi < cd a
      · rw [if_pos c2, decide_eq_false (show ¬ cd a ≤ hi by omega)]; rfl
      · rw [if_neg c2, decide_eq_true (show cd a ≤ hi by omega)]; rfl
  · rw [if_pos (by rw [nI_le' (by omega) (by omega)]; omega), decide_eq_false c, Bool.false_and]; rfl
theorem stops_ {cd : Nat → Nat} {len n a : Nat} {M : OB} (T : TY cd len M) (h60 : len ≤ 60) (ha : M.1 7 = nI a) (ha2 : a ≤ 60) : f6_stops n M = some (nI 0, gsi M 8 (nI (bI (decide (a < len))))) := by
  unfold f6_stops
  rw [T.1, ha]
  by_cases c : a < len
  · rw [if_neg (by rw [nI_le' (by omega) (by omega)]; omega), decide_eq_true c]; rfl
  · rw [if_pos (by rw [nI_le' (by omega) (by omega)]; omega), decide_eq_false c]; rfl
def nm (M : OB) (v a : Nat) : OB := gsi (gsi M 9 (nI v)) 7 (nI a)
theorem nm_nm (M : OB) (v a w b : Nat) : gsi (gsi (nm M v a) 9 (nI w)) 7 (nI b) = nm M w b := by
  unfold nm
  refine Prod.ext (funext fun j => ?_) rfl
  simp only [gsi_1]
  by_cases c : j = 7
  · simp only [if_pos c]
  · simp only [if_neg c]
    by_cases c2 : j = 9
    · simp only [if_pos c2]
    · simp only [if_neg c2]
theorem TY.nm {cd : Nat → Nat} {len v a : Nat} {M : OB} (T : TY cd len M) : TY cd len (nm M v a) := T
theorem num_run {cd : Nat → Nat} {len n hi : Nat} {M : OB} {x1 : Int32} {K : OB → Option (Int32 × OB)} (T : TY cd len M) (h60 : len ≤ 60) (hc : ∀ k, k < len → cd k < 128) (hh : hi ≤ 99) : ∀ {f k v a : Nat}, len ≤ f + a → f < k → a ≤ len → v ≤ hi → f6_isNumber_b42 n x1 (nI hi) K k (nm M v a) = K (nm M (sc cd len hi f v a).1 (sc cd len hi f v a).2)
  | f, 0, _, _, _, h, _, _ => absurd h (Nat.not_lt_zero f)
  | f, k + 1, v, a, hl, hf, ha, hv => by
    rw [f6_isNumber_b42]
    rw [show (nm M v a).1 9 = nI v from rfl, isAt_ (T.nm (v := v) (a := a)) h60 hc (show (nm M v a).1 7 = nI a from rfl) (by omega) (by omega) (by omega), show (nm M v a).1 7 = nI a from rfl]
    have hz : (nI v ≤ 0) ↔ v = 0 := by
      rw [← nI_0, nI_le' (by omega) (by omega)]
      omega
    simp only [hz, Option.bind_some, bI_z]
    cases f with
    | zero =>
      by_cases c : v = 0
      · rw [if_pos c]; rfl
      · rw [if_neg c, decide_eq_false (show ¬ a < len by omega), Bool.false_and, if_pos rfl]; rfl
    | succ f =>
      rw [sc_s]
      by_cases c : v = 0
      · rw [if_pos c, if_neg (fun e => (gwB_le e.2).2.2.2 c)]
      · rw [if_neg c]
        by_cases c1 : a < len
        · have hc' := hc a c1
          rw [decide_eq_true c1, Bool.true_and]
          show (if isD (cd a) = false then _ else _) = _
          cases hd : isD (cd a) with
          | false =>
            rw [if_pos rfl, if_neg (fun e => by have := e.2; unfold gwB at this; rw [hd] at this; cases this)]
          | true =>
            obtain ⟨d1, d2⟩ := isD_t hd
            have e : ((nI 10 * nI v) + nI (cd a)) - nI 48 = nI (10 * v + cd a - 48) := by rw [pk_mul, nI_add, pk_sub (by omega)]
            rw [if_neg (by decide), ald_nI (by omega) (by omega), show (nm M v a).2 4 a = nI (cd a) from T.2 a c1]
            simp only [Option.bind_some, e]
            by_cases c2 : 10 * v + cd a - 48 ≤ hi
            · rw [if_neg (by rw [nI_lt' (by omega) (by omega)]; omega), if_pos ⟨c1, by unfold gwB; rw [hd, decide_eq_true c, decide_eq_true c2]; rfl⟩]
              show f6_isNumber_b42 n x1 (nI hi) K k (gsi (gsi (nm M v a) 9 (nI (10 * v + cd a - 48))) 7 (nI a + nI 1)) = _
              rw [nI_add, nm_nm]
              exact num_run T h60 hc hh (by omega) (by omega) (by omega) c2
            · rw [if_pos (by rw [nI_lt' (by omega) (by omega)]; omega), if_neg (fun e => c2 (gwB_le e.2).1)]
        · rw [decide_eq_false c1, Bool.false_and, if_pos rfl, if_neg (fun e => c1 e.1)]
theorem zo_bI {b : Bool} : zo (nI (bI b)) = some (nI (bI b)) := by cases b <;> rfl
def nu (cd : Nat → Nat) (len hi a : Nat) : Nat × Nat := sc cd len hi 60 (cd a - 48) (a + 1)
theorem isNumber_ {cd : Nat → Nat} {len n hi a p j : Nat} {M : OB} (T : TY cd len M) (h60 : len ≤ 60) (hc : ∀ k, k < len → cd k < 128) (hh : hi ≤ 99) (hh9 : 9 ≤ hi) (ha : M.1 7 = nI a) (ha2 : a ≤ 60) (hp : M.1 11 = nI p) (hp2 : p ≤ 12) (hj : j < 4) (hn : 61 < n) : f6_isNumber n M (nI j) (nI hi) = some (if a < len ∧ isD (cd a) = true then (nI 1, gsa (nm M (nu cd len hi a).1 (nu cd len hi a).2) 10 (upd (M.2 10) (4 * p + j) (nI (nu cd len hi a).1))) else (nI 0, gsi M 8 (nI (bI (decide (a < len)))))) := by
  unfold f6_isNumber
  rw [isAt_ T h60 hc ha ha2 (by omega) (by omega), Option.bind_some]
  simp only [bI_z]
  by_cases c1 : a < len
  · have hc' := hc a c1
    rw [decide_eq_true c1, Bool.true_and]
    show (if isD (cd a) = false then _ else _) = _
    cases hd : isD (cd a) with
    | false =>
      rw [if_pos rfl, if_neg (fun e => by cases e.2), stops_ T h60 ha ha2, Option.bind_some, decide_eq_true c1]
      rfl
    | true =>
      obtain ⟨d1, d2⟩ := isD_t hd
      rw [if_neg (by decide), ha, ald_nI (by omega) (by omega), T.2 a c1, if_pos ⟨c1, rfl⟩]
      simp only [Option.bind_some]
      rw [pk_sub d1]
      show f6_isNumber_b42 n (nI j) (nI hi) _ n (gsi (gsi M 9 (nI (cd a - 48))) 7 (M.1 7 + nI 1)) = _
      rw [ha, nI_add]
      show f6_isNumber_b42 n (nI j) (nI hi) _ n (nm M (cd a - 48) (a + 1)) = _
      rw [num_run (f := 60) T h60 hc hh (by omega) (by omega) (by omega) (by omega)]
      unfold f6_isNumber_b121
      show (oast (nm M (nu cd len hi a).1 (nu cd len hi a).2) 10 68 ((nI 4 * M.1 11) + nI j) (nI (nu cd len hi a).1)).bind _ = _
      rw [hp, pk_mul, nI_add, oast_nI (by omega) (by omega), Option.bind_some]
      rfl
  · rw [decide_eq_false c1, Bool.false_and, if_pos rfl, if_neg (fun e => c1 e.1), stops_ T h60 ha ha2, Option.bind_some, decide_eq_false c1]
    rfl
theorem isSign_ {cd : Nat → Nat} {len n a c : Nat} {M : OB} (T : TY cd len M) (h60 : len ≤ 60) (hc : ∀ k, k < len → cd k < 128) (ha : M.1 7 = nI a) (ha2 : a ≤ 60) (hc2 : c < 200) : f6_isSign n M (nI c) = some (if a < len ∧ cd a = c then (nI 1, gsi M 7 (nI (a + 1))) else (nI 0, gsi M 8 (nI (bI (decide (a < len)))))) := by
  unfold f6_isSign
  rw [isAt_ T h60 hc ha ha2 hc2 hc2, Option.bind_some]
  simp only [bI_z]
  by_cases c1 : a < len
  · rw [decide_eq_true c1, Bool.true_and]
    by_cases c2 : cd a = c
    · rw [if_neg, if_pos ⟨c1, c2⟩, ha, nI_add]
      · rfl
      · rw [c2, decide_eq_true (Nat.le_refl _)]; decide
    · rw [if_pos, if_neg (fun e => c2 e.2), stops_ T h60 ha ha2, Option.bind_some, decide_eq_true c1]
      · rfl
      · rw [Bool.and_eq_false_iff, decide_eq_false_iff_not, decide_eq_false_iff_not]
        omega
  · rw [decide_eq_false c1, Bool.false_and, if_pos rfl, if_neg (fun e => c1 e.1), stops_ T h60 ha ha2, Option.bind_some, decide_eq_false c1]
    rfl
