/-! PURE: a result is given -/
def gv (s : Nat → Int32) (m : Nat) (x y z : Int32) : Nat → Int32 := upd (upd (upd s (18 + 9 * m + 6) x) (18 + 9 * m + 7) y) (18 + 9 * m + 8) z
theorem gv_o {s : Nat → Int32} {m j : Nat} {x y z : Int32} (h6 : j ≠ 18 + 9 * m + 6) (h7 : j ≠ 18 + 9 * m + 7) (h8 : j ≠ 18 + 9 * m + 8) : gv s m x y z j = s j := by
  unfold gv
  rw [upd_n _ _ h8, upd_n _ _ h7, upd_n _ _ h6]
theorem gv_6 (s : Nat → Int32) (m : Nat) (x y z : Int32) : gv s m x y z (18 + 9 * m + 6) = x := by
  unfold gv
  rw [upd_n _ _ (by omega), upd_n _ _ (by omega), upd_s]
theorem gv_7 (s : Nat → Int32) (m : Nat) (x y z : Int32) : gv s m x y z (18 + 9 * m + 7) = y := by
  unfold gv
  rw [upd_n _ _ (by omega), upd_s]
theorem gv_8 (s : Nat → Int32) (m : Nat) (x y z : Int32) : gv s m x y z (18 + 9 * m + 8) = z := by
  unfold gv
  rw [upd_s]
theorem gives_ {n m : Nat} {s : Nat → Int32} {x y z : Int32} (hm : m < 28) : f6_gives n s (nI m) x y z = some (gv s m x y z) := by
  unfold f6_gives
  simp (disch := omega) only [pk_mul, nI_add, ast_nI, Option.bind_some]
  rfl
theorem FXR.gv {t q : Nat} {s : Nat → Int32} (F : FXR t q s) {m : Nat} {x y z : Int32} : FXR t q (gv s m x y z) := by
  obtain ⟨⟨h4, h5, h3, h8, hmm⟩, hq, hr⟩ := F
  refine ⟨⟨?_, ?_, h3, h8, hmm⟩, ⟨?_, hq.2⟩, fun k hk => ⟨?_, ?_, ?_⟩⟩
  · rw [gv_o (by omega) (by omega) (by omega)]; exact h4
  · rw [gv_o (by omega) (by omega) (by omega)]; exact h5
  · rw [gv_o (by omega) (by omega) (by omega)]; exact hq.1
  · rw [gv_o (by omega) (by omega) (by omega)]; exact (hr k hk).1
  · rw [gv_o (by omega) (by omega) (by omega)]; exact (hr k hk).2.1
  · rw [gv_o (by omega) (by omega) (by omega)]; exact (hr k hk).2.2
theorem give_ {t q n m : Nat} {L : OB} {s : Nat → Int32} {x y z : Int32} (R : RLr t q L s) (hm : m < mmT t) : ∃ L', f1_give n L (nI m) x y z = some L' ∧ RLr t q L' (gv s m x y z) := by
  obtain ⟨⟨F, hL, ⟨g3, g4, g5⟩, hr⟩, Rr⟩ := R
  have hmm : mmT t ≤ 28 := F.1.2.2.2.2
  unfold f1_give
  rw [hasMatch_ hL.2.2 hmm hm, Option.bind_some, if_neg (by decide)]
  simp (disch := omega) only [oast_nI, Option.bind_some]
  refine ⟨_, rfl, ⟨F.gv, hL, ⟨fun j hj => ?_, fun j hj => ?_, fun j hj => ?_⟩, fun k hk => ?_⟩, fun k hk => ?_⟩
  · rw [gv_o (by omega) (by omega) (by omega)]; exact g3 j hj
  · rw [gv_o (by omega) (by omega) (by omega)]; exact g4 j hj
  · rw [gv_o (by omega) (by omega) (by omega)]; exact g5 j hj
  · obtain ⟨⟨c0, c1, c2⟩, ⟨c3, c4⟩, c6, c7, c8⟩ := hr k hk
    refine ⟨⟨?_, ?_, ?_⟩, ⟨?_, ?_⟩, ?_, ?_, ?_⟩
    · rw [gv_o (by omega) (by omega) (by omega)]; exact c0
    · rw [gv_o (by omega) (by omega) (by omega)]; exact c1
    · rw [gv_o (by omega) (by omega) (by omega)]; exact c2
    · rw [gv_o (by omega) (by omega) (by omega)]; exact c3
    · rw [gv_o (by omega) (by omega) (by omega)]; exact c4
    · show upd (L.2 12) m x k = _
      rw [upd_e]
      by_cases e : k = m
      · subst e; rw [if_pos rfl, gv_6]
      · rw [if_neg e, gv_o (by omega) (by omega) (by omega)]; exact c6
    · intro h0
      show upd (L.2 13) m y k = _
      rw [upd_e]
      by_cases e : k = m
      · subst e; rw [if_pos rfl, gv_7]
      · rw [gv_o (by omega) (by omega) (by omega)] at h0
        rw [if_neg e, gv_o (by omega) (by omega) (by omega)]; exact c7 h0
    · intro h0
      show upd (L.2 14) m z k = _
      rw [upd_e]
      by_cases e : k = m
      · subst e; rw [if_pos rfl, gv_8]
      · rw [gv_o (by omega) (by omega) (by omega)] at h0
        rw [if_neg e, gv_o (by omega) (by omega) (by omega)]; exact c8 h0
  · rw [gv_o (by omega) (by omega) (by omega)]; exact Rr k hk
/-- good for the table -/
def GT (t : Nat) (s : Nat → Int32) : Prop := SGv s ∧ RSL (mmT t) s ∧ SCB (mmT t) s
theorem GT.gv {t m ρ x y : Nat} {s : Nat → Int32} (G : GT t s) (hρ : ρ < 4) (hx : x < 100) (hy : y < 100) : GT t (gv s m (nI ρ) (nI x) (nI y)) := by
  obtain ⟨⟨a, b, c, ha, hb, hc⟩, V, B⟩ := G
  refine ⟨⟨a, b, c, ?_, ?_, ?_⟩, fun k hk => ?_, fun k hk => ?_⟩
  · rw [gv_o (by omega) (by omega) (by omega)]; exact ha
  · rw [gv_o (by omega) (by omega) (by omega)]; exact hb
  · rw [gv_o (by omega) (by omega) (by omega)]; exact hc
  · by_cases e : k = m
    · subst e; rw [gv_6]; exact ⟨ρ, hρ, rfl⟩
    · rw [gv_o (by omega) (by omega) (by omega)]; exact V k hk
  · by_cases e : k = m
    · subst e; rw [gv_7, gv_8]; exact ⟨x, y, hx, hy, rfl, rfl⟩
    · rw [gv_o (by omega) (by omega) (by omega), gv_o (by omega) (by omega) (by omega)]; exact B k hk
/-- good: also for the staging and for who is busy -/
def VB (t : Nat) (s : Nat → Int32) : Prop := ∀ m, m < mmT t → s (18 + 9 * m + 3) = -1 ∨ ∃ v k, v < 6 ∧ k < 6 ∧ s (18 + 9 * m + 3) = nI v ∧ s (18 + 9 * m + 4) = nI k
def GR (t : Nat) (s : Nat → Int32) : Prop := GT t s ∧ VS (mmT t) s ∧ UNI t s ∧ VB t s
theorem VB.congr {t : Nat} {s s' : Nat → Int32} (W : VB t s) (h : ∀ m, m < mmT t → s' (18 + 9 * m + 3) = s (18 + 9 * m + 3) ∧ s' (18 + 9 * m + 4) = s (18 + 9 * m + 4)) : VB t s' := by
  intro m hm
  rw [(h m hm).1, (h m hm).2]
  exact W m hm
theorem hvP_c {s s' : Nat → Int32} {w m : Nat} {y r : Int32} (h : s' (18 + 9 * m + w) = s (18 + 9 * m + w)) (h0 : s' (18 + 9 * m + 0) = s (18 + 9 * m + 0)) : hvP s' w y r m = hvP s w y r m := by
  unfold hvP
  rw [h, h0]
theorem UNI.congr {t : Nat} {s s' : Nat → Int32} (U : UNI t s) (h : ∀ m, m < mmT t → s' (18 + 9 * m + 0) = s (18 + 9 * m + 0) ∧ s' (18 + 9 * m + 3) = s (18 + 9 * m + 3) ∧ s' (18 + 9 * m + 4) = s (18 + 9 * m + 4)) : UNI t s' := by
  intro w hw k hk r hr
  rw [cn_congr (q := hvP s w (nI k) (nI r)) (fun m hm => hvP_c (by rcases hw with rfl | rfl; exact (h m hm).2.1; exact (h m hm).2.2) (h m hm).1)]
  exact U w hw k hk r hr
theorem GR.gv {t m ρ x y : Nat} {s : Nat → Int32} (G : GR t s) (hρ : ρ < 4) (hx : x < 100) (hy : y < 100) (hv : ρ ≠ 0 → ∃ v k, v < 6 ∧ k < 6 ∧ s (18 + 9 * m + 3) = nI v ∧ s (18 + 9 * m + 4) = nI k) : GR t (gv s m (nI ρ) (nI x) (nI y)) := by
  obtain ⟨g, V, U, W⟩ := G
  refine ⟨g.gv hρ hx hy, fun k hk h0 => ?_, U.congr fun k hk => ⟨?_, ?_, ?_⟩, W.congr fun k hk => ⟨gv_o (by omega) (by omega) (by omega), gv_o (by omega) (by omega) (by omega)⟩⟩
  · rw [gv_o (j := 18 + 9 * k + 3) (by omega) (by omega) (by omega), gv_o (j := 18 + 9 * k + 4) (by omega) (by omega) (by omega)]
    by_cases e : k = m
    · subst e
      rw [gv_6] at h0
      exact hv (fun e => h0 (by rw [e]; rfl))
    · rw [gv_o (by omega) (by omega) (by omega)] at h0
      exact V k hk h0
  · rw [gv_o (by omega) (by omega) (by omega)]
  · rw [gv_o (by omega) (by omega) (by omega)]
  · rw [gv_o (by omega) (by omega) (by omega)]
/-! PURE: two rows alike where it counts -/
def EQR (s s' : Nat → Int32) : Prop := ∀ k, k < 270 → s' k = s k
theorem RLr.congr {t q : Nat} {L : OB} {s s' : Nat → Int32} (R : RLr t q L s) (E : EQR s s') : RLr t q L s' := by
  obtain ⟨⟨⟨⟨h4, h5, h3, h8, hmm⟩, ⟨hq, hq2⟩, hf⟩, hL, ⟨g3, g4, g5⟩, hr⟩, Rr⟩ := R
  refine ⟨⟨⟨⟨by rw [E 4 (by omega)]; exact h4, by rw [E 5 (by omega)]; exact h5, h3, h8, hmm⟩, ⟨by rw [E 3 (by omega)]; exact hq, hq2⟩, fun k hk => ?_⟩, hL, ⟨fun j hj => by rw [E j (by omega)]; exact g3 j hj, fun j hj => by rw [E (6 + j) (by omega)]; exact g4 j hj, fun j hj => by rw [E (12 + j) (by omega)]; exact g5 j hj⟩, fun k hk => ?_⟩, fun k hk => by rw [E _ (by omega)]; exact Rr k hk⟩
  · rw [E (18 + 9 * k + 0) (by omega), E (18 + 9 * k + 1) (by omega), E (18 + 9 * k + 2) (by omega)]; exact hf k hk
  · rw [E (18 + 9 * k + 0) (by omega), E (18 + 9 * k + 1) (by omega), E (18 + 9 * k + 2) (by omega), E (18 + 9 * k + 3) (by omega), E (18 + 9 * k + 4) (by omega), E (18 + 9 * k + 6) (by omega), E (18 + 9 * k + 7) (by omega), E (18 + 9 * k + 8) (by omega)]; exact hr k hk
theorem GT.congr {t : Nat} {s s' : Nat → Int32} (G : GT t s) (hmm : mmT t ≤ 28) (E : EQR s s') : GT t s' := by
  obtain ⟨⟨a, b, c, ha, hb, hc⟩, V, B⟩ := G
  refine ⟨⟨a, b, c, by rw [E 0 (by omega)]; exact ha, by rw [E 1 (by omega)]; exact hb, by rw [E 2 (by omega)]; exact hc⟩, fun k hk => ?_, fun k hk => ?_⟩
  · rw [E (18 + 9 * k + 6) (by omega)]; exact V k hk
  · rw [E (18 + 9 * k + 7) (by omega), E (18 + 9 * k + 8) (by omega)]; exact B k hk
theorem GR.congr {t : Nat} {s s' : Nat → Int32} (G : GR t s) (hmm : mmT t ≤ 28) (E : EQR s s') : GR t s' := by
  obtain ⟨g, V, U, W⟩ := G
  refine ⟨g.congr hmm E, fun k hk h0 => ?_, U.congr fun k hk => ⟨E _ (by omega), E _ (by omega), E _ (by omega)⟩, W.congr fun k hk => ⟨E _ (by omega), E _ (by omega)⟩⟩
  rw [E (18 + 9 * k + 6) (by omega)] at h0
  rw [E (18 + 9 * k + 3) (by omega), E (18 + 9 * k + 4) (by omega)]
  exact V k hk h0
/-! PURE: copies -/
theorem va_cpy_0 (f g : Nat → Int32) (a b : Nat) : va_cpy f g a b 0 = g := funext fun k => pk_cpy_out (by omega)
theorem va_cpy_s (f g : Nat → Int32) (a b i : Nat) : upd (va_cpy f g a b i) (b + i) (f (a + i)) = va_cpy f g a b (i + 1) := by
  funext k
  rw [upd_e]
  by_cases e : k = b + i
  · rw [if_pos e, pk_cpy_in (by omega) (by omega), e]
    congr 1
    omega
  · rw [if_neg e]
    by_cases c : b ≤ k ∧ k < b + i
    · rw [pk_cpy_in c.1 c.2, pk_cpy_in c.1 (by omega)]
    · rw [pk_cpy_out (by omega), pk_cpy_out (by omega)]
theorem copies_ {n nP nR a b : Nat} {f g : Nat → Int32} (ha : a + 270 ≤ nP) (hb : b + 270 ≤ nR) (hP : nP ≤ 2000) (hR : nR ≤ 2000) (hn : 270 < n) : f6_copies n nP f nR g (nI a) (nI b) = some (va_cpy f g a b 270) := by
  unfold f6_copies
  rw [← va_cpy_0 f g a b]
  refine loop_S (F := fun k p => f6_copies_b3 n nP f nR (nI a) (nI b) k p.1 p.2) (S := fun i => (nI i, va_cpy f g a b i)) (N := 270) ?_ ?_ n hn
  · intro k
    dsimp only
    rw [f6_copies_b3, if_pos (by decide)]
    rw [va_cpy_0]
  · intro k i hi
    dsimp only
    rw [f6_copies_b3, if_neg (by rw [nI_le' (by omega) (by omega)]; omega)]
    simp (disch := omega) only [nI_add, ald_nI, ast_nI, Option.bind_some, va_cpy_s]
theorem copies_b_ {n nP nR a b : Nat} {f g : Nat → Int32} (ha : a + 270 ≤ nP) (hb : b + 270 ≤ nR) (hP : nP ≤ 2000) (hR : nR ≤ 2000) (hn : 270 < n) : f6_copies_b n nR g nP f (nI a) (nI b) = some (va_cpy f g a b 270) := by
  unfold f6_copies_b
  rw [← va_cpy_0 f g a b]
  refine loop_S (F := fun k p => f6_copies_b_b3 n nR nP f (nI a) (nI b) k p.1 p.2) (S := fun i => (nI i, va_cpy f g a b i)) (N := 270) ?_ ?_ n hn
  · intro k
    dsimp only
    rw [f6_copies_b_b3, if_pos (by decide)]
    rw [va_cpy_0]
  · intro k i hi
    dsimp only
    rw [f6_copies_b_b3, if_neg (by rw [nI_le' (by omega) (by omega)]; omega)]
    simp (disch := omega) only [nI_add, ald_nI, ast_nI, Option.bind_some, va_cpy_s]
theorem eqr_cpy (f g : Nat → Int32) : EQR f (va_cpy f g 0 0 270) := fun k hk => by
  rw [pk_cpy_in (by omega) (by omega)]
  congr 1
  omega
def CPY (V L : OB) : Prop := (V.1 0 = L.1 0 ∧ V.1 1 = L.1 1 ∧ V.1 2 = L.1 2) ∧ ((∀ k, k < 4 → V.2 3 k = L.2 3 k) ∧ (∀ k, k < 6 → V.2 4 k = L.2 4 k) ∧ ∀ k, k < 6 → V.2 5 k = L.2 5 k) ∧ ∀ k, k < 28 → (V.2 6 k = L.2 6 k ∧ V.2 7 k = L.2 7 k ∧ V.2 8 k = L.2 8 k) ∧ (V.2 9 k = L.2 9 k ∧ V.2 10 k = L.2 10 k ∧ V.2 11 k = L.2 11 k) ∧ V.2 12 k = L.2 12 k ∧ V.2 13 k = L.2 13 k ∧ V.2 14 k = L.2 14 k
theorem copyFrom_ (n : Nat) (V L : OB) : ∃ V', f1_copyFrom n V L = some V' ∧ CPY V' L := by
  unfold f1_copyFrom
  simp (disch := omega) only [Option.bind_some, nI_clamp]
  refine ⟨_, rfl, ⟨rfl, rfl, rfl⟩, ⟨fun k hk => ?_, fun k hk => ?_, fun k hk => ?_⟩, fun k hk => ⟨⟨?_, ?_, ?_⟩, ⟨?_, ?_, ?_⟩, ?_, ?_, ?_⟩⟩
  all_goals exact sb_cpy0 hk
theorem copyFrom_b_ (n : Nat) (V L : OB) : ∃ V', f1_copyFrom_b n L V = some V' ∧ CPY V' L := by
  unfold f1_copyFrom_b
  simp (disch := omega) only [Option.bind_some, nI_clamp]
  refine ⟨_, rfl, ⟨rfl, rfl, rfl⟩, ⟨fun k hk => ?_, fun k hk => ?_, fun k hk => ?_⟩, fun k hk => ⟨⟨?_, ?_, ?_⟩, ⟨?_, ?_, ?_⟩, ?_, ?_, ?_⟩⟩
  all_goals exact sb_cpy0 hk
theorem RLr.cpy {t q : Nat} {L V : OB} {s : Nat → Int32} (R : RLr t q L s) (C : CPY V L) : RLr t q V s := by
  obtain ⟨⟨F, ⟨l0, l1, l2⟩, ⟨g3, g4, g5⟩, hr⟩, Rr⟩ := R
  have hmm : mmT t ≤ 28 := F.1.2.2.2.2
  obtain ⟨⟨e0, e1, e2⟩, ⟨k3, k4, k5⟩, kr⟩ := C
  refine ⟨⟨F, ⟨e0.trans l0, e1.trans l1, e2.trans l2⟩, ⟨fun j hj => (k3 j hj).trans (g3 j hj), fun j hj => (k4 j hj).trans (g4 j hj), fun j hj => (k5 j hj).trans (g5 j hj)⟩, fun m hm => ?_⟩, fun m hm => ?_⟩
  · obtain ⟨⟨c0, c1, c2⟩, ⟨c3, c4⟩, c6, c7, c8⟩ := hr m hm
    obtain ⟨⟨d6, d7, d8⟩, ⟨d9, d10, d11⟩, d12, d13, d14⟩ := kr m (by omega)
    exact ⟨⟨d6.trans c0, d7.trans c1, d8.trans c2⟩, ⟨d9.trans c3, d10.trans c4⟩, d12.trans c6, fun h => d13.trans (c7 h), fun h => d14.trans (c8 h)⟩
  · obtain ⟨-, ⟨-, -, d11⟩, -⟩ := kr m (by omega)
    exact d11.trans (Rr m hm)
