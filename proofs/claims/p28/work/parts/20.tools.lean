/-! PURE: tools -/
theorem ck_nI {n k : Nat} (h : k < n) (hn : n ≤ 2147483648) : ck (nI k) n = true := by
  unfold ck
  rw [nI_clamp (by omega)]
  simp only [Bool.and_eq_true, decide_eq_true_eq]
  exact ⟨nI_pos (by omega), h⟩
theorem ald_nI {n k : Nat} {f : Nat → Int32} (h : k < n) (hn : n ≤ 2147483648) : ald n f (nI k) = some (f k) := by
  unfold ald
  rw [if_pos (ck_nI h hn), nI_clamp (by omega)]
theorem ast_nI {n k : Nat} {f : Nat → Int32} {v : Int32} (h : k < n) (hn : n ≤ 2147483648) : ast n f (nI k) v = some (upd f k v) := by
  unfold ast
  rw [if_pos (ck_nI h hn), nI_clamp (by omega)]
theorem oast_nI {o : OB} {j n k : Nat} {v : Int32} (h : k < n) (hn : n ≤ 2147483648) : oast o j n (nI k) v = some (gsa o j (upd (o.2 j) k v)) := by
  unfold oast
  rw [if_pos (ck_nI h hn), nI_clamp (by omega)]
theorem gsa_1 (o : OB) (k : Nat) (f : Nat → Int32) : (gsa o k f).1 = o.1 := rfl
theorem gsa_2 (o : OB) (k : Nat) (f : Nat → Int32) (j : Nat) : (gsa o k f).2 j = if j = k then f else o.2 j := by
  show cond (Nat.beq j k) f (o.2 j) = _
  by_cases h : j = k
  · rw [if_pos h, show Nat.beq j k = true from Nat.beq_eq.mpr h]; rfl
  · rw [if_neg h, show Nat.beq j k = false from by cases hb : Nat.beq j k with | false => rfl | true => exact absurd (Nat.eq_of_beq_eq_true hb) h]; rfl
theorem gsa_s (o : OB) (k : Nat) (f : Nat → Int32) : (gsa o k f).2 k = f := by rw [gsa_2, if_pos rfl]
theorem gsa_n (o : OB) {k j : Nat} (f : Nat → Int32) (h : j ≠ k) : (gsa o k f).2 j = o.2 j := by rw [gsa_2, if_neg h]
theorem gsi_2 (o : OB) (k : Nat) (v : Int32) : (gsi o k v).2 = o.2 := rfl
theorem gsi_1 (o : OB) (k : Nat) (v : Int32) (j : Nat) : (gsi o k v).1 j = if j = k then v else o.1 j := by
  show cond (Nat.beq j k) v (o.1 j) = _
  by_cases h : j = k
  · rw [if_pos h, show Nat.beq j k = true from Nat.beq_eq.mpr h]; rfl
  · rw [if_neg h, show Nat.beq j k = false from by cases hb : Nat.beq j k with | false => rfl | true => exact absurd (Nat.eq_of_beq_eq_true hb) h]; rfl
theorem gsi_s (o : OB) (k : Nat) (v : Int32) : (gsi o k v).1 k = v := by rw [gsi_1, if_pos rfl]
theorem gsi_n (o : OB) {k j : Nat} (v : Int32) (h : j ≠ k) : (gsi o k v).1 j = o.1 j := by rw [gsi_1, if_neg h]
theorem upd_e (f : Nat → Int32) (k : Nat) (v : Int32) (j : Nat) : upd f k v j = if j = k then v else f j := rfl
theorem upd_s (f : Nat → Int32) (k : Nat) (v : Int32) : upd f k v k = v := if_pos rfl
theorem upd_n (f : Nat → Int32) {k j : Nat} (v : Int32) (h : j ≠ k) : upd f k v j = f j := if_neg h
theorem nI_inj {a b : Nat} (ha : a < 2147483648) (hb : b < 2147483648) : nI a = nI b ↔ a = b := nI_eq ha hb
theorem nI_le' {a b : Nat} (ha : a < 2147483648) (hb : b < 2147483648) : nI a ≤ nI b ↔ a ≤ b := nI_leI ha hb
theorem nI_lt' {a b : Nat} (ha : a < 2147483648) (hb : b < 2147483648) : nI a < nI b ↔ a < b := nI_ltI ha hb
theorem nI_z {a : Nat} (ha : a < 2147483648) : nI a = 0 ↔ a = 0 := by rw [← nI_0]; exact nI_inj ha (by omega)
theorem nI_m1 {a : Nat} (ha : a < 2147483648) : ¬ nI a = -1 := by
  intro h
  have h1 := congrArg Int32.toInt h
  rw [nI_toInt (by omega)] at h1
  have h2 : (-1 : Int32).toInt = -1 := by decide
  omega
theorem nI_neg {a : Nat} (ha : a < 2147483648) : ¬ nI a < 0 := nI_pos ha
theorem nI_mod {a d : Nat} (ha : a < 2147483648) (h0 : 0 < d) (hd : d < 2147483648) : nI a - nI a / nI d * nI d = nI (a % d) := pk_rem ha h0 hd
theorem nz_nI {d : Nat} (h0 : 0 < d) (hd : d < 2147483648) : nz (nI d) = some () := by
  unfold nz
  rw [if_neg (fun h => by rw [nI_z hd] at h; omega)]
/-- a loop by the sequence of its states -/
theorem loop_S {σ ρ : Type} {F : Nat → σ → Option ρ} {S : Nat → σ} {N : Nat} {r : Option ρ} (hx : ∀ k, F (k + 1) (S N) = r) (hs : ∀ k i, i < N → F (k + 1) (S i) = F k (S (i + 1))) : ∀ k, N < k → F k (S 0) = r := by
  have key : ∀ j i k, i + j = N → j < k → F k (S i) = r := by
    intro j
    induction j with
    | zero =>
      intro i k hi hk
      obtain ⟨k, rfl⟩ : ∃ q, k = q + 1 := ⟨k - 1, by omega⟩
      rw [show i = N by omega]
      exact hx k
    | succ j ih =>
      intro i k hi hk
      obtain ⟨k, rfl⟩ : ∃ q, k = q + 1 := ⟨k - 1, by omega⟩
      rw [hs k i (by omega)]
      exact ih (i + 1) k (by omega) (by omega)
  exact fun k hk => key N 0 k (by omega) hk
def cn (p : Nat → Bool) : Nat → Nat
  | 0 => 0
  | n + 1 => cn p n + (if p n = true then 1 else 0)
theorem cn_s (p : Nat → Bool) (n : Nat) : cn p (n + 1) = cn p n + (if p n = true then 1 else 0) := rfl
theorem cn_le (p : Nat → Bool) : ∀ n, cn p n ≤ n
  | 0 => Nat.le_refl 0
  | n + 1 => by
    have h := cn_le p n
    rw [cn_s]
    split <;> omega
theorem cn_congr {p q : Nat → Bool} : ∀ {n : Nat}, (∀ k, k < n → p k = q k) → cn p n = cn q n
  | 0, _ => rfl
  | n + 1, h => by rw [cn_s, cn_s, cn_congr (fun k hk => h k (by omega)), h n (by omega)]
theorem cn_0 {p : Nat → Bool} : ∀ {n : Nat}, cn p n = 0 ↔ ∀ k, k < n → p k = false
  | 0 => ⟨fun _ k hk => absurd hk (Nat.not_lt_zero k), fun _ => rfl⟩
  | n + 1 => by
    rw [cn_s]
    constructor
    · intro h k hk
      have h1 : cn p n = 0 := by omega
      rcases Nat.lt_or_ge k n with q | q
      · exact cn_0.mp h1 k q
      · rw [show k = n by omega]
        cases hp : p n with
        | false => rfl
        | true => rw [hp] at h; simp at h
    · intro h
      rw [cn_0.mpr (fun k hk => h k (by omega)), h n (by omega)]
      rfl
/-- a sum of 32-bit ints -/
def sm (c : Nat → Int32) : Nat → Int32
  | 0 => nI 0
  | n + 1 => sm c n + c n
theorem sm_s (c : Nat → Int32) (n : Nat) : sm c (n + 1) = sm c n + c n := rfl
theorem sm_congr {c d : Nat → Int32} : ∀ {n : Nat}, (∀ k, k < n → c k = d k) → sm c n = sm d n
  | 0, _ => rfl
  | n + 1, h => by rw [sm_s, sm_s, sm_congr (fun k hk => h k (by omega)), h n (by omega)]
