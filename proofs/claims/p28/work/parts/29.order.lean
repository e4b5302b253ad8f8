/-! PURE: the order of the table -/
def SGv (s : Nat → Int32) : Prop := ∃ a b c, (s 0 = nI a ∧ 1 ≤ a ∧ a ≤ 5) ∧ (s 1 = nI b ∧ b ≤ 3) ∧ (s 2 = nI c ∧ 1 ≤ c ∧ c ≤ 50)
def SCB (mm : Nat) (s : Nat → Int32) : Prop := ∀ m, m < mm → ∃ x y, x < 100 ∧ y < 100 ∧ s (18 + 9 * m + 7) = nI x ∧ s (18 + 9 * m + 8) = nI y
theorem scR_b {mm m σ : Nat} {s : Nat → Int32} (G : SGv s) (B : SCB mm s) (hm : m < mm) (hσ : σ < 2) : ∃ k, k ≤ 99 ∧ scR s m σ = nI k := by
  obtain ⟨a, b, c, -, -, hc, hc1, hc2⟩ := G
  obtain ⟨x, y, hx, hy, e7, e8⟩ := B m hm
  unfold scR
  split
  · rcases σ with _ | _ | σ
    · exact ⟨x, by omega, e7⟩
    · exact ⟨y, by omega, e8⟩
    · omega
  · split
    · exact ⟨0, by omega, rfl⟩
    · exact ⟨c, by omega, hc⟩
def bw (w : Nat) : Nat := if w = 4 ∨ w = 5 then 99 else 1
theorem ctr_b {mm m σ : Nat} {s : Nat → Int32} (G : SGv s) (B : SCB mm s) (hm : m < mm) (hσ : σ < 2) (w : Nat) : ∃ k, k ≤ bw w ∧ ctr s w m σ = nI k := by
  unfold ctr
  have h1 : 1 ≤ bw w := by unfold bw; split <;> omega
  have z : ∃ k, k ≤ bw w ∧ (nI 0 : Int32) = nI k := ⟨0, by omega, rfl⟩
  have o : ∃ k, k ≤ bw w ∧ (nI 1 : Int32) = nI k := ⟨1, by omega, rfl⟩
  by_cases c0 : s (18 + 9 * m + 6) = 0
  · rw [if_pos c0]
    split
    · exact o
    · exact z
  · rw [if_neg c0]
    by_cases w4 : w = 4
    · rw [if_pos w4, show bw w = 99 from if_pos (Or.inl w4)]; exact scR_b G B hm hσ
    rw [if_neg w4]
    by_cases w5 : w = 5
    · rw [if_pos w5, show bw w = 99 from if_pos (Or.inr w5)]; exact scR_b G B hm (by omega)
    rw [if_neg w5]
    by_cases w1 : w = 1
    · rw [if_pos w1]; exact o
    rw [if_neg w1]
    by_cases w2 : w = 2
    · rw [if_pos w2]
      split
      · exact o
      · exact z
    rw [if_neg w2]
    by_cases w3 : w = 3
    · rw [if_pos w3]
      split
      · exact o
      · exact z
    rw [if_neg w3]
    by_cases w6 : w = 6
    · rw [if_pos w6]
      split
      · exact o
      · exact z
    rw [if_neg w6]
    exact z
theorem cR_b {mm m : Nat} {s : Nat → Int32} (G : SGv s) (B : SCB mm s) (hm : m < mm) (w : Nat) (τ : Int32) : ∃ k, k ≤ bw w ∧ cR s τ w m = nI k := by
  unfold cR
  split
  · exact ctr_b G B hm (by omega) w
  · split
    · exact ctr_b G B hm (by omega) w
    · exact ⟨0, by omega, rfl⟩
theorem sm_b {c : Nat → Int32} {N : Nat} : ∀ {n : Nat}, (∀ m, m < n → ∃ k, k ≤ N ∧ c m = nI k) → ∃ K, K ≤ N * n ∧ sm c n = nI K
  | 0, _ => ⟨0, by omega, rfl⟩
  | n + 1, h => by
    obtain ⟨K, hK, e⟩ := sm_b (n := n) (fun m hm => h m (by omega))
    obtain ⟨k, hk, e2⟩ := h n (by omega)
    refine ⟨K + k, ?_, ?_⟩
    · rw [Nat.mul_succ]; omega
    · rw [sm_s, e, e2, nI_add]
theorem sum_b {mm : Nat} {s : Nat → Int32} (G : SGv s) (B : SCB mm s) (h : mm ≤ 28) (w : Nat) (τ : Int32) : ∃ K, K ≤ 2772 ∧ ((w ≠ 4 ∧ w ≠ 5) → K ≤ 28) ∧ sm (cR s τ w) mm = nI K := by
  obtain ⟨K, hK, e⟩ := sm_b (n := mm) (fun m hm => cR_b G B hm w τ)
  refine ⟨K, ?_, ?_, e⟩
  · have h1 : bw w ≤ 99 := by unfold bw; split <;> omega
    have h2 : bw w * mm ≤ 99 * 28 := Nat.mul_le_mul h1 h
    omega
  · intro hw
    rw [show bw w = 1 from if_neg (by omega)] at hK
    omega
theorem pt_b {mm : Nat} {s : Nat → Int32} (G : SGv s) (B : SCB mm s) (h : mm ≤ 28) (τ : Int32) : ∃ x y, x ≤ 300 ∧ y ≤ 28 ∧ ptR s mm τ = nI x - nI y := by
  obtain ⟨w, -, hw, e2⟩ := sum_b G B h 2 τ
  obtain ⟨d, -, hd, e3⟩ := sum_b G B h 3 τ
  obtain ⟨o, -, ho, e6⟩ := sum_b G B h 6 τ
  obtain ⟨a, b, c, ⟨ha, ha1, ha5⟩, ⟨hb, hb3⟩, -⟩ := G
  have hw := hw (by omega)
  have hd := hd (by omega)
  have ho := ho (by omega)
  have m1 : a * w ≤ 5 * 28 := Nat.mul_le_mul ha5 hw
  have m2 : b * d ≤ 3 * 28 := Nat.mul_le_mul hb3 hd
  refine ⟨a * w + b * d, o, by omega, ho, ?_⟩
  unfold ptR
  rw [e2, e3, e6, ha, hb, pk_mul, pk_mul, nI_add]
theorem ti_sub {x y : Int32} (h1 : -1000000 ≤ x.toInt) (h2 : x.toInt ≤ 1000000) (h3 : -1000000 ≤ y.toInt) (h4 : y.toInt ≤ 1000000) : (x - y).toInt = x.toInt - y.toInt := by
  rw [Int32.toInt_sub, Int.bmod_eq_of_le] <;> omega
theorem ti_add {x y : Int32} (h1 : -1000000 ≤ x.toInt) (h2 : x.toInt ≤ 1000000) (h3 : -1000000 ≤ y.toInt) (h4 : y.toInt ≤ 1000000) : (x + y).toInt = x.toInt + y.toInt := by
  rw [Int32.toInt_add, Int.bmod_eq_of_le] <;> omega
theorem ti_nI {k : Nat} (h : k < 2147483648) : (nI k).toInt = k := nI_toInt (by omega)
def Pz (s : Nat → Int32) (mm : Nat) (τ : Nat) : Int := (ptR s mm (nI τ)).toInt
def Az (s : Nat → Int32) (mm : Nat) (τ : Nat) : Int := (sm (cR s (nI τ) 4) mm).toInt
def Cz (s : Nat → Int32) (mm : Nat) (τ : Nat) : Int := (sm (cR s (nI τ) 5) mm).toInt
def Dz (s : Nat → Int32) (mm : Nat) (τ : Nat) : Int := Az s mm τ - Cz s mm τ
theorem z_b {mm : Nat} {s : Nat → Int32} (G : SGv s) (B : SCB mm s) (h : mm ≤ 28) (τ : Nat) : (-28 ≤ Pz s mm τ ∧ Pz s mm τ ≤ 300) ∧ (0 ≤ Az s mm τ ∧ Az s mm τ ≤ 2772) ∧ (0 ≤ Cz s mm τ ∧ Cz s mm τ ≤ 2772) := by
  obtain ⟨x, y, hx, hy, e⟩ := pt_b G B h (nI τ)
  obtain ⟨k4, h4, -, e4⟩ := sum_b G B h 4 (nI τ)
  obtain ⟨k5, h5, -, e5⟩ := sum_b G B h 5 (nI τ)
  unfold Pz Az Cz
  rw [e, e4, e5]
  have t1 := ti_nI (k := x) (by omega)
  have t2 := ti_nI (k := y) (by omega)
  rw [ti_sub (by omega) (by omega) (by omega) (by omega), t1, t2, ti_nI (by omega), ti_nI (by omega)]
  omega
def ahb (P D A : Nat → Int) (a b : Nat) : Bool := decide (P b < P a) || (decide (P a = P b) && (decide (D b < D a) || (decide (D a = D b) && (decide (A b < A a) || (decide (A a = A b) && decide (a < b))))))
theorem ahb_iff {P D A : Nat → Int} {a b : Nat} : ahb P D A a b = true ↔ (P b < P a ∨ (P a = P b ∧ (D b < D a ∨ (D a = D b ∧ (A b < A a ∨ (A a = A b ∧ a < b)))))) := by
  unfold ahb
  simp only [Bool.or_eq_true, Bool.and_eq_true, decide_eq_true_eq]
theorem le_0 {x : Int32} : x ≤ 0 ↔ x.toInt ≤ 0 := Int32.le_iff_toInt_le
theorem eq_0 {x : Int32} : x = 0 ↔ x.toInt = 0 := ⟨fun h => by rw [h]; rfl, fun h => Int32.toInt_inj.mp h⟩
theorem ahR_z {mm : Nat} {s : Nat → Int32} (G : SGv s) (B : SCB mm s) (h : mm ≤ 28) {a b : Nat} (ha : a < 8) (hb : b < 8) : ahR s mm (nI a) (nI b) = ahb (Pz s mm) (Dz s mm) (Az s mm) a b := by
  obtain ⟨⟨p1, p2⟩, ⟨a1, a2⟩, ⟨c1, c2⟩⟩ := z_b G B h a
  obtain ⟨⟨p3, p4⟩, ⟨a3, a4⟩, ⟨c3, c4⟩⟩ := z_b G B h b
  have d1 : (ptR s mm (nI a) - ptR s mm (nI b)).toInt = Pz s mm a - Pz s mm b := by
    unfold Pz at *
    exact ti_sub (by omega) (by omega) (by omega) (by omega)
  have d2 : (((sm (cR s (nI a) 4) mm - sm (cR s (nI a) 5) mm) - sm (cR s (nI b) 4) mm) + sm (cR s (nI b) 5) mm).toInt = Dz s mm a - Dz s mm b := by
    unfold Dz
    unfold Az Cz at *
    have t1 := ti_sub (x := sm (cR s (nI a) 4) mm) (y := sm (cR s (nI a) 5) mm) (by omega) (by omega) (by omega) (by omega)
    have t2 := ti_sub (x := sm (cR s (nI a) 4) mm - sm (cR s (nI a) 5) mm) (y := sm (cR s (nI b) 4) mm) (by omega) (by omega) (by omega) (by omega)
    rw [ti_add (by omega) (by omega) (by omega) (by omega), t2, t1]
    omega
  have d3 : (sm (cR s (nI a) 4) mm - sm (cR s (nI b) 4) mm).toInt = Az s mm a - Az s mm b := by
    unfold Az at *
    exact ti_sub (by omega) (by omega) (by omega) (by omega)
  have d4 : (nI b ≤ nI a) ↔ b ≤ a := nI_le' (by omega) (by omega)
  unfold ahR
  simp only [le_0, eq_0, d1, d2, d3, d4]
  rw [Bool.eq_iff_iff, ahb_iff]
  split
  · split
    · split <;> rw [decide_eq_true_iff] <;> omega
    · rw [decide_eq_true_iff]; omega
  · rw [decide_eq_true_iff]; omega
theorem bI_c {c : Prop} [Decidable c] {b : Bool} (h : c ↔ b = false) : (if c then some (nI 0) else some (nI 1)) = some (nI (bI b)) := by
  by_cases hc : c
  · rw [if_pos hc, h.mp hc]; rfl
  · rw [if_neg hc]
    cases b with
    | false => exact absurd (h.mpr rfl) hc
    | true => rfl
theorem ahb_f {P D A : Nat → Int} {a b : Nat} : ahb P D A a b = false ↔ ¬ (P b < P a ∨ (P a = P b ∧ (D b < D a ∨ (D a = D b ∧ (A b < A a ∨ (A a = A b ∧ a < b)))))) := by
  rw [← ahb_iff, Bool.not_eq_true]
/-- the standings of a row -/
def CUs (S : OB) (t : Nat) (s : Nat → Int32) (mm : Nat) : Prop := CU S t (fun w τ => sm (cR s (nI τ) w) mm) (fun τ => ptR s mm (nI τ))
theorem isAheadC_ {t mm n : Nat} {S : OB} {s : Nat → Int32} (C : CUs S t s mm) (G : SGv s) (B : SCB mm s) (h : mm ≤ 28) (ht : t ≤ 8) {a b : Nat} (ha : a < t) (hb : b < t) : f4_isAhead n S (nI a) (nI b) = some (nI (bI (ahb (Pz s mm) (Dz s mm) (Az s mm) a b))) := by
  obtain ⟨C0, C1⟩ := C
  obtain ⟨⟨p1, p2⟩, ⟨a1, a2⟩, ⟨c1, c2⟩⟩ := z_b G B h a
  obtain ⟨⟨p3, p4⟩, ⟨a3, a4⟩, ⟨c3, c4⟩⟩ := z_b G B h b
  obtain ⟨q1, -, -, -, q5, q6, -⟩ := C1 a ha
  obtain ⟨r1, -, -, -, r5, r6, -⟩ := C1 b hb
  have d1 : (ptR s mm (nI a) = ptR s mm (nI b)) ↔ Pz s mm a = Pz s mm b := Int32.toInt_inj.symm
  have d1' : (ptR s mm (nI a) ≤ ptR s mm (nI b)) ↔ Pz s mm a ≤ Pz s mm b := Int32.le_iff_toInt_le
  have d3 : (sm (cR s (nI a) 4) mm = sm (cR s (nI b) 4) mm) ↔ Az s mm a = Az s mm b := Int32.toInt_inj.symm
  have d3' : (sm (cR s (nI a) 4) mm ≤ sm (cR s (nI b) 4) mm) ↔ Az s mm a ≤ Az s mm b := Int32.le_iff_toInt_le
  have t1 : (sm (cR s (nI a) 4) mm - sm (cR s (nI a) 5) mm).toInt = Dz s mm a := by
    unfold Dz
    unfold Az Cz at *
    exact ti_sub (by omega) (by omega) (by omega) (by omega)
  have t2 : (sm (cR s (nI b) 4) mm - sm (cR s (nI b) 5) mm).toInt = Dz s mm b := by
    unfold Dz
    unfold Az Cz at *
    exact ti_sub (by omega) (by omega) (by omega) (by omega)
  have d2 : (sm (cR s (nI a) 4) mm - sm (cR s (nI a) 5) mm = sm (cR s (nI b) 4) mm - sm (cR s (nI b) 5) mm) ↔ Dz s mm a = Dz s mm b := by rw [← t1, ← t2]; exact Int32.toInt_inj.symm
  have d2' : (sm (cR s (nI a) 4) mm - sm (cR s (nI a) 5) mm ≤ sm (cR s (nI b) 4) mm - sm (cR s (nI b) 5) mm) ↔ Dz s mm a ≤ Dz s mm b := by rw [← t1, ← t2]; exact Int32.le_iff_toInt_le
  unfold f4_isAhead
  rw [hasTeam_ C0 ht ha, Option.bind_some, if_neg (show ¬ nI 1 = 0 by decide), hasTeam_ C0 ht hb, Option.bind_some, if_neg (show ¬ nI 1 = 0 by decide)]
  simp (disch := omega) only [ald_nI, Option.bind_some, q1, q5, q6, r1, r5, r6, d1, d1', d2, d2', d3, d3', nI_le']
  split
  · split
    · split <;> exact bI_c (by rw [ahb_f]; omega)
    · exact bI_c (by rw [ahb_f]; omega)
  · exact bI_c (by rw [ahb_f]; omega)
