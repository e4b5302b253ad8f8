/-! PURE: the class's steps over a character -/
def isD (c : Nat) : Bool := decide (48 ≤ c) && decide (c ≤ 57)
theorem isD_t {c : Nat} (h : isD c = true) : 48 ≤ c ∧ c ≤ 57 := by
  unfold isD at h
  rw [Bool.and_eq_true, decide_eq_true_eq, decide_eq_true_eq] at h
  exact h
theorem isD_f {c : Nat} (h : isD c = false) : c < 48 ∨ 57 < c := by
  unfold isD at h
  rw [Bool.and_eq_false_iff, decide_eq_false_iff_not, decide_eq_false_iff_not] at h
  omega
def st1 (B : OB) (ρ p : Nat) (v : Int32) : OB := gsa B ρ (upd (B.2 ρ) p v)
theorem bg_m {n p c : Nat} {B : OB} {x : Int32} (hp : B.1 6 = nI p) (hp2 : p < 12) (hc : c < 128) : f2_beginNumber_m n B (nI c) x = some (if isD c = true then (x, st1 B 2 p (nI (c - 48))) else (nI 8, B)) := by
  unfold f2_beginNumber_m
  simp (disch := omega) only [hp, nI_lt', oast_nI, Option.bind_some, if_neg (nI_neg (show p < 2147483648 by omega))]
  cases h : isD c with
  | true =>
    obtain ⟨h1, h2⟩ := isD_t h
    rw [if_neg (by omega), if_neg (by omega), if_pos hp2, pk_sub h1]
    rfl
  | false =>
    rcases isD_f h with h1 | h1
    · rw [if_pos h1]; rfl
    · rw [if_neg (by omega), if_pos h1]; rfl
theorem bg_f {n p c : Nat} {B : OB} {x : Int32} (hp : B.1 6 = nI p) (hp2 : p < 12) (hc : c < 128) : f2_beginNumber_f n B (nI c) x = some (if isD c = true then (x, st1 B 4 p (nI (c - 48))) else (nI 8, B)) := by
  unfold f2_beginNumber_f
  simp (disch := omega) only [hp, nI_lt', oast_nI, Option.bind_some, if_neg (nI_neg (show p < 2147483648 by omega))]
  cases h : isD c with
  | true =>
    obtain ⟨h1, h2⟩ := isD_t h
    rw [if_neg (by omega), if_neg (by omega), if_pos hp2, pk_sub h1]
    rfl
  | false =>
    rcases isD_f h with h1 | h1
    · rw [if_pos h1]; rfl
    · rw [if_neg (by omega), if_pos h1]; rfl
theorem bg_s {n p c : Nat} {B : OB} {x : Int32} (hp : B.1 6 = nI p) (hp2 : p < 12) (hc : c < 128) : f2_beginNumber_s n B (nI c) x = some (if isD c = true then (x, st1 B 5 p (nI (c - 48))) else (nI 8, B)) := by
  unfold f2_beginNumber_s
  simp (disch := omega) only [hp, nI_lt', oast_nI, Option.bind_some, if_neg (nI_neg (show p < 2147483648 by omega))]
  cases h : isD c with
  | true =>
    obtain ⟨h1, h2⟩ := isD_t h
    rw [if_neg (by omega), if_neg (by omega), if_pos hp2, pk_sub h1]
    rfl
  | false =>
    rcases isD_f h with h1 | h1
    · rw [if_pos h1]; rfl
    · rw [if_neg (by omega), if_pos h1]; rfl
def gwB (c v hi : Nat) : Bool := isD c && decide (v ≠ 0) && decide (10 * v + c - 48 ≤ hi)
theorem gw_m {n p c v hi : Nat} {B : OB} (hp : B.1 6 = nI p) (hp2 : p < 12) (hc : c < 128) (hv : B.2 2 p = nI v) (hv2 : v ≤ 99) (hh : hi ≤ 99) : f2_growNumber_m n B (nI c) (nI hi) = some (if gwB c v hi = true then (B.1 7, st1 B 2 p (nI (10 * v + c - 48))) else (nI 8, B)) := by
  unfold f2_growNumber_m gwB
  simp (disch := omega) only [hp, nI_lt', ald_nI, Option.bind_some, if_neg (nI_neg (show p < 2147483648 by omega)), hv, nI_z]
  cases h : isD c with
  | true =>
    obtain ⟨h1, h2⟩ := isD_t h
    have e : ((nI v * nI 10) + nI c) - nI 48 = nI (10 * v + c - 48) := by
      rw [pk_mul, nI_add, pk_sub (by omega), Nat.mul_comm v 10]
    rw [e, if_neg (by omega), if_neg (by omega), if_pos hp2]
    simp (disch := omega) only [nI_le', oast_nI, Option.bind_some]
    by_cases c1 : v = 0
    · rw [if_pos c1, if_neg (by simp [c1])]
    · rw [if_neg c1]
      by_cases c2 : 10 * v + c - 48 ≤ hi
      · rw [if_pos c2, if_pos (by simp [c1, c2])]; rfl
      · rw [if_neg c2, if_neg (by simp [c2])]
  | false =>
    rcases isD_f h with h1 | h1
    · rw [if_pos h1]; rfl
    · rw [if_neg (by omega), if_pos h1]; rfl
theorem gw_f {n p c v hi : Nat} {B : OB} (hp : B.1 6 = nI p) (hp2 : p < 12) (hc : c < 128) (hv : B.2 4 p = nI v) (hv2 : v ≤ 99) (hh : hi ≤ 99) : f2_growNumber_f n B (nI c) (nI hi) = some (if gwB c v hi = true then (B.1 7, st1 B 4 p (nI (10 * v + c - 48))) else (nI 8, B)) := by
  unfold f2_growNumber_f gwB
  simp (disch := omega) only [hp, nI_lt', ald_nI, Option.bind_some, if_neg (nI_neg (show p < 2147483648 by omega)), hv, nI_z]
  cases h : isD c with
  | true =>
    obtain ⟨h1, h2⟩ := isD_t h
    have e : ((nI v * nI 10) + nI c) - nI 48 = nI (10 * v + c - 48) := by
      rw [pk_mul, nI_add, pk_sub (by omega), Nat.mul_comm v 10]
    rw [e, if_neg (by omega), if_neg (by omega), if_pos hp2]
    simp (disch := omega) only [nI_le', oast_nI, Option.bind_some]
    by_cases c1 : v = 0
    · rw [if_pos c1, if_neg (by simp [c1])]
    · rw [if_neg c1]
      by_cases c2 : 10 * v + c - 48 ≤ hi
      · rw [if_pos c2, if_pos (by simp [c1, c2])]; rfl
      · rw [if_neg c2, if_neg (by simp [c2])]
  | false =>
    rcases isD_f h with h1 | h1
    · rw [if_pos h1]; rfl
    · rw [if_neg (by omega), if_pos h1]; rfl
theorem gw_s {n p c v hi : Nat} {B : OB} (hp : B.1 6 = nI p) (hp2 : p < 12) (hc : c < 128) (hv : B.2 5 p = nI v) (hv2 : v ≤ 99) (hh : hi ≤ 99) : f2_growNumber_s n B (nI c) (nI hi) = some (if gwB c v hi = true then (B.1 7, st1 B 5 p (nI (10 * v + c - 48))) else (nI 8, B)) := by
  unfold f2_growNumber_s gwB
  simp (disch := omega) only [hp, nI_lt', ald_nI, Option.bind_some, if_neg (nI_neg (show p < 2147483648 by omega)), hv, nI_z]
  cases h : isD c with
  | true =>
    obtain ⟨h1, h2⟩ := isD_t h
    have e : ((nI v * nI 10) + nI c) - nI 48 = nI (10 * v + c - 48) := by
      rw [pk_mul, nI_add, pk_sub (by omega), Nat.mul_comm v 10]
    rw [e, if_neg (by omega), if_neg (by omega), if_pos hp2]
    simp (disch := omega) only [nI_le', oast_nI, Option.bind_some]
    by_cases c1 : v = 0
    · rw [if_pos c1, if_neg (by simp [c1])]
    · rw [if_neg c1]
      by_cases c2 : 10 * v + c - 48 ≤ hi
      · rw [if_pos c2, if_pos (by simp [c1, c2])]; rfl
      · rw [if_neg c2, if_neg (by simp [c2])]
  | false =>
    rcases isD_f h with h1 | h1
    · rw [if_pos h1]; rfl
    · rw [if_neg (by omega), if_pos h1]; rfl
/-- what next makes of a character: the new state, the new text -/
def nxT (n : Nat) (B : OB) (x : Int32) : Nat → Option (Int32 × OB)
  | 0 => f2_beginNumber_m n B x (nI 1)
  | 1 => if x = nI 61 then some (nI 2, B) else f2_growNumber_m n B x (nI 27)
  | 2 => if x = nI 119 then some (nI 6, B) else f2_beginNumber_f n B x (nI 3)
  | 3 => if x = nI 58 then some (nI 4, B) else f2_growNumber_f n B x (nI 99)
  | 4 => f2_beginSecondScore n B x
  | 5 => if x = nI 59 then f2_endPart n B else f2_growNumber_s n B x (nI 99)
  | 6 => f2_takeGiver n B x
  | _ => if x = nI 59 then f2_endPart n B else some (nI 8, B)
theorem nx_sel {n k : Nat} {B : OB} {x : Int32} (h : B.1 7 = nI k) (hk : k < 8) : f2_next n B x = nxT n B x k := by
  have hb : ∀ o : Option (Int32 × OB), (o.bind fun z => some (z.1, z.2)) = o := fun o => by cases o <;> rfl
  unfold f2_next
  rw [h]
  simp (disch := omega) only [nI_inj, hb]
  have e9 : k = 0 ∨ k = 1 ∨ k = 2 ∨ k = 3 ∨ k = 4 ∨ k = 5 ∨ k = 6 ∨ k = 7 := by omega
  rcases e9 with rfl | rfl | rfl | rfl | rfl | rfl | rfl | rfl <;> rfl
theorem nx_0 {n p c : Nat} {B : OB} (h : B.1 7 = nI 0) (hp : B.1 6 = nI p) (hp2 : p < 12) (hc : c < 128) : f2_next n B (nI c) = some (if isD c = true then (nI 1, st1 B 2 p (nI (c - 48))) else (nI 8, B)) := (nx_sel h (by omega)).trans (bg_m (n := n) hp hp2 hc)
theorem nx_1 {n p c v : Nat} {B : OB} (h : B.1 7 = nI 1) (hp : B.1 6 = nI p) (hp2 : p < 12) (hc : c < 128) (hv : B.2 2 p = nI v) (hv2 : v ≤ 99) : f2_next n B (nI c) = some (if c = 61 then (nI 2, B) else if gwB c v 27 = true then (nI 1, st1 B 2 p (nI (10 * v + c - 48))) else (nI 8, B)) := by
  rw [nx_sel h (by omega)]
  show (if nI c = nI 61 then _ else _) = _
  rw [gw_m hp hp2 hc hv hv2 (by omega), h]
  simp (disch := omega) only [nI_inj]
  split <;> rfl
theorem nx_2 {n p c : Nat} {B : OB} (h : B.1 7 = nI 2) (hp : B.1 6 = nI p) (hp2 : p < 12) (hc : c < 128) : f2_next n B (nI c) = some (if c = 119 then (nI 6, B) else if isD c = true then (nI 3, st1 B 4 p (nI (c - 48))) else (nI 8, B)) := by
  rw [nx_sel h (by omega)]
  show (if nI c = nI 119 then _ else _) = _
  rw [bg_f hp hp2 hc]
  simp (disch := omega) only [nI_inj]
  split <;> rfl
theorem nx_3 {n p c v : Nat} {B : OB} (h : B.1 7 = nI 3) (hp : B.1 6 = nI p) (hp2 : p < 12) (hc : c < 128) (hv : B.2 4 p = nI v) (hv2 : v ≤ 99) : f2_next n B (nI c) = some (if c = 58 then (nI 4, B) else if gwB c v 99 = true then (nI 3, st1 B 4 p (nI (10 * v + c - 48))) else (nI 8, B)) := by
  rw [nx_sel h (by omega)]
  show (if nI c = nI 58 then _ else _) = _
  rw [gw_f hp hp2 hc hv hv2 (by omega), h]
  simp (disch := omega) only [nI_inj]
  split <;> rfl
theorem nx_4 {n p c : Nat} {B : OB} (h : B.1 7 = nI 4) (hp : B.1 6 = nI p) (hp2 : p < 12) (hc : c < 128) : f2_next n B (nI c) = some (if isD c = true then (nI 5, st1 (st1 B 3 p (nI 1)) 5 p (nI (c - 48))) else (nI 8, st1 B 3 p (nI 1))) := by
  rw [nx_sel h (by omega)]
  show f2_beginSecondScore n B (nI c) = _
  unfold f2_beginSecondScore
  rw [hp, if_neg (nI_neg (by omega)), if_pos (by rw [nI_lt' (by omega) (by omega)]; exact hp2), oast_nI hp2 (by omega), Option.bind_some]
  show (f2_beginNumber_s n (st1 B 3 p (nI 1)) (nI c) (nI 5)).bind _ = _
  rw [bg_s (B := st1 B 3 p (nI 1)) (p := p) hp hp2 hc]
  split <;> rfl
theorem nx_5 {n p c v : Nat} {B : OB} (h : B.1 7 = nI 5) (hp : B.1 6 = nI p) (hp2 : p < 12) (hc : c < 128) (hv : B.2 5 p = nI v) (hv2 : v ≤ 99) : f2_next n B (nI c) = some (if c = 59 then (nI 0, gsi B 6 (nI (p + 1))) else if gwB c v 99 = true then (nI 5, st1 B 5 p (nI (10 * v + c - 48))) else (nI 8, B)) := by
  rw [nx_sel h (by omega)]
  show (if nI c = nI 59 then _ else _) = _
  rw [gw_s hp hp2 hc hv hv2 (by omega), h]
  unfold f2_endPart
  simp (disch := omega) only [nI_inj, hp, nI_add, Option.bind_some]
  split <;> rfl
theorem nx_6 {n p c : Nat} {B : OB} (h : B.1 7 = nI 6) (hp : B.1 6 = nI p) (hp2 : p < 12) (hc : c < 128) : f2_next n B (nI c) = some (if c = 49 ∨ c = 50 then (nI 7, st1 (st1 (st1 B 3 p (nI (1 + c - 48))) 4 p (nI 0)) 5 p (nI 0)) else (nI 8, B)) := by
  rw [nx_sel h (by omega)]
  show f2_takeGiver n B (nI c) = _
  unfold f2_takeGiver f2_takeGiver_b12
  rw [hp, if_neg (nI_neg (show p < 2147483648 by omega)), if_pos (show nI p < nI 12 by rw [nI_lt' (by omega) (by omega)]; exact hp2)]
  have key : ∀ y, f2_takeGiver_b50 n (nI c) (nI p) y B = some (nI 7, st1 (st1 (st1 B 3 p y) 4 p (nI 0)) 5 p (nI 0)) := fun y => by
    unfold f2_takeGiver_b50
    rw [oast_nI hp2 (by omega), Option.bind_some]
    show (oast (st1 B 3 p y) 4 12 (B.1 6) (nI 0)).bind _ = _
    rw [hp, oast_nI hp2 (by omega), Option.bind_some]
    show (oast (st1 (st1 B 3 p y) 4 p (nI 0)) 5 12 (B.1 6) (nI 0)).bind _ = _
    rw [hp, oast_nI hp2 (by omega), Option.bind_some]
    rfl
  rw [key, key]
  simp (disch := omega) only [nI_inj]
  by_cases c1 : c = 49
  · subst c1; rfl
  · by_cases c2 : c = 50
    · subst c2; rfl
    · rw [if_neg c1, if_neg c2, if_neg (by omega)]
theorem nx_7 {n p c : Nat} {B : OB} (h : B.1 7 = nI 7) (hp : B.1 6 = nI p) (hc : c < 128) : f2_next n B (nI c) = some (if c = 59 then (nI 0, gsi B 6 (nI (p + 1))) else (nI 8, B)) := by
  rw [nx_sel h (by omega)]
  show (if nI c = nI 59 then _ else _) = _
  unfold f2_endPart
  simp (disch := omega) only [nI_inj, hp, nI_add, Option.bind_some]
  split <;> rfl
