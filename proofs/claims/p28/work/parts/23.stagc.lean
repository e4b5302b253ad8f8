/-! ===== Int32 by its bits: bt x i ===== -/
def bt (x : Int32) (i : Nat) : Bool := x.toBitVec.getLsbD i
theorem b_ext {x y : Int32} (h : ∀ i, i < 32 → bt x i = bt y i) : x = y := Int32.toBitVec_inj.mp (BitVec.eq_of_getLsbD_eq (fun i hi => h i hi))
theorem b_or (x y : Int32) (i : Nat) : bt (x ||| y) i = (bt x i || bt y i) := by unfold bt; rw [Int32.toBitVec_or, BitVec.getLsbD_or]
theorem b_and (x y : Int32) (i : Nat) : bt (x &&& y) i = (bt x i && bt y i) := by unfold bt; rw [Int32.toBitVec_and, BitVec.getLsbD_and]
theorem b_xor (x y : Int32) (i : Nat) : bt (x ^^^ y) i = (bt x i ^^ bt y i) := by unfold bt; rw [Int32.toBitVec_xor, BitVec.getLsbD_xor]
theorem b_big {x : Int32} {i : Nat} (h : 32 ≤ i) : bt x i = false := BitVec.getLsbD_of_ge _ _ h
theorem b_m1 : ∀ i, i < 32 → bt (-1) i = true := by decide +kernel
theorem b_0 (i : Nat) : bt 0 i = false := BitVec.getLsbD_zero
theorem s_l : ∀ n, n < 32 → ((nI n &&& 31).toBitVec.smod 32).toNat = n := by decide +kernel
theorem s_u : ∀ n, n < 32 → (((nI n).toUInt32 &&& Int32.toUInt32 31).toBitVec % 32).toNat = n := by decide +kernel
theorem b_shl (n : Nat) (hn : n < 32) (x : Int32) {i : Nat} (hi : i < 32) : bt (x <<< (nI n &&& 31)) i = (decide (n ≤ i) && bt x (i - n)) := by
  unfold bt
  rw [Int32.toBitVec_shiftLeft]
  show (x.toBitVec <<< ((nI n &&& 31).toBitVec.smod 32).toNat).getLsbD i = _
  rw [s_l n hn, BitVec.getLsbD_shiftLeft]
  rcases Nat.lt_or_ge i n with h | h
  · simp [h, Nat.not_le.mpr h]
  · simp [hi, h, Nat.not_lt.mpr h]
theorem b_ushr (n : Nat) (hn : n < 32) (x : Int32) (i : Nat) : bt ((x.toUInt32 >>> ((nI n).toUInt32 &&& Int32.toUInt32 31)).toInt32) i = bt x (n + i) := by
  show (x.toUInt32 >>> ((nI n).toUInt32 &&& Int32.toUInt32 31)).toBitVec.getLsbD i = x.toUInt32.toBitVec.getLsbD (n + i)
  rw [UInt32.toBitVec_shiftRight]
  show (x.toUInt32.toBitVec >>> (((nI n).toUInt32 &&& Int32.toUInt32 31).toBitVec % 32).toNat).getLsbD i = _
  rw [s_u n hn, BitVec.getLsbD_ushiftRight]
theorem b_sshr (n : Nat) (hn : n < 32) (x : Int32) {i : Nat} (hi : i < 32) : bt (x >>> (nI n &&& 31)) i = if n + i < 32 then bt x (n + i) else bt x 31 := by
  unfold bt
  rw [Int32.toBitVec_shiftRight]
  show (x.toBitVec.sshiftRight ((nI n &&& 31).toBitVec.smod 32).toNat).getLsbD i = _
  rw [s_l n hn, BitVec.getLsbD_sshiftRight, BitVec.msb_eq_getLsbD_last]
  simp [hi]
/-! PURE: the class's staging -/
theorem bt_1 (i : Nat) : bt (nI 1) i = decide (i = 0) := by
  by_cases h : i < 32
  · have key : ∀ j, j < 32 → bt (nI 1) j = decide (j = 0) := by decide +kernel
    exact key i h
  · rw [b_big (by omega), decide_eq_false (by omega)]
theorem bt_sh {r : Nat} (hr : r < 7) {i : Nat} (hi : i < 32) : bt (nI 1 <<< (nI r &&& 31)) i = decide (i = r) := by
  rw [b_shl r (by omega) _ hi, bt_1]
  by_cases h : r ≤ i
  · rw [decide_eq_true h, Bool.true_and]
    exact decide_eq_decide.mpr (by omega)
  · rw [decide_eq_false h, Bool.false_and, decide_eq_false (by omega)]
theorem bt_z {x : Int32} : x = 0 ↔ ∀ i, i < 32 → bt x i = false := by
  constructor
  · rintro rfl i -
    exact b_0 i
  · intro h
    refine b_ext fun i hi => ?_
    rw [h i hi, b_0]
theorem bt_cl {x : Int32} {r : Nat} (hr : r < 7) : (x &&& (nI 1 <<< (nI r &&& 31))) = 0 ↔ bt x r = false := by
  rw [bt_z]
  constructor
  · intro h
    have := h r (by omega)
    rw [b_and, bt_sh hr (by omega), decide_eq_true rfl, Bool.and_true] at this
    exact this
  · intro h i hi
    rw [b_and, bt_sh hr hi]
    by_cases e : i = r
    · rw [e, h, Bool.false_and]
    · rw [decide_eq_false e, Bool.and_false]
theorem mb_bt {x : Int32} {r : Nat} (hr : r < 7) : mb x r = !bt x r := by
  unfold mb
  have key : ((x >>> (nI r &&& 31)) &&& nI 1) = 0 ↔ bt x r = false := by
    rw [bt_z]
    constructor
    · intro h
      have := h 0 (by omega)
      rw [b_and, bt_1, b_sshr r (by omega) _ (by omega), if_pos (by omega), decide_eq_true rfl, Bool.and_true] at this
      exact this
    · intro h i hi
      rw [b_and, bt_1]
      by_cases e : i = 0
      · rw [e, b_sshr r (by omega) _ (by omega), if_pos (by omega)]
        show (bt x r && _) = false
        rw [h, Bool.false_and]
      · rw [decide_eq_false e, Bool.and_false]
  cases hb : bt x r with
  | false => rw [decide_eq_true (key.mpr hb)]; rfl
  | true => rw [decide_eq_false (fun h => by rw [key.mp h] at hb; cases hb)]; rfl
/-- what the loads hold: how many matches of a venue (a) and of a setter (b), and in which rounds -/
def LQ (G : OB) (a b : Nat → Nat) (za zb : Nat → Nat → Bool) : Prop := ∀ k, k < 6 → G.2 0 k = nI (a k) ∧ G.2 2 k = nI (b k) ∧ ∀ r, r < 7 → bt (G.2 1 k) r = za k r ∧ bt (G.2 3 k) r = zb k r
theorem LQ.congr {G : OB} {a b a' b' : Nat → Nat} {za zb za' zb' : Nat → Nat → Bool} (h : LQ G a b za zb) (e : ∀ k, k < 6 → a k = a' k ∧ b k = b' k ∧ ∀ r, r < 7 → za k r = za' k r ∧ zb k r = zb' k r) : LQ G a' b' za' zb' := fun k hk => by
  obtain ⟨h1, h2, h3⟩ := h k hk
  obtain ⟨e1, e2, e3⟩ := e k hk
  exact ⟨by rw [h1, e1], by rw [h2, e2], fun r hr => ⟨by rw [(h3 r hr).1, (e3 r hr).1], by rw [(h3 r hr).2, (e3 r hr).2]⟩⟩
theorem load_ {G : OB} {a b : Nat → Nat} {za zb : Nat → Nat → Bool} (h : LQ G a b za zb) {n v q r : Nat} (hv : v < 6) (hq : q < 6) (hr : r < 7) : ∃ G', f3_load n G (nI v) (nI q) (nI r) = some G' ∧ LQ G' (fun k => a k + if k = v then 1 else 0) (fun k => b k + if k = q then 1 else 0) (fun k j => za k j || (decide (k = v) && decide (j = r))) (fun k j => zb k j || (decide (k = q) && decide (j = r))) := by
  unfold f3_load
  rw [if_neg (nI_neg (by omega)), if_neg (by rw [nI_le' (by omega) (by omega)]; omega), if_neg (nI_neg (by omega)), if_pos (by rw [nI_lt' (by omega) (by omega)]; exact hq)]
  simp (disch := omega) only [ald_nI, oast_nI, Option.bind_some]
  refine ⟨_, rfl, fun k hk => ?_⟩
  obtain ⟨h1, h2, h3⟩ := h k hk
  have bo : ∀ (x : Int32) (j : Nat), j < 7 → bt (x ||| (nI 1 <<< (nI r &&& 31))) j = (bt x j || decide (j = r)) := fun x j hj => by rw [b_or, bt_sh hr (by omega)]
  simp only [gsa_2, upd_e]
  refine ⟨?_, ?_, fun j hj => ⟨?_, ?_⟩⟩
  · by_cases e : k = v
    · simp only [upd_e, e, if_true, reduceCtorEq, if_false, Nat.reduceEqDiff]
      rw [← e, h1, nI_add]
    · simp only [upd_e, e, if_false, Nat.reduceEqDiff, if_true, Nat.add_zero]
      exact h1
  · by_cases e : k = q
    · simp only [upd_e, e, if_true, reduceCtorEq, if_false, Nat.reduceEqDiff]
      rw [← e, h2, nI_add]
    · simp only [upd_e, e, if_false, Nat.reduceEqDiff, if_true, Nat.add_zero]
      exact h2
  · by_cases e : k = v
    · simp only [upd_e, e, if_true, Nat.reduceEqDiff, if_false, bo _ _ hj, decide_true, Bool.true_and]
      rw [← e, (h3 j hj).1]
    · simp only [upd_e, e, if_false, Nat.reduceEqDiff, if_true, decide_false, Bool.false_and, Bool.or_false]
      exact (h3 j hj).1
  · by_cases e : k = q
    · simp only [upd_e, e, if_true, Nat.reduceEqDiff, if_false, bo _ _ hj, decide_true, Bool.true_and]
      rw [← e, (h3 j hj).2]
    · simp only [upd_e, e, if_false, Nat.reduceEqDiff, if_true, decide_false, Bool.false_and, Bool.or_false]
      exact (h3 j hj).2
