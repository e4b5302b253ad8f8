/-! PURE: rows of the calls -/
theorem rng {x : Int32} {a b : Nat} (ha : a < 2147483648) (hb : b < 2147483648) (h1 : nI a ≤ x) (h2 : x ≤ nI b) : ∃ t, a ≤ t ∧ t ≤ b ∧ x = nI t := by
  rw [Int32.le_iff_toInt_le, ti_nI ha] at h1
  rw [Int32.le_iff_toInt_le, ti_nI hb] at h2
  refine ⟨x.toInt.toNat, by omega, by omega, Int32.toInt_inj.mp ?_⟩
  rw [ti_nI (by omega)]
  omega
theorem in_no {n : Nat} {x lo hi : Int32} (h : x < lo ∨ hi < x) : f6_in n x lo hi = some (nI 0) := by
  unfold f6_in
  by_cases c : x < lo
  · rw [if_pos c]
  · rw [if_neg c, if_pos (h.resolve_left c)]
theorem in_ok {n : Nat} {x lo hi : Int32} (h1 : ¬ x < lo) (h2 : ¬ hi < x) : f6_in n x lo hi = some (nI 1) := by
  unfold f6_in
  rw [if_neg h1, if_neg h2]
theorem lt_1 {x : Int32} {k : Nat} (hk : 0 < k) (hk2 : k < 2147483648) : (nI (k - 1) < x) ↔ nI k ≤ x := by
  rw [Int32.lt_iff_toInt_lt, ti_nI (by omega), Int32.le_iff_toInt_le, ti_nI hk2]
  omega
theorem hasMatch_no {n k : Nat} {L : OB} {x : Int32} (h : L.1 2 = nI k) (hx : x < nI 0 ∨ nI k ≤ x) : f1_hasMatch n L x = some (nI 0) := by
  unfold f1_hasMatch
  rw [h, show (0 : Int32) = nI 0 from rfl]
  by_cases c : x < nI 0
  · rw [if_pos c]
  · rw [if_neg c, if_pos (hx.resolve_left c)]
theorem hasTeamL_no {n k : Nat} {L : OB} {x : Int32} (h : L.1 0 = nI k) (hx : x < nI 0 ∨ nI k ≤ x) : f1_hasTeam n L x = some (nI 0) := by
  unfold f1_hasTeam
  rw [h, show (0 : Int32) = nI 0 from rfl]
  by_cases c : x < nI 0
  · rw [if_pos c]
  · rw [if_neg c, if_pos (hx.resolve_left c)]
theorem hasTeamL_ok {n k j : Nat} {L : OB} (h : L.1 0 = nI k) (hk : k ≤ 8) (hj : j < k) : f1_hasTeam n L (nI j) = some (nI 1) := by
  unfold f1_hasTeam
  rw [if_neg (nI_neg (by omega)), h, if_neg (by rw [nI_le' (by omega) (by omega)]; omega)]
theorem split_ {x : Int32} {k : Nat} (hk : k < 2147483648) : (x < nI 0 ∨ nI k ≤ x) ∨ ∃ j, j < k ∧ x = nI j := by
  rcases pk_ix x (n := k) hk with h | h | h
  · exact Or.inl (Or.inl h)
  · exact Or.inl (Or.inr h)
  · exact Or.inr h
theorem mm_pos {t : Nat} (h3 : 3 ≤ t) (h8 : t ≤ 8) : 0 < mmT t := by
  have e9 : t = 3 ∨ t = 4 ∨ t = 5 ∨ t = 6 ∨ t = 7 ∨ t = 8 := by omega
  rcases e9 with rfl | rfl | rfl | rfl | rfl | rfl <;> decide +kernel
theorem canHave_ {t q n m : Nat} {L : OB} {s : Nat → Int32} (R : RLc t q L s) (hm : m < mmT t) : f1_canHaveResult n L (nI m) = some (if s (18 + 9 * m + 3) = -1 then nI 0 else nI 1) := by
  have hmm : mmT t ≤ 28 := R.1.1.2.2.2.2
  unfold f1_canHaveResult
  rw [hasMatch_ R.2.1.2.2 hmm hm, Option.bind_some, if_neg (by decide), ald_nI (by omega) (by omega), Option.bind_some, (R.2.2.2 m hm).2.1.1]
  split <;> rfl
theorem pointsOf_ {t q n τ : Nat} {S G L U V B : OB} {X : HS} {s : Nat → Int32} (R : RLr t q L s) (g : GT t s) (hτ : τ < t) (hn : 28 < n) : ∃ S', f5_pointsOf n S G L U V B X (nI τ) = some (ptR s (mmT t) (nI τ), S') := by
  obtain ⟨S', e, T⟩ := tbl_ (S := S) R g hn
  refine ⟨S', ?_⟩
  unfold f5_pointsOf
  rw [e, Option.bind_some, show nI 0 = nI 0 from rfl, propertyC_ T hτ (by omega) hn, Option.bind_some]
  rfl
theorem row_e {t q : Nat} {L : OB} {s : Nat → Int32} (R : RLr t q L s) : s 5 = nI (mmT t) ∧ s 4 = nI t ∧ 0 < mmT t ∧ mmT t ≤ 28 := ⟨R.1.1.1.2.1, R.1.1.1.1, mm_pos R.1.1.1.2.2.1 R.1.1.1.2.2.2.1, R.1.1.1.2.2.2.2⟩
theorem isScore_no {n : Nat} {x : Int32} (h : x < nI 0 ∨ nI 99 < x) : f5_isScore n x = some (nI 0) := in_no (n := n) h
theorem isScore_ok {n : Nat} {x : Int32} (h1 : ¬ x < nI 0) (h2 : ¬ nI 99 < x) : f5_isScore n x = some (nI 1) := in_ok (n := n) h1 h2
theorem set_r {t q q' k : Nat} {L : OB} {s : Nat → Int32} {v : Int32} (R : RLr t q L s) (hk : k < 4) (hq : upd s k v 3 = nI q' ∧ 1 ≤ q' ∧ q' ≤ 28) : RLr t q' (gsa L 3 (upd (L.2 3) k v)) (upd s k v) := by
  obtain ⟨⟨⟨⟨h4, h5, h3, h8, hmm⟩, -, hf⟩, hL, ⟨g3, g4, g5⟩, hr⟩, Rr⟩ := R
  refine ⟨⟨⟨⟨by rw [upd_n _ _ (by omega)]; exact h4, by rw [upd_n _ _ (by omega)]; exact h5, h3, h8, hmm⟩, hq, fun m hm => ?_⟩, hL, ⟨fun j hj => ?_, fun j hj => by rw [upd_n _ _ (by omega)]; exact g4 j hj, fun j hj => by rw [upd_n _ _ (by omega)]; exact g5 j hj⟩, fun m hm => ?_⟩, fun m hm => by rw [upd_n _ _ (by omega)]; exact Rr m hm⟩
  · rw [upd_n (j := 18 + 9 * m + 0) _ _ (by omega), upd_n (j := 18 + 9 * m + 1) _ _ (by omega), upd_n (j := 18 + 9 * m + 2) _ _ (by omega)]; exact hf m hm
  · show upd (L.2 3) k v j = _
    rw [upd_e, upd_e]
    by_cases e : j = k
    · rw [if_pos e, if_pos e]
    · rw [if_neg e, if_neg e]; exact g3 j hj
  · rw [upd_n (j := 18 + 9 * m + 0) _ _ (by omega), upd_n (j := 18 + 9 * m + 1) _ _ (by omega), upd_n (j := 18 + 9 * m + 2) _ _ (by omega), upd_n (j := 18 + 9 * m + 3) _ _ (by omega), upd_n (j := 18 + 9 * m + 4) _ _ (by omega), upd_n (j := 18 + 9 * m + 6) _ _ (by omega), upd_n (j := 18 + 9 * m + 7) _ _ (by omega), upd_n (j := 18 + 9 * m + 8) _ _ (by omega)]; exact hr m hm
def loS (k : Nat) : Nat := if k = 1 then 0 else 1
def hiS (k : Nat) : Nat := if k = 0 then 5 else if k = 1 then 3 else if k = 2 then 50 else 28
theorem set_g {t k v : Nat} {s : Nat → Int32} (G : GR t s) (hk : k < 4) (h1 : loS k ≤ v) (h2 : v ≤ hiS k) : GR t (upd s k (nI v)) := by
  obtain ⟨⟨⟨a, b, c, ha, hb, hc⟩, Vr, Bs⟩, v1, u, w⟩ := G
  refine ⟨⟨?_, fun m hm => by rw [upd_n _ _ (by omega)]; exact Vr m hm, fun m hm => by rw [upd_n (j := 18 + 9 * m + 7) _ _ (by omega), upd_n (j := 18 + 9 * m + 8) _ _ (by omega)]; exact Bs m hm⟩, v1.mask (by omega), u.mask (by omega), w.congr fun m hm => ⟨upd_n _ _ (by omega), upd_n _ _ (by omega)⟩⟩
  unfold loS at h1
  unfold hiS at h2
  have e9 : k = 0 ∨ k = 1 ∨ k = 2 ∨ k = 3 := by omega
  rcases e9 with rfl | rfl | rfl | rfl
  · exact ⟨v, b, c, ⟨upd_s _ _ _, h1, h2⟩, by rw [upd_n _ _ (by decide)]; exact hb, by rw [upd_n _ _ (by decide)]; exact hc⟩
  · exact ⟨a, v, c, by rw [upd_n _ _ (by decide)]; exact ha, ⟨upd_s _ _ _, h2⟩, by rw [upd_n _ _ (by decide)]; exact hc⟩
  · exact ⟨a, b, v, by rw [upd_n _ _ (by decide)]; exact ha, by rw [upd_n _ _ (by decide)]; exact hb, ⟨upd_s _ _ _, h1, h2⟩⟩
  · exact ⟨a, b, c, by rw [upd_n _ _ (by decide)]; exact ha, by rw [upd_n _ _ (by decide)]; exact hb, by rw [upd_n _ _ (by decide)]; exact hc⟩
theorem sLV_k : ∀ k, k < 4 → sLV k = nI (loS k) := by decide +kernel
theorem sGV_k : ∀ k, k < 4 → sGV k = nI (hiS k) := by decide +kernel
