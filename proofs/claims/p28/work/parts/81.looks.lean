/-! PURE: the looks of the class, as functions of its row -/
def CS (S L : OB) : OB := (f4_countUp 3000 S L).getD S
def bpR (S G L U V B : OB) (X : HS) (a : Nat) : OB × OB := ((f5_placeByWinningAll 3000 S G L U V B X (nI a)).getD (nI 0, U, V)).2
section LK
variable {t q j : Nat} {S G L U V B : OB} {X : HS} {s : Nat → Int32}
theorem cs_ (I : IL t q L s) : f4_countUp 3000 S L = some (CS S L) ∧ TBL (CS S L) t s := by
  obtain ⟨S', e, T⟩ := tbl_ (S := S) I.1 I.2.1.1 (show 28 < 3000 by omega)
  unfold CS
  rw [e]
  exact ⟨rfl, T⟩
theorem IL.t3 (I : IL t q L s) : 3 ≤ t := I.1.1.1.1.2.2.1
theorem IL.t8 (I : IL t q L s) : t ≤ 8 := I.1.1.1.1.2.2.2.1
theorem IL.mm (I : IL t q L s) : mmT t ≤ 28 := tb_mm I.t3 I.t8
theorem IL.mp (I : IL t q L s) : 0 < mmT t := mm_pos I.t3 I.t8
theorem cnt_ (I : IL t q L s) (hj : X.1 = nI j) {w : Nat} (hw : w < 10) : f5n_count 3000 S G L U V B X (nI w) = some (cnV s t j w, CS S L) := by
  obtain ⟨e, T⟩ := cs_ (S := S) I
  unfold f5n_count
  rw [if_neg (nI_neg (by omega)), if_pos (by rw [nI_lt' (by omega) (by omega)]; omega), e, Option.bind_some, number_ I.1.1 hj T hw (by omega), Option.bind_some]
theorem mat_ (I : IL t q L s) {m w : Nat} (hm : m < mmT t) (hw : w < 9) : f5n_match 3000 S G L U V B X (nI m) (nI w) = some (ofM s m w) := by
  unfold f5n_match
  rw [hasMatch_ I.1.1.2.1.2.2 I.mm hm, Option.bind_some, if_neg (show ¬ nI 1 = 0 by decide), if_neg (nI_neg (by omega)), if_pos (by rw [nI_lt' (by omega) (by omega)]; omega), propertyL_ I.1 I.2.1.1.2.1 hm hw, Option.bind_some]
theorem tea_ (I : IL t q L s) {a w : Nat} (ha : a < t) (hw : w < 9) : f5n_team 3000 S G L U V B X (nI a) (nI w) = some (ofT s t a w, CS S L) := by
  obtain ⟨e, T⟩ := cs_ (S := S) I
  unfold f5n_team
  rw [hasTeamL_ok I.1.1.2.1.1 I.t8 ha, Option.bind_some, if_neg (show ¬ nI 1 = 0 by decide), if_neg (nI_neg (by omega)), if_pos (by rw [nI_lt' (by omega) (by omega)]; omega), e, Option.bind_some, propertyC_ T ha hw (by omega), Option.bind_some]
theorem tab_ (I : IL t q L s) {a : Nat} (ha : a < 2147483648) : f5n_table 3000 S G L U V B X (nI a) = some (oN (TA s t a), CS S L) := by
  obtain ⟨e, T⟩ := cs_ (S := S) I
  unfold f5n_table
  rw [if_pos (Int32.not_lt.mp (nI_neg ha)), e, Option.bind_some, teamAtC_ T ha (by omega), Option.bind_some]
theorem vsOk {x : Nat} (hx : x < 12) : f5_isVenueOrSetter 3000 (nI x) = some (nI 1) := by
  unfold f5_isVenueOrSetter
  rw [if_neg (nI_neg (by omega)), if_neg (by rw [nI_le' (by omega) (by omega)]; omega)]
theorem bus_ (I : IL t q L s) {r x : Nat} (hr : r < t - 1 + t % 2) (hx : x < 12) : f5n_busy 3000 S G L U V B X (nI r) (nI x) = some (oN (bzR s t r x)) := by
  have h8 := I.t8
  unfold f5n_busy
  rw [if_neg (nI_neg (by omega)), I.1.1.2.1.2.1, if_pos (by rw [nI_lt' (by omega) (by omega)]; exact hr), vsOk hx, Option.bind_some, if_neg (show ¬ nI 1 = 0 by decide)]
  by_cases c : 6 ≤ x
  · rw [if_pos (by rw [nI_le' (by omega) (by omega)]; exact c), pk_sub c, busyS_ I.1.1 I.2.1.2.2.1 (by omega) (by omega) (by omega), Option.bind_some, show x - 6 + 6 = x by omega]
  · rw [if_neg (by rw [nI_le' (by omega) (by omega)]; exact c), busyV_ I.1.1 I.2.1.2.2.1 (by omega) (by omega) (by omega), Option.bind_some]
theorem set_ (I : IL t q L s) {k : Nat} (hk : k < 4) : f5n_setting 3000 S G L U V B X (nI k) = some (s k) := by
  unfold f5n_setting
  rw [if_neg (nI_neg (by omega)), if_pos (by rw [nI_lt' (by omega) (by omega)]; omega), ald_nI hk (by omega), Option.bind_some, I.1.1.2.2.1.1 k hk]
theorem mee_ (I : IL t q L s) {a b : Nat} (ha : a < t) (hb : b < t) (h : a ≠ b) : f5n_meeting 3000 S G L U V B X (nI a) (nI b) = some (oN (taR (mtP t a b) (mmT t))) := by
  have h8 := I.t8
  unfold f5n_meeting
  rw [hasTeamL_ok I.1.1.2.1.1 I.t8 ha, Option.bind_some, if_neg (show ¬ nI 1 = 0 by decide), hasTeamL_ok I.1.1.2.1.1 I.t8 hb, Option.bind_some, if_neg (show ¬ nI 1 = 0 by decide), if_neg (fun e => h ((nI_inj (by omega) (by omega)).mp e)), matchOfBoth_ I.1.1 ha hb h (by omega), Option.bind_some]
theorem bes_ (I : IL t q L s) {a : Nat} (ha : a < t) : f5n_bestPlace 3000 S G L U V B X (nI a) = some (nI (PL (wnR t a s (mmT t)) t a), bpR S G L U V B X a) := by
  obtain ⟨U', V', e⟩ := placeByWinningAll_ (S := S) (G := G) (U := U) (V := V) (B := B) (X := X) I.1 I.2.1.1 (fun _ _ => rfl) ha (show 28 < 3000 by omega)
  unfold f5n_bestPlace bpR
  rw [hasTeamL_ok I.1.1.2.1.1 I.t8 ha, Option.bind_some, if_neg (show ¬ nI 1 = 0 by decide), e, Option.bind_some]
  rfl
theorem sur_ (I : IL t q L s) {a : Nat} (ha : a < t) : f5n_isSure 3000 S G L U V B X (nI a) = some (nI (bI (alB (suP s t a) t)), CS S L) := by
  obtain ⟨e, T⟩ := cs_ (S := S) I
  unfold f5n_isSure
  rw [hasTeamL_ok I.1.1.2.1.1 I.t8 ha, Option.bind_some, if_neg (show ¬ nI 1 = 0 by decide), e, Option.bind_some, ald_nI (by omega) (by omega), Option.bind_some, I.1.1.2.2.1.1 0 (by omega), sureC_ T ha (by omega), Option.bind_some]
  cases alB (suP s t a) t
  · rw [if_pos (show nI (bI false) = 0 from rfl)]; rfl
  · rw [if_neg (show ¬ nI (bI true) = 0 by decide)]; rfl
theorem ifm_ (I : IL t q L s) {k : Nat} (hk : k < 12) : ∃ G' V', f5n_ifMissing 3000 S G L U V B X (nI k) = some (nI (WO t q k s).1, G', V') := by
  obtain ⟨G', V', e⟩ := assignedWithout_ (S := S) (G := G) (U := U) (V := V) (B := B) (X := X) I.1 I.2.1.2.1 (fun _ _ => rfl) hk (show 28 < 3000 by omega)
  unfold f5n_ifMissing
  rw [vsOk hk, Option.bind_some, if_neg (show ¬ nI 1 = 0 by decide), e, Option.bind_some]
  exact ⟨_, _, rfl⟩
end LK
/-- as many at most as are open -/
theorem wo_le {t q k : Nat} {s : Nat → Int32} (V : VS (mmT t) s) (hk : k < 12) : (WO t q k s).1 + cn (rsP s) (mmT t) ≤ mmT t := by
  have h := stg_n (q := q) (V.mask (j := 6 + k) (v := nI 127) (by omega))
  have e : cn (rsP (upd s (6 + k) (nI 127))) (mmT t) = cn (rsP s) (mmT t) := cn_congr fun m _ => by
    show decide (¬ upd s (6 + k) (nI 127) (18 + 9 * m + 6) = 0) = decide (¬ s (18 + 9 * m + 6) = 0)
    rw [upd_n _ _ (by omega)]
  have h2 := cn_le (vnP (stgR t q (upd s (6 + k) (nI 127))).2) (mmT t)
  unfold WO
  omega
