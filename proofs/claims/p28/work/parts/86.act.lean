/-! PURE: what the law does -/
theorem and_nI (x : Int32) {k : Nat} (hk : k < 2147483648) : ∃ y, y ≤ k ∧ x &&& nI k = nI y := by
  refine ⟨x.toBitVec.toNat &&& k, Nat.and_le_right, ?_⟩
  have hle : x.toBitVec.toNat &&& k ≤ k := Nat.and_le_right
  refine Int32.toBitVec_inj.mp ?_
  rw [Int32.toBitVec_and]
  refine BitVec.eq_of_toNat_eq ?_
  rw [BitVec.toNat_and]
  show _ &&& (BitVec.ofNat 32 k).toNat = (BitVec.ofNat 32 (x.toBitVec.toNat &&& k)).toNat
  rw [BitVec.toNat_ofNat, BitVec.toNat_ofNat, Nat.mod_eq_of_lt (show k < 2 ^ 32 by omega), Nat.mod_eq_of_lt (show x.toBitVec.toNat &&& k < 2 ^ 32 by omega)]
theorem and_nI2 (x : Int32) {k : Nat} (hk : k < 2147483648) : ∃ y, y ≤ k ∧ nI k &&& x = nI y := by
  obtain ⟨y, h1, h2⟩ := and_nI x hk
  exact ⟨y, h1, by rw [Int32.and_comm]; exact h2⟩
def lowN (x : Int32) (d : Nat) : Nat := (x &&& nI 2147483647).toInt.toNat % d
theorem lw_lt {x : Int32} {d : Nat} (h : 0 < d) : lowN x d < d := Nat.mod_lt _ h
theorem low_ {n : Nat} (x : Int32) {d : Nat} (h : 0 < d) (hd : d < 2147483648) : fL_low n x (nI d) = some (nI (lowN x d)) := by
  obtain ⟨y, h1, h2⟩ := and_nI x (k := 2147483647) (by omega)
  unfold fL_low lowN
  rw [nz_nI h hd, Option.bind_some, show (2147483647 : Int32) = nI 2147483647 from rfl, h2, nI_mod (by omega) h hd, ti_nI (by omega)]
  rfl
def cV (len : Nat) (xs : Nat → Int32) (k : Nat) : Int32 := (fL_cell len xs (nI k)).getD 0
theorem cell_ {len : Nat} {xs : Nat → Int32} {k : Nat} (hk : k < 2147483648) (hlen : len < 2147483648) : fL_cell len xs (nI k) = some (cV len xs k) := by
  unfold cV
  have h : ∃ v, fL_cell len xs (nI k) = some v := by
    unfold fL_cell
    by_cases c : Int32.ofNat len ≤ nI k
    · rw [if_pos c]; exact ⟨_, rfl⟩
    · rw [if_neg c]
      have c2 : ¬ len ≤ k := fun e => c ((nI_le' hlen hk).mpr e)
      rw [if_pos (ck_nI (by omega) (by omega))]
      exact ⟨_, rfl⟩
  obtain ⟨v, e⟩ := h
  rw [e]
  rfl
/-- what an act leaves -/
def AP (t : Nat) (s : Nat → Int32) (L : OB) (X : HS) (kd m : Nat) (told : Int32) (L' : OB) (X' : HS) : Prop :=
  PX X' ∧ ∃ t' q' s', IL t' q' L' s' ∧ (told < 0 → L' = L ∧ X' = X) ∧
    (1 ≤ kd → kd ≤ 3 → t' = t ∧ (∃ n, told = nI n ∧ n + cn (rsP s) (mmT t) = cn (vnP s') (mmT t)) ∧ cn (rsP s') (mmT t) = cn (rsP s) (mmT t) ∧ sm (fun τ => ofT s' t τ 0) t = sm (fun τ => ofT s t τ 0) t) ∧
    (4 ≤ kd → kd ≤ 10 → ((0 : Int32) ≤ told ↔ ¬ s (18 + 9 * m + 3) = -1)) ∧
    (kd = 11 → t' = t ∧ ∃ b : Bool, told = nI (bI b) ∧ cn (rsP s') (mmT t) + bI b = cn (rsP s) (mmT t))
section AC
variable {t q j kd m : Nat} {S G L U V B : OB} {X : HS} {s : Nat → Int32}
theorem AP.any {L' : OB} {X' : HS} {told : Int32} (hX : PX X') (hL : LX L') (h : told < 0 → L' = L ∧ X' = X) (hk : kd = 0 ∨ 12 ≤ kd) : AP t s L X kd m told L' X' := by
  obtain ⟨t', q', s', I⟩ := hL
  exact ⟨hX, t', q', s', I, h, fun h1 h2 => by omega, fun h1 h2 => by omega, fun h1 => by omega⟩
theorem nng {k : Nat} (hk : k < 2147483648) {p : Prop} : nI k < 0 → p := fun h => absurd h (nI_neg hk)
theorem act_begin (I : IL t q L s) (P : PX X) {r : Nat} (hr : r < 6) : ∃ told L' X', f5n_begin 3000 S G L U V B X (nI 3 + nI r) = some (told, L', X') ∧ AP t s L X 0 m told L' X' := by
  obtain ⟨X', eX, PX'⟩ := keepX ⟨t, q, s, I⟩ P
  obtain ⟨L', e1, C⟩ := restart_ (t := 3 + r) (L := L) (by omega) (by omega) (show 28 < 3000 by omega)
  obtain ⟨u, -, Bb⟩ := begins_ (t := 3 + r) (M := gsa L 0 s) (by omega) (by omega) (show 270 < 3000 by omega)
  rw [gsa_s] at Bb
  obtain ⟨t2, q2, R2, G2⟩ := lg_begin (by omega) (by omega) I.2.1.1.1 I.1.1.1.2.1.1 I.1.1.1.2.1.2.1 I.1.1.1.2.1.2.2 I.1.1.2.2.1.1 Bb C
  have h8 := R2.1.1.1.2.2.2.1
  have et : t2 = 3 + r := (nI_inj (by omega) (by omega)).mp (R2.1.1.1.1.symm.trans Bb.2.1.1)
  have hm := tb_mm (t := 3 + r) (by omega) (by omega)
  unfold f5n_begin
  rw [nI_add, if_neg (by rw [nI_lt' (by omega) (by omega)]; omega), if_pos (by rw [nI_le' (by omega) (by omega)]; omega), eX, Option.bind_some, e1, Option.bind_some, C.1.2.2]
  refine ⟨_, _, _, rfl, AP.any PX' ⟨t2, q2, u, R2, G2, ?_, ?_⟩ (nng (by omega)) (Or.inl rfl)⟩
  · rw [et]
    exact fun k hk => Or.inl (Bb.2.2.2.1 k hk).2
  · exact fun k hk => ⟨0, by omega, Bb.2.2.1 k hk⟩
theorem act_stage (I : IL t q L s) (P : PX X) (h1 : 1 ≤ kd) (h3 : kd ≤ 3) : ∃ told G' L' X', f5_stage 3000 S G L U V B X = some (told, G', L', X') ∧ AP t s L X kd m told L' X' := by
  obtain ⟨X', eX, PX'⟩ := keepX ⟨t, q, s, I⟩ P
  obtain ⟨G', L', e1, R'⟩ := assign_ (G := G) (n := 3000) I.1 I.2.1.2.1 (by omega)
  have hn := stg_n (q := q) I.2.1.2.1
  have hc := cn_le (vnP (stgR t q s).2) (mmT t)
  have hmm := I.mm
  unfold f5_stage
  rw [eX, Option.bind_some, e1, Option.bind_some]
  exact ⟨_, _, _, _, rfl, PX', t, q, _, ⟨R', GR.stg I.1.1.1 I.2.1, I.2.2.1.stg, I.2.2.2.stg⟩, nng (by omega), fun _ _ => ⟨rfl, ⟨_, rfl, hn⟩, stg_rs, stg_pt⟩, fun h _ => by omega, fun h => by omega⟩
theorem IL.gv {ρ x y : Nat} {L' : OB} (I : IL t q L s) (R' : RLr t q L' (gv s m (nI ρ) (nI x) (nI y))) (hm : m < mmT t) (hρ : ρ < 4) (hx : x < 100) (hy : y < 100) (hv : ρ ≠ 0 → ¬ s (18 + 9 * m + 3) = -1) : IL t q L' (gv s m (nI ρ) (nI x) (nI y)) :=
  ⟨R', I.2.1.gv hρ hx hy (fun h => (I.2.1.2.2.2 m hm).resolve_left (hv h)), I.2.2.1.gv, I.2.2.2.gv⟩
theorem pt_no (I : IL t q L s) (τ : Int32) : ¬ ptR s (mmT t) τ = -333 := by
  obtain ⟨x, y, hx, hy, e⟩ := pt_b I.2.1.1.1 I.2.1.1.2.2 I.mm τ
  rw [e]
  intro h
  have h := congrArg Int32.toInt h
  have t1 := ti_nI (k := x) (by omega)
  have t2 := ti_nI (k := y) (by omega)
  rw [ti_sub (by omega) (by omega) (by omega) (by omega), t1, t2, show (-333 : Int32).toInt = -333 from rfl] at h
  omega
theorem isScore_j {n k : Nat} (hk : k < 100) : f5_isScore n (nI k) = some (nI 1) := isScore_ok (nI_neg (by omega)) (by rw [nI_lt' (by omega) (by omega)]; omega)
theorem act_score (I : IL t q L s) (P : PX X) {len : Nat} {xs : Nat → Int32} {x2 : Int32} (hm : m < mmT t) {y z : Nat} (hy : y < 100) (hz : z < 100) (h4 : 4 ≤ kd) (h10 : kd ≤ 10) : ∃ told S' L' X', fL_act_b188 3000 len xs U V B x2 (nI m) (nI y) (nI z) S G L X = some (told, S', G, L', X') ∧ AP t s L X kd m told L' X' := by
  have hmm := I.mm
  unfold fL_act_b188 f5_score
  rw [hasMatch_ I.1.1.2.1.2.2 hmm hm, Option.bind_some, if_neg (show ¬ nI 1 = 0 by decide), isScore_j hy, Option.bind_some, if_neg (show ¬ nI 1 = 0 by decide), isScore_j hz, Option.bind_some, if_neg (show ¬ nI 1 = 0 by decide), canHave_ I.1.1 hm, Option.bind_some]
  by_cases cv : s (18 + 9 * m + 3) = -1
  · rw [if_pos cv, if_pos (show nI 0 = 0 from rfl), Option.bind_some]
    dsimp only
    rw [show wi (-333) (.inl "java/lang/IllegalStateException") = some (-333) by decide, Option.bind_some, if_pos rfl]
    exact ⟨_, _, _, _, rfl, P, t, q, s, I, fun _ => ⟨rfl, rfl⟩, fun _ _ => by omega, fun _ _ => ⟨fun h => absurd h (by decide), fun h => absurd cv h⟩, fun _ => by omega⟩
  · rw [if_neg cv, if_neg (show ¬ nI 1 = 0 by decide)]
    obtain ⟨X', eX, PX'⟩ := keepX ⟨t, q, s, I⟩ P
    obtain ⟨L', e3, R'⟩ := give_ (n := 3000) (x := nI 1) (y := nI y) (z := nI z) I.1 hm
    have I' := I.gv R' hm (by omega) hy hz (fun _ => cv)
    obtain ⟨-, b1, b2, -⟩ := tb_m I.t3 I.t8 hm
    obtain ⟨-, r1, r2⟩ := R'.1.1.2.2 m hm
    obtain ⟨⟨-, c1, c2⟩, -⟩ := R'.1.2.2.2 m hm
    obtain ⟨S', e4⟩ := pointsOf_ (S := S) (G := G) (L := L') (U := U) (V := V) (B := B) (X := X') R' I'.2.1.1 b1 (show 28 < 3000 by omega)
    rw [eX, Option.bind_some, e3, Option.bind_some, ald_nI (by omega) (by omega), Option.bind_some, c1, r1, e4, Option.bind_some, Option.bind_some]
    dsimp only
    rw [show ∀ v, wi (-333) (.inr v) = some v from fun _ => rfl, Option.bind_some, if_neg (pt_no I' _)]
    exact ⟨_, _, _, _, rfl, PX', t, q, _, I', nng (by omega), fun _ _ => by omega, fun _ _ => ⟨fun _ => cv, fun _ => by decide⟩, fun _ => by omega⟩
theorem act_walk (I : IL t q L s) (P : PX X) {len : Nat} {xs : Nat → Int32} {x2 : Int32} (hm : m < mmT t) {y : Nat} (h4 : 4 ≤ kd) (h10 : kd ≤ 10) : ∃ told S' L' X', fL_act_b221 3000 len xs U V B x2 (nI m) (nI y) S G L X = some (told, S', G, L', X') ∧ AP t s L X kd m told L' X' := by
  have hmm := I.mm
  unfold fL_act_b221 f5_walkover
  rw [hasMatch_ I.1.1.2.1.2.2 hmm hm, Option.bind_some, if_neg (show ¬ nI 1 = 0 by decide), canHave_ I.1.1 hm, Option.bind_some]
  by_cases cv : s (18 + 9 * m + 3) = -1
  · rw [if_pos cv, if_pos (show nI 0 = 0 from rfl), Option.bind_some]
    dsimp only
    rw [show wi (-333) (.inl "java/lang/IllegalStateException") = some (-333) by decide, Option.bind_some, if_pos rfl]
    exact ⟨_, _, _, _, rfl, P, t, q, s, I, fun _ => ⟨rfl, rfl⟩, fun _ _ => by omega, fun _ _ => ⟨fun h => absurd h (by decide), fun h => absurd cv h⟩, fun _ => by omega⟩
  · rw [if_neg cv, if_neg (show ¬ nI 1 = 0 by decide)]
    obtain ⟨X', eX, PX'⟩ := keepX ⟨t, q, s, I⟩ P
    obtain ⟨-, b1, b2, -⟩ := tb_m I.t3 I.t8 hm
    rw [eX, Option.bind_some]
    unfold f5_walkover_b67
    by_cases cy : nI y = 0
    · simp only [if_pos cy]
      obtain ⟨L', e3, R'⟩ := give_ (n := 3000) (x := nI 2) (y := nI 0) (z := nI 0) I.1 hm
      have I' := I.gv R' hm (by omega) (by omega) (by omega) (fun _ => cv)
      obtain ⟨-, r1, r2⟩ := R'.1.1.2.2 m hm
      obtain ⟨⟨-, c1, c2⟩, -⟩ := R'.1.2.2.2 m hm
      obtain ⟨S', e4⟩ := pointsOf_ (S := S) (G := G) (L := L') (U := U) (V := V) (B := B) (X := X') R' I'.2.1.1 b1 (show 28 < 3000 by omega)
      rw [e3, Option.bind_some, ald_nI (by omega) (by omega), Option.bind_some, c1, r1, e4, Option.bind_some, Option.bind_some]
      dsimp only
      rw [show ∀ v, wi (-333) (.inr v) = some v from fun _ => rfl, Option.bind_some, if_neg (pt_no I' _)]
      exact ⟨_, _, _, _, rfl, PX', t, q, _, I', nng (by omega), fun _ _ => by omega, fun _ _ => ⟨fun _ => cv, fun _ => by decide⟩, fun _ => by omega⟩
    · simp only [if_neg cy]
      obtain ⟨L', e3, R'⟩ := give_ (n := 3000) (x := nI 3) (y := nI 0) (z := nI 0) I.1 hm
      have I' := I.gv R' hm (by omega) (by omega) (by omega) (fun _ => cv)
      obtain ⟨-, r1, r2⟩ := R'.1.1.2.2 m hm
      obtain ⟨⟨-, c1, c2⟩, -⟩ := R'.1.2.2.2 m hm
      obtain ⟨S', e4⟩ := pointsOf_ (S := S) (G := G) (L := L') (U := U) (V := V) (B := B) (X := X') R' I'.2.1.1 b2 (show 28 < 3000 by omega)
      rw [e3, Option.bind_some, ald_nI (by omega) (by omega), Option.bind_some, c2, r2, e4, Option.bind_some, Option.bind_some]
      dsimp only
      rw [show ∀ v, wi (-333) (.inr v) = some v from fun _ => rfl, Option.bind_some, if_neg (pt_no I' _)]
      exact ⟨_, _, _, _, rfl, PX', t, q, _, I', nng (by omega), fun _ _ => by omega, fun _ _ => ⟨fun _ => cv, fun _ => by decide⟩, fun _ => by omega⟩
theorem act_annul (I : IL t q L s) (P : PX X) (hm : m < mmT t) : ∃ told L' X', f5n_annul 3000 S G L U V B X (nI m) = some (told, L', X') ∧ AP t s L X 11 m told L' X' := by
  have hmm := I.mm
  obtain ⟨X', eX, PX'⟩ := keepX ⟨t, q, s, I⟩ P
  obtain ⟨L', e3, R'⟩ := give_ (n := 3000) (x := nI 0) (y := nI 0) (z := nI 0) I.1 hm
  have I' := I.gv R' hm (by omega) (by omega) (by omega) (fun e => absurd rfl e)
  obtain ⟨-, -, c6, -⟩ := I.1.1.2.2.2 m hm
  have hc : cn (rsP s) (mmT t) = cn (rsP (gv s m (nI 0) (nI 0) (nI 0))) (mmT t) + bI (rsP s m) := cn_set (i := m) (fun k hk => by
    show decide (¬ s (18 + 9 * k + 6) = 0) = decide (¬ gv s m (nI 0) (nI 0) (nI 0) (18 + 9 * k + 6) = 0)
    rw [gv_o (by omega) (by omega) (by omega)]) (by
    show decide (¬ gv s m (nI 0) (nI 0) (nI 0) (18 + 9 * m + 6) = 0) = false
    rw [gv_6]
    rfl) hm
  have fin : ∀ told : Int32, told = nI (bI (rsP s m)) → AP t s L X 11 m told L' X' := fun told e => ⟨PX', t, q, _, I', fun h => by
    rw [e] at h
    exact nng (by unfold bI; split <;> omega) h, fun _ _ => by omega, fun _ _ => by omega, fun _ => ⟨rfl, rsP s m, e, hc.symm⟩⟩
  unfold f5n_annul
  rw [hasMatch_ I.1.1.2.1.2.2 hmm hm, Option.bind_some, if_neg (show ¬ nI 1 = 0 by decide), eX, Option.bind_some, ald_nI (by omega) (by omega), Option.bind_some, c6]
  unfold f5n_annul_b49
  rw [e3, Option.bind_some, Option.bind_some]
  by_cases c0 : s (18 + 9 * m + 6) = 0
  · rw [if_pos c0, if_pos (show nI 0 = 0 from rfl)]
    exact ⟨_, _, _, rfl, fin _ (by unfold rsP; rw [decide_eq_false (fun h => h c0)]; rfl)⟩
  · rw [if_neg c0, if_neg (show ¬ nI 1 = 0 by decide)]
    exact ⟨_, _, _, rfl, fin _ (by unfold rsP; rw [decide_eq_true c0]; rfl)⟩
theorem isMask_j {n k : Nat} (hk : k ≤ 127) : f5_isMask n (nI k) = some (nI 1) := in_ok (n := n) (nI_neg (by omega)) (by rw [nI_lt' (by omega) (by omega)]; omega)
theorem act_close (I : IL t q L s) (P : PX X) {v y : Nat} (hv : v < 6) (hy : y ≤ 127) (hk : 12 ≤ kd) : ∃ told L' X', f5n_close 3000 S G L U V B X (nI v) (nI y) = some (told, L', X') ∧ AP t s L X kd m told L' X' := by
  obtain ⟨X', eX, PX'⟩ := keepX ⟨t, q, s, I⟩ P
  obtain ⟨z, hz, e⟩ := I.2.2.2 v (by omega)
  have e4 : L.2 4 v = nI z := (I.1.1.2.2.1.2.1 v hv).trans e
  unfold f5n_close
  rw [if_neg (nI_neg (by omega)), if_pos (by rw [nI_lt' (by omega) (by omega)]; omega), isMask_j hy, Option.bind_some, if_neg (show ¬ nI 1 = 0 by decide), eX, Option.bind_some, ald_nI hv (by omega), Option.bind_some, oast_nI hv (by omega), Option.bind_some, e4]
  exact ⟨_, _, _, rfl, AP.any PX' ⟨t, q, _, I.1.mask4 hv, I.2.1.mask (by omega) (by omega), I.2.2.1.low (by omega), I.2.2.2.mask hy⟩ (nng (by omega)) (Or.inr hk)⟩
theorem act_away (I : IL t q L s) (P : PX X) {v y : Nat} (hv : v < 6) (hy : y ≤ 127) (hk : 12 ≤ kd) : ∃ told L' X', f5n_away 3000 S G L U V B X (nI v) (nI y) = some (told, L', X') ∧ AP t s L X kd m told L' X' := by
  obtain ⟨X', eX, PX'⟩ := keepX ⟨t, q, s, I⟩ P
  obtain ⟨z, hz, e⟩ := I.2.2.2 (6 + v) (by omega)
  rw [show 6 + (6 + v) = 12 + v by omega] at e
  have e5 : L.2 5 v = nI z := (I.1.1.2.2.1.2.2 v hv).trans e
  have M' := I.2.2.2.mask (k := 6 + v) hy
  rw [show 6 + (6 + v) = 12 + v by omega] at M'
  unfold f5n_away
  rw [if_neg (nI_neg (by omega)), if_pos (by rw [nI_lt' (by omega) (by omega)]; omega), isMask_j hy, Option.bind_some, if_neg (show ¬ nI 1 = 0 by decide), eX, Option.bind_some, ald_nI hv (by omega), Option.bind_some, oast_nI hv (by omega), Option.bind_some, e5]
  exact ⟨_, _, _, rfl, AP.any PX' ⟨t, q, _, I.1.mask5 hv, I.2.1.mask (by omega) (by omega), I.2.2.1.low (by omega), M'⟩ (nng (by omega)) (Or.inr hk)⟩
theorem s_nng (I : IL t q L s) {k : Nat} (hk : k < 4) : ∃ y, y ≤ 50 ∧ s k = nI y := by
  obtain ⟨a, b, c, ⟨ha, -, a5⟩, ⟨hb, b3⟩, ⟨hc, -, c5⟩⟩ := I.2.1.1.1
  obtain ⟨hq, q1, q2⟩ := I.1.1.1.2.1
  rcases (show k = 0 ∨ k = 1 ∨ k = 2 ∨ k = 3 by omega) with rfl | rfl | rfl | rfl
  · exact ⟨a, by omega, ha⟩
  · exact ⟨b, by omega, hb⟩
  · exact ⟨c, by omega, hc⟩
  · exact ⟨q, by omega, hq⟩
theorem act_set (I : IL t q L s) (P : PX X) {k v : Nat} (hk4 : k < 4) (v1 : loS k ≤ v) (v2 : v ≤ hiS k) (hk : 12 ≤ kd) : ∃ z told, f5_set 3000 S G L U V B X (nI k) (nI v) = some z ∧ vi z.1 = some told ∧ AP t s L X kd m told z.2.1 z.2.2 := by
  obtain ⟨X', eX, PX'⟩ := keepX ⟨t, q, s, I⟩ P
  have hlo : loS k ≤ 1 := by unfold loS; split <;> omega
  have hhi : hiS k ≤ 50 := by unfold hiS; split <;> (try split) <;> (try split) <;> omega
  obtain ⟨y, hy, e⟩ := s_nng I hk4
  unfold f5_set
  rw [if_neg (nI_neg (by omega)), if_pos (by rw [nI_lt' (by omega) (by omega)]; omega), ald_nI hk4 (by omega), Option.bind_some, sLV_k k hk4, if_neg (by rw [nI_lt' (by omega) (by omega)]; omega), ald_nI hk4 (by omega), Option.bind_some, sGV_k k hk4, if_pos (by rw [nI_le' (by omega) (by omega)]; omega), eX, Option.bind_some, ald_nI hk4 (by omega), Option.bind_some, oast_nI hk4 (by omega), Option.bind_some, I.1.1.2.2.1.1 k hk4, e]
  refine ⟨_, _, rfl, rfl, AP.any PX' ?_ (nng (by omega)) (Or.inr hk)⟩
  by_cases e3 : k = 3
  · subst e3
    exact ⟨t, v, _, set_r I.1 hk4 ⟨upd_s _ _ _, v1, v2⟩, set_g I.2.1 hk4 v1 v2, I.2.2.1.low (by omega), I.2.2.2.set (by omega)⟩
  · exact ⟨t, q, _, set_r I.1 hk4 ⟨by rw [upd_n _ _ (by omega)]; exact I.1.1.1.2.1.1, I.1.1.1.2.1.2⟩, set_g I.2.1 hk4 v1 v2, I.2.2.1.low (by omega), I.2.2.2.set (by omega)⟩
theorem act_undo (I : IL t q L s) (P : PX X) (hk : 12 ≤ kd) : ∃ z told, f5_undo 3000 S G L U V B X = some z ∧ wi (-3) z.1 = some told ∧ AP t s L X kd m told z.2.1 z.2.2 := by
  have P0 := P
  obtain ⟨j, hj, h6, hP⟩ := P
  unfold f5_undo
  by_cases c : j = 0
  · subst c
    rw [hj, if_pos (show nI 0 = 0 from rfl)]
    exact ⟨_, _, rfl, show wi (-3) (.inl "java/lang/IllegalStateException") = some (-3) by decide, AP.any P0 ⟨t, q, s, I⟩ (fun _ => ⟨rfl, rfl⟩) (Or.inr hk)⟩
  · obtain ⟨j, rfl⟩ : ∃ i, j = i + 1 := ⟨j - 1, by omega⟩
    obtain ⟨L', e1, hL⟩ := undoX (L := L) hj h6 hP
    rw [if_neg (fun e => by rw [hj, nI_z (by omega)] at e; omega), e1, Option.bind_some]
    exact ⟨_, _, rfl, rfl, AP.any ⟨j, rfl, by omega, fun i hi => hP i (by omega)⟩ hL (nng (by omega)) (Or.inr hk)⟩
end AC
