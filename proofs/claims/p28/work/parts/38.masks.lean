/-! PURE: masks, and what would be without one -/
theorem RLr.mask4 {t q k : Nat} {L : OB} {s : Nat → Int32} {v : Int32} (R : RLr t q L s) (hk : k < 6) : RLr t q (gsa L 4 (upd (L.2 4) k v)) (upd s (6 + k) v) := by
  obtain ⟨⟨⟨⟨h4, h5, h3, h8, hmm⟩, ⟨hq, hq2⟩, hf⟩, hL, ⟨g3, g4, g5⟩, hr⟩, Rr⟩ := R
  refine ⟨⟨⟨⟨by rw [upd_n _ _ (by omega)]; exact h4, by rw [upd_n _ _ (by omega)]; exact h5, h3, h8, hmm⟩, ⟨by rw [upd_n _ _ (by omega)]; exact hq, hq2⟩, fun m hm => ?_⟩, hL, ⟨fun j hj => by rw [upd_n _ _ (by omega)]; exact g3 j hj, fun j hj => ?_, fun j hj => by rw [upd_n _ _ (by omega)]; exact g5 j hj⟩, fun m hm => ?_⟩, fun m hm => by rw [upd_n _ _ (by omega)]; exact Rr m hm⟩
  · rw [upd_n (j := 18 + 9 * m + 0) _ _ (by omega), upd_n (j := 18 + 9 * m + 1) _ _ (by omega), upd_n (j := 18 + 9 * m + 2) _ _ (by omega)]; exact hf m hm
  · show upd (L.2 4) k v j = _
    rw [upd_e, upd_e]
    by_cases e : j = k
    · rw [if_pos e, if_pos (by omega)]
    · rw [if_neg e, if_neg (by omega)]; exact g4 j hj
  · rw [upd_n (j := 18 + 9 * m + 0) _ _ (by omega), upd_n (j := 18 + 9 * m + 1) _ _ (by omega), upd_n (j := 18 + 9 * m + 2) _ _ (by omega), upd_n (j := 18 + 9 * m + 3) _ _ (by omega), upd_n (j := 18 + 9 * m + 4) _ _ (by omega), upd_n (j := 18 + 9 * m + 6) _ _ (by omega), upd_n (j := 18 + 9 * m + 7) _ _ (by omega), upd_n (j := 18 + 9 * m + 8) _ _ (by omega)]; exact hr m hm
theorem RLr.mask5 {t q k : Nat} {L : OB} {s : Nat → Int32} {v : Int32} (R : RLr t q L s) (hk : k < 6) : RLr t q (gsa L 5 (upd (L.2 5) k v)) (upd s (12 + k) v) := by
  obtain ⟨⟨⟨⟨h4, h5, h3, h8, hmm⟩, ⟨hq, hq2⟩, hf⟩, hL, ⟨g3, g4, g5⟩, hr⟩, Rr⟩ := R
  refine ⟨⟨⟨⟨by rw [upd_n _ _ (by omega)]; exact h4, by rw [upd_n _ _ (by omega)]; exact h5, h3, h8, hmm⟩, ⟨by rw [upd_n _ _ (by omega)]; exact hq, hq2⟩, fun m hm => ?_⟩, hL, ⟨fun j hj => by rw [upd_n _ _ (by omega)]; exact g3 j hj, fun j hj => by rw [upd_n _ _ (by omega)]; exact g4 j hj, fun j hj => ?_⟩, fun m hm => ?_⟩, fun m hm => by rw [upd_n _ _ (by omega)]; exact Rr m hm⟩
  · rw [upd_n (j := 18 + 9 * m + 0) _ _ (by omega), upd_n (j := 18 + 9 * m + 1) _ _ (by omega), upd_n (j := 18 + 9 * m + 2) _ _ (by omega)]; exact hf m hm
  · show upd (L.2 5) k v j = _
    rw [upd_e, upd_e]
    by_cases e : j = k
    · rw [if_pos e, if_pos (by omega)]
    · rw [if_neg e, if_neg (by omega)]; exact g5 j hj
  · rw [upd_n (j := 18 + 9 * m + 0) _ _ (by omega), upd_n (j := 18 + 9 * m + 1) _ _ (by omega), upd_n (j := 18 + 9 * m + 2) _ _ (by omega), upd_n (j := 18 + 9 * m + 3) _ _ (by omega), upd_n (j := 18 + 9 * m + 4) _ _ (by omega), upd_n (j := 18 + 9 * m + 6) _ _ (by omega), upd_n (j := 18 + 9 * m + 7) _ _ (by omega), upd_n (j := 18 + 9 * m + 8) _ _ (by omega)]; exact hr m hm
theorem GT.mask {t j : Nat} {s : Nat → Int32} {v : Int32} (G : GT t s) (h6 : 3 ≤ j) (h18 : j < 18) : GT t (upd s j v) := by
  obtain ⟨⟨a, b, c, ha, hb, hc⟩, V, B⟩ := G
  refine ⟨⟨a, b, c, by rw [upd_n _ _ (by omega)]; exact ha, by rw [upd_n _ _ (by omega)]; exact hb, by rw [upd_n _ _ (by omega)]; exact hc⟩, fun k hk => ?_, fun k hk => ?_⟩
  · rw [upd_n _ _ (by omega)]; exact V k hk
  · rw [upd_n (j := 18 + 9 * k + 7) _ _ (by omega), upd_n (j := 18 + 9 * k + 8) _ _ (by omega)]; exact B k hk
theorem VS.mask {mm j : Nat} {s : Nat → Int32} {v : Int32} (V : VS mm s) (h18 : j < 18) : VS mm (upd s j v) := by
  intro k hk h0
  rw [upd_n _ _ (by omega)] at h0
  rw [upd_n (j := 18 + 9 * k + 3) _ _ (by omega), upd_n (j := 18 + 9 * k + 4) _ _ (by omega)]
  exact V k hk h0
theorem UNI.mask {t j : Nat} {s : Nat → Int32} {v : Int32} (U : UNI t s) (h18 : j < 18) : UNI t (upd s j v) := U.congr fun k hk => ⟨upd_n _ _ (by omega), upd_n _ _ (by omega), upd_n _ _ (by omega)⟩
theorem GR.mask {t j : Nat} {s : Nat → Int32} {v : Int32} (G : GR t s) (h6 : 3 ≤ j) (h18 : j < 18) : GR t (upd s j v) := ⟨G.1.mask h6 h18, G.2.1.mask h18, G.2.2.1.mask h18, G.2.2.2.congr fun k hk => ⟨upd_n _ _ (by omega), upd_n _ _ (by omega)⟩⟩
def WO (t q k : Nat) (u : Nat → Int32) : Nat × (Nat → Int32) := stgR t q (upd u (6 + k) (nI 127))
theorem VS.congr {mm : Nat} {s s' : Nat → Int32} (V : VS mm s) (hmm : mm ≤ 28) (E : EQR s s') : VS mm s' := by
  intro k hk h0
  rw [E (18 + 9 * k + 6) (by omega)] at h0
  rw [E (18 + 9 * k + 3) (by omega), E (18 + 9 * k + 4) (by omega)]
  exact V k hk h0
theorem assignedWithout_ {t q n k : Nat} {S G L U V B : OB} {X : HS} {s s' : Nat → Int32} (R : RLr t q L s) (v : VS (mmT t) s) (E : EQR s s') (hk : k < 12) (hn : 28 < n) : ∃ G' V', f5_assignedWithout n S G L U V B X (nI k) = some (nI (WO t q k s').1, G', V') := by
  have h3 := R.1.1.1.2.2.1
  have h8 := R.1.1.1.2.2.2.1
  have hmm := tb_mm h3 h8
  obtain ⟨V1, e1, C1⟩ := copyFrom_b_ n V L
  have R1 := (R.cpy C1).congr E
  have v1 := v.congr hmm E
  unfold f5_assignedWithout f5_assignedWithout_b35 WO
  rw [e1, Option.bind_some, if_neg (nI_neg (by omega))]
  by_cases c : k < 6
  · rw [if_neg (by rw [nI_le' (by omega) (by omega)]; omega), oast_nI c (by omega), Option.bind_some]
    obtain ⟨G', L', e2, -⟩ := assign_ (G := G) (n := n) (R1.mask4 (v := nI 127) c) (v1.mask (by omega)) hn
    exact ⟨G', L', by rw [e2, Option.bind_some]⟩
  · rw [if_pos (by rw [nI_le' (by omega) (by omega)]; omega), if_neg (by rw [nI_lt' (by omega) (by omega)]; omega), if_neg (by rw [nI_le' (by omega) (by omega)]; omega), pk_sub (by omega), oast_nI (by omega) (by omega), Option.bind_some]
    have R2 := R1.mask5 (v := nI 127) (k := k - 6) (by omega)
    rw [show 12 + (k - 6) = 6 + k by omega] at R2
    obtain ⟨G', L', e2, -⟩ := assign_ (G := G) (n := n) R2 (v1.mask (by omega)) hn
    exact ⟨G', L', by rw [e2, Option.bind_some]⟩
theorem without_ {t q n k : Nat} {L M : OB} {s : Nat → Int32} (hM : M.2 0 = s) (R : RLr t q L s) (hk : k < 12) (hn : 270 < n) : f6_without n M (nI k) = some (nI (WO t q k (cp1 M)).1, gsa M 1 (WO t q k (cp1 M)).2) := by
  have h3 := R.1.1.1.2.2.1
  have h8 := R.1.1.1.2.2.2.1
  have hmm := tb_mm h3 h8
  have E : EQR s (cp1 M) := by unfold cp1; rw [hM]; exact eqr_cpy _ _
  have R1 := R.congr E
  have F2 : FXR t q (upd (cp1 M) (6 + k) (nI 127)) := by
    by_cases c : k < 6
    · exact (R1.mask4 (v := nI 127) c).1.1
    · have R2 := R1.mask5 (v := nI 127) (k := k - 6) (by omega)
      rw [show 12 + (k - 6) = 6 + k by omega] at R2
      exact R2.1.1
  unfold f6_without WO
  rw [copies_ (by omega) (by omega) (by omega) (by omega) hn, Option.bind_some]
  show (oast (gsa M 1 (cp1 M)) 1 270 (nI 6 + nI k) (nI 127)).bind _ = _
  rw [nI_add, oast_nI (by omega) (by omega), Option.bind_some, gsa_gsa, gsa_s, gsa_s, stages_ F2 (by omega), Option.bind_some, gsa_gsa]
/-! PURE: a staging keeps the row good -/
theorem clr_k {s : Nat → Int32} {j : Nat} (h : ∀ m, s (18 + 9 * m + 6) = 0 → j ≠ 18 + 9 * m + 3 ∧ j ≠ 18 + 9 * m + 4 ∧ j ≠ 18 + 9 * m + 5) : ∀ i, clrR s i j = s j
  | 0 => rfl
  | i + 1 => by
    rw [clrR_s]
    unfold clr1
    by_cases c : clrR s i (18 + 9 * i + 6) = 0
    · rw [if_pos c]
      rw [clr_6] at c
      obtain ⟨h3, h4, h5⟩ := h i c
      rw [up3_o h3 h4 h5]
      exact clr_k h i
    · rw [if_neg c]; exact clr_k h i
theorem asg1_k {t q m j : Nat} {s : Nat → Int32} (h : s (18 + 9 * m + 6) = 0 → j ≠ 18 + 9 * m + 3 ∧ j ≠ 18 + 9 * m + 4 ∧ j ≠ 18 + 9 * m + 5) : (asg1 t q s m).2 j = s j := by
  unfold asg1
  by_cases c : s (18 + 9 * m + 6) = 0
  · obtain ⟨h3, h4, h5⟩ := h c
    rw [if_pos c]
    cases vnR t s m with
    | none => exact up3_o h3 h4 h5
    | some v =>
      cases stR t q s m with
      | none => exact up3_o h3 h4 h5
      | some k => exact up3_o h3 h4 h5
  · rw [if_neg c]
theorem asg_6 {t q : Nat} {s : Nat → Int32} (m : Nat) : ∀ i, (asgR t q s i).2 (18 + 9 * m + 6) = s (18 + 9 * m + 6)
  | 0 => rfl
  | i + 1 => by
    rw [asgR_s]
    exact (asg1_k (fun _ => by omega)).trans (asg_6 m i)
theorem asg_k {t q : Nat} {s : Nat → Int32} {j : Nat} (h : ∀ m, s (18 + 9 * m + 6) = 0 → j ≠ 18 + 9 * m + 3 ∧ j ≠ 18 + 9 * m + 4 ∧ j ≠ 18 + 9 * m + 5) : ∀ i, (asgR t q s i).2 j = s j
  | 0 => rfl
  | i + 1 => by
    rw [asgR_s]
    exact (asg1_k (fun c => h i (by rw [asg_6] at c; exact c))).trans (asg_k h i)
theorem stg_k {t q : Nat} {s : Nat → Int32} {j : Nat} (h : ∀ m, s (18 + 9 * m + 6) = 0 → j ≠ 18 + 9 * m + 3 ∧ j ≠ 18 + 9 * m + 4 ∧ j ≠ 18 + 9 * m + 5) : (stgR t q s).2 j = s j := by
  unfold stgR
  rw [asg_k (fun m c => h m (by rw [clr_6] at c; exact c)), clr_k h]
theorem uni_clr {t : Nat} {s : Nat → Int32} (U : UNI t s) : ∀ i, UNI t (clrR s i)
  | 0 => U
  | i + 1 => by
    have ih := uni_clr U i
    rw [clrR_s]
    unfold clr1
    split
    · intro w hw k hk r hr
      refine Nat.le_trans (cn_mono fun m hm hp => ?_) (ih w hw k hk r hr)
      by_cases e : m = i
      · subst e
        rw [hv_m1 hk (by rcases hw with rfl | rfl; exact up3_3 _ _ _ _ _; exact up3_4 _ _ _ _ _)] at hp
        cases hp
      · rw [hv_up3 e hw] at hp
        exact hp
    · exact ih
theorem uni_asg1 {t q i : Nat} {u : Nat → Int32} (F : FXR t q u) (U : UNI t u) (O : OPN (mmT t) u i) (hi : i < mmT t) : UNI t (asg1 t q u i).2 ∧ OPN (mmT t) (asg1 t q u i).2 (i + 1) := by
  have h3 := F.1.2.2.1
  have h8 := F.1.2.2.2.1
  have b7 := tb_r h3 h8 hi
  have hr0 := (F.2.2 i hi).1
  have hopn : ∀ v k y, OPN (mmT t) (up3 u i v k y) (i + 1) := fun v k y m hm him h0 => by
    rw [up3_o (by omega) (by omega) (by omega)] at h0
    rw [up3_o (j := 18 + 9 * m + 3) (by omega) (by omega) (by omega), up3_o (j := 18 + 9 * m + 4) (by omega) (by omega) (by omega)]
    exact O m hm (by omega) h0
  have hm1 : u (18 + 9 * i + 6) = 0 → ∀ y, UNI t (up3 u i (-1) (-1) y) := fun c y w hw k hk r hr => by
    obtain ⟨o3, o4⟩ := O i hi (Nat.le_refl _) c
    rw [cn_congr (q := hvP u w (nI k) (nI r)) (fun m hm => ?_)]
    · exact U w hw k hk r hr
    · by_cases e : m = i
      · subst e
        rcases hw with rfl | rfl
        · rw [hv_m1 hk o3, hv_m1 hk (up3_3 _ _ _ _ _)]
        · rw [hv_m1 hk o4, hv_m1 hk (up3_4 _ _ _ _ _)]
      · exact hv_up3 e hw
  unfold asg1
  by_cases c : u (18 + 9 * i + 6) = 0
  · rw [if_pos c]
    obtain ⟨o3, o4⟩ := O i hi (Nat.le_refl _) c
    cases hv : vnR t u i with
    | none => exact ⟨hm1 c _, hopn _ _ _⟩
    | some v =>
      cases hk : stR t q u i with
      | none => exact ⟨hm1 c _, hopn _ _ _⟩
      | some x =>
        refine ⟨?_, hopn _ _ _⟩
        obtain ⟨v6, vm⟩ := bst_lt hv
        obtain ⟨x6, xm⟩ := bst_lt hk
        unfold may6 at vm xm
        simp only [Bool.and_eq_true, decide_eq_true_eq] at vm xm
        intro w hw k hk r hr
        rw [cn_set (i := i) (fun m hm => hv_up3 hm hw) (by rcases hw with rfl | rfl; exact hv_m1 hk o3; exact hv_m1 hk o4) hi]
        have hu0 : (up3 u i (nI v) (nI x) (nI 0)) (18 + 9 * i + 0) = nI (rdT t i) := by rw [up3_o (by omega) (by omega) (by omega)]; exact hr0
        rw [hvP_r hr, hu0]
        have hold := U w hw k hk r hr
        by_cases e : rdT t i = r
        · rw [decide_eq_true (show nI (rdT t i) = nI r by rw [e]), Bool.and_true]
          show cn (hvP u w (nI k) (nI r)) (mmT t) + _ ≤ 1
          rcases hw with rfl | rfl
          · rw [up3_3]
            by_cases e2 : v = k
            · rw [← e2, ← e, vm.2, decide_eq_true rfl]
              exact Nat.le_refl 1
            · rw [decide_eq_false (fun h => e2 ((nI_inj (by omega) (by omega)).mp h))]
              exact hold
          · rw [up3_4]
            by_cases e2 : x = k
            · rw [← e2, ← e, xm.2, decide_eq_true rfl]
              exact Nat.le_refl 1
            · rw [decide_eq_false (fun h => e2 ((nI_inj (by omega) (by omega)).mp h))]
              exact hold
        · rw [decide_eq_false (fun h => e ((nI_inj (by omega) (by omega)).mp h)), Bool.and_false]
          exact hold
  · rw [if_neg c]
    exact ⟨U, fun m hm him h0 => O m hm (by omega) h0⟩
theorem uni_asg {t q : Nat} {s : Nat → Int32} (F : FXR t q s) (U : UNI t s) (O : OPN (mmT t) s 0) : ∀ i, i ≤ mmT t → UNI t (asgR t q s i).2 ∧ OPN (mmT t) (asgR t q s i).2 i
  | 0, _ => ⟨U, O⟩
  | i + 1, h => by
    obtain ⟨ih1, ih2⟩ := uni_asg F U O i (by omega)
    rw [asgR_s]
    exact uni_asg1 (fx_asg F i) ih1 ih2 (by omega)
theorem vb_up {t i : Nat} {u : Nat → Int32} {v k y : Int32} (W : VB t u) (h : v = -1 ∨ ∃ a b, a < 6 ∧ b < 6 ∧ v = nI a ∧ k = nI b) : VB t (up3 u i v k y) := by
  intro m hm
  by_cases e : m = i
  · subst e
    rw [up3_3, up3_4]
    exact h
  · rw [up3_o (j := 18 + 9 * m + 3) (by omega) (by omega) (by omega), up3_o (j := 18 + 9 * m + 4) (by omega) (by omega) (by omega)]
    exact W m hm
theorem vb_clr {t : Nat} {s : Nat → Int32} (W : VB t s) : ∀ i, VB t (clrR s i)
  | 0 => W
  | i + 1 => by
    rw [clrR_s]
    unfold clr1
    split
    · exact vb_up (vb_clr W i) (Or.inl rfl)
    · exact vb_clr W i
theorem vb_asg {t q : Nat} {s : Nat → Int32} (W : VB t s) : ∀ i, VB t (asgR t q s i).2
  | 0 => W
  | i + 1 => by
    have ih := vb_asg (q := q) W i
    rw [asgR_s]
    generalize (asgR t q s i).2 = u at ih ⊢
    show VB t (asg1 t q u i).2
    unfold asg1
    split
    · cases hv : vnR t u i with
      | none => exact vb_up ih (Or.inl rfl)
      | some v =>
        cases hk : stR t q u i with
        | none => exact vb_up ih (Or.inl rfl)
        | some k => exact vb_up ih (Or.inr ⟨v, k, (bst_lt hv).1, (bst_lt hk).1, rfl, rfl⟩)
    · exact ih
theorem GR.stg {t q : Nat} {s : Nat → Int32} (F : FXR t q s) (G : GR t s) : GR t (stgR t q s).2 := by
  obtain ⟨⟨⟨a, b, c, ha, hb, hc⟩, V, B⟩, v, U, W⟩ := G
  have k0 : ∀ j, j < 18 → (stgR t q s).2 j = s j := fun j hj => stg_k (fun m _ => by omega)
  have k6 : ∀ m w, w < 9 → w ≠ 3 → w ≠ 4 → w ≠ 5 → (stgR t q s).2 (18 + 9 * m + w) = s (18 + 9 * m + w) := fun m w h9 h3 h4 h5 => stg_k (fun m' _ => by omega)
  refine ⟨⟨⟨a, b, c, by rw [k0 0 (by omega)]; exact ha, by rw [k0 1 (by omega)]; exact hb, by rw [k0 2 (by omega)]; exact hc⟩, fun k hk => by rw [k6 k 6 (by omega) (by omega) (by omega) (by omega)]; exact V k hk, fun k hk => by rw [k6 k 7 (by omega) (by omega) (by omega) (by omega), k6 k 8 (by omega) (by omega) (by omega) (by omega)]; exact B k hk⟩, fun k hk h0 => ?_, ?_, vb_asg (vb_clr W _) _⟩
  · rw [k6 k 6 (by omega) (by omega) (by omega) (by omega)] at h0
    have kk : ∀ w, w < 9 → (stgR t q s).2 (18 + 9 * k + w) = s (18 + 9 * k + w) := fun w h9 => stg_k (fun m' hm' => by
      by_cases e : m' = k
      · subst e; exact absurd hm' h0
      · omega)
    rw [kk 3 (by omega), kk 4 (by omega)]
    exact v k hk h0
  · unfold stgR
    exact (uni_asg (fx_clr F _) (uni_clr U _) (fun m hm _ h0 => clr_open s _ hm (by rw [clr_6] at h0; exact h0)) _ (Nat.le_refl _)).1
