/-! PURE: a part of the text -/
def KBx (B' B : OB) : Prop := B'.1 0 = B.1 0 ∧ B'.2 1 = B.2 1
def FRB (p : Nat) (B' B : OB) : Prop := KBx B' B ∧ ∀ i, i < p → B'.2 2 i = B.2 2 i ∧ B'.2 3 i = B.2 3 i ∧ B'.2 4 i = B.2 4 i ∧ B'.2 5 i = B.2 5 i
def KM (M' M : OB) : Prop := (∀ j, j ≠ 7 → j ≠ 8 → j ≠ 9 → j ≠ 11 → M'.1 j = M.1 j) ∧ ∀ j, j ≠ 10 → M'.2 j = M.2 j
def FRM (p : Nat) (M' M : OB) : Prop := KM M' M ∧ ∀ i, i < 4 * p → M'.2 10 i = M.2 10 i
theorem FRB.trans {p : Nat} {A B C : OB} (h : FRB p A B) (g : FRB p B C) : FRB p A C := ⟨⟨h.1.1.trans g.1.1, h.1.2.trans g.1.2⟩, fun i hi => by
  obtain ⟨a1, a2, a3, a4⟩ := h.2 i hi
  obtain ⟨b1, b2, b3, b4⟩ := g.2 i hi
  exact ⟨a1.trans b1, a2.trans b2, a3.trans b3, a4.trans b4⟩⟩
theorem FRM.trans {p : Nat} {A B C : OB} (h : FRM p A B) (g : FRM p B C) : FRM p A C := ⟨⟨fun j h7 h8 h9 h11 => (h.1.1 j h7 h8 h9 h11).trans (g.1.1 j h7 h8 h9 h11), fun j h10 => (h.1.2 j h10).trans (g.1.2 j h10)⟩, fun i hi => (h.2 i hi).trans (g.2 i hi)⟩
theorem FRB.refl (p : Nat) (B : OB) : FRB p B B := ⟨⟨rfl, rfl⟩, fun _ _ => ⟨rfl, rfl, rfl, rfl⟩⟩
theorem FRM.refl (p : Nat) (M : OB) : FRM p M M := ⟨⟨fun _ _ _ _ _ => rfl, fun _ _ => rfl⟩, fun _ _ => rfl⟩
theorem frb_gs {p k : Nat} {v : Int32} {A B : OB} (h : FRB p A B) (hk : k ≠ 0) : FRB p (gsi A k v) B := ⟨⟨(gsi_n _ _ (Ne.symm hk)).trans h.1.1, h.1.2⟩, h.2⟩
theorem frb_st {p q ρ : Nat} {v : Int32} {A B : OB} (h : FRB p A B) (hρ : ρ ≠ 1) (hq : p ≤ q) : FRB p (st1 A ρ q v) B := ⟨⟨h.1.1, by
  show (gsa A ρ _).2 1 = _
  rw [gsa_n _ _ (Ne.symm hρ)]
  exact h.1.2⟩, fun i hi => by
  have key : ∀ r, (st1 A ρ q v).2 r i = A.2 r i := fun r => by
    show (gsa A ρ _).2 r i = _
    rw [gsa_2]
    split
    · rename_i e; rw [upd_n _ _ (by omega), e]
    · rfl
  rw [key, key, key, key]
  exact h.2 i hi⟩
def OUT_F (n len : Nat) (B : OB) (a : Nat) (M' : OB) : Prop := ∃ z B', Dl n a B = some (z, B') ∧ (B'.1 7 ≠ nI 5 ∧ B'.1 7 ≠ nI 7) ∧ z = (if M'.1 8 = 0 then nI len else M'.1 7) ∧ KBx B' B
theorem fail_ {cd : Nat → Nat} {len n a p k : Nat} {B M' : OB} (T : TX cd len B) (h60 : len ≤ 60) (ha : a ≤ len) (hp : B.1 6 = nI p) (hp2 : a < len → p < 12) (hn : 61 < n) (hk : B.1 7 = nI k) (k8 : k < 8) (k5 : k ≠ 5) (k7 : k ≠ 7) (hx : a < len → ∃ B'', f2_next n B (nI (cd a)) = some (nI 8, B'') ∧ KBx B'' B) (h7 : M'.1 7 = nI a) (h8 : M'.1 8 = nI (bI (decide (a < len)))) : OUT_F n len B a M' := by
  unfold OUT_F
  by_cases c : a < len
  · obtain ⟨B'', h1, h2⟩ := hx c
    refine ⟨nI a, gsi B'' 7 (nI 8), ?_, ⟨by rw [gsi_s]; decide, by rw [gsi_s]; decide⟩, ?_, ?_, h2.2⟩
    · rw [d_step T h60 hp (hp2 c) c hn h1, if_pos rfl]
    · rw [h8, decide_eq_true c, if_neg (by decide), h7]
    · rw [gsi_n _ _ (by decide)]; exact h2.1
  · have e : a = len := by omega
    subst e
    refine ⟨nI a, B, d_end T h60 hn, ⟨?_, ?_⟩, ?_, rfl, rfl⟩
    · rw [hk, Ne, nI_inj (by omega) (by omega)]; exact k5
    · rw [hk, Ne, nI_inj (by omega) (by omega)]; exact k7
    · rw [h8, decide_eq_false c, if_pos (by rfl)]
def ENDP (n : Nat) (cd : Nat → Nat) (len p a : Nat) (B : OB) : Prop := a < len → f2_next n B (nI (cd a)) = some (if cd a = 59 then (nI 0, gsi B 6 (nI (p + 1))) else (nI 8, B))
def VAL (p m ρ x y : Nat) (B M : OB) : Prop := (m < 28 ∧ (1 ≤ ρ ∧ ρ ≤ 3) ∧ x < 100 ∧ y < 100) ∧ (B.2 2 p = nI m ∧ B.2 3 p = nI ρ ∧ B.2 4 p = nI x ∧ B.2 5 p = nI y) ∧ (M.2 10 (4 * p) = nI m ∧ M.2 10 (4 * p + 1) = nI ρ ∧ M.2 10 (4 * p + 2) = nI x ∧ M.2 10 (4 * p + 3) = nI y)
def RES (n : Nat) (cd : Nat → Nat) (len p a d : Nat) (B M : OB) (e : Option (Int32 × OB)) : Prop := (∃ M', e = some (nI 0, M') ∧ KM M' M ∧ OUT_F n len B a M') ∨ ∃ M' B' a' m ρ x y, e = some (nI 1, M') ∧ FRM p M' M ∧ (M'.1 7 = nI a' ∧ M'.1 11 = nI p) ∧ Dl n a B = Dl n a' B' ∧ FRB p B' B ∧ B'.1 6 = nI p ∧ (a + d ≤ a' ∧ a' ≤ len) ∧ VAL p m ρ x y B' M' ∧ (B'.1 7 = nI 5 ∨ B'.1 7 = nI 7) ∧ ENDP n cd len p a' B'
theorem RES.step {n len p a a2 d d2 : Nat} {cd : Nat → Nat} {B M B2 M2 : OB} {e : Option (Int32 × OB)} (h : RES n cd len p a2 d2 B2 M2 e) (hD : Dl n a B = Dl n a2 B2) (hB : FRB p B2 B) (hM : FRM p M2 M) (hd : a + d ≤ a2 + d2) : RES n cd len p a d B M e := by
  rcases h with ⟨M', e1, k1, z, B', o1, o2, o3, o4⟩ | ⟨M', B', a', m, ρ, x, y, e1, k1, k2, k3, k4, k5, k6, k7, k8, k9⟩
  · exact Or.inl ⟨M', e1, ⟨fun j h7 h8 h9 h11 => (k1.1 j h7 h8 h9 h11).trans (hM.1.1 j h7 h8 h9 h11), fun j h10 => (k1.2 j h10).trans (hM.1.2 j h10)⟩, z, B', hD.trans o1, o2, o3, o4.1.trans hB.1.1, o4.2.trans hB.1.2⟩
  · exact Or.inr ⟨M', B', a', m, ρ, x, y, e1, k1.trans hM, k2, hD.trans k3, k4.trans hB, k5, ⟨by omega, k6.2⟩, k7, k8, k9⟩
theorem km_8 {M : OB} {v : Int32} : KM (gsi M 8 v) M := ⟨fun j _ h8 _ _ => gsi_n _ _ h8, fun _ _ => rfl⟩
/-- what the model does behind a w -/
def tailB (n : Nat) (oM_88 : OB) : Option (Int32 × OB) := (f6_isAt n oM_88 (nI 49) (nI 50)).bind fun z96 => (if z96 = (0 : Int32) then (f6_stops n oM_88).bind fun z103 => (zo z103.1).bind fun y106 => some (y106, z103.2) else (ald 60 (oM_88.2 4) (oM_88.1 7)).bind fun x128 => (oast oM_88 10 68 (((nI 4) * (oM_88.1 11)) + (nI 1)) (((nI 1) + x128) - (nI 48))).bind fun oM_133 => (oast oM_133 10 68 (((nI 4) * (oM_133.1 11)) + (nI 2)) (nI 0)).bind fun oM_147 => (oast oM_147 10 68 (((nI 4) * (oM_147.1 11)) + (nI 3)) (nI 0)).bind fun oM_161 => (some (gsi oM_161 7 ((oM_161.1 7) + (nI 1)))).bind fun oM_169 => some ((nI 1), oM_169))
theorem tailB_ {cd : Nat → Nat} {len n a p m : Nat} {B M : OB} (h60 : len ≤ 60) (hc : ∀ k, k < len → cd k < 128) (hn : 61 < n) (T : TX cd len B) (hp : B.1 6 = nI p) (hB : B.1 7 = nI 6) (hm : m < 28) (hBm : B.2 2 p = nI m) (Y : TY cd len M) (ha : M.1 7 = nI a) (ha2 : a ≤ len) (hMp : M.1 11 = nI p) (hpa : 5 * p + 1 ≤ a) (hMm : M.2 10 (4 * p) = nI m) : RES n cd len p a 1 B M (tailB n M) := by
  unfold tailB
  rw [isAt_ Y h60 hc ha (by omega) (by omega) (by omega), Option.bind_some]
  by_cases c : a < len ∧ (cd a = 49 ∨ cd a = 50)
  · obtain ⟨c1, c2⟩ := c
    have hca := hc a c1
    have hp2 : p < 12 := by omega
    right
    rw [decide_eq_true c1, Bool.true_and, decide_eq_true (show 49 ≤ cd a by omega), decide_eq_true (show cd a ≤ 50 by omega), if_neg (by decide), ha, ald_nI (by omega) (by omega), Option.bind_some, Y.2 a c1, hMp, pk_mul, nI_add, nI_add, pk_sub (by omega), oast_nI (by omega) (by omega), Option.bind_some]
    show ∃ M' B' a' m ρ x y, (oast (gsa M 10 _) 10 68 (((nI 4) * (M.1 11)) + (nI 2)) (nI 0)).bind _ = _ ∧ _
    rw [hMp, pk_mul, nI_add, oast_nI (by omega) (by omega), Option.bind_some]
    show ∃ M' B' a' m ρ x y, (oast (gsa (gsa M 10 _) 10 _) 10 68 (((nI 4) * (M.1 11)) + (nI 3)) (nI 0)).bind _ = _ ∧ _
    rw [hMp, pk_mul, nI_add, oast_nI (by omega) (by omega), Option.bind_some, Option.bind_some]
    simp only [gsa_gsa, gsa_s]
    have hx := nx_6 (n := n) hB hp hp2 hca
    rw [if_pos c2] at hx
    refine ⟨_, gsi (st1 (st1 (st1 B 3 p (nI (1 + cd a - 48))) 4 p (nI 0)) 5 p (nI 0)) 7 (nI 7), a + 1, m, 1 + cd a - 48, 0, 0, rfl, ⟨⟨fun j h7 _ _ _ => ?_, fun j h10 => ?_⟩, fun i hi => ?_⟩, ⟨?_, ?_⟩, ?_, ?_, hp, ⟨Nat.le_refl _, by omega⟩, ⟨⟨hm, ⟨by omega, by omega⟩, by omega, by omega⟩, ⟨?_, ?_, ?_, ?_⟩, ?_, ?_, ?_, ?_⟩, Or.inr rfl, fun h => ?_⟩
    · rw [gsi_n _ _ h7]; rfl
    · show (gsa M 10 _).2 j = _
      rw [gsa_n _ _ h10]
    · show upd (upd (upd (M.2 10) (4 * p + 1) (nI (1 + cd a - 48))) (4 * p + 2) (nI 0)) (4 * p + 3) (nI 0) i = _
      rw [upd_n _ _ (by omega), upd_n _ _ (by omega), upd_n _ _ (by omega)]
    · show M.1 7 + nI 1 = _
      rw [ha, nI_add]
    · exact hMp
    · rw [d_step T h60 hp hp2 c1 hn hx, if_neg (show ¬ nI 7 = nI 8 by decide)]
    · exact frb_gs (frb_st (frb_st (frb_st (FRB.refl p B) (by decide) (Nat.le_refl _)) (by decide) (Nat.le_refl _)) (by decide) (Nat.le_refl _)) (by decide)
    · exact hBm
    · exact upd_s _ _ _
    · exact upd_s _ _ _
    · exact upd_s _ _ _
    · show upd (upd (upd (M.2 10) (4 * p + 1) (nI (1 + cd a - 48))) (4 * p + 2) (nI 0)) (4 * p + 3) (nI 0) _ = _
      rw [upd_n _ _ (by omega), upd_n _ _ (by omega), upd_n _ _ (by omega)]
      exact hMm
    · show upd (upd (upd (M.2 10) (4 * p + 1) (nI (1 + cd a - 48))) (4 * p + 2) (nI 0)) (4 * p + 3) (nI 0) _ = _
      rw [upd_n _ _ (by omega), upd_n _ _ (by omega), upd_s]
    · show upd (upd (upd (M.2 10) (4 * p + 1) (nI (1 + cd a - 48))) (4 * p + 2) (nI 0)) (4 * p + 3) (nI 0) _ = _
      rw [upd_n _ _ (by omega), upd_s]
    · show upd (upd (upd (M.2 10) (4 * p + 1) (nI (1 + cd a - 48))) (4 * p + 2) (nI 0)) (4 * p + 3) (nI 0) _ = _
      rw [upd_s]
    · exact nx_7 rfl hp (hc _ h)
  · left
    have hz : (decide (a < len) && (decide (49 ≤ cd a) && decide (cd a ≤ 50))) = false := by
      rw [Bool.and_eq_false_iff, Bool.and_eq_false_iff, decide_eq_false_iff_not, decide_eq_false_iff_not, decide_eq_false_iff_not]
      omega
    rw [hz, if_pos (show nI (bI false) = 0 from rfl), stops_ Y h60 ha (by omega), Option.bind_some]
    refine ⟨_, rfl, km_8, fail_ T h60 ha2 hp (fun h => by omega) hn hB (by omega) (by omega) (by omega) (fun h => ⟨B, ?_, rfl, rfl⟩) ?_ rfl⟩
    · rw [nx_6 hB hp (by omega) (hc a h), if_neg (fun e => c ⟨h, e⟩)]
    · exact (gsi_n _ _ (by decide)).trans ha
