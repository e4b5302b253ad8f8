/-! PURE: the whole text -/
def VALS (P : Nat) (B M : OB) : Prop := ∀ i, i < P → ∃ m ρ x y, VAL i m ρ x y B M
def TEND (n len : Nat) (B : OB) (a : Nat) (M : OB) (e : Option (Int32 × OB)) : Prop := (∃ M', e = some (nI 0, M') ∧ KM M' M ∧ OUT_F n len B a M') ∨ ∃ M' B' P, e = some (nI 1, M') ∧ KM M' M ∧ Dl n a B = some (nI len, B') ∧ KBx B' B ∧ (B'.1 7 = nI 5 ∨ B'.1 7 = nI 7) ∧ P < 12 ∧ B'.1 6 = nI P ∧ M'.1 11 = nI (P + 1) ∧ VALS (P + 1) B' M'
theorem KM.trans {A B C : OB} (h : KM A B) (g : KM B C) : KM A C := ⟨fun j h7 h8 h9 h11 => (h.1 j h7 h8 h9 h11).trans (g.1 j h7 h8 h9 h11), fun j h10 => (h.2 j h10).trans (g.2 j h10)⟩
theorem TEND.step {n len a a2 : Nat} {B M B2 M2 : OB} {e : Option (Int32 × OB)} (h : TEND n len B2 a2 M2 e) (hD : Dl n a B = Dl n a2 B2) (hB : KBx B2 B) (hM : KM M2 M) : TEND n len B a M e := by
  rcases h with ⟨M', e1, k1, z, B', o1, o2, o3, o4⟩ | ⟨M', B', P, e1, k1, k2, k3, k4⟩
  · exact Or.inl ⟨M', e1, k1.trans hM, z, B', hD.trans o1, o2, o3, o4.1.trans hB.1, o4.2.trans hB.2⟩
  · exact Or.inr ⟨M', B', P, e1, k1.trans hM, hD.trans k2, ⟨k3.1.trans hB.1, k3.2.trans hB.2⟩, k4⟩
theorem VAL.frm {i p m ρ x y : Nat} {B M B' M' : OB} (V : VAL i m ρ x y B M) (hi : i < p) (FB : FRB p B' B) (FM : FRM p M' M) : VAL i m ρ x y B' M' := by
  obtain ⟨v, ⟨b2, b3, b4, b5⟩, m0, m1, m2, m3⟩ := V
  obtain ⟨c2, c3, c4, c5⟩ := FB.2 i hi
  exact ⟨v, ⟨c2.trans b2, c3.trans b3, c4.trans b4, c5.trans b5⟩, (FM.2 _ (by omega)).trans m0, (FM.2 _ (by omega)).trans m1, (FM.2 _ (by omega)).trans m2, (FM.2 _ (by omega)).trans m3⟩
theorem more_ {cd : Nat → Nat} {len n : Nat} (h60 : len ≤ 60) (hc : ∀ k, k < len → cd k < 128) (hn : 61 < n) : ∀ {k a p : Nat} {B M : OB}, len + 2 ≤ a + k → TX cd len B → B.1 6 = nI p → B.1 7 = nI 0 → TY cd len M → M.1 7 = nI a → a ≤ len → M.1 11 = nI p → 5 * p ≤ a → VALS p B M → TEND n len B a M (f6_isText_b17 n (fun oM => f6_isText_b70 n oM) k (nI 1) M)
  | 0, a, p, B, M, hk, _, _, _, _, _, ha2, _, _, _ => absurd hk (by omega)
  | k + 1, a, p, B, M, hk, T, hp, hB, Y, ha, ha2, hMp, hpa, hV => by
    rw [f6_isText_b17, if_neg (show ¬ nI 1 = 0 by decide)]
    rcases part_ h60 hc hn T hp hB Y ha ha2 hMp hpa with ⟨M', e1, k1, o⟩ | ⟨M', B', a', m, ρ, x, y, e1, F1, ⟨m7, m11⟩, D1, F2, b6, ⟨l1, l2⟩, V, st, E⟩
    · rw [e1, Option.bind_some, if_pos (show nI 0 = 0 from rfl)]
      exact Or.inl ⟨M', rfl, k1, o⟩
    · have p12 : p < 12 := by omega
      have T' : TX cd len B' := ⟨F2.1.1.trans T.1, fun j hj => by rw [F2.1.2]; exact T.2 j hj⟩
      have Y' : TY cd len M' := ⟨(F1.1.1 5 (by decide) (by decide) (by decide) (by decide)).trans Y.1, fun j hj => by rw [F1.1.2 4 (by decide)]; exact Y.2 j hj⟩
      have Y1 : TY cd len (gsi M' 11 (nI (p + 1))) := ty_gs Y' (by decide)
      have h7 : (gsi M' 11 (nI (p + 1))).1 7 = nI a' := (gsi_n _ _ (by decide)).trans m7
      have K1 : KM (gsi M' 11 (nI (p + 1))) M := KM.trans (B := M') ⟨fun j _ _ _ h11 => gsi_n _ _ h11, fun _ _ => rfl⟩ F1.1
      have hV' : ∀ M2 : OB, M2.2 10 = M'.2 10 → ∀ B2 : OB, B2.2 = B'.2 → VALS (p + 1) B2 M2 := by
        intro M2 h10 B2 hB2 i hi
        have key : ∃ m ρ x y, VAL i m ρ x y B' M' := by
          by_cases e : i = p
          · rw [e]; exact ⟨m, ρ, x, y, V⟩
          · obtain ⟨m', ρ', x', y', V'⟩ := hV i (by omega)
            exact ⟨m', ρ', x', y', V'.frm (show i < p by omega) F2 F1⟩
        obtain ⟨m', ρ', x', y', w1, w2, w3⟩ := key
        exact ⟨m', ρ', x', y', w1, by rw [hB2]; exact w2, by rw [h10]; exact w3⟩
      rw [e1, Option.bind_some, if_neg (show ¬ nI 1 = 0 by decide), Option.bind_some, m11, nI_add, isAt_ Y1 h60 hc h7 (by omega) (by omega) (by omega), Option.bind_some]
      by_cases c : a' < len ∧ cd a' = 59
      · obtain ⟨c1, c2⟩ := c
        have hx := E c1
        rw [if_pos c2] at hx
        have D2 := d_step T' h60 b6 p12 c1 hn hx
        rw [if_neg (show ¬ nI 0 = nI 8 by decide)] at D2
        rw [decide_eq_true c1, c2, show (true && (decide (59 ≤ 59) && decide (59 ≤ 59))) = true from rfl, if_neg (by decide), Option.bind_some, h7, nI_add]
        refine (more_ h60 hc hn (k := k) (a := a' + 1) (p := p + 1) (B := gsi (gsi B' 6 (nI (p + 1))) 7 (nI 0)) (by omega) (tx_gs (tx_gs T' (by decide)) (by decide)) ((gsi_n _ _ (by decide)).trans (gsi_s _ _ _)) (gsi_s _ _ _) (ty_gs Y1 (by decide)) (gsi_s _ _ _) (by omega) ((gsi_n _ _ (by decide)).trans (gsi_s _ _ _)) (by omega) (hV' _ rfl _ rfl)).step (D1.trans D2) ?_ (KM.trans (B := gsi M' 11 (nI (p + 1))) ⟨fun j h7 _ _ _ => gsi_n _ _ h7, fun _ _ => rfl⟩ K1)
        exact ⟨((gsi_n _ _ (by decide)).trans (gsi_n _ _ (by decide))).trans F2.1.1, F2.1.2⟩
      · have hz : (decide (a' < len) && (decide (59 ≤ cd a') && decide (cd a' ≤ 59))) = false := by
          rw [Bool.and_eq_false_iff, Bool.and_eq_false_iff, decide_eq_false_iff_not, decide_eq_false_iff_not, decide_eq_false_iff_not]
          omega
        rw [hz, if_pos (show nI (bI false) = 0 from rfl), Option.bind_some, h7, nI_add, Nat.add_zero]
        obtain ⟨k, rfl⟩ : ∃ j, k = j + 1 := ⟨k - 1, by omega⟩
        have Y2 : TY cd len (gsi (gsi M' 11 (nI (p + 1))) 7 (nI a')) := ty_gs Y1 (by decide)
        have g7 : (gsi (gsi M' 11 (nI (p + 1))) 7 (nI a')).1 7 = nI a' := gsi_s _ _ _
        have g11 : (gsi (gsi M' 11 (nI (p + 1))) 7 (nI a')).1 11 = nI (p + 1) := (gsi_n _ _ (by decide)).trans (gsi_s _ _ _)
        have g10 : (gsi (gsi M' 11 (nI (p + 1))) 7 (nI a')).2 10 = M'.2 10 := rfl
        have K2 : KM (gsi (gsi M' 11 (nI (p + 1))) 7 (nI a')) M := KM.trans (B := gsi M' 11 (nI (p + 1))) ⟨fun j h7 _ _ _ => gsi_n _ _ h7, fun _ _ => rfl⟩ K1
        rw [f6_isText_b17, if_pos (show nI (bI false) = 0 from rfl)]
        generalize gsi (gsi M' 11 (nI (p + 1))) 7 (nI a') = M2 at Y2 g7 g11 g10 K2 ⊢
        unfold f6_isText_b70 f6_isText_b87
        rw [Y2.1, g7]
        by_cases c1 : a' < len
        · rw [if_neg (by rw [nI_le' (by omega) (by omega)]; omega)]
          left
          refine ⟨gsi M2 8 (nI 1), ?_, KM.trans km_8 K2, ?_⟩
          · show (zo (nI (bI true))).bind _ = _
            rw [zo_bI, Option.bind_some, Option.bind_some]
            show (if M2.1 7 = M2.1 5 then _ else _) = _
            rw [g7, Y2.1, if_neg (by rw [nI_inj (by omega) (by omega)]; omega)]
          · have hx := E c1
            rw [if_neg (fun e => c ⟨c1, e⟩)] at hx
            have D2 := d_step T' h60 b6 p12 c1 hn hx
            rw [if_pos rfl] at D2
            refine ⟨nI a', gsi B' 7 (nI 8), D1.trans D2, ⟨by rw [gsi_s]; decide, by rw [gsi_s]; decide⟩, ?_, (gsi_n _ _ (by decide)).trans F2.1.1, F2.1.2⟩
            rw [gsi_s, if_neg (show ¬ nI 1 = 0 by decide), gsi_n _ _ (by decide), g7]
        · have e : a' = len := by omega
          rw [if_pos (by rw [nI_le' (by omega) (by omega)]; omega)]
          right
          refine ⟨gsi M2 8 (nI 0), B', p, ?_, KM.trans km_8 K2, ?_, F2.1, st, p12, b6, (gsi_n _ _ (by decide)).trans g11, hV' _ g10 _ rfl⟩
          · show (zo (nI (bI false))).bind _ = _
            rw [zo_bI, Option.bind_some, Option.bind_some]
            show (if M2.1 7 = M2.1 5 then _ else _) = _
            rw [g7, Y2.1, if_pos (by rw [e])]
          · rw [D1, e]
            exact d_end T' h60 hn
theorem text_ {cd : Nat → Nat} {len n : Nat} {B M : OB} (h60 : len ≤ 60) (hc : ∀ k, k < len → cd k < 128) (hn : 61 < n) (T : TX cd len B) (Y : TY cd len M) : ∃ B0 M0, f2_read n B = Dl n 0 B0 ∧ KBx B0 B ∧ KM M0 M ∧ TEND n len B0 0 M0 (f6_isText n M) := by
  refine ⟨gsi (gsi B 6 (nI 0)) 7 (nI 0), gsi (gsi (gsi M 7 (nI 0)) 11 (nI 0)) 8 (nI 0), rfl, ⟨rfl, rfl⟩, ⟨fun j h7 h8 _ h11 => ?_, fun _ _ => rfl⟩, ?_⟩
  · rw [gsi_n _ _ h8, gsi_n _ _ h11, gsi_n _ _ h7]
  · unfold f6_isText
    simp only [Option.bind_some]
    exact more_ h60 hc hn (a := 0) (p := 0) (by omega) (tx_gs (tx_gs T (by decide)) (by decide)) rfl rfl (ty_gs (ty_gs (ty_gs Y (by decide)) (by decide)) (by decide)) rfl (Nat.zero_le _) rfl (Nat.zero_le _) (fun i hi => absurd hi (Nat.not_lt_zero i))
