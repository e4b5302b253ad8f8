/-! PURE: a part's scores, a whole part -/
def tailC (n : Nat) (M : OB) : Option (Int32 × OB) := (f6_isNumber n M (nI 3) (nI 99)).bind fun z69 => (if z69.1 = (0 : Int32) then some ((nI 0), z69.2) else some ((nI 1), z69.2))
def tailD (n : Nat) (M : OB) : Option (Int32 × OB) := (f6_isSign n M (nI 58)).bind fun z59 => (if z59.1 = (0 : Int32) then some ((nI 0), z59.2) else tailC n z59.2)
def tailA (n : Nat) (M : OB) : Option (Int32 × OB) := (f6_isNumber n M (nI 2) (nI 99)).bind fun z50 => (if z50.1 = (0 : Int32) then some ((nI 0), z50.2) else tailD n z50.2)
def tailE (n : Nat) (M : OB) : Option (Int32 × OB) := (f6_isAt n M (nI 119) (nI 119)).bind fun z40 => (if z40 = (0 : Int32) then tailA n M else (some (gsi M 7 ((M.1 7) + (nI 1)))).bind fun oM_88 => tailB n oM_88)
def tailF (n : Nat) (M : OB) : Option (Int32 × OB) := (f6_isSign n M (nI 61)).bind fun z13 => (if z13.1 = (0 : Int32) then some ((nI 0), z13.2) else (oast z13.2 10 68 (((nI 4) * (z13.2.1 11)) + (nI 1)) (nI 1)).bind fun oM_34 => tailE n oM_34)
theorem isPart_e (n : Nat) (M : OB) : f6_isPart n M = (f6_isNumber n M (nI 0) (nI 27)).bind fun z4 => (if z4.1 = (0 : Int32) then some ((nI 0), z4.2) else tailF n z4.2) := rfl
theorem tx_st {cd : Nat → Nat} {len ρ p : Nat} {v : Int32} {B : OB} (T : TX cd len B) (hρ : ρ ≠ 1) : TX cd len (st1 B ρ p v) := ⟨T.1, fun k hk => by
  show (gsa B ρ _).2 1 k = _
  rw [gsa_n _ _ (Ne.symm hρ)]
  exact T.2 k hk⟩
theorem tx_gs {cd : Nat → Nat} {len j : Nat} {v : Int32} {B : OB} (T : TX cd len B) (hj : j ≠ 0) : TX cd len (gsi B j v) := ⟨(gsi_n _ _ (Ne.symm hj)).trans T.1, T.2⟩
theorem ty_gs {cd : Nat → Nat} {len j : Nat} {v : Int32} {M : OB} (T : TY cd len M) (hj : j ≠ 5) : TY cd len (gsi M j v) := ⟨(gsi_n _ _ (Ne.symm hj)).trans T.1, T.2⟩
theorem ty_ga {cd : Nat → Nat} {len : Nat} {f : Nat → Int32} {M : OB} (T : TY cd len M) : TY cd len (gsa M 10 f) := ⟨T.1, T.2⟩
theorem km_nm {p v a : Nat} {f : Nat → Int32} {M : OB} (hf : ∀ i, i < 4 * p → f i = M.2 10 i) : FRM p (gsa (nm M v a) 10 f) M := ⟨⟨fun j h7 _ h9 _ => by
  show (gsi (gsi M 9 _) 7 _).1 j = _
  rw [gsi_n _ _ h7, gsi_n _ _ h9], fun j h10 => by rw [gsa_n _ _ h10]; rfl⟩, fun i hi => by rw [gsa_s]; exact hf i hi⟩
theorem km_7 {p : Nat} {v : Int32} {M : OB} : FRM p (gsi M 7 v) M := ⟨⟨fun j h7 _ _ _ => gsi_n _ _ h7, fun _ _ => rfl⟩, fun _ _ => rfl⟩
theorem tailC_ {cd : Nat → Nat} {len n a p m x : Nat} {B M : OB} (h60 : len ≤ 60) (hc : ∀ k, k < len → cd k < 128) (hn : 61 < n) (T : TX cd len B) (hp : B.1 6 = nI p) (hB : B.1 7 = nI 4) (hm : m < 28) (hBm : B.2 2 p = nI m) (hx100 : x < 100) (hBx : B.2 4 p = nI x) (Y : TY cd len M) (ha : M.1 7 = nI a) (ha2 : a ≤ len) (hMp : M.1 11 = nI p) (hpa : 5 * p + 1 ≤ a) (hM0 : M.2 10 (4 * p) = nI m) (hM1 : M.2 10 (4 * p + 1) = nI 1) (hM2 : M.2 10 (4 * p + 2) = nI x) : RES n cd len p a 1 B M (tailC n M) := by
  unfold tailC
  rw [isNumber_ (j := 3) (hi := 99) Y h60 hc (by omega) (by omega) ha (by omega) hMp (by omega) (by omega) hn, Option.bind_some]
  by_cases c1 : a < len ∧ isD (cd a) = true
  · rw [if_pos c1]
    obtain ⟨c1, c2⟩ := c1
    have hca := hc a c1
    have hp2 : p < 12 := by omega
    obtain ⟨d1, d2⟩ := isD_t c2
    have ok := sc_ok (cd := cd) (len := len) (hi := 99) (f := 60) (v := cd a - 48) (a := a + 1) (by omega) (by omega) (by omega)
    have hx := nx_4 (n := n) hB hp hp2 hca
    rw [if_pos c2] at hx
    have D1 := d_step T h60 hp hp2 c1 hn hx
    rw [if_neg (show ¬ nI 5 = nI 8 by decide)] at D1
    have D2 : Dl n a B = Dl n (nu cd len 99 a).2 (nb 5 5 p (st1 B 3 p (nI 1)) (nu cd len 99 a).1) := D1.trans (run_s h60 hc (tx_st T (by decide)) hp hp2 hn (by omega))
    change (nu cd len 99 a).1 ≤ 99 ∧ a + 1 ≤ (nu cd len 99 a).2 ∧ (nu cd len 99 a).2 ≤ len ∧ ¬ ((nu cd len 99 a).2 < len ∧ gwB (cd (nu cd len 99 a).2) (nu cd len 99 a).1 99 = true) at ok
    clear D1 hx
    generalize nu cd len 99 a = Q at *
    obtain ⟨v, a3⟩ := Q
    dsimp only at D2 ok ⊢
    obtain ⟨o1, o2, o3, o4⟩ := ok
    rw [if_neg (show ¬ nI 1 = 0 by decide)]
    right
    refine ⟨_, _, a3, m, 1, x, v, rfl, km_nm fun i hi => upd_n _ _ (by omega), ⟨rfl, hMp⟩, D2, frb_gs (frb_st (frb_st (FRB.refl p B) (by decide) (Nat.le_refl _)) (by decide) (Nat.le_refl _)) (by decide), hp, ⟨o2, o3⟩, ⟨⟨hm, ⟨by omega, by omega⟩, hx100, by omega⟩, ⟨hBm, upd_s _ _ _, hBx, upd_s _ _ _⟩, ?_, ?_, ?_, ?_⟩, Or.inl rfl, fun h => ?_⟩
    · rw [gsa_s, upd_n _ _ (by omega)]; exact hM0
    · rw [gsa_s, upd_n _ _ (by omega)]; exact hM1
    · rw [gsa_s, upd_n _ _ (by omega)]; exact hM2
    · rw [gsa_s, upd_s]
    · rw [nx_5 (B := nb 5 5 p (st1 B 3 p (nI 1)) v) (v := v) rfl hp hp2 (hc _ h) (upd_s _ _ _) (by omega)]
      congr 1
      split
      · rfl
      · rw [if_neg (fun e => o4 ⟨h, e⟩)]
  · rw [if_neg c1, if_pos (show nI 0 = 0 from rfl)]
    left
    refine ⟨_, rfl, km_8, fail_ T h60 ha2 hp (fun h => by omega) hn hB (by omega) (by omega) (by omega) (fun h => ⟨st1 B 3 p (nI 1), ?_, rfl, gsa_n _ _ (by decide)⟩) ((gsi_n _ _ (by decide)).trans ha) rfl⟩
    rw [nx_4 hB hp (by omega) (hc a h), if_neg (fun e => c1 ⟨h, e⟩)]
theorem tailD_ {cd : Nat → Nat} {len n a p m x : Nat} {B M : OB} (h60 : len ≤ 60) (hc : ∀ k, k < len → cd k < 128) (hn : 61 < n) (T : TX cd len B) (hp : B.1 6 = nI p) (hB : B.1 7 = nI 3) (hm : m < 28) (hBm : B.2 2 p = nI m) (hx100 : x < 100) (hBx : B.2 4 p = nI x) (Y : TY cd len M) (ha : M.1 7 = nI a) (ha2 : a ≤ len) (hMp : M.1 11 = nI p) (hpa : 5 * p + 1 ≤ a) (hM0 : M.2 10 (4 * p) = nI m) (hM1 : M.2 10 (4 * p + 1) = nI 1) (hM2 : M.2 10 (4 * p + 2) = nI x) (hs : ¬ (a < len ∧ gwB (cd a) x 99 = true)) : RES n cd len p a 2 B M (tailD n M) := by
  unfold tailD
  rw [isSign_ Y h60 hc ha (by omega) (by omega), Option.bind_some]
  by_cases c1 : a < len ∧ cd a = 58
  · rw [if_pos c1, if_neg (show ¬ nI 1 = 0 by decide)]
    obtain ⟨c1, c2⟩ := c1
    have hp2 : p < 12 := by omega
    have hx := nx_3 (n := n) (v := x) hB hp hp2 (hc a c1) hBx (by omega)
    rw [if_pos c2] at hx
    have D1 := d_step T h60 hp hp2 c1 hn hx
    rw [if_neg (show ¬ nI 4 = nI 8 by decide)] at D1
    exact (tailC_ (B := gsi B 7 (nI 4)) (M := gsi M 7 (nI (a + 1))) (a := a + 1) (p := p) (m := m) (x := x) h60 hc hn (tx_gs T (by decide)) hp (gsi_s _ _ _) hm hBm hx100 hBx (ty_gs Y (by decide)) (gsi_s _ _ _) (by omega) hMp (by omega) hM0 hM1 hM2).step D1 (frb_gs (FRB.refl p B) (by decide)) km_7 (by omega)
  · rw [if_neg c1, if_pos (show nI 0 = 0 from rfl)]
    left
    refine ⟨_, rfl, km_8, fail_ T h60 ha2 hp (fun h => by omega) hn hB (by omega) (by omega) (by omega) (fun h => ⟨B, ?_, rfl, rfl⟩) ((gsi_n _ _ (by decide)).trans ha) rfl⟩
    rw [nx_3 (v := x) hB hp (by omega) (hc a h) hBx (by omega), if_neg (fun e => c1 ⟨h, e⟩), if_neg (fun e => hs ⟨h, e⟩)]
theorem tailA_ {cd : Nat → Nat} {len n a p m : Nat} {B M : OB} (h60 : len ≤ 60) (hc : ∀ k, k < len → cd k < 128) (hn : 61 < n) (T : TX cd len B) (hp : B.1 6 = nI p) (hB : B.1 7 = nI 2) (hm : m < 28) (hBm : B.2 2 p = nI m) (Y : TY cd len M) (ha : M.1 7 = nI a) (ha2 : a ≤ len) (hMp : M.1 11 = nI p) (hpa : 5 * p + 1 ≤ a) (hM0 : M.2 10 (4 * p) = nI m) (hM1 : M.2 10 (4 * p + 1) = nI 1) (hw : a < len → cd a ≠ 119) : RES n cd len p a 3 B M (tailA n M) := by
  unfold tailA
  rw [isNumber_ (j := 2) (hi := 99) Y h60 hc (by omega) (by omega) ha (by omega) hMp (by omega) (by omega) hn, Option.bind_some]
  by_cases c1 : a < len ∧ isD (cd a) = true
  · rw [if_pos c1]
    obtain ⟨c1, c2⟩ := c1
    have hca := hc a c1
    have hp2 : p < 12 := by omega
    obtain ⟨d1, d2⟩ := isD_t c2
    have ok := sc_ok (cd := cd) (len := len) (hi := 99) (f := 60) (v := cd a - 48) (a := a + 1) (by omega) (by omega) (by omega)
    have hx := nx_2 (n := n) hB hp hp2 hca
    rw [if_neg (hw c1), if_pos c2] at hx
    have D1 := d_step T h60 hp hp2 c1 hn hx
    rw [if_neg (show ¬ nI 3 = nI 8 by decide)] at D1
    have D2 : Dl n a B = Dl n (nu cd len 99 a).2 (nb 4 3 p B (nu cd len 99 a).1) := D1.trans (run_f h60 hc T hp hp2 hn (by omega))
    change (nu cd len 99 a).1 ≤ 99 ∧ a + 1 ≤ (nu cd len 99 a).2 ∧ (nu cd len 99 a).2 ≤ len ∧ ¬ ((nu cd len 99 a).2 < len ∧ gwB (cd (nu cd len 99 a).2) (nu cd len 99 a).1 99 = true) at ok
    clear D1 hx
    generalize nu cd len 99 a = Q at *
    obtain ⟨v, a3⟩ := Q
    dsimp only at D2 ok ⊢
    obtain ⟨o1, o2, o3, o4⟩ := ok
    rw [if_neg (show ¬ nI 1 = 0 by decide)]
    refine (tailD_ (B := nb 4 3 p B v) (M := gsa (nm M v a3) 10 (upd (M.2 10) (4 * p + 2) (nI v))) (a := a3) (p := p) (m := m) (x := v) h60 hc hn (T.nb (by decide)) hp rfl hm hBm (by omega) (upd_s _ _ _) (ty_ga (ty_gs (ty_gs Y (by decide)) (by decide))) rfl o3 hMp (by omega) ?_ ?_ ?_ o4).step D2 (frb_gs (frb_st (FRB.refl p B) (by decide) (Nat.le_refl _)) (by decide)) (km_nm fun i hi => upd_n _ _ (by omega)) (by omega)
    · rw [gsa_s, upd_n _ _ (by omega)]; exact hM0
    · rw [gsa_s, upd_n _ _ (by omega)]; exact hM1
    · rw [gsa_s, upd_s]
  · rw [if_neg c1, if_pos (show nI 0 = 0 from rfl)]
    left
    refine ⟨_, rfl, km_8, fail_ T h60 ha2 hp (fun h => by omega) hn hB (by omega) (by omega) (by omega) (fun h => ⟨B, ?_, rfl, rfl⟩) ((gsi_n _ _ (by decide)).trans ha) rfl⟩
    rw [nx_2 hB hp (by omega) (hc a h), if_neg (hw h), if_neg (fun e => c1 ⟨h, e⟩)]
theorem tailE_ {cd : Nat → Nat} {len n a p m : Nat} {B M : OB} (h60 : len ≤ 60) (hc : ∀ k, k < len → cd k < 128) (hn : 61 < n) (T : TX cd len B) (hp : B.1 6 = nI p) (hB : B.1 7 = nI 2) (hm : m < 28) (hBm : B.2 2 p = nI m) (Y : TY cd len M) (ha : M.1 7 = nI a) (ha2 : a ≤ len) (hMp : M.1 11 = nI p) (hpa : 5 * p + 1 ≤ a) (hM0 : M.2 10 (4 * p) = nI m) (hM1 : M.2 10 (4 * p + 1) = nI 1) : RES n cd len p a 2 B M (tailE n M) := by
  unfold tailE
  rw [isAt_ Y h60 hc ha (by omega) (by omega) (by omega), Option.bind_some]
  by_cases c1 : a < len ∧ cd a = 119
  · obtain ⟨c1, c2⟩ := c1
    have hp2 : p < 12 := by omega
    rw [decide_eq_true c1, Bool.true_and, c2, decide_eq_true (show 119 ≤ 119 by omega), if_neg (by decide), ha, nI_add, Option.bind_some]
    have hx := nx_2 (n := n) hB hp hp2 (hc a c1)
    rw [if_pos c2] at hx
    have D1 := d_step T h60 hp hp2 c1 hn hx
    rw [if_neg (show ¬ nI 6 = nI 8 by decide)] at D1
    exact (tailB_ (B := gsi B 7 (nI 6)) (M := gsi M 7 (nI (a + 1))) (a := a + 1) (p := p) (m := m) h60 hc hn (tx_gs T (by decide)) hp (gsi_s _ _ _) hm hBm (ty_gs Y (by decide)) (gsi_s _ _ _) (by omega) hMp (by omega) hM0).step D1 (frb_gs (FRB.refl p B) (by decide)) km_7 (by omega)
  · have hz : (decide (a < len) && (decide (119 ≤ cd a) && decide (cd a ≤ 119))) = false := by
      rw [Bool.and_eq_false_iff, Bool.and_eq_false_iff, decide_eq_false_iff_not, decide_eq_false_iff_not, decide_eq_false_iff_not]
      omega
    rw [hz, if_pos (show nI (bI false) = 0 from rfl)]
    exact (tailA_ h60 hc hn T hp hB hm hBm Y ha ha2 hMp hpa hM0 hM1 (fun h e => c1 ⟨h, e⟩)).step rfl (FRB.refl p B) (FRM.refl p M) (by omega)
theorem tailF_ {cd : Nat → Nat} {len n a p m : Nat} {B M : OB} (h60 : len ≤ 60) (hc : ∀ k, k < len → cd k < 128) (hn : 61 < n) (T : TX cd len B) (hp : B.1 6 = nI p) (hB : B.1 7 = nI 1) (hm : m < 28) (hBm : B.2 2 p = nI m) (Y : TY cd len M) (ha : M.1 7 = nI a) (ha2 : a ≤ len) (hMp : M.1 11 = nI p) (hpa : 5 * p + 1 ≤ a) (hM0 : M.2 10 (4 * p) = nI m) (hs : ¬ (a < len ∧ gwB (cd a) m 27 = true)) : RES n cd len p a 3 B M (tailF n M) := by
  unfold tailF
  rw [isSign_ Y h60 hc ha (by omega) (by omega), Option.bind_some]
  by_cases c1 : a < len ∧ cd a = 61
  · rw [if_pos c1, if_neg (show ¬ nI 1 = 0 by decide)]
    obtain ⟨c1, c2⟩ := c1
    have hp2 : p < 12 := by omega
    have hx := nx_1 (n := n) (v := m) hB hp hp2 (hc a c1) hBm (by omega)
    rw [if_pos c2] at hx
    have D1 := d_step T h60 hp hp2 c1 hn hx
    rw [if_neg (show ¬ nI 2 = nI 8 by decide)] at D1
    show RES n cd len p a 3 B M ((oast (gsi M 7 (nI (a + 1))) 10 68 (((nI 4) * (M.1 11)) + (nI 1)) (nI 1)).bind _)
    rw [hMp, pk_mul, nI_add, oast_nI (by omega) (by omega), Option.bind_some]
    refine (tailE_ (B := gsi B 7 (nI 2)) (M := gsa (gsi M 7 (nI (a + 1))) 10 (upd ((gsi M 7 (nI (a + 1))).2 10) (4 * p + 1) (nI 1))) (a := a + 1) (p := p) (m := m) h60 hc hn (tx_gs T (by decide)) hp (gsi_s _ _ _) hm hBm (ty_ga (ty_gs Y (by decide))) rfl (by omega) hMp (by omega) ?_ ?_).step D1 (frb_gs (FRB.refl p B) (by decide)) (FRM.trans (B := gsi M 7 (nI (a + 1))) ⟨⟨fun _ _ _ _ _ => rfl, fun j h10 => gsa_n _ _ h10⟩, fun i hi => ?_⟩ km_7) (by omega)
    · rw [gsa_s, upd_n _ _ (by omega)]; exact hM0
    · rw [gsa_s, upd_s]
    · rw [gsa_s, upd_n _ _ (by omega)]
  · rw [if_neg c1, if_pos (show nI 0 = 0 from rfl)]
    left
    refine ⟨_, rfl, km_8, fail_ T h60 ha2 hp (fun h => by omega) hn hB (by omega) (by omega) (by omega) (fun h => ⟨B, ?_, rfl, rfl⟩) ((gsi_n _ _ (by decide)).trans ha) rfl⟩
    rw [nx_1 (v := m) hB hp (by omega) (hc a h) hBm (by omega), if_neg (fun e => c1 ⟨h, e⟩), if_neg (fun e => hs ⟨h, e⟩)]
theorem part_ {cd : Nat → Nat} {len n a p : Nat} {B M : OB} (h60 : len ≤ 60) (hc : ∀ k, k < len → cd k < 128) (hn : 61 < n) (T : TX cd len B) (hp : B.1 6 = nI p) (hB : B.1 7 = nI 0) (Y : TY cd len M) (ha : M.1 7 = nI a) (ha2 : a ≤ len) (hMp : M.1 11 = nI p) (hpa : 5 * p ≤ a) : RES n cd len p a 4 B M (f6_isPart n M) := by
  rw [isPart_e, isNumber_ (j := 0) (hi := 27) Y h60 hc (by omega) (by omega) ha (by omega) hMp (by omega) (by omega) hn, Option.bind_some]
  by_cases c1 : a < len ∧ isD (cd a) = true
  · rw [if_pos c1]
    obtain ⟨c1, c2⟩ := c1
    have hca := hc a c1
    have hp2 : p < 12 := by omega
    obtain ⟨d1, d2⟩ := isD_t c2
    have ok := sc_ok (cd := cd) (len := len) (hi := 27) (f := 60) (v := cd a - 48) (a := a + 1) (by omega) (by omega) (by omega)
    have hx := nx_0 (n := n) hB hp hp2 hca
    rw [if_pos c2] at hx
    have D1 := d_step T h60 hp hp2 c1 hn hx
    rw [if_neg (show ¬ nI 1 = nI 8 by decide)] at D1
    have D2 : Dl n a B = Dl n (nu cd len 27 a).2 (nb 2 1 p B (nu cd len 27 a).1) := D1.trans (run_m h60 hc T hp hp2 hn (by omega))
    change (nu cd len 27 a).1 ≤ 27 ∧ a + 1 ≤ (nu cd len 27 a).2 ∧ (nu cd len 27 a).2 ≤ len ∧ ¬ ((nu cd len 27 a).2 < len ∧ gwB (cd (nu cd len 27 a).2) (nu cd len 27 a).1 27 = true) at ok
    clear D1 hx
    generalize nu cd len 27 a = Q at *
    obtain ⟨v, a3⟩ := Q
    dsimp only at D2 ok ⊢
    obtain ⟨o1, o2, o3, o4⟩ := ok
    rw [if_neg (show ¬ nI 1 = 0 by decide)]
    refine (tailF_ (B := nb 2 1 p B v) (M := gsa (nm M v a3) 10 (upd (M.2 10) (4 * p + 0) (nI v))) (a := a3) (p := p) (m := v) h60 hc hn (T.nb (by decide)) hp rfl (by omega) (upd_s _ _ _) (ty_ga (ty_gs (ty_gs Y (by decide)) (by decide))) rfl o3 hMp (by omega) ?_ o4).step D2 (frb_gs (frb_st (FRB.refl p B) (by decide) (Nat.le_refl _)) (by decide)) (km_nm fun i hi => upd_n _ _ (by omega)) (by omega)
    rw [gsa_s]
    exact upd_s _ _ _
  · rw [if_neg c1, if_pos (show nI 0 = 0 from rfl)]
    left
    refine ⟨_, rfl, km_8, fail_ T h60 ha2 hp (fun h => by omega) hn hB (by omega) (by omega) (by omega) (fun h => ⟨B, ?_, rfl, rfl⟩) ((gsi_n _ _ (by decide)).trans ha) rfl⟩
    rw [nx_0 hB hp (by omega) (hc a h), if_neg (fun e => c1 ⟨h, e⟩)]
