abbrev bX6 (cyI : ClassId) (a : Nat → Nat) (o : OB) : va_W := [(a 0, .inr (6, [.ref (a 1), .ref (a 2), .ref (a 3), .int (o.1 3), .ref (a 5), .int (o.1 5), .int (o.1 6), .int (o.1 7), .int (o.1 8), .int (o.1 9), .ref (a 11), .int (o.1 11)])), (a 1, .inl (cyI, 270, .inl (o.2 0))), (a 2, .inl (cyI, 270, .inl (o.2 1))), (a 3, .inl (cyI, 1620, .inl (o.2 2))), (a 5, .inl (cyI, 60, .inl (o.2 4))), (a 11, .inl (cyI, 68, .inl (o.2 10)))]
-- X6 thrown 
theorem iw6_thrown_X6 : ∀ w ∈ u_ws RX6 TX6 12, w ∈ wsX6_thrown := by decide +kernel
abbrev rm6_thrown : Room := { frames := 0, cells := 0, slots := 0, locals := 0 }
def f6_thrown (n : Nat) (oM : OB) : Option (Int32) :=
  some (oM.1 6)
set_option maxHeartbeats 4000000 in
set_option maxRecDepth 100000 in
theorem c6_thrown (l : Launch) (D : va_G) (cyI cyO cyJ : ClassId) (aM : Nat → Nat) (n : Nat) (oM : OB) (z : Int32) (hf : f6_thrown n oM = some z) : Ct l D (tyG cyI cyO cyJ) yX6_thrown wsX6_thrown rm6_thrown 0 0 [.ref (aM 0)] (bX6 cyI aM oM) (bX6 cyI aM oM) (some (.int z)) := by
  refine Ct.of (cc := cX6_thrown) (nL := 1) (ret := (some .int)) (lv := [(0, .ref (aM 0))]) (by decide +kernel) rfl rfl (Nat.le_of_ble_eq_true rfl) ?_
  intro p e s m args below meth c A C
  have C : Cx p s m args meth c D (tyG cyI cyO cyJ) A RX6 cX6_thrown 1 (some .int) wsX6_thrown := C
  unfold f6_thrown at hf
  refine n_aload_n C dX6_thrown_0 0 rfl rfl ?_
  refine n_get (N := 12) C dX6_thrown_1 iw6_thrown_X6 0 rfl rfl 6 (by decide) (List.mem_of_getElem? (i := 1) rfl) rfl rfl rfl ?_
  obtain rfl := Option.some.inj hf
  exact n_iret C dX6_thrown_4
-- X6 fails 
theorem iw6_fails_X6 : ∀ w ∈ u_ws RX6 TX6 12, w ∈ wsX6_fails := by decide +kernel
abbrev rm6_fails : Room := { frames := 0, cells := 0, slots := 0, locals := 0 }
def f6_fails (n : Nat) (oM : OB) (x1 : Int32) : Option (Int32 × (OB)) :=
  (some (gsi oM 6 x1)).bind fun oM_2 => some ((nI 0), oM_2)
set_option maxHeartbeats 4000000 in
set_option maxRecDepth 100000 in
theorem c6_fails (l : Launch) (D : va_G) (cyI cyO cyJ : ClassId) (aM : Nat → Nat) (n : Nat) (oM : OB) (x1 : Int32) (z : Int32 × (OB)) (hf : f6_fails n oM x1 = some z) : Ct l D (tyG cyI cyO cyJ) yX6_fails wsX6_fails rm6_fails 0 0 [.ref (aM 0), .int x1] (bX6 cyI aM oM) (bX6 cyI aM z.2) (some (.int z.1)) := by
  refine Ct.of (cc := cX6_fails) (nL := 2) (ret := (some .int)) (lv := [(0, .ref (aM 0)), (1, .int x1)]) (by decide +kernel) rfl rfl (Nat.le_of_ble_eq_true rfl) ?_
  intro p e s m args below meth c A C
  have C : Cx p s m args meth c D (tyG cyI cyO cyJ) A RX6 cX6_fails 2 (some .int) wsX6_fails := C
  unfold f6_fails at hf
  refine n_aload_n C dX6_fails_0 0 rfl rfl ?_
  refine n_iload_n C dX6_fails_1 1 rfl rfl ?_
  obtain ⟨oM_2, e2, hf⟩ := bi hf
  replace e2 := Option.some.inj e2
  refine n_put (w2 := bX6 cyI aM oM_2) (N := 12) (ty := .int) C dX6_fails_2 iw6_fails_X6 tyX6_ok nmX6 0 rfl rfl 6 (by decide) (List.mem_of_getElem? (i := 1) rfl) rfl rfl (by decide +kernel) rfl rfl (Nat.le_of_ble_eq_true rfl) (by subst e2; rfl) rfl ?_
  refine n_iconst (v := (nI 0)) C dX6_fails_5 (by decide) rfl ?_
  obtain rfl := Option.some.inj hf
  exact n_iret C dX6_fails_6
-- X6 in 
abbrev rm6_in : Room := { frames := 0, cells := 0, slots := 0, locals := 0 }
def f6_in (n : Nat) (x0 : Int32) (x1 : Int32) (x2 : Int32) : Option (Int32) :=
  (if x0 < x1 then some (nI 0) else (if x2 < x0 then some (nI 0) else some (nI 1)))
set_option maxHeartbeats 4000000 in
set_option maxRecDepth 100000 in
theorem c6_in (l : Launch) (D : va_G) (cyI cyO cyJ : ClassId) (n : Nat) (x0 : Int32) (x1 : Int32) (x2 : Int32) (z : Int32) (hf : f6_in n x0 x1 x2 = some z) : Ct l D (tyG cyI cyO cyJ) yX6_in wsX6_in rm6_in 0 0 [.int x0, .int x1, .int x2] (([] : va_W)) (([] : va_W)) (some (.int z)) := by
  refine Ct.of (cc := cX6_in) (nL := 3) (ret := (some .boolean)) (lv := [(0, .int x0), (1, .int x1), (2, .int x2)]) (by decide +kernel) rfl rfl (Nat.le_of_ble_eq_true rfl) ?_
  intro p e s m args below meth c A C
  have C : Cx p s m args meth c D (tyG cyI cyO cyJ) A RX6 cX6_in 3 (some .boolean) wsX6_in := C
  unfold f6_in at hf
  refine n_iload_n C dX6_in_0 0 rfl rfl ?_
  refine n_iload_n C dX6_in_1 1 rfl rfl ?_
  refine n_icmp_lt (t := 14) C dX6_in_2 (by decide) rfl (fun h2 => ?_) (fun h2 => ?_)
  · have hf := ip h2 hf
    refine n_iconst (v := (nI 0)) C dX6_in_14 (by decide) rfl ?_
    obtain rfl := Option.some.inj hf
    exact n_zret C dX6_in_15 (Or.inl rfl)
  · have hf := iq h2 hf
    refine n_iload_n C dX6_in_5 0 rfl rfl ?_
    refine n_iload_n C dX6_in_6 2 rfl rfl ?_
    refine n_icmp_gt (t := 14) C dX6_in_7 (by decide) rfl (fun h7 => ?_) (fun h7 => ?_)
    · have hf := ip h7 hf
      refine n_iconst (v := (nI 0)) C dX6_in_14 (by decide) rfl ?_
      obtain rfl := Option.some.inj hf
      exact n_zret C dX6_in_15 (Or.inl rfl)
    · have hf := iq h7 hf
      refine n_iconst (v := (nI 1)) C dX6_in_10 (by decide) rfl ?_
      refine n_goto (t := 15) C dX6_in_11 (by decide) ?_
      obtain rfl := Option.some.inj hf
      exact n_zret C dX6_in_15 (Or.inr rfl)
-- X6 isMatch 
theorem iw6_isMatch_X6 : ∀ w ∈ u_ws RX6 TX6 12, w ∈ wsX6_isMatch := by decide +kernel
abbrev rm6_isMatch : Room := { frames := 1, cells := 0, slots := 0, locals := 22 }
def f6_isMatch (n : Nat) (oM : OB) (x1 : Int32) : Option (Int32) :=
  (ald 270 (oM.2 0) (nI 5)).bind fun x7 => (f6_in n x1 (nI 0) (x7 - (nI 1))).bind fun z10 => (zo z10).bind fun y13 => some y13
set_option maxHeartbeats 4000000 in
set_option maxRecDepth 100000 in
theorem c6_isMatch (l : Launch) (D : va_G) (cyI cyO cyJ : ClassId) (aM : Nat → Nat) (n : Nat) (oM : OB) (x1 : Int32) (z : Int32) (hf : f6_isMatch n oM x1 = some z) : Ct l D (tyG cyI cyO cyJ) yX6_isMatch wsX6_isMatch rm6_isMatch 0 0 [.ref (aM 0), .int x1] (bX6 cyI aM oM) (bX6 cyI aM oM) (some (.int z)) := by
  refine Ct.of (cc := cX6_isMatch) (nL := 2) (ret := (some .boolean)) (lv := [(0, .ref (aM 0)), (1, .int x1)]) (by decide +kernel) rfl rfl (Nat.le_of_ble_eq_true rfl) ?_
  intro p e s m args below meth c A C
  have C : Cx p s m args meth c D (tyG cyI cyO cyJ) A RX6 cX6_isMatch 2 (some .boolean) wsX6_isMatch := C
  unfold f6_isMatch at hf
  refine n_iload_n C dX6_isMatch_0 1 rfl rfl ?_
  refine n_iconst (v := (nI 0)) C dX6_isMatch_1 (by decide) rfl ?_
  refine n_aload_n C dX6_isMatch_2 0 rfl rfl ?_
  refine n_get (N := 12) C dX6_isMatch_3 iw6_isMatch_X6 0 rfl rfl 0 (by decide) (List.mem_of_getElem? (i := 1) rfl) rfl rfl rfl ?_
  refine n_iconst (v := (nI 5)) C dX6_isMatch_6 (by decide) rfl ?_
  obtain ⟨x7, h7, hf⟩ := bi hf
  obtain ⟨h7, e7⟩ := ald_some h7
  refine n_iald C dX6_isMatch_7 1 0 rfl rfl h7 rfl ?_
  rw [← e7]
  refine n_iconst (v := (nI 1)) C dX6_isMatch_8 (by decide) rfl ?_
  refine n_isub C dX6_isMatch_9 rfl ?_
  obtain ⟨z10, h10, hf⟩ := bi hf
  refine n_callS (As := [.int x1, .int (nI 0), .int (x7 - (nI 1))]) (rest := []) (w2 := bX6 cyI aM oM) C dX6_isMatch_10 (c6_in l D cyI cyO cyJ  n x1 (nI 0) (x7 - (nI 1)) z10 h10) (va_cwS 3 C.ts gX6_isMatch_X6_in rfl rfl rfl (by decide +kernel) ⟨Nat.le_of_ble_eq_true rfl, Nat.le_of_ble_eq_true rfl⟩) rfl Frm.none rfl (Nat.le_of_ble_eq_true rfl) ⟨Nat.le_of_ble_eq_true rfl, Nat.le_of_ble_eq_true rfl⟩ rfl ?_
  obtain ⟨y13, h13, hf⟩ := bi hf
  obtain ⟨h13, e13⟩ := zo_some h13
  obtain rfl := Option.some.inj hf
  subst e13
  exact n_zret C dX6_isMatch_13 (by assumption)
-- X6 isTeam 
theorem iw6_isTeam_X6 : ∀ w ∈ u_ws RX6 TX6 12, w ∈ wsX6_isTeam := by decide +kernel
abbrev rm6_isTeam : Room := { frames := 1, cells := 0, slots := 0, locals := 22 }
def f6_isTeam (n : Nat) (oM : OB) (x1 : Int32) : Option (Int32) :=
  (ald 270 (oM.2 0) (nI 4)).bind fun x7 => (f6_in n x1 (nI 0) (x7 - (nI 1))).bind fun z10 => (zo z10).bind fun y13 => some y13
set_option maxHeartbeats 4000000 in
set_option maxRecDepth 100000 in
theorem c6_isTeam (l : Launch) (D : va_G) (cyI cyO cyJ : ClassId) (aM : Nat → Nat) (n : Nat) (oM : OB) (x1 : Int32) (z : Int32) (hf : f6_isTeam n oM x1 = some z) : Ct l D (tyG cyI cyO cyJ) yX6_isTeam wsX6_isTeam rm6_isTeam 0 0 [.ref (aM 0), .int x1] (bX6 cyI aM oM) (bX6 cyI aM oM) (some (.int z)) := by
  refine Ct.of (cc := cX6_isTeam) (nL := 2) (ret := (some .boolean)) (lv := [(0, .ref (aM 0)), (1, .int x1)]) (by decide +kernel) rfl rfl (Nat.le_of_ble_eq_true rfl) ?_
  intro p e s m args below meth c A C
  have C : Cx p s m args meth c D (tyG cyI cyO cyJ) A RX6 cX6_isTeam 2 (some .boolean) wsX6_isTeam := C
  unfold f6_isTeam at hf
  refine n_iload_n C dX6_isTeam_0 1 rfl rfl ?_
  refine n_iconst (v := (nI 0)) C dX6_isTeam_1 (by decide) rfl ?_
  refine n_aload_n C dX6_isTeam_2 0 rfl rfl ?_
  refine n_get (N := 12) C dX6_isTeam_3 iw6_isTeam_X6 0 rfl rfl 0 (by decide) (List.mem_of_getElem? (i := 1) rfl) rfl rfl rfl ?_
  refine n_iconst (v := (nI 4)) C dX6_isTeam_6 (by decide) rfl ?_
  obtain ⟨x7, h7, hf⟩ := bi hf
  obtain ⟨h7, e7⟩ := ald_some h7
  refine n_iald C dX6_isTeam_7 1 0 rfl rfl h7 rfl ?_
  rw [← e7]
  refine n_iconst (v := (nI 1)) C dX6_isTeam_8 (by decide) rfl ?_
  refine n_isub C dX6_isTeam_9 rfl ?_
  obtain ⟨z10, h10, hf⟩ := bi hf
  refine n_callS (As := [.int x1, .int (nI 0), .int (x7 - (nI 1))]) (rest := []) (w2 := bX6 cyI aM oM) C dX6_isTeam_10 (c6_in l D cyI cyO cyJ  n x1 (nI 0) (x7 - (nI 1)) z10 h10) (va_cwS 3 C.ts gX6_isTeam_X6_in rfl rfl rfl (by decide +kernel) ⟨Nat.le_of_ble_eq_true rfl, Nat.le_of_ble_eq_true rfl⟩) rfl Frm.none rfl (Nat.le_of_ble_eq_true rfl) ⟨Nat.le_of_ble_eq_true rfl, Nat.le_of_ble_eq_true rfl⟩ rfl ?_
  obtain ⟨y13, h13, hf⟩ := bi hf
  obtain ⟨h13, e13⟩ := zo_some h13
  obtain rfl := Option.some.inj hf
  subst e13
  exact n_zret C dX6_isTeam_13 (by assumption)
-- X6 of 
abbrev rm6_of : Room := { frames := 0, cells := 0, slots := 0, locals := 0 }
def f6_of (n : Nat) (oR : Nat → Int32) (x1 : Int32) (x2 : Int32) : Option (Int32) :=
  (ald 270 oR (((nI 18) + ((nI 9) * x1)) + x2)).bind fun x10 => some x10
set_option maxHeartbeats 4000000 in
set_option maxRecDepth 100000 in
theorem c6_of (l : Launch) (D : va_G) (cyI cyO cyJ : ClassId) (aR : Nat) (n : Nat) (oR : Nat → Int32) (x1 : Int32) (x2 : Int32) (z : Int32) (hf : f6_of n oR x1 x2 = some z) : Ct l D (tyG cyI cyO cyJ) yX6_of wsX6_of rm6_of 0 0 [.ref aR, .int x1, .int x2] ([(aR, .inl (cyI, 270, .inl oR))]) ([(aR, .inl (cyI, 270, .inl oR))]) (some (.int z)) := by
  refine Ct.of (cc := cX6_of) (nL := 3) (ret := (some .int)) (lv := [(0, .ref aR), (1, .int x1), (2, .int x2)]) (by decide +kernel) rfl rfl (Nat.le_of_ble_eq_true rfl) ?_
  intro p e s m args below meth c A C
  have C : Cx p s m args meth c D (tyG cyI cyO cyJ) A RX6 cX6_of 3 (some .int) wsX6_of := C
  unfold f6_of at hf
  refine n_aload_n C dX6_of_0 0 rfl rfl ?_
  refine n_bipush (v := (nI 18)) C dX6_of_1 (by decide) rfl ?_
  refine n_bipush (v := (nI 9)) C dX6_of_3 (by decide) rfl ?_
  refine n_iload_n C dX6_of_5 1 rfl rfl ?_
  refine n_imul C dX6_of_6 rfl ?_
  refine n_iadd C dX6_of_7 rfl ?_
  refine n_iload_n C dX6_of_8 2 rfl rfl ?_
  refine n_iadd C dX6_of_9 rfl ?_
  obtain ⟨x10, h10, hf⟩ := bi hf
  obtain ⟨h10, e10⟩ := ald_some h10
  refine n_iald C dX6_of_10 0 0 rfl rfl h10 rfl ?_
  rw [← e10]
  obtain rfl := Option.some.inj hf
  exact n_iret C dX6_of_11
-- X6 rounds 
abbrev rm6_rounds : Room := { frames := 0, cells := 0, slots := 0, locals := 0 }
def f6_rounds (n : Nat) (oR : Nat → Int32) : Option (Int32) :=
  (ald 270 oR (nI 4)).bind fun x2 => (ald 270 oR (nI 4)).bind fun x7 => some ((x2 - (nI 1)) + (x7 - x7 / (nI 2) * (nI 2)))
set_option maxHeartbeats 4000000 in
set_option maxRecDepth 100000 in
theorem c6_rounds (l : Launch) (D : va_G) (cyI cyO cyJ : ClassId) (aR : Nat) (n : Nat) (oR : Nat → Int32) (z : Int32) (hf : f6_rounds n oR = some z) : Ct l D (tyG cyI cyO cyJ) yX6_rounds wsX6_rounds rm6_rounds 0 0 [.ref aR] ([(aR, .inl (cyI, 270, .inl oR))]) ([(aR, .inl (cyI, 270, .inl oR))]) (some (.int z)) := by
  refine Ct.of (cc := cX6_rounds) (nL := 1) (ret := (some .int)) (lv := [(0, .ref aR)]) (by decide +kernel) rfl rfl (Nat.le_of_ble_eq_true rfl) ?_
  intro p e s m args below meth c A C
  have C : Cx p s m args meth c D (tyG cyI cyO cyJ) A RX6 cX6_rounds 1 (some .int) wsX6_rounds := C
  unfold f6_rounds at hf
  refine n_aload_n C dX6_rounds_0 0 rfl rfl ?_
  refine n_iconst (v := (nI 4)) C dX6_rounds_1 (by decide) rfl ?_
  obtain ⟨x2, h2, hf⟩ := bi hf
  obtain ⟨h2, e2⟩ := ald_some h2
  refine n_iald C dX6_rounds_2 0 0 rfl rfl h2 rfl ?_
  rw [← e2]
  refine n_iconst (v := (nI 1)) C dX6_rounds_3 (by decide) rfl ?_
  refine n_isub C dX6_rounds_4 rfl ?_
  refine n_aload_n C dX6_rounds_5 0 rfl rfl ?_
  refine n_iconst (v := (nI 4)) C dX6_rounds_6 (by decide) rfl ?_
  obtain ⟨x7, h7, hf⟩ := bi hf
  obtain ⟨h7, e7⟩ := ald_some h7
  refine n_iald C dX6_rounds_7 0 0 rfl rfl h7 rfl ?_
  rw [← e7]
  refine n_iconst (v := (nI 2)) C dX6_rounds_8 (by decide) rfl ?_
  refine n_irem C dX6_rounds_9 (by decide) rfl ?_
  refine n_iadd C dX6_rounds_10 rfl ?_
  obtain rfl := Option.some.inj hf
  exact n_iret C dX6_rounds_11
-- X6 copies 
abbrev rm6_copies : Room := { frames := 0, cells := 0, slots := 0, locals := 0 }
def f6_copies_b3 (n : Nat) (nP : Nat) (oP : Nat → Int32) (nR : Nat) (x1 : Int32) (x3 : Int32) : Nat → Int32 → (Nat → Int32) → Option ((Nat → Int32))
  | 0, _, _ => none
  | k + 1, v4, oR =>
    (if (nI 270) ≤ v4 then some oR else (ald nP oP (x1 + v4)).bind fun x21 => (ast nR oR (x3 + v4) x21).bind fun oR_22 => (f6_copies_b3 n nP oP nR x1 x3 k) (v4 + (nI 1)) oR_22)
def f6_copies (n : Nat) (nP : Nat) (oP : Nat → Int32) (nR : Nat) (oR : Nat → Int32) (x1 : Int32) (x3 : Int32) : Option ((Nat → Int32)) :=
  f6_copies_b3 n nP oP nR x1 x3 n (nI 0) oR
set_option maxHeartbeats 4000000 in
set_option maxRecDepth 100000 in
theorem t6_copies_b3 {l : Launch} {p : Program} {e : Env} {s : State} {m : MethodId} {args : Array Value} {below : List Frame} {meth : Method} {c : Code} {D : va_G} {A : Nat → Prop} {cyI cyO cyJ : ClassId} {aP : Nat} {aR : Nat} (C : Cx p s m args meth c D (tyG cyI cyO cyJ) A RX6 cX6_copies 5 none wsX6_copies) {z : (Nat → Int32)} (n : Nat) (nP : Nat) (oP : Nat → Int32) (nR : Nat) (x1 : Int32) (x3 : Int32) : ∀ (k : Nat) (v4 : Int32) (oR : Nat → Int32), f6_copies_b3 n nP oP nR x1 x3 k v4 oR = some z → Wn p l e rm6_copies s m args below meth c D A 5 0 0 (MQ below (Qr D (tyG cyI cyO cyJ) ([(aP, .inl (cyI, nP, .inl oP))] ++ [(aR, .inl (cyI, nR, .inl z))]) A none) args s 0 0 A) ([(aP, .inl (cyI, nP, .inl oP))] ++ [(aR, .inl (cyI, nR, .inl oR))]) 3 [(0, .ref aP), (1, .int x1), (2, .ref aR), (3, .int x3), (4, .int v4)] [] := by
  intro k
  induction k with
  | zero => intro  v4 oR hf; cases hf
  | succ k ih =>
    intro  v4 oR hf
    unfold f6_copies_b3 at hf
    refine n_iload C dX6_copies_3 4 rfl rfl ?_
    refine n_sipush (v := (nI 270)) C dX6_copies_5 (by decide) rfl ?_
    refine n_icmp_ge (t := 29) C dX6_copies_8 (by decide) rfl (fun h8 => ?_) (fun h8 => ?_)
    · have hf := ip h8 hf
      obtain rfl := Option.some.inj hf
      exact n_vret C dX6_copies_29
    · have hf := iq h8 hf
      refine n_aload_n C dX6_copies_11 2 rfl rfl ?_
      refine n_iload_n C dX6_copies_12 3 rfl rfl ?_
      refine n_iload C dX6_copies_13 4 rfl rfl ?_
      refine n_iadd C dX6_copies_15 rfl ?_
      refine n_aload_n C dX6_copies_16 0 rfl rfl ?_
      refine n_iload_n C dX6_copies_17 1 rfl rfl ?_
      refine n_iload C dX6_copies_18 4 rfl rfl ?_
      refine n_iadd C dX6_copies_20 rfl ?_
      obtain ⟨x21, h21, hf⟩ := bi hf
      obtain ⟨h21, e21⟩ := ald_some h21
      refine n_iald C dX6_copies_21 0 0 rfl rfl h21 rfl ?_
      rw [← e21]
      obtain ⟨oR_22, h22, hf⟩ := bi hf
      obtain ⟨h22, e22⟩ := ast_some h22
      refine n_iast (w2 := [(aP, .inl (cyI, nP, .inl oP))] ++ [(aR, .inl (cyI, nR, .inl oR_22))]) C dX6_copies_22 1 0 rfl rfl h22 (by subst e22; rfl) rfl ?_
      refine n_iinc (v := v4 + (nI 1)) (lv' := [(4, .int (v4 + (nI 1))), (0, .ref aP), (1, .int x1), (2, .ref aR), (3, .int x3)]) C dX6_copies_23 (j := 4) rfl rfl (by decide) rfl rfl ?_
      refine n_goto (t := 3) C dX6_copies_26 (by decide) ?_
      exact Wn.sub (lv' := [(0, .ref aP), (1, .int x1), (2, .ref aR), (3, .int x3), (4, .int (v4 + (nI 1)))]) [1, 2, 3, 4, 0] rfl (ih (v4 + (nI 1)) oR_22 hf)
set_option maxHeartbeats 4000000 in
set_option maxRecDepth 100000 in
theorem c6_copies (l : Launch) (D : va_G) (cyI cyO cyJ : ClassId) (aP : Nat) (aR : Nat) (n : Nat) (nP : Nat) (oP : Nat → Int32) (nR : Nat) (oR : Nat → Int32) (x1 : Int32) (x3 : Int32) (z : (Nat → Int32)) (hf : f6_copies n nP oP nR oR x1 x3 = some z) : Ct l D (tyG cyI cyO cyJ) yX6_copies wsX6_copies rm6_copies 0 0 [.ref aP, .int x1, .ref aR, .int x3] ([(aP, .inl (cyI, nP, .inl oP))] ++ [(aR, .inl (cyI, nR, .inl oR))]) ([(aP, .inl (cyI, nP, .inl oP))] ++ [(aR, .inl (cyI, nR, .inl z))]) none := by
  refine Ct.of (cc := cX6_copies) (nL := 5) (ret := none) (lv := [(0, .ref aP), (1, .int x1), (2, .ref aR), (3, .int x3)]) (by decide +kernel) rfl rfl (Nat.le_of_ble_eq_true rfl) ?_
  intro p e s m args below meth c A C
  have C : Cx p s m args meth c D (tyG cyI cyO cyJ) A RX6 cX6_copies 5 none wsX6_copies := C
  unfold f6_copies at hf
  refine n_iconst (v := (nI 0)) C dX6_copies_0 (by decide) rfl ?_
  refine n_istore (lv' := [(4, .int (nI 0)), (0, .ref aP), (1, .int x1), (2, .ref aR), (3, .int x3)]) C dX6_copies_1 (by decide) rfl rfl ?_
  exact Wn.sub (lv' := [(0, .ref aP), (1, .int x1), (2, .ref aR), (3, .int x3), (4, .int (nI 0))]) [1, 2, 3, 4, 0] rfl (t6_copies_b3 C n nP oP nR x1 x3 n (nI 0) oR hf)
-- X6 copies b
abbrev rm6_copies_b : Room := { frames := 0, cells := 0, slots := 0, locals := 0 }
def f6_copies_b_b3 (n : Nat) (nR : Nat) (nP : Nat) (oP : Nat → Int32) (x1 : Int32) (x3 : Int32) : Nat → Int32 → (Nat → Int32) → Option ((Nat → Int32))
  | 0, _, _ => none
  | k + 1, v4, oR =>
    (if (nI 270) ≤ v4 then some oR else (ald nP oP (x1 + v4)).bind fun x21 => (ast nR oR (x3 + v4) x21).bind fun oR_22 => (f6_copies_b_b3 n nR nP oP x1 x3 k) (v4 + (nI 1)) oR_22)
def f6_copies_b (n : Nat) (nR : Nat) (oR : Nat → Int32) (nP : Nat) (oP : Nat → Int32) (x1 : Int32) (x3 : Int32) : Option ((Nat → Int32)) :=
  f6_copies_b_b3 n nR nP oP x1 x3 n (nI 0) oR
set_option maxHeartbeats 4000000 in
set_option maxRecDepth 100000 in
theorem t6_copies_b_b3 {l : Launch} {p : Program} {e : Env} {s : State} {m : MethodId} {args : Array Value} {below : List Frame} {meth : Method} {c : Code} {D : va_G} {A : Nat → Prop} {cyI cyO cyJ : ClassId} {aR : Nat} {aP : Nat} (C : Cx p s m args meth c D (tyG cyI cyO cyJ) A RX6 cX6_copies 5 none wsX6_copies) {z : (Nat → Int32)} (n : Nat) (nR : Nat) (nP : Nat) (oP : Nat → Int32) (x1 : Int32) (x3 : Int32) : ∀ (k : Nat) (v4 : Int32) (oR : Nat → Int32), f6_copies_b_b3 n nR nP oP x1 x3 k v4 oR = some z → Wn p l e rm6_copies_b s m args below meth c D A 5 0 0 (MQ below (Qr D (tyG cyI cyO cyJ) ([(aR, .inl (cyI, nR, .inl z))] ++ [(aP, .inl (cyI, nP, .inl oP))]) A none) args s 0 0 A) ([(aR, .inl (cyI, nR, .inl oR))] ++ [(aP, .inl (cyI, nP, .inl oP))]) 3 [(0, .ref aP), (1, .int x1), (2, .ref aR), (3, .int x3), (4, .int v4)] [] := by
  intro k
  induction k with
  | zero => intro  v4 oR hf; cases hf
  | succ k ih =>
    intro  v4 oR hf
    unfold f6_copies_b_b3 at hf
    refine n_iload C dX6_copies_3 4 rfl rfl ?_
    refine n_sipush (v := (nI 270)) C dX6_copies_5 (by decide) rfl ?_
    refine n_icmp_ge (t := 29) C dX6_copies_8 (by decide) rfl (fun h8 => ?_) (fun h8 => ?_)
    · have hf := ip h8 hf
      obtain rfl := Option.some.inj hf
      exact n_vret C dX6_copies_29
    · have hf := iq h8 hf
      refine n_aload_n C dX6_copies_11 2 rfl rfl ?_
      refine n_iload_n C dX6_copies_12 3 rfl rfl ?_
      refine n_iload C dX6_copies_13 4 rfl rfl ?_
      refine n_iadd C dX6_copies_15 rfl ?_
      refine n_aload_n C dX6_copies_16 0 rfl rfl ?_
      refine n_iload_n C dX6_copies_17 1 rfl rfl ?_
      refine n_iload C dX6_copies_18 4 rfl rfl ?_
      refine n_iadd C dX6_copies_20 rfl ?_
      obtain ⟨x21, h21, hf⟩ := bi hf
      obtain ⟨h21, e21⟩ := ald_some h21
      refine n_iald C dX6_copies_21 1 0 rfl rfl h21 rfl ?_
      rw [← e21]
      obtain ⟨oR_22, h22, hf⟩ := bi hf
      obtain ⟨h22, e22⟩ := ast_some h22
      refine n_iast (w2 := [(aR, .inl (cyI, nR, .inl oR_22))] ++ [(aP, .inl (cyI, nP, .inl oP))]) C dX6_copies_22 0 0 rfl rfl h22 (by subst e22; rfl) rfl ?_
      refine n_iinc (v := v4 + (nI 1)) (lv' := [(4, .int (v4 + (nI 1))), (0, .ref aP), (1, .int x1), (2, .ref aR), (3, .int x3)]) C dX6_copies_23 (j := 4) rfl rfl (by decide) rfl rfl ?_
      refine n_goto (t := 3) C dX6_copies_26 (by decide) ?_
      exact Wn.sub (lv' := [(0, .ref aP), (1, .int x1), (2, .ref aR), (3, .int x3), (4, .int (v4 + (nI 1)))]) [1, 2, 3, 4, 0] rfl (ih (v4 + (nI 1)) oR_22 hf)
set_option maxHeartbeats 4000000 in
set_option maxRecDepth 100000 in
theorem c6_copies_b (l : Launch) (D : va_G) (cyI cyO cyJ : ClassId) (aR : Nat) (aP : Nat) (n : Nat) (nR : Nat) (oR : Nat → Int32) (nP : Nat) (oP : Nat → Int32) (x1 : Int32) (x3 : Int32) (z : (Nat → Int32)) (hf : f6_copies_b n nR oR nP oP x1 x3 = some z) : Ct l D (tyG cyI cyO cyJ) yX6_copies wsX6_copies rm6_copies_b 0 0 [.ref aP, .int x1, .ref aR, .int x3] ([(aR, .inl (cyI, nR, .inl oR))] ++ [(aP, .inl (cyI, nP, .inl oP))]) ([(aR, .inl (cyI, nR, .inl z))] ++ [(aP, .inl (cyI, nP, .inl oP))]) none := by
  refine Ct.of (cc := cX6_copies) (nL := 5) (ret := none) (lv := [(0, .ref aP), (1, .int x1), (2, .ref aR), (3, .int x3)]) (by decide +kernel) rfl rfl (Nat.le_of_ble_eq_true rfl) ?_
  intro p e s m args below meth c A C
  have C : Cx p s m args meth c D (tyG cyI cyO cyJ) A RX6 cX6_copies 5 none wsX6_copies := C
  unfold f6_copies_b at hf
  refine n_iconst (v := (nI 0)) C dX6_copies_0 (by decide) rfl ?_
  refine n_istore (lv' := [(4, .int (nI 0)), (0, .ref aP), (1, .int x1), (2, .ref aR), (3, .int x3)]) C dX6_copies_1 (by decide) rfl rfl ?_
  exact Wn.sub (lv' := [(0, .ref aP), (1, .int x1), (2, .ref aR), (3, .int x3), (4, .int (nI 0))]) [1, 2, 3, 4, 0] rfl (t6_copies_b_b3 C n nR nP oP x1 x3 n (nI 0) oR hf)
-- X6 saves 
theorem iw6_saves_X6 : ∀ w ∈ u_ws RX6 TX6 12, w ∈ wsX6_saves := by decide +kernel
abbrev rm6_saves : Room := { frames := 1, cells := 0, slots := 0, locals := 24 }
def f6_saves_b50 (n : Nat) (oM : OB) : Option ((OB)) :=
  (f6_copies n 270 (oM.2 0) 1620 (oM.2 2) (nI 0) ((nI 270) * (oM.1 3))).bind fun z67 => (some (gsi (gsa oM 2 z67) 3 (((gsa oM 2 z67).1 3) + (nI 1)))).bind fun oM_77 => some oM_77
def f6_saves_b40 (n : Nat) (oM : OB) : Option ((OB)) :=
  (some (gsi oM 3 ((oM.1 3) - (nI 1)))).bind fun oM_47 => f6_saves_b50 n oM_47
def f6_saves_b11 (n : Nat) (k40 : OB → Option ((OB))) : Nat → Int32 → OB → Option ((OB))
  | 0, _, _ => none
  | k + 1, v1, oM =>
    (if (nI 1350) ≤ v1 then k40 oM else (ald 1620 (oM.2 2) (v1 + (nI 270))).bind fun x32 => (oast oM 2 1620 v1 x32).bind fun oM_33 => (f6_saves_b11 n k40 k) (v1 + (nI 1)) oM_33)
def f6_saves (n : Nat) (oM : OB) : Option ((OB)) :=
  (if (oM.1 3) = (nI 6) then f6_saves_b11 n (fun oM => f6_saves_b40 n oM) n (nI 0) oM else f6_saves_b50 n oM)
set_option maxHeartbeats 4000000 in
set_option maxRecDepth 100000 in
theorem t6_saves_b50 {l : Launch} {p : Program} {e : Env} {s : State} {m : MethodId} {args : Array Value} {below : List Frame} {meth : Method} {c : Code} {D : va_G} {A : Nat → Prop} {cyI cyO cyJ : ClassId} {aM : Nat → Nat} (C : Cx p s m args meth c D (tyG cyI cyO cyJ) A RX6 cX6_saves 2 none wsX6_saves) {z : (OB)} (n : Nat) (oM : OB) (hf : f6_saves_b50 n oM = some z) : Wn p l e rm6_saves s m args below meth c D A 2 0 0 (MQ below (Qr D (tyG cyI cyO cyJ) (bX6 cyI aM z) A none) args s 0 0 A) (bX6 cyI aM oM) 50 [(0, .ref (aM 0))] [] := by
  unfold f6_saves_b50 at hf
  refine n_aload_n C dX6_saves_50 0 rfl rfl ?_
  refine n_get (N := 12) C dX6_saves_51 iw6_saves_X6 0 rfl rfl 0 (by decide) (List.mem_of_getElem? (i := 3) rfl) rfl rfl rfl ?_
  refine n_iconst (v := (nI 0)) C dX6_saves_54 (by decide) rfl ?_
  refine n_aload_n C dX6_saves_55 0 rfl rfl ?_
  refine n_get (N := 12) C dX6_saves_56 iw6_saves_X6 0 rfl rfl 2 (by decide) (List.mem_of_getElem? (i := 2) rfl) rfl rfl rfl ?_
  refine n_sipush (v := (nI 270)) C dX6_saves_59 (by decide) rfl ?_
  refine n_aload_n C dX6_saves_62 0 rfl rfl ?_
  refine n_get (N := 12) C dX6_saves_63 iw6_saves_X6 0 rfl rfl 3 (by decide) (List.mem_of_getElem? (i := 1) rfl) rfl rfl rfl ?_
  refine n_imul C dX6_saves_66 rfl ?_
  obtain ⟨z67, h67, hf⟩ := bi hf
  refine n_callS (As := [.ref (aM 1), .int (nI 0), .ref (aM 3), .int ((nI 270) * (oM.1 3))]) (rest := []) (w2 := bX6 cyI aM (gsa oM 2 z67)) C dX6_saves_67 (c6_copies l D cyI cyO cyJ (aM 1) (aM 3) n 270 (oM.2 0) 1620 (oM.2 2) (nI 0) ((nI 270) * (oM.1 3)) z67 h67) (va_cwS 4 C.ts gX6_saves_X6_copies rfl rfl rfl (by decide +kernel) ⟨Nat.le_of_ble_eq_true rfl, Nat.le_of_ble_eq_true rfl⟩) rfl (Frm.skipc (Frm.takec (Frm.skipc (Frm.takec Frm.none)))) rfl (Nat.le_of_ble_eq_true rfl) ⟨Nat.le_of_ble_eq_true rfl, Nat.le_of_ble_eq_true rfl⟩ rfl ?_
  refine n_aload_n C dX6_saves_70 0 rfl rfl ?_
  refine n_dup C dX6_saves_71 rfl rfl ?_
  refine n_get (N := 12) C dX6_saves_72 iw6_saves_X6 0 rfl rfl 3 (by decide) (List.mem_of_getElem? (i := 1) rfl) rfl rfl rfl ?_
  refine n_iconst (v := (nI 1)) C dX6_saves_75 (by decide) rfl ?_
  refine n_iadd C dX6_saves_76 rfl ?_
  obtain ⟨oM_77, e77, hf⟩ := bi hf
  replace e77 := Option.some.inj e77
  refine n_put (w2 := bX6 cyI aM oM_77) (N := 12) (ty := .int) C dX6_saves_77 iw6_saves_X6 tyX6_ok nmX6 0 rfl rfl 3 (by decide) (List.mem_of_getElem? (i := 1) rfl) rfl rfl (by decide +kernel) rfl rfl (Nat.le_of_ble_eq_true rfl) (by subst e77; rfl) rfl ?_
  obtain rfl := Option.some.inj hf
  exact n_vret C dX6_saves_80
set_option maxHeartbeats 4000000 in
set_option maxRecDepth 100000 in
theorem t6_saves_b40 {l : Launch} {p : Program} {e : Env} {s : State} {m : MethodId} {args : Array Value} {below : List Frame} {meth : Method} {c : Code} {D : va_G} {A : Nat → Prop} {cyI cyO cyJ : ClassId} {aM : Nat → Nat} (C : Cx p s m args meth c D (tyG cyI cyO cyJ) A RX6 cX6_saves 2 none wsX6_saves) {z : (OB)} (n : Nat) (oM : OB) (hf : f6_saves_b40 n oM = some z) : Wn p l e rm6_saves s m args below meth c D A 2 0 0 (MQ below (Qr D (tyG cyI cyO cyJ) (bX6 cyI aM z) A none) args s 0 0 A) (bX6 cyI aM oM) 40 [(0, .ref (aM 0))] [] := by
  unfold f6_saves_b40 at hf
  refine n_aload_n C dX6_saves_40 0 rfl rfl ?_
  refine n_dup C dX6_saves_41 rfl rfl ?_
  refine n_get (N := 12) C dX6_saves_42 iw6_saves_X6 0 rfl rfl 3 (by decide) (List.mem_of_getElem? (i := 1) rfl) rfl rfl rfl ?_
  refine n_iconst (v := (nI 1)) C dX6_saves_45 (by decide) rfl ?_
  refine n_isub C dX6_saves_46 rfl ?_
  obtain ⟨oM_47, e47, hf⟩ := bi hf
  replace e47 := Option.some.inj e47
  refine n_put (w2 := bX6 cyI aM oM_47) (N := 12) (ty := .int) C dX6_saves_47 iw6_saves_X6 tyX6_ok nmX6 0 rfl rfl 3 (by decide) (List.mem_of_getElem? (i := 1) rfl) rfl rfl (by decide +kernel) rfl rfl (Nat.le_of_ble_eq_true rfl) (by subst e47; rfl) rfl ?_
  exact Wn.sub (lv' := [(0, .ref (aM 0))]) [0] rfl (t6_saves_b50 C n oM_47 hf)
set_option maxHeartbeats 4000000 in
set_option maxRecDepth 100000 in
theorem t6_saves_b11 {l : Launch} {p : Program} {e : Env} {s : State} {m : MethodId} {args : Array Value} {below : List Frame} {meth : Method} {c : Code} {D : va_G} {A : Nat → Prop} {cyI cyO cyJ : ClassId} {aM : Nat → Nat} (C : Cx p s m args meth c D (tyG cyI cyO cyJ) A RX6 cX6_saves 2 none wsX6_saves) {z : (OB)} (n : Nat) {k40 : OB → Option ((OB))} (hk40 : ∀ (oM : OB), k40 oM = some z → Wn p l e rm6_saves s m args below meth c D A 2 0 0 (MQ below (Qr D (tyG cyI cyO cyJ) (bX6 cyI aM z) A none) args s 0 0 A) (bX6 cyI aM oM) 40 [(0, .ref (aM 0))] []) : ∀ (k : Nat) (v1 : Int32) (oM : OB), f6_saves_b11 n k40 k v1 oM = some z → Wn p l e rm6_saves s m args below meth c D A 2 0 0 (MQ below (Qr D (tyG cyI cyO cyJ) (bX6 cyI aM z) A none) args s 0 0 A) (bX6 cyI aM oM) 11 [(0, .ref (aM 0)), (1, .int v1)] [] := by
  intro k
  induction k with
  | zero => intro  v1 oM hf; cases hf
  | succ k ih =>
    intro  v1 oM hf
    unfold f6_saves_b11 at hf
    refine n_iload_n C dX6_saves_11 1 rfl rfl ?_
    refine n_sipush (v := (nI 1350)) C dX6_saves_12 (by decide) rfl ?_
    refine n_icmp_ge (t := 40) C dX6_saves_15 (by decide) rfl (fun h15 => ?_) (fun h15 => ?_)
    · have hf := ip h15 hf
      exact Wn.sub (lv' := [(0, .ref (aM 0))]) [0] rfl (hk40 oM hf)
    · have hf := iq h15 hf
      refine n_aload_n C dX6_saves_18 0 rfl rfl ?_
      refine n_get (N := 12) C dX6_saves_19 iw6_saves_X6 0 rfl rfl 2 (by decide) (List.mem_of_getElem? (i := 2) rfl) rfl rfl rfl ?_
      refine n_iload_n C dX6_saves_22 1 rfl rfl ?_
      refine n_aload_n C dX6_saves_23 0 rfl rfl ?_
      refine n_get (N := 12) C dX6_saves_24 iw6_saves_X6 0 rfl rfl 2 (by decide) (List.mem_of_getElem? (i := 2) rfl) rfl rfl rfl ?_
      refine n_iload_n C dX6_saves_27 1 rfl rfl ?_
      refine n_sipush (v := (nI 270)) C dX6_saves_28 (by decide) rfl ?_
      refine n_iadd C dX6_saves_31 rfl ?_
      obtain ⟨x32, h32, hf⟩ := bi hf
      obtain ⟨h32, e32⟩ := ald_some h32
      refine n_iald C dX6_saves_32 3 0 rfl rfl h32 rfl ?_
      rw [← e32]
      obtain ⟨oM_33, h33, hf⟩ := bi hf
      obtain ⟨h33, e33⟩ := oast_some h33
      refine n_iast (w2 := bX6 cyI aM oM_33) C dX6_saves_33 3 0 rfl rfl h33 (by subst e33; rfl) rfl ?_
      refine n_iinc (v := v1 + (nI 1)) (lv' := [(1, .int (v1 + (nI 1))), (0, .ref (aM 0))]) C dX6_saves_34 (j := 1) rfl rfl (by decide) rfl rfl ?_
      refine n_goto (t := 11) C dX6_saves_37 (by decide) ?_
      exact Wn.sub (lv' := [(0, .ref (aM 0)), (1, .int (v1 + (nI 1)))]) [1, 0] rfl (ih (v1 + (nI 1)) oM_33 hf)
set_option maxHeartbeats 4000000 in
set_option maxRecDepth 100000 in
theorem c6_saves (l : Launch) (D : va_G) (cyI cyO cyJ : ClassId) (aM : Nat → Nat) (n : Nat) (oM : OB) (z : (OB)) (hf : f6_saves n oM = some z) : Ct l D (tyG cyI cyO cyJ) yX6_saves wsX6_saves rm6_saves 0 0 [.ref (aM 0)] (bX6 cyI aM oM) (bX6 cyI aM z) none := by
  refine Ct.of (cc := cX6_saves) (nL := 2) (ret := none) (lv := [(0, .ref (aM 0))]) (by decide +kernel) rfl rfl (Nat.le_of_ble_eq_true rfl) ?_
  intro p e s m args below meth c A C
  have C : Cx p s m args meth c D (tyG cyI cyO cyJ) A RX6 cX6_saves 2 none wsX6_saves := C
  unfold f6_saves at hf
  refine n_aload_n C dX6_saves_0 0 rfl rfl ?_
  refine n_get (N := 12) C dX6_saves_1 iw6_saves_X6 0 rfl rfl 3 (by decide) (List.mem_of_getElem? (i := 1) rfl) rfl rfl rfl ?_
  refine n_bipush (v := (nI 6)) C dX6_saves_4 (by decide) rfl ?_
  refine n_icmp_ne (t := 50) C dX6_saves_6 (by decide) rfl (fun h6 => ?_) (fun h6 => ?_)
  · have hf := iq h6 hf
    exact Wn.sub (lv' := [(0, .ref (aM 0))]) [0] rfl (t6_saves_b50 C n oM hf)
  · have hf := ip h6 hf
    refine n_iconst (v := (nI 0)) C dX6_saves_9 (by decide) rfl ?_
    refine n_istore_n (lv' := [(1, .int (nI 0)), (0, .ref (aM 0))]) C dX6_saves_10 (by decide) rfl rfl ?_
    exact Wn.sub (lv' := [(0, .ref (aM 0)), (1, .int (nI 0))]) [1, 0] rfl (t6_saves_b11 C n (fun oM hf => Wn.sub (lv' := [(0, .ref (aM 0))]) [0] rfl (t6_saves_b40 C n oM hf)) n (nI 0) oM hf)
-- X6 undo 
theorem iw6_undo_X6 : ∀ w ∈ u_ws RX6 TX6 12, w ∈ wsX6_undo := by decide +kernel
abbrev rm6_undo : Room := { frames := 1, cells := 0, slots := 0, locals := 24 }
def f6_undo (n : Nat) (oM : OB) : Option (Int32 × (OB)) :=
  (some (gsi oM 6 (nI 0))).bind fun oM_2 => (if (oM_2.1 3) = (0 : Int32) then (f6_fails n oM_2 (nI 1)).bind fun z14 => some (z14.1, z14.2) else (some (gsi oM_2 3 ((oM_2.1 3) - (nI 1)))).bind fun oM_25 => (f6_copies_b n 270 (oM_25.2 0) 1620 (oM_25.2 2) ((nI 270) * (oM_25.1 3)) (nI 0)).bind fun z45 => some ((gsa oM_25 0 z45).1 3, gsa oM_25 0 z45))
set_option maxHeartbeats 4000000 in
set_option maxRecDepth 100000 in
theorem c6_undo (l : Launch) (D : va_G) (cyI cyO cyJ : ClassId) (aM : Nat → Nat) (n : Nat) (oM : OB) (z : Int32 × (OB)) (hf : f6_undo n oM = some z) : Ct l D (tyG cyI cyO cyJ) yX6_undo wsX6_undo rm6_undo 0 0 [.ref (aM 0)] (bX6 cyI aM oM) (bX6 cyI aM z.2) (some (.int z.1)) := by
  refine Ct.of (cc := cX6_undo) (nL := 1) (ret := (some .int)) (lv := [(0, .ref (aM 0))]) (by decide +kernel) rfl rfl (Nat.le_of_ble_eq_true rfl) ?_
  intro p e s m args below meth c A C
  have C : Cx p s m args meth c D (tyG cyI cyO cyJ) A RX6 cX6_undo 1 (some .int) wsX6_undo := C
  unfold f6_undo at hf
  refine n_aload_n C dX6_undo_0 0 rfl rfl ?_
  refine n_iconst (v := (nI 0)) C dX6_undo_1 (by decide) rfl ?_
  obtain ⟨oM_2, e2, hf⟩ := bi hf
  replace e2 := Option.some.inj e2
  refine n_put (w2 := bX6 cyI aM oM_2) (N := 12) (ty := .int) C dX6_undo_2 iw6_undo_X6 tyX6_ok nmX6 0 rfl rfl 6 (by decide) (List.mem_of_getElem? (i := 1) rfl) rfl rfl (by decide +kernel) rfl rfl (Nat.le_of_ble_eq_true rfl) (by subst e2; rfl) rfl ?_
  refine n_aload_n C dX6_undo_5 0 rfl rfl ?_
  refine n_get (N := 12) C dX6_undo_6 iw6_undo_X6 0 rfl rfl 3 (by decide) (List.mem_of_getElem? (i := 2) rfl) rfl rfl rfl ?_
  refine n_if_ne (t := 18) C dX6_undo_9 (by decide) rfl (fun h9 => ?_) (fun h9 => ?_)
  · have hf := iq h9 hf
    refine n_aload_n C dX6_undo_18 0 rfl rfl ?_
    refine n_dup C dX6_undo_19 rfl rfl ?_
    refine n_get (N := 12) C dX6_undo_20 iw6_undo_X6 0 rfl rfl 3 (by decide) (List.mem_of_getElem? (i := 2) rfl) rfl rfl rfl ?_
    refine n_iconst (v := (nI 1)) C dX6_undo_23 (by decide) rfl ?_
    refine n_isub C dX6_undo_24 rfl ?_
    obtain ⟨oM_25, e25, hf⟩ := bi hf
    replace e25 := Option.some.inj e25
    refine n_put (w2 := bX6 cyI aM oM_25) (N := 12) (ty := .int) C dX6_undo_25 iw6_undo_X6 tyX6_ok nmX6 0 rfl rfl 3 (by decide) (List.mem_of_getElem? (i := 2) rfl) rfl rfl (by decide +kernel) rfl rfl (Nat.le_of_ble_eq_true rfl) (by subst e25; rfl) rfl ?_
    refine n_aload_n C dX6_undo_28 0 rfl rfl ?_
    refine n_get (N := 12) C dX6_undo_29 iw6_undo_X6 0 rfl rfl 2 (by decide) (List.mem_of_getElem? (i := 3) rfl) rfl rfl rfl ?_
    refine n_sipush (v := (nI 270)) C dX6_undo_32 (by decide) rfl ?_
    refine n_aload_n C dX6_undo_35 0 rfl rfl ?_
    refine n_get (N := 12) C dX6_undo_36 iw6_undo_X6 0 rfl rfl 3 (by decide) (List.mem_of_getElem? (i := 2) rfl) rfl rfl rfl ?_
    refine n_imul C dX6_undo_39 rfl ?_
    refine n_aload_n C dX6_undo_40 0 rfl rfl ?_
    refine n_get (N := 12) C dX6_undo_41 iw6_undo_X6 0 rfl rfl 0 (by decide) (List.mem_of_getElem? (i := 4) rfl) rfl rfl rfl ?_
    refine n_iconst (v := (nI 0)) C dX6_undo_44 (by decide) rfl ?_
    obtain ⟨z45, h45, hf⟩ := bi hf
    refine n_callS (As := [.ref (aM 3), .int ((nI 270) * (oM_25.1 3)), .ref (aM 1), .int (nI 0)]) (rest := []) (w2 := bX6 cyI aM (gsa oM_25 0 z45)) C dX6_undo_45 (c6_copies_b l D cyI cyO cyJ (aM 1) (aM 3) n 270 (oM_25.2 0) 1620 (oM_25.2 2) ((nI 270) * (oM_25.1 3)) (nI 0) z45 h45) (va_cwS 4 C.ts gX6_undo_X6_copies rfl rfl rfl (by decide +kernel) ⟨Nat.le_of_ble_eq_true rfl, Nat.le_of_ble_eq_true rfl⟩) rfl (Frm.skipc (Frm.takec (Frm.skipc (Frm.takec Frm.none)))) rfl (Nat.le_of_ble_eq_true rfl) ⟨Nat.le_of_ble_eq_true rfl, Nat.le_of_ble_eq_true rfl⟩ rfl ?_
    refine n_aload_n C dX6_undo_48 0 rfl rfl ?_
    refine n_get (N := 12) C dX6_undo_49 iw6_undo_X6 0 rfl rfl 3 (by decide) (List.mem_of_getElem? (i := 2) rfl) rfl rfl rfl ?_
    obtain rfl := Option.some.inj hf
    exact n_iret C dX6_undo_52
  · have hf := ip h9 hf
    refine n_aload_n C dX6_undo_12 0 rfl rfl ?_
    refine n_iconst (v := (nI 1)) C dX6_undo_13 (by decide) rfl ?_
    obtain ⟨z14, h14, hf⟩ := bi hf
    refine n_callV (As := [.int (nI 1)]) (rest := []) (w2 := bX6 cyI aM z14.2) C dX6_undo_14 (c6_fails l D cyI cyO cyJ aM n oM_2 (nI 1) z14 h14) (cwV 1 C.ts gX6_undo_X6_fails rfl rfl rfl (by decide +kernel) ⟨Nat.le_of_ble_eq_true rfl, Nat.le_of_ble_eq_true rfl⟩) rfl (q0 := 0) (ci := 6) rfl rfl Frm.self rfl (Nat.le_of_ble_eq_true rfl) ⟨Nat.le_of_ble_eq_true rfl, Nat.le_of_ble_eq_true rfl⟩ rfl ?_
    obtain rfl := Option.some.inj hf
    exact n_iret C dX6_undo_17
-- X6 pairs 
theorem iw6_pairs_X6 : ∀ w ∈ u_ws RX6 TX6 12, w ∈ wsX6_pairs := by decide +kernel
abbrev rm6_pairs : Room := { frames := 0, cells := 0, slots := 0, locals := 0 }
def f6_pairs (n : Nat) (oM : OB) (x1 : Int32) (x2 : Int32) (x3 : Int32) : Option ((OB)) :=
  (ald 270 (oM.2 0) (nI 4)).bind fun x6 => (if x6 ≤ x2 then some oM else (ald 270 (oM.2 0) (nI 4)).bind fun x16 => (if x16 ≤ x3 then some oM else (ald 270 (oM.2 0) (nI 5)).bind fun x29 => (oast oM 0 270 ((nI 18) + ((nI 9) * x29)) x1).bind fun oM_41 => (oast oM_41 0 270 (((nI 18) + ((nI 9) * x29)) + (nI 1)) x2).bind fun oM_51 => (oast oM_51 0 270 (((nI 18) + ((nI 9) * x29)) + (nI 2)) x3).bind fun oM_61 => (oast oM_61 0 270 (((nI 18) + ((nI 9) * x29)) + (nI 3)) (-1 : Int32)).bind fun oM_71 => (oast oM_71 0 270 (((nI 18) + ((nI 9) * x29)) + (nI 4)) (-1 : Int32)).bind fun oM_81 => (ald 270 (oM_81.2 0) (nI 5)).bind fun x88 => (oast oM_81 0 270 (nI 5) (x88 + (nI 1))).bind fun oM_91 => some oM_91))
set_option maxHeartbeats 4000000 in
set_option maxRecDepth 100000 in
theorem c6_pairs (l : Launch) (D : va_G) (cyI cyO cyJ : ClassId) (aM : Nat → Nat) (n : Nat) (oM : OB) (x1 : Int32) (x2 : Int32) (x3 : Int32) (z : (OB)) (hf : f6_pairs n oM x1 x2 x3 = some z) : Ct l D (tyG cyI cyO cyJ) yX6_pairs wsX6_pairs rm6_pairs 0 0 [.ref (aM 0), .int x1, .int x2, .int x3] (bX6 cyI aM oM) (bX6 cyI aM z) none := by
  refine Ct.of (cc := cX6_pairs) (nL := 5) (ret := none) (lv := [(0, .ref (aM 0)), (1, .int x1), (2, .int x2), (3, .int x3)]) (by decide +kernel) rfl rfl (Nat.le_of_ble_eq_true rfl) ?_
  intro p e s m args below meth c A C
  have C : Cx p s m args meth c D (tyG cyI cyO cyJ) A RX6 cX6_pairs 5 none wsX6_pairs := C
  unfold f6_pairs at hf
  refine n_iload_n C dX6_pairs_0 2 rfl rfl ?_
  refine n_aload_n C dX6_pairs_1 0 rfl rfl ?_
  refine n_get (N := 12) C dX6_pairs_2 iw6_pairs_X6 0 rfl rfl 0 (by decide) (List.mem_of_getElem? (i := 1) rfl) rfl rfl rfl ?_
  refine n_iconst (v := (nI 4)) C dX6_pairs_5 (by decide) rfl ?_
  obtain ⟨x6, h6, hf⟩ := bi hf
  obtain ⟨h6, e6⟩ := ald_some h6
  refine n_iald C dX6_pairs_6 1 0 rfl rfl h6 rfl ?_
  rw [← e6]
  refine n_icmp_ge (t := 92) C dX6_pairs_7 (by decide) rfl (fun h7 => ?_) (fun h7 => ?_)
  · have hf := ip h7 hf
    obtain rfl := Option.some.inj hf
    exact n_vret C dX6_pairs_92
  · have hf := iq h7 hf
    refine n_iload_n C dX6_pairs_10 3 rfl rfl ?_
    refine n_aload_n C dX6_pairs_11 0 rfl rfl ?_
    refine n_get (N := 12) C dX6_pairs_12 iw6_pairs_X6 0 rfl rfl 0 (by decide) (List.mem_of_getElem? (i := 1) rfl) rfl rfl rfl ?_
    refine n_iconst (v := (nI 4)) C dX6_pairs_15 (by decide) rfl ?_
    obtain ⟨x16, h16, hf⟩ := bi hf
    obtain ⟨h16, e16⟩ := ald_some h16
    refine n_iald C dX6_pairs_16 1 0 rfl rfl h16 rfl ?_
    rw [← e16]
    refine n_icmp_ge (t := 92) C dX6_pairs_17 (by decide) rfl (fun h17 => ?_) (fun h17 => ?_)
    · have hf := ip h17 hf
      obtain rfl := Option.some.inj hf
      exact n_vret C dX6_pairs_92
    · have hf := iq h17 hf
      refine n_bipush (v := (nI 18)) C dX6_pairs_20 (by decide) rfl ?_
      refine n_bipush (v := (nI 9)) C dX6_pairs_22 (by decide) rfl ?_
      refine n_aload_n C dX6_pairs_24 0 rfl rfl ?_
      refine n_get (N := 12) C dX6_pairs_25 iw6_pairs_X6 0 rfl rfl 0 (by decide) (List.mem_of_getElem? (i := 1) rfl) rfl rfl rfl ?_
      refine n_iconst (v := (nI 5)) C dX6_pairs_28 (by decide) rfl ?_
      obtain ⟨x29, h29, hf⟩ := bi hf
      obtain ⟨h29, e29⟩ := ald_some h29
      refine n_iald C dX6_pairs_29 1 0 rfl rfl h29 rfl ?_
      rw [← e29]
      refine n_imul C dX6_pairs_30 rfl ?_
      refine n_iadd C dX6_pairs_31 rfl ?_
      refine n_istore (lv' := [(4, .int ((nI 18) + ((nI 9) * x29))), (0, .ref (aM 0)), (1, .int x1), (2, .int x2), (3, .int x3)]) C dX6_pairs_32 (by decide) rfl rfl ?_
      refine n_aload_n C dX6_pairs_34 1 rfl rfl ?_
      refine n_get (N := 12) C dX6_pairs_35 iw6_pairs_X6 0 rfl rfl 0 (by decide) (List.mem_of_getElem? (i := 1) rfl) rfl rfl rfl ?_
      refine n_iload C dX6_pairs_38 0 rfl rfl ?_
      refine n_iload_n C dX6_pairs_40 2 rfl rfl ?_
      obtain ⟨oM_41, h41, hf⟩ := bi hf
      obtain ⟨h41, e41⟩ := oast_some h41
      refine n_iast (w2 := bX6 cyI aM oM_41) C dX6_pairs_41 1 0 rfl rfl h41 (by subst e41; rfl) rfl ?_
      refine n_aload_n C dX6_pairs_42 1 rfl rfl ?_
      refine n_get (N := 12) C dX6_pairs_43 iw6_pairs_X6 0 rfl rfl 0 (by decide) (List.mem_of_getElem? (i := 1) rfl) rfl rfl rfl ?_
      refine n_iload C dX6_pairs_46 0 rfl rfl ?_
      refine n_iconst (v := (nI 1)) C dX6_pairs_48 (by decide) rfl ?_
      refine n_iadd C dX6_pairs_49 rfl ?_
      refine n_iload_n C dX6_pairs_50 3 rfl rfl ?_
      obtain ⟨oM_51, h51, hf⟩ := bi hf
      obtain ⟨h51, e51⟩ := oast_some h51
      refine n_iast (w2 := bX6 cyI aM oM_51) C dX6_pairs_51 1 0 rfl rfl h51 (by subst e51; rfl) rfl ?_
      refine n_aload_n C dX6_pairs_52 1 rfl rfl ?_
      refine n_get (N := 12) C dX6_pairs_53 iw6_pairs_X6 0 rfl rfl 0 (by decide) (List.mem_of_getElem? (i := 1) rfl) rfl rfl rfl ?_
      refine n_iload C dX6_pairs_56 0 rfl rfl ?_
      refine n_iconst (v := (nI 2)) C dX6_pairs_58 (by decide) rfl ?_
      refine n_iadd C dX6_pairs_59 rfl ?_
      refine n_iload_n C dX6_pairs_60 4 rfl rfl ?_
      obtain ⟨oM_61, h61, hf⟩ := bi hf
      obtain ⟨h61, e61⟩ := oast_some h61
      refine n_iast (w2 := bX6 cyI aM oM_61) C dX6_pairs_61 1 0 rfl rfl h61 (by subst e61; rfl) rfl ?_
      refine n_aload_n C dX6_pairs_62 1 rfl rfl ?_
      refine n_get (N := 12) C dX6_pairs_63 iw6_pairs_X6 0 rfl rfl 0 (by decide) (List.mem_of_getElem? (i := 1) rfl) rfl rfl rfl ?_
      refine n_iload C dX6_pairs_66 0 rfl rfl ?_
      refine n_iconst (v := (nI 3)) C dX6_pairs_68 (by decide) rfl ?_
      refine n_iadd C dX6_pairs_69 rfl ?_
      refine n_iconst (v := (-1 : Int32)) C dX6_pairs_70 (by decide) rfl ?_
      obtain ⟨oM_71, h71, hf⟩ := bi hf
      obtain ⟨h71, e71⟩ := oast_some h71
      refine n_iast (w2 := bX6 cyI aM oM_71) C dX6_pairs_71 1 0 rfl rfl h71 (by subst e71; rfl) rfl ?_
      refine n_aload_n C dX6_pairs_72 1 rfl rfl ?_
      refine n_get (N := 12) C dX6_pairs_73 iw6_pairs_X6 0 rfl rfl 0 (by decide) (List.mem_of_getElem? (i := 1) rfl) rfl rfl rfl ?_
      refine n_iload C dX6_pairs_76 0 rfl rfl ?_
      refine n_iconst (v := (nI 4)) C dX6_pairs_78 (by decide) rfl ?_
      refine n_iadd C dX6_pairs_79 rfl ?_
      refine n_iconst (v := (-1 : Int32)) C dX6_pairs_80 (by decide) rfl ?_
      obtain ⟨oM_81, h81, hf⟩ := bi hf
      obtain ⟨h81, e81⟩ := oast_some h81
      refine n_iast (w2 := bX6 cyI aM oM_81) C dX6_pairs_81 1 0 rfl rfl h81 (by subst e81; rfl) rfl ?_
      refine n_aload_n C dX6_pairs_82 1 rfl rfl ?_
      refine n_get (N := 12) C dX6_pairs_83 iw6_pairs_X6 0 rfl rfl 0 (by decide) (List.mem_of_getElem? (i := 1) rfl) rfl rfl rfl ?_
      refine n_iconst (v := (nI 5)) C dX6_pairs_86 (by decide) rfl ?_
      refine n_dup2 C dX6_pairs_87 rfl rfl rfl ?_
      obtain ⟨x88, h88, hf⟩ := bi hf
      obtain ⟨h88, e88⟩ := ald_some h88
      refine n_iald C dX6_pairs_88 1 0 rfl rfl h88 rfl ?_
      rw [← e88]
      refine n_iconst (v := (nI 1)) C dX6_pairs_89 (by decide) rfl ?_
      refine n_iadd C dX6_pairs_90 rfl ?_
      obtain ⟨oM_91, h91, hf⟩ := bi hf
      obtain ⟨h91, e91⟩ := oast_some h91
      refine n_iast (w2 := bX6 cyI aM oM_91) C dX6_pairs_91 1 0 rfl rfl h91 (by subst e91; rfl) rfl ?_
      obtain rfl := Option.some.inj hf
      exact n_vret C dX6_pairs_92
-- X6 begins 
theorem iw6_begins_X6 : ∀ w ∈ u_ws RX6 TX6 12, w ∈ wsX6_begins := by decide +kernel
abbrev rm6_begins : Room := { frames := 1, cells := 0, slots := 0, locals := 24 }
def f6_begins_b95 (n : Nat) (x1 : Int32) (k37 : Int32 → Int32 → OB → Option ((OB))) (v2 : Int32) (v3 : Int32) (oM : OB) : Option ((OB)) :=
  k37 v2 (v3 + (nI 1)) oM
def f6_begins_b56 (n : Nat) (x1 : Int32) (k95 : Int32 → Int32 → OB → Option ((OB))) : Nat → Int32 → Int32 → Int32 → OB → Option ((OB))
  | 0, _, _, _, _ => none
  | k + 1, v2, v3, v4, oM =>
    (if (v2 / (nI 2)) ≤ v4 then k95 v2 v3 oM else (nz (v2 - (nI 1))).bind fun _ => (nz (v2 - (nI 1))).bind fun _ => (f6_pairs n oM v3 ((v3 + v4) - (v3 + v4) / (v2 - (nI 1)) * (v2 - (nI 1))) ((((v3 - v4) + v2) - (nI 1)) - (((v3 - v4) + v2) - (nI 1)) / (v2 - (nI 1)) * (v2 - (nI 1)))).bind fun z86 => (f6_begins_b56 n x1 k95 k) v2 v3 (v4 + (nI 1)) z86)
def f6_begins_b37 (n : Nat) (x1 : Int32) : Nat → Int32 → Int32 → OB → Option ((OB))
  | 0, _, _, _ => none
  | k + 1, v2, v3, oM =>
    (if (v2 - (nI 1)) ≤ v3 then some oM else (f6_pairs n oM v3 (v2 - (nI 1)) v3).bind fun z50 => f6_begins_b56 n x1 (fun v2 v3 oM => f6_begins_b95 n x1 (f6_begins_b37 n x1 k) v2 v3 oM) n v2 v3 (nI 1) z50)
def f6_begins_b22 (n : Nat) (x1 : Int32) (oM : OB) : Option ((OB)) :=
  (oast oM 0 270 (nI 4) x1).bind fun oM_28 => f6_begins_b37 n x1 n (x1 + (x1 - x1 / (nI 2) * (nI 2))) (nI 0) oM_28
def f6_begins_b2 (n : Nat) (x1 : Int32) (k22 : OB → Option ((OB))) : Nat → Int32 → OB → Option ((OB))
  | 0, _, _ => none
  | k + 1, v2, oM =>
    (if (nI 270) ≤ v2 then k22 oM else (oast oM 0 270 v2 (nI 0)).bind fun oM_15 => (f6_begins_b2 n x1 k22 k) (v2 + (nI 1)) oM_15)
def f6_begins (n : Nat) (oM : OB) (x1 : Int32) : Option ((OB)) :=
  f6_begins_b2 n x1 (fun oM => f6_begins_b22 n x1 oM) n (nI 4) oM
set_option maxHeartbeats 4000000 in
set_option maxRecDepth 100000 in
theorem t6_begins_b95 {l : Launch} {p : Program} {e : Env} {s : State} {m : MethodId} {args : Array Value} {below : List Frame} {meth : Method} {c : Code} {D : va_G} {A : Nat → Prop} {cyI cyO cyJ : ClassId} {aM : Nat → Nat} (C : Cx p s m args meth c D (tyG cyI cyO cyJ) A RX6 cX6_begins 5 none wsX6_begins) {z : (OB)} (n : Nat) (x1 : Int32) {k37 : Int32 → Int32 → OB → Option ((OB))} (hk37 : ∀ (v2 : Int32) (v3 : Int32) (oM : OB), k37 v2 v3 oM = some z → Wn p l e rm6_begins s m args below meth c D A 5 0 0 (MQ below (Qr D (tyG cyI cyO cyJ) (bX6 cyI aM z) A none) args s 0 0 A) (bX6 cyI aM oM) 37 [(0, .ref (aM 0)), (2, .int v2), (3, .int v3)] []) (v2 : Int32) (v3 : Int32) (oM : OB) (hf : f6_begins_b95 n x1 k37 v2 v3 oM = some z) : Wn p l e rm6_begins s m args below meth c D A 5 0 0 (MQ below (Qr D (tyG cyI cyO cyJ) (bX6 cyI aM z) A none) args s 0 0 A) (bX6 cyI aM oM) 95 [(0, .ref (aM 0)), (2, .int v2), (3, .int v3)] [] := by
  unfold f6_begins_b95 at hf
  refine n_iinc (v := v3 + (nI 1)) (lv' := [(3, .int (v3 + (nI 1))), (0, .ref (aM 0)), (2, .int v2)]) C dX6_begins_95 (j := 2) rfl rfl (by decide) rfl rfl ?_
  refine n_goto (t := 37) C dX6_begins_98 (by decide) ?_
  exact Wn.sub (lv' := [(0, .ref (aM 0)), (2, .int v2), (3, .int (v3 + (nI 1)))]) [1, 2, 0] rfl (hk37 v2 (v3 + (nI 1)) oM hf)
set_option maxHeartbeats 4000000 in
set_option maxRecDepth 100000 in
theorem t6_begins_b56 {l : Launch} {p : Program} {e : Env} {s : State} {m : MethodId} {args : Array Value} {below : List Frame} {meth : Method} {c : Code} {D : va_G} {A : Nat → Prop} {cyI cyO cyJ : ClassId} {aM : Nat → Nat} (C : Cx p s m args meth c D (tyG cyI cyO cyJ) A RX6 cX6_begins 5 none wsX6_begins) {z : (OB)} (n : Nat) (x1 : Int32) {k95 : Int32 → Int32 → OB → Option ((OB))} (hk95 : ∀ (v2 : Int32) (v3 : Int32) (oM : OB), k95 v2 v3 oM = some z → Wn p l e rm6_begins s m args below meth c D A 5 0 0 (MQ below (Qr D (tyG cyI cyO cyJ) (bX6 cyI aM z) A none) args s 0 0 A) (bX6 cyI aM oM) 95 [(0, .ref (aM 0)), (2, .int v2), (3, .int v3)] []) : ∀ (k : Nat) (v2 : Int32) (v3 : Int32) (v4 : Int32) (oM : OB), f6_begins_b56 n x1 k95 k v2 v3 v4 oM = some z → Wn p l e rm6_begins s m args below meth c D A 5 0 0 (MQ below (Qr D (tyG cyI cyO cyJ) (bX6 cyI aM z) A none) args s 0 0 A) (bX6 cyI aM oM) 56 [(0, .ref (aM 0)), (2, .int v2), (3, .int v3), (4, .int v4)] [] := by
  intro k
  induction k with
  | zero => intro  v2 v3 v4 oM hf; cases hf
  | succ k ih =>
    intro  v2 v3 v4 oM hf
    unfold f6_begins_b56 at hf
    refine n_iload C dX6_begins_56 3 rfl rfl ?_
    refine n_iload_n C dX6_begins_58 1 rfl rfl ?_
    refine n_iconst (v := (nI 2)) C dX6_begins_59 (by decide) rfl ?_
    refine n_idiv C dX6_begins_60 (by decide) rfl ?_
    refine n_icmp_ge (t := 95) C dX6_begins_61 (by decide) rfl (fun h61 => ?_) (fun h61 => ?_)
    · have hf := ip h61 hf
      exact Wn.sub (lv' := [(0, .ref (aM 0)), (2, .int v2), (3, .int v3)]) [0, 1, 2] rfl (hk95 v2 v3 oM hf)
    · have hf := iq h61 hf
      refine n_aload_n C dX6_begins_64 0 rfl rfl ?_
      refine n_iload_n C dX6_begins_65 2 rfl rfl ?_
      refine n_iload_n C dX6_begins_66 2 rfl rfl ?_
      refine n_iload C dX6_begins_67 3 rfl rfl ?_
      refine n_iadd C dX6_begins_69 rfl ?_
      refine n_iload_n C dX6_begins_70 1 rfl rfl ?_
      refine n_iconst (v := (nI 1)) C dX6_begins_71 (by decide) rfl ?_
      refine n_isub C dX6_begins_72 rfl ?_
      obtain ⟨u73, h73, hf⟩ := bi hf
      refine n_irem C dX6_begins_73 (nz_some h73) rfl ?_
      refine n_iload_n C dX6_begins_74 2 rfl rfl ?_
      refine n_iload C dX6_begins_75 3 rfl rfl ?_
      refine n_isub C dX6_begins_77 rfl ?_
      refine n_iload_n C dX6_begins_78 1 rfl rfl ?_
      refine n_iadd C dX6_begins_79 rfl ?_
      refine n_iconst (v := (nI 1)) C dX6_begins_80 (by decide) rfl ?_
      refine n_isub C dX6_begins_81 rfl ?_
      refine n_iload_n C dX6_begins_82 1 rfl rfl ?_
      refine n_iconst (v := (nI 1)) C dX6_begins_83 (by decide) rfl ?_
      refine n_isub C dX6_begins_84 rfl ?_
      obtain ⟨u85, h85, hf⟩ := bi hf
      refine n_irem C dX6_begins_85 (nz_some h85) rfl ?_
      obtain ⟨z86, h86, hf⟩ := bi hf
      refine n_callV (As := [.int v3, .int ((v3 + v4) - (v3 + v4) / (v2 - (nI 1)) * (v2 - (nI 1))), .int ((((v3 - v4) + v2) - (nI 1)) - (((v3 - v4) + v2) - (nI 1)) / (v2 - (nI 1)) * (v2 - (nI 1)))]) (rest := []) (w2 := bX6 cyI aM z86) C dX6_begins_86 (c6_pairs l D cyI cyO cyJ aM n oM v3 ((v3 + v4) - (v3 + v4) / (v2 - (nI 1)) * (v2 - (nI 1))) ((((v3 - v4) + v2) - (nI 1)) - (((v3 - v4) + v2) - (nI 1)) / (v2 - (nI 1)) * (v2 - (nI 1))) z86 h86) (cwV 3 C.ts gX6_begins_X6_pairs rfl rfl rfl (by decide +kernel) ⟨Nat.le_of_ble_eq_true rfl, Nat.le_of_ble_eq_true rfl⟩) rfl (q0 := 0) (ci := 6) rfl rfl Frm.self rfl (Nat.le_of_ble_eq_true rfl) ⟨Nat.le_of_ble_eq_true rfl, Nat.le_of_ble_eq_true rfl⟩ rfl ?_
      refine n_iinc (v := v4 + (nI 1)) (lv' := [(4, .int (v4 + (nI 1))), (0, .ref (aM 0)), (2, .int v2), (3, .int v3)]) C dX6_begins_89 (j := 3) rfl rfl (by decide) rfl rfl ?_
      refine n_goto (t := 56) C dX6_begins_92 (by decide) ?_
      exact Wn.sub (lv' := [(0, .ref (aM 0)), (2, .int v2), (3, .int v3), (4, .int (v4 + (nI 1)))]) [1, 2, 3, 0] rfl (ih v2 v3 (v4 + (nI 1)) z86 hf)
set_option maxHeartbeats 4000000 in
set_option maxRecDepth 100000 in
theorem t6_begins_b37 {l : Launch} {p : Program} {e : Env} {s : State} {m : MethodId} {args : Array Value} {below : List Frame} {meth : Method} {c : Code} {D : va_G} {A : Nat → Prop} {cyI cyO cyJ : ClassId} {aM : Nat → Nat} (C : Cx p s m args meth c D (tyG cyI cyO cyJ) A RX6 cX6_begins 5 none wsX6_begins) {z : (OB)} (n : Nat) (x1 : Int32) : ∀ (k : Nat) (v2 : Int32) (v3 : Int32) (oM : OB), f6_begins_b37 n x1 k v2 v3 oM = some z → Wn p l e rm6_begins s m args below meth c D A 5 0 0 (MQ below (Qr D (tyG cyI cyO cyJ) (bX6 cyI aM z) A none) args s 0 0 A) (bX6 cyI aM oM) 37 [(0, .ref (aM 0)), (2, .int v2), (3, .int v3)] [] := by
  intro k
  induction k with
  | zero => intro  v2 v3 oM hf; cases hf
  | succ k ih =>
    intro  v2 v3 oM hf
    unfold f6_begins_b37 at hf
    refine n_iload_n C dX6_begins_37 2 rfl rfl ?_
    refine n_iload_n C dX6_begins_38 1 rfl rfl ?_
    refine n_iconst (v := (nI 1)) C dX6_begins_39 (by decide) rfl ?_
    refine n_isub C dX6_begins_40 rfl ?_
    refine n_icmp_ge (t := 101) C dX6_begins_41 (by decide) rfl (fun h41 => ?_) (fun h41 => ?_)
    · have hf := ip h41 hf
      obtain rfl := Option.some.inj hf
      exact n_vret C dX6_begins_101
    · have hf := iq h41 hf
      refine n_aload_n C dX6_begins_44 0 rfl rfl ?_
      refine n_iload_n C dX6_begins_45 2 rfl rfl ?_
      refine n_iload_n C dX6_begins_46 1 rfl rfl ?_
      refine n_iconst (v := (nI 1)) C dX6_begins_47 (by decide) rfl ?_
      refine n_isub C dX6_begins_48 rfl ?_
      refine n_iload_n C dX6_begins_49 2 rfl rfl ?_
      obtain ⟨z50, h50, hf⟩ := bi hf
      refine n_callV (As := [.int v3, .int (v2 - (nI 1)), .int v3]) (rest := []) (w2 := bX6 cyI aM z50) C dX6_begins_50 (c6_pairs l D cyI cyO cyJ aM n oM v3 (v2 - (nI 1)) v3 z50 h50) (cwV 3 C.ts gX6_begins_X6_pairs rfl rfl rfl (by decide +kernel) ⟨Nat.le_of_ble_eq_true rfl, Nat.le_of_ble_eq_true rfl⟩) rfl (q0 := 0) (ci := 6) rfl rfl Frm.self rfl (Nat.le_of_ble_eq_true rfl) ⟨Nat.le_of_ble_eq_true rfl, Nat.le_of_ble_eq_true rfl⟩ rfl ?_
      refine n_iconst (v := (nI 1)) C dX6_begins_53 (by decide) rfl ?_
      refine n_istore (lv' := [(4, .int (nI 1)), (0, .ref (aM 0)), (2, .int v2), (3, .int v3)]) C dX6_begins_54 (by decide) rfl rfl ?_
      exact Wn.sub (lv' := [(0, .ref (aM 0)), (2, .int v2), (3, .int v3), (4, .int (nI 1))]) [1, 2, 3, 0] rfl (t6_begins_b56 C n x1 (fun v2 v3 oM hf => Wn.sub (lv' := [(0, .ref (aM 0)), (2, .int v2), (3, .int v3)]) [0, 1, 2] rfl (t6_begins_b95 C n x1 ih v2 v3 oM hf)) n v2 v3 (nI 1) z50 hf)
set_option maxHeartbeats 4000000 in
set_option maxRecDepth 100000 in
theorem t6_begins_b22 {l : Launch} {p : Program} {e : Env} {s : State} {m : MethodId} {args : Array Value} {below : List Frame} {meth : Method} {c : Code} {D : va_G} {A : Nat → Prop} {cyI cyO cyJ : ClassId} {aM : Nat → Nat} (C : Cx p s m args meth c D (tyG cyI cyO cyJ) A RX6 cX6_begins 5 none wsX6_begins) {z : (OB)} (n : Nat) (x1 : Int32) (oM : OB) (hf : f6_begins_b22 n x1 oM = some z) : Wn p l e rm6_begins s m args below meth c D A 5 0 0 (MQ below (Qr D (tyG cyI cyO cyJ) (bX6 cyI aM z) A none) args s 0 0 A) (bX6 cyI aM oM) 22 [(0, .ref (aM 0)), (1, .int x1)] [] := by
  unfold f6_begins_b22 at hf
  refine n_aload_n C dX6_begins_22 0 rfl rfl ?_
  refine n_get (N := 12) C dX6_begins_23 iw6_begins_X6 0 rfl rfl 0 (by decide) (List.mem_of_getElem? (i := 1) rfl) rfl rfl rfl ?_
  refine n_iconst (v := (nI 4)) C dX6_begins_26 (by decide) rfl ?_
  refine n_iload_n C dX6_begins_27 1 rfl rfl ?_
  obtain ⟨oM_28, h28, hf⟩ := bi hf
  obtain ⟨h28, e28⟩ := oast_some h28
  refine n_iast (w2 := bX6 cyI aM oM_28) C dX6_begins_28 1 0 rfl rfl h28 (by subst e28; rfl) rfl ?_
  refine n_iload_n C dX6_begins_29 1 rfl rfl ?_
  refine n_iload_n C dX6_begins_30 1 rfl rfl ?_
  refine n_iconst (v := (nI 2)) C dX6_begins_31 (by decide) rfl ?_
  refine n_irem C dX6_begins_32 (by decide) rfl ?_
  refine n_iadd C dX6_begins_33 rfl ?_
  refine n_istore_n (lv' := [(2, .int (x1 + (x1 - x1 / (nI 2) * (nI 2)))), (0, .ref (aM 0)), (1, .int x1)]) C dX6_begins_34 (by decide) rfl rfl ?_
  refine n_iconst (v := (nI 0)) C dX6_begins_35 (by decide) rfl ?_
  refine n_istore_n (lv' := [(3, .int (nI 0)), (2, .int (x1 + (x1 - x1 / (nI 2) * (nI 2)))), (0, .ref (aM 0)), (1, .int x1)]) C dX6_begins_36 (by decide) rfl rfl ?_
  exact Wn.sub (lv' := [(0, .ref (aM 0)), (2, .int (x1 + (x1 - x1 / (nI 2) * (nI 2)))), (3, .int (nI 0))]) [2, 1, 0] rfl (t6_begins_b37 C n x1 n (x1 + (x1 - x1 / (nI 2) * (nI 2))) (nI 0) oM_28 hf)
set_option maxHeartbeats 4000000 in
set_option maxRecDepth 100000 in
theorem t6_begins_b2 {l : Launch} {p : Program} {e : Env} {s : State} {m : MethodId} {args : Array Value} {below : List Frame} {meth : Method} {c : Code} {D : va_G} {A : Nat → Prop} {cyI cyO cyJ : ClassId} {aM : Nat → Nat} (C : Cx p s m args meth c D (tyG cyI cyO cyJ) A RX6 cX6_begins 5 none wsX6_begins) {z : (OB)} (n : Nat) (x1 : Int32) {k22 : OB → Option ((OB))} (hk22 : ∀ (oM : OB), k22 oM = some z → Wn p l e rm6_begins s m args below meth c D A 5 0 0 (MQ below (Qr D (tyG cyI cyO cyJ) (bX6 cyI aM z) A none) args s 0 0 A) (bX6 cyI aM oM) 22 [(0, .ref (aM 0)), (1, .int x1)] []) : ∀ (k : Nat) (v2 : Int32) (oM : OB), f6_begins_b2 n x1 k22 k v2 oM = some z → Wn p l e rm6_begins s m args below meth c D A 5 0 0 (MQ below (Qr D (tyG cyI cyO cyJ) (bX6 cyI aM z) A none) args s 0 0 A) (bX6 cyI aM oM) 2 [(0, .ref (aM 0)), (1, .int x1), (2, .int v2)] [] := by
  intro k
  induction k with
  | zero => intro  v2 oM hf; cases hf
  | succ k ih =>
    intro  v2 oM hf
    unfold f6_begins_b2 at hf
    refine n_iload_n C dX6_begins_2 2 rfl rfl ?_
    refine n_sipush (v := (nI 270)) C dX6_begins_3 (by decide) rfl ?_
    refine n_icmp_ge (t := 22) C dX6_begins_6 (by decide) rfl (fun h6 => ?_) (fun h6 => ?_)
    · have hf := ip h6 hf
      exact Wn.sub (lv' := [(0, .ref (aM 0)), (1, .int x1)]) [0, 1] rfl (hk22 oM hf)
    · have hf := iq h6 hf
      refine n_aload_n C dX6_begins_9 0 rfl rfl ?_
      refine n_get (N := 12) C dX6_begins_10 iw6_begins_X6 0 rfl rfl 0 (by decide) (List.mem_of_getElem? (i := 1) rfl) rfl rfl rfl ?_
      refine n_iload_n C dX6_begins_13 2 rfl rfl ?_
      refine n_iconst (v := (nI 0)) C dX6_begins_14 (by decide) rfl ?_
      obtain ⟨oM_15, h15, hf⟩ := bi hf
      obtain ⟨h15, e15⟩ := oast_some h15
      refine n_iast (w2 := bX6 cyI aM oM_15) C dX6_begins_15 1 0 rfl rfl h15 (by subst e15; rfl) rfl ?_
      refine n_iinc (v := v2 + (nI 1)) (lv' := [(2, .int (v2 + (nI 1))), (0, .ref (aM 0)), (1, .int x1)]) C dX6_begins_16 (j := 2) rfl rfl (by decide) rfl rfl ?_
      refine n_goto (t := 2) C dX6_begins_19 (by decide) ?_
      exact Wn.sub (lv' := [(0, .ref (aM 0)), (1, .int x1), (2, .int (v2 + (nI 1)))]) [1, 2, 0] rfl (ih (v2 + (nI 1)) oM_15 hf)
set_option maxHeartbeats 4000000 in
set_option maxRecDepth 100000 in
theorem c6_begins (l : Launch) (D : va_G) (cyI cyO cyJ : ClassId) (aM : Nat → Nat) (n : Nat) (oM : OB) (x1 : Int32) (z : (OB)) (hf : f6_begins n oM x1 = some z) : Ct l D (tyG cyI cyO cyJ) yX6_begins wsX6_begins rm6_begins 0 0 [.ref (aM 0), .int x1] (bX6 cyI aM oM) (bX6 cyI aM z) none := by
  refine Ct.of (cc := cX6_begins) (nL := 5) (ret := none) (lv := [(0, .ref (aM 0)), (1, .int x1)]) (by decide +kernel) rfl rfl (Nat.le_of_ble_eq_true rfl) ?_
  intro p e s m args below meth c A C
  have C : Cx p s m args meth c D (tyG cyI cyO cyJ) A RX6 cX6_begins 5 none wsX6_begins := C
  unfold f6_begins at hf
  refine n_iconst (v := (nI 4)) C dX6_begins_0 (by decide) rfl ?_
  refine n_istore_n (lv' := [(2, .int (nI 4)), (0, .ref (aM 0)), (1, .int x1)]) C dX6_begins_1 (by decide) rfl rfl ?_
  exact Wn.sub (lv' := [(0, .ref (aM 0)), (1, .int x1), (2, .int (nI 4))]) [1, 2, 0] rfl (t6_begins_b2 C n x1 (fun oM hf => Wn.sub (lv' := [(0, .ref (aM 0)), (1, .int x1)]) [0, 1] rfl (t6_begins_b22 C n x1 oM hf)) n (nI 4) oM hf)
-- X6 begin 
theorem iw6_begin_X6 : ∀ w ∈ u_ws RX6 TX6 12, w ∈ wsX6_begin := by decide +kernel
abbrev rm6_begin : Room := { frames := 2, cells := 0, slots := 0, locals := 48 }
def f6_begin (n : Nat) (oM : OB) (x1 : Int32) : Option (Int32 × (OB)) :=
  (some (gsi oM 6 (nI 0))).bind fun oM_2 => (f6_in n x1 (nI 3) (nI 8)).bind fun z9 => (if z9 = (0 : Int32) then (f6_fails n oM_2 (nI 1)).bind fun z17 => some (z17.1, z17.2) else (f6_saves n oM_2).bind fun z22 => (f6_begins n z22 x1).bind fun z27 => (ald 270 (z27.2 0) (nI 5)).bind fun x35 => some (x35, z27))
set_option maxHeartbeats 4000000 in
set_option maxRecDepth 100000 in
theorem c6_begin (l : Launch) (D : va_G) (cyI cyO cyJ : ClassId) (aM : Nat → Nat) (n : Nat) (oM : OB) (x1 : Int32) (z : Int32 × (OB)) (hf : f6_begin n oM x1 = some z) : Ct l D (tyG cyI cyO cyJ) yX6_begin wsX6_begin rm6_begin 0 0 [.ref (aM 0), .int x1] (bX6 cyI aM oM) (bX6 cyI aM z.2) (some (.int z.1)) := by
  refine Ct.of (cc := cX6_begin) (nL := 2) (ret := (some .int)) (lv := [(0, .ref (aM 0)), (1, .int x1)]) (by decide +kernel) rfl rfl (Nat.le_of_ble_eq_true rfl) ?_
  intro p e s m args below meth c A C
  have C : Cx p s m args meth c D (tyG cyI cyO cyJ) A RX6 cX6_begin 2 (some .int) wsX6_begin := C
  unfold f6_begin at hf
  refine n_aload_n C dX6_begin_0 0 rfl rfl ?_
  refine n_iconst (v := (nI 0)) C dX6_begin_1 (by decide) rfl ?_
  obtain ⟨oM_2, e2, hf⟩ := bi hf
  replace e2 := Option.some.inj e2
  refine n_put (w2 := bX6 cyI aM oM_2) (N := 12) (ty := .int) C dX6_begin_2 iw6_begin_X6 tyX6_ok nmX6 0 rfl rfl 6 (by decide) (List.mem_of_getElem? (i := 1) rfl) rfl rfl (by decide +kernel) rfl rfl (Nat.le_of_ble_eq_true rfl) (by subst e2; rfl) rfl ?_
  refine n_iload_n C dX6_begin_5 1 rfl rfl ?_
  refine n_iconst (v := (nI 3)) C dX6_begin_6 (by decide) rfl ?_
  refine n_bipush (v := (nI 8)) C dX6_begin_7 (by decide) rfl ?_
  obtain ⟨z9, h9, hf⟩ := bi hf
  refine n_callS (As := [.int x1, .int (nI 3), .int (nI 8)]) (rest := []) (w2 := bX6 cyI aM oM_2) C dX6_begin_9 (c6_in l D cyI cyO cyJ  n x1 (nI 3) (nI 8) z9 h9) (va_cwS 3 C.ts gX6_begin_X6_in rfl rfl rfl (by decide +kernel) ⟨Nat.le_of_ble_eq_true rfl, Nat.le_of_ble_eq_true rfl⟩) rfl Frm.none rfl (Nat.le_of_ble_eq_true rfl) ⟨Nat.le_of_ble_eq_true rfl, Nat.le_of_ble_eq_true rfl⟩ rfl ?_
  refine n_if_ne (t := 21) C dX6_begin_12 (by decide) rfl (fun h12 => ?_) (fun h12 => ?_)
  · have hf := iq h12 hf
    refine n_aload_n C dX6_begin_21 0 rfl rfl ?_
    obtain ⟨z22, h22, hf⟩ := bi hf
    refine n_callV (As := []) (rest := []) (w2 := bX6 cyI aM z22) C dX6_begin_22 (c6_saves l D cyI cyO cyJ aM n oM_2 z22 h22) (cwV 0 C.ts gX6_begin_X6_saves rfl rfl rfl (by decide +kernel) ⟨Nat.le_of_ble_eq_true rfl, Nat.le_of_ble_eq_true rfl⟩) rfl (q0 := 0) (ci := 6) rfl rfl Frm.self rfl (Nat.le_of_ble_eq_true rfl) ⟨Nat.le_of_ble_eq_true rfl, Nat.le_of_ble_eq_true rfl⟩ rfl ?_
    refine n_aload_n C dX6_begin_25 0 rfl rfl ?_
    refine n_iload_n C dX6_begin_26 1 rfl rfl ?_
    obtain ⟨z27, h27, hf⟩ := bi hf
    refine n_callV (As := [.int x1]) (rest := []) (w2 := bX6 cyI aM z27) C dX6_begin_27 (c6_begins l D cyI cyO cyJ aM n z22 x1 z27 h27) (cwV 1 C.ts gX6_begin_X6_begins rfl rfl rfl (by decide +kernel) ⟨Nat.le_of_ble_eq_true rfl, Nat.le_of_ble_eq_true rfl⟩) rfl (q0 := 0) (ci := 6) rfl rfl Frm.self rfl (Nat.le_of_ble_eq_true rfl) ⟨Nat.le_of_ble_eq_true rfl, Nat.le_of_ble_eq_true rfl⟩ rfl ?_
    refine n_aload_n C dX6_begin_30 0 rfl rfl ?_
    refine n_get (N := 12) C dX6_begin_31 iw6_begin_X6 0 rfl rfl 0 (by decide) (List.mem_of_getElem? (i := 2) rfl) rfl rfl rfl ?_
    refine n_iconst (v := (nI 5)) C dX6_begin_34 (by decide) rfl ?_
    obtain ⟨x35, h35, hf⟩ := bi hf
    obtain ⟨h35, e35⟩ := ald_some h35
    refine n_iald C dX6_begin_35 1 0 rfl rfl h35 rfl ?_
    rw [← e35]
    obtain rfl := Option.some.inj hf
    exact n_iret C dX6_begin_36
  · have hf := ip h12 hf
    refine n_aload_n C dX6_begin_15 0 rfl rfl ?_
    refine n_iconst (v := (nI 1)) C dX6_begin_16 (by decide) rfl ?_
    obtain ⟨z17, h17, hf⟩ := bi hf
    refine n_callV (As := [.int (nI 1)]) (rest := []) (w2 := bX6 cyI aM z17.2) C dX6_begin_17 (c6_fails l D cyI cyO cyJ aM n oM_2 (nI 1) z17 h17) (cwV 1 C.ts gX6_begin_X6_fails rfl rfl rfl (by decide +kernel) ⟨Nat.le_of_ble_eq_true rfl, Nat.le_of_ble_eq_true rfl⟩) rfl (q0 := 0) (ci := 6) rfl rfl Frm.self rfl (Nat.le_of_ble_eq_true rfl) ⟨Nat.le_of_ble_eq_true rfl, Nat.le_of_ble_eq_true rfl⟩ rfl ?_
    obtain rfl := Option.some.inj hf
    exact n_iret C dX6_begin_20
-- X6 having 
abbrev rm6_having : Room := { frames := 1, cells := 0, slots := 0, locals := 22 }
def f6_having_b6 (n : Nat) (oR : Nat → Int32) (x1 : Int32) (x2 : Int32) (x3 : Int32) : Nat → Int32 → Int32 → Option (Int32)
  | 0, _, _ => none
  | k + 1, v4, v5 =>
    (ald 270 oR (nI 5)).bind fun x10 => (if x10 ≤ v5 then some v4 else (f6_of n oR v5 x1).bind fun z20 => (if z20 = x2 then (if x3 = (-1 : Int32) then (f6_having_b6 n oR x1 x2 x3 k) (v4 + (nI 1)) (v5 + (nI 1)) else (f6_of n oR v5 (nI 0)).bind fun z36 => (if z36 = x3 then (f6_having_b6 n oR x1 x2 x3 k) (v4 + (nI 1)) (v5 + (nI 1)) else (f6_having_b6 n oR x1 x2 x3 k) (v4 + (nI 0)) (v5 + (nI 1)))) else (f6_having_b6 n oR x1 x2 x3 k) (v4 + (nI 0)) (v5 + (nI 1))))
def f6_having (n : Nat) (oR : Nat → Int32) (x1 : Int32) (x2 : Int32) (x3 : Int32) : Option (Int32) :=
  f6_having_b6 n oR x1 x2 x3 n (nI 0) (nI 0)
set_option maxHeartbeats 4000000 in
set_option maxRecDepth 100000 in
theorem t6_having_b6 {l : Launch} {p : Program} {e : Env} {s : State} {m : MethodId} {args : Array Value} {below : List Frame} {meth : Method} {c : Code} {D : va_G} {A : Nat → Prop} {cyI cyO cyJ : ClassId} {aR : Nat} (C : Cx p s m args meth c D (tyG cyI cyO cyJ) A RX6 cX6_having 6 (some .int) wsX6_having) {z : Int32} (n : Nat) (oR : Nat → Int32) (x1 : Int32) (x2 : Int32) (x3 : Int32) : ∀ (k : Nat) (v4 : Int32) (v5 : Int32), f6_having_b6 n oR x1 x2 x3 k v4 v5 = some z → Wn p l e rm6_having s m args below meth c D A 6 0 0 (MQ below (Qr D (tyG cyI cyO cyJ) ([(aR, .inl (cyI, 270, .inl oR))]) A (some (.int z))) args s 0 0 A) ([(aR, .inl (cyI, 270, .inl oR))]) 6 [(0, .ref aR), (1, .int x1), (2, .int x2), (3, .int x3), (4, .int v4), (5, .int v5)] [] := by
  intro k
  induction k with
  | zero => intro  v4 v5 hf; cases hf
  | succ k ih =>
    intro  v4 v5 hf
    unfold f6_having_b6 at hf
    refine n_iload C dX6_having_6 5 rfl rfl ?_
    refine n_aload_n C dX6_having_8 0 rfl rfl ?_
    refine n_iconst (v := (nI 5)) C dX6_having_9 (by decide) rfl ?_
    obtain ⟨x10, h10, hf⟩ := bi hf
    obtain ⟨h10, e10⟩ := ald_some h10
    refine n_iald C dX6_having_10 0 0 rfl rfl h10 rfl ?_
    rw [← e10]
    refine n_icmp_ge (t := 57) C dX6_having_11 (by decide) rfl (fun h11 => ?_) (fun h11 => ?_)
    · have hf := ip h11 hf
      refine n_iload C dX6_having_57 4 rfl rfl ?_
      obtain rfl := Option.some.inj hf
      exact n_iret C dX6_having_59
    · have hf := iq h11 hf
      refine n_iload C dX6_having_14 4 rfl rfl ?_
      refine n_aload_n C dX6_having_16 0 rfl rfl ?_
      refine n_iload C dX6_having_17 5 rfl rfl ?_
      refine n_iload_n C dX6_having_19 1 rfl rfl ?_
      obtain ⟨z20, h20, hf⟩ := bi hf
      refine n_callS (As := [.ref aR, .int v5, .int x1]) (rest := [.int v4]) (w2 := [(aR, .inl (cyI, 270, .inl oR))]) C dX6_having_20 (c6_of l D cyI cyO cyJ aR n oR v5 x1 z20 h20) (va_cwS 3 C.ts gX6_having_X6_of rfl rfl rfl (by decide +kernel) ⟨Nat.le_of_ble_eq_true rfl, Nat.le_of_ble_eq_true rfl⟩) rfl Frm.self rfl (Nat.le_of_ble_eq_true rfl) ⟨Nat.le_of_ble_eq_true rfl, Nat.le_of_ble_eq_true rfl⟩ rfl ?_
      refine n_iload_n C dX6_having_23 2 rfl rfl ?_
      refine n_icmp_ne (t := 47) C dX6_having_24 (by decide) rfl (fun h24 => ?_) (fun h24 => ?_)
      · have hf := iq h24 hf
        refine n_iconst (v := (nI 0)) C dX6_having_47 (by decide) rfl ?_
        refine n_iadd C dX6_having_48 rfl ?_
        refine n_istore (lv' := [(4, .int (v4 + (nI 0))), (0, .ref aR), (1, .int x1), (2, .int x2), (3, .int x3), (5, .int v5)]) C dX6_having_49 (by decide) rfl rfl ?_
        refine n_iinc (v := v5 + (nI 1)) (lv' := [(5, .int (v5 + (nI 1))), (4, .int (v4 + (nI 0))), (0, .ref aR), (1, .int x1), (2, .int x2), (3, .int x3)]) C dX6_having_51 (j := 5) rfl rfl (by decide) rfl rfl ?_
        refine n_goto (t := 6) C dX6_having_54 (by decide) ?_
        exact Wn.sub (lv' := [(0, .ref aR), (1, .int x1), (2, .int x2), (3, .int x3), (4, .int (v4 + (nI 0))), (5, .int (v5 + (nI 1)))]) [2, 3, 4, 5, 1, 0] rfl (ih (v4 + (nI 0)) (v5 + (nI 1)) hf)
      · have hf := ip h24 hf
        refine n_iload_n C dX6_having_27 3 rfl rfl ?_
        refine n_iconst (v := (-1 : Int32)) C dX6_having_28 (by decide) rfl ?_
        refine n_icmp_eq (t := 43) C dX6_having_29 (by decide) rfl (fun h29 => ?_) (fun h29 => ?_)
        · have hf := ip h29 hf
          refine n_iconst (v := (nI 1)) C dX6_having_43 (by decide) rfl ?_
          refine n_goto (t := 48) C dX6_having_44 (by decide) ?_
          refine n_iadd C dX6_having_48 rfl ?_
          refine n_istore (lv' := [(4, .int (v4 + (nI 1))), (0, .ref aR), (1, .int x1), (2, .int x2), (3, .int x3), (5, .int v5)]) C dX6_having_49 (by decide) rfl rfl ?_
          refine n_iinc (v := v5 + (nI 1)) (lv' := [(5, .int (v5 + (nI 1))), (4, .int (v4 + (nI 1))), (0, .ref aR), (1, .int x1), (2, .int x2), (3, .int x3)]) C dX6_having_51 (j := 5) rfl rfl (by decide) rfl rfl ?_
          refine n_goto (t := 6) C dX6_having_54 (by decide) ?_
          exact Wn.sub (lv' := [(0, .ref aR), (1, .int x1), (2, .int x2), (3, .int x3), (4, .int (v4 + (nI 1))), (5, .int (v5 + (nI 1)))]) [2, 3, 4, 5, 1, 0] rfl (ih (v4 + (nI 1)) (v5 + (nI 1)) hf)
        · have hf := iq h29 hf
          refine n_aload_n C dX6_having_32 0 rfl rfl ?_
          refine n_iload C dX6_having_33 5 rfl rfl ?_
          refine n_iconst (v := (nI 0)) C dX6_having_35 (by decide) rfl ?_
          obtain ⟨z36, h36, hf⟩ := bi hf
          refine n_callS (As := [.ref aR, .int v5, .int (nI 0)]) (rest := [.int v4]) (w2 := [(aR, .inl (cyI, 270, .inl oR))]) C dX6_having_36 (c6_of l D cyI cyO cyJ aR n oR v5 (nI 0) z36 h36) (va_cwS 3 C.ts gX6_having_X6_of rfl rfl rfl (by decide +kernel) ⟨Nat.le_of_ble_eq_true rfl, Nat.le_of_ble_eq_true rfl⟩) rfl Frm.self rfl (Nat.le_of_ble_eq_true rfl) ⟨Nat.le_of_ble_eq_true rfl, Nat.le_of_ble_eq_true rfl⟩ rfl ?_
          refine n_iload_n C dX6_having_39 3 rfl rfl ?_
          refine n_icmp_ne (t := 47) C dX6_having_40 (by decide) rfl (fun h40 => ?_) (fun h40 => ?_)
          · have hf := iq h40 hf
            refine n_iconst (v := (nI 0)) C dX6_having_47 (by decide) rfl ?_
            refine n_iadd C dX6_having_48 rfl ?_
            refine n_istore (lv' := [(4, .int (v4 + (nI 0))), (0, .ref aR), (1, .int x1), (2, .int x2), (3, .int x3), (5, .int v5)]) C dX6_having_49 (by decide) rfl rfl ?_
            refine n_iinc (v := v5 + (nI 1)) (lv' := [(5, .int (v5 + (nI 1))), (4, .int (v4 + (nI 0))), (0, .ref aR), (1, .int x1), (2, .int x2), (3, .int x3)]) C dX6_having_51 (j := 5) rfl rfl (by decide) rfl rfl ?_
            refine n_goto (t := 6) C dX6_having_54 (by decide) ?_
            exact Wn.sub (lv' := [(0, .ref aR), (1, .int x1), (2, .int x2), (3, .int x3), (4, .int (v4 + (nI 0))), (5, .int (v5 + (nI 1)))]) [2, 3, 4, 5, 1, 0] rfl (ih (v4 + (nI 0)) (v5 + (nI 1)) hf)
          · have hf := ip h40 hf
            refine n_iconst (v := (nI 1)) C dX6_having_43 (by decide) rfl ?_
            refine n_goto (t := 48) C dX6_having_44 (by decide) ?_
            refine n_iadd C dX6_having_48 rfl ?_
            refine n_istore (lv' := [(4, .int (v4 + (nI 1))), (0, .ref aR), (1, .int x1), (2, .int x2), (3, .int x3), (5, .int v5)]) C dX6_having_49 (by decide) rfl rfl ?_
            refine n_iinc (v := v5 + (nI 1)) (lv' := [(5, .int (v5 + (nI 1))), (4, .int (v4 + (nI 1))), (0, .ref aR), (1, .int x1), (2, .int x2), (3, .int x3)]) C dX6_having_51 (j := 5) rfl rfl (by decide) rfl rfl ?_
            refine n_goto (t := 6) C dX6_having_54 (by decide) ?_
            exact Wn.sub (lv' := [(0, .ref aR), (1, .int x1), (2, .int x2), (3, .int x3), (4, .int (v4 + (nI 1))), (5, .int (v5 + (nI 1)))]) [2, 3, 4, 5, 1, 0] rfl (ih (v4 + (nI 1)) (v5 + (nI 1)) hf)
set_option maxHeartbeats 4000000 in
set_option maxRecDepth 100000 in
theorem c6_having (l : Launch) (D : va_G) (cyI cyO cyJ : ClassId) (aR : Nat) (n : Nat) (oR : Nat → Int32) (x1 : Int32) (x2 : Int32) (x3 : Int32) (z : Int32) (hf : f6_having n oR x1 x2 x3 = some z) : Ct l D (tyG cyI cyO cyJ) yX6_having wsX6_having rm6_having 0 0 [.ref aR, .int x1, .int x2, .int x3] ([(aR, .inl (cyI, 270, .inl oR))]) ([(aR, .inl (cyI, 270, .inl oR))]) (some (.int z)) := by
  refine Ct.of (cc := cX6_having) (nL := 6) (ret := (some .int)) (lv := [(0, .ref aR), (1, .int x1), (2, .int x2), (3, .int x3)]) (by decide +kernel) rfl rfl (Nat.le_of_ble_eq_true rfl) ?_
  intro p e s m args below meth c A C
  have C : Cx p s m args meth c D (tyG cyI cyO cyJ) A RX6 cX6_having 6 (some .int) wsX6_having := C
  unfold f6_having at hf
  refine n_iconst (v := (nI 0)) C dX6_having_0 (by decide) rfl ?_
  refine n_istore (lv' := [(4, .int (nI 0)), (0, .ref aR), (1, .int x1), (2, .int x2), (3, .int x3)]) C dX6_having_1 (by decide) rfl rfl ?_
  refine n_iconst (v := (nI 0)) C dX6_having_3 (by decide) rfl ?_
  refine n_istore (lv' := [(5, .int (nI 0)), (4, .int (nI 0)), (0, .ref aR), (1, .int x1), (2, .int x2), (3, .int x3)]) C dX6_having_4 (by decide) rfl rfl ?_
  exact Wn.sub (lv' := [(0, .ref aR), (1, .int x1), (2, .int x2), (3, .int x3), (4, .int (nI 0)), (5, .int (nI 0))]) [2, 3, 4, 5, 1, 0] rfl (t6_having_b6 C n oR x1 x2 x3 n (nI 0) (nI 0) hf)
-- X6 isNeutral 
abbrev rm6_isNeutral : Room := { frames := 1, cells := 0, slots := 0, locals := 22 }
def f6_isNeutral (n : Nat) (oR : Nat → Int32) (x1 : Int32) (x2 : Int32) : Option (Int32) :=
  (f6_of n oR x1 (nI 1)).bind fun z3 => (if (z3 - z3 / (nI 6) * (nI 6)) = x2 then some (nI 0) else (f6_of n oR x1 (nI 2)).bind fun z16 => (if (z16 - z16 / (nI 6) * (nI 6)) = x2 then some (nI 0) else some (nI 1)))
set_option maxHeartbeats 4000000 in
set_option maxRecDepth 100000 in
theorem c6_isNeutral (l : Launch) (D : va_G) (cyI cyO cyJ : ClassId) (aR : Nat) (n : Nat) (oR : Nat → Int32) (x1 : Int32) (x2 : Int32) (z : Int32) (hf : f6_isNeutral n oR x1 x2 = some z) : Ct l D (tyG cyI cyO cyJ) yX6_isNeutral wsX6_isNeutral rm6_isNeutral 0 0 [.ref aR, .int x1, .int x2] ([(aR, .inl (cyI, 270, .inl oR))]) ([(aR, .inl (cyI, 270, .inl oR))]) (some (.int z)) := by
  refine Ct.of (cc := cX6_isNeutral) (nL := 3) (ret := (some .boolean)) (lv := [(0, .ref aR), (1, .int x1), (2, .int x2)]) (by decide +kernel) rfl rfl (Nat.le_of_ble_eq_true rfl) ?_
  intro p e s m args below meth c A C
  have C : Cx p s m args meth c D (tyG cyI cyO cyJ) A RX6 cX6_isNeutral 3 (some .boolean) wsX6_isNeutral := C
  unfold f6_isNeutral at hf
  refine n_aload_n C dX6_isNeutral_0 0 rfl rfl ?_
  refine n_iload_n C dX6_isNeutral_1 1 rfl rfl ?_
  refine n_iconst (v := (nI 1)) C dX6_isNeutral_2 (by decide) rfl ?_
  obtain ⟨z3, h3, hf⟩ := bi hf
  refine n_callS (As := [.ref aR, .int x1, .int (nI 1)]) (rest := []) (w2 := [(aR, .inl (cyI, 270, .inl oR))]) C dX6_isNeutral_3 (c6_of l D cyI cyO cyJ aR n oR x1 (nI 1) z3 h3) (va_cwS 3 C.ts gX6_isNeutral_X6_of rfl rfl rfl (by decide +kernel) ⟨Nat.le_of_ble_eq_true rfl, Nat.le_of_ble_eq_true rfl⟩) rfl Frm.self rfl (Nat.le_of_ble_eq_true rfl) ⟨Nat.le_of_ble_eq_true rfl, Nat.le_of_ble_eq_true rfl⟩ rfl ?_
  refine n_bipush (v := (nI 6)) C dX6_isNeutral_6 (by decide) rfl ?_
  refine n_irem C dX6_isNeutral_8 (by decide) rfl ?_
  refine n_iload_n C dX6_isNeutral_9 2 rfl rfl ?_
  refine n_icmp_eq (t := 30) C dX6_isNeutral_10 (by decide) rfl (fun h10 => ?_) (fun h10 => ?_)
  · have hf := ip h10 hf
    refine n_iconst (v := (nI 0)) C dX6_isNeutral_30 (by decide) rfl ?_
    obtain rfl := Option.some.inj hf
    exact n_zret C dX6_isNeutral_31 (Or.inl rfl)
  · have hf := iq h10 hf
    refine n_aload_n C dX6_isNeutral_13 0 rfl rfl ?_
    refine n_iload_n C dX6_isNeutral_14 1 rfl rfl ?_
    refine n_iconst (v := (nI 2)) C dX6_isNeutral_15 (by decide) rfl ?_
    obtain ⟨z16, h16, hf⟩ := bi hf
    refine n_callS (As := [.ref aR, .int x1, .int (nI 2)]) (rest := []) (w2 := [(aR, .inl (cyI, 270, .inl oR))]) C dX6_isNeutral_16 (c6_of l D cyI cyO cyJ aR n oR x1 (nI 2) z16 h16) (va_cwS 3 C.ts gX6_isNeutral_X6_of rfl rfl rfl (by decide +kernel) ⟨Nat.le_of_ble_eq_true rfl, Nat.le_of_ble_eq_true rfl⟩) rfl Frm.self rfl (Nat.le_of_ble_eq_true rfl) ⟨Nat.le_of_ble_eq_true rfl, Nat.le_of_ble_eq_true rfl⟩ rfl ?_
    refine n_bipush (v := (nI 6)) C dX6_isNeutral_19 (by decide) rfl ?_
    refine n_irem C dX6_isNeutral_21 (by decide) rfl ?_
    refine n_iload_n C dX6_isNeutral_22 2 rfl rfl ?_
    refine n_icmp_eq (t := 30) C dX6_isNeutral_23 (by decide) rfl (fun h23 => ?_) (fun h23 => ?_)
    · have hf := ip h23 hf
      refine n_iconst (v := (nI 0)) C dX6_isNeutral_30 (by decide) rfl ?_
      obtain rfl := Option.some.inj hf
      exact n_zret C dX6_isNeutral_31 (Or.inl rfl)
    · have hf := iq h23 hf
      refine n_iconst (v := (nI 1)) C dX6_isNeutral_26 (by decide) rfl ?_
      refine n_goto (t := 31) C dX6_isNeutral_27 (by decide) ?_
      obtain rfl := Option.some.inj hf
      exact n_zret C dX6_isNeutral_31 (Or.inr rfl)
-- X6 maySet 
abbrev rm6_maySet : Room := { frames := 2, cells := 0, slots := 0, locals := 47 }
def f6_maySet (n : Nat) (oR : Nat → Int32) (x1 : Int32) (x2 : Int32) : Option (Int32) :=
  (ald 270 oR (nI 4)).bind fun x3 => (nz x3).bind fun _ => (f6_of n oR x1 (nI 1)).bind fun z9 => (if z9 = (x2 - x2 / x3 * x3) then some (nI 0) else (f6_of n oR x1 (nI 2)).bind fun z19 => (if z19 = (x2 - x2 / x3 * x3) then some (nI 0) else (f6_having n oR (nI 4) x2 (-1 : Int32)).bind fun z30 => (ald 270 oR (nI 3)).bind fun x35 => (if x35 ≤ z30 then some (nI 0) else some (nI 1))))
set_option maxHeartbeats 4000000 in
set_option maxRecDepth 100000 in
theorem c6_maySet (l : Launch) (D : va_G) (cyI cyO cyJ : ClassId) (aR : Nat) (n : Nat) (oR : Nat → Int32) (x1 : Int32) (x2 : Int32) (z : Int32) (hf : f6_maySet n oR x1 x2 = some z) : Ct l D (tyG cyI cyO cyJ) yX6_maySet wsX6_maySet rm6_maySet 0 0 [.ref aR, .int x1, .int x2] ([(aR, .inl (cyI, 270, .inl oR))]) ([(aR, .inl (cyI, 270, .inl oR))]) (some (.int z)) := by
  refine Ct.of (cc := cX6_maySet) (nL := 4) (ret := (some .boolean)) (lv := [(0, .ref aR), (1, .int x1), (2, .int x2)]) (by decide +kernel) rfl rfl (Nat.le_of_ble_eq_true rfl) ?_
  intro p e s m args below meth c A C
  have C : Cx p s m args meth c D (tyG cyI cyO cyJ) A RX6 cX6_maySet 4 (some .boolean) wsX6_maySet := C
  unfold f6_maySet at hf
  refine n_iload_n C dX6_maySet_0 2 rfl rfl ?_
  refine n_aload_n C dX6_maySet_1 0 rfl rfl ?_
  refine n_iconst (v := (nI 4)) C dX6_maySet_2 (by decide) rfl ?_
  obtain ⟨x3, h3, hf⟩ := bi hf
  obtain ⟨h3, e3⟩ := ald_some h3
  refine n_iald C dX6_maySet_3 0 0 rfl rfl h3 rfl ?_
  rw [← e3]
  obtain ⟨u4, h4, hf⟩ := bi hf
  refine n_irem C dX6_maySet_4 (nz_some h4) rfl ?_
  refine n_istore_n (lv' := [(3, .int (x2 - x2 / x3 * x3)), (0, .ref aR), (1, .int x1), (2, .int x2)]) C dX6_maySet_5 (by decide) rfl rfl ?_
  refine n_aload_n C dX6_maySet_6 1 rfl rfl ?_
  refine n_iload_n C dX6_maySet_7 2 rfl rfl ?_
  refine n_iconst (v := (nI 1)) C dX6_maySet_8 (by decide) rfl ?_
  obtain ⟨z9, h9, hf⟩ := bi hf
  refine n_callS (As := [.ref aR, .int x1, .int (nI 1)]) (rest := []) (w2 := [(aR, .inl (cyI, 270, .inl oR))]) C dX6_maySet_9 (c6_of l D cyI cyO cyJ aR n oR x1 (nI 1) z9 h9) (va_cwS 3 C.ts gX6_maySet_X6_of rfl rfl rfl (by decide +kernel) ⟨Nat.le_of_ble_eq_true rfl, Nat.le_of_ble_eq_true rfl⟩) rfl Frm.self rfl (Nat.le_of_ble_eq_true rfl) ⟨Nat.le_of_ble_eq_true rfl, Nat.le_of_ble_eq_true rfl⟩ rfl ?_
  refine n_iload_n C dX6_maySet_12 0 rfl rfl ?_
  refine n_icmp_eq (t := 43) C dX6_maySet_13 (by decide) rfl (fun h13 => ?_) (fun h13 => ?_)
  · have hf := ip h13 hf
    refine n_iconst (v := (nI 0)) C dX6_maySet_43 (by decide) rfl ?_
    obtain rfl := Option.some.inj hf
    exact n_zret C dX6_maySet_44 (Or.inl rfl)
  · have hf := iq h13 hf
    refine n_aload_n C dX6_maySet_16 1 rfl rfl ?_
    refine n_iload_n C dX6_maySet_17 2 rfl rfl ?_
    refine n_iconst (v := (nI 2)) C dX6_maySet_18 (by decide) rfl ?_
    obtain ⟨z19, h19, hf⟩ := bi hf
    refine n_callS (As := [.ref aR, .int x1, .int (nI 2)]) (rest := []) (w2 := [(aR, .inl (cyI, 270, .inl oR))]) C dX6_maySet_19 (c6_of l D cyI cyO cyJ aR n oR x1 (nI 2) z19 h19) (va_cwS 3 C.ts gX6_maySet_X6_of rfl rfl rfl (by decide +kernel) ⟨Nat.le_of_ble_eq_true rfl, Nat.le_of_ble_eq_true rfl⟩) rfl Frm.self rfl (Nat.le_of_ble_eq_true rfl) ⟨Nat.le_of_ble_eq_true rfl, Nat.le_of_ble_eq_true rfl⟩ rfl ?_
    refine n_iload_n C dX6_maySet_22 0 rfl rfl ?_
    refine n_icmp_eq (t := 43) C dX6_maySet_23 (by decide) rfl (fun h23 => ?_) (fun h23 => ?_)
    · have hf := ip h23 hf
      refine n_iconst (v := (nI 0)) C dX6_maySet_43 (by decide) rfl ?_
      obtain rfl := Option.some.inj hf
      exact n_zret C dX6_maySet_44 (Or.inl rfl)
    · have hf := iq h23 hf
      refine n_aload_n C dX6_maySet_26 1 rfl rfl ?_
      refine n_iconst (v := (nI 4)) C dX6_maySet_27 (by decide) rfl ?_
      refine n_iload_n C dX6_maySet_28 3 rfl rfl ?_
      refine n_iconst (v := (-1 : Int32)) C dX6_maySet_29 (by decide) rfl ?_
      obtain ⟨z30, h30, hf⟩ := bi hf
      refine n_callS (As := [.ref aR, .int (nI 4), .int x2, .int (-1 : Int32)]) (rest := []) (w2 := [(aR, .inl (cyI, 270, .inl oR))]) C dX6_maySet_30 (c6_having l D cyI cyO cyJ aR n oR (nI 4) x2 (-1 : Int32) z30 h30) (va_cwS 4 C.ts gX6_maySet_X6_having rfl rfl rfl (by decide +kernel) ⟨Nat.le_of_ble_eq_true rfl, Nat.le_of_ble_eq_true rfl⟩) rfl Frm.self rfl (Nat.le_of_ble_eq_true rfl) ⟨Nat.le_of_ble_eq_true rfl, Nat.le_of_ble_eq_true rfl⟩ rfl ?_
      refine n_aload_n C dX6_maySet_33 1 rfl rfl ?_
      refine n_iconst (v := (nI 3)) C dX6_maySet_34 (by decide) rfl ?_
      obtain ⟨x35, h35, hf⟩ := bi hf
      obtain ⟨h35, e35⟩ := ald_some h35
      refine n_iald C dX6_maySet_35 0 0 rfl rfl h35 rfl ?_
      rw [← e35]
      refine n_icmp_ge (t := 43) C dX6_maySet_36 (by decide) rfl (fun h36 => ?_) (fun h36 => ?_)
      · have hf := ip h36 hf
        refine n_iconst (v := (nI 0)) C dX6_maySet_43 (by decide) rfl ?_
        obtain rfl := Option.some.inj hf
        exact n_zret C dX6_maySet_44 (Or.inl rfl)
      · have hf := iq h36 hf
        refine n_iconst (v := (nI 1)) C dX6_maySet_39 (by decide) rfl ?_
        refine n_goto (t := 44) C dX6_maySet_40 (by decide) ?_
        obtain rfl := Option.some.inj hf
        exact n_zret C dX6_maySet_44 (Or.inr rfl)
-- X6 found 
abbrev rm6_found : Room := { frames := 3, cells := 0, slots := 0, locals := 70 }
def f6_found_b101 (n : Nat) (oR : Nat → Int32) (x1 : Int32) (x2 : Int32) (k24 : Int32 → Int32 → Int32 → Int32 → Option (Int32)) (v3 : Int32) (v4 : Int32) (v5 : Int32) (v6 : Int32) (s0 : Int32) : Option (Int32) :=
  (if s0 = (0 : Int32) then k24 v3 v4 v5 (v6 + (nI 1)) else (if v3 = (-1 : Int32) then k24 v6 v4 v5 (v6 + (nI 1)) else (f6_having n oR v4 v6 (-1 : Int32)).bind fun z119 => (f6_having n oR v4 v3 (-1 : Int32)).bind fun z127 => (if z127 ≤ z119 then k24 v3 v4 v5 (v6 + (nI 1)) else k24 v6 v4 v5 (v6 + (nI 1)))))
def f6_found_b71 (n : Nat) (oR : Nat → Int32) (x1 : Int32) (x2 : Int32) (k24 : Int32 → Int32 → Int32 → Int32 → Option (Int32)) (v3 : Int32) (v4 : Int32) (v5 : Int32) (v6 : Int32) (s1 : Int32) : Option (Int32) :=
  (ald 270 oR (s1 + v6)).bind fun x74 => (if ((x74 >>> (v5 &&& 31)) &&& (nI 1)) = (0 : Int32) then (f6_having n oR v4 v6 v5).bind fun z90 => (if z90 = (0 : Int32) then f6_found_b101 n oR x1 x2 k24 v3 v4 v5 v6 (nI 1) else f6_found_b101 n oR x1 x2 k24 v3 v4 v5 v6 (nI 0)) else f6_found_b101 n oR x1 x2 k24 v3 v4 v5 v6 (nI 0))
def f6_found_b52 (n : Nat) (oR : Nat → Int32) (x1 : Int32) (x2 : Int32) (k24 : Int32 → Int32 → Int32 → Int32 → Option (Int32)) (v3 : Int32) (v4 : Int32) (v5 : Int32) (v6 : Int32) (s0 : Int32) : Option (Int32) :=
  (if s0 = (0 : Int32) then f6_found_b101 n oR x1 x2 k24 v3 v4 v5 v6 (nI 0) else (if x2 = (0 : Int32) then f6_found_b71 n oR x1 x2 k24 v3 v4 v5 v6 (nI 12) else f6_found_b71 n oR x1 x2 k24 v3 v4 v5 v6 (nI 6)))
def f6_found_b24 (n : Nat) (oR : Nat → Int32) (x1 : Int32) (x2 : Int32) : Nat → Int32 → Int32 → Int32 → Int32 → Option (Int32)
  | 0, _, _, _, _ => none
  | k + 1, v3, v4, v5, v6 =>
    (if (nI 6) ≤ v6 then some v3 else (if x2 = (0 : Int32) then (f6_maySet n oR x1 v6).bind fun z49 => f6_found_b52 n oR x1 x2 (f6_found_b24 n oR x1 x2 k) v3 v4 v5 v6 z49 else (f6_isNeutral n oR x1 v6).bind fun z39 => f6_found_b52 n oR x1 x2 (f6_found_b24 n oR x1 x2 k) v3 v4 v5 v6 z39))
def f6_found_b11 (n : Nat) (oR : Nat → Int32) (x1 : Int32) (x2 : Int32) (v3 : Int32) (s0 : Int32) : Option (Int32) :=
  (f6_of n oR x1 (nI 0)).bind fun z16 => f6_found_b24 n oR x1 x2 n v3 s0 z16 (nI 0)
def f6_found (n : Nat) (oR : Nat → Int32) (x1 : Int32) (x2 : Int32) : Option (Int32) :=
  (if x2 = (0 : Int32) then f6_found_b11 n oR x1 x2 (-1 : Int32) (nI 4) else f6_found_b11 n oR x1 x2 (-1 : Int32) (nI 3))
set_option maxHeartbeats 4000000 in
set_option maxRecDepth 100000 in
theorem t6_found_b101 {l : Launch} {p : Program} {e : Env} {s : State} {m : MethodId} {args : Array Value} {below : List Frame} {meth : Method} {c : Code} {D : va_G} {A : Nat → Prop} {cyI cyO cyJ : ClassId} {aR : Nat} (C : Cx p s m args meth c D (tyG cyI cyO cyJ) A RX6 cX6_found 8 (some .int) wsX6_found) {z : Int32} (n : Nat) (oR : Nat → Int32) (x1 : Int32) (x2 : Int32) {k24 : Int32 → Int32 → Int32 → Int32 → Option (Int32)} (hk24 : ∀ (v3 : Int32) (v4 : Int32) (v5 : Int32) (v6 : Int32), k24 v3 v4 v5 v6 = some z → Wn p l e rm6_found s m args below meth c D A 8 0 0 (MQ below (Qr D (tyG cyI cyO cyJ) ([(aR, .inl (cyI, 270, .inl oR))]) A (some (.int z))) args s 0 0 A) ([(aR, .inl (cyI, 270, .inl oR))]) 24 [(0, .ref aR), (1, .int x1), (2, .int x2), (3, .int v3), (4, .int v4), (5, .int v5), (6, .int v6)] []) (v3 : Int32) (v4 : Int32) (v5 : Int32) (v6 : Int32) (s0 : Int32) (hf : f6_found_b101 n oR x1 x2 k24 v3 v4 v5 v6 s0 = some z) : Wn p l e rm6_found s m args below meth c D A 8 0 0 (MQ below (Qr D (tyG cyI cyO cyJ) ([(aR, .inl (cyI, 270, .inl oR))]) A (some (.int z))) args s 0 0 A) ([(aR, .inl (cyI, 270, .inl oR))]) 101 [(0, .ref aR), (1, .int x1), (2, .int x2), (3, .int v3), (4, .int v4), (5, .int v5), (6, .int v6)] [.int s0] := by
  unfold f6_found_b101 at hf
  refine n_istore (lv' := [(7, .int s0), (0, .ref aR), (1, .int x1), (2, .int x2), (3, .int v3), (4, .int v4), (5, .int v5), (6, .int v6)]) C dX6_found_101 (by decide) rfl rfl ?_
  refine n_iload C dX6_found_103 0 rfl rfl ?_
  refine n_if_eq (t := 138) C dX6_found_105 (by decide) rfl (fun h105 => ?_) (fun h105 => ?_)
  · have hf := ip h105 hf
    refine n_iload_n C dX6_found_138 4 rfl rfl ?_
    refine n_istore_n (lv' := [(3, .int v3), (7, .int s0), (0, .ref aR), (1, .int x1), (2, .int x2), (4, .int v4), (5, .int v5), (6, .int v6)]) C dX6_found_139 (by decide) rfl rfl ?_
    refine n_iinc (v := v6 + (nI 1)) (lv' := [(6, .int (v6 + (nI 1))), (3, .int v3), (7, .int s0), (0, .ref aR), (1, .int x1), (2, .int x2), (4, .int v4), (5, .int v5)]) C dX6_found_140 (j := 7) rfl rfl (by decide) rfl rfl ?_
    refine n_goto (t := 24) C dX6_found_143 (by decide) ?_
    exact Wn.sub (lv' := [(0, .ref aR), (1, .int x1), (2, .int x2), (3, .int v3), (4, .int v4), (5, .int v5), (6, .int (v6 + (nI 1)))]) [3, 4, 5, 1, 6, 7, 0] rfl (hk24 v3 v4 v5 (v6 + (nI 1)) hf)
  · have hf := iq h105 hf
    refine n_iload_n C dX6_found_108 4 rfl rfl ?_
    refine n_iconst (v := (-1 : Int32)) C dX6_found_109 (by decide) rfl ?_
    refine n_icmp_eq (t := 133) C dX6_found_110 (by decide) rfl (fun h110 => ?_) (fun h110 => ?_)
    · have hf := ip h110 hf
      refine n_iload C dX6_found_133 7 rfl rfl ?_
      refine n_goto (t := 139) C dX6_found_135 (by decide) ?_
      refine n_istore_n (lv' := [(3, .int v6), (7, .int s0), (0, .ref aR), (1, .int x1), (2, .int x2), (4, .int v4), (5, .int v5), (6, .int v6)]) C dX6_found_139 (by decide) rfl rfl ?_
      refine n_iinc (v := v6 + (nI 1)) (lv' := [(6, .int (v6 + (nI 1))), (3, .int v6), (7, .int s0), (0, .ref aR), (1, .int x1), (2, .int x2), (4, .int v4), (5, .int v5)]) C dX6_found_140 (j := 7) rfl rfl (by decide) rfl rfl ?_
      refine n_goto (t := 24) C dX6_found_143 (by decide) ?_
      exact Wn.sub (lv' := [(0, .ref aR), (1, .int x1), (2, .int x2), (3, .int v6), (4, .int v4), (5, .int v5), (6, .int (v6 + (nI 1)))]) [3, 4, 5, 1, 6, 7, 0] rfl (hk24 v6 v4 v5 (v6 + (nI 1)) hf)
    · have hf := iq h110 hf
      refine n_aload_n C dX6_found_113 1 rfl rfl ?_
      refine n_iload C dX6_found_114 5 rfl rfl ?_
      refine n_iload C dX6_found_116 7 rfl rfl ?_
      refine n_iconst (v := (-1 : Int32)) C dX6_found_118 (by decide) rfl ?_
      obtain ⟨z119, h119, hf⟩ := bi hf
      refine n_callS (As := [.ref aR, .int v4, .int v6, .int (-1 : Int32)]) (rest := []) (w2 := [(aR, .inl (cyI, 270, .inl oR))]) C dX6_found_119 (c6_having l D cyI cyO cyJ aR n oR v4 v6 (-1 : Int32) z119 h119) (va_cwS 4 C.ts gX6_found_X6_having rfl rfl rfl (by decide +kernel) ⟨Nat.le_of_ble_eq_true rfl, Nat.le_of_ble_eq_true rfl⟩) rfl Frm.self rfl (Nat.le_of_ble_eq_true rfl) ⟨Nat.le_of_ble_eq_true rfl, Nat.le_of_ble_eq_true rfl⟩ rfl ?_
      refine n_aload_n C dX6_found_122 1 rfl rfl ?_
      refine n_iload C dX6_found_123 5 rfl rfl ?_
      refine n_iload_n C dX6_found_125 4 rfl rfl ?_
      refine n_iconst (v := (-1 : Int32)) C dX6_found_126 (by decide) rfl ?_
      obtain ⟨z127, h127, hf⟩ := bi hf
      refine n_callS (As := [.ref aR, .int v4, .int v3, .int (-1 : Int32)]) (rest := [.int z119]) (w2 := [(aR, .inl (cyI, 270, .inl oR))]) C dX6_found_127 (c6_having l D cyI cyO cyJ aR n oR v4 v3 (-1 : Int32) z127 h127) (va_cwS 4 C.ts gX6_found_X6_having rfl rfl rfl (by decide +kernel) ⟨Nat.le_of_ble_eq_true rfl, Nat.le_of_ble_eq_true rfl⟩) rfl Frm.self rfl (Nat.le_of_ble_eq_true rfl) ⟨Nat.le_of_ble_eq_true rfl, Nat.le_of_ble_eq_true rfl⟩ rfl ?_
      refine n_icmp_ge (t := 138) C dX6_found_130 (by decide) rfl (fun h130 => ?_) (fun h130 => ?_)
      · have hf := ip h130 hf
        refine n_iload_n C dX6_found_138 4 rfl rfl ?_
        refine n_istore_n (lv' := [(3, .int v3), (7, .int s0), (0, .ref aR), (1, .int x1), (2, .int x2), (4, .int v4), (5, .int v5), (6, .int v6)]) C dX6_found_139 (by decide) rfl rfl ?_
        refine n_iinc (v := v6 + (nI 1)) (lv' := [(6, .int (v6 + (nI 1))), (3, .int v3), (7, .int s0), (0, .ref aR), (1, .int x1), (2, .int x2), (4, .int v4), (5, .int v5)]) C dX6_found_140 (j := 7) rfl rfl (by decide) rfl rfl ?_
        refine n_goto (t := 24) C dX6_found_143 (by decide) ?_
        exact Wn.sub (lv' := [(0, .ref aR), (1, .int x1), (2, .int x2), (3, .int v3), (4, .int v4), (5, .int v5), (6, .int (v6 + (nI 1)))]) [3, 4, 5, 1, 6, 7, 0] rfl (hk24 v3 v4 v5 (v6 + (nI 1)) hf)
      · have hf := iq h130 hf
        refine n_iload C dX6_found_133 7 rfl rfl ?_
        refine n_goto (t := 139) C dX6_found_135 (by decide) ?_
        refine n_istore_n (lv' := [(3, .int v6), (7, .int s0), (0, .ref aR), (1, .int x1), (2, .int x2), (4, .int v4), (5, .int v5), (6, .int v6)]) C dX6_found_139 (by decide) rfl rfl ?_
        refine n_iinc (v := v6 + (nI 1)) (lv' := [(6, .int (v6 + (nI 1))), (3, .int v6), (7, .int s0), (0, .ref aR), (1, .int x1), (2, .int x2), (4, .int v4), (5, .int v5)]) C dX6_found_140 (j := 7) rfl rfl (by decide) rfl rfl ?_
        refine n_goto (t := 24) C dX6_found_143 (by decide) ?_
        exact Wn.sub (lv' := [(0, .ref aR), (1, .int x1), (2, .int x2), (3, .int v6), (4, .int v4), (5, .int v5), (6, .int (v6 + (nI 1)))]) [3, 4, 5, 1, 6, 7, 0] rfl (hk24 v6 v4 v5 (v6 + (nI 1)) hf)
set_option maxHeartbeats 4000000 in
set_option maxRecDepth 100000 in
theorem t6_found_b71 {l : Launch} {p : Program} {e : Env} {s : State} {m : MethodId} {args : Array Value} {below : List Frame} {meth : Method} {c : Code} {D : va_G} {A : Nat → Prop} {cyI cyO cyJ : ClassId} {aR : Nat} (C : Cx p s m args meth c D (tyG cyI cyO cyJ) A RX6 cX6_found 8 (some .int) wsX6_found) {z : Int32} (n : Nat) (oR : Nat → Int32) (x1 : Int32) (x2 : Int32) {k24 : Int32 → Int32 → Int32 → Int32 → Option (Int32)} (hk24 : ∀ (v3 : Int32) (v4 : Int32) (v5 : Int32) (v6 : Int32), k24 v3 v4 v5 v6 = some z → Wn p l e rm6_found s m args below meth c D A 8 0 0 (MQ below (Qr D (tyG cyI cyO cyJ) ([(aR, .inl (cyI, 270, .inl oR))]) A (some (.int z))) args s 0 0 A) ([(aR, .inl (cyI, 270, .inl oR))]) 24 [(0, .ref aR), (1, .int x1), (2, .int x2), (3, .int v3), (4, .int v4), (5, .int v5), (6, .int v6)] []) (v3 : Int32) (v4 : Int32) (v5 : Int32) (v6 : Int32) (s1 : Int32) (hf : f6_found_b71 n oR x1 x2 k24 v3 v4 v5 v6 s1 = some z) : Wn p l e rm6_found s m args below meth c D A 8 0 0 (MQ below (Qr D (tyG cyI cyO cyJ) ([(aR, .inl (cyI, 270, .inl oR))]) A (some (.int z))) args s 0 0 A) ([(aR, .inl (cyI, 270, .inl oR))]) 71 [(0, .ref aR), (1, .int x1), (2, .int x2), (3, .int v3), (4, .int v4), (5, .int v5), (6, .int v6)] [.int s1, .ref aR] := by
  unfold f6_found_b71 at hf
  refine n_iload C dX6_found_71 6 rfl rfl ?_
  refine n_iadd C dX6_found_73 rfl ?_
  obtain ⟨x74, h74, hf⟩ := bi hf
  obtain ⟨h74, e74⟩ := ald_some h74
  refine n_iald C dX6_found_74 0 0 rfl rfl h74 rfl ?_
  rw [← e74]
  refine n_iload C dX6_found_75 5 rfl rfl ?_
  refine n_ishr C dX6_found_77 rfl ?_
  refine n_iconst (v := (nI 1)) C dX6_found_78 (by decide) rfl ?_
  refine n_iand C dX6_found_79 rfl ?_
  refine n_if_ne (t := 100) C dX6_found_80 (by decide) rfl (fun h80 => ?_) (fun h80 => ?_)
  · have hf := iq h80 hf
    refine n_iconst (v := (nI 0)) C dX6_found_100 (by decide) rfl ?_
    exact Wn.sub (lv' := [(0, .ref aR), (1, .int x1), (2, .int x2), (3, .int v3), (4, .int v4), (5, .int v5), (6, .int v6)]) [0, 1, 2, 3, 4, 5, 6] rfl (t6_found_b101 C n oR x1 x2 hk24 v3 v4 v5 v6 (nI 0) hf)
  · have hf := ip h80 hf
    refine n_aload_n C dX6_found_83 0 rfl rfl ?_
    refine n_iload C dX6_found_84 4 rfl rfl ?_
    refine n_iload C dX6_found_86 6 rfl rfl ?_
    refine n_iload C dX6_found_88 5 rfl rfl ?_
    obtain ⟨z90, h90, hf⟩ := bi hf
    refine n_callS (As := [.ref aR, .int v4, .int v6, .int v5]) (rest := []) (w2 := [(aR, .inl (cyI, 270, .inl oR))]) C dX6_found_90 (c6_having l D cyI cyO cyJ aR n oR v4 v6 v5 z90 h90) (va_cwS 4 C.ts gX6_found_X6_having rfl rfl rfl (by decide +kernel) ⟨Nat.le_of_ble_eq_true rfl, Nat.le_of_ble_eq_true rfl⟩) rfl Frm.self rfl (Nat.le_of_ble_eq_true rfl) ⟨Nat.le_of_ble_eq_true rfl, Nat.le_of_ble_eq_true rfl⟩ rfl ?_
    refine n_if_ne (t := 100) C dX6_found_93 (by decide) rfl (fun h93 => ?_) (fun h93 => ?_)
    · have hf := iq h93 hf
      refine n_iconst (v := (nI 0)) C dX6_found_100 (by decide) rfl ?_
      exact Wn.sub (lv' := [(0, .ref aR), (1, .int x1), (2, .int x2), (3, .int v3), (4, .int v4), (5, .int v5), (6, .int v6)]) [0, 1, 2, 3, 4, 5, 6] rfl (t6_found_b101 C n oR x1 x2 hk24 v3 v4 v5 v6 (nI 0) hf)
    · have hf := ip h93 hf
      refine n_iconst (v := (nI 1)) C dX6_found_96 (by decide) rfl ?_
      refine n_goto (t := 101) C dX6_found_97 (by decide) ?_
      exact Wn.sub (lv' := [(0, .ref aR), (1, .int x1), (2, .int x2), (3, .int v3), (4, .int v4), (5, .int v5), (6, .int v6)]) [0, 1, 2, 3, 4, 5, 6] rfl (t6_found_b101 C n oR x1 x2 hk24 v3 v4 v5 v6 (nI 1) hf)
set_option maxHeartbeats 4000000 in
set_option maxRecDepth 100000 in
theorem t6_found_b52 {l : Launch} {p : Program} {e : Env} {s : State} {m : MethodId} {args : Array Value} {below : List Frame} {meth : Method} {c : Code} {D : va_G} {A : Nat → Prop} {cyI cyO cyJ : ClassId} {aR : Nat} (C : Cx p s m args meth c D (tyG cyI cyO cyJ) A RX6 cX6_found 8 (some .int) wsX6_found) {z : Int32} (n : Nat) (oR : Nat → Int32) (x1 : Int32) (x2 : Int32) {k24 : Int32 → Int32 → Int32 → Int32 → Option (Int32)} (hk24 : ∀ (v3 : Int32) (v4 : Int32) (v5 : Int32) (v6 : Int32), k24 v3 v4 v5 v6 = some z → Wn p l e rm6_found s m args below meth c D A 8 0 0 (MQ below (Qr D (tyG cyI cyO cyJ) ([(aR, .inl (cyI, 270, .inl oR))]) A (some (.int z))) args s 0 0 A) ([(aR, .inl (cyI, 270, .inl oR))]) 24 [(0, .ref aR), (1, .int x1), (2, .int x2), (3, .int v3), (4, .int v4), (5, .int v5), (6, .int v6)] []) (v3 : Int32) (v4 : Int32) (v5 : Int32) (v6 : Int32) (s0 : Int32) (hf : f6_found_b52 n oR x1 x2 k24 v3 v4 v5 v6 s0 = some z) : Wn p l e rm6_found s m args below meth c D A 8 0 0 (MQ below (Qr D (tyG cyI cyO cyJ) ([(aR, .inl (cyI, 270, .inl oR))]) A (some (.int z))) args s 0 0 A) ([(aR, .inl (cyI, 270, .inl oR))]) 52 [(0, .ref aR), (1, .int x1), (2, .int x2), (3, .int v3), (4, .int v4), (5, .int v5), (6, .int v6)] [.int s0] := by
  unfold f6_found_b52 at hf
  refine n_istore (lv' := [(7, .int s0), (0, .ref aR), (1, .int x1), (2, .int x2), (3, .int v3), (4, .int v4), (5, .int v5), (6, .int v6)]) C dX6_found_52 (by decide) rfl rfl ?_
  refine n_iload C dX6_found_54 0 rfl rfl ?_
  refine n_if_eq (t := 100) C dX6_found_56 (by decide) rfl (fun h56 => ?_) (fun h56 => ?_)
  · have hf := ip h56 hf
    refine n_iconst (v := (nI 0)) C dX6_found_100 (by decide) rfl ?_
    exact Wn.sub (lv' := [(0, .ref aR), (1, .int x1), (2, .int x2), (3, .int v3), (4, .int v4), (5, .int v5), (6, .int v6)]) [1, 2, 3, 4, 5, 6, 7] rfl (t6_found_b101 C n oR x1 x2 hk24 v3 v4 v5 v6 (nI 0) hf)
  · have hf := iq h56 hf
    refine n_aload_n C dX6_found_59 1 rfl rfl ?_
    refine n_iload_n C dX6_found_60 3 rfl rfl ?_
    refine n_if_eq (t := 69) C dX6_found_61 (by decide) rfl (fun h61 => ?_) (fun h61 => ?_)
    · have hf := ip h61 hf
      refine n_bipush (v := (nI 12)) C dX6_found_69 (by decide) rfl ?_
      exact Wn.sub (lv' := [(0, .ref aR), (1, .int x1), (2, .int x2), (3, .int v3), (4, .int v4), (5, .int v5), (6, .int v6)]) [1, 2, 3, 4, 5, 6, 7] rfl (t6_found_b71 C n oR x1 x2 hk24 v3 v4 v5 v6 (nI 12) hf)
    · have hf := iq h61 hf
      refine n_bipush (v := (nI 6)) C dX6_found_64 (by decide) rfl ?_
      refine n_goto (t := 71) C dX6_found_66 (by decide) ?_
      exact Wn.sub (lv' := [(0, .ref aR), (1, .int x1), (2, .int x2), (3, .int v3), (4, .int v4), (5, .int v5), (6, .int v6)]) [1, 2, 3, 4, 5, 6, 7] rfl (t6_found_b71 C n oR x1 x2 hk24 v3 v4 v5 v6 (nI 6) hf)
set_option maxHeartbeats 4000000 in
set_option maxRecDepth 100000 in
theorem t6_found_b24 {l : Launch} {p : Program} {e : Env} {s : State} {m : MethodId} {args : Array Value} {below : List Frame} {meth : Method} {c : Code} {D : va_G} {A : Nat → Prop} {cyI cyO cyJ : ClassId} {aR : Nat} (C : Cx p s m args meth c D (tyG cyI cyO cyJ) A RX6 cX6_found 8 (some .int) wsX6_found) {z : Int32} (n : Nat) (oR : Nat → Int32) (x1 : Int32) (x2 : Int32) : ∀ (k : Nat) (v3 : Int32) (v4 : Int32) (v5 : Int32) (v6 : Int32), f6_found_b24 n oR x1 x2 k v3 v4 v5 v6 = some z → Wn p l e rm6_found s m args below meth c D A 8 0 0 (MQ below (Qr D (tyG cyI cyO cyJ) ([(aR, .inl (cyI, 270, .inl oR))]) A (some (.int z))) args s 0 0 A) ([(aR, .inl (cyI, 270, .inl oR))]) 24 [(0, .ref aR), (1, .int x1), (2, .int x2), (3, .int v3), (4, .int v4), (5, .int v5), (6, .int v6)] [] := by
  intro k
  induction k with
  | zero => intro  v3 v4 v5 v6 hf; cases hf
  | succ k ih =>
    intro  v3 v4 v5 v6 hf
    unfold f6_found_b24 at hf
    refine n_iload C dX6_found_24 6 rfl rfl ?_
    refine n_bipush (v := (nI 6)) C dX6_found_26 (by decide) rfl ?_
    refine n_icmp_ge (t := 146) C dX6_found_28 (by decide) rfl (fun h28 => ?_) (fun h28 => ?_)
    · have hf := ip h28 hf
      refine n_iload_n C dX6_found_146 3 rfl rfl ?_
      obtain rfl := Option.some.inj hf
      exact n_iret C dX6_found_147
    · have hf := iq h28 hf
      refine n_iload_n C dX6_found_31 2 rfl rfl ?_
      refine n_if_eq (t := 45) C dX6_found_32 (by decide) rfl (fun h32 => ?_) (fun h32 => ?_)
      · have hf := ip h32 hf
        refine n_aload_n C dX6_found_45 0 rfl rfl ?_
        refine n_iload_n C dX6_found_46 1 rfl rfl ?_
        refine n_iload C dX6_found_47 6 rfl rfl ?_
        obtain ⟨z49, h49, hf⟩ := bi hf
        refine n_callS (As := [.ref aR, .int x1, .int v6]) (rest := []) (w2 := [(aR, .inl (cyI, 270, .inl oR))]) C dX6_found_49 (c6_maySet l D cyI cyO cyJ aR n oR x1 v6 z49 h49) (va_cwS 3 C.ts gX6_found_X6_maySet rfl rfl rfl (by decide +kernel) ⟨Nat.le_of_ble_eq_true rfl, Nat.le_of_ble_eq_true rfl⟩) rfl Frm.self rfl (Nat.le_of_ble_eq_true rfl) ⟨Nat.le_of_ble_eq_true rfl, Nat.le_of_ble_eq_true rfl⟩ rfl ?_
        exact Wn.sub (lv' := [(0, .ref aR), (1, .int x1), (2, .int x2), (3, .int v3), (4, .int v4), (5, .int v5), (6, .int v6)]) [0, 1, 2, 3, 4, 5, 6] rfl (t6_found_b52 C n oR x1 x2 ih v3 v4 v5 v6 z49 hf)
      · have hf := iq h32 hf
        refine n_aload_n C dX6_found_35 0 rfl rfl ?_
        refine n_iload_n C dX6_found_36 1 rfl rfl ?_
        refine n_iload C dX6_found_37 6 rfl rfl ?_
        obtain ⟨z39, h39, hf⟩ := bi hf
        refine n_callS (As := [.ref aR, .int x1, .int v6]) (rest := []) (w2 := [(aR, .inl (cyI, 270, .inl oR))]) C dX6_found_39 (c6_isNeutral l D cyI cyO cyJ aR n oR x1 v6 z39 h39) (va_cwS 3 C.ts gX6_found_X6_isNeutral rfl rfl rfl (by decide +kernel) ⟨Nat.le_of_ble_eq_true rfl, Nat.le_of_ble_eq_true rfl⟩) rfl Frm.self rfl (Nat.le_of_ble_eq_true rfl) ⟨Nat.le_of_ble_eq_true rfl, Nat.le_of_ble_eq_true rfl⟩ rfl ?_
        refine n_goto (t := 52) C dX6_found_42 (by decide) ?_
        exact Wn.sub (lv' := [(0, .ref aR), (1, .int x1), (2, .int x2), (3, .int v3), (4, .int v4), (5, .int v5), (6, .int v6)]) [0, 1, 2, 3, 4, 5, 6] rfl (t6_found_b52 C n oR x1 x2 ih v3 v4 v5 v6 z39 hf)
set_option maxHeartbeats 4000000 in
set_option maxRecDepth 100000 in
theorem t6_found_b11 {l : Launch} {p : Program} {e : Env} {s : State} {m : MethodId} {args : Array Value} {below : List Frame} {meth : Method} {c : Code} {D : va_G} {A : Nat → Prop} {cyI cyO cyJ : ClassId} {aR : Nat} (C : Cx p s m args meth c D (tyG cyI cyO cyJ) A RX6 cX6_found 8 (some .int) wsX6_found) {z : Int32} (n : Nat) (oR : Nat → Int32) (x1 : Int32) (x2 : Int32) (v3 : Int32) (s0 : Int32) (hf : f6_found_b11 n oR x1 x2 v3 s0 = some z) : Wn p l e rm6_found s m args below meth c D A 8 0 0 (MQ below (Qr D (tyG cyI cyO cyJ) ([(aR, .inl (cyI, 270, .inl oR))]) A (some (.int z))) args s 0 0 A) ([(aR, .inl (cyI, 270, .inl oR))]) 11 [(0, .ref aR), (1, .int x1), (2, .int x2), (3, .int v3)] [.int s0] := by
  unfold f6_found_b11 at hf
  refine n_istore (lv' := [(4, .int s0), (0, .ref aR), (1, .int x1), (2, .int x2), (3, .int v3)]) C dX6_found_11 (by decide) rfl rfl ?_
  refine n_aload_n C dX6_found_13 1 rfl rfl ?_
  refine n_iload_n C dX6_found_14 2 rfl rfl ?_
  refine n_iconst (v := (nI 0)) C dX6_found_15 (by decide) rfl ?_
  obtain ⟨z16, h16, hf⟩ := bi hf
  refine n_callS (As := [.ref aR, .int x1, .int (nI 0)]) (rest := []) (w2 := [(aR, .inl (cyI, 270, .inl oR))]) C dX6_found_16 (c6_of l D cyI cyO cyJ aR n oR x1 (nI 0) z16 h16) (va_cwS 3 C.ts gX6_found_X6_of rfl rfl rfl (by decide +kernel) ⟨Nat.le_of_ble_eq_true rfl, Nat.le_of_ble_eq_true rfl⟩) rfl Frm.self rfl (Nat.le_of_ble_eq_true rfl) ⟨Nat.le_of_ble_eq_true rfl, Nat.le_of_ble_eq_true rfl⟩ rfl ?_
  refine n_istore (lv' := [(5, .int z16), (4, .int s0), (0, .ref aR), (1, .int x1), (2, .int x2), (3, .int v3)]) C dX6_found_19 (by decide) rfl rfl ?_
  refine n_iconst (v := (nI 0)) C dX6_found_21 (by decide) rfl ?_
  refine n_istore (lv' := [(6, .int (nI 0)), (5, .int z16), (4, .int s0), (0, .ref aR), (1, .int x1), (2, .int x2), (3, .int v3)]) C dX6_found_22 (by decide) rfl rfl ?_
  exact Wn.sub (lv' := [(0, .ref aR), (1, .int x1), (2, .int x2), (3, .int v3), (4, .int s0), (5, .int z16), (6, .int (nI 0))]) [3, 4, 5, 6, 2, 1, 0] rfl (t6_found_b24 C n oR x1 x2 n v3 s0 z16 (nI 0) hf)
set_option maxHeartbeats 4000000 in
set_option maxRecDepth 100000 in
theorem c6_found (l : Launch) (D : va_G) (cyI cyO cyJ : ClassId) (aR : Nat) (n : Nat) (oR : Nat → Int32) (x1 : Int32) (x2 : Int32) (z : Int32) (hf : f6_found n oR x1 x2 = some z) : Ct l D (tyG cyI cyO cyJ) yX6_found wsX6_found rm6_found 0 0 [.ref aR, .int x1, .int x2] ([(aR, .inl (cyI, 270, .inl oR))]) ([(aR, .inl (cyI, 270, .inl oR))]) (some (.int z)) := by
  refine Ct.of (cc := cX6_found) (nL := 8) (ret := (some .int)) (lv := [(0, .ref aR), (1, .int x1), (2, .int x2)]) (by decide +kernel) rfl rfl (Nat.le_of_ble_eq_true rfl) ?_
  intro p e s m args below meth c A C
  have C : Cx p s m args meth c D (tyG cyI cyO cyJ) A RX6 cX6_found 8 (some .int) wsX6_found := C
  unfold f6_found at hf
  refine n_iconst (v := (-1 : Int32)) C dX6_found_0 (by decide) rfl ?_
  refine n_istore_n (lv' := [(3, .int (-1 : Int32)), (0, .ref aR), (1, .int x1), (2, .int x2)]) C dX6_found_1 (by decide) rfl rfl ?_
  refine n_iload_n C dX6_found_2 3 rfl rfl ?_
  refine n_if_eq (t := 10) C dX6_found_3 (by decide) rfl (fun h3 => ?_) (fun h3 => ?_)
  · have hf := ip h3 hf
    refine n_iconst (v := (nI 4)) C dX6_found_10 (by decide) rfl ?_
    exact Wn.sub (lv' := [(0, .ref aR), (1, .int x1), (2, .int x2), (3, .int (-1 : Int32))]) [1, 2, 3, 0] rfl (t6_found_b11 C n oR x1 x2 (-1 : Int32) (nI 4) hf)
  · have hf := iq h3 hf
    refine n_iconst (v := (nI 3)) C dX6_found_6 (by decide) rfl ?_
    refine n_goto (t := 11) C dX6_found_7 (by decide) ?_
    exact Wn.sub (lv' := [(0, .ref aR), (1, .int x1), (2, .int x2), (3, .int (-1 : Int32))]) [1, 2, 3, 0] rfl (t6_found_b11 C n oR x1 x2 (-1 : Int32) (nI 3) hf)
-- X6 stages 
abbrev rm6_stages : Room := { frames := 4, cells := 0, slots := 0, locals := 97 }
def f6_stages_b171 (n : Nat) (k65 : Int32 → Int32 → (Nat → Int32) → Option (Int32 × (Nat → Int32))) (v1 : Int32) (v2 : Int32) (v4 : Int32) (s1 : Int32) (s2 : Int32) (oR : Nat → Int32) : Option (Int32 × (Nat → Int32)) :=
  (ast 270 oR s1 s2).bind fun oR_171 => (if v4 = (-1 : Int32) then k65 (v1 + (nI 0)) (v2 + (nI 1)) oR_171 else k65 (v1 + (nI 1)) (v2 + (nI 1)) oR_171)
def f6_stages_b127 (n : Nat) (k65 : Int32 → Int32 → (Nat → Int32) → Option (Int32 × (Nat → Int32))) (v1 : Int32) (v2 : Int32) (v3 : Int32) (v4 : Int32) (s1 : Int32) (s2 : Int32) (oR : Nat → Int32) : Option (Int32 × (Nat → Int32)) :=
  (ast 270 oR s1 s2).bind fun oR_127 => (ast 270 oR_127 (((nI 18) + ((nI 9) * v2)) + (nI 4)) v4).bind fun oR_140 => (if v3 = (-1 : Int32) then f6_stages_b171 n k65 v1 v2 v4 (((nI 18) + ((nI 9) * v2)) + (nI 5)) (nI 1) oR_140 else (if v4 = (-1 : Int32) then f6_stages_b171 n k65 v1 v2 v4 (((nI 18) + ((nI 9) * v2)) + (nI 5)) (nI 2) oR_140 else f6_stages_b171 n k65 v1 v2 v4 (((nI 18) + ((nI 9) * v2)) + (nI 5)) (nI 0) oR_140))
def f6_stages_b104 (n : Nat) (k65 : Int32 → Int32 → (Nat → Int32) → Option (Int32 × (Nat → Int32))) (v1 : Int32) (v2 : Int32) (v3 : Int32) (s0 : Int32) (oR : Nat → Int32) : Option (Int32 × (Nat → Int32)) :=
  (if s0 = (-1 : Int32) then f6_stages_b127 n k65 v1 v2 v3 s0 (((nI 18) + ((nI 9) * v2)) + (nI 3)) (-1 : Int32) oR else f6_stages_b127 n k65 v1 v2 v3 s0 (((nI 18) + ((nI 9) * v2)) + (nI 3)) v3 oR)
def f6_stages_b65 (n : Nat) : Nat → Int32 → Int32 → (Nat → Int32) → Option (Int32 × (Nat → Int32))
  | 0, _, _, _ => none
  | k + 1, v1, v2, oR =>
    (ald 270 oR (nI 5)).bind fun x68 => (if x68 ≤ v2 then some (v1, oR) else (f6_of n oR v2 (nI 6)).bind fun z76 => (if z76 = (0 : Int32) then (f6_found n oR v2 (nI 1)).bind fun z85 => (if z85 = (-1 : Int32) then f6_stages_b104 n (f6_stages_b65 n k) v1 v2 z85 (-1 : Int32) oR else (f6_found n oR v2 (nI 0)).bind fun z101 => f6_stages_b104 n (f6_stages_b65 n k) v1 v2 z85 z101 oR) else (f6_stages_b65 n k) v1 (v2 + (nI 1)) oR))
def f6_stages_b61 (n : Nat) (oR : Nat → Int32) : Option (Int32 × (Nat → Int32)) :=
  f6_stages_b65 n n (nI 0) (nI 0) oR
def f6_stages_b2 (n : Nat) (k61 : (Nat → Int32) → Option (Int32 × (Nat → Int32))) : Nat → Int32 → (Nat → Int32) → Option (Int32 × (Nat → Int32))
  | 0, _, _ => none
  | k + 1, v1, oR =>
    (ald 270 oR (nI 5)).bind fun x5 => (if x5 ≤ v1 then k61 oR else (f6_of n oR v1 (nI 6)).bind fun z13 => (if z13 = (0 : Int32) then (ast 270 oR (((nI 18) + ((nI 9) * v1)) + (nI 3)) (-1 : Int32)).bind fun oR_30 => (ast 270 oR_30 (((nI 18) + ((nI 9) * v1)) + (nI 4)) (-1 : Int32)).bind fun oR_42 => (ast 270 oR_42 (((nI 18) + ((nI 9) * v1)) + (nI 5)) (nI 0)).bind fun oR_54 => (f6_stages_b2 n k61 k) (v1 + (nI 1)) oR_54 else (f6_stages_b2 n k61 k) (v1 + (nI 1)) oR))
def f6_stages (n : Nat) (oR : Nat → Int32) : Option (Int32 × (Nat → Int32)) :=
  f6_stages_b2 n (fun oR => f6_stages_b61 n oR) n (nI 0) oR
set_option maxHeartbeats 4000000 in
set_option maxRecDepth 100000 in
theorem t6_stages_b171 {l : Launch} {p : Program} {e : Env} {s : State} {m : MethodId} {args : Array Value} {below : List Frame} {meth : Method} {c : Code} {D : va_G} {A : Nat → Prop} {cyI cyO cyJ : ClassId} {aR : Nat} (C : Cx p s m args meth c D (tyG cyI cyO cyJ) A RX6 cX6_stages 5 (some .int) wsX6_stages) {z : Int32 × (Nat → Int32)} (n : Nat) {k65 : Int32 → Int32 → (Nat → Int32) → Option (Int32 × (Nat → Int32))} (hk65 : ∀ (v1 : Int32) (v2 : Int32) (oR : Nat → Int32), k65 v1 v2 oR = some z → Wn p l e rm6_stages s m args below meth c D A 5 0 0 (MQ below (Qr D (tyG cyI cyO cyJ) ([(aR, .inl (cyI, 270, .inl z.2))]) A (some (.int z.1))) args s 0 0 A) ([(aR, .inl (cyI, 270, .inl oR))]) 65 [(0, .ref aR), (1, .int v1), (2, .int v2)] []) (v1 : Int32) (v2 : Int32) (v4 : Int32) (s1 : Int32) (s2 : Int32) (oR : Nat → Int32) (hf : f6_stages_b171 n k65 v1 v2 v4 s1 s2 oR = some z) : Wn p l e rm6_stages s m args below meth c D A 5 0 0 (MQ below (Qr D (tyG cyI cyO cyJ) ([(aR, .inl (cyI, 270, .inl z.2))]) A (some (.int z.1))) args s 0 0 A) ([(aR, .inl (cyI, 270, .inl oR))]) 171 [(0, .ref aR), (1, .int v1), (2, .int v2), (4, .int v4)] [.int s2, .int s1, .ref aR] := by
  unfold f6_stages_b171 at hf
  obtain ⟨oR_171, h171, hf⟩ := bi hf
  obtain ⟨h171, e171⟩ := ast_some h171
  refine n_iast (w2 := [(aR, .inl (cyI, 270, .inl oR_171))]) C dX6_stages_171 0 0 rfl rfl h171 (by subst e171; rfl) rfl ?_
  refine n_iload_n C dX6_stages_172 1 rfl rfl ?_
  refine n_iload C dX6_stages_173 3 rfl rfl ?_
  refine n_iconst (v := (-1 : Int32)) C dX6_stages_175 (by decide) rfl ?_
  refine n_icmp_ne (t := 183) C dX6_stages_176 (by decide) rfl (fun h176 => ?_) (fun h176 => ?_)
  · have hf := iq h176 hf
    refine n_iconst (v := (nI 1)) C dX6_stages_183 (by decide) rfl ?_
    refine n_iadd C dX6_stages_184 rfl ?_
    refine n_istore_n (lv' := [(1, .int (v1 + (nI 1))), (0, .ref aR), (2, .int v2), (4, .int v4)]) C dX6_stages_185 (by decide) rfl rfl ?_
    refine n_iinc (v := v2 + (nI 1)) (lv' := [(2, .int (v2 + (nI 1))), (1, .int (v1 + (nI 1))), (0, .ref aR), (4, .int v4)]) C dX6_stages_186 (j := 2) rfl rfl (by decide) rfl rfl ?_
    refine n_goto (t := 65) C dX6_stages_189 (by decide) ?_
    exact Wn.sub (lv' := [(0, .ref aR), (1, .int (v1 + (nI 1))), (2, .int (v2 + (nI 1)))]) [2, 1, 0] rfl (hk65 (v1 + (nI 1)) (v2 + (nI 1)) oR_171 hf)
  · have hf := ip h176 hf
    refine n_iconst (v := (nI 0)) C dX6_stages_179 (by decide) rfl ?_
    refine n_goto (t := 184) C dX6_stages_180 (by decide) ?_
    refine n_iadd C dX6_stages_184 rfl ?_
    refine n_istore_n (lv' := [(1, .int (v1 + (nI 0))), (0, .ref aR), (2, .int v2), (4, .int v4)]) C dX6_stages_185 (by decide) rfl rfl ?_
    refine n_iinc (v := v2 + (nI 1)) (lv' := [(2, .int (v2 + (nI 1))), (1, .int (v1 + (nI 0))), (0, .ref aR), (4, .int v4)]) C dX6_stages_186 (j := 2) rfl rfl (by decide) rfl rfl ?_
    refine n_goto (t := 65) C dX6_stages_189 (by decide) ?_
    exact Wn.sub (lv' := [(0, .ref aR), (1, .int (v1 + (nI 0))), (2, .int (v2 + (nI 1)))]) [2, 1, 0] rfl (hk65 (v1 + (nI 0)) (v2 + (nI 1)) oR_171 hf)
set_option maxHeartbeats 4000000 in
set_option maxRecDepth 100000 in
theorem t6_stages_b127 {l : Launch} {p : Program} {e : Env} {s : State} {m : MethodId} {args : Array Value} {below : List Frame} {meth : Method} {c : Code} {D : va_G} {A : Nat → Prop} {cyI cyO cyJ : ClassId} {aR : Nat} (C : Cx p s m args meth c D (tyG cyI cyO cyJ) A RX6 cX6_stages 5 (some .int) wsX6_stages) {z : Int32 × (Nat → Int32)} (n : Nat) {k65 : Int32 → Int32 → (Nat → Int32) → Option (Int32 × (Nat → Int32))} (hk65 : ∀ (v1 : Int32) (v2 : Int32) (oR : Nat → Int32), k65 v1 v2 oR = some z → Wn p l e rm6_stages s m args below meth c D A 5 0 0 (MQ below (Qr D (tyG cyI cyO cyJ) ([(aR, .inl (cyI, 270, .inl z.2))]) A (some (.int z.1))) args s 0 0 A) ([(aR, .inl (cyI, 270, .inl oR))]) 65 [(0, .ref aR), (1, .int v1), (2, .int v2)] []) (v1 : Int32) (v2 : Int32) (v3 : Int32) (v4 : Int32) (s1 : Int32) (s2 : Int32) (oR : Nat → Int32) (hf : f6_stages_b127 n k65 v1 v2 v3 v4 s1 s2 oR = some z) : Wn p l e rm6_stages s m args below meth c D A 5 0 0 (MQ below (Qr D (tyG cyI cyO cyJ) ([(aR, .inl (cyI, 270, .inl z.2))]) A (some (.int z.1))) args s 0 0 A) ([(aR, .inl (cyI, 270, .inl oR))]) 127 [(0, .ref aR), (1, .int v1), (2, .int v2), (3, .int v3), (4, .int v4)] [.int s2, .int s1, .ref aR] := by
  unfold f6_stages_b127 at hf
  obtain ⟨oR_127, h127, hf⟩ := bi hf
  obtain ⟨h127, e127⟩ := ast_some h127
  refine n_iast (w2 := [(aR, .inl (cyI, 270, .inl oR_127))]) C dX6_stages_127 0 0 rfl rfl h127 (by subst e127; rfl) rfl ?_
  refine n_aload_n C dX6_stages_128 0 rfl rfl ?_
  refine n_bipush (v := (nI 18)) C dX6_stages_129 (by decide) rfl ?_
  refine n_bipush (v := (nI 9)) C dX6_stages_131 (by decide) rfl ?_
  refine n_iload_n C dX6_stages_133 2 rfl rfl ?_
  refine n_imul C dX6_stages_134 rfl ?_
  refine n_iadd C dX6_stages_135 rfl ?_
  refine n_iconst (v := (nI 4)) C dX6_stages_136 (by decide) rfl ?_
  refine n_iadd C dX6_stages_137 rfl ?_
  refine n_iload C dX6_stages_138 4 rfl rfl ?_
  obtain ⟨oR_140, h140, hf⟩ := bi hf
  obtain ⟨h140, e140⟩ := ast_some h140
  refine n_iast (w2 := [(aR, .inl (cyI, 270, .inl oR_140))]) C dX6_stages_140 0 0 rfl rfl h140 (by subst e140; rfl) rfl ?_
  refine n_aload_n C dX6_stages_141 0 rfl rfl ?_
  refine n_bipush (v := (nI 18)) C dX6_stages_142 (by decide) rfl ?_
  refine n_bipush (v := (nI 9)) C dX6_stages_144 (by decide) rfl ?_
  refine n_iload_n C dX6_stages_146 2 rfl rfl ?_
  refine n_imul C dX6_stages_147 rfl ?_
  refine n_iadd C dX6_stages_148 rfl ?_
  refine n_iconst (v := (nI 5)) C dX6_stages_149 (by decide) rfl ?_
  refine n_iadd C dX6_stages_150 rfl ?_
  refine n_iload_n C dX6_stages_151 3 rfl rfl ?_
  refine n_iconst (v := (-1 : Int32)) C dX6_stages_152 (by decide) rfl ?_
  refine n_icmp_ne (t := 160) C dX6_stages_153 (by decide) rfl (fun h153 => ?_) (fun h153 => ?_)
  · have hf := iq h153 hf
    refine n_iload C dX6_stages_160 4 rfl rfl ?_
    refine n_iconst (v := (-1 : Int32)) C dX6_stages_162 (by decide) rfl ?_
    refine n_icmp_ne (t := 170) C dX6_stages_163 (by decide) rfl (fun h163 => ?_) (fun h163 => ?_)
    · have hf := iq h163 hf
      refine n_iconst (v := (nI 0)) C dX6_stages_170 (by decide) rfl ?_
      exact Wn.sub (lv' := [(0, .ref aR), (1, .int v1), (2, .int v2), (4, .int v4)]) [0, 1, 2, 4] rfl (t6_stages_b171 C n hk65 v1 v2 v4 (((nI 18) + ((nI 9) * v2)) + (nI 5)) (nI 0) oR_140 hf)
    · have hf := ip h163 hf
      refine n_iconst (v := (nI 2)) C dX6_stages_166 (by decide) rfl ?_
      refine n_goto (t := 171) C dX6_stages_167 (by decide) ?_
      exact Wn.sub (lv' := [(0, .ref aR), (1, .int v1), (2, .int v2), (4, .int v4)]) [0, 1, 2, 4] rfl (t6_stages_b171 C n hk65 v1 v2 v4 (((nI 18) + ((nI 9) * v2)) + (nI 5)) (nI 2) oR_140 hf)
  · have hf := ip h153 hf
    refine n_iconst (v := (nI 1)) C dX6_stages_156 (by decide) rfl ?_
    refine n_goto (t := 171) C dX6_stages_157 (by decide) ?_
    exact Wn.sub (lv' := [(0, .ref aR), (1, .int v1), (2, .int v2), (4, .int v4)]) [0, 1, 2, 4] rfl (t6_stages_b171 C n hk65 v1 v2 v4 (((nI 18) + ((nI 9) * v2)) + (nI 5)) (nI 1) oR_140 hf)
set_option maxHeartbeats 4000000 in
set_option maxRecDepth 100000 in
theorem t6_stages_b104 {l : Launch} {p : Program} {e : Env} {s : State} {m : MethodId} {args : Array Value} {below : List Frame} {meth : Method} {c : Code} {D : va_G} {A : Nat → Prop} {cyI cyO cyJ : ClassId} {aR : Nat} (C : Cx p s m args meth c D (tyG cyI cyO cyJ) A RX6 cX6_stages 5 (some .int) wsX6_stages) {z : Int32 × (Nat → Int32)} (n : Nat) {k65 : Int32 → Int32 → (Nat → Int32) → Option (Int32 × (Nat → Int32))} (hk65 : ∀ (v1 : Int32) (v2 : Int32) (oR : Nat → Int32), k65 v1 v2 oR = some z → Wn p l e rm6_stages s m args below meth c D A 5 0 0 (MQ below (Qr D (tyG cyI cyO cyJ) ([(aR, .inl (cyI, 270, .inl z.2))]) A (some (.int z.1))) args s 0 0 A) ([(aR, .inl (cyI, 270, .inl oR))]) 65 [(0, .ref aR), (1, .int v1), (2, .int v2)] []) (v1 : Int32) (v2 : Int32) (v3 : Int32) (s0 : Int32) (oR : Nat → Int32) (hf : f6_stages_b104 n k65 v1 v2 v3 s0 oR = some z) : Wn p l e rm6_stages s m args below meth c D A 5 0 0 (MQ below (Qr D (tyG cyI cyO cyJ) ([(aR, .inl (cyI, 270, .inl z.2))]) A (some (.int z.1))) args s 0 0 A) ([(aR, .inl (cyI, 270, .inl oR))]) 104 [(0, .ref aR), (1, .int v1), (2, .int v2), (3, .int v3)] [.int s0] := by
  unfold f6_stages_b104 at hf
  refine n_istore (lv' := [(4, .int s0), (0, .ref aR), (1, .int v1), (2, .int v2), (3, .int v3)]) C dX6_stages_104 (by decide) rfl rfl ?_
  refine n_aload_n C dX6_stages_106 1 rfl rfl ?_
  refine n_bipush (v := (nI 18)) C dX6_stages_107 (by decide) rfl ?_
  refine n_bipush (v := (nI 9)) C dX6_stages_109 (by decide) rfl ?_
  refine n_iload_n C dX6_stages_111 3 rfl rfl ?_
  refine n_imul C dX6_stages_112 rfl ?_
  refine n_iadd C dX6_stages_113 rfl ?_
  refine n_iconst (v := (nI 3)) C dX6_stages_114 (by decide) rfl ?_
  refine n_iadd C dX6_stages_115 rfl ?_
  refine n_iload C dX6_stages_116 0 rfl rfl ?_
  refine n_iconst (v := (-1 : Int32)) C dX6_stages_118 (by decide) rfl ?_
  refine n_icmp_ne (t := 126) C dX6_stages_119 (by decide) rfl (fun h119 => ?_) (fun h119 => ?_)
  · have hf := iq h119 hf
    refine n_iload_n C dX6_stages_126 4 rfl rfl ?_
    exact Wn.sub (lv' := [(0, .ref aR), (1, .int v1), (2, .int v2), (3, .int v3), (4, .int s0)]) [1, 2, 3, 4, 0] rfl (t6_stages_b127 C n hk65 v1 v2 v3 s0 (((nI 18) + ((nI 9) * v2)) + (nI 3)) v3 oR hf)
  · have hf := ip h119 hf
    refine n_iconst (v := (-1 : Int32)) C dX6_stages_122 (by decide) rfl ?_
    refine n_goto (t := 127) C dX6_stages_123 (by decide) ?_
    exact Wn.sub (lv' := [(0, .ref aR), (1, .int v1), (2, .int v2), (3, .int v3), (4, .int s0)]) [1, 2, 3, 4, 0] rfl (t6_stages_b127 C n hk65 v1 v2 v3 s0 (((nI 18) + ((nI 9) * v2)) + (nI 3)) (-1 : Int32) oR hf)
set_option maxHeartbeats 4000000 in
set_option maxRecDepth 100000 in
theorem t6_stages_b65 {l : Launch} {p : Program} {e : Env} {s : State} {m : MethodId} {args : Array Value} {below : List Frame} {meth : Method} {c : Code} {D : va_G} {A : Nat → Prop} {cyI cyO cyJ : ClassId} {aR : Nat} (C : Cx p s m args meth c D (tyG cyI cyO cyJ) A RX6 cX6_stages 5 (some .int) wsX6_stages) {z : Int32 × (Nat → Int32)} (n : Nat) : ∀ (k : Nat) (v1 : Int32) (v2 : Int32) (oR : Nat → Int32), f6_stages_b65 n k v1 v2 oR = some z → Wn p l e rm6_stages s m args below meth c D A 5 0 0 (MQ below (Qr D (tyG cyI cyO cyJ) ([(aR, .inl (cyI, 270, .inl z.2))]) A (some (.int z.1))) args s 0 0 A) ([(aR, .inl (cyI, 270, .inl oR))]) 65 [(0, .ref aR), (1, .int v1), (2, .int v2)] [] := by
  intro k
  induction k with
  | zero => intro  v1 v2 oR hf; cases hf
  | succ k ih =>
    intro  v1 v2 oR hf
    unfold f6_stages_b65 at hf
    refine n_iload_n C dX6_stages_65 2 rfl rfl ?_
    refine n_aload_n C dX6_stages_66 0 rfl rfl ?_
    refine n_iconst (v := (nI 5)) C dX6_stages_67 (by decide) rfl ?_
    obtain ⟨x68, h68, hf⟩ := bi hf
    obtain ⟨h68, e68⟩ := ald_some h68
    refine n_iald C dX6_stages_68 0 0 rfl rfl h68 rfl ?_
    rw [← e68]
    refine n_icmp_ge (t := 192) C dX6_stages_69 (by decide) rfl (fun h69 => ?_) (fun h69 => ?_)
    · have hf := ip h69 hf
      refine n_iload_n C dX6_stages_192 1 rfl rfl ?_
      obtain rfl := Option.some.inj hf
      exact n_iret C dX6_stages_193
    · have hf := iq h69 hf
      refine n_aload_n C dX6_stages_72 0 rfl rfl ?_
      refine n_iload_n C dX6_stages_73 2 rfl rfl ?_
      refine n_bipush (v := (nI 6)) C dX6_stages_74 (by decide) rfl ?_
      obtain ⟨z76, h76, hf⟩ := bi hf
      refine n_callS (As := [.ref aR, .int v2, .int (nI 6)]) (rest := []) (w2 := [(aR, .inl (cyI, 270, .inl oR))]) C dX6_stages_76 (c6_of l D cyI cyO cyJ aR n oR v2 (nI 6) z76 h76) (va_cwS 3 C.ts gX6_stages_X6_of rfl rfl rfl (by decide +kernel) ⟨Nat.le_of_ble_eq_true rfl, Nat.le_of_ble_eq_true rfl⟩) rfl Frm.self rfl (Nat.le_of_ble_eq_true rfl) ⟨Nat.le_of_ble_eq_true rfl, Nat.le_of_ble_eq_true rfl⟩ rfl ?_
      refine n_if_ne (t := 186) C dX6_stages_79 (by decide) rfl (fun h79 => ?_) (fun h79 => ?_)
      · have hf := iq h79 hf
        refine n_iinc (v := v2 + (nI 1)) (lv' := [(2, .int (v2 + (nI 1))), (0, .ref aR), (1, .int v1)]) C dX6_stages_186 (j := 2) rfl rfl (by decide) rfl rfl ?_
        refine n_goto (t := 65) C dX6_stages_189 (by decide) ?_
        exact Wn.sub (lv' := [(0, .ref aR), (1, .int v1), (2, .int (v2 + (nI 1)))]) [1, 2, 0] rfl (ih v1 (v2 + (nI 1)) oR hf)
      · have hf := ip h79 hf
        refine n_aload_n C dX6_stages_82 0 rfl rfl ?_
        refine n_iload_n C dX6_stages_83 2 rfl rfl ?_
        refine n_iconst (v := (nI 1)) C dX6_stages_84 (by decide) rfl ?_
        obtain ⟨z85, h85, hf⟩ := bi hf
        refine n_callS (As := [.ref aR, .int v2, .int (nI 1)]) (rest := []) (w2 := [(aR, .inl (cyI, 270, .inl oR))]) C dX6_stages_85 (c6_found l D cyI cyO cyJ aR n oR v2 (nI 1) z85 h85) (va_cwS 3 C.ts gX6_stages_X6_found rfl rfl rfl (by decide +kernel) ⟨Nat.le_of_ble_eq_true rfl, Nat.le_of_ble_eq_true rfl⟩) rfl Frm.self rfl (Nat.le_of_ble_eq_true rfl) ⟨Nat.le_of_ble_eq_true rfl, Nat.le_of_ble_eq_true rfl⟩ rfl ?_
        refine n_istore_n (lv' := [(3, .int z85), (0, .ref aR), (1, .int v1), (2, .int v2)]) C dX6_stages_88 (by decide) rfl rfl ?_
        refine n_iload_n C dX6_stages_89 0 rfl rfl ?_
        refine n_iconst (v := (-1 : Int32)) C dX6_stages_90 (by decide) rfl ?_
        refine n_icmp_ne (t := 98) C dX6_stages_91 (by decide) rfl (fun h91 => ?_) (fun h91 => ?_)
        · have hf := iq h91 hf
          refine n_aload_n C dX6_stages_98 1 rfl rfl ?_
          refine n_iload_n C dX6_stages_99 3 rfl rfl ?_
          refine n_iconst (v := (nI 0)) C dX6_stages_100 (by decide) rfl ?_
          obtain ⟨z101, h101, hf⟩ := bi hf
          refine n_callS (As := [.ref aR, .int v2, .int (nI 0)]) (rest := []) (w2 := [(aR, .inl (cyI, 270, .inl oR))]) C dX6_stages_101 (c6_found l D cyI cyO cyJ aR n oR v2 (nI 0) z101 h101) (va_cwS 3 C.ts gX6_stages_X6_found rfl rfl rfl (by decide +kernel) ⟨Nat.le_of_ble_eq_true rfl, Nat.le_of_ble_eq_true rfl⟩) rfl Frm.self rfl (Nat.le_of_ble_eq_true rfl) ⟨Nat.le_of_ble_eq_true rfl, Nat.le_of_ble_eq_true rfl⟩ rfl ?_
          exact Wn.sub (lv' := [(0, .ref aR), (1, .int v1), (2, .int v2), (3, .int z85)]) [1, 2, 3, 0] rfl (t6_stages_b104 C n ih v1 v2 z85 z101 oR hf)
        · have hf := ip h91 hf
          refine n_iconst (v := (-1 : Int32)) C dX6_stages_94 (by decide) rfl ?_
          refine n_goto (t := 104) C dX6_stages_95 (by decide) ?_
          exact Wn.sub (lv' := [(0, .ref aR), (1, .int v1), (2, .int v2), (3, .int z85)]) [1, 2, 3, 0] rfl (t6_stages_b104 C n ih v1 v2 z85 (-1 : Int32) oR hf)
set_option maxHeartbeats 4000000 in
set_option maxRecDepth 100000 in
theorem t6_stages_b61 {l : Launch} {p : Program} {e : Env} {s : State} {m : MethodId} {args : Array Value} {below : List Frame} {meth : Method} {c : Code} {D : va_G} {A : Nat → Prop} {cyI cyO cyJ : ClassId} {aR : Nat} (C : Cx p s m args meth c D (tyG cyI cyO cyJ) A RX6 cX6_stages 5 (some .int) wsX6_stages) {z : Int32 × (Nat → Int32)} (n : Nat) (oR : Nat → Int32) (hf : f6_stages_b61 n oR = some z) : Wn p l e rm6_stages s m args below meth c D A 5 0 0 (MQ below (Qr D (tyG cyI cyO cyJ) ([(aR, .inl (cyI, 270, .inl z.2))]) A (some (.int z.1))) args s 0 0 A) ([(aR, .inl (cyI, 270, .inl oR))]) 61 [(0, .ref aR)] [] := by
  unfold f6_stages_b61 at hf
  refine n_iconst (v := (nI 0)) C dX6_stages_61 (by decide) rfl ?_
  refine n_istore_n (lv' := [(1, .int (nI 0)), (0, .ref aR)]) C dX6_stages_62 (by decide) rfl rfl ?_
  refine n_iconst (v := (nI 0)) C dX6_stages_63 (by decide) rfl ?_
  refine n_istore_n (lv' := [(2, .int (nI 0)), (1, .int (nI 0)), (0, .ref aR)]) C dX6_stages_64 (by decide) rfl rfl ?_
  exact Wn.sub (lv' := [(0, .ref aR), (1, .int (nI 0)), (2, .int (nI 0))]) [2, 1, 0] rfl (t6_stages_b65 C n n (nI 0) (nI 0) oR hf)
set_option maxHeartbeats 4000000 in
set_option maxRecDepth 100000 in
theorem t6_stages_b2 {l : Launch} {p : Program} {e : Env} {s : State} {m : MethodId} {args : Array Value} {below : List Frame} {meth : Method} {c : Code} {D : va_G} {A : Nat → Prop} {cyI cyO cyJ : ClassId} {aR : Nat} (C : Cx p s m args meth c D (tyG cyI cyO cyJ) A RX6 cX6_stages 5 (some .int) wsX6_stages) {z : Int32 × (Nat → Int32)} (n : Nat) {k61 : (Nat → Int32) → Option (Int32 × (Nat → Int32))} (hk61 : ∀ (oR : Nat → Int32), k61 oR = some z → Wn p l e rm6_stages s m args below meth c D A 5 0 0 (MQ below (Qr D (tyG cyI cyO cyJ) ([(aR, .inl (cyI, 270, .inl z.2))]) A (some (.int z.1))) args s 0 0 A) ([(aR, .inl (cyI, 270, .inl oR))]) 61 [(0, .ref aR)] []) : ∀ (k : Nat) (v1 : Int32) (oR : Nat → Int32), f6_stages_b2 n k61 k v1 oR = some z → Wn p l e rm6_stages s m args below meth c D A 5 0 0 (MQ below (Qr D (tyG cyI cyO cyJ) ([(aR, .inl (cyI, 270, .inl z.2))]) A (some (.int z.1))) args s 0 0 A) ([(aR, .inl (cyI, 270, .inl oR))]) 2 [(0, .ref aR), (1, .int v1)] [] := by
  intro k
  induction k with
  | zero => intro  v1 oR hf; cases hf
  | succ k ih =>
    intro  v1 oR hf
    unfold f6_stages_b2 at hf
    refine n_iload_n C dX6_stages_2 1 rfl rfl ?_
    refine n_aload_n C dX6_stages_3 0 rfl rfl ?_
    refine n_iconst (v := (nI 5)) C dX6_stages_4 (by decide) rfl ?_
    obtain ⟨x5, h5, hf⟩ := bi hf
    obtain ⟨h5, e5⟩ := ald_some h5
    refine n_iald C dX6_stages_5 0 0 rfl rfl h5 rfl ?_
    rw [← e5]
    refine n_icmp_ge (t := 61) C dX6_stages_6 (by decide) rfl (fun h6 => ?_) (fun h6 => ?_)
    · have hf := ip h6 hf
      exact Wn.sub (lv' := [(0, .ref aR)]) [0] rfl (hk61 oR hf)
    · have hf := iq h6 hf
      refine n_aload_n C dX6_stages_9 0 rfl rfl ?_
      refine n_iload_n C dX6_stages_10 1 rfl rfl ?_
      refine n_bipush (v := (nI 6)) C dX6_stages_11 (by decide) rfl ?_
      obtain ⟨z13, h13, hf⟩ := bi hf
      refine n_callS (As := [.ref aR, .int v1, .int (nI 6)]) (rest := []) (w2 := [(aR, .inl (cyI, 270, .inl oR))]) C dX6_stages_13 (c6_of l D cyI cyO cyJ aR n oR v1 (nI 6) z13 h13) (va_cwS 3 C.ts gX6_stages_X6_of rfl rfl rfl (by decide +kernel) ⟨Nat.le_of_ble_eq_true rfl, Nat.le_of_ble_eq_true rfl⟩) rfl Frm.self rfl (Nat.le_of_ble_eq_true rfl) ⟨Nat.le_of_ble_eq_true rfl, Nat.le_of_ble_eq_true rfl⟩ rfl ?_
      refine n_if_ne (t := 55) C dX6_stages_16 (by decide) rfl (fun h16 => ?_) (fun h16 => ?_)
      · have hf := iq h16 hf
        refine n_iinc (v := v1 + (nI 1)) (lv' := [(1, .int (v1 + (nI 1))), (0, .ref aR)]) C dX6_stages_55 (j := 1) rfl rfl (by decide) rfl rfl ?_
        refine n_goto (t := 2) C dX6_stages_58 (by decide) ?_
        exact Wn.sub (lv' := [(0, .ref aR), (1, .int (v1 + (nI 1)))]) [1, 0] rfl (ih (v1 + (nI 1)) oR hf)
      · have hf := ip h16 hf
        refine n_aload_n C dX6_stages_19 0 rfl rfl ?_
        refine n_bipush (v := (nI 18)) C dX6_stages_20 (by decide) rfl ?_
        refine n_bipush (v := (nI 9)) C dX6_stages_22 (by decide) rfl ?_
        refine n_iload_n C dX6_stages_24 1 rfl rfl ?_
        refine n_imul C dX6_stages_25 rfl ?_
        refine n_iadd C dX6_stages_26 rfl ?_
        refine n_iconst (v := (nI 3)) C dX6_stages_27 (by decide) rfl ?_
        refine n_iadd C dX6_stages_28 rfl ?_
        refine n_iconst (v := (-1 : Int32)) C dX6_stages_29 (by decide) rfl ?_
        obtain ⟨oR_30, h30, hf⟩ := bi hf
        obtain ⟨h30, e30⟩ := ast_some h30
        refine n_iast (w2 := [(aR, .inl (cyI, 270, .inl oR_30))]) C dX6_stages_30 0 0 rfl rfl h30 (by subst e30; rfl) rfl ?_
        refine n_aload_n C dX6_stages_31 0 rfl rfl ?_
        refine n_bipush (v := (nI 18)) C dX6_stages_32 (by decide) rfl ?_
        refine n_bipush (v := (nI 9)) C dX6_stages_34 (by decide) rfl ?_
        refine n_iload_n C dX6_stages_36 1 rfl rfl ?_
        refine n_imul C dX6_stages_37 rfl ?_
        refine n_iadd C dX6_stages_38 rfl ?_
        refine n_iconst (v := (nI 4)) C dX6_stages_39 (by decide) rfl ?_
        refine n_iadd C dX6_stages_40 rfl ?_
        refine n_iconst (v := (-1 : Int32)) C dX6_stages_41 (by decide) rfl ?_
        obtain ⟨oR_42, h42, hf⟩ := bi hf
        obtain ⟨h42, e42⟩ := ast_some h42
        refine n_iast (w2 := [(aR, .inl (cyI, 270, .inl oR_42))]) C dX6_stages_42 0 0 rfl rfl h42 (by subst e42; rfl) rfl ?_
        refine n_aload_n C dX6_stages_43 0 rfl rfl ?_
        refine n_bipush (v := (nI 18)) C dX6_stages_44 (by decide) rfl ?_
        refine n_bipush (v := (nI 9)) C dX6_stages_46 (by decide) rfl ?_
        refine n_iload_n C dX6_stages_48 1 rfl rfl ?_
        refine n_imul C dX6_stages_49 rfl ?_
        refine n_iadd C dX6_stages_50 rfl ?_
        refine n_iconst (v := (nI 5)) C dX6_stages_51 (by decide) rfl ?_
        refine n_iadd C dX6_stages_52 rfl ?_
        refine n_iconst (v := (nI 0)) C dX6_stages_53 (by decide) rfl ?_
        obtain ⟨oR_54, h54, hf⟩ := bi hf
        obtain ⟨h54, e54⟩ := ast_some h54
        refine n_iast (w2 := [(aR, .inl (cyI, 270, .inl oR_54))]) C dX6_stages_54 0 0 rfl rfl h54 (by subst e54; rfl) rfl ?_
        refine n_iinc (v := v1 + (nI 1)) (lv' := [(1, .int (v1 + (nI 1))), (0, .ref aR)]) C dX6_stages_55 (j := 1) rfl rfl (by decide) rfl rfl ?_
        refine n_goto (t := 2) C dX6_stages_58 (by decide) ?_
        exact Wn.sub (lv' := [(0, .ref aR), (1, .int (v1 + (nI 1)))]) [1, 0] rfl (ih (v1 + (nI 1)) oR_54 hf)
set_option maxHeartbeats 4000000 in
set_option maxRecDepth 100000 in
theorem c6_stages (l : Launch) (D : va_G) (cyI cyO cyJ : ClassId) (aR : Nat) (n : Nat) (oR : Nat → Int32) (z : Int32 × (Nat → Int32)) (hf : f6_stages n oR = some z) : Ct l D (tyG cyI cyO cyJ) yX6_stages wsX6_stages rm6_stages 0 0 [.ref aR] ([(aR, .inl (cyI, 270, .inl oR))]) ([(aR, .inl (cyI, 270, .inl z.2))]) (some (.int z.1)) := by
  refine Ct.of (cc := cX6_stages) (nL := 5) (ret := (some .int)) (lv := [(0, .ref aR)]) (by decide +kernel) rfl rfl (Nat.le_of_ble_eq_true rfl) ?_
  intro p e s m args below meth c A C
  have C : Cx p s m args meth c D (tyG cyI cyO cyJ) A RX6 cX6_stages 5 (some .int) wsX6_stages := C
  unfold f6_stages at hf
  refine n_iconst (v := (nI 0)) C dX6_stages_0 (by decide) rfl ?_
  refine n_istore_n (lv' := [(1, .int (nI 0)), (0, .ref aR)]) C dX6_stages_1 (by decide) rfl rfl ?_
  exact Wn.sub (lv' := [(0, .ref aR), (1, .int (nI 0))]) [1, 0] rfl (t6_stages_b2 C n (fun oR hf => Wn.sub (lv' := [(0, .ref aR)]) [0] rfl (t6_stages_b61 C n oR hf)) n (nI 0) oR hf)
-- X6 changes 
theorem iw6_changes_X6 : ∀ w ∈ u_ws RX6 TX6 12, w ∈ wsX6_changes := by decide +kernel
abbrev rm6_changes : Room := { frames := 0, cells := 0, slots := 0, locals := 0 }
def f6_changes (n : Nat) (oM : OB) (x1 : Int32) (x2 : Int32) : Option (Int32 × (OB)) :=
  (ald 270 (oM.2 0) x1).bind fun x5 => (oast oM 0 270 x1 x2).bind fun oM_13 => some (x5, oM_13)
set_option maxHeartbeats 4000000 in
set_option maxRecDepth 100000 in
theorem c6_changes (l : Launch) (D : va_G) (cyI cyO cyJ : ClassId) (aM : Nat → Nat) (n : Nat) (oM : OB) (x1 : Int32) (x2 : Int32) (z : Int32 × (OB)) (hf : f6_changes n oM x1 x2 = some z) : Ct l D (tyG cyI cyO cyJ) yX6_changes wsX6_changes rm6_changes 0 0 [.ref (aM 0), .int x1, .int x2] (bX6 cyI aM oM) (bX6 cyI aM z.2) (some (.int z.1)) := by
  refine Ct.of (cc := cX6_changes) (nL := 4) (ret := (some .int)) (lv := [(0, .ref (aM 0)), (1, .int x1), (2, .int x2)]) (by decide +kernel) rfl rfl (Nat.le_of_ble_eq_true rfl) ?_
  intro p e s m args below meth c A C
  have C : Cx p s m args meth c D (tyG cyI cyO cyJ) A RX6 cX6_changes 4 (some .int) wsX6_changes := C
  unfold f6_changes at hf
  refine n_aload_n C dX6_changes_0 0 rfl rfl ?_
  refine n_get (N := 12) C dX6_changes_1 iw6_changes_X6 0 rfl rfl 0 (by decide) (List.mem_of_getElem? (i := 1) rfl) rfl rfl rfl ?_
  refine n_iload_n C dX6_changes_4 1 rfl rfl ?_
  obtain ⟨x5, h5, hf⟩ := bi hf
  obtain ⟨h5, e5⟩ := ald_some h5
  refine n_iald C dX6_changes_5 1 0 rfl rfl h5 rfl ?_
  rw [← e5]
  refine n_istore_n (lv' := [(3, .int x5), (0, .ref (aM 0)), (1, .int x1), (2, .int x2)]) C dX6_changes_6 (by decide) rfl rfl ?_
  refine n_aload_n C dX6_changes_7 1 rfl rfl ?_
  refine n_get (N := 12) C dX6_changes_8 iw6_changes_X6 0 rfl rfl 0 (by decide) (List.mem_of_getElem? (i := 1) rfl) rfl rfl rfl ?_
  refine n_iload_n C dX6_changes_11 2 rfl rfl ?_
  refine n_iload_n C dX6_changes_12 3 rfl rfl ?_
  obtain ⟨oM_13, h13, hf⟩ := bi hf
  obtain ⟨h13, e13⟩ := oast_some h13
  refine n_iast (w2 := bX6 cyI aM oM_13) C dX6_changes_13 1 0 rfl rfl h13 (by subst e13; rfl) rfl ?_
  refine n_iload_n C dX6_changes_14 0 rfl rfl ?_
  obtain rfl := Option.some.inj hf
  exact n_iret C dX6_changes_15
-- X6 masks 
theorem iw6_masks_X6 : ∀ w ∈ u_ws RX6 TX6 12, w ∈ wsX6_masks := by decide +kernel
abbrev rm6_masks : Room := { frames := 2, cells := 0, slots := 0, locals := 45 }
def f6_masks (n : Nat) (oM : OB) (x1 : Int32) (x2 : Int32) (x3 : Int32) : Option (Int32 × (OB)) :=
  (some (gsi oM 6 (nI 0))).bind fun oM_2 => (f6_in n x2 (nI 0) (nI 5)).bind fun z8 => (if z8 = (0 : Int32) then (f6_fails n oM_2 (nI 1)).bind fun z16 => some (z16.1, z16.2) else (f6_in n x3 (nI 0) (nI 127)).bind fun z24 => (if z24 = (0 : Int32) then (f6_fails n oM_2 (nI 2)).bind fun z32 => some (z32.1, z32.2) else (f6_saves n oM_2).bind fun z37 => (f6_changes n z37 (x1 + x2) x3).bind fun z45 => some (z45.1, z45.2)))
set_option maxHeartbeats 4000000 in
set_option maxRecDepth 100000 in
theorem c6_masks (l : Launch) (D : va_G) (cyI cyO cyJ : ClassId) (aM : Nat → Nat) (n : Nat) (oM : OB) (x1 : Int32) (x2 : Int32) (x3 : Int32) (z : Int32 × (OB)) (hf : f6_masks n oM x1 x2 x3 = some z) : Ct l D (tyG cyI cyO cyJ) yX6_masks wsX6_masks rm6_masks 0 0 [.ref (aM 0), .int x1, .int x2, .int x3] (bX6 cyI aM oM) (bX6 cyI aM z.2) (some (.int z.1)) := by
  refine Ct.of (cc := cX6_masks) (nL := 4) (ret := (some .int)) (lv := [(0, .ref (aM 0)), (1, .int x1), (2, .int x2), (3, .int x3)]) (by decide +kernel) rfl rfl (Nat.le_of_ble_eq_true rfl) ?_
  intro p e s m args below meth c A C
  have C : Cx p s m args meth c D (tyG cyI cyO cyJ) A RX6 cX6_masks 4 (some .int) wsX6_masks := C
  unfold f6_masks at hf
  refine n_aload_n C dX6_masks_0 0 rfl rfl ?_
  refine n_iconst (v := (nI 0)) C dX6_masks_1 (by decide) rfl ?_
  obtain ⟨oM_2, e2, hf⟩ := bi hf
  replace e2 := Option.some.inj e2
  refine n_put (w2 := bX6 cyI aM oM_2) (N := 12) (ty := .int) C dX6_masks_2 iw6_masks_X6 tyX6_ok nmX6 0 rfl rfl 6 (by decide) (List.mem_of_getElem? (i := 1) rfl) rfl rfl (by decide +kernel) rfl rfl (Nat.le_of_ble_eq_true rfl) (by subst e2; rfl) rfl ?_
  refine n_iload_n C dX6_masks_5 2 rfl rfl ?_
  refine n_iconst (v := (nI 0)) C dX6_masks_6 (by decide) rfl ?_
  refine n_iconst (v := (nI 5)) C dX6_masks_7 (by decide) rfl ?_
  obtain ⟨z8, h8, hf⟩ := bi hf
  refine n_callS (As := [.int x2, .int (nI 0), .int (nI 5)]) (rest := []) (w2 := bX6 cyI aM oM_2) C dX6_masks_8 (c6_in l D cyI cyO cyJ  n x2 (nI 0) (nI 5) z8 h8) (va_cwS 3 C.ts gX6_masks_X6_in rfl rfl rfl (by decide +kernel) ⟨Nat.le_of_ble_eq_true rfl, Nat.le_of_ble_eq_true rfl⟩) rfl Frm.none rfl (Nat.le_of_ble_eq_true rfl) ⟨Nat.le_of_ble_eq_true rfl, Nat.le_of_ble_eq_true rfl⟩ rfl ?_
  refine n_if_ne (t := 20) C dX6_masks_11 (by decide) rfl (fun h11 => ?_) (fun h11 => ?_)
  · have hf := iq h11 hf
    refine n_iload_n C dX6_masks_20 3 rfl rfl ?_
    refine n_iconst (v := (nI 0)) C dX6_masks_21 (by decide) rfl ?_
    refine n_bipush (v := (nI 127)) C dX6_masks_22 (by decide) rfl ?_
    obtain ⟨z24, h24, hf⟩ := bi hf
    refine n_callS (As := [.int x3, .int (nI 0), .int (nI 127)]) (rest := []) (w2 := bX6 cyI aM oM_2) C dX6_masks_24 (c6_in l D cyI cyO cyJ  n x3 (nI 0) (nI 127) z24 h24) (va_cwS 3 C.ts gX6_masks_X6_in rfl rfl rfl (by decide +kernel) ⟨Nat.le_of_ble_eq_true rfl, Nat.le_of_ble_eq_true rfl⟩) rfl Frm.none rfl (Nat.le_of_ble_eq_true rfl) ⟨Nat.le_of_ble_eq_true rfl, Nat.le_of_ble_eq_true rfl⟩ rfl ?_
    refine n_if_ne (t := 36) C dX6_masks_27 (by decide) rfl (fun h27 => ?_) (fun h27 => ?_)
    · have hf := iq h27 hf
      refine n_aload_n C dX6_masks_36 0 rfl rfl ?_
      obtain ⟨z37, h37, hf⟩ := bi hf
      refine n_callV (As := []) (rest := []) (w2 := bX6 cyI aM z37) C dX6_masks_37 (c6_saves l D cyI cyO cyJ aM n oM_2 z37 h37) (cwV 0 C.ts gX6_masks_X6_saves rfl rfl rfl (by decide +kernel) ⟨Nat.le_of_ble_eq_true rfl, Nat.le_of_ble_eq_true rfl⟩) rfl (q0 := 0) (ci := 6) rfl rfl Frm.self rfl (Nat.le_of_ble_eq_true rfl) ⟨Nat.le_of_ble_eq_true rfl, Nat.le_of_ble_eq_true rfl⟩ rfl ?_
      refine n_aload_n C dX6_masks_40 0 rfl rfl ?_
      refine n_iload_n C dX6_masks_41 1 rfl rfl ?_
      refine n_iload_n C dX6_masks_42 2 rfl rfl ?_
      refine n_iadd C dX6_masks_43 rfl ?_
      refine n_iload_n C dX6_masks_44 3 rfl rfl ?_
      obtain ⟨z45, h45, hf⟩ := bi hf
      refine n_callV (As := [.int (x1 + x2), .int x3]) (rest := []) (w2 := bX6 cyI aM z45.2) C dX6_masks_45 (c6_changes l D cyI cyO cyJ aM n z37 (x1 + x2) x3 z45 h45) (cwV 2 C.ts gX6_masks_X6_changes rfl rfl rfl (by decide +kernel) ⟨Nat.le_of_ble_eq_true rfl, Nat.le_of_ble_eq_true rfl⟩) rfl (q0 := 0) (ci := 6) rfl rfl Frm.self rfl (Nat.le_of_ble_eq_true rfl) ⟨Nat.le_of_ble_eq_true rfl, Nat.le_of_ble_eq_true rfl⟩ rfl ?_
      obtain rfl := Option.some.inj hf
      exact n_iret C dX6_masks_48
    · have hf := ip h27 hf
      refine n_aload_n C dX6_masks_30 0 rfl rfl ?_
      refine n_iconst (v := (nI 2)) C dX6_masks_31 (by decide) rfl ?_
      obtain ⟨z32, h32, hf⟩ := bi hf
      refine n_callV (As := [.int (nI 2)]) (rest := []) (w2 := bX6 cyI aM z32.2) C dX6_masks_32 (c6_fails l D cyI cyO cyJ aM n oM_2 (nI 2) z32 h32) (cwV 1 C.ts gX6_masks_X6_fails rfl rfl rfl (by decide +kernel) ⟨Nat.le_of_ble_eq_true rfl, Nat.le_of_ble_eq_true rfl⟩) rfl (q0 := 0) (ci := 6) rfl rfl Frm.self rfl (Nat.le_of_ble_eq_true rfl) ⟨Nat.le_of_ble_eq_true rfl, Nat.le_of_ble_eq_true rfl⟩ rfl ?_
      obtain rfl := Option.some.inj hf
      exact n_iret C dX6_masks_35
  · have hf := ip h11 hf
    refine n_aload_n C dX6_masks_14 0 rfl rfl ?_
    refine n_iconst (v := (nI 1)) C dX6_masks_15 (by decide) rfl ?_
    obtain ⟨z16, h16, hf⟩ := bi hf
    refine n_callV (As := [.int (nI 1)]) (rest := []) (w2 := bX6 cyI aM z16.2) C dX6_masks_16 (c6_fails l D cyI cyO cyJ aM n oM_2 (nI 1) z16 h16) (cwV 1 C.ts gX6_masks_X6_fails rfl rfl rfl (by decide +kernel) ⟨Nat.le_of_ble_eq_true rfl, Nat.le_of_ble_eq_true rfl⟩) rfl (q0 := 0) (ci := 6) rfl rfl Frm.self rfl (Nat.le_of_ble_eq_true rfl) ⟨Nat.le_of_ble_eq_true rfl, Nat.le_of_ble_eq_true rfl⟩ rfl ?_
    obtain rfl := Option.some.inj hf
    exact n_iret C dX6_masks_19
-- X6 close 
abbrev rm6_close : Room := { frames := 3, cells := 0, slots := 0, locals := 68 }
def f6_close (n : Nat) (oM : OB) (x1 : Int32) (x2 : Int32) : Option (Int32 × (OB)) :=
  (f6_masks n oM (nI 6) x1 x2).bind fun z5 => some (z5.1, z5.2)
set_option maxHeartbeats 4000000 in
set_option maxRecDepth 100000 in
theorem c6_close (l : Launch) (D : va_G) (cyI cyO cyJ : ClassId) (aM : Nat → Nat) (n : Nat) (oM : OB) (x1 : Int32) (x2 : Int32) (z : Int32 × (OB)) (hf : f6_close n oM x1 x2 = some z) : Ct l D (tyG cyI cyO cyJ) yX6_close wsX6_close rm6_close 0 0 [.ref (aM 0), .int x1, .int x2] (bX6 cyI aM oM) (bX6 cyI aM z.2) (some (.int z.1)) := by
  refine Ct.of (cc := cX6_close) (nL := 3) (ret := (some .int)) (lv := [(0, .ref (aM 0)), (1, .int x1), (2, .int x2)]) (by decide +kernel) rfl rfl (Nat.le_of_ble_eq_true rfl) ?_
  intro p e s m args below meth c A C
  have C : Cx p s m args meth c D (tyG cyI cyO cyJ) A RX6 cX6_close 3 (some .int) wsX6_close := C
  unfold f6_close at hf
  refine n_aload_n C dX6_close_0 0 rfl rfl ?_
  refine n_bipush (v := (nI 6)) C dX6_close_1 (by decide) rfl ?_
  refine n_iload_n C dX6_close_3 1 rfl rfl ?_
  refine n_iload_n C dX6_close_4 2 rfl rfl ?_
  obtain ⟨z5, h5, hf⟩ := bi hf
  refine n_callV (As := [.int (nI 6), .int x1, .int x2]) (rest := []) (w2 := bX6 cyI aM z5.2) C dX6_close_5 (c6_masks l D cyI cyO cyJ aM n oM (nI 6) x1 x2 z5 h5) (cwV 3 C.ts gX6_close_X6_masks rfl rfl rfl (by decide +kernel) ⟨Nat.le_of_ble_eq_true rfl, Nat.le_of_ble_eq_true rfl⟩) rfl (q0 := 0) (ci := 6) rfl rfl Frm.self rfl (Nat.le_of_ble_eq_true rfl) ⟨Nat.le_of_ble_eq_true rfl, Nat.le_of_ble_eq_true rfl⟩ rfl ?_
  obtain rfl := Option.some.inj hf
  exact n_iret C dX6_close_8
-- X6 away 
abbrev rm6_away : Room := { frames := 3, cells := 0, slots := 0, locals := 68 }
def f6_away (n : Nat) (oM : OB) (x1 : Int32) (x2 : Int32) : Option (Int32 × (OB)) :=
  (f6_masks n oM (nI 12) x1 x2).bind fun z5 => some (z5.1, z5.2)
set_option maxHeartbeats 4000000 in
set_option maxRecDepth 100000 in
theorem c6_away (l : Launch) (D : va_G) (cyI cyO cyJ : ClassId) (aM : Nat → Nat) (n : Nat) (oM : OB) (x1 : Int32) (x2 : Int32) (z : Int32 × (OB)) (hf : f6_away n oM x1 x2 = some z) : Ct l D (tyG cyI cyO cyJ) yX6_away wsX6_away rm6_away 0 0 [.ref (aM 0), .int x1, .int x2] (bX6 cyI aM oM) (bX6 cyI aM z.2) (some (.int z.1)) := by
  refine Ct.of (cc := cX6_away) (nL := 3) (ret := (some .int)) (lv := [(0, .ref (aM 0)), (1, .int x1), (2, .int x2)]) (by decide +kernel) rfl rfl (Nat.le_of_ble_eq_true rfl) ?_
  intro p e s m args below meth c A C
  have C : Cx p s m args meth c D (tyG cyI cyO cyJ) A RX6 cX6_away 3 (some .int) wsX6_away := C
  unfold f6_away at hf
  refine n_aload_n C dX6_away_0 0 rfl rfl ?_
  refine n_bipush (v := (nI 12)) C dX6_away_1 (by decide) rfl ?_
  refine n_iload_n C dX6_away_3 1 rfl rfl ?_
  refine n_iload_n C dX6_away_4 2 rfl rfl ?_
  obtain ⟨z5, h5, hf⟩ := bi hf
  refine n_callV (As := [.int (nI 12), .int x1, .int x2]) (rest := []) (w2 := bX6 cyI aM z5.2) C dX6_away_5 (c6_masks l D cyI cyO cyJ aM n oM (nI 12) x1 x2 z5 h5) (cwV 3 C.ts gX6_away_X6_masks rfl rfl rfl (by decide +kernel) ⟨Nat.le_of_ble_eq_true rfl, Nat.le_of_ble_eq_true rfl⟩) rfl (q0 := 0) (ci := 6) rfl rfl Frm.self rfl (Nat.le_of_ble_eq_true rfl) ⟨Nat.le_of_ble_eq_true rfl, Nat.le_of_ble_eq_true rfl⟩ rfl ?_
  obtain rfl := Option.some.inj hf
  exact n_iret C dX6_away_8
-- X6 stage 
theorem iw6_stage_X6 : ∀ w ∈ u_ws RX6 TX6 12, w ∈ wsX6_stage := by decide +kernel
abbrev rm6_stage : Room := { frames := 5, cells := 0, slots := 0, locals := 121 }
def f6_stage (n : Nat) (oM : OB) : Option (Int32 × (OB)) :=
  (some (gsi oM 6 (nI 0))).bind fun oM_2 => (f6_saves n oM_2).bind fun z6 => (f6_stages n (z6.2 0)).bind fun z13 => some (z13.1, gsa z6 0 z13.2)
set_option maxHeartbeats 4000000 in
set_option maxRecDepth 100000 in
theorem c6_stage (l : Launch) (D : va_G) (cyI cyO cyJ : ClassId) (aM : Nat → Nat) (n : Nat) (oM : OB) (z : Int32 × (OB)) (hf : f6_stage n oM = some z) : Ct l D (tyG cyI cyO cyJ) yX6_stage wsX6_stage rm6_stage 0 0 [.ref (aM 0)] (bX6 cyI aM oM) (bX6 cyI aM z.2) (some (.int z.1)) := by
  refine Ct.of (cc := cX6_stage) (nL := 1) (ret := (some .int)) (lv := [(0, .ref (aM 0))]) (by decide +kernel) rfl rfl (Nat.le_of_ble_eq_true rfl) ?_
  intro p e s m args below meth c A C
  have C : Cx p s m args meth c D (tyG cyI cyO cyJ) A RX6 cX6_stage 1 (some .int) wsX6_stage := C
  unfold f6_stage at hf
  refine n_aload_n C dX6_stage_0 0 rfl rfl ?_
  refine n_iconst (v := (nI 0)) C dX6_stage_1 (by decide) rfl ?_
  obtain ⟨oM_2, e2, hf⟩ := bi hf
  replace e2 := Option.some.inj e2
  refine n_put (w2 := bX6 cyI aM oM_2) (N := 12) (ty := .int) C dX6_stage_2 iw6_stage_X6 tyX6_ok nmX6 0 rfl rfl 6 (by decide) (List.mem_of_getElem? (i := 1) rfl) rfl rfl (by decide +kernel) rfl rfl (Nat.le_of_ble_eq_true rfl) (by subst e2; rfl) rfl ?_
  refine n_aload_n C dX6_stage_5 0 rfl rfl ?_
  obtain ⟨z6, h6, hf⟩ := bi hf
  refine n_callV (As := []) (rest := []) (w2 := bX6 cyI aM z6) C dX6_stage_6 (c6_saves l D cyI cyO cyJ aM n oM_2 z6 h6) (cwV 0 C.ts gX6_stage_X6_saves rfl rfl rfl (by decide +kernel) ⟨Nat.le_of_ble_eq_true rfl, Nat.le_of_ble_eq_true rfl⟩) rfl (q0 := 0) (ci := 6) rfl rfl Frm.self rfl (Nat.le_of_ble_eq_true rfl) ⟨Nat.le_of_ble_eq_true rfl, Nat.le_of_ble_eq_true rfl⟩ rfl ?_
  refine n_aload_n C dX6_stage_9 0 rfl rfl ?_
  refine n_get (N := 12) C dX6_stage_10 iw6_stage_X6 0 rfl rfl 0 (by decide) (List.mem_of_getElem? (i := 2) rfl) rfl rfl rfl ?_
  obtain ⟨z13, h13, hf⟩ := bi hf
  refine n_callS (As := [.ref (aM 1)]) (rest := []) (w2 := bX6 cyI aM (gsa z6 0 z13.2)) C dX6_stage_13 (c6_stages l D cyI cyO cyJ (aM 1) n (z6.2 0) z13 h13) (va_cwS 1 C.ts gX6_stage_X6_stages rfl rfl rfl (by decide +kernel) ⟨Nat.le_of_ble_eq_true rfl, Nat.le_of_ble_eq_true rfl⟩) rfl (Frm.skipc (Frm.takec Frm.none)) rfl (Nat.le_of_ble_eq_true rfl) ⟨Nat.le_of_ble_eq_true rfl, Nat.le_of_ble_eq_true rfl⟩ rfl ?_
  obtain rfl := Option.some.inj hf
  exact n_iret C dX6_stage_16
-- X6 scoreOf 
abbrev rm6_scoreOf : Room := { frames := 1, cells := 0, slots := 0, locals := 22 }
def f6_scoreOf (n : Nat) (oR : Nat → Int32) (x1 : Int32) (x2 : Int32) : Option (Int32) :=
  (f6_of n oR x1 (nI 6)).bind fun z4 => (if z4 = (nI 1) then (f6_of n oR x1 ((nI 7) + x2)).bind fun z19 => some z19 else (if z4 = ((nI 2) + x2) then some (nI 0) else (ald 270 oR (nI 2)).bind fun x38 => some x38))
set_option maxHeartbeats 4000000 in
set_option maxRecDepth 100000 in
theorem c6_scoreOf (l : Launch) (D : va_G) (cyI cyO cyJ : ClassId) (aR : Nat) (n : Nat) (oR : Nat → Int32) (x1 : Int32) (x2 : Int32) (z : Int32) (hf : f6_scoreOf n oR x1 x2 = some z) : Ct l D (tyG cyI cyO cyJ) yX6_scoreOf wsX6_scoreOf rm6_scoreOf 0 0 [.ref aR, .int x1, .int x2] ([(aR, .inl (cyI, 270, .inl oR))]) ([(aR, .inl (cyI, 270, .inl oR))]) (some (.int z)) := by
  refine Ct.of (cc := cX6_scoreOf) (nL := 4) (ret := (some .int)) (lv := [(0, .ref aR), (1, .int x1), (2, .int x2)]) (by decide +kernel) rfl rfl (Nat.le_of_ble_eq_true rfl) ?_
  intro p e s m args below meth c A C
  have C : Cx p s m args meth c D (tyG cyI cyO cyJ) A RX6 cX6_scoreOf 4 (some .int) wsX6_scoreOf := C
  unfold f6_scoreOf at hf
  refine n_aload_n C dX6_scoreOf_0 0 rfl rfl ?_
  refine n_iload_n C dX6_scoreOf_1 1 rfl rfl ?_
  refine n_bipush (v := (nI 6)) C dX6_scoreOf_2 (by decide) rfl ?_
  obtain ⟨z4, h4, hf⟩ := bi hf
  refine n_callS (As := [.ref aR, .int x1, .int (nI 6)]) (rest := []) (w2 := [(aR, .inl (cyI, 270, .inl oR))]) C dX6_scoreOf_4 (c6_of l D cyI cyO cyJ aR n oR x1 (nI 6) z4 h4) (va_cwS 3 C.ts gX6_scoreOf_X6_of rfl rfl rfl (by decide +kernel) ⟨Nat.le_of_ble_eq_true rfl, Nat.le_of_ble_eq_true rfl⟩) rfl Frm.self rfl (Nat.le_of_ble_eq_true rfl) ⟨Nat.le_of_ble_eq_true rfl, Nat.le_of_ble_eq_true rfl⟩ rfl ?_
  refine n_istore_n (lv' := [(3, .int z4), (0, .ref aR), (1, .int x1), (2, .int x2)]) C dX6_scoreOf_7 (by decide) rfl rfl ?_
  refine n_iload_n C dX6_scoreOf_8 0 rfl rfl ?_
  refine n_iconst (v := (nI 1)) C dX6_scoreOf_9 (by decide) rfl ?_
  refine n_icmp_ne (t := 25) C dX6_scoreOf_10 (by decide) rfl (fun h10 => ?_) (fun h10 => ?_)
  · have hf := iq h10 hf
    refine n_iload_n C dX6_scoreOf_25 0 rfl rfl ?_
    refine n_iconst (v := (nI 2)) C dX6_scoreOf_26 (by decide) rfl ?_
    refine n_iload_n C dX6_scoreOf_27 3 rfl rfl ?_
    refine n_iadd C dX6_scoreOf_28 rfl ?_
    refine n_icmp_ne (t := 36) C dX6_scoreOf_29 (by decide) rfl (fun h29 => ?_) (fun h29 => ?_)
    · have hf := iq h29 hf
      refine n_aload_n C dX6_scoreOf_36 1 rfl rfl ?_
      refine n_iconst (v := (nI 2)) C dX6_scoreOf_37 (by decide) rfl ?_
      obtain ⟨x38, h38, hf⟩ := bi hf
      obtain ⟨h38, e38⟩ := ald_some h38
      refine n_iald C dX6_scoreOf_38 0 0 rfl rfl h38 rfl ?_
      rw [← e38]
      obtain rfl := Option.some.inj hf
      exact n_iret C dX6_scoreOf_39
    · have hf := ip h29 hf
      refine n_iconst (v := (nI 0)) C dX6_scoreOf_32 (by decide) rfl ?_
      refine n_goto (t := 39) C dX6_scoreOf_33 (by decide) ?_
      obtain rfl := Option.some.inj hf
      exact n_iret C dX6_scoreOf_39
  · have hf := ip h10 hf
    refine n_aload_n C dX6_scoreOf_13 1 rfl rfl ?_
    refine n_iload_n C dX6_scoreOf_14 2 rfl rfl ?_
    refine n_bipush (v := (nI 7)) C dX6_scoreOf_15 (by decide) rfl ?_
    refine n_iload_n C dX6_scoreOf_17 3 rfl rfl ?_
    refine n_iadd C dX6_scoreOf_18 rfl ?_
    obtain ⟨z19, h19, hf⟩ := bi hf
    refine n_callS (As := [.ref aR, .int x1, .int ((nI 7) + x2)]) (rest := []) (w2 := [(aR, .inl (cyI, 270, .inl oR))]) C dX6_scoreOf_19 (c6_of l D cyI cyO cyJ aR n oR x1 ((nI 7) + x2) z19 h19) (va_cwS 3 C.ts gX6_scoreOf_X6_of rfl rfl rfl (by decide +kernel) ⟨Nat.le_of_ble_eq_true rfl, Nat.le_of_ble_eq_true rfl⟩) rfl Frm.self rfl (Nat.le_of_ble_eq_true rfl) ⟨Nat.le_of_ble_eq_true rfl, Nat.le_of_ble_eq_true rfl⟩ rfl ?_
    refine n_goto (t := 39) C dX6_scoreOf_22 (by decide) ?_
    obtain rfl := Option.some.inj hf
    exact n_iret C dX6_scoreOf_39
-- X6 sideOf 
abbrev rm6_sideOf : Room := { frames := 1, cells := 0, slots := 0, locals := 22 }
def f6_sideOf (n : Nat) (oR : Nat → Int32) (x1 : Int32) (x2 : Int32) : Option (Int32) :=
  (f6_of n oR x1 (nI 1)).bind fun z3 => (if z3 = x2 then some (nI 0) else (f6_of n oR x1 (nI 2)).bind fun z17 => (if z17 = x2 then some (nI 1) else some (-1 : Int32)))
set_option maxHeartbeats 4000000 in
set_option maxRecDepth 100000 in
theorem c6_sideOf (l : Launch) (D : va_G) (cyI cyO cyJ : ClassId) (aR : Nat) (n : Nat) (oR : Nat → Int32) (x1 : Int32) (x2 : Int32) (z : Int32) (hf : f6_sideOf n oR x1 x2 = some z) : Ct l D (tyG cyI cyO cyJ) yX6_sideOf wsX6_sideOf rm6_sideOf 0 0 [.ref aR, .int x1, .int x2] ([(aR, .inl (cyI, 270, .inl oR))]) ([(aR, .inl (cyI, 270, .inl oR))]) (some (.int z)) := by
  refine Ct.of (cc := cX6_sideOf) (nL := 3) (ret := (some .int)) (lv := [(0, .ref aR), (1, .int x1), (2, .int x2)]) (by decide +kernel) rfl rfl (Nat.le_of_ble_eq_true rfl) ?_
  intro p e s m args below meth c A C
  have C : Cx p s m args meth c D (tyG cyI cyO cyJ) A RX6 cX6_sideOf 3 (some .int) wsX6_sideOf := C
  unfold f6_sideOf at hf
  refine n_aload_n C dX6_sideOf_0 0 rfl rfl ?_
  refine n_iload_n C dX6_sideOf_1 1 rfl rfl ?_
  refine n_iconst (v := (nI 1)) C dX6_sideOf_2 (by decide) rfl ?_
  obtain ⟨z3, h3, hf⟩ := bi hf
  refine n_callS (As := [.ref aR, .int x1, .int (nI 1)]) (rest := []) (w2 := [(aR, .inl (cyI, 270, .inl oR))]) C dX6_sideOf_3 (c6_of l D cyI cyO cyJ aR n oR x1 (nI 1) z3 h3) (va_cwS 3 C.ts gX6_sideOf_X6_of rfl rfl rfl (by decide +kernel) ⟨Nat.le_of_ble_eq_true rfl, Nat.le_of_ble_eq_true rfl⟩) rfl Frm.self rfl (Nat.le_of_ble_eq_true rfl) ⟨Nat.le_of_ble_eq_true rfl, Nat.le_of_ble_eq_true rfl⟩ rfl ?_
  refine n_iload_n C dX6_sideOf_6 2 rfl rfl ?_
  refine n_icmp_ne (t := 14) C dX6_sideOf_7 (by decide) rfl (fun h7 => ?_) (fun h7 => ?_)
  · have hf := iq h7 hf
    refine n_aload_n C dX6_sideOf_14 0 rfl rfl ?_
    refine n_iload_n C dX6_sideOf_15 1 rfl rfl ?_
    refine n_iconst (v := (nI 2)) C dX6_sideOf_16 (by decide) rfl ?_
    obtain ⟨z17, h17, hf⟩ := bi hf
    refine n_callS (As := [.ref aR, .int x1, .int (nI 2)]) (rest := []) (w2 := [(aR, .inl (cyI, 270, .inl oR))]) C dX6_sideOf_17 (c6_of l D cyI cyO cyJ aR n oR x1 (nI 2) z17 h17) (va_cwS 3 C.ts gX6_sideOf_X6_of rfl rfl rfl (by decide +kernel) ⟨Nat.le_of_ble_eq_true rfl, Nat.le_of_ble_eq_true rfl⟩) rfl Frm.self rfl (Nat.le_of_ble_eq_true rfl) ⟨Nat.le_of_ble_eq_true rfl, Nat.le_of_ble_eq_true rfl⟩ rfl ?_
    refine n_iload_n C dX6_sideOf_20 2 rfl rfl ?_
    refine n_icmp_ne (t := 28) C dX6_sideOf_21 (by decide) rfl (fun h21 => ?_) (fun h21 => ?_)
    · have hf := iq h21 hf
      refine n_iconst (v := (-1 : Int32)) C dX6_sideOf_28 (by decide) rfl ?_
      obtain rfl := Option.some.inj hf
      exact n_iret C dX6_sideOf_29
    · have hf := ip h21 hf
      refine n_iconst (v := (nI 1)) C dX6_sideOf_24 (by decide) rfl ?_
      refine n_goto (t := 29) C dX6_sideOf_25 (by decide) ?_
      obtain rfl := Option.some.inj hf
      exact n_iret C dX6_sideOf_29
  · have hf := ip h7 hf
    refine n_iconst (v := (nI 0)) C dX6_sideOf_10 (by decide) rfl ?_
    refine n_goto (t := 29) C dX6_sideOf_11 (by decide) ?_
    obtain rfl := Option.some.inj hf
    exact n_iret C dX6_sideOf_29
-- X6 sums 
abbrev rm6_sums : Room := { frames := 2, cells := 0, slots := 0, locals := 45 }
def f6_sums_b138 (n : Nat) (oR : Nat → Int32) (x1 : Int32) (x2 : Int32) (k5 : Int32 → Int32 → Option (Int32)) (v4 : Int32) (v5 : Int32) (v6 : Int32) (s0 : Int32) : Option (Int32) :=
  (if x2 = (nI 6) then (if v6 = ((nI 2) + v5) then k5 (s0 + (nI 1)) (v4 + (nI 1)) else k5 (s0 + (nI 0)) (v4 + (nI 1))) else k5 (s0 + (nI 0)) (v4 + (nI 1)))
def f6_sums_b126 (n : Nat) (oR : Nat → Int32) (x1 : Int32) (x2 : Int32) (k5 : Int32 → Int32 → Option (Int32)) (v4 : Int32) (v5 : Int32) (v6 : Int32) (v7 : Int32) (v8 : Int32) (s0 : Int32) : Option (Int32) :=
  (if x2 = (nI 3) then (if v7 = v8 then k5 (s0 + (nI 1)) (v4 + (nI 1)) else f6_sums_b138 n oR x1 x2 k5 v4 v5 v6 s0) else f6_sums_b138 n oR x1 x2 k5 v4 v5 v6 s0)
def f6_sums_b60 (n : Nat) (oR : Nat → Int32) (x1 : Int32) (x2 : Int32) (k5 : Int32 → Int32 → Option (Int32)) (v3 : Int32) (v4 : Int32) (v5 : Int32) (v6 : Int32) : Option (Int32) :=
  (if v5 = (-1 : Int32) then k5 v3 (v4 + (nI 1)) else (f6_scoreOf n oR v4 v5).bind fun z71 => (f6_scoreOf n oR v4 ((nI 1) - v5)).bind fun z83 => (if x2 = (nI 4) then k5 (v3 + z71) (v4 + (nI 1)) else (if x2 = (nI 5) then k5 (v3 + z83) (v4 + (nI 1)) else (if x2 = (nI 1) then k5 (v3 + (nI 1)) (v4 + (nI 1)) else (if x2 = (nI 2) then (if z83 < z71 then k5 (v3 + (nI 1)) (v4 + (nI 1)) else f6_sums_b126 n oR x1 x2 k5 v4 v5 v6 z71 z83 v3) else f6_sums_b126 n oR x1 x2 k5 v4 v5 v6 z71 z83 v3)))))
def f6_sums_b5 (n : Nat) (oR : Nat → Int32) (x1 : Int32) (x2 : Int32) : Nat → Int32 → Int32 → Option (Int32)
  | 0, _, _ => none
  | k + 1, v3, v4 =>
    (ald 270 oR (nI 5)).bind fun x9 => (if x9 ≤ v4 then some v3 else (f6_sideOf n oR v4 x1).bind fun z17 => (f6_of n oR v4 (nI 6)).bind fun z27 => (if z17 = (-1 : Int32) then f6_sums_b60 n oR x1 x2 (f6_sums_b5 n oR x1 x2 k) v3 v4 z17 z27 else (if z27 = (0 : Int32) then (if x2 = (nI 8) then (f6_sums_b5 n oR x1 x2 k) (v3 + (nI 1)) (v4 + (nI 1)) else (f6_sums_b5 n oR x1 x2 k) (v3 + (nI 0)) (v4 + (nI 1))) else f6_sums_b60 n oR x1 x2 (f6_sums_b5 n oR x1 x2 k) v3 v4 z17 z27)))
def f6_sums (n : Nat) (oR : Nat → Int32) (x1 : Int32) (x2 : Int32) : Option (Int32) :=
  f6_sums_b5 n oR x1 x2 n (nI 0) (nI 0)
set_option maxHeartbeats 4000000 in
set_option maxRecDepth 100000 in
theorem t6_sums_b138 {l : Launch} {p : Program} {e : Env} {s : State} {m : MethodId} {args : Array Value} {below : List Frame} {meth : Method} {c : Code} {D : va_G} {A : Nat → Prop} {cyI cyO cyJ : ClassId} {aR : Nat} (C : Cx p s m args meth c D (tyG cyI cyO cyJ) A RX6 cX6_sums 9 (some .int) wsX6_sums) {z : Int32} (n : Nat) (oR : Nat → Int32) (x1 : Int32) (x2 : Int32) {k5 : Int32 → Int32 → Option (Int32)} (hk5 : ∀ (v3 : Int32) (v4 : Int32), k5 v3 v4 = some z → Wn p l e rm6_sums s m args below meth c D A 9 0 0 (MQ below (Qr D (tyG cyI cyO cyJ) ([(aR, .inl (cyI, 270, .inl oR))]) A (some (.int z))) args s 0 0 A) ([(aR, .inl (cyI, 270, .inl oR))]) 5 [(0, .ref aR), (1, .int x1), (2, .int x2), (3, .int v3), (4, .int v4)] []) (v4 : Int32) (v5 : Int32) (v6 : Int32) (s0 : Int32) (hf : f6_sums_b138 n oR x1 x2 k5 v4 v5 v6 s0 = some z) : Wn p l e rm6_sums s m args below meth c D A 9 0 0 (MQ below (Qr D (tyG cyI cyO cyJ) ([(aR, .inl (cyI, 270, .inl oR))]) A (some (.int z))) args s 0 0 A) ([(aR, .inl (cyI, 270, .inl oR))]) 138 [(0, .ref aR), (1, .int x1), (2, .int x2), (4, .int v4), (5, .int v5), (6, .int v6)] [.int s0] := by
  unfold f6_sums_b138 at hf
  refine n_iload_n C dX6_sums_138 2 rfl rfl ?_
  refine n_bipush (v := (nI 6)) C dX6_sums_139 (by decide) rfl ?_
  refine n_icmp_ne (t := 157) C dX6_sums_141 (by decide) rfl (fun h141 => ?_) (fun h141 => ?_)
  · have hf := iq h141 hf
    refine n_iconst (v := (nI 0)) C dX6_sums_157 (by decide) rfl ?_
    refine n_iadd C dX6_sums_158 rfl ?_
    refine n_istore_n (lv' := [(3, .int (s0 + (nI 0))), (0, .ref aR), (1, .int x1), (2, .int x2), (4, .int v4), (5, .int v5), (6, .int v6)]) C dX6_sums_159 (by decide) rfl rfl ?_
    refine n_iinc (v := v4 + (nI 1)) (lv' := [(4, .int (v4 + (nI 1))), (3, .int (s0 + (nI 0))), (0, .ref aR), (1, .int x1), (2, .int x2), (5, .int v5), (6, .int v6)]) C dX6_sums_160 (j := 4) rfl rfl (by decide) rfl rfl ?_
    refine n_goto (t := 5) C dX6_sums_163 (by decide) ?_
    exact Wn.sub (lv' := [(0, .ref aR), (1, .int x1), (2, .int x2), (3, .int (s0 + (nI 0))), (4, .int (v4 + (nI 1)))]) [2, 3, 4, 1, 0] rfl (hk5 (s0 + (nI 0)) (v4 + (nI 1)) hf)
  · have hf := ip h141 hf
    refine n_iload C dX6_sums_144 5 rfl rfl ?_
    refine n_iconst (v := (nI 2)) C dX6_sums_146 (by decide) rfl ?_
    refine n_iload C dX6_sums_147 4 rfl rfl ?_
    refine n_iadd C dX6_sums_149 rfl ?_
    refine n_icmp_ne (t := 157) C dX6_sums_150 (by decide) rfl (fun h150 => ?_) (fun h150 => ?_)
    · have hf := iq h150 hf
      refine n_iconst (v := (nI 0)) C dX6_sums_157 (by decide) rfl ?_
      refine n_iadd C dX6_sums_158 rfl ?_
      refine n_istore_n (lv' := [(3, .int (s0 + (nI 0))), (0, .ref aR), (1, .int x1), (2, .int x2), (4, .int v4), (5, .int v5), (6, .int v6)]) C dX6_sums_159 (by decide) rfl rfl ?_
      refine n_iinc (v := v4 + (nI 1)) (lv' := [(4, .int (v4 + (nI 1))), (3, .int (s0 + (nI 0))), (0, .ref aR), (1, .int x1), (2, .int x2), (5, .int v5), (6, .int v6)]) C dX6_sums_160 (j := 4) rfl rfl (by decide) rfl rfl ?_
      refine n_goto (t := 5) C dX6_sums_163 (by decide) ?_
      exact Wn.sub (lv' := [(0, .ref aR), (1, .int x1), (2, .int x2), (3, .int (s0 + (nI 0))), (4, .int (v4 + (nI 1)))]) [2, 3, 4, 1, 0] rfl (hk5 (s0 + (nI 0)) (v4 + (nI 1)) hf)
    · have hf := ip h150 hf
      refine n_iconst (v := (nI 1)) C dX6_sums_153 (by decide) rfl ?_
      refine n_goto (t := 158) C dX6_sums_154 (by decide) ?_
      refine n_iadd C dX6_sums_158 rfl ?_
      refine n_istore_n (lv' := [(3, .int (s0 + (nI 1))), (0, .ref aR), (1, .int x1), (2, .int x2), (4, .int v4), (5, .int v5), (6, .int v6)]) C dX6_sums_159 (by decide) rfl rfl ?_
      refine n_iinc (v := v4 + (nI 1)) (lv' := [(4, .int (v4 + (nI 1))), (3, .int (s0 + (nI 1))), (0, .ref aR), (1, .int x1), (2, .int x2), (5, .int v5), (6, .int v6)]) C dX6_sums_160 (j := 4) rfl rfl (by decide) rfl rfl ?_
      refine n_goto (t := 5) C dX6_sums_163 (by decide) ?_
      exact Wn.sub (lv' := [(0, .ref aR), (1, .int x1), (2, .int x2), (3, .int (s0 + (nI 1))), (4, .int (v4 + (nI 1)))]) [2, 3, 4, 1, 0] rfl (hk5 (s0 + (nI 1)) (v4 + (nI 1)) hf)
set_option maxHeartbeats 4000000 in
set_option maxRecDepth 100000 in
theorem t6_sums_b126 {l : Launch} {p : Program} {e : Env} {s : State} {m : MethodId} {args : Array Value} {below : List Frame} {meth : Method} {c : Code} {D : va_G} {A : Nat → Prop} {cyI cyO cyJ : ClassId} {aR : Nat} (C : Cx p s m args meth c D (tyG cyI cyO cyJ) A RX6 cX6_sums 9 (some .int) wsX6_sums) {z : Int32} (n : Nat) (oR : Nat → Int32) (x1 : Int32) (x2 : Int32) {k5 : Int32 → Int32 → Option (Int32)} (hk5 : ∀ (v3 : Int32) (v4 : Int32), k5 v3 v4 = some z → Wn p l e rm6_sums s m args below meth c D A 9 0 0 (MQ below (Qr D (tyG cyI cyO cyJ) ([(aR, .inl (cyI, 270, .inl oR))]) A (some (.int z))) args s 0 0 A) ([(aR, .inl (cyI, 270, .inl oR))]) 5 [(0, .ref aR), (1, .int x1), (2, .int x2), (3, .int v3), (4, .int v4)] []) (v4 : Int32) (v5 : Int32) (v6 : Int32) (v7 : Int32) (v8 : Int32) (s0 : Int32) (hf : f6_sums_b126 n oR x1 x2 k5 v4 v5 v6 v7 v8 s0 = some z) : Wn p l e rm6_sums s m args below meth c D A 9 0 0 (MQ below (Qr D (tyG cyI cyO cyJ) ([(aR, .inl (cyI, 270, .inl oR))]) A (some (.int z))) args s 0 0 A) ([(aR, .inl (cyI, 270, .inl oR))]) 126 [(0, .ref aR), (1, .int x1), (2, .int x2), (4, .int v4), (5, .int v5), (6, .int v6), (7, .int v7), (8, .int v8)] [.int s0] := by
  unfold f6_sums_b126 at hf
  refine n_iload_n C dX6_sums_126 2 rfl rfl ?_
  refine n_iconst (v := (nI 3)) C dX6_sums_127 (by decide) rfl ?_
  refine n_icmp_ne (t := 138) C dX6_sums_128 (by decide) rfl (fun h128 => ?_) (fun h128 => ?_)
  · have hf := iq h128 hf
    exact Wn.sub (lv' := [(0, .ref aR), (1, .int x1), (2, .int x2), (4, .int v4), (5, .int v5), (6, .int v6)]) [0, 1, 2, 3, 4, 5] rfl (t6_sums_b138 C n oR x1 x2 hk5 v4 v5 v6 s0 hf)
  · have hf := ip h128 hf
    refine n_iload C dX6_sums_131 6 rfl rfl ?_
    refine n_iload C dX6_sums_133 7 rfl rfl ?_
    refine n_icmp_eq (t := 153) C dX6_sums_135 (by decide) rfl (fun h135 => ?_) (fun h135 => ?_)
    · have hf := ip h135 hf
      refine n_iconst (v := (nI 1)) C dX6_sums_153 (by decide) rfl ?_
      refine n_goto (t := 158) C dX6_sums_154 (by decide) ?_
      refine n_iadd C dX6_sums_158 rfl ?_
      refine n_istore_n (lv' := [(3, .int (s0 + (nI 1))), (0, .ref aR), (1, .int x1), (2, .int x2), (4, .int v4), (5, .int v5), (6, .int v6), (7, .int v7), (8, .int v8)]) C dX6_sums_159 (by decide) rfl rfl ?_
      refine n_iinc (v := v4 + (nI 1)) (lv' := [(4, .int (v4 + (nI 1))), (3, .int (s0 + (nI 1))), (0, .ref aR), (1, .int x1), (2, .int x2), (5, .int v5), (6, .int v6), (7, .int v7), (8, .int v8)]) C dX6_sums_160 (j := 4) rfl rfl (by decide) rfl rfl ?_
      refine n_goto (t := 5) C dX6_sums_163 (by decide) ?_
      exact Wn.sub (lv' := [(0, .ref aR), (1, .int x1), (2, .int x2), (3, .int (s0 + (nI 1))), (4, .int (v4 + (nI 1)))]) [2, 3, 4, 1, 0] rfl (hk5 (s0 + (nI 1)) (v4 + (nI 1)) hf)
    · have hf := iq h135 hf
      exact Wn.sub (lv' := [(0, .ref aR), (1, .int x1), (2, .int x2), (4, .int v4), (5, .int v5), (6, .int v6)]) [0, 1, 2, 3, 4, 5] rfl (t6_sums_b138 C n oR x1 x2 hk5 v4 v5 v6 s0 hf)
set_option maxHeartbeats 4000000 in
set_option maxRecDepth 100000 in
theorem t6_sums_b60 {l : Launch} {p : Program} {e : Env} {s : State} {m : MethodId} {args : Array Value} {below : List Frame} {meth : Method} {c : Code} {D : va_G} {A : Nat → Prop} {cyI cyO cyJ : ClassId} {aR : Nat} (C : Cx p s m args meth c D (tyG cyI cyO cyJ) A RX6 cX6_sums 9 (some .int) wsX6_sums) {z : Int32} (n : Nat) (oR : Nat → Int32) (x1 : Int32) (x2 : Int32) {k5 : Int32 → Int32 → Option (Int32)} (hk5 : ∀ (v3 : Int32) (v4 : Int32), k5 v3 v4 = some z → Wn p l e rm6_sums s m args below meth c D A 9 0 0 (MQ below (Qr D (tyG cyI cyO cyJ) ([(aR, .inl (cyI, 270, .inl oR))]) A (some (.int z))) args s 0 0 A) ([(aR, .inl (cyI, 270, .inl oR))]) 5 [(0, .ref aR), (1, .int x1), (2, .int x2), (3, .int v3), (4, .int v4)] []) (v3 : Int32) (v4 : Int32) (v5 : Int32) (v6 : Int32) (hf : f6_sums_b60 n oR x1 x2 k5 v3 v4 v5 v6 = some z) : Wn p l e rm6_sums s m args below meth c D A 9 0 0 (MQ below (Qr D (tyG cyI cyO cyJ) ([(aR, .inl (cyI, 270, .inl oR))]) A (some (.int z))) args s 0 0 A) ([(aR, .inl (cyI, 270, .inl oR))]) 60 [(0, .ref aR), (1, .int x1), (2, .int x2), (3, .int v3), (4, .int v4), (5, .int v5), (6, .int v6)] [] := by
  unfold f6_sums_b60 at hf
  refine n_iload C dX6_sums_60 5 rfl rfl ?_
  refine n_iconst (v := (-1 : Int32)) C dX6_sums_62 (by decide) rfl ?_
  refine n_icmp_eq (t := 160) C dX6_sums_63 (by decide) rfl (fun h63 => ?_) (fun h63 => ?_)
  · have hf := ip h63 hf
    refine n_iinc (v := v4 + (nI 1)) (lv' := [(4, .int (v4 + (nI 1))), (0, .ref aR), (1, .int x1), (2, .int x2), (3, .int v3), (5, .int v5), (6, .int v6)]) C dX6_sums_160 (j := 4) rfl rfl (by decide) rfl rfl ?_
    refine n_goto (t := 5) C dX6_sums_163 (by decide) ?_
    exact Wn.sub (lv' := [(0, .ref aR), (1, .int x1), (2, .int x2), (3, .int v3), (4, .int (v4 + (nI 1)))]) [1, 2, 3, 4, 0] rfl (hk5 v3 (v4 + (nI 1)) hf)
  · have hf := iq h63 hf
    refine n_aload_n C dX6_sums_66 0 rfl rfl ?_
    refine n_iload C dX6_sums_67 4 rfl rfl ?_
    refine n_iload C dX6_sums_69 5 rfl rfl ?_
    obtain ⟨z71, h71, hf⟩ := bi hf
    refine n_callS (As := [.ref aR, .int v4, .int v5]) (rest := []) (w2 := [(aR, .inl (cyI, 270, .inl oR))]) C dX6_sums_71 (c6_scoreOf l D cyI cyO cyJ aR n oR v4 v5 z71 h71) (va_cwS 3 C.ts gX6_sums_X6_scoreOf rfl rfl rfl (by decide +kernel) ⟨Nat.le_of_ble_eq_true rfl, Nat.le_of_ble_eq_true rfl⟩) rfl Frm.self rfl (Nat.le_of_ble_eq_true rfl) ⟨Nat.le_of_ble_eq_true rfl, Nat.le_of_ble_eq_true rfl⟩ rfl ?_
    refine n_istore (lv' := [(7, .int z71), (0, .ref aR), (1, .int x1), (2, .int x2), (3, .int v3), (4, .int v4), (5, .int v5), (6, .int v6)]) C dX6_sums_74 (by decide) rfl rfl ?_
    refine n_aload_n C dX6_sums_76 1 rfl rfl ?_
    refine n_iload C dX6_sums_77 5 rfl rfl ?_
    refine n_iconst (v := (nI 1)) C dX6_sums_79 (by decide) rfl ?_
    refine n_iload C dX6_sums_80 6 rfl rfl ?_
    refine n_isub C dX6_sums_82 rfl ?_
    obtain ⟨z83, h83, hf⟩ := bi hf
    refine n_callS (As := [.ref aR, .int v4, .int ((nI 1) - v5)]) (rest := []) (w2 := [(aR, .inl (cyI, 270, .inl oR))]) C dX6_sums_83 (c6_scoreOf l D cyI cyO cyJ aR n oR v4 ((nI 1) - v5) z83 h83) (va_cwS 3 C.ts gX6_sums_X6_scoreOf rfl rfl rfl (by decide +kernel) ⟨Nat.le_of_ble_eq_true rfl, Nat.le_of_ble_eq_true rfl⟩) rfl Frm.self rfl (Nat.le_of_ble_eq_true rfl) ⟨Nat.le_of_ble_eq_true rfl, Nat.le_of_ble_eq_true rfl⟩ rfl ?_
    refine n_istore (lv' := [(8, .int z83), (7, .int z71), (0, .ref aR), (1, .int x1), (2, .int x2), (3, .int v3), (4, .int v4), (5, .int v5), (6, .int v6)]) C dX6_sums_86 (by decide) rfl rfl ?_
    refine n_iload_n C dX6_sums_88 5 rfl rfl ?_
    refine n_iload_n C dX6_sums_89 4 rfl rfl ?_
    refine n_iconst (v := (nI 4)) C dX6_sums_90 (by decide) rfl ?_
    refine n_icmp_ne (t := 99) C dX6_sums_91 (by decide) rfl (fun h91 => ?_) (fun h91 => ?_)
    · have hf := iq h91 hf
      refine n_iload_n C dX6_sums_99 4 rfl rfl ?_
      refine n_iconst (v := (nI 5)) C dX6_sums_100 (by decide) rfl ?_
      refine n_icmp_ne (t := 109) C dX6_sums_101 (by decide) rfl (fun h101 => ?_) (fun h101 => ?_)
      · have hf := iq h101 hf
        refine n_iload_n C dX6_sums_109 4 rfl rfl ?_
        refine n_iconst (v := (nI 1)) C dX6_sums_110 (by decide) rfl ?_
        refine n_icmp_eq (t := 153) C dX6_sums_111 (by decide) rfl (fun h111 => ?_) (fun h111 => ?_)
        · have hf := ip h111 hf
          refine n_iconst (v := (nI 1)) C dX6_sums_153 (by decide) rfl ?_
          refine n_goto (t := 158) C dX6_sums_154 (by decide) ?_
          refine n_iadd C dX6_sums_158 rfl ?_
          refine n_istore_n (lv' := [(3, .int (v3 + (nI 1))), (8, .int z83), (7, .int z71), (0, .ref aR), (1, .int x1), (2, .int x2), (4, .int v4), (5, .int v5), (6, .int v6)]) C dX6_sums_159 (by decide) rfl rfl ?_
          refine n_iinc (v := v4 + (nI 1)) (lv' := [(4, .int (v4 + (nI 1))), (3, .int (v3 + (nI 1))), (8, .int z83), (7, .int z71), (0, .ref aR), (1, .int x1), (2, .int x2), (5, .int v5), (6, .int v6)]) C dX6_sums_160 (j := 6) rfl rfl (by decide) rfl rfl ?_
          refine n_goto (t := 5) C dX6_sums_163 (by decide) ?_
          exact Wn.sub (lv' := [(0, .ref aR), (1, .int x1), (2, .int x2), (3, .int (v3 + (nI 1))), (4, .int (v4 + (nI 1)))]) [4, 5, 6, 1, 0] rfl (hk5 (v3 + (nI 1)) (v4 + (nI 1)) hf)
        · have hf := iq h111 hf
          refine n_iload_n C dX6_sums_114 4 rfl rfl ?_
          refine n_iconst (v := (nI 2)) C dX6_sums_115 (by decide) rfl ?_
          refine n_icmp_ne (t := 126) C dX6_sums_116 (by decide) rfl (fun h116 => ?_) (fun h116 => ?_)
          · have hf := iq h116 hf
            exact Wn.sub (lv' := [(0, .ref aR), (1, .int x1), (2, .int x2), (4, .int v4), (5, .int v5), (6, .int v6), (7, .int z71), (8, .int z83)]) [2, 3, 4, 6, 7, 8, 1, 0] rfl (t6_sums_b126 C n oR x1 x2 hk5 v4 v5 v6 z71 z83 v3 hf)
          · have hf := ip h116 hf
            refine n_iload C dX6_sums_119 1 rfl rfl ?_
            refine n_iload C dX6_sums_121 0 rfl rfl ?_
            refine n_icmp_gt (t := 153) C dX6_sums_123 (by decide) rfl (fun h123 => ?_) (fun h123 => ?_)
            · have hf := ip h123 hf
              refine n_iconst (v := (nI 1)) C dX6_sums_153 (by decide) rfl ?_
              refine n_goto (t := 158) C dX6_sums_154 (by decide) ?_
              refine n_iadd C dX6_sums_158 rfl ?_
              refine n_istore_n (lv' := [(3, .int (v3 + (nI 1))), (8, .int z83), (7, .int z71), (0, .ref aR), (1, .int x1), (2, .int x2), (4, .int v4), (5, .int v5), (6, .int v6)]) C dX6_sums_159 (by decide) rfl rfl ?_
              refine n_iinc (v := v4 + (nI 1)) (lv' := [(4, .int (v4 + (nI 1))), (3, .int (v3 + (nI 1))), (8, .int z83), (7, .int z71), (0, .ref aR), (1, .int x1), (2, .int x2), (5, .int v5), (6, .int v6)]) C dX6_sums_160 (j := 6) rfl rfl (by decide) rfl rfl ?_
              refine n_goto (t := 5) C dX6_sums_163 (by decide) ?_
              exact Wn.sub (lv' := [(0, .ref aR), (1, .int x1), (2, .int x2), (3, .int (v3 + (nI 1))), (4, .int (v4 + (nI 1)))]) [4, 5, 6, 1, 0] rfl (hk5 (v3 + (nI 1)) (v4 + (nI 1)) hf)
            · have hf := iq h123 hf
              exact Wn.sub (lv' := [(0, .ref aR), (1, .int x1), (2, .int x2), (4, .int v4), (5, .int v5), (6, .int v6), (7, .int z71), (8, .int z83)]) [2, 3, 4, 6, 7, 8, 1, 0] rfl (t6_sums_b126 C n oR x1 x2 hk5 v4 v5 v6 z71 z83 v3 hf)
      · have hf := ip h101 hf
        refine n_iload C dX6_sums_104 0 rfl rfl ?_
        refine n_goto (t := 158) C dX6_sums_106 (by decide) ?_
        refine n_iadd C dX6_sums_158 rfl ?_
        refine n_istore_n (lv' := [(3, .int (v3 + z83)), (8, .int z83), (7, .int z71), (0, .ref aR), (1, .int x1), (2, .int x2), (4, .int v4), (5, .int v5), (6, .int v6)]) C dX6_sums_159 (by decide) rfl rfl ?_
        refine n_iinc (v := v4 + (nI 1)) (lv' := [(4, .int (v4 + (nI 1))), (3, .int (v3 + z83)), (8, .int z83), (7, .int z71), (0, .ref aR), (1, .int x1), (2, .int x2), (5, .int v5), (6, .int v6)]) C dX6_sums_160 (j := 6) rfl rfl (by decide) rfl rfl ?_
        refine n_goto (t := 5) C dX6_sums_163 (by decide) ?_
        exact Wn.sub (lv' := [(0, .ref aR), (1, .int x1), (2, .int x2), (3, .int (v3 + z83)), (4, .int (v4 + (nI 1)))]) [4, 5, 6, 1, 0] rfl (hk5 (v3 + z83) (v4 + (nI 1)) hf)
    · have hf := ip h91 hf
      refine n_iload C dX6_sums_94 1 rfl rfl ?_
      refine n_goto (t := 158) C dX6_sums_96 (by decide) ?_
      refine n_iadd C dX6_sums_158 rfl ?_
      refine n_istore_n (lv' := [(3, .int (v3 + z71)), (8, .int z83), (7, .int z71), (0, .ref aR), (1, .int x1), (2, .int x2), (4, .int v4), (5, .int v5), (6, .int v6)]) C dX6_sums_159 (by decide) rfl rfl ?_
      refine n_iinc (v := v4 + (nI 1)) (lv' := [(4, .int (v4 + (nI 1))), (3, .int (v3 + z71)), (8, .int z83), (7, .int z71), (0, .ref aR), (1, .int x1), (2, .int x2), (5, .int v5), (6, .int v6)]) C dX6_sums_160 (j := 6) rfl rfl (by decide) rfl rfl ?_
      refine n_goto (t := 5) C dX6_sums_163 (by decide) ?_
      exact Wn.sub (lv' := [(0, .ref aR), (1, .int x1), (2, .int x2), (3, .int (v3 + z71)), (4, .int (v4 + (nI 1)))]) [4, 5, 6, 1, 0] rfl (hk5 (v3 + z71) (v4 + (nI 1)) hf)
set_option maxHeartbeats 4000000 in
set_option maxRecDepth 100000 in
theorem t6_sums_b5 {l : Launch} {p : Program} {e : Env} {s : State} {m : MethodId} {args : Array Value} {below : List Frame} {meth : Method} {c : Code} {D : va_G} {A : Nat → Prop} {cyI cyO cyJ : ClassId} {aR : Nat} (C : Cx p s m args meth c D (tyG cyI cyO cyJ) A RX6 cX6_sums 9 (some .int) wsX6_sums) {z : Int32} (n : Nat) (oR : Nat → Int32) (x1 : Int32) (x2 : Int32) : ∀ (k : Nat) (v3 : Int32) (v4 : Int32), f6_sums_b5 n oR x1 x2 k v3 v4 = some z → Wn p l e rm6_sums s m args below meth c D A 9 0 0 (MQ below (Qr D (tyG cyI cyO cyJ) ([(aR, .inl (cyI, 270, .inl oR))]) A (some (.int z))) args s 0 0 A) ([(aR, .inl (cyI, 270, .inl oR))]) 5 [(0, .ref aR), (1, .int x1), (2, .int x2), (3, .int v3), (4, .int v4)] [] := by
  intro k
  induction k with
  | zero => intro  v3 v4 hf; cases hf
  | succ k ih =>
    intro  v3 v4 hf
    unfold f6_sums_b5 at hf
    refine n_iload C dX6_sums_5 4 rfl rfl ?_
    refine n_aload_n C dX6_sums_7 0 rfl rfl ?_
    refine n_iconst (v := (nI 5)) C dX6_sums_8 (by decide) rfl ?_
    obtain ⟨x9, h9, hf⟩ := bi hf
    obtain ⟨h9, e9⟩ := ald_some h9
    refine n_iald C dX6_sums_9 0 0 rfl rfl h9 rfl ?_
    rw [← e9]
    refine n_icmp_ge (t := 166) C dX6_sums_10 (by decide) rfl (fun h10 => ?_) (fun h10 => ?_)
    · have hf := ip h10 hf
      refine n_iload_n C dX6_sums_166 3 rfl rfl ?_
      obtain rfl := Option.some.inj hf
      exact n_iret C dX6_sums_167
    · have hf := iq h10 hf
      refine n_aload_n C dX6_sums_13 0 rfl rfl ?_
      refine n_iload C dX6_sums_14 4 rfl rfl ?_
      refine n_iload_n C dX6_sums_16 1 rfl rfl ?_
      obtain ⟨z17, h17, hf⟩ := bi hf
      refine n_callS (As := [.ref aR, .int v4, .int x1]) (rest := []) (w2 := [(aR, .inl (cyI, 270, .inl oR))]) C dX6_sums_17 (c6_sideOf l D cyI cyO cyJ aR n oR v4 x1 z17 h17) (va_cwS 3 C.ts gX6_sums_X6_sideOf rfl rfl rfl (by decide +kernel) ⟨Nat.le_of_ble_eq_true rfl, Nat.le_of_ble_eq_true rfl⟩) rfl Frm.self rfl (Nat.le_of_ble_eq_true rfl) ⟨Nat.le_of_ble_eq_true rfl, Nat.le_of_ble_eq_true rfl⟩ rfl ?_
      refine n_istore (lv' := [(5, .int z17), (0, .ref aR), (1, .int x1), (2, .int x2), (3, .int v3), (4, .int v4)]) C dX6_sums_20 (by decide) rfl rfl ?_
      refine n_aload_n C dX6_sums_22 1 rfl rfl ?_
      refine n_iload C dX6_sums_23 5 rfl rfl ?_
      refine n_bipush (v := (nI 6)) C dX6_sums_25 (by decide) rfl ?_
      obtain ⟨z27, h27, hf⟩ := bi hf
      refine n_callS (As := [.ref aR, .int v4, .int (nI 6)]) (rest := []) (w2 := [(aR, .inl (cyI, 270, .inl oR))]) C dX6_sums_27 (c6_of l D cyI cyO cyJ aR n oR v4 (nI 6) z27 h27) (va_cwS 3 C.ts gX6_sums_X6_of rfl rfl rfl (by decide +kernel) ⟨Nat.le_of_ble_eq_true rfl, Nat.le_of_ble_eq_true rfl⟩) rfl Frm.self rfl (Nat.le_of_ble_eq_true rfl) ⟨Nat.le_of_ble_eq_true rfl, Nat.le_of_ble_eq_true rfl⟩ rfl ?_
      refine n_istore (lv' := [(6, .int z27), (5, .int z17), (0, .ref aR), (1, .int x1), (2, .int x2), (3, .int v3), (4, .int v4)]) C dX6_sums_30 (by decide) rfl rfl ?_
      refine n_iload C dX6_sums_32 1 rfl rfl ?_
      refine n_iconst (v := (-1 : Int32)) C dX6_sums_34 (by decide) rfl ?_
      refine n_icmp_eq (t := 60) C dX6_sums_35 (by decide) rfl (fun h35 => ?_) (fun h35 => ?_)
      · have hf := ip h35 hf
        exact Wn.sub (lv' := [(0, .ref aR), (1, .int x1), (2, .int x2), (3, .int v3), (4, .int v4), (5, .int z17), (6, .int z27)]) [2, 3, 4, 5, 6, 1, 0] rfl (t6_sums_b60 C n oR x1 x2 ih v3 v4 z17 z27 hf)
      · have hf := iq h35 hf
        refine n_iload C dX6_sums_38 0 rfl rfl ?_
        refine n_if_ne (t := 60) C dX6_sums_40 (by decide) rfl (fun h40 => ?_) (fun h40 => ?_)
        · have hf := iq h40 hf
          exact Wn.sub (lv' := [(0, .ref aR), (1, .int x1), (2, .int x2), (3, .int v3), (4, .int v4), (5, .int z17), (6, .int z27)]) [2, 3, 4, 5, 6, 1, 0] rfl (t6_sums_b60 C n oR x1 x2 ih v3 v4 z17 z27 hf)
        · have hf := ip h40 hf
          refine n_iload_n C dX6_sums_43 5 rfl rfl ?_
          refine n_iload_n C dX6_sums_44 4 rfl rfl ?_
          refine n_bipush (v := (nI 8)) C dX6_sums_45 (by decide) rfl ?_
          refine n_icmp_ne (t := 54) C dX6_sums_47 (by decide) rfl (fun h47 => ?_) (fun h47 => ?_)
          · have hf := iq h47 hf
            refine n_iconst (v := (nI 0)) C dX6_sums_54 (by decide) rfl ?_
            refine n_iadd C dX6_sums_55 rfl ?_
            refine n_istore_n (lv' := [(3, .int (v3 + (nI 0))), (6, .int z27), (5, .int z17), (0, .ref aR), (1, .int x1), (2, .int x2), (4, .int v4)]) C dX6_sums_56 (by decide) rfl rfl ?_
            refine n_goto (t := 160) C dX6_sums_57 (by decide) ?_
            refine n_iinc (v := v4 + (nI 1)) (lv' := [(4, .int (v4 + (nI 1))), (3, .int (v3 + (nI 0))), (6, .int z27), (5, .int z17), (0, .ref aR), (1, .int x1), (2, .int x2)]) C dX6_sums_160 (j := 6) rfl rfl (by decide) rfl rfl ?_
            refine n_goto (t := 5) C dX6_sums_163 (by decide) ?_
            exact Wn.sub (lv' := [(0, .ref aR), (1, .int x1), (2, .int x2), (3, .int (v3 + (nI 0))), (4, .int (v4 + (nI 1)))]) [4, 5, 6, 1, 0] rfl (ih (v3 + (nI 0)) (v4 + (nI 1)) hf)
          · have hf := ip h47 hf
            refine n_iconst (v := (nI 1)) C dX6_sums_50 (by decide) rfl ?_
            refine n_goto (t := 55) C dX6_sums_51 (by decide) ?_
            refine n_iadd C dX6_sums_55 rfl ?_
            refine n_istore_n (lv' := [(3, .int (v3 + (nI 1))), (6, .int z27), (5, .int z17), (0, .ref aR), (1, .int x1), (2, .int x2), (4, .int v4)]) C dX6_sums_56 (by decide) rfl rfl ?_
            refine n_goto (t := 160) C dX6_sums_57 (by decide) ?_
            refine n_iinc (v := v4 + (nI 1)) (lv' := [(4, .int (v4 + (nI 1))), (3, .int (v3 + (nI 1))), (6, .int z27), (5, .int z17), (0, .ref aR), (1, .int x1), (2, .int x2)]) C dX6_sums_160 (j := 6) rfl rfl (by decide) rfl rfl ?_
            refine n_goto (t := 5) C dX6_sums_163 (by decide) ?_
            exact Wn.sub (lv' := [(0, .ref aR), (1, .int x1), (2, .int x2), (3, .int (v3 + (nI 1))), (4, .int (v4 + (nI 1)))]) [4, 5, 6, 1, 0] rfl (ih (v3 + (nI 1)) (v4 + (nI 1)) hf)
set_option maxHeartbeats 4000000 in
set_option maxRecDepth 100000 in
theorem c6_sums (l : Launch) (D : va_G) (cyI cyO cyJ : ClassId) (aR : Nat) (n : Nat) (oR : Nat → Int32) (x1 : Int32) (x2 : Int32) (z : Int32) (hf : f6_sums n oR x1 x2 = some z) : Ct l D (tyG cyI cyO cyJ) yX6_sums wsX6_sums rm6_sums 0 0 [.ref aR, .int x1, .int x2] ([(aR, .inl (cyI, 270, .inl oR))]) ([(aR, .inl (cyI, 270, .inl oR))]) (some (.int z)) := by
  refine Ct.of (cc := cX6_sums) (nL := 9) (ret := (some .int)) (lv := [(0, .ref aR), (1, .int x1), (2, .int x2)]) (by decide +kernel) rfl rfl (Nat.le_of_ble_eq_true rfl) ?_
  intro p e s m args below meth c A C
  have C : Cx p s m args meth c D (tyG cyI cyO cyJ) A RX6 cX6_sums 9 (some .int) wsX6_sums := C
  unfold f6_sums at hf
  refine n_iconst (v := (nI 0)) C dX6_sums_0 (by decide) rfl ?_
  refine n_istore_n (lv' := [(3, .int (nI 0)), (0, .ref aR), (1, .int x1), (2, .int x2)]) C dX6_sums_1 (by decide) rfl rfl ?_
  refine n_iconst (v := (nI 0)) C dX6_sums_2 (by decide) rfl ?_
  refine n_istore (lv' := [(4, .int (nI 0)), (3, .int (nI 0)), (0, .ref aR), (1, .int x1), (2, .int x2)]) C dX6_sums_3 (by decide) rfl rfl ?_
  exact Wn.sub (lv' := [(0, .ref aR), (1, .int x1), (2, .int x2), (3, .int (nI 0)), (4, .int (nI 0))]) [2, 3, 4, 1, 0] rfl (t6_sums_b5 C n oR x1 x2 n (nI 0) (nI 0) hf)
-- X6 points 
abbrev rm6_points : Room := { frames := 3, cells := 0, slots := 0, locals := 73 }
def f6_points (n : Nat) (oR : Nat → Int32) (x1 : Int32) : Option (Int32) :=
  (ald 270 oR (nI 0)).bind fun x2 => (f6_sums n oR x1 (nI 2)).bind fun z6 => (ald 270 oR (nI 1)).bind fun x12 => (f6_sums n oR x1 (nI 3)).bind fun z16 => (f6_sums n oR x1 (nI 6)).bind fun z25 => some (((x2 * z6) + (x12 * z16)) - z25)
set_option maxHeartbeats 4000000 in
set_option maxRecDepth 100000 in
theorem c6_points (l : Launch) (D : va_G) (cyI cyO cyJ : ClassId) (aR : Nat) (n : Nat) (oR : Nat → Int32) (x1 : Int32) (z : Int32) (hf : f6_points n oR x1 = some z) : Ct l D (tyG cyI cyO cyJ) yX6_points wsX6_points rm6_points 0 0 [.ref aR, .int x1] ([(aR, .inl (cyI, 270, .inl oR))]) ([(aR, .inl (cyI, 270, .inl oR))]) (some (.int z)) := by
  refine Ct.of (cc := cX6_points) (nL := 2) (ret := (some .int)) (lv := [(0, .ref aR), (1, .int x1)]) (by decide +kernel) rfl rfl (Nat.le_of_ble_eq_true rfl) ?_
  intro p e s m args below meth c A C
  have C : Cx p s m args meth c D (tyG cyI cyO cyJ) A RX6 cX6_points 2 (some .int) wsX6_points := C
  unfold f6_points at hf
  refine n_aload_n C dX6_points_0 0 rfl rfl ?_
  refine n_iconst (v := (nI 0)) C dX6_points_1 (by decide) rfl ?_
  obtain ⟨x2, h2, hf⟩ := bi hf
  obtain ⟨h2, e2⟩ := ald_some h2
  refine n_iald C dX6_points_2 0 0 rfl rfl h2 rfl ?_
  rw [← e2]
  refine n_aload_n C dX6_points_3 0 rfl rfl ?_
  refine n_iload_n C dX6_points_4 1 rfl rfl ?_
  refine n_iconst (v := (nI 2)) C dX6_points_5 (by decide) rfl ?_
  obtain ⟨z6, h6, hf⟩ := bi hf
  refine n_callS (As := [.ref aR, .int x1, .int (nI 2)]) (rest := [.int x2]) (w2 := [(aR, .inl (cyI, 270, .inl oR))]) C dX6_points_6 (c6_sums l D cyI cyO cyJ aR n oR x1 (nI 2) z6 h6) (va_cwS 3 C.ts gX6_points_X6_sums rfl rfl rfl (by decide +kernel) ⟨Nat.le_of_ble_eq_true rfl, Nat.le_of_ble_eq_true rfl⟩) rfl Frm.self rfl (Nat.le_of_ble_eq_true rfl) ⟨Nat.le_of_ble_eq_true rfl, Nat.le_of_ble_eq_true rfl⟩ rfl ?_
  refine n_imul C dX6_points_9 rfl ?_
  refine n_aload_n C dX6_points_10 0 rfl rfl ?_
  refine n_iconst (v := (nI 1)) C dX6_points_11 (by decide) rfl ?_
  obtain ⟨x12, h12, hf⟩ := bi hf
  obtain ⟨h12, e12⟩ := ald_some h12
  refine n_iald C dX6_points_12 0 0 rfl rfl h12 rfl ?_
  rw [← e12]
  refine n_aload_n C dX6_points_13 0 rfl rfl ?_
  refine n_iload_n C dX6_points_14 1 rfl rfl ?_
  refine n_iconst (v := (nI 3)) C dX6_points_15 (by decide) rfl ?_
  obtain ⟨z16, h16, hf⟩ := bi hf
  refine n_callS (As := [.ref aR, .int x1, .int (nI 3)]) (rest := [.int x12, .int (x2 * z6)]) (w2 := [(aR, .inl (cyI, 270, .inl oR))]) C dX6_points_16 (c6_sums l D cyI cyO cyJ aR n oR x1 (nI 3) z16 h16) (va_cwS 3 C.ts gX6_points_X6_sums rfl rfl rfl (by decide +kernel) ⟨Nat.le_of_ble_eq_true rfl, Nat.le_of_ble_eq_true rfl⟩) rfl Frm.self rfl (Nat.le_of_ble_eq_true rfl) ⟨Nat.le_of_ble_eq_true rfl, Nat.le_of_ble_eq_true rfl⟩ rfl ?_
  refine n_imul C dX6_points_19 rfl ?_
  refine n_iadd C dX6_points_20 rfl ?_
  refine n_aload_n C dX6_points_21 0 rfl rfl ?_
  refine n_iload_n C dX6_points_22 1 rfl rfl ?_
  refine n_bipush (v := (nI 6)) C dX6_points_23 (by decide) rfl ?_
  obtain ⟨z25, h25, hf⟩ := bi hf
  refine n_callS (As := [.ref aR, .int x1, .int (nI 6)]) (rest := [.int ((x2 * z6) + (x12 * z16))]) (w2 := [(aR, .inl (cyI, 270, .inl oR))]) C dX6_points_25 (c6_sums l D cyI cyO cyJ aR n oR x1 (nI 6) z25 h25) (va_cwS 3 C.ts gX6_points_X6_sums rfl rfl rfl (by decide +kernel) ⟨Nat.le_of_ble_eq_true rfl, Nat.le_of_ble_eq_true rfl⟩) rfl Frm.self rfl (Nat.le_of_ble_eq_true rfl) ⟨Nat.le_of_ble_eq_true rfl, Nat.le_of_ble_eq_true rfl⟩ rfl ?_
  refine n_isub C dX6_points_28 rfl ?_
  obtain rfl := Option.some.inj hf
  exact n_iret C dX6_points_29
-- X6 isAhead 
abbrev rm6_isAhead : Room := { frames := 4, cells := 0, slots := 0, locals := 94 }
def f6_isAhead (n : Nat) (oR : Nat → Int32) (x1 : Int32) (x2 : Int32) : Option (Int32) :=
  (f6_points n oR x1).bind fun z2 => (f6_points n oR x2).bind fun z7 => (f6_sums n oR x1 (nI 4)).bind fun z15 => (f6_sums n oR x1 (nI 5)).bind fun z21 => (f6_sums n oR x2 (nI 4)).bind fun z28 => (f6_sums n oR x2 (nI 5)).bind fun z35 => (f6_sums n oR x1 (nI 4)).bind fun z44 => (f6_sums n oR x2 (nI 4)).bind fun z50 => (if (z2 - z7) = (0 : Int32) then (if (((z15 - z21) - z28) + z35) = (0 : Int32) then (if (z44 - z50) = (0 : Int32) then (if x2 ≤ x1 then some (nI 0) else some (nI 1)) else (if (z44 - z50) ≤ (0 : Int32) then some (nI 0) else some (nI 1))) else (if (((z15 - z21) - z28) + z35) ≤ (0 : Int32) then some (nI 0) else some (nI 1))) else (if (z2 - z7) ≤ (0 : Int32) then some (nI 0) else some (nI 1)))
set_option maxHeartbeats 4000000 in
set_option maxRecDepth 100000 in
theorem c6_isAhead (l : Launch) (D : va_G) (cyI cyO cyJ : ClassId) (aR : Nat) (n : Nat) (oR : Nat → Int32) (x1 : Int32) (x2 : Int32) (z : Int32) (hf : f6_isAhead n oR x1 x2 = some z) : Ct l D (tyG cyI cyO cyJ) yX6_isAhead wsX6_isAhead rm6_isAhead 0 0 [.ref aR, .int x1, .int x2] ([(aR, .inl (cyI, 270, .inl oR))]) ([(aR, .inl (cyI, 270, .inl oR))]) (some (.int z)) := by
  refine Ct.of (cc := cX6_isAhead) (nL := 6) (ret := (some .boolean)) (lv := [(0, .ref aR), (1, .int x1), (2, .int x2)]) (by decide +kernel) rfl rfl (Nat.le_of_ble_eq_true rfl) ?_
  intro p e s m args below meth c A C
  have C : Cx p s m args meth c D (tyG cyI cyO cyJ) A RX6 cX6_isAhead 6 (some .boolean) wsX6_isAhead := C
  unfold f6_isAhead at hf
  refine n_aload_n C dX6_isAhead_0 0 rfl rfl ?_
  refine n_iload_n C dX6_isAhead_1 1 rfl rfl ?_
  obtain ⟨z2, h2, hf⟩ := bi hf
  refine n_callS (As := [.ref aR, .int x1]) (rest := []) (w2 := [(aR, .inl (cyI, 270, .inl oR))]) C dX6_isAhead_2 (c6_points l D cyI cyO cyJ aR n oR x1 z2 h2) (va_cwS 2 C.ts gX6_isAhead_X6_points rfl rfl rfl (by decide +kernel) ⟨Nat.le_of_ble_eq_true rfl, Nat.le_of_ble_eq_true rfl⟩) rfl Frm.self rfl (Nat.le_of_ble_eq_true rfl) ⟨Nat.le_of_ble_eq_true rfl, Nat.le_of_ble_eq_true rfl⟩ rfl ?_
  refine n_aload_n C dX6_isAhead_5 0 rfl rfl ?_
  refine n_iload_n C dX6_isAhead_6 2 rfl rfl ?_
  obtain ⟨z7, h7, hf⟩ := bi hf
  refine n_callS (As := [.ref aR, .int x2]) (rest := [.int z2]) (w2 := [(aR, .inl (cyI, 270, .inl oR))]) C dX6_isAhead_7 (c6_points l D cyI cyO cyJ aR n oR x2 z7 h7) (va_cwS 2 C.ts gX6_isAhead_X6_points rfl rfl rfl (by decide +kernel) ⟨Nat.le_of_ble_eq_true rfl, Nat.le_of_ble_eq_true rfl⟩) rfl Frm.self rfl (Nat.le_of_ble_eq_true rfl) ⟨Nat.le_of_ble_eq_true rfl, Nat.le_of_ble_eq_true rfl⟩ rfl ?_
  refine n_isub C dX6_isAhead_10 rfl ?_
  refine n_istore_n (lv' := [(3, .int (z2 - z7)), (0, .ref aR), (1, .int x1), (2, .int x2)]) C dX6_isAhead_11 (by decide) rfl rfl ?_
  refine n_aload_n C dX6_isAhead_12 1 rfl rfl ?_
  refine n_iload_n C dX6_isAhead_13 2 rfl rfl ?_
  refine n_iconst (v := (nI 4)) C dX6_isAhead_14 (by decide) rfl ?_
  obtain ⟨z15, h15, hf⟩ := bi hf
  refine n_callS (As := [.ref aR, .int x1, .int (nI 4)]) (rest := []) (w2 := [(aR, .inl (cyI, 270, .inl oR))]) C dX6_isAhead_15 (c6_sums l D cyI cyO cyJ aR n oR x1 (nI 4) z15 h15) (va_cwS 3 C.ts gX6_isAhead_X6_sums rfl rfl rfl (by decide +kernel) ⟨Nat.le_of_ble_eq_true rfl, Nat.le_of_ble_eq_true rfl⟩) rfl Frm.self rfl (Nat.le_of_ble_eq_true rfl) ⟨Nat.le_of_ble_eq_true rfl, Nat.le_of_ble_eq_true rfl⟩ rfl ?_
  refine n_aload_n C dX6_isAhead_18 1 rfl rfl ?_
  refine n_iload_n C dX6_isAhead_19 2 rfl rfl ?_
  refine n_iconst (v := (nI 5)) C dX6_isAhead_20 (by decide) rfl ?_
  obtain ⟨z21, h21, hf⟩ := bi hf
  refine n_callS (As := [.ref aR, .int x1, .int (nI 5)]) (rest := [.int z15]) (w2 := [(aR, .inl (cyI, 270, .inl oR))]) C dX6_isAhead_21 (c6_sums l D cyI cyO cyJ aR n oR x1 (nI 5) z21 h21) (va_cwS 3 C.ts gX6_isAhead_X6_sums rfl rfl rfl (by decide +kernel) ⟨Nat.le_of_ble_eq_true rfl, Nat.le_of_ble_eq_true rfl⟩) rfl Frm.self rfl (Nat.le_of_ble_eq_true rfl) ⟨Nat.le_of_ble_eq_true rfl, Nat.le_of_ble_eq_true rfl⟩ rfl ?_
  refine n_isub C dX6_isAhead_24 rfl ?_
  refine n_aload_n C dX6_isAhead_25 1 rfl rfl ?_
  refine n_iload_n C dX6_isAhead_26 3 rfl rfl ?_
  refine n_iconst (v := (nI 4)) C dX6_isAhead_27 (by decide) rfl ?_
  obtain ⟨z28, h28, hf⟩ := bi hf
  refine n_callS (As := [.ref aR, .int x2, .int (nI 4)]) (rest := [.int (z15 - z21)]) (w2 := [(aR, .inl (cyI, 270, .inl oR))]) C dX6_isAhead_28 (c6_sums l D cyI cyO cyJ aR n oR x2 (nI 4) z28 h28) (va_cwS 3 C.ts gX6_isAhead_X6_sums rfl rfl rfl (by decide +kernel) ⟨Nat.le_of_ble_eq_true rfl, Nat.le_of_ble_eq_true rfl⟩) rfl Frm.self rfl (Nat.le_of_ble_eq_true rfl) ⟨Nat.le_of_ble_eq_true rfl, Nat.le_of_ble_eq_true rfl⟩ rfl ?_
  refine n_isub C dX6_isAhead_31 rfl ?_
  refine n_aload_n C dX6_isAhead_32 1 rfl rfl ?_
  refine n_iload_n C dX6_isAhead_33 3 rfl rfl ?_
  refine n_iconst (v := (nI 5)) C dX6_isAhead_34 (by decide) rfl ?_
  obtain ⟨z35, h35, hf⟩ := bi hf
  refine n_callS (As := [.ref aR, .int x2, .int (nI 5)]) (rest := [.int ((z15 - z21) - z28)]) (w2 := [(aR, .inl (cyI, 270, .inl oR))]) C dX6_isAhead_35 (c6_sums l D cyI cyO cyJ aR n oR x2 (nI 5) z35 h35) (va_cwS 3 C.ts gX6_isAhead_X6_sums rfl rfl rfl (by decide +kernel) ⟨Nat.le_of_ble_eq_true rfl, Nat.le_of_ble_eq_true rfl⟩) rfl Frm.self rfl (Nat.le_of_ble_eq_true rfl) ⟨Nat.le_of_ble_eq_true rfl, Nat.le_of_ble_eq_true rfl⟩ rfl ?_
  refine n_iadd C dX6_isAhead_38 rfl ?_
  refine n_istore (lv' := [(4, .int (((z15 - z21) - z28) + z35)), (3, .int (z2 - z7)), (0, .ref aR), (1, .int x1), (2, .int x2)]) C dX6_isAhead_39 (by decide) rfl rfl ?_
  refine n_aload_n C dX6_isAhead_41 2 rfl rfl ?_
  refine n_iload_n C dX6_isAhead_42 3 rfl rfl ?_
  refine n_iconst (v := (nI 4)) C dX6_isAhead_43 (by decide) rfl ?_
  obtain ⟨z44, h44, hf⟩ := bi hf
  refine n_callS (As := [.ref aR, .int x1, .int (nI 4)]) (rest := []) (w2 := [(aR, .inl (cyI, 270, .inl oR))]) C dX6_isAhead_44 (c6_sums l D cyI cyO cyJ aR n oR x1 (nI 4) z44 h44) (va_cwS 3 C.ts gX6_isAhead_X6_sums rfl rfl rfl (by decide +kernel) ⟨Nat.le_of_ble_eq_true rfl, Nat.le_of_ble_eq_true rfl⟩) rfl Frm.self rfl (Nat.le_of_ble_eq_true rfl) ⟨Nat.le_of_ble_eq_true rfl, Nat.le_of_ble_eq_true rfl⟩ rfl ?_
  refine n_aload_n C dX6_isAhead_47 2 rfl rfl ?_
  refine n_iload_n C dX6_isAhead_48 4 rfl rfl ?_
  refine n_iconst (v := (nI 4)) C dX6_isAhead_49 (by decide) rfl ?_
  obtain ⟨z50, h50, hf⟩ := bi hf
  refine n_callS (As := [.ref aR, .int x2, .int (nI 4)]) (rest := [.int z44]) (w2 := [(aR, .inl (cyI, 270, .inl oR))]) C dX6_isAhead_50 (c6_sums l D cyI cyO cyJ aR n oR x2 (nI 4) z50 h50) (va_cwS 3 C.ts gX6_isAhead_X6_sums rfl rfl rfl (by decide +kernel) ⟨Nat.le_of_ble_eq_true rfl, Nat.le_of_ble_eq_true rfl⟩) rfl Frm.self rfl (Nat.le_of_ble_eq_true rfl) ⟨Nat.le_of_ble_eq_true rfl, Nat.le_of_ble_eq_true rfl⟩ rfl ?_
  refine n_isub C dX6_isAhead_53 rfl ?_
  refine n_istore (lv' := [(5, .int (z44 - z50)), (4, .int (((z15 - z21) - z28) + z35)), (3, .int (z2 - z7)), (0, .ref aR), (1, .int x1), (2, .int x2)]) C dX6_isAhead_54 (by decide) rfl rfl ?_
  refine n_iload_n C dX6_isAhead_56 2 rfl rfl ?_
  refine n_if_eq (t := 72) C dX6_isAhead_57 (by decide) rfl (fun h57 => ?_) (fun h57 => ?_)
  · have hf := ip h57 hf
    refine n_iload C dX6_isAhead_72 1 rfl rfl ?_
    refine n_if_eq (t := 90) C dX6_isAhead_74 (by decide) rfl (fun h74 => ?_) (fun h74 => ?_)
    · have hf := ip h74 hf
      refine n_iload C dX6_isAhead_90 0 rfl rfl ?_
      refine n_if_eq (t := 108) C dX6_isAhead_92 (by decide) rfl (fun h92 => ?_) (fun h92 => ?_)
      · have hf := ip h92 hf
        refine n_iload_n C dX6_isAhead_108 4 rfl rfl ?_
        refine n_iload_n C dX6_isAhead_109 5 rfl rfl ?_
        refine n_icmp_ge (t := 117) C dX6_isAhead_110 (by decide) rfl (fun h110 => ?_) (fun h110 => ?_)
        · have hf := ip h110 hf
          refine n_iconst (v := (nI 0)) C dX6_isAhead_117 (by decide) rfl ?_
          obtain rfl := Option.some.inj hf
          exact n_zret C dX6_isAhead_118 (Or.inl rfl)
        · have hf := iq h110 hf
          refine n_iconst (v := (nI 1)) C dX6_isAhead_113 (by decide) rfl ?_
          refine n_goto (t := 118) C dX6_isAhead_114 (by decide) ?_
          obtain rfl := Option.some.inj hf
          exact n_zret C dX6_isAhead_118 (Or.inr rfl)
      · have hf := iq h92 hf
        refine n_iload C dX6_isAhead_95 0 rfl rfl ?_
        refine n_if_le (t := 104) C dX6_isAhead_97 (by decide) rfl (fun h97 => ?_) (fun h97 => ?_)
        · have hf := ip h97 hf
          refine n_iconst (v := (nI 0)) C dX6_isAhead_104 (by decide) rfl ?_
          refine n_goto (t := 118) C dX6_isAhead_105 (by decide) ?_
          obtain rfl := Option.some.inj hf
          exact n_zret C dX6_isAhead_118 (Or.inl rfl)
        · have hf := iq h97 hf
          refine n_iconst (v := (nI 1)) C dX6_isAhead_100 (by decide) rfl ?_
          refine n_goto (t := 118) C dX6_isAhead_101 (by decide) ?_
          obtain rfl := Option.some.inj hf
          exact n_zret C dX6_isAhead_118 (Or.inr rfl)
    · have hf := iq h74 hf
      refine n_iload C dX6_isAhead_77 1 rfl rfl ?_
      refine n_if_le (t := 86) C dX6_isAhead_79 (by decide) rfl (fun h79 => ?_) (fun h79 => ?_)
      · have hf := ip h79 hf
        refine n_iconst (v := (nI 0)) C dX6_isAhead_86 (by decide) rfl ?_
        refine n_goto (t := 118) C dX6_isAhead_87 (by decide) ?_
        obtain rfl := Option.some.inj hf
        exact n_zret C dX6_isAhead_118 (Or.inl rfl)
      · have hf := iq h79 hf
        refine n_iconst (v := (nI 1)) C dX6_isAhead_82 (by decide) rfl ?_
        refine n_goto (t := 118) C dX6_isAhead_83 (by decide) ?_
        obtain rfl := Option.some.inj hf
        exact n_zret C dX6_isAhead_118 (Or.inr rfl)
  · have hf := iq h57 hf
    refine n_iload_n C dX6_isAhead_60 2 rfl rfl ?_
    refine n_if_le (t := 68) C dX6_isAhead_61 (by decide) rfl (fun h61 => ?_) (fun h61 => ?_)
    · have hf := ip h61 hf
      refine n_iconst (v := (nI 0)) C dX6_isAhead_68 (by decide) rfl ?_
      refine n_goto (t := 118) C dX6_isAhead_69 (by decide) ?_
      obtain rfl := Option.some.inj hf
      exact n_zret C dX6_isAhead_118 (Or.inl rfl)
    · have hf := iq h61 hf
      refine n_iconst (v := (nI 1)) C dX6_isAhead_64 (by decide) rfl ?_
      refine n_goto (t := 118) C dX6_isAhead_65 (by decide) ?_
      obtain rfl := Option.some.inj hf
      exact n_zret C dX6_isAhead_118 (Or.inr rfl)
-- X6 placeOf 
abbrev rm6_placeOf : Room := { frames := 5, cells := 0, slots := 0, locals := 119 }
def f6_placeOf_b4 (n : Nat) (oR : Nat → Int32) (x1 : Int32) : Nat → Int32 → Int32 → Option (Int32)
  | 0, _, _ => none
  | k + 1, v2, v3 =>
    (ald 270 oR (nI 4)).bind fun x7 => (if x7 ≤ v3 then some v2 else (if v3 = x1 then (f6_placeOf_b4 n oR x1 k) (v2 + (nI 0)) (v3 + (nI 1)) else (f6_isAhead n oR v3 x1).bind fun z20 => (if z20 = (0 : Int32) then (f6_placeOf_b4 n oR x1 k) (v2 + (nI 0)) (v3 + (nI 1)) else (f6_placeOf_b4 n oR x1 k) (v2 + (nI 1)) (v3 + (nI 1)))))
def f6_placeOf (n : Nat) (oR : Nat → Int32) (x1 : Int32) : Option (Int32) :=
  f6_placeOf_b4 n oR x1 n (nI 0) (nI 0)
set_option maxHeartbeats 4000000 in
set_option maxRecDepth 100000 in
theorem t6_placeOf_b4 {l : Launch} {p : Program} {e : Env} {s : State} {m : MethodId} {args : Array Value} {below : List Frame} {meth : Method} {c : Code} {D : va_G} {A : Nat → Prop} {cyI cyO cyJ : ClassId} {aR : Nat} (C : Cx p s m args meth c D (tyG cyI cyO cyJ) A RX6 cX6_placeOf 4 (some .int) wsX6_placeOf) {z : Int32} (n : Nat) (oR : Nat → Int32) (x1 : Int32) : ∀ (k : Nat) (v2 : Int32) (v3 : Int32), f6_placeOf_b4 n oR x1 k v2 v3 = some z → Wn p l e rm6_placeOf s m args below meth c D A 4 0 0 (MQ below (Qr D (tyG cyI cyO cyJ) ([(aR, .inl (cyI, 270, .inl oR))]) A (some (.int z))) args s 0 0 A) ([(aR, .inl (cyI, 270, .inl oR))]) 4 [(0, .ref aR), (1, .int x1), (2, .int v2), (3, .int v3)] [] := by
  intro k
  induction k with
  | zero => intro  v2 v3 hf; cases hf
  | succ k ih =>
    intro  v2 v3 hf
    unfold f6_placeOf_b4 at hf
    refine n_iload_n C dX6_placeOf_4 3 rfl rfl ?_
    refine n_aload_n C dX6_placeOf_5 0 rfl rfl ?_
    refine n_iconst (v := (nI 4)) C dX6_placeOf_6 (by decide) rfl ?_
    obtain ⟨x7, h7, hf⟩ := bi hf
    obtain ⟨h7, e7⟩ := ald_some h7
    refine n_iald C dX6_placeOf_7 0 0 rfl rfl h7 rfl ?_
    rw [← e7]
    refine n_icmp_ge (t := 39) C dX6_placeOf_8 (by decide) rfl (fun h8 => ?_) (fun h8 => ?_)
    · have hf := ip h8 hf
      refine n_iload_n C dX6_placeOf_39 2 rfl rfl ?_
      obtain rfl := Option.some.inj hf
      exact n_iret C dX6_placeOf_40
    · have hf := iq h8 hf
      refine n_iload_n C dX6_placeOf_11 2 rfl rfl ?_
      refine n_iload_n C dX6_placeOf_12 3 rfl rfl ?_
      refine n_iload_n C dX6_placeOf_13 1 rfl rfl ?_
      refine n_icmp_eq (t := 30) C dX6_placeOf_14 (by decide) rfl (fun h14 => ?_) (fun h14 => ?_)
      · have hf := ip h14 hf
        refine n_iconst (v := (nI 0)) C dX6_placeOf_30 (by decide) rfl ?_
        refine n_iadd C dX6_placeOf_31 rfl ?_
        refine n_istore_n (lv' := [(2, .int (v2 + (nI 0))), (0, .ref aR), (1, .int x1), (3, .int v3)]) C dX6_placeOf_32 (by decide) rfl rfl ?_
        refine n_iinc (v := v3 + (nI 1)) (lv' := [(3, .int (v3 + (nI 1))), (2, .int (v2 + (nI 0))), (0, .ref aR), (1, .int x1)]) C dX6_placeOf_33 (j := 3) rfl rfl (by decide) rfl rfl ?_
        refine n_goto (t := 4) C dX6_placeOf_36 (by decide) ?_
        exact Wn.sub (lv' := [(0, .ref aR), (1, .int x1), (2, .int (v2 + (nI 0))), (3, .int (v3 + (nI 1)))]) [2, 3, 1, 0] rfl (ih (v2 + (nI 0)) (v3 + (nI 1)) hf)
      · have hf := iq h14 hf
        refine n_aload_n C dX6_placeOf_17 0 rfl rfl ?_
        refine n_iload_n C dX6_placeOf_18 3 rfl rfl ?_
        refine n_iload_n C dX6_placeOf_19 1 rfl rfl ?_
        obtain ⟨z20, h20, hf⟩ := bi hf
        refine n_callS (As := [.ref aR, .int v3, .int x1]) (rest := [.int v2]) (w2 := [(aR, .inl (cyI, 270, .inl oR))]) C dX6_placeOf_20 (c6_isAhead l D cyI cyO cyJ aR n oR v3 x1 z20 h20) (va_cwS 3 C.ts gX6_placeOf_X6_isAhead rfl rfl rfl (by decide +kernel) ⟨Nat.le_of_ble_eq_true rfl, Nat.le_of_ble_eq_true rfl⟩) rfl Frm.self rfl (Nat.le_of_ble_eq_true rfl) ⟨Nat.le_of_ble_eq_true rfl, Nat.le_of_ble_eq_true rfl⟩ rfl ?_
        refine n_if_eq (t := 30) C dX6_placeOf_23 (by decide) rfl (fun h23 => ?_) (fun h23 => ?_)
        · have hf := ip h23 hf
          refine n_iconst (v := (nI 0)) C dX6_placeOf_30 (by decide) rfl ?_
          refine n_iadd C dX6_placeOf_31 rfl ?_
          refine n_istore_n (lv' := [(2, .int (v2 + (nI 0))), (0, .ref aR), (1, .int x1), (3, .int v3)]) C dX6_placeOf_32 (by decide) rfl rfl ?_
          refine n_iinc (v := v3 + (nI 1)) (lv' := [(3, .int (v3 + (nI 1))), (2, .int (v2 + (nI 0))), (0, .ref aR), (1, .int x1)]) C dX6_placeOf_33 (j := 3) rfl rfl (by decide) rfl rfl ?_
          refine n_goto (t := 4) C dX6_placeOf_36 (by decide) ?_
          exact Wn.sub (lv' := [(0, .ref aR), (1, .int x1), (2, .int (v2 + (nI 0))), (3, .int (v3 + (nI 1)))]) [2, 3, 1, 0] rfl (ih (v2 + (nI 0)) (v3 + (nI 1)) hf)
        · have hf := iq h23 hf
          refine n_iconst (v := (nI 1)) C dX6_placeOf_26 (by decide) rfl ?_
          refine n_goto (t := 31) C dX6_placeOf_27 (by decide) ?_
          refine n_iadd C dX6_placeOf_31 rfl ?_
          refine n_istore_n (lv' := [(2, .int (v2 + (nI 1))), (0, .ref aR), (1, .int x1), (3, .int v3)]) C dX6_placeOf_32 (by decide) rfl rfl ?_
          refine n_iinc (v := v3 + (nI 1)) (lv' := [(3, .int (v3 + (nI 1))), (2, .int (v2 + (nI 1))), (0, .ref aR), (1, .int x1)]) C dX6_placeOf_33 (j := 3) rfl rfl (by decide) rfl rfl ?_
          refine n_goto (t := 4) C dX6_placeOf_36 (by decide) ?_
          exact Wn.sub (lv' := [(0, .ref aR), (1, .int x1), (2, .int (v2 + (nI 1))), (3, .int (v3 + (nI 1)))]) [2, 3, 1, 0] rfl (ih (v2 + (nI 1)) (v3 + (nI 1)) hf)
set_option maxHeartbeats 4000000 in
set_option maxRecDepth 100000 in
theorem c6_placeOf (l : Launch) (D : va_G) (cyI cyO cyJ : ClassId) (aR : Nat) (n : Nat) (oR : Nat → Int32) (x1 : Int32) (z : Int32) (hf : f6_placeOf n oR x1 = some z) : Ct l D (tyG cyI cyO cyJ) yX6_placeOf wsX6_placeOf rm6_placeOf 0 0 [.ref aR, .int x1] ([(aR, .inl (cyI, 270, .inl oR))]) ([(aR, .inl (cyI, 270, .inl oR))]) (some (.int z)) := by
  refine Ct.of (cc := cX6_placeOf) (nL := 4) (ret := (some .int)) (lv := [(0, .ref aR), (1, .int x1)]) (by decide +kernel) rfl rfl (Nat.le_of_ble_eq_true rfl) ?_
  intro p e s m args below meth c A C
  have C : Cx p s m args meth c D (tyG cyI cyO cyJ) A RX6 cX6_placeOf 4 (some .int) wsX6_placeOf := C
  unfold f6_placeOf at hf
  refine n_iconst (v := (nI 0)) C dX6_placeOf_0 (by decide) rfl ?_
  refine n_istore_n (lv' := [(2, .int (nI 0)), (0, .ref aR), (1, .int x1)]) C dX6_placeOf_1 (by decide) rfl rfl ?_
  refine n_iconst (v := (nI 0)) C dX6_placeOf_2 (by decide) rfl ?_
  refine n_istore_n (lv' := [(3, .int (nI 0)), (2, .int (nI 0)), (0, .ref aR), (1, .int x1)]) C dX6_placeOf_3 (by decide) rfl rfl ?_
  exact Wn.sub (lv' := [(0, .ref aR), (1, .int x1), (2, .int (nI 0)), (3, .int (nI 0))]) [2, 3, 1, 0] rfl (t6_placeOf_b4 C n oR x1 n (nI 0) (nI 0) hf)
-- X6 teamAt 
abbrev rm6_teamAt : Room := { frames := 6, cells := 0, slots := 0, locals := 142 }
def f6_teamAt_b4 (n : Nat) (oR : Nat → Int32) (x1 : Int32) : Nat → Int32 → Int32 → Option (Int32)
  | 0, _, _ => none
  | k + 1, v2, v3 =>
    (ald 270 oR (nI 4)).bind fun x7 => (if x7 ≤ v3 then some v2 else (f6_placeOf n oR v3).bind fun z13 => (if z13 = x1 then (f6_teamAt_b4 n oR x1 k) v3 (v3 + (nI 1)) else (f6_teamAt_b4 n oR x1 k) v2 (v3 + (nI 1))))
def f6_teamAt (n : Nat) (oR : Nat → Int32) (x1 : Int32) : Option (Int32) :=
  f6_teamAt_b4 n oR x1 n (-1 : Int32) (nI 0)
set_option maxHeartbeats 4000000 in
set_option maxRecDepth 100000 in
theorem t6_teamAt_b4 {l : Launch} {p : Program} {e : Env} {s : State} {m : MethodId} {args : Array Value} {below : List Frame} {meth : Method} {c : Code} {D : va_G} {A : Nat → Prop} {cyI cyO cyJ : ClassId} {aR : Nat} (C : Cx p s m args meth c D (tyG cyI cyO cyJ) A RX6 cX6_teamAt 4 (some .int) wsX6_teamAt) {z : Int32} (n : Nat) (oR : Nat → Int32) (x1 : Int32) : ∀ (k : Nat) (v2 : Int32) (v3 : Int32), f6_teamAt_b4 n oR x1 k v2 v3 = some z → Wn p l e rm6_teamAt s m args below meth c D A 4 0 0 (MQ below (Qr D (tyG cyI cyO cyJ) ([(aR, .inl (cyI, 270, .inl oR))]) A (some (.int z))) args s 0 0 A) ([(aR, .inl (cyI, 270, .inl oR))]) 4 [(0, .ref aR), (1, .int x1), (2, .int v2), (3, .int v3)] [] := by
  intro k
  induction k with
  | zero => intro  v2 v3 hf; cases hf
  | succ k ih =>
    intro  v2 v3 hf
    unfold f6_teamAt_b4 at hf
    refine n_iload_n C dX6_teamAt_4 3 rfl rfl ?_
    refine n_aload_n C dX6_teamAt_5 0 rfl rfl ?_
    refine n_iconst (v := (nI 4)) C dX6_teamAt_6 (by decide) rfl ?_
    obtain ⟨x7, h7, hf⟩ := bi hf
    obtain ⟨h7, e7⟩ := ald_some h7
    refine n_iald C dX6_teamAt_7 0 0 rfl rfl h7 rfl ?_
    rw [← e7]
    refine n_icmp_ge (t := 32) C dX6_teamAt_8 (by decide) rfl (fun h8 => ?_) (fun h8 => ?_)
    · have hf := ip h8 hf
      refine n_iload_n C dX6_teamAt_32 2 rfl rfl ?_
      obtain rfl := Option.some.inj hf
      exact n_iret C dX6_teamAt_33
    · have hf := iq h8 hf
      refine n_aload_n C dX6_teamAt_11 0 rfl rfl ?_
      refine n_iload_n C dX6_teamAt_12 3 rfl rfl ?_
      obtain ⟨z13, h13, hf⟩ := bi hf
      refine n_callS (As := [.ref aR, .int v3]) (rest := []) (w2 := [(aR, .inl (cyI, 270, .inl oR))]) C dX6_teamAt_13 (c6_placeOf l D cyI cyO cyJ aR n oR v3 z13 h13) (va_cwS 2 C.ts gX6_teamAt_X6_placeOf rfl rfl rfl (by decide +kernel) ⟨Nat.le_of_ble_eq_true rfl, Nat.le_of_ble_eq_true rfl⟩) rfl Frm.self rfl (Nat.le_of_ble_eq_true rfl) ⟨Nat.le_of_ble_eq_true rfl, Nat.le_of_ble_eq_true rfl⟩ rfl ?_
      refine n_iload_n C dX6_teamAt_16 1 rfl rfl ?_
      refine n_icmp_ne (t := 24) C dX6_teamAt_17 (by decide) rfl (fun h17 => ?_) (fun h17 => ?_)
      · have hf := iq h17 hf
        refine n_iload_n C dX6_teamAt_24 2 rfl rfl ?_
        refine n_istore_n (lv' := [(2, .int v2), (0, .ref aR), (1, .int x1), (3, .int v3)]) C dX6_teamAt_25 (by decide) rfl rfl ?_
        refine n_iinc (v := v3 + (nI 1)) (lv' := [(3, .int (v3 + (nI 1))), (2, .int v2), (0, .ref aR), (1, .int x1)]) C dX6_teamAt_26 (j := 3) rfl rfl (by decide) rfl rfl ?_
        refine n_goto (t := 4) C dX6_teamAt_29 (by decide) ?_
        exact Wn.sub (lv' := [(0, .ref aR), (1, .int x1), (2, .int v2), (3, .int (v3 + (nI 1)))]) [2, 3, 1, 0] rfl (ih v2 (v3 + (nI 1)) hf)
      · have hf := ip h17 hf
        refine n_iload_n C dX6_teamAt_20 3 rfl rfl ?_
        refine n_goto (t := 25) C dX6_teamAt_21 (by decide) ?_
        refine n_istore_n (lv' := [(2, .int v3), (0, .ref aR), (1, .int x1), (3, .int v3)]) C dX6_teamAt_25 (by decide) rfl rfl ?_
        refine n_iinc (v := v3 + (nI 1)) (lv' := [(3, .int (v3 + (nI 1))), (2, .int v3), (0, .ref aR), (1, .int x1)]) C dX6_teamAt_26 (j := 3) rfl rfl (by decide) rfl rfl ?_
        refine n_goto (t := 4) C dX6_teamAt_29 (by decide) ?_
        exact Wn.sub (lv' := [(0, .ref aR), (1, .int x1), (2, .int v3), (3, .int (v3 + (nI 1)))]) [2, 3, 1, 0] rfl (ih v3 (v3 + (nI 1)) hf)
set_option maxHeartbeats 4000000 in
set_option maxRecDepth 100000 in
theorem c6_teamAt (l : Launch) (D : va_G) (cyI cyO cyJ : ClassId) (aR : Nat) (n : Nat) (oR : Nat → Int32) (x1 : Int32) (z : Int32) (hf : f6_teamAt n oR x1 = some z) : Ct l D (tyG cyI cyO cyJ) yX6_teamAt wsX6_teamAt rm6_teamAt 0 0 [.ref aR, .int x1] ([(aR, .inl (cyI, 270, .inl oR))]) ([(aR, .inl (cyI, 270, .inl oR))]) (some (.int z)) := by
  refine Ct.of (cc := cX6_teamAt) (nL := 4) (ret := (some .int)) (lv := [(0, .ref aR), (1, .int x1)]) (by decide +kernel) rfl rfl (Nat.le_of_ble_eq_true rfl) ?_
  intro p e s m args below meth c A C
  have C : Cx p s m args meth c D (tyG cyI cyO cyJ) A RX6 cX6_teamAt 4 (some .int) wsX6_teamAt := C
  unfold f6_teamAt at hf
  refine n_iconst (v := (-1 : Int32)) C dX6_teamAt_0 (by decide) rfl ?_
  refine n_istore_n (lv' := [(2, .int (-1 : Int32)), (0, .ref aR), (1, .int x1)]) C dX6_teamAt_1 (by decide) rfl rfl ?_
  refine n_iconst (v := (nI 0)) C dX6_teamAt_2 (by decide) rfl ?_
  refine n_istore_n (lv' := [(3, .int (nI 0)), (2, .int (-1 : Int32)), (0, .ref aR), (1, .int x1)]) C dX6_teamAt_3 (by decide) rfl rfl ?_
  exact Wn.sub (lv' := [(0, .ref aR), (1, .int x1), (2, .int (-1 : Int32)), (3, .int (nI 0))]) [2, 3, 1, 0] rfl (t6_teamAt_b4 C n oR x1 n (-1 : Int32) (nI 0) hf)
-- X6 gives 
abbrev rm6_gives : Room := { frames := 0, cells := 0, slots := 0, locals := 0 }
def f6_gives (n : Nat) (oR : Nat → Int32) (x1 : Int32) (x2 : Int32) (x3 : Int32) (x4 : Int32) : Option ((Nat → Int32)) :=
  (ast 270 oR (((nI 18) + ((nI 9) * x1)) + (nI 6)) x2).bind fun oR_16 => (ast 270 oR_16 (((nI 18) + ((nI 9) * x1)) + (nI 7)) x3).bind fun oR_24 => (ast 270 oR_24 ((((nI 18) + ((nI 9) * x1)) + (nI 7)) + (nI 1)) x4).bind fun oR_35 => some oR_35
set_option maxHeartbeats 4000000 in
set_option maxRecDepth 100000 in
theorem c6_gives (l : Launch) (D : va_G) (cyI cyO cyJ : ClassId) (aR : Nat) (n : Nat) (oR : Nat → Int32) (x1 : Int32) (x2 : Int32) (x3 : Int32) (x4 : Int32) (z : (Nat → Int32)) (hf : f6_gives n oR x1 x2 x3 x4 = some z) : Ct l D (tyG cyI cyO cyJ) yX6_gives wsX6_gives rm6_gives 0 0 [.ref aR, .int x1, .int x2, .int x3, .int x4] ([(aR, .inl (cyI, 270, .inl oR))]) ([(aR, .inl (cyI, 270, .inl z))]) none := by
  refine Ct.of (cc := cX6_gives) (nL := 6) (ret := none) (lv := [(0, .ref aR), (1, .int x1), (2, .int x2), (3, .int x3), (4, .int x4)]) (by decide +kernel) rfl rfl (Nat.le_of_ble_eq_true rfl) ?_
  intro p e s m args below meth c A C
  have C : Cx p s m args meth c D (tyG cyI cyO cyJ) A RX6 cX6_gives 6 none wsX6_gives := C
  unfold f6_gives at hf
  refine n_bipush (v := (nI 18)) C dX6_gives_0 (by decide) rfl ?_
  refine n_bipush (v := (nI 9)) C dX6_gives_2 (by decide) rfl ?_
  refine n_iload_n C dX6_gives_4 1 rfl rfl ?_
  refine n_imul C dX6_gives_5 rfl ?_
  refine n_iadd C dX6_gives_6 rfl ?_
  refine n_istore (lv' := [(5, .int ((nI 18) + ((nI 9) * x1))), (0, .ref aR), (1, .int x1), (2, .int x2), (3, .int x3), (4, .int x4)]) C dX6_gives_7 (by decide) rfl rfl ?_
  refine n_aload_n C dX6_gives_9 1 rfl rfl ?_
  refine n_iload C dX6_gives_10 0 rfl rfl ?_
  refine n_bipush (v := (nI 6)) C dX6_gives_12 (by decide) rfl ?_
  refine n_iadd C dX6_gives_14 rfl ?_
  refine n_iload_n C dX6_gives_15 3 rfl rfl ?_
  obtain ⟨oR_16, h16, hf⟩ := bi hf
  obtain ⟨h16, e16⟩ := ast_some h16
  refine n_iast (w2 := [(aR, .inl (cyI, 270, .inl oR_16))]) C dX6_gives_16 0 0 rfl rfl h16 (by subst e16; rfl) rfl ?_
  refine n_aload_n C dX6_gives_17 1 rfl rfl ?_
  refine n_iload C dX6_gives_18 0 rfl rfl ?_
  refine n_bipush (v := (nI 7)) C dX6_gives_20 (by decide) rfl ?_
  refine n_iadd C dX6_gives_22 rfl ?_
  refine n_iload_n C dX6_gives_23 4 rfl rfl ?_
  obtain ⟨oR_24, h24, hf⟩ := bi hf
  obtain ⟨h24, e24⟩ := ast_some h24
  refine n_iast (w2 := [(aR, .inl (cyI, 270, .inl oR_24))]) C dX6_gives_24 0 0 rfl rfl h24 (by subst e24; rfl) rfl ?_
  refine n_aload_n C dX6_gives_25 1 rfl rfl ?_
  refine n_iload C dX6_gives_26 0 rfl rfl ?_
  refine n_bipush (v := (nI 7)) C dX6_gives_28 (by decide) rfl ?_
  refine n_iadd C dX6_gives_30 rfl ?_
  refine n_iconst (v := (nI 1)) C dX6_gives_31 (by decide) rfl ?_
  refine n_iadd C dX6_gives_32 rfl ?_
  refine n_iload C dX6_gives_33 5 rfl rfl ?_
  obtain ⟨oR_35, h35, hf⟩ := bi hf
  obtain ⟨h35, e35⟩ := ast_some h35
  refine n_iast (w2 := [(aR, .inl (cyI, 270, .inl oR_35))]) C dX6_gives_35 0 0 rfl rfl h35 (by subst e35; rfl) rfl ?_
  obtain rfl := Option.some.inj hf
  exact n_vret C dX6_gives_36
-- X6 score 
theorem iw6_score_X6 : ∀ w ∈ u_ws RX6 TX6 12, w ∈ wsX6_score := by decide +kernel
abbrev rm6_score : Room := { frames := 4, cells := 0, slots := 0, locals := 94 }
def f6_score (n : Nat) (oM : OB) (x1 : Int32) (x2 : Int32) (x3 : Int32) : Option (Int32 × (OB)) :=
  (some (gsi oM 6 (nI 0))).bind fun oM_2 => (f6_isMatch n oM_2 x1).bind fun z7 => (if z7 = (0 : Int32) then (f6_fails n oM_2 (nI 1)).bind fun z15 => some (z15.1, z15.2) else (f6_in n x2 (nI 0) (nI 99)).bind fun z23 => (if z23 = (0 : Int32) then (f6_fails n oM_2 (nI 2)).bind fun z41 => some (z41.1, z41.2) else (f6_in n x3 (nI 0) (nI 99)).bind fun z33 => (if z33 = (0 : Int32) then (f6_fails n oM_2 (nI 2)).bind fun z41 => some (z41.1, z41.2) else (f6_of n (oM_2.2 0) x1 (nI 3)).bind fun z51 => (if z51 = (-1 : Int32) then (f6_fails n oM_2 (nI 3)).bind fun z60 => some (z60.1, z60.2) else (f6_saves n oM_2).bind fun z65 => (f6_gives n (z65.2 0) x1 (nI 1) x2 x3).bind fun z76 => (f6_of n ((gsa z65 0 z76).2 0) x1 (nI 1)).bind fun z89 => (f6_points n ((gsa z65 0 z76).2 0) z89).bind fun z92 => some (z92, gsa z65 0 z76)))))
set_option maxHeartbeats 4000000 in
set_option maxRecDepth 100000 in
theorem c6_score (l : Launch) (D : va_G) (cyI cyO cyJ : ClassId) (aM : Nat → Nat) (n : Nat) (oM : OB) (x1 : Int32) (x2 : Int32) (x3 : Int32) (z : Int32 × (OB)) (hf : f6_score n oM x1 x2 x3 = some z) : Ct l D (tyG cyI cyO cyJ) yX6_score wsX6_score rm6_score 0 0 [.ref (aM 0), .int x1, .int x2, .int x3] (bX6 cyI aM oM) (bX6 cyI aM z.2) (some (.int z.1)) := by
  refine Ct.of (cc := cX6_score) (nL := 4) (ret := (some .int)) (lv := [(0, .ref (aM 0)), (1, .int x1), (2, .int x2), (3, .int x3)]) (by decide +kernel) rfl rfl (Nat.le_of_ble_eq_true rfl) ?_
  intro p e s m args below meth c A C
  have C : Cx p s m args meth c D (tyG cyI cyO cyJ) A RX6 cX6_score 4 (some .int) wsX6_score := C
  unfold f6_score at hf
  refine n_aload_n C dX6_score_0 0 rfl rfl ?_
  refine n_iconst (v := (nI 0)) C dX6_score_1 (by decide) rfl ?_
  obtain ⟨oM_2, e2, hf⟩ := bi hf
  replace e2 := Option.some.inj e2
  refine n_put (w2 := bX6 cyI aM oM_2) (N := 12) (ty := .int) C dX6_score_2 iw6_score_X6 tyX6_ok nmX6 0 rfl rfl 6 (by decide) (List.mem_of_getElem? (i := 1) rfl) rfl rfl (by decide +kernel) rfl rfl (Nat.le_of_ble_eq_true rfl) (by subst e2; rfl) rfl ?_
  refine n_aload_n C dX6_score_5 0 rfl rfl ?_
  refine n_iload_n C dX6_score_6 1 rfl rfl ?_
  obtain ⟨z7, h7, hf⟩ := bi hf
  refine n_callV (As := [.int x1]) (rest := []) (w2 := bX6 cyI aM oM_2) C dX6_score_7 (c6_isMatch l D cyI cyO cyJ aM n oM_2 x1 z7 h7) (cwV 1 C.ts gX6_score_X6_isMatch rfl rfl rfl (by decide +kernel) ⟨Nat.le_of_ble_eq_true rfl, Nat.le_of_ble_eq_true rfl⟩) rfl (q0 := 0) (ci := 6) rfl rfl Frm.self rfl (Nat.le_of_ble_eq_true rfl) ⟨Nat.le_of_ble_eq_true rfl, Nat.le_of_ble_eq_true rfl⟩ rfl ?_
  refine n_if_ne (t := 19) C dX6_score_10 (by decide) rfl (fun h10 => ?_) (fun h10 => ?_)
  · have hf := iq h10 hf
    refine n_iload_n C dX6_score_19 2 rfl rfl ?_
    refine n_iconst (v := (nI 0)) C dX6_score_20 (by decide) rfl ?_
    refine n_bipush (v := (nI 99)) C dX6_score_21 (by decide) rfl ?_
    obtain ⟨z23, h23, hf⟩ := bi hf
    refine n_callS (As := [.int x2, .int (nI 0), .int (nI 99)]) (rest := []) (w2 := bX6 cyI aM oM_2) C dX6_score_23 (c6_in l D cyI cyO cyJ  n x2 (nI 0) (nI 99) z23 h23) (va_cwS 3 C.ts gX6_score_X6_in rfl rfl rfl (by decide +kernel) ⟨Nat.le_of_ble_eq_true rfl, Nat.le_of_ble_eq_true rfl⟩) rfl Frm.none rfl (Nat.le_of_ble_eq_true rfl) ⟨Nat.le_of_ble_eq_true rfl, Nat.le_of_ble_eq_true rfl⟩ rfl ?_
    refine n_if_eq (t := 39) C dX6_score_26 (by decide) rfl (fun h26 => ?_) (fun h26 => ?_)
    · have hf := ip h26 hf
      refine n_aload_n C dX6_score_39 0 rfl rfl ?_
      refine n_iconst (v := (nI 2)) C dX6_score_40 (by decide) rfl ?_
      obtain ⟨z41, h41, hf⟩ := bi hf
      refine n_callV (As := [.int (nI 2)]) (rest := []) (w2 := bX6 cyI aM z41.2) C dX6_score_41 (c6_fails l D cyI cyO cyJ aM n oM_2 (nI 2) z41 h41) (cwV 1 C.ts gX6_score_X6_fails rfl rfl rfl (by decide +kernel) ⟨Nat.le_of_ble_eq_true rfl, Nat.le_of_ble_eq_true rfl⟩) rfl (q0 := 0) (ci := 6) rfl rfl Frm.self rfl (Nat.le_of_ble_eq_true rfl) ⟨Nat.le_of_ble_eq_true rfl, Nat.le_of_ble_eq_true rfl⟩ rfl ?_
      obtain rfl := Option.some.inj hf
      exact n_iret C dX6_score_44
    · have hf := iq h26 hf
      refine n_iload_n C dX6_score_29 3 rfl rfl ?_
      refine n_iconst (v := (nI 0)) C dX6_score_30 (by decide) rfl ?_
      refine n_bipush (v := (nI 99)) C dX6_score_31 (by decide) rfl ?_
      obtain ⟨z33, h33, hf⟩ := bi hf
      refine n_callS (As := [.int x3, .int (nI 0), .int (nI 99)]) (rest := []) (w2 := bX6 cyI aM oM_2) C dX6_score_33 (c6_in l D cyI cyO cyJ  n x3 (nI 0) (nI 99) z33 h33) (va_cwS 3 C.ts gX6_score_X6_in rfl rfl rfl (by decide +kernel) ⟨Nat.le_of_ble_eq_true rfl, Nat.le_of_ble_eq_true rfl⟩) rfl Frm.none rfl (Nat.le_of_ble_eq_true rfl) ⟨Nat.le_of_ble_eq_true rfl, Nat.le_of_ble_eq_true rfl⟩ rfl ?_
      refine n_if_ne (t := 45) C dX6_score_36 (by decide) rfl (fun h36 => ?_) (fun h36 => ?_)
      · have hf := iq h36 hf
        refine n_aload_n C dX6_score_45 0 rfl rfl ?_
        refine n_get (N := 12) C dX6_score_46 iw6_score_X6 0 rfl rfl 0 (by decide) (List.mem_of_getElem? (i := 2) rfl) rfl rfl rfl ?_
        refine n_iload_n C dX6_score_49 1 rfl rfl ?_
        refine n_iconst (v := (nI 3)) C dX6_score_50 (by decide) rfl ?_
        obtain ⟨z51, h51, hf⟩ := bi hf
        refine n_callS (As := [.ref (aM 1), .int x1, .int (nI 3)]) (rest := []) (w2 := bX6 cyI aM oM_2) C dX6_score_51 (c6_of l D cyI cyO cyJ (aM 1) n (oM_2.2 0) x1 (nI 3) z51 h51) (va_cwS 3 C.ts gX6_score_X6_of rfl rfl rfl (by decide +kernel) ⟨Nat.le_of_ble_eq_true rfl, Nat.le_of_ble_eq_true rfl⟩) rfl (Frm.skipc (Frm.takec Frm.none)) rfl (Nat.le_of_ble_eq_true rfl) ⟨Nat.le_of_ble_eq_true rfl, Nat.le_of_ble_eq_true rfl⟩ rfl ?_
        refine n_iconst (v := (-1 : Int32)) C dX6_score_54 (by decide) rfl ?_
        refine n_icmp_ne (t := 64) C dX6_score_55 (by decide) rfl (fun h55 => ?_) (fun h55 => ?_)
        · have hf := iq h55 hf
          refine n_aload_n C dX6_score_64 0 rfl rfl ?_
          obtain ⟨z65, h65, hf⟩ := bi hf
          refine n_callV (As := []) (rest := []) (w2 := bX6 cyI aM z65) C dX6_score_65 (c6_saves l D cyI cyO cyJ aM n oM_2 z65 h65) (cwV 0 C.ts gX6_score_X6_saves rfl rfl rfl (by decide +kernel) ⟨Nat.le_of_ble_eq_true rfl, Nat.le_of_ble_eq_true rfl⟩) rfl (q0 := 0) (ci := 6) rfl rfl Frm.self rfl (Nat.le_of_ble_eq_true rfl) ⟨Nat.le_of_ble_eq_true rfl, Nat.le_of_ble_eq_true rfl⟩ rfl ?_
          refine n_aload_n C dX6_score_68 0 rfl rfl ?_
          refine n_get (N := 12) C dX6_score_69 iw6_score_X6 0 rfl rfl 0 (by decide) (List.mem_of_getElem? (i := 2) rfl) rfl rfl rfl ?_
          refine n_iload_n C dX6_score_72 1 rfl rfl ?_
          refine n_iconst (v := (nI 1)) C dX6_score_73 (by decide) rfl ?_
          refine n_iload_n C dX6_score_74 2 rfl rfl ?_
          refine n_iload_n C dX6_score_75 3 rfl rfl ?_
          obtain ⟨z76, h76, hf⟩ := bi hf
          refine n_callS (As := [.ref (aM 1), .int x1, .int (nI 1), .int x2, .int x3]) (rest := []) (w2 := bX6 cyI aM (gsa z65 0 z76)) C dX6_score_76 (c6_gives l D cyI cyO cyJ (aM 1) n (z65.2 0) x1 (nI 1) x2 x3 z76 h76) (va_cwS 5 C.ts gX6_score_X6_gives rfl rfl rfl (by decide +kernel) ⟨Nat.le_of_ble_eq_true rfl, Nat.le_of_ble_eq_true rfl⟩) rfl (Frm.skipc (Frm.takec Frm.none)) rfl (Nat.le_of_ble_eq_true rfl) ⟨Nat.le_of_ble_eq_true rfl, Nat.le_of_ble_eq_true rfl⟩ rfl ?_
          refine n_aload_n C dX6_score_79 0 rfl rfl ?_
          refine n_get (N := 12) C dX6_score_80 iw6_score_X6 0 rfl rfl 0 (by decide) (List.mem_of_getElem? (i := 2) rfl) rfl rfl rfl ?_
          refine n_aload_n C dX6_score_83 0 rfl rfl ?_
          refine n_get (N := 12) C dX6_score_84 iw6_score_X6 0 rfl rfl 0 (by decide) (List.mem_of_getElem? (i := 2) rfl) rfl rfl rfl ?_
          refine n_iload_n C dX6_score_87 1 rfl rfl ?_
          refine n_iconst (v := (nI 1)) C dX6_score_88 (by decide) rfl ?_
          obtain ⟨z89, h89, hf⟩ := bi hf
          refine n_callS (As := [.ref (aM 1), .int x1, .int (nI 1)]) (rest := [.ref (aM 1)]) (w2 := bX6 cyI aM (gsa z65 0 z76)) C dX6_score_89 (c6_of l D cyI cyO cyJ (aM 1) n ((gsa z65 0 z76).2 0) x1 (nI 1) z89 h89) (va_cwS 3 C.ts gX6_score_X6_of rfl rfl rfl (by decide +kernel) ⟨Nat.le_of_ble_eq_true rfl, Nat.le_of_ble_eq_true rfl⟩) rfl (Frm.skipc (Frm.takec Frm.none)) rfl (Nat.le_of_ble_eq_true rfl) ⟨Nat.le_of_ble_eq_true rfl, Nat.le_of_ble_eq_true rfl⟩ rfl ?_
          obtain ⟨z92, h92, hf⟩ := bi hf
          refine n_callS (As := [.ref (aM 1), .int z89]) (rest := []) (w2 := bX6 cyI aM (gsa z65 0 z76)) C dX6_score_92 (c6_points l D cyI cyO cyJ (aM 1) n ((gsa z65 0 z76).2 0) z89 z92 h92) (va_cwS 2 C.ts gX6_score_X6_points rfl rfl rfl (by decide +kernel) ⟨Nat.le_of_ble_eq_true rfl, Nat.le_of_ble_eq_true rfl⟩) rfl (Frm.skipc (Frm.takec Frm.none)) rfl (Nat.le_of_ble_eq_true rfl) ⟨Nat.le_of_ble_eq_true rfl, Nat.le_of_ble_eq_true rfl⟩ rfl ?_
          obtain rfl := Option.some.inj hf
          exact n_iret C dX6_score_95
        · have hf := ip h55 hf
          refine n_aload_n C dX6_score_58 0 rfl rfl ?_
          refine n_iconst (v := (nI 3)) C dX6_score_59 (by decide) rfl ?_
          obtain ⟨z60, h60, hf⟩ := bi hf
          refine n_callV (As := [.int (nI 3)]) (rest := []) (w2 := bX6 cyI aM z60.2) C dX6_score_60 (c6_fails l D cyI cyO cyJ aM n oM_2 (nI 3) z60 h60) (cwV 1 C.ts gX6_score_X6_fails rfl rfl rfl (by decide +kernel) ⟨Nat.le_of_ble_eq_true rfl, Nat.le_of_ble_eq_true rfl⟩) rfl (q0 := 0) (ci := 6) rfl rfl Frm.self rfl (Nat.le_of_ble_eq_true rfl) ⟨Nat.le_of_ble_eq_true rfl, Nat.le_of_ble_eq_true rfl⟩ rfl ?_
          obtain rfl := Option.some.inj hf
          exact n_iret C dX6_score_63
      · have hf := ip h36 hf
        refine n_aload_n C dX6_score_39 0 rfl rfl ?_
        refine n_iconst (v := (nI 2)) C dX6_score_40 (by decide) rfl ?_
        obtain ⟨z41, h41, hf⟩ := bi hf
        refine n_callV (As := [.int (nI 2)]) (rest := []) (w2 := bX6 cyI aM z41.2) C dX6_score_41 (c6_fails l D cyI cyO cyJ aM n oM_2 (nI 2) z41 h41) (cwV 1 C.ts gX6_score_X6_fails rfl rfl rfl (by decide +kernel) ⟨Nat.le_of_ble_eq_true rfl, Nat.le_of_ble_eq_true rfl⟩) rfl (q0 := 0) (ci := 6) rfl rfl Frm.self rfl (Nat.le_of_ble_eq_true rfl) ⟨Nat.le_of_ble_eq_true rfl, Nat.le_of_ble_eq_true rfl⟩ rfl ?_
        obtain rfl := Option.some.inj hf
        exact n_iret C dX6_score_44
  · have hf := ip h10 hf
    refine n_aload_n C dX6_score_13 0 rfl rfl ?_
    refine n_iconst (v := (nI 1)) C dX6_score_14 (by decide) rfl ?_
    obtain ⟨z15, h15, hf⟩ := bi hf
    refine n_callV (As := [.int (nI 1)]) (rest := []) (w2 := bX6 cyI aM z15.2) C dX6_score_15 (c6_fails l D cyI cyO cyJ aM n oM_2 (nI 1) z15 h15) (cwV 1 C.ts gX6_score_X6_fails rfl rfl rfl (by decide +kernel) ⟨Nat.le_of_ble_eq_true rfl, Nat.le_of_ble_eq_true rfl⟩) rfl (q0 := 0) (ci := 6) rfl rfl Frm.self rfl (Nat.le_of_ble_eq_true rfl) ⟨Nat.le_of_ble_eq_true rfl, Nat.le_of_ble_eq_true rfl⟩ rfl ?_
    obtain rfl := Option.some.inj hf
    exact n_iret C dX6_score_18
-- X6 walkover 
theorem iw6_walkover_X6 : ∀ w ∈ u_ws RX6 TX6 12, w ∈ wsX6_walkover := by decide +kernel
abbrev rm6_walkover : Room := { frames := 4, cells := 0, slots := 0, locals := 94 }
def f6_walkover_b56 (n : Nat) (x1 : Int32) (x2 : Int32) (s1 : Int32) (s2 : Int32) (oM : OB) : Option (Int32 × (OB)) :=
  (f6_gives n (oM.2 0) s1 s2 (nI 0) (nI 0)).bind fun z58 => (if x2 = (0 : Int32) then (f6_of n ((gsa oM 0 z58).2 0) x1 (nI 1)).bind fun z79 => (f6_points n ((gsa oM 0 z58).2 0) z79).bind fun z82 => some (z82, gsa oM 0 z58) else (f6_of n ((gsa oM 0 z58).2 0) x1 (nI 2)).bind fun z79 => (f6_points n ((gsa oM 0 z58).2 0) z79).bind fun z82 => some (z82, gsa oM 0 z58))
def f6_walkover (n : Nat) (oM : OB) (x1 : Int32) (x2 : Int32) : Option (Int32 × (OB)) :=
  (some (gsi oM 6 (nI 0))).bind fun oM_2 => (f6_isMatch n oM_2 x1).bind fun z7 => (if z7 = (0 : Int32) then (f6_fails n oM_2 (nI 1)).bind fun z15 => some (z15.1, z15.2) else (f6_of n (oM_2.2 0) x1 (nI 3)).bind fun z25 => (if z25 = (-1 : Int32) then (f6_fails n oM_2 (nI 2)).bind fun z34 => some (z34.1, z34.2) else (f6_saves n oM_2).bind fun z39 => (if x2 = (0 : Int32) then f6_walkover_b56 n x1 x2 x1 (nI 2) z39 else f6_walkover_b56 n x1 x2 x1 (nI 3) z39)))
set_option maxHeartbeats 4000000 in
set_option maxRecDepth 100000 in
theorem t6_walkover_b56 {l : Launch} {p : Program} {e : Env} {s : State} {m : MethodId} {args : Array Value} {below : List Frame} {meth : Method} {c : Code} {D : va_G} {A : Nat → Prop} {cyI cyO cyJ : ClassId} {aM : Nat → Nat} (C : Cx p s m args meth c D (tyG cyI cyO cyJ) A RX6 cX6_walkover 3 (some .int) wsX6_walkover) {z : Int32 × (OB)} (n : Nat) (x1 : Int32) (x2 : Int32) (s1 : Int32) (s2 : Int32) (oM : OB) (hf : f6_walkover_b56 n x1 x2 s1 s2 oM = some z) : Wn p l e rm6_walkover s m args below meth c D A 3 0 0 (MQ below (Qr D (tyG cyI cyO cyJ) (bX6 cyI aM z.2) A (some (.int z.1))) args s 0 0 A) (bX6 cyI aM oM) 56 [(0, .ref (aM 0)), (1, .int x1), (2, .int x2)] [.int s2, .int s1, .ref (aM 1)] := by
  unfold f6_walkover_b56 at hf
  refine n_iconst (v := (nI 0)) C dX6_walkover_56 (by decide) rfl ?_
  refine n_iconst (v := (nI 0)) C dX6_walkover_57 (by decide) rfl ?_
  obtain ⟨z58, h58, hf⟩ := bi hf
  refine n_callS (As := [.ref (aM 1), .int s1, .int s2, .int (nI 0), .int (nI 0)]) (rest := []) (w2 := bX6 cyI aM (gsa oM 0 z58)) C dX6_walkover_58 (c6_gives l D cyI cyO cyJ (aM 1) n (oM.2 0) s1 s2 (nI 0) (nI 0) z58 h58) (va_cwS 5 C.ts gX6_walkover_X6_gives rfl rfl rfl (by decide +kernel) ⟨Nat.le_of_ble_eq_true rfl, Nat.le_of_ble_eq_true rfl⟩) rfl (Frm.skipc (Frm.takec Frm.none)) rfl (Nat.le_of_ble_eq_true rfl) ⟨Nat.le_of_ble_eq_true rfl, Nat.le_of_ble_eq_true rfl⟩ rfl ?_
  refine n_aload_n C dX6_walkover_61 0 rfl rfl ?_
  refine n_get (N := 12) C dX6_walkover_62 iw6_walkover_X6 0 rfl rfl 0 (by decide) (List.mem_of_getElem? (i := 2) rfl) rfl rfl rfl ?_
  refine n_aload_n C dX6_walkover_65 0 rfl rfl ?_
  refine n_get (N := 12) C dX6_walkover_66 iw6_walkover_X6 0 rfl rfl 0 (by decide) (List.mem_of_getElem? (i := 2) rfl) rfl rfl rfl ?_
  refine n_iload_n C dX6_walkover_69 1 rfl rfl ?_
  refine n_iload_n C dX6_walkover_70 2 rfl rfl ?_
  refine n_if_eq (t := 78) C dX6_walkover_71 (by decide) rfl (fun h71 => ?_) (fun h71 => ?_)
  · have hf := ip h71 hf
    refine n_iconst (v := (nI 1)) C dX6_walkover_78 (by decide) rfl ?_
    obtain ⟨z79, h79, hf⟩ := bi hf
    refine n_callS (As := [.ref (aM 1), .int x1, .int (nI 1)]) (rest := [.ref (aM 1)]) (w2 := bX6 cyI aM (gsa oM 0 z58)) C dX6_walkover_79 (c6_of l D cyI cyO cyJ (aM 1) n ((gsa oM 0 z58).2 0) x1 (nI 1) z79 h79) (va_cwS 3 C.ts gX6_walkover_X6_of rfl rfl rfl (by decide +kernel) ⟨Nat.le_of_ble_eq_true rfl, Nat.le_of_ble_eq_true rfl⟩) rfl (Frm.skipc (Frm.takec Frm.none)) rfl (Nat.le_of_ble_eq_true rfl) ⟨Nat.le_of_ble_eq_true rfl, Nat.le_of_ble_eq_true rfl⟩ rfl ?_
    obtain ⟨z82, h82, hf⟩ := bi hf
    refine n_callS (As := [.ref (aM 1), .int z79]) (rest := []) (w2 := bX6 cyI aM (gsa oM 0 z58)) C dX6_walkover_82 (c6_points l D cyI cyO cyJ (aM 1) n ((gsa oM 0 z58).2 0) z79 z82 h82) (va_cwS 2 C.ts gX6_walkover_X6_points rfl rfl rfl (by decide +kernel) ⟨Nat.le_of_ble_eq_true rfl, Nat.le_of_ble_eq_true rfl⟩) rfl (Frm.skipc (Frm.takec Frm.none)) rfl (Nat.le_of_ble_eq_true rfl) ⟨Nat.le_of_ble_eq_true rfl, Nat.le_of_ble_eq_true rfl⟩ rfl ?_
    obtain rfl := Option.some.inj hf
    exact n_iret C dX6_walkover_85
  · have hf := iq h71 hf
    refine n_iconst (v := (nI 2)) C dX6_walkover_74 (by decide) rfl ?_
    refine n_goto (t := 79) C dX6_walkover_75 (by decide) ?_
    obtain ⟨z79, h79, hf⟩ := bi hf
    refine n_callS (As := [.ref (aM 1), .int x1, .int (nI 2)]) (rest := [.ref (aM 1)]) (w2 := bX6 cyI aM (gsa oM 0 z58)) C dX6_walkover_79 (c6_of l D cyI cyO cyJ (aM 1) n ((gsa oM 0 z58).2 0) x1 (nI 2) z79 h79) (va_cwS 3 C.ts gX6_walkover_X6_of rfl rfl rfl (by decide +kernel) ⟨Nat.le_of_ble_eq_true rfl, Nat.le_of_ble_eq_true rfl⟩) rfl (Frm.skipc (Frm.takec Frm.none)) rfl (Nat.le_of_ble_eq_true rfl) ⟨Nat.le_of_ble_eq_true rfl, Nat.le_of_ble_eq_true rfl⟩ rfl ?_
    obtain ⟨z82, h82, hf⟩ := bi hf
    refine n_callS (As := [.ref (aM 1), .int z79]) (rest := []) (w2 := bX6 cyI aM (gsa oM 0 z58)) C dX6_walkover_82 (c6_points l D cyI cyO cyJ (aM 1) n ((gsa oM 0 z58).2 0) z79 z82 h82) (va_cwS 2 C.ts gX6_walkover_X6_points rfl rfl rfl (by decide +kernel) ⟨Nat.le_of_ble_eq_true rfl, Nat.le_of_ble_eq_true rfl⟩) rfl (Frm.skipc (Frm.takec Frm.none)) rfl (Nat.le_of_ble_eq_true rfl) ⟨Nat.le_of_ble_eq_true rfl, Nat.le_of_ble_eq_true rfl⟩ rfl ?_
    obtain rfl := Option.some.inj hf
    exact n_iret C dX6_walkover_85
set_option maxHeartbeats 4000000 in
set_option maxRecDepth 100000 in
theorem c6_walkover (l : Launch) (D : va_G) (cyI cyO cyJ : ClassId) (aM : Nat → Nat) (n : Nat) (oM : OB) (x1 : Int32) (x2 : Int32) (z : Int32 × (OB)) (hf : f6_walkover n oM x1 x2 = some z) : Ct l D (tyG cyI cyO cyJ) yX6_walkover wsX6_walkover rm6_walkover 0 0 [.ref (aM 0), .int x1, .int x2] (bX6 cyI aM oM) (bX6 cyI aM z.2) (some (.int z.1)) := by
  refine Ct.of (cc := cX6_walkover) (nL := 3) (ret := (some .int)) (lv := [(0, .ref (aM 0)), (1, .int x1), (2, .int x2)]) (by decide +kernel) rfl rfl (Nat.le_of_ble_eq_true rfl) ?_
  intro p e s m args below meth c A C
  have C : Cx p s m args meth c D (tyG cyI cyO cyJ) A RX6 cX6_walkover 3 (some .int) wsX6_walkover := C
  unfold f6_walkover at hf
  refine n_aload_n C dX6_walkover_0 0 rfl rfl ?_
  refine n_iconst (v := (nI 0)) C dX6_walkover_1 (by decide) rfl ?_
  obtain ⟨oM_2, e2, hf⟩ := bi hf
  replace e2 := Option.some.inj e2
  refine n_put (w2 := bX6 cyI aM oM_2) (N := 12) (ty := .int) C dX6_walkover_2 iw6_walkover_X6 tyX6_ok nmX6 0 rfl rfl 6 (by decide) (List.mem_of_getElem? (i := 1) rfl) rfl rfl (by decide +kernel) rfl rfl (Nat.le_of_ble_eq_true rfl) (by subst e2; rfl) rfl ?_
  refine n_aload_n C dX6_walkover_5 0 rfl rfl ?_
  refine n_iload_n C dX6_walkover_6 1 rfl rfl ?_
  obtain ⟨z7, h7, hf⟩ := bi hf
  refine n_callV (As := [.int x1]) (rest := []) (w2 := bX6 cyI aM oM_2) C dX6_walkover_7 (c6_isMatch l D cyI cyO cyJ aM n oM_2 x1 z7 h7) (cwV 1 C.ts gX6_walkover_X6_isMatch rfl rfl rfl (by decide +kernel) ⟨Nat.le_of_ble_eq_true rfl, Nat.le_of_ble_eq_true rfl⟩) rfl (q0 := 0) (ci := 6) rfl rfl Frm.self rfl (Nat.le_of_ble_eq_true rfl) ⟨Nat.le_of_ble_eq_true rfl, Nat.le_of_ble_eq_true rfl⟩ rfl ?_
  refine n_if_ne (t := 19) C dX6_walkover_10 (by decide) rfl (fun h10 => ?_) (fun h10 => ?_)
  · have hf := iq h10 hf
    refine n_aload_n C dX6_walkover_19 0 rfl rfl ?_
    refine n_get (N := 12) C dX6_walkover_20 iw6_walkover_X6 0 rfl rfl 0 (by decide) (List.mem_of_getElem? (i := 2) rfl) rfl rfl rfl ?_
    refine n_iload_n C dX6_walkover_23 1 rfl rfl ?_
    refine n_iconst (v := (nI 3)) C dX6_walkover_24 (by decide) rfl ?_
    obtain ⟨z25, h25, hf⟩ := bi hf
    refine n_callS (As := [.ref (aM 1), .int x1, .int (nI 3)]) (rest := []) (w2 := bX6 cyI aM oM_2) C dX6_walkover_25 (c6_of l D cyI cyO cyJ (aM 1) n (oM_2.2 0) x1 (nI 3) z25 h25) (va_cwS 3 C.ts gX6_walkover_X6_of rfl rfl rfl (by decide +kernel) ⟨Nat.le_of_ble_eq_true rfl, Nat.le_of_ble_eq_true rfl⟩) rfl (Frm.skipc (Frm.takec Frm.none)) rfl (Nat.le_of_ble_eq_true rfl) ⟨Nat.le_of_ble_eq_true rfl, Nat.le_of_ble_eq_true rfl⟩ rfl ?_
    refine n_iconst (v := (-1 : Int32)) C dX6_walkover_28 (by decide) rfl ?_
    refine n_icmp_ne (t := 38) C dX6_walkover_29 (by decide) rfl (fun h29 => ?_) (fun h29 => ?_)
    · have hf := iq h29 hf
      refine n_aload_n C dX6_walkover_38 0 rfl rfl ?_
      obtain ⟨z39, h39, hf⟩ := bi hf
      refine n_callV (As := []) (rest := []) (w2 := bX6 cyI aM z39) C dX6_walkover_39 (c6_saves l D cyI cyO cyJ aM n oM_2 z39 h39) (cwV 0 C.ts gX6_walkover_X6_saves rfl rfl rfl (by decide +kernel) ⟨Nat.le_of_ble_eq_true rfl, Nat.le_of_ble_eq_true rfl⟩) rfl (q0 := 0) (ci := 6) rfl rfl Frm.self rfl (Nat.le_of_ble_eq_true rfl) ⟨Nat.le_of_ble_eq_true rfl, Nat.le_of_ble_eq_true rfl⟩ rfl ?_
      refine n_aload_n C dX6_walkover_42 0 rfl rfl ?_
      refine n_get (N := 12) C dX6_walkover_43 iw6_walkover_X6 0 rfl rfl 0 (by decide) (List.mem_of_getElem? (i := 2) rfl) rfl rfl rfl ?_
      refine n_iload_n C dX6_walkover_46 1 rfl rfl ?_
      refine n_iload_n C dX6_walkover_47 2 rfl rfl ?_
      refine n_if_eq (t := 55) C dX6_walkover_48 (by decide) rfl (fun h48 => ?_) (fun h48 => ?_)
      · have hf := ip h48 hf
        refine n_iconst (v := (nI 2)) C dX6_walkover_55 (by decide) rfl ?_
        exact Wn.sub (lv' := [(0, .ref (aM 0)), (1, .int x1), (2, .int x2)]) [0, 1, 2] rfl (t6_walkover_b56 C n x1 x2 x1 (nI 2) z39 hf)
      · have hf := iq h48 hf
        refine n_iconst (v := (nI 3)) C dX6_walkover_51 (by decide) rfl ?_
        refine n_goto (t := 56) C dX6_walkover_52 (by decide) ?_
        exact Wn.sub (lv' := [(0, .ref (aM 0)), (1, .int x1), (2, .int x2)]) [0, 1, 2] rfl (t6_walkover_b56 C n x1 x2 x1 (nI 3) z39 hf)
    · have hf := ip h29 hf
      refine n_aload_n C dX6_walkover_32 0 rfl rfl ?_
      refine n_iconst (v := (nI 2)) C dX6_walkover_33 (by decide) rfl ?_
      obtain ⟨z34, h34, hf⟩ := bi hf
      refine n_callV (As := [.int (nI 2)]) (rest := []) (w2 := bX6 cyI aM z34.2) C dX6_walkover_34 (c6_fails l D cyI cyO cyJ aM n oM_2 (nI 2) z34 h34) (cwV 1 C.ts gX6_walkover_X6_fails rfl rfl rfl (by decide +kernel) ⟨Nat.le_of_ble_eq_true rfl, Nat.le_of_ble_eq_true rfl⟩) rfl (q0 := 0) (ci := 6) rfl rfl Frm.self rfl (Nat.le_of_ble_eq_true rfl) ⟨Nat.le_of_ble_eq_true rfl, Nat.le_of_ble_eq_true rfl⟩ rfl ?_
      obtain rfl := Option.some.inj hf
      exact n_iret C dX6_walkover_37
  · have hf := ip h10 hf
    refine n_aload_n C dX6_walkover_13 0 rfl rfl ?_
    refine n_iconst (v := (nI 1)) C dX6_walkover_14 (by decide) rfl ?_
    obtain ⟨z15, h15, hf⟩ := bi hf
    refine n_callV (As := [.int (nI 1)]) (rest := []) (w2 := bX6 cyI aM z15.2) C dX6_walkover_15 (c6_fails l D cyI cyO cyJ aM n oM_2 (nI 1) z15 h15) (cwV 1 C.ts gX6_walkover_X6_fails rfl rfl rfl (by decide +kernel) ⟨Nat.le_of_ble_eq_true rfl, Nat.le_of_ble_eq_true rfl⟩) rfl (q0 := 0) (ci := 6) rfl rfl Frm.self rfl (Nat.le_of_ble_eq_true rfl) ⟨Nat.le_of_ble_eq_true rfl, Nat.le_of_ble_eq_true rfl⟩ rfl ?_
    obtain rfl := Option.some.inj hf
    exact n_iret C dX6_walkover_18
-- X6 annul 
theorem iw6_annul_X6 : ∀ w ∈ u_ws RX6 TX6 12, w ∈ wsX6_annul := by decide +kernel
abbrev rm6_annul : Room := { frames := 2, cells := 0, slots := 0, locals := 45 }
def f6_annul (n : Nat) (oM : OB) (x1 : Int32) : Option (Int32 × (OB)) :=
  (some (gsi oM 6 (nI 0))).bind fun oM_2 => (f6_isMatch n oM_2 x1).bind fun z7 => (if z7 = (0 : Int32) then (f6_fails n oM_2 (nI 1)).bind fun z15 => some (z15.1, z15.2) else (f6_saves n oM_2).bind fun z20 => (f6_of n (z20.2 0) x1 (nI 6)).bind fun z30 => (f6_gives n (z20.2 0) x1 (nI 0) (nI 0) (nI 0)).bind fun z42 => (if z30 = (0 : Int32) then some ((nI 0), gsa z20 0 z42) else some ((nI 1), gsa z20 0 z42)))
set_option maxHeartbeats 4000000 in
set_option maxRecDepth 100000 in
theorem c6_annul (l : Launch) (D : va_G) (cyI cyO cyJ : ClassId) (aM : Nat → Nat) (n : Nat) (oM : OB) (x1 : Int32) (z : Int32 × (OB)) (hf : f6_annul n oM x1 = some z) : Ct l D (tyG cyI cyO cyJ) yX6_annul wsX6_annul rm6_annul 0 0 [.ref (aM 0), .int x1] (bX6 cyI aM oM) (bX6 cyI aM z.2) (some (.int z.1)) := by
  refine Ct.of (cc := cX6_annul) (nL := 3) (ret := (some .int)) (lv := [(0, .ref (aM 0)), (1, .int x1)]) (by decide +kernel) rfl rfl (Nat.le_of_ble_eq_true rfl) ?_
  intro p e s m args below meth c A C
  have C : Cx p s m args meth c D (tyG cyI cyO cyJ) A RX6 cX6_annul 3 (some .int) wsX6_annul := C
  unfold f6_annul at hf
  refine n_aload_n C dX6_annul_0 0 rfl rfl ?_
  refine n_iconst (v := (nI 0)) C dX6_annul_1 (by decide) rfl ?_
  obtain ⟨oM_2, e2, hf⟩ := bi hf
  replace e2 := Option.some.inj e2
  refine n_put (w2 := bX6 cyI aM oM_2) (N := 12) (ty := .int) C dX6_annul_2 iw6_annul_X6 tyX6_ok nmX6 0 rfl rfl 6 (by decide) (List.mem_of_getElem? (i := 1) rfl) rfl rfl (by decide +kernel) rfl rfl (Nat.le_of_ble_eq_true rfl) (by subst e2; rfl) rfl ?_
  refine n_aload_n C dX6_annul_5 0 rfl rfl ?_
  refine n_iload_n C dX6_annul_6 1 rfl rfl ?_
  obtain ⟨z7, h7, hf⟩ := bi hf
  refine n_callV (As := [.int x1]) (rest := []) (w2 := bX6 cyI aM oM_2) C dX6_annul_7 (c6_isMatch l D cyI cyO cyJ aM n oM_2 x1 z7 h7) (cwV 1 C.ts gX6_annul_X6_isMatch rfl rfl rfl (by decide +kernel) ⟨Nat.le_of_ble_eq_true rfl, Nat.le_of_ble_eq_true rfl⟩) rfl (q0 := 0) (ci := 6) rfl rfl Frm.self rfl (Nat.le_of_ble_eq_true rfl) ⟨Nat.le_of_ble_eq_true rfl, Nat.le_of_ble_eq_true rfl⟩ rfl ?_
  refine n_if_ne (t := 19) C dX6_annul_10 (by decide) rfl (fun h10 => ?_) (fun h10 => ?_)
  · have hf := iq h10 hf
    refine n_aload_n C dX6_annul_19 0 rfl rfl ?_
    obtain ⟨z20, h20, hf⟩ := bi hf
    refine n_callV (As := []) (rest := []) (w2 := bX6 cyI aM z20) C dX6_annul_20 (c6_saves l D cyI cyO cyJ aM n oM_2 z20 h20) (cwV 0 C.ts gX6_annul_X6_saves rfl rfl rfl (by decide +kernel) ⟨Nat.le_of_ble_eq_true rfl, Nat.le_of_ble_eq_true rfl⟩) rfl (q0 := 0) (ci := 6) rfl rfl Frm.self rfl (Nat.le_of_ble_eq_true rfl) ⟨Nat.le_of_ble_eq_true rfl, Nat.le_of_ble_eq_true rfl⟩ rfl ?_
    refine n_aload_n C dX6_annul_23 0 rfl rfl ?_
    refine n_get (N := 12) C dX6_annul_24 iw6_annul_X6 0 rfl rfl 0 (by decide) (List.mem_of_getElem? (i := 2) rfl) rfl rfl rfl ?_
    refine n_iload_n C dX6_annul_27 1 rfl rfl ?_
    refine n_bipush (v := (nI 6)) C dX6_annul_28 (by decide) rfl ?_
    obtain ⟨z30, h30, hf⟩ := bi hf
    refine n_callS (As := [.ref (aM 1), .int x1, .int (nI 6)]) (rest := []) (w2 := bX6 cyI aM z20) C dX6_annul_30 (c6_of l D cyI cyO cyJ (aM 1) n (z20.2 0) x1 (nI 6) z30 h30) (va_cwS 3 C.ts gX6_annul_X6_of rfl rfl rfl (by decide +kernel) ⟨Nat.le_of_ble_eq_true rfl, Nat.le_of_ble_eq_true rfl⟩) rfl (Frm.skipc (Frm.takec Frm.none)) rfl (Nat.le_of_ble_eq_true rfl) ⟨Nat.le_of_ble_eq_true rfl, Nat.le_of_ble_eq_true rfl⟩ rfl ?_
    refine n_istore_n (lv' := [(2, .int z30), (0, .ref (aM 0)), (1, .int x1)]) C dX6_annul_33 (by decide) rfl rfl ?_
    refine n_aload_n C dX6_annul_34 1 rfl rfl ?_
    refine n_get (N := 12) C dX6_annul_35 iw6_annul_X6 0 rfl rfl 0 (by decide) (List.mem_of_getElem? (i := 2) rfl) rfl rfl rfl ?_
    refine n_iload_n C dX6_annul_38 2 rfl rfl ?_
    refine n_iconst (v := (nI 0)) C dX6_annul_39 (by decide) rfl ?_
    refine n_iconst (v := (nI 0)) C dX6_annul_40 (by decide) rfl ?_
    refine n_iconst (v := (nI 0)) C dX6_annul_41 (by decide) rfl ?_
    obtain ⟨z42, h42, hf⟩ := bi hf
    refine n_callS (As := [.ref (aM 1), .int x1, .int (nI 0), .int (nI 0), .int (nI 0)]) (rest := []) (w2 := bX6 cyI aM (gsa z20 0 z42)) C dX6_annul_42 (c6_gives l D cyI cyO cyJ (aM 1) n (z20.2 0) x1 (nI 0) (nI 0) (nI 0) z42 h42) (va_cwS 5 C.ts gX6_annul_X6_gives rfl rfl rfl (by decide +kernel) ⟨Nat.le_of_ble_eq_true rfl, Nat.le_of_ble_eq_true rfl⟩) rfl (Frm.skipc (Frm.takec Frm.none)) rfl (Nat.le_of_ble_eq_true rfl) ⟨Nat.le_of_ble_eq_true rfl, Nat.le_of_ble_eq_true rfl⟩ rfl ?_
    refine n_iload_n C dX6_annul_45 0 rfl rfl ?_
    refine n_if_ne (t := 53) C dX6_annul_46 (by decide) rfl (fun h46 => ?_) (fun h46 => ?_)
    · have hf := iq h46 hf
      refine n_iconst (v := (nI 1)) C dX6_annul_53 (by decide) rfl ?_
      obtain rfl := Option.some.inj hf
      exact n_iret C dX6_annul_54
    · have hf := ip h46 hf
      refine n_iconst (v := (nI 0)) C dX6_annul_49 (by decide) rfl ?_
      refine n_goto (t := 54) C dX6_annul_50 (by decide) ?_
      obtain rfl := Option.some.inj hf
      exact n_iret C dX6_annul_54
  · have hf := ip h10 hf
    refine n_aload_n C dX6_annul_13 0 rfl rfl ?_
    refine n_iconst (v := (nI 1)) C dX6_annul_14 (by decide) rfl ?_
    obtain ⟨z15, h15, hf⟩ := bi hf
    refine n_callV (As := [.int (nI 1)]) (rest := []) (w2 := bX6 cyI aM z15.2) C dX6_annul_15 (c6_fails l D cyI cyO cyJ aM n oM_2 (nI 1) z15 h15) (cwV 1 C.ts gX6_annul_X6_fails rfl rfl rfl (by decide +kernel) ⟨Nat.le_of_ble_eq_true rfl, Nat.le_of_ble_eq_true rfl⟩) rfl (q0 := 0) (ci := 6) rfl rfl Frm.self rfl (Nat.le_of_ble_eq_true rfl) ⟨Nat.le_of_ble_eq_true rfl, Nat.le_of_ble_eq_true rfl⟩ rfl ?_
    obtain rfl := Option.some.inj hf
    exact n_iret C dX6_annul_18
-- X6 isFor 
abbrev rm6_isFor : Room := { frames := 1, cells := 0, slots := 0, locals := 22 }
def f6_isFor_b11 (n : Nat) (x0 : Int32) (x1 : Int32) (s0 : Int32) (s1 : Int32) : Option (Int32) :=
  (if x0 = (0 : Int32) then (f6_in n s0 s1 (nI 5)).bind fun z40 => (zo z40).bind fun y43 => some y43 else (if x0 = (nI 1) then (f6_in n s0 s1 (nI 3)).bind fun z40 => (zo z40).bind fun y43 => some y43 else (if x0 = (nI 2) then (f6_in n s0 s1 (nI 50)).bind fun z40 => (zo z40).bind fun y43 => some y43 else (f6_in n s0 s1 (nI 28)).bind fun z40 => (zo z40).bind fun y43 => some y43)))
def f6_isFor (n : Nat) (x0 : Int32) (x1 : Int32) : Option (Int32) :=
  (if x0 = (nI 1) then f6_isFor_b11 n x0 x1 x1 (nI 0) else f6_isFor_b11 n x0 x1 x1 (nI 1))
set_option maxHeartbeats 4000000 in
set_option maxRecDepth 100000 in
theorem t6_isFor_b11 {l : Launch} {p : Program} {e : Env} {s : State} {m : MethodId} {args : Array Value} {below : List Frame} {meth : Method} {c : Code} {D : va_G} {A : Nat → Prop} {cyI cyO cyJ : ClassId} (C : Cx p s m args meth c D (tyG cyI cyO cyJ) A RX6 cX6_isFor 2 (some .boolean) wsX6_isFor) {z : Int32} (n : Nat) (x0 : Int32) (x1 : Int32) (s0 : Int32) (s1 : Int32) (hf : f6_isFor_b11 n x0 x1 s0 s1 = some z) : Wn p l e rm6_isFor s m args below meth c D A 2 0 0 (MQ below (Qr D (tyG cyI cyO cyJ) (([] : va_W)) A (some (.int z))) args s 0 0 A) (([] : va_W)) 11 [(0, .int x0)] [.int s1, .int s0] := by
  unfold f6_isFor_b11 at hf
  refine n_iload_n C dX6_isFor_11 0 rfl rfl ?_
  refine n_if_ne (t := 19) C dX6_isFor_12 (by decide) rfl (fun h12 => ?_) (fun h12 => ?_)
  · have hf := iq h12 hf
    refine n_iload_n C dX6_isFor_19 0 rfl rfl ?_
    refine n_iconst (v := (nI 1)) C dX6_isFor_20 (by decide) rfl ?_
    refine n_icmp_ne (t := 28) C dX6_isFor_21 (by decide) rfl (fun h21 => ?_) (fun h21 => ?_)
    · have hf := iq h21 hf
      refine n_iload_n C dX6_isFor_28 0 rfl rfl ?_
      refine n_iconst (v := (nI 2)) C dX6_isFor_29 (by decide) rfl ?_
      refine n_icmp_ne (t := 38) C dX6_isFor_30 (by decide) rfl (fun h30 => ?_) (fun h30 => ?_)
      · have hf := iq h30 hf
        refine n_bipush (v := (nI 28)) C dX6_isFor_38 (by decide) rfl ?_
        obtain ⟨z40, h40, hf⟩ := bi hf
        refine n_callS (As := [.int s0, .int s1, .int (nI 28)]) (rest := []) (w2 := ([] : va_W)) C dX6_isFor_40 (c6_in l D cyI cyO cyJ  n s0 s1 (nI 28) z40 h40) (va_cwS 3 C.ts gX6_isFor_X6_in rfl rfl rfl (by decide +kernel) ⟨Nat.le_of_ble_eq_true rfl, Nat.le_of_ble_eq_true rfl⟩) rfl Frm.self rfl (Nat.le_of_ble_eq_true rfl) ⟨Nat.le_of_ble_eq_true rfl, Nat.le_of_ble_eq_true rfl⟩ rfl ?_
        obtain ⟨y43, h43, hf⟩ := bi hf
        obtain ⟨h43, e43⟩ := zo_some h43
        obtain rfl := Option.some.inj hf
        subst e43
        exact n_zret C dX6_isFor_43 (by assumption)
      · have hf := ip h30 hf
        refine n_bipush (v := (nI 50)) C dX6_isFor_33 (by decide) rfl ?_
        refine n_goto (t := 40) C dX6_isFor_35 (by decide) ?_
        obtain ⟨z40, h40, hf⟩ := bi hf
        refine n_callS (As := [.int s0, .int s1, .int (nI 50)]) (rest := []) (w2 := ([] : va_W)) C dX6_isFor_40 (c6_in l D cyI cyO cyJ  n s0 s1 (nI 50) z40 h40) (va_cwS 3 C.ts gX6_isFor_X6_in rfl rfl rfl (by decide +kernel) ⟨Nat.le_of_ble_eq_true rfl, Nat.le_of_ble_eq_true rfl⟩) rfl Frm.self rfl (Nat.le_of_ble_eq_true rfl) ⟨Nat.le_of_ble_eq_true rfl, Nat.le_of_ble_eq_true rfl⟩ rfl ?_
        obtain ⟨y43, h43, hf⟩ := bi hf
        obtain ⟨h43, e43⟩ := zo_some h43
        obtain rfl := Option.some.inj hf
        subst e43
        exact n_zret C dX6_isFor_43 (by assumption)
    · have hf := ip h21 hf
      refine n_iconst (v := (nI 3)) C dX6_isFor_24 (by decide) rfl ?_
      refine n_goto (t := 40) C dX6_isFor_25 (by decide) ?_
      obtain ⟨z40, h40, hf⟩ := bi hf
      refine n_callS (As := [.int s0, .int s1, .int (nI 3)]) (rest := []) (w2 := ([] : va_W)) C dX6_isFor_40 (c6_in l D cyI cyO cyJ  n s0 s1 (nI 3) z40 h40) (va_cwS 3 C.ts gX6_isFor_X6_in rfl rfl rfl (by decide +kernel) ⟨Nat.le_of_ble_eq_true rfl, Nat.le_of_ble_eq_true rfl⟩) rfl Frm.self rfl (Nat.le_of_ble_eq_true rfl) ⟨Nat.le_of_ble_eq_true rfl, Nat.le_of_ble_eq_true rfl⟩ rfl ?_
      obtain ⟨y43, h43, hf⟩ := bi hf
      obtain ⟨h43, e43⟩ := zo_some h43
      obtain rfl := Option.some.inj hf
      subst e43
      exact n_zret C dX6_isFor_43 (by assumption)
  · have hf := ip h12 hf
    refine n_iconst (v := (nI 5)) C dX6_isFor_15 (by decide) rfl ?_
    refine n_goto (t := 40) C dX6_isFor_16 (by decide) ?_
    obtain ⟨z40, h40, hf⟩ := bi hf
    refine n_callS (As := [.int s0, .int s1, .int (nI 5)]) (rest := []) (w2 := ([] : va_W)) C dX6_isFor_40 (c6_in l D cyI cyO cyJ  n s0 s1 (nI 5) z40 h40) (va_cwS 3 C.ts gX6_isFor_X6_in rfl rfl rfl (by decide +kernel) ⟨Nat.le_of_ble_eq_true rfl, Nat.le_of_ble_eq_true rfl⟩) rfl Frm.self rfl (Nat.le_of_ble_eq_true rfl) ⟨Nat.le_of_ble_eq_true rfl, Nat.le_of_ble_eq_true rfl⟩ rfl ?_
    obtain ⟨y43, h43, hf⟩ := bi hf
    obtain ⟨h43, e43⟩ := zo_some h43
    obtain rfl := Option.some.inj hf
    subst e43
    exact n_zret C dX6_isFor_43 (by assumption)
set_option maxHeartbeats 4000000 in
set_option maxRecDepth 100000 in
theorem c6_isFor (l : Launch) (D : va_G) (cyI cyO cyJ : ClassId) (n : Nat) (x0 : Int32) (x1 : Int32) (z : Int32) (hf : f6_isFor n x0 x1 = some z) : Ct l D (tyG cyI cyO cyJ) yX6_isFor wsX6_isFor rm6_isFor 0 0 [.int x0, .int x1] (([] : va_W)) (([] : va_W)) (some (.int z)) := by
  refine Ct.of (cc := cX6_isFor) (nL := 2) (ret := (some .boolean)) (lv := [(0, .int x0), (1, .int x1)]) (by decide +kernel) rfl rfl (Nat.le_of_ble_eq_true rfl) ?_
  intro p e s m args below meth c A C
  have C : Cx p s m args meth c D (tyG cyI cyO cyJ) A RX6 cX6_isFor 2 (some .boolean) wsX6_isFor := C
  unfold f6_isFor at hf
  refine n_iload_n C dX6_isFor_0 1 rfl rfl ?_
  refine n_iload_n C dX6_isFor_1 0 rfl rfl ?_
  refine n_iconst (v := (nI 1)) C dX6_isFor_2 (by decide) rfl ?_
  refine n_icmp_ne (t := 10) C dX6_isFor_3 (by decide) rfl (fun h3 => ?_) (fun h3 => ?_)
  · have hf := iq h3 hf
    refine n_iconst (v := (nI 1)) C dX6_isFor_10 (by decide) rfl ?_
    exact Wn.sub (lv' := [(0, .int x0)]) [0] rfl (t6_isFor_b11 C n x0 x1 x1 (nI 1) hf)
  · have hf := ip h3 hf
    refine n_iconst (v := (nI 0)) C dX6_isFor_6 (by decide) rfl ?_
    refine n_goto (t := 11) C dX6_isFor_7 (by decide) ?_
    exact Wn.sub (lv' := [(0, .int x0)]) [0] rfl (t6_isFor_b11 C n x0 x1 x1 (nI 0) hf)
-- X6 set 
theorem iw6_set_X6 : ∀ w ∈ u_ws RX6 TX6 12, w ∈ wsX6_set := by decide +kernel
abbrev rm6_set : Room := { frames := 2, cells := 0, slots := 0, locals := 45 }
def f6_set (n : Nat) (oM : OB) (x1 : Int32) (x2 : Int32) : Option (Int32 × (OB)) :=
  (some (gsi oM 6 (nI 0))).bind fun oM_2 => (f6_in n x1 (nI 0) (nI 3)).bind fun z8 => (if z8 = (0 : Int32) then (f6_fails n oM_2 (nI 1)).bind fun z16 => some (z16.1, z16.2) else (f6_isFor n x1 x2).bind fun z22 => (if z22 = (0 : Int32) then (f6_fails n oM_2 (nI 2)).bind fun z30 => some (z30.1, z30.2) else (f6_saves n oM_2).bind fun z35 => (f6_changes n z35 x1 x2).bind fun z41 => some (z41.1, z41.2)))
set_option maxHeartbeats 4000000 in
set_option maxRecDepth 100000 in
theorem c6_set (l : Launch) (D : va_G) (cyI cyO cyJ : ClassId) (aM : Nat → Nat) (n : Nat) (oM : OB) (x1 : Int32) (x2 : Int32) (z : Int32 × (OB)) (hf : f6_set n oM x1 x2 = some z) : Ct l D (tyG cyI cyO cyJ) yX6_set wsX6_set rm6_set 0 0 [.ref (aM 0), .int x1, .int x2] (bX6 cyI aM oM) (bX6 cyI aM z.2) (some (.int z.1)) := by
  refine Ct.of (cc := cX6_set) (nL := 3) (ret := (some .int)) (lv := [(0, .ref (aM 0)), (1, .int x1), (2, .int x2)]) (by decide +kernel) rfl rfl (Nat.le_of_ble_eq_true rfl) ?_
  intro p e s m args below meth c A C
  have C : Cx p s m args meth c D (tyG cyI cyO cyJ) A RX6 cX6_set 3 (some .int) wsX6_set := C
  unfold f6_set at hf
  refine n_aload_n C dX6_set_0 0 rfl rfl ?_
  refine n_iconst (v := (nI 0)) C dX6_set_1 (by decide) rfl ?_
  obtain ⟨oM_2, e2, hf⟩ := bi hf
  replace e2 := Option.some.inj e2
  refine n_put (w2 := bX6 cyI aM oM_2) (N := 12) (ty := .int) C dX6_set_2 iw6_set_X6 tyX6_ok nmX6 0 rfl rfl 6 (by decide) (List.mem_of_getElem? (i := 1) rfl) rfl rfl (by decide +kernel) rfl rfl (Nat.le_of_ble_eq_true rfl) (by subst e2; rfl) rfl ?_
  refine n_iload_n C dX6_set_5 1 rfl rfl ?_
  refine n_iconst (v := (nI 0)) C dX6_set_6 (by decide) rfl ?_
  refine n_iconst (v := (nI 3)) C dX6_set_7 (by decide) rfl ?_
  obtain ⟨z8, h8, hf⟩ := bi hf
  refine n_callS (As := [.int x1, .int (nI 0), .int (nI 3)]) (rest := []) (w2 := bX6 cyI aM oM_2) C dX6_set_8 (c6_in l D cyI cyO cyJ  n x1 (nI 0) (nI 3) z8 h8) (va_cwS 3 C.ts gX6_set_X6_in rfl rfl rfl (by decide +kernel) ⟨Nat.le_of_ble_eq_true rfl, Nat.le_of_ble_eq_true rfl⟩) rfl Frm.none rfl (Nat.le_of_ble_eq_true rfl) ⟨Nat.le_of_ble_eq_true rfl, Nat.le_of_ble_eq_true rfl⟩ rfl ?_
  refine n_if_ne (t := 20) C dX6_set_11 (by decide) rfl (fun h11 => ?_) (fun h11 => ?_)
  · have hf := iq h11 hf
    refine n_iload_n C dX6_set_20 1 rfl rfl ?_
    refine n_iload_n C dX6_set_21 2 rfl rfl ?_
    obtain ⟨z22, h22, hf⟩ := bi hf
    refine n_callS (As := [.int x1, .int x2]) (rest := []) (w2 := bX6 cyI aM oM_2) C dX6_set_22 (c6_isFor l D cyI cyO cyJ  n x1 x2 z22 h22) (va_cwS 2 C.ts gX6_set_X6_isFor rfl rfl rfl (by decide +kernel) ⟨Nat.le_of_ble_eq_true rfl, Nat.le_of_ble_eq_true rfl⟩) rfl Frm.none rfl (Nat.le_of_ble_eq_true rfl) ⟨Nat.le_of_ble_eq_true rfl, Nat.le_of_ble_eq_true rfl⟩ rfl ?_
    refine n_if_ne (t := 34) C dX6_set_25 (by decide) rfl (fun h25 => ?_) (fun h25 => ?_)
    · have hf := iq h25 hf
      refine n_aload_n C dX6_set_34 0 rfl rfl ?_
      obtain ⟨z35, h35, hf⟩ := bi hf
      refine n_callV (As := []) (rest := []) (w2 := bX6 cyI aM z35) C dX6_set_35 (c6_saves l D cyI cyO cyJ aM n oM_2 z35 h35) (cwV 0 C.ts gX6_set_X6_saves rfl rfl rfl (by decide +kernel) ⟨Nat.le_of_ble_eq_true rfl, Nat.le_of_ble_eq_true rfl⟩) rfl (q0 := 0) (ci := 6) rfl rfl Frm.self rfl (Nat.le_of_ble_eq_true rfl) ⟨Nat.le_of_ble_eq_true rfl, Nat.le_of_ble_eq_true rfl⟩ rfl ?_
      refine n_aload_n C dX6_set_38 0 rfl rfl ?_
      refine n_iload_n C dX6_set_39 1 rfl rfl ?_
      refine n_iload_n C dX6_set_40 2 rfl rfl ?_
      obtain ⟨z41, h41, hf⟩ := bi hf
      refine n_callV (As := [.int x1, .int x2]) (rest := []) (w2 := bX6 cyI aM z41.2) C dX6_set_41 (c6_changes l D cyI cyO cyJ aM n z35 x1 x2 z41 h41) (cwV 2 C.ts gX6_set_X6_changes rfl rfl rfl (by decide +kernel) ⟨Nat.le_of_ble_eq_true rfl, Nat.le_of_ble_eq_true rfl⟩) rfl (q0 := 0) (ci := 6) rfl rfl Frm.self rfl (Nat.le_of_ble_eq_true rfl) ⟨Nat.le_of_ble_eq_true rfl, Nat.le_of_ble_eq_true rfl⟩ rfl ?_
      obtain rfl := Option.some.inj hf
      exact n_iret C dX6_set_44
    · have hf := ip h25 hf
      refine n_aload_n C dX6_set_28 0 rfl rfl ?_
      refine n_iconst (v := (nI 2)) C dX6_set_29 (by decide) rfl ?_
      obtain ⟨z30, h30, hf⟩ := bi hf
      refine n_callV (As := [.int (nI 2)]) (rest := []) (w2 := bX6 cyI aM z30.2) C dX6_set_30 (c6_fails l D cyI cyO cyJ aM n oM_2 (nI 2) z30 h30) (cwV 1 C.ts gX6_set_X6_fails rfl rfl rfl (by decide +kernel) ⟨Nat.le_of_ble_eq_true rfl, Nat.le_of_ble_eq_true rfl⟩) rfl (q0 := 0) (ci := 6) rfl rfl Frm.self rfl (Nat.le_of_ble_eq_true rfl) ⟨Nat.le_of_ble_eq_true rfl, Nat.le_of_ble_eq_true rfl⟩ rfl ?_
      obtain rfl := Option.some.inj hf
      exact n_iret C dX6_set_33
  · have hf := ip h11 hf
    refine n_aload_n C dX6_set_14 0 rfl rfl ?_
    refine n_iconst (v := (nI 1)) C dX6_set_15 (by decide) rfl ?_
    obtain ⟨z16, h16, hf⟩ := bi hf
    refine n_callV (As := [.int (nI 1)]) (rest := []) (w2 := bX6 cyI aM z16.2) C dX6_set_16 (c6_fails l D cyI cyO cyJ aM n oM_2 (nI 1) z16 h16) (cwV 1 C.ts gX6_set_X6_fails rfl rfl rfl (by decide +kernel) ⟨Nat.le_of_ble_eq_true rfl, Nat.le_of_ble_eq_true rfl⟩) rfl (q0 := 0) (ci := 6) rfl rfl Frm.self rfl (Nat.le_of_ble_eq_true rfl) ⟨Nat.le_of_ble_eq_true rfl, Nat.le_of_ble_eq_true rfl⟩ rfl ?_
    obtain rfl := Option.some.inj hf
    exact n_iret C dX6_set_19
-- X6 append 
theorem iw6_append_X6 : ∀ w ∈ u_ws RX6 TX6 12, w ∈ wsX6_append := by decide +kernel
abbrev rm6_append : Room := { frames := 1, cells := 0, slots := 0, locals := 22 }
def f6_append (n : Nat) (oM : OB) (x1 : Int32) : Option (Int32 × (OB)) :=
  (some (gsi oM 6 (nI 0))).bind fun oM_2 => (f6_in n x1 (nI 33) (nI 126)).bind fun z10 => (if z10 = (0 : Int32) then (f6_fails n oM_2 (nI 1)).bind fun z18 => some (z18.1, z18.2) else (if (oM_2.1 5) = (nI 60) then (f6_fails n oM_2 (nI 2)).bind fun z33 => some (z33.1, z33.2) else (oast oM_2 4 60 (oM_2.1 5) x1).bind fun oM_46 => (some (gsi oM_46 5 ((oM_46.1 5) + (nI 1)))).bind fun oM_54 => some (oM_54.1 5, oM_54)))
set_option maxHeartbeats 4000000 in
set_option maxRecDepth 100000 in
theorem c6_append (l : Launch) (D : va_G) (cyI cyO cyJ : ClassId) (aM : Nat → Nat) (n : Nat) (oM : OB) (x1 : Int32) (z : Int32 × (OB)) (hf : f6_append n oM x1 = some z) : Ct l D (tyG cyI cyO cyJ) yX6_append wsX6_append rm6_append 0 0 [.ref (aM 0), .int x1] (bX6 cyI aM oM) (bX6 cyI aM z.2) (some (.int z.1)) := by
  refine Ct.of (cc := cX6_append) (nL := 2) (ret := (some .int)) (lv := [(0, .ref (aM 0)), (1, .int x1)]) (by decide +kernel) rfl rfl (Nat.le_of_ble_eq_true rfl) ?_
  intro p e s m args below meth c A C
  have C : Cx p s m args meth c D (tyG cyI cyO cyJ) A RX6 cX6_append 2 (some .int) wsX6_append := C
  unfold f6_append at hf
  refine n_aload_n C dX6_append_0 0 rfl rfl ?_
  refine n_iconst (v := (nI 0)) C dX6_append_1 (by decide) rfl ?_
  obtain ⟨oM_2, e2, hf⟩ := bi hf
  replace e2 := Option.some.inj e2
  refine n_put (w2 := bX6 cyI aM oM_2) (N := 12) (ty := .int) C dX6_append_2 iw6_append_X6 tyX6_ok nmX6 0 rfl rfl 6 (by decide) (List.mem_of_getElem? (i := 1) rfl) rfl rfl (by decide +kernel) rfl rfl (Nat.le_of_ble_eq_true rfl) (by subst e2; rfl) rfl ?_
  refine n_iload_n C dX6_append_5 1 rfl rfl ?_
  refine n_bipush (v := (nI 33)) C dX6_append_6 (by decide) rfl ?_
  refine n_bipush (v := (nI 126)) C dX6_append_8 (by decide) rfl ?_
  obtain ⟨z10, h10, hf⟩ := bi hf
  refine n_callS (As := [.int x1, .int (nI 33), .int (nI 126)]) (rest := []) (w2 := bX6 cyI aM oM_2) C dX6_append_10 (c6_in l D cyI cyO cyJ  n x1 (nI 33) (nI 126) z10 h10) (va_cwS 3 C.ts gX6_append_X6_in rfl rfl rfl (by decide +kernel) ⟨Nat.le_of_ble_eq_true rfl, Nat.le_of_ble_eq_true rfl⟩) rfl Frm.none rfl (Nat.le_of_ble_eq_true rfl) ⟨Nat.le_of_ble_eq_true rfl, Nat.le_of_ble_eq_true rfl⟩ rfl ?_
  refine n_if_ne (t := 22) C dX6_append_13 (by decide) rfl (fun h13 => ?_) (fun h13 => ?_)
  · have hf := iq h13 hf
    refine n_aload_n C dX6_append_22 0 rfl rfl ?_
    refine n_get (N := 12) C dX6_append_23 iw6_append_X6 0 rfl rfl 5 (by decide) (List.mem_of_getElem? (i := 2) rfl) rfl rfl rfl ?_
    refine n_bipush (v := (nI 60)) C dX6_append_26 (by decide) rfl ?_
    refine n_icmp_ne (t := 37) C dX6_append_28 (by decide) rfl (fun h28 => ?_) (fun h28 => ?_)
    · have hf := iq h28 hf
      refine n_aload_n C dX6_append_37 0 rfl rfl ?_
      refine n_get (N := 12) C dX6_append_38 iw6_append_X6 0 rfl rfl 4 (by decide) (List.mem_of_getElem? (i := 3) rfl) rfl rfl rfl ?_
      refine n_aload_n C dX6_append_41 0 rfl rfl ?_
      refine n_get (N := 12) C dX6_append_42 iw6_append_X6 0 rfl rfl 5 (by decide) (List.mem_of_getElem? (i := 2) rfl) rfl rfl rfl ?_
      refine n_iload_n C dX6_append_45 1 rfl rfl ?_
      obtain ⟨oM_46, h46, hf⟩ := bi hf
      obtain ⟨h46, e46⟩ := oast_some h46
      refine n_iast (w2 := bX6 cyI aM oM_46) C dX6_append_46 4 0 rfl rfl h46 (by subst e46; rfl) rfl ?_
      refine n_aload_n C dX6_append_47 0 rfl rfl ?_
      refine n_dup C dX6_append_48 rfl rfl ?_
      refine n_get (N := 12) C dX6_append_49 iw6_append_X6 0 rfl rfl 5 (by decide) (List.mem_of_getElem? (i := 2) rfl) rfl rfl rfl ?_
      refine n_iconst (v := (nI 1)) C dX6_append_52 (by decide) rfl ?_
      refine n_iadd C dX6_append_53 rfl ?_
      obtain ⟨oM_54, e54, hf⟩ := bi hf
      replace e54 := Option.some.inj e54
      refine n_put (w2 := bX6 cyI aM oM_54) (N := 12) (ty := .int) C dX6_append_54 iw6_append_X6 tyX6_ok nmX6 0 rfl rfl 5 (by decide) (List.mem_of_getElem? (i := 2) rfl) rfl rfl (by decide +kernel) rfl rfl (Nat.le_of_ble_eq_true rfl) (by subst e54; rfl) rfl ?_
      refine n_aload_n C dX6_append_57 0 rfl rfl ?_
      refine n_get (N := 12) C dX6_append_58 iw6_append_X6 0 rfl rfl 5 (by decide) (List.mem_of_getElem? (i := 2) rfl) rfl rfl rfl ?_
      obtain rfl := Option.some.inj hf
      exact n_iret C dX6_append_61
    · have hf := ip h28 hf
      refine n_aload_n C dX6_append_31 0 rfl rfl ?_
      refine n_iconst (v := (nI 2)) C dX6_append_32 (by decide) rfl ?_
      obtain ⟨z33, h33, hf⟩ := bi hf
      refine n_callV (As := [.int (nI 2)]) (rest := []) (w2 := bX6 cyI aM z33.2) C dX6_append_33 (c6_fails l D cyI cyO cyJ aM n oM_2 (nI 2) z33 h33) (cwV 1 C.ts gX6_append_X6_fails rfl rfl rfl (by decide +kernel) ⟨Nat.le_of_ble_eq_true rfl, Nat.le_of_ble_eq_true rfl⟩) rfl (q0 := 0) (ci := 6) rfl rfl Frm.self rfl (Nat.le_of_ble_eq_true rfl) ⟨Nat.le_of_ble_eq_true rfl, Nat.le_of_ble_eq_true rfl⟩ rfl ?_
      obtain rfl := Option.some.inj hf
      exact n_iret C dX6_append_36
  · have hf := ip h13 hf
    refine n_aload_n C dX6_append_16 0 rfl rfl ?_
    refine n_iconst (v := (nI 1)) C dX6_append_17 (by decide) rfl ?_
    obtain ⟨z18, h18, hf⟩ := bi hf
    refine n_callV (As := [.int (nI 1)]) (rest := []) (w2 := bX6 cyI aM z18.2) C dX6_append_18 (c6_fails l D cyI cyO cyJ aM n oM_2 (nI 1) z18 h18) (cwV 1 C.ts gX6_append_X6_fails rfl rfl rfl (by decide +kernel) ⟨Nat.le_of_ble_eq_true rfl, Nat.le_of_ble_eq_true rfl⟩) rfl (q0 := 0) (ci := 6) rfl rfl Frm.self rfl (Nat.le_of_ble_eq_true rfl) ⟨Nat.le_of_ble_eq_true rfl, Nat.le_of_ble_eq_true rfl⟩ rfl ?_
    obtain rfl := Option.some.inj hf
    exact n_iret C dX6_append_21
-- X6 clearBuffer 
theorem iw6_clearBuffer_X6 : ∀ w ∈ u_ws RX6 TX6 12, w ∈ wsX6_clearBuffer := by decide +kernel
abbrev rm6_clearBuffer : Room := { frames := 0, cells := 0, slots := 0, locals := 0 }
def f6_clearBuffer (n : Nat) (oM : OB) : Option (Int32 × (OB)) :=
  (some (gsi oM 6 (nI 0))).bind fun oM_2 => (some (gsi oM_2 5 (nI 0))).bind fun oM_12 => some (oM_2.1 5, oM_12)
set_option maxHeartbeats 4000000 in
set_option maxRecDepth 100000 in
theorem c6_clearBuffer (l : Launch) (D : va_G) (cyI cyO cyJ : ClassId) (aM : Nat → Nat) (n : Nat) (oM : OB) (z : Int32 × (OB)) (hf : f6_clearBuffer n oM = some z) : Ct l D (tyG cyI cyO cyJ) yX6_clearBuffer wsX6_clearBuffer rm6_clearBuffer 0 0 [.ref (aM 0)] (bX6 cyI aM oM) (bX6 cyI aM z.2) (some (.int z.1)) := by
  refine Ct.of (cc := cX6_clearBuffer) (nL := 2) (ret := (some .int)) (lv := [(0, .ref (aM 0))]) (by decide +kernel) rfl rfl (Nat.le_of_ble_eq_true rfl) ?_
  intro p e s m args below meth c A C
  have C : Cx p s m args meth c D (tyG cyI cyO cyJ) A RX6 cX6_clearBuffer 2 (some .int) wsX6_clearBuffer := C
  unfold f6_clearBuffer at hf
  refine n_aload_n C dX6_clearBuffer_0 0 rfl rfl ?_
  refine n_iconst (v := (nI 0)) C dX6_clearBuffer_1 (by decide) rfl ?_
  obtain ⟨oM_2, e2, hf⟩ := bi hf
  replace e2 := Option.some.inj e2
  refine n_put (w2 := bX6 cyI aM oM_2) (N := 12) (ty := .int) C dX6_clearBuffer_2 iw6_clearBuffer_X6 tyX6_ok nmX6 0 rfl rfl 6 (by decide) (List.mem_of_getElem? (i := 1) rfl) rfl rfl (by decide +kernel) rfl rfl (Nat.le_of_ble_eq_true rfl) (by subst e2; rfl) rfl ?_
  refine n_aload_n C dX6_clearBuffer_5 0 rfl rfl ?_
  refine n_get (N := 12) C dX6_clearBuffer_6 iw6_clearBuffer_X6 0 rfl rfl 5 (by decide) (List.mem_of_getElem? (i := 2) rfl) rfl rfl rfl ?_
  refine n_istore_n (lv' := [(1, .int (oM_2.1 5)), (0, .ref (aM 0))]) C dX6_clearBuffer_9 (by decide) rfl rfl ?_
  refine n_aload_n C dX6_clearBuffer_10 1 rfl rfl ?_
  refine n_iconst (v := (nI 0)) C dX6_clearBuffer_11 (by decide) rfl ?_
  obtain ⟨oM_12, e12, hf⟩ := bi hf
  replace e12 := Option.some.inj e12
  refine n_put (w2 := bX6 cyI aM oM_12) (N := 12) (ty := .int) C dX6_clearBuffer_12 iw6_clearBuffer_X6 tyX6_ok nmX6 0 rfl rfl 5 (by decide) (List.mem_of_getElem? (i := 2) rfl) rfl rfl (by decide +kernel) rfl rfl (Nat.le_of_ble_eq_true rfl) (by subst e12; rfl) rfl ?_
  refine n_iload_n C dX6_clearBuffer_15 0 rfl rfl ?_
  obtain rfl := Option.some.inj hf
  exact n_iret C dX6_clearBuffer_16
-- X6 isAt 
theorem iw6_isAt_X6 : ∀ w ∈ u_ws RX6 TX6 12, w ∈ wsX6_isAt := by decide +kernel
abbrev rm6_isAt : Room := { frames := 1, cells := 0, slots := 0, locals := 22 }
def f6_isAt (n : Nat) (oM : OB) (x1 : Int32) (x2 : Int32) : Option (Int32) :=
  (if (oM.1 5) ≤ (oM.1 7) then some (nI 0) else (ald 60 (oM.2 4) (oM.1 7)).bind fun x19 => (f6_in n x19 x1 x2).bind fun z22 => (if z22 = (0 : Int32) then some (nI 0) else some (nI 1)))
set_option maxHeartbeats 4000000 in
set_option maxRecDepth 100000 in
theorem c6_isAt (l : Launch) (D : va_G) (cyI cyO cyJ : ClassId) (aM : Nat → Nat) (n : Nat) (oM : OB) (x1 : Int32) (x2 : Int32) (z : Int32) (hf : f6_isAt n oM x1 x2 = some z) : Ct l D (tyG cyI cyO cyJ) yX6_isAt wsX6_isAt rm6_isAt 0 0 [.ref (aM 0), .int x1, .int x2] (bX6 cyI aM oM) (bX6 cyI aM oM) (some (.int z)) := by
  refine Ct.of (cc := cX6_isAt) (nL := 3) (ret := (some .boolean)) (lv := [(0, .ref (aM 0)), (1, .int x1), (2, .int x2)]) (by decide +kernel) rfl rfl (Nat.le_of_ble_eq_true rfl) ?_
  intro p e s m args below meth c A C
  have C : Cx p s m args meth c D (tyG cyI cyO cyJ) A RX6 cX6_isAt 3 (some .boolean) wsX6_isAt := C
  unfold f6_isAt at hf
  refine n_aload_n C dX6_isAt_0 0 rfl rfl ?_
  refine n_get (N := 12) C dX6_isAt_1 iw6_isAt_X6 0 rfl rfl 7 (by decide) (List.mem_of_getElem? (i := 1) rfl) rfl rfl rfl ?_
  refine n_aload_n C dX6_isAt_4 0 rfl rfl ?_
  refine n_get (N := 12) C dX6_isAt_5 iw6_isAt_X6 0 rfl rfl 5 (by decide) (List.mem_of_getElem? (i := 2) rfl) rfl rfl rfl ?_
  refine n_icmp_ge (t := 32) C dX6_isAt_8 (by decide) rfl (fun h8 => ?_) (fun h8 => ?_)
  · have hf := ip h8 hf
    refine n_iconst (v := (nI 0)) C dX6_isAt_32 (by decide) rfl ?_
    obtain rfl := Option.some.inj hf
    exact n_zret C dX6_isAt_33 (Or.inl rfl)
  · have hf := iq h8 hf
    refine n_aload_n C dX6_isAt_11 0 rfl rfl ?_
    refine n_get (N := 12) C dX6_isAt_12 iw6_isAt_X6 0 rfl rfl 4 (by decide) (List.mem_of_getElem? (i := 3) rfl) rfl rfl rfl ?_
    refine n_aload_n C dX6_isAt_15 0 rfl rfl ?_
    refine n_get (N := 12) C dX6_isAt_16 iw6_isAt_X6 0 rfl rfl 7 (by decide) (List.mem_of_getElem? (i := 1) rfl) rfl rfl rfl ?_
    obtain ⟨x19, h19, hf⟩ := bi hf
    obtain ⟨h19, e19⟩ := ald_some h19
    refine n_iald C dX6_isAt_19 4 0 rfl rfl h19 rfl ?_
    rw [← e19]
    refine n_iload_n C dX6_isAt_20 1 rfl rfl ?_
    refine n_iload_n C dX6_isAt_21 2 rfl rfl ?_
    obtain ⟨z22, h22, hf⟩ := bi hf
    refine n_callS (As := [.int x19, .int x1, .int x2]) (rest := []) (w2 := bX6 cyI aM oM) C dX6_isAt_22 (c6_in l D cyI cyO cyJ  n x19 x1 x2 z22 h22) (va_cwS 3 C.ts gX6_isAt_X6_in rfl rfl rfl (by decide +kernel) ⟨Nat.le_of_ble_eq_true rfl, Nat.le_of_ble_eq_true rfl⟩) rfl Frm.none rfl (Nat.le_of_ble_eq_true rfl) ⟨Nat.le_of_ble_eq_true rfl, Nat.le_of_ble_eq_true rfl⟩ rfl ?_
    refine n_if_eq (t := 32) C dX6_isAt_25 (by decide) rfl (fun h25 => ?_) (fun h25 => ?_)
    · have hf := ip h25 hf
      refine n_iconst (v := (nI 0)) C dX6_isAt_32 (by decide) rfl ?_
      obtain rfl := Option.some.inj hf
      exact n_zret C dX6_isAt_33 (Or.inl rfl)
    · have hf := iq h25 hf
      refine n_iconst (v := (nI 1)) C dX6_isAt_28 (by decide) rfl ?_
      refine n_goto (t := 33) C dX6_isAt_29 (by decide) ?_
      obtain rfl := Option.some.inj hf
      exact n_zret C dX6_isAt_33 (Or.inr rfl)
-- X6 stops 
theorem iw6_stops_X6 : ∀ w ∈ u_ws RX6 TX6 12, w ∈ wsX6_stops := by decide +kernel
abbrev rm6_stops : Room := { frames := 0, cells := 0, slots := 0, locals := 0 }
def f6_stops (n : Nat) (oM : OB) : Option (Int32 × (OB)) :=
  (if (oM.1 5) ≤ (oM.1 7) then (some (gsi oM 8 (nI 0))).bind fun oM_17 => some ((nI 0), oM_17) else (some (gsi oM 8 (nI 1))).bind fun oM_17 => some ((nI 0), oM_17))
set_option maxHeartbeats 4000000 in
set_option maxRecDepth 100000 in
theorem c6_stops (l : Launch) (D : va_G) (cyI cyO cyJ : ClassId) (aM : Nat → Nat) (n : Nat) (oM : OB) (z : Int32 × (OB)) (hf : f6_stops n oM = some z) : Ct l D (tyG cyI cyO cyJ) yX6_stops wsX6_stops rm6_stops 0 0 [.ref (aM 0)] (bX6 cyI aM oM) (bX6 cyI aM z.2) (some (.int z.1)) := by
  refine Ct.of (cc := cX6_stops) (nL := 1) (ret := (some .boolean)) (lv := [(0, .ref (aM 0))]) (by decide +kernel) rfl rfl (Nat.le_of_ble_eq_true rfl) ?_
  intro p e s m args below meth c A C
  have C : Cx p s m args meth c D (tyG cyI cyO cyJ) A RX6 cX6_stops 1 (some .boolean) wsX6_stops := C
  unfold f6_stops at hf
  refine n_aload_n C dX6_stops_0 0 rfl rfl ?_
  refine n_aload_n C dX6_stops_1 0 rfl rfl ?_
  refine n_get (N := 12) C dX6_stops_2 iw6_stops_X6 0 rfl rfl 7 (by decide) (List.mem_of_getElem? (i := 1) rfl) rfl rfl rfl ?_
  refine n_aload_n C dX6_stops_5 0 rfl rfl ?_
  refine n_get (N := 12) C dX6_stops_6 iw6_stops_X6 0 rfl rfl 5 (by decide) (List.mem_of_getElem? (i := 2) rfl) rfl rfl rfl ?_
  refine n_icmp_ge (t := 16) C dX6_stops_9 (by decide) rfl (fun h9 => ?_) (fun h9 => ?_)
  · have hf := ip h9 hf
    refine n_iconst (v := (nI 0)) C dX6_stops_16 (by decide) rfl ?_
    obtain ⟨oM_17, e17, hf⟩ := bi hf
    replace e17 := Option.some.inj e17
    refine n_put (w2 := bX6 cyI aM oM_17) (N := 12) (ty := .boolean) C dX6_stops_17 iw6_stops_X6 tyX6_ok nmX6 0 rfl rfl 8 (by decide) (List.mem_of_getElem? (i := 3) rfl) rfl rfl (by decide +kernel) rfl rfl (Nat.le_of_ble_eq_true rfl) (by subst e17; rfl) rfl ?_
    refine n_iconst (v := (nI 0)) C dX6_stops_20 (by decide) rfl ?_
    obtain rfl := Option.some.inj hf
    exact n_zret C dX6_stops_21 (Or.inl rfl)
  · have hf := iq h9 hf
    refine n_iconst (v := (nI 1)) C dX6_stops_12 (by decide) rfl ?_
    refine n_goto (t := 17) C dX6_stops_13 (by decide) ?_
    obtain ⟨oM_17, e17, hf⟩ := bi hf
    replace e17 := Option.some.inj e17
    refine n_put (w2 := bX6 cyI aM oM_17) (N := 12) (ty := .boolean) C dX6_stops_17 iw6_stops_X6 tyX6_ok nmX6 0 rfl rfl 8 (by decide) (List.mem_of_getElem? (i := 3) rfl) rfl rfl (by decide +kernel) rfl rfl (Nat.le_of_ble_eq_true rfl) (by subst e17; rfl) rfl ?_
    refine n_iconst (v := (nI 0)) C dX6_stops_20 (by decide) rfl ?_
    obtain rfl := Option.some.inj hf
    exact n_zret C dX6_stops_21 (Or.inl rfl)
-- X6 isNumber 
theorem iw6_isNumber_X6 : ∀ w ∈ u_ws RX6 TX6 12, w ∈ wsX6_isNumber := by decide +kernel
abbrev rm6_isNumber : Room := { frames := 2, cells := 0, slots := 0, locals := 44 }
def f6_isNumber_b121 (n : Nat) (x1 : Int32) (x2 : Int32) (oM : OB) : Option (Int32 × (OB)) :=
  (oast oM 10 68 (((nI 4) * (oM.1 11)) + x1) (oM.1 9)).bind fun oM_137 => some ((nI 1), oM_137)
def f6_isNumber_b42 (n : Nat) (x1 : Int32) (x2 : Int32) (k121 : OB → Option (Int32 × (OB))) : Nat → OB → Option (Int32 × (OB))
  | 0, _ => none
  | k + 1, oM =>
    (if (oM.1 9) ≤ (0 : Int32) then k121 oM else (f6_isAt n oM (nI 48) (nI 57)).bind fun z54 => (if z54 = (0 : Int32) then k121 oM else (ald 60 (oM.2 4) (oM.1 7)).bind fun x75 => (if x2 < ((((nI 10) * (oM.1 9)) + x75) - (nI 48)) then k121 oM else (ald 60 (oM.2 4) (oM.1 7)).bind fun x100 => (some (gsi oM 9 ((((nI 10) * (oM.1 9)) + x100) - (nI 48)))).bind fun oM_105 => (some (gsi oM_105 7 ((oM_105.1 7) + (nI 1)))).bind fun oM_115 => (f6_isNumber_b42 n x1 x2 k121 k) oM_115)))
def f6_isNumber (n : Nat) (oM : OB) (x1 : Int32) (x2 : Int32) : Option (Int32 × (OB)) :=
  (f6_isAt n oM (nI 48) (nI 57)).bind fun z5 => (if z5 = (0 : Int32) then (f6_stops n oM).bind fun z12 => (zo z12.1).bind fun y15 => some (y15, z12.2) else (ald 60 (oM.2 4) (oM.1 7)).bind fun x25 => (some (gsi oM 9 (x25 - (nI 48)))).bind fun oM_29 => (some (gsi oM_29 7 ((oM_29.1 7) + (nI 1)))).bind fun oM_39 => f6_isNumber_b42 n x1 x2 (fun oM => f6_isNumber_b121 n x1 x2 oM) n oM_39)
set_option maxHeartbeats 4000000 in
set_option maxRecDepth 100000 in
theorem t6_isNumber_b121 {l : Launch} {p : Program} {e : Env} {s : State} {m : MethodId} {args : Array Value} {below : List Frame} {meth : Method} {c : Code} {D : va_G} {A : Nat → Prop} {cyI cyO cyJ : ClassId} {aM : Nat → Nat} (C : Cx p s m args meth c D (tyG cyI cyO cyJ) A RX6 cX6_isNumber 3 (some .boolean) wsX6_isNumber) {z : Int32 × (OB)} (n : Nat) (x1 : Int32) (x2 : Int32) (oM : OB) (hf : f6_isNumber_b121 n x1 x2 oM = some z) : Wn p l e rm6_isNumber s m args below meth c D A 3 0 0 (MQ below (Qr D (tyG cyI cyO cyJ) (bX6 cyI aM z.2) A (some (.int z.1))) args s 0 0 A) (bX6 cyI aM oM) 121 [(0, .ref (aM 0)), (1, .int x1)] [] := by
  unfold f6_isNumber_b121 at hf
  refine n_aload_n C dX6_isNumber_121 0 rfl rfl ?_
  refine n_get (N := 12) C dX6_isNumber_122 iw6_isNumber_X6 0 rfl rfl 10 (by decide) (List.mem_of_getElem? (i := 4) rfl) rfl rfl rfl ?_
  refine n_iconst (v := (nI 4)) C dX6_isNumber_125 (by decide) rfl ?_
  refine n_aload_n C dX6_isNumber_126 0 rfl rfl ?_
  refine n_get (N := 12) C dX6_isNumber_127 iw6_isNumber_X6 0 rfl rfl 11 (by decide) (List.mem_of_getElem? (i := 5) rfl) rfl rfl rfl ?_
  refine n_imul C dX6_isNumber_130 rfl ?_
  refine n_iload_n C dX6_isNumber_131 1 rfl rfl ?_
  refine n_iadd C dX6_isNumber_132 rfl ?_
  refine n_aload_n C dX6_isNumber_133 0 rfl rfl ?_
  refine n_get (N := 12) C dX6_isNumber_134 iw6_isNumber_X6 0 rfl rfl 9 (by decide) (List.mem_of_getElem? (i := 3) rfl) rfl rfl rfl ?_
  obtain ⟨oM_137, h137, hf⟩ := bi hf
  obtain ⟨h137, e137⟩ := oast_some h137
  refine n_iast (w2 := bX6 cyI aM oM_137) C dX6_isNumber_137 5 0 rfl rfl h137 (by subst e137; rfl) rfl ?_
  refine n_iconst (v := (nI 1)) C dX6_isNumber_138 (by decide) rfl ?_
  obtain rfl := Option.some.inj hf
  exact n_zret C dX6_isNumber_139 (Or.inr rfl)
set_option maxHeartbeats 4000000 in
set_option maxRecDepth 100000 in
theorem t6_isNumber_b42 {l : Launch} {p : Program} {e : Env} {s : State} {m : MethodId} {args : Array Value} {below : List Frame} {meth : Method} {c : Code} {D : va_G} {A : Nat → Prop} {cyI cyO cyJ : ClassId} {aM : Nat → Nat} (C : Cx p s m args meth c D (tyG cyI cyO cyJ) A RX6 cX6_isNumber 3 (some .boolean) wsX6_isNumber) {z : Int32 × (OB)} (n : Nat) (x1 : Int32) (x2 : Int32) {k121 : OB → Option (Int32 × (OB))} (hk121 : ∀ (oM : OB), k121 oM = some z → Wn p l e rm6_isNumber s m args below meth c D A 3 0 0 (MQ below (Qr D (tyG cyI cyO cyJ) (bX6 cyI aM z.2) A (some (.int z.1))) args s 0 0 A) (bX6 cyI aM oM) 121 [(0, .ref (aM 0)), (1, .int x1)] []) : ∀ (k : Nat) (oM : OB), f6_isNumber_b42 n x1 x2 k121 k oM = some z → Wn p l e rm6_isNumber s m args below meth c D A 3 0 0 (MQ below (Qr D (tyG cyI cyO cyJ) (bX6 cyI aM z.2) A (some (.int z.1))) args s 0 0 A) (bX6 cyI aM oM) 42 [(0, .ref (aM 0)), (1, .int x1), (2, .int x2)] [] := by
  intro k
  induction k with
  | zero => intro  oM hf; cases hf
  | succ k ih =>
    intro  oM hf
    unfold f6_isNumber_b42 at hf
    refine n_aload_n C dX6_isNumber_42 0 rfl rfl ?_
    refine n_get (N := 12) C dX6_isNumber_43 iw6_isNumber_X6 0 rfl rfl 9 (by decide) (List.mem_of_getElem? (i := 3) rfl) rfl rfl rfl ?_
    refine n_if_le (t := 121) C dX6_isNumber_46 (by decide) rfl (fun h46 => ?_) (fun h46 => ?_)
    · have hf := ip h46 hf
      exact Wn.sub (lv' := [(0, .ref (aM 0)), (1, .int x1)]) [0, 1] rfl (hk121 oM hf)
    · have hf := iq h46 hf
      refine n_aload_n C dX6_isNumber_49 0 rfl rfl ?_
      refine n_bipush (v := (nI 48)) C dX6_isNumber_50 (by decide) rfl ?_
      refine n_bipush (v := (nI 57)) C dX6_isNumber_52 (by decide) rfl ?_
      obtain ⟨z54, h54, hf⟩ := bi hf
      refine n_callV (As := [.int (nI 48), .int (nI 57)]) (rest := []) (w2 := bX6 cyI aM oM) C dX6_isNumber_54 (c6_isAt l D cyI cyO cyJ aM n oM (nI 48) (nI 57) z54 h54) (cwV 2 C.ts gX6_isNumber_X6_isAt rfl rfl rfl (by decide +kernel) ⟨Nat.le_of_ble_eq_true rfl, Nat.le_of_ble_eq_true rfl⟩) rfl (q0 := 0) (ci := 6) rfl rfl Frm.self rfl (Nat.le_of_ble_eq_true rfl) ⟨Nat.le_of_ble_eq_true rfl, Nat.le_of_ble_eq_true rfl⟩ rfl ?_
      refine n_if_eq (t := 121) C dX6_isNumber_57 (by decide) rfl (fun h57 => ?_) (fun h57 => ?_)
      · have hf := ip h57 hf
        exact Wn.sub (lv' := [(0, .ref (aM 0)), (1, .int x1)]) [0, 1] rfl (hk121 oM hf)
      · have hf := iq h57 hf
        refine n_bipush (v := (nI 10)) C dX6_isNumber_60 (by decide) rfl ?_
        refine n_aload_n C dX6_isNumber_62 0 rfl rfl ?_
        refine n_get (N := 12) C dX6_isNumber_63 iw6_isNumber_X6 0 rfl rfl 9 (by decide) (List.mem_of_getElem? (i := 3) rfl) rfl rfl rfl ?_
        refine n_imul C dX6_isNumber_66 rfl ?_
        refine n_aload_n C dX6_isNumber_67 0 rfl rfl ?_
        refine n_get (N := 12) C dX6_isNumber_68 iw6_isNumber_X6 0 rfl rfl 4 (by decide) (List.mem_of_getElem? (i := 1) rfl) rfl rfl rfl ?_
        refine n_aload_n C dX6_isNumber_71 0 rfl rfl ?_
        refine n_get (N := 12) C dX6_isNumber_72 iw6_isNumber_X6 0 rfl rfl 7 (by decide) (List.mem_of_getElem? (i := 2) rfl) rfl rfl rfl ?_
        obtain ⟨x75, h75, hf⟩ := bi hf
        obtain ⟨h75, e75⟩ := ald_some h75
        refine n_iald C dX6_isNumber_75 4 0 rfl rfl h75 rfl ?_
        rw [← e75]
        refine n_iadd C dX6_isNumber_76 rfl ?_
        refine n_bipush (v := (nI 48)) C dX6_isNumber_77 (by decide) rfl ?_
        refine n_isub C dX6_isNumber_79 rfl ?_
        refine n_iload_n C dX6_isNumber_80 2 rfl rfl ?_
        refine n_icmp_gt (t := 121) C dX6_isNumber_81 (by decide) rfl (fun h81 => ?_) (fun h81 => ?_)
        · have hf := ip h81 hf
          exact Wn.sub (lv' := [(0, .ref (aM 0)), (1, .int x1)]) [0, 1] rfl (hk121 oM hf)
        · have hf := iq h81 hf
          refine n_aload_n C dX6_isNumber_84 0 rfl rfl ?_
          refine n_bipush (v := (nI 10)) C dX6_isNumber_85 (by decide) rfl ?_
          refine n_aload_n C dX6_isNumber_87 0 rfl rfl ?_
          refine n_get (N := 12) C dX6_isNumber_88 iw6_isNumber_X6 0 rfl rfl 9 (by decide) (List.mem_of_getElem? (i := 3) rfl) rfl rfl rfl ?_
          refine n_imul C dX6_isNumber_91 rfl ?_
          refine n_aload_n C dX6_isNumber_92 0 rfl rfl ?_
          refine n_get (N := 12) C dX6_isNumber_93 iw6_isNumber_X6 0 rfl rfl 4 (by decide) (List.mem_of_getElem? (i := 1) rfl) rfl rfl rfl ?_
          refine n_aload_n C dX6_isNumber_96 0 rfl rfl ?_
          refine n_get (N := 12) C dX6_isNumber_97 iw6_isNumber_X6 0 rfl rfl 7 (by decide) (List.mem_of_getElem? (i := 2) rfl) rfl rfl rfl ?_
          obtain ⟨x100, h100, hf⟩ := bi hf
          obtain ⟨h100, e100⟩ := ald_some h100
          refine n_iald C dX6_isNumber_100 4 0 rfl rfl h100 rfl ?_
          rw [← e100]
          refine n_iadd C dX6_isNumber_101 rfl ?_
          refine n_bipush (v := (nI 48)) C dX6_isNumber_102 (by decide) rfl ?_
          refine n_isub C dX6_isNumber_104 rfl ?_
          obtain ⟨oM_105, e105, hf⟩ := bi hf
          replace e105 := Option.some.inj e105
          refine n_put (w2 := bX6 cyI aM oM_105) (N := 12) (ty := .int) C dX6_isNumber_105 iw6_isNumber_X6 tyX6_ok nmX6 0 rfl rfl 9 (by decide) (List.mem_of_getElem? (i := 3) rfl) rfl rfl (by decide +kernel) rfl rfl (Nat.le_of_ble_eq_true rfl) (by subst e105; rfl) rfl ?_
          refine n_aload_n C dX6_isNumber_108 0 rfl rfl ?_
          refine n_dup C dX6_isNumber_109 rfl rfl ?_
          refine n_get (N := 12) C dX6_isNumber_110 iw6_isNumber_X6 0 rfl rfl 7 (by decide) (List.mem_of_getElem? (i := 2) rfl) rfl rfl rfl ?_
          refine n_iconst (v := (nI 1)) C dX6_isNumber_113 (by decide) rfl ?_
          refine n_iadd C dX6_isNumber_114 rfl ?_
          obtain ⟨oM_115, e115, hf⟩ := bi hf
          replace e115 := Option.some.inj e115
          refine n_put (w2 := bX6 cyI aM oM_115) (N := 12) (ty := .int) C dX6_isNumber_115 iw6_isNumber_X6 tyX6_ok nmX6 0 rfl rfl 7 (by decide) (List.mem_of_getElem? (i := 2) rfl) rfl rfl (by decide +kernel) rfl rfl (Nat.le_of_ble_eq_true rfl) (by subst e115; rfl) rfl ?_
          refine n_goto (t := 42) C dX6_isNumber_118 (by decide) ?_
          exact Wn.sub (lv' := [(0, .ref (aM 0)), (1, .int x1), (2, .int x2)]) [0, 1, 2] rfl (ih oM_115 hf)
set_option maxHeartbeats 4000000 in
set_option maxRecDepth 100000 in
theorem c6_isNumber (l : Launch) (D : va_G) (cyI cyO cyJ : ClassId) (aM : Nat → Nat) (n : Nat) (oM : OB) (x1 : Int32) (x2 : Int32) (z : Int32 × (OB)) (hf : f6_isNumber n oM x1 x2 = some z) : Ct l D (tyG cyI cyO cyJ) yX6_isNumber wsX6_isNumber rm6_isNumber 0 0 [.ref (aM 0), .int x1, .int x2] (bX6 cyI aM oM) (bX6 cyI aM z.2) (some (.int z.1)) := by
  refine Ct.of (cc := cX6_isNumber) (nL := 3) (ret := (some .boolean)) (lv := [(0, .ref (aM 0)), (1, .int x1), (2, .int x2)]) (by decide +kernel) rfl rfl (Nat.le_of_ble_eq_true rfl) ?_
  intro p e s m args below meth c A C
  have C : Cx p s m args meth c D (tyG cyI cyO cyJ) A RX6 cX6_isNumber 3 (some .boolean) wsX6_isNumber := C
  unfold f6_isNumber at hf
  refine n_aload_n C dX6_isNumber_0 0 rfl rfl ?_
  refine n_bipush (v := (nI 48)) C dX6_isNumber_1 (by decide) rfl ?_
  refine n_bipush (v := (nI 57)) C dX6_isNumber_3 (by decide) rfl ?_
  obtain ⟨z5, h5, hf⟩ := bi hf
  refine n_callV (As := [.int (nI 48), .int (nI 57)]) (rest := []) (w2 := bX6 cyI aM oM) C dX6_isNumber_5 (c6_isAt l D cyI cyO cyJ aM n oM (nI 48) (nI 57) z5 h5) (cwV 2 C.ts gX6_isNumber_X6_isAt rfl rfl rfl (by decide +kernel) ⟨Nat.le_of_ble_eq_true rfl, Nat.le_of_ble_eq_true rfl⟩) rfl (q0 := 0) (ci := 6) rfl rfl Frm.self rfl (Nat.le_of_ble_eq_true rfl) ⟨Nat.le_of_ble_eq_true rfl, Nat.le_of_ble_eq_true rfl⟩ rfl ?_
  refine n_if_ne (t := 16) C dX6_isNumber_8 (by decide) rfl (fun h8 => ?_) (fun h8 => ?_)
  · have hf := iq h8 hf
    refine n_aload_n C dX6_isNumber_16 0 rfl rfl ?_
    refine n_aload_n C dX6_isNumber_17 0 rfl rfl ?_
    refine n_get (N := 12) C dX6_isNumber_18 iw6_isNumber_X6 0 rfl rfl 4 (by decide) (List.mem_of_getElem? (i := 1) rfl) rfl rfl rfl ?_
    refine n_aload_n C dX6_isNumber_21 0 rfl rfl ?_
    refine n_get (N := 12) C dX6_isNumber_22 iw6_isNumber_X6 0 rfl rfl 7 (by decide) (List.mem_of_getElem? (i := 2) rfl) rfl rfl rfl ?_
    obtain ⟨x25, h25, hf⟩ := bi hf
    obtain ⟨h25, e25⟩ := ald_some h25
    refine n_iald C dX6_isNumber_25 4 0 rfl rfl h25 rfl ?_
    rw [← e25]
    refine n_bipush (v := (nI 48)) C dX6_isNumber_26 (by decide) rfl ?_
    refine n_isub C dX6_isNumber_28 rfl ?_
    obtain ⟨oM_29, e29, hf⟩ := bi hf
    replace e29 := Option.some.inj e29
    refine n_put (w2 := bX6 cyI aM oM_29) (N := 12) (ty := .int) C dX6_isNumber_29 iw6_isNumber_X6 tyX6_ok nmX6 0 rfl rfl 9 (by decide) (List.mem_of_getElem? (i := 3) rfl) rfl rfl (by decide +kernel) rfl rfl (Nat.le_of_ble_eq_true rfl) (by subst e29; rfl) rfl ?_
    refine n_aload_n C dX6_isNumber_32 0 rfl rfl ?_
    refine n_dup C dX6_isNumber_33 rfl rfl ?_
    refine n_get (N := 12) C dX6_isNumber_34 iw6_isNumber_X6 0 rfl rfl 7 (by decide) (List.mem_of_getElem? (i := 2) rfl) rfl rfl rfl ?_
    refine n_iconst (v := (nI 1)) C dX6_isNumber_37 (by decide) rfl ?_
    refine n_iadd C dX6_isNumber_38 rfl ?_
    obtain ⟨oM_39, e39, hf⟩ := bi hf
    replace e39 := Option.some.inj e39
    refine n_put (w2 := bX6 cyI aM oM_39) (N := 12) (ty := .int) C dX6_isNumber_39 iw6_isNumber_X6 tyX6_ok nmX6 0 rfl rfl 7 (by decide) (List.mem_of_getElem? (i := 2) rfl) rfl rfl (by decide +kernel) rfl rfl (Nat.le_of_ble_eq_true rfl) (by subst e39; rfl) rfl ?_
    exact Wn.sub (lv' := [(0, .ref (aM 0)), (1, .int x1), (2, .int x2)]) [0, 1, 2] rfl (t6_isNumber_b42 C n x1 x2 (fun oM hf => Wn.sub (lv' := [(0, .ref (aM 0)), (1, .int x1)]) [0, 1] rfl (t6_isNumber_b121 C n x1 x2 oM hf)) n oM_39 hf)
  · have hf := ip h8 hf
    refine n_aload_n C dX6_isNumber_11 0 rfl rfl ?_
    obtain ⟨z12, h12, hf⟩ := bi hf
    refine n_callV (As := []) (rest := []) (w2 := bX6 cyI aM z12.2) C dX6_isNumber_12 (c6_stops l D cyI cyO cyJ aM n oM z12 h12) (cwV 0 C.ts gX6_isNumber_X6_stops rfl rfl rfl (by decide +kernel) ⟨Nat.le_of_ble_eq_true rfl, Nat.le_of_ble_eq_true rfl⟩) rfl (q0 := 0) (ci := 6) rfl rfl Frm.self rfl (Nat.le_of_ble_eq_true rfl) ⟨Nat.le_of_ble_eq_true rfl, Nat.le_of_ble_eq_true rfl⟩ rfl ?_
    obtain ⟨y15, h15, hf⟩ := bi hf
    obtain ⟨h15, e15⟩ := zo_some h15
    obtain rfl := Option.some.inj hf
    subst e15
    exact n_zret C dX6_isNumber_15 (by assumption)
-- X6 isSign 
theorem iw6_isSign_X6 : ∀ w ∈ u_ws RX6 TX6 12, w ∈ wsX6_isSign := by decide +kernel
abbrev rm6_isSign : Room := { frames := 2, cells := 0, slots := 0, locals := 44 }
def f6_isSign (n : Nat) (oM : OB) (x1 : Int32) : Option (Int32 × (OB)) :=
  (f6_isAt n oM x1 x1).bind fun z3 => (if z3 = (0 : Int32) then (f6_stops n oM).bind fun z10 => (zo z10.1).bind fun y13 => some (y13, z10.2) else (some (gsi oM 7 ((oM.1 7) + (nI 1)))).bind fun oM_21 => some ((nI 1), oM_21))
set_option maxHeartbeats 4000000 in
set_option maxRecDepth 100000 in
theorem c6_isSign (l : Launch) (D : va_G) (cyI cyO cyJ : ClassId) (aM : Nat → Nat) (n : Nat) (oM : OB) (x1 : Int32) (z : Int32 × (OB)) (hf : f6_isSign n oM x1 = some z) : Ct l D (tyG cyI cyO cyJ) yX6_isSign wsX6_isSign rm6_isSign 0 0 [.ref (aM 0), .int x1] (bX6 cyI aM oM) (bX6 cyI aM z.2) (some (.int z.1)) := by
  refine Ct.of (cc := cX6_isSign) (nL := 2) (ret := (some .boolean)) (lv := [(0, .ref (aM 0)), (1, .int x1)]) (by decide +kernel) rfl rfl (Nat.le_of_ble_eq_true rfl) ?_
  intro p e s m args below meth c A C
  have C : Cx p s m args meth c D (tyG cyI cyO cyJ) A RX6 cX6_isSign 2 (some .boolean) wsX6_isSign := C
  unfold f6_isSign at hf
  refine n_aload_n C dX6_isSign_0 0 rfl rfl ?_
  refine n_iload_n C dX6_isSign_1 1 rfl rfl ?_
  refine n_iload_n C dX6_isSign_2 1 rfl rfl ?_
  obtain ⟨z3, h3, hf⟩ := bi hf
  refine n_callV (As := [.int x1, .int x1]) (rest := []) (w2 := bX6 cyI aM oM) C dX6_isSign_3 (c6_isAt l D cyI cyO cyJ aM n oM x1 x1 z3 h3) (cwV 2 C.ts gX6_isSign_X6_isAt rfl rfl rfl (by decide +kernel) ⟨Nat.le_of_ble_eq_true rfl, Nat.le_of_ble_eq_true rfl⟩) rfl (q0 := 0) (ci := 6) rfl rfl Frm.self rfl (Nat.le_of_ble_eq_true rfl) ⟨Nat.le_of_ble_eq_true rfl, Nat.le_of_ble_eq_true rfl⟩ rfl ?_
  refine n_if_ne (t := 14) C dX6_isSign_6 (by decide) rfl (fun h6 => ?_) (fun h6 => ?_)
  · have hf := iq h6 hf
    refine n_aload_n C dX6_isSign_14 0 rfl rfl ?_
    refine n_dup C dX6_isSign_15 rfl rfl ?_
    refine n_get (N := 12) C dX6_isSign_16 iw6_isSign_X6 0 rfl rfl 7 (by decide) (List.mem_of_getElem? (i := 1) rfl) rfl rfl rfl ?_
    refine n_iconst (v := (nI 1)) C dX6_isSign_19 (by decide) rfl ?_
    refine n_iadd C dX6_isSign_20 rfl ?_
    obtain ⟨oM_21, e21, hf⟩ := bi hf
    replace e21 := Option.some.inj e21
    refine n_put (w2 := bX6 cyI aM oM_21) (N := 12) (ty := .int) C dX6_isSign_21 iw6_isSign_X6 tyX6_ok nmX6 0 rfl rfl 7 (by decide) (List.mem_of_getElem? (i := 1) rfl) rfl rfl (by decide +kernel) rfl rfl (Nat.le_of_ble_eq_true rfl) (by subst e21; rfl) rfl ?_
    refine n_iconst (v := (nI 1)) C dX6_isSign_24 (by decide) rfl ?_
    obtain rfl := Option.some.inj hf
    exact n_zret C dX6_isSign_25 (Or.inr rfl)
  · have hf := ip h6 hf
    refine n_aload_n C dX6_isSign_9 0 rfl rfl ?_
    obtain ⟨z10, h10, hf⟩ := bi hf
    refine n_callV (As := []) (rest := []) (w2 := bX6 cyI aM z10.2) C dX6_isSign_10 (c6_stops l D cyI cyO cyJ aM n oM z10 h10) (cwV 0 C.ts gX6_isSign_X6_stops rfl rfl rfl (by decide +kernel) ⟨Nat.le_of_ble_eq_true rfl, Nat.le_of_ble_eq_true rfl⟩) rfl (q0 := 0) (ci := 6) rfl rfl Frm.self rfl (Nat.le_of_ble_eq_true rfl) ⟨Nat.le_of_ble_eq_true rfl, Nat.le_of_ble_eq_true rfl⟩ rfl ?_
    obtain ⟨y13, h13, hf⟩ := bi hf
    obtain ⟨h13, e13⟩ := zo_some h13
    obtain rfl := Option.some.inj hf
    subst e13
    exact n_zret C dX6_isSign_13 (by assumption)
-- X6 isPart 
theorem iw6_isPart_X6 : ∀ w ∈ u_ws RX6 TX6 12, w ∈ wsX6_isPart := by decide +kernel
abbrev rm6_isPart : Room := { frames := 3, cells := 0, slots := 0, locals := 66 }
def f6_isPart (n : Nat) (oM : OB) : Option (Int32 × (OB)) :=
  (f6_isNumber n oM (nI 0) (nI 27)).bind fun z4 => (if z4.1 = (0 : Int32) then some ((nI 0), z4.2) else (f6_isSign n z4.2 (nI 61)).bind fun z13 => (if z13.1 = (0 : Int32) then some ((nI 0), z13.2) else (oast z13.2 10 68 (((nI 4) * (z13.2.1 11)) + (nI 1)) (nI 1)).bind fun oM_34 => (f6_isAt n oM_34 (nI 119) (nI 119)).bind fun z40 => (if z40 = (0 : Int32) then (f6_isNumber n oM_34 (nI 2) (nI 99)).bind fun z50 => (if z50.1 = (0 : Int32) then some ((nI 0), z50.2) else (f6_isSign n z50.2 (nI 58)).bind fun z59 => (if z59.1 = (0 : Int32) then some ((nI 0), z59.2) else (f6_isNumber n z59.2 (nI 3) (nI 99)).bind fun z69 => (if z69.1 = (0 : Int32) then some ((nI 0), z69.2) else some ((nI 1), z69.2)))) else (some (gsi oM_34 7 ((oM_34.1 7) + (nI 1)))).bind fun oM_88 => (f6_isAt n oM_88 (nI 49) (nI 50)).bind fun z96 => (if z96 = (0 : Int32) then (f6_stops n oM_88).bind fun z103 => (zo z103.1).bind fun y106 => some (y106, z103.2) else (ald 60 (oM_88.2 4) (oM_88.1 7)).bind fun x128 => (oast oM_88 10 68 (((nI 4) * (oM_88.1 11)) + (nI 1)) (((nI 1) + x128) - (nI 48))).bind fun oM_133 => (oast oM_133 10 68 (((nI 4) * (oM_133.1 11)) + (nI 2)) (nI 0)).bind fun oM_147 => (oast oM_147 10 68 (((nI 4) * (oM_147.1 11)) + (nI 3)) (nI 0)).bind fun oM_161 => (some (gsi oM_161 7 ((oM_161.1 7) + (nI 1)))).bind fun oM_169 => some ((nI 1), oM_169)))))
set_option maxHeartbeats 4000000 in
set_option maxRecDepth 100000 in
theorem c6_isPart (l : Launch) (D : va_G) (cyI cyO cyJ : ClassId) (aM : Nat → Nat) (n : Nat) (oM : OB) (z : Int32 × (OB)) (hf : f6_isPart n oM = some z) : Ct l D (tyG cyI cyO cyJ) yX6_isPart wsX6_isPart rm6_isPart 0 0 [.ref (aM 0)] (bX6 cyI aM oM) (bX6 cyI aM z.2) (some (.int z.1)) := by
  refine Ct.of (cc := cX6_isPart) (nL := 1) (ret := (some .boolean)) (lv := [(0, .ref (aM 0))]) (by decide +kernel) rfl rfl (Nat.le_of_ble_eq_true rfl) ?_
  intro p e s m args below meth c A C
  have C : Cx p s m args meth c D (tyG cyI cyO cyJ) A RX6 cX6_isPart 1 (some .boolean) wsX6_isPart := C
  unfold f6_isPart at hf
  refine n_aload_n C dX6_isPart_0 0 rfl rfl ?_
  refine n_iconst (v := (nI 0)) C dX6_isPart_1 (by decide) rfl ?_
  refine n_bipush (v := (nI 27)) C dX6_isPart_2 (by decide) rfl ?_
  obtain ⟨z4, h4, hf⟩ := bi hf
  refine n_callV (As := [.int (nI 0), .int (nI 27)]) (rest := []) (w2 := bX6 cyI aM z4.2) C dX6_isPart_4 (c6_isNumber l D cyI cyO cyJ aM n oM (nI 0) (nI 27) z4 h4) (cwV 2 C.ts gX6_isPart_X6_isNumber rfl rfl rfl (by decide +kernel) ⟨Nat.le_of_ble_eq_true rfl, Nat.le_of_ble_eq_true rfl⟩) rfl (q0 := 0) (ci := 6) rfl rfl Frm.self rfl (Nat.le_of_ble_eq_true rfl) ⟨Nat.le_of_ble_eq_true rfl, Nat.le_of_ble_eq_true rfl⟩ rfl ?_
  refine n_if_eq (t := 19) C dX6_isPart_7 (by decide) rfl (fun h7 => ?_) (fun h7 => ?_)
  · have hf := ip h7 hf
    refine n_iconst (v := (nI 0)) C dX6_isPart_19 (by decide) rfl ?_
    obtain rfl := Option.some.inj hf
    exact n_zret C dX6_isPart_20 (Or.inl rfl)
  · have hf := iq h7 hf
    refine n_aload_n C dX6_isPart_10 0 rfl rfl ?_
    refine n_bipush (v := (nI 61)) C dX6_isPart_11 (by decide) rfl ?_
    obtain ⟨z13, h13, hf⟩ := bi hf
    refine n_callV (As := [.int (nI 61)]) (rest := []) (w2 := bX6 cyI aM z13.2) C dX6_isPart_13 (c6_isSign l D cyI cyO cyJ aM n z4.2 (nI 61) z13 h13) (cwV 1 C.ts gX6_isPart_X6_isSign rfl rfl rfl (by decide +kernel) ⟨Nat.le_of_ble_eq_true rfl, Nat.le_of_ble_eq_true rfl⟩) rfl (q0 := 0) (ci := 6) rfl rfl Frm.self rfl (Nat.le_of_ble_eq_true rfl) ⟨Nat.le_of_ble_eq_true rfl, Nat.le_of_ble_eq_true rfl⟩ rfl ?_
    refine n_if_ne (t := 21) C dX6_isPart_16 (by decide) rfl (fun h16 => ?_) (fun h16 => ?_)
    · have hf := iq h16 hf
      refine n_aload_n C dX6_isPart_21 0 rfl rfl ?_
      refine n_get (N := 12) C dX6_isPart_22 iw6_isPart_X6 0 rfl rfl 10 (by decide) (List.mem_of_getElem? (i := 1) rfl) rfl rfl rfl ?_
      refine n_iconst (v := (nI 4)) C dX6_isPart_25 (by decide) rfl ?_
      refine n_aload_n C dX6_isPart_26 0 rfl rfl ?_
      refine n_get (N := 12) C dX6_isPart_27 iw6_isPart_X6 0 rfl rfl 11 (by decide) (List.mem_of_getElem? (i := 2) rfl) rfl rfl rfl ?_
      refine n_imul C dX6_isPart_30 rfl ?_
      refine n_iconst (v := (nI 1)) C dX6_isPart_31 (by decide) rfl ?_
      refine n_iadd C dX6_isPart_32 rfl ?_
      refine n_iconst (v := (nI 1)) C dX6_isPart_33 (by decide) rfl ?_
      obtain ⟨oM_34, h34, hf⟩ := bi hf
      obtain ⟨h34, e34⟩ := oast_some h34
      refine n_iast (w2 := bX6 cyI aM oM_34) C dX6_isPart_34 5 0 rfl rfl h34 (by subst e34; rfl) rfl ?_
      refine n_aload_n C dX6_isPart_35 0 rfl rfl ?_
      refine n_bipush (v := (nI 119)) C dX6_isPart_36 (by decide) rfl ?_
      refine n_bipush (v := (nI 119)) C dX6_isPart_38 (by decide) rfl ?_
      obtain ⟨z40, h40, hf⟩ := bi hf
      refine n_callV (As := [.int (nI 119), .int (nI 119)]) (rest := []) (w2 := bX6 cyI aM oM_34) C dX6_isPart_40 (c6_isAt l D cyI cyO cyJ aM n oM_34 (nI 119) (nI 119) z40 h40) (cwV 2 C.ts gX6_isPart_X6_isAt rfl rfl rfl (by decide +kernel) ⟨Nat.le_of_ble_eq_true rfl, Nat.le_of_ble_eq_true rfl⟩) rfl (q0 := 0) (ci := 6) rfl rfl Frm.self rfl (Nat.le_of_ble_eq_true rfl) ⟨Nat.le_of_ble_eq_true rfl, Nat.le_of_ble_eq_true rfl⟩ rfl ?_
      refine n_if_ne (t := 81) C dX6_isPart_43 (by decide) rfl (fun h43 => ?_) (fun h43 => ?_)
      · have hf := iq h43 hf
        refine n_aload_n C dX6_isPart_81 0 rfl rfl ?_
        refine n_dup C dX6_isPart_82 rfl rfl ?_
        refine n_get (N := 12) C dX6_isPart_83 iw6_isPart_X6 0 rfl rfl 7 (by decide) (List.mem_of_getElem? (i := 3) rfl) rfl rfl rfl ?_
        refine n_iconst (v := (nI 1)) C dX6_isPart_86 (by decide) rfl ?_
        refine n_iadd C dX6_isPart_87 rfl ?_
        obtain ⟨oM_88, e88, hf⟩ := bi hf
        replace e88 := Option.some.inj e88
        refine n_put (w2 := bX6 cyI aM oM_88) (N := 12) (ty := .int) C dX6_isPart_88 iw6_isPart_X6 tyX6_ok nmX6 0 rfl rfl 7 (by decide) (List.mem_of_getElem? (i := 3) rfl) rfl rfl (by decide +kernel) rfl rfl (Nat.le_of_ble_eq_true rfl) (by subst e88; rfl) rfl ?_
        refine n_aload_n C dX6_isPart_91 0 rfl rfl ?_
        refine n_bipush (v := (nI 49)) C dX6_isPart_92 (by decide) rfl ?_
        refine n_bipush (v := (nI 50)) C dX6_isPart_94 (by decide) rfl ?_
        obtain ⟨z96, h96, hf⟩ := bi hf
        refine n_callV (As := [.int (nI 49), .int (nI 50)]) (rest := []) (w2 := bX6 cyI aM oM_88) C dX6_isPart_96 (c6_isAt l D cyI cyO cyJ aM n oM_88 (nI 49) (nI 50) z96 h96) (cwV 2 C.ts gX6_isPart_X6_isAt rfl rfl rfl (by decide +kernel) ⟨Nat.le_of_ble_eq_true rfl, Nat.le_of_ble_eq_true rfl⟩) rfl (q0 := 0) (ci := 6) rfl rfl Frm.self rfl (Nat.le_of_ble_eq_true rfl) ⟨Nat.le_of_ble_eq_true rfl, Nat.le_of_ble_eq_true rfl⟩ rfl ?_
        refine n_if_ne (t := 107) C dX6_isPart_99 (by decide) rfl (fun h99 => ?_) (fun h99 => ?_)
        · have hf := iq h99 hf
          refine n_aload_n C dX6_isPart_107 0 rfl rfl ?_
          refine n_get (N := 12) C dX6_isPart_108 iw6_isPart_X6 0 rfl rfl 10 (by decide) (List.mem_of_getElem? (i := 1) rfl) rfl rfl rfl ?_
          refine n_iconst (v := (nI 4)) C dX6_isPart_111 (by decide) rfl ?_
          refine n_aload_n C dX6_isPart_112 0 rfl rfl ?_
          refine n_get (N := 12) C dX6_isPart_113 iw6_isPart_X6 0 rfl rfl 11 (by decide) (List.mem_of_getElem? (i := 2) rfl) rfl rfl rfl ?_
          refine n_imul C dX6_isPart_116 rfl ?_
          refine n_iconst (v := (nI 1)) C dX6_isPart_117 (by decide) rfl ?_
          refine n_iadd C dX6_isPart_118 rfl ?_
          refine n_iconst (v := (nI 1)) C dX6_isPart_119 (by decide) rfl ?_
          refine n_aload_n C dX6_isPart_120 0 rfl rfl ?_
          refine n_get (N := 12) C dX6_isPart_121 iw6_isPart_X6 0 rfl rfl 4 (by decide) (List.mem_of_getElem? (i := 4) rfl) rfl rfl rfl ?_
          refine n_aload_n C dX6_isPart_124 0 rfl rfl ?_
          refine n_get (N := 12) C dX6_isPart_125 iw6_isPart_X6 0 rfl rfl 7 (by decide) (List.mem_of_getElem? (i := 3) rfl) rfl rfl rfl ?_
          obtain ⟨x128, h128, hf⟩ := bi hf
          obtain ⟨h128, e128⟩ := ald_some h128
          refine n_iald C dX6_isPart_128 4 0 rfl rfl h128 rfl ?_
          rw [← e128]
          refine n_iadd C dX6_isPart_129 rfl ?_
          refine n_bipush (v := (nI 48)) C dX6_isPart_130 (by decide) rfl ?_
          refine n_isub C dX6_isPart_132 rfl ?_
          obtain ⟨oM_133, h133, hf⟩ := bi hf
          obtain ⟨h133, e133⟩ := oast_some h133
          refine n_iast (w2 := bX6 cyI aM oM_133) C dX6_isPart_133 5 0 rfl rfl h133 (by subst e133; rfl) rfl ?_
          refine n_aload_n C dX6_isPart_134 0 rfl rfl ?_
          refine n_get (N := 12) C dX6_isPart_135 iw6_isPart_X6 0 rfl rfl 10 (by decide) (List.mem_of_getElem? (i := 1) rfl) rfl rfl rfl ?_
          refine n_iconst (v := (nI 4)) C dX6_isPart_138 (by decide) rfl ?_
          refine n_aload_n C dX6_isPart_139 0 rfl rfl ?_
          refine n_get (N := 12) C dX6_isPart_140 iw6_isPart_X6 0 rfl rfl 11 (by decide) (List.mem_of_getElem? (i := 2) rfl) rfl rfl rfl ?_
          refine n_imul C dX6_isPart_143 rfl ?_
          refine n_iconst (v := (nI 2)) C dX6_isPart_144 (by decide) rfl ?_
          refine n_iadd C dX6_isPart_145 rfl ?_
          refine n_iconst (v := (nI 0)) C dX6_isPart_146 (by decide) rfl ?_
          obtain ⟨oM_147, h147, hf⟩ := bi hf
          obtain ⟨h147, e147⟩ := oast_some h147
          refine n_iast (w2 := bX6 cyI aM oM_147) C dX6_isPart_147 5 0 rfl rfl h147 (by subst e147; rfl) rfl ?_
          refine n_aload_n C dX6_isPart_148 0 rfl rfl ?_
          refine n_get (N := 12) C dX6_isPart_149 iw6_isPart_X6 0 rfl rfl 10 (by decide) (List.mem_of_getElem? (i := 1) rfl) rfl rfl rfl ?_
          refine n_iconst (v := (nI 4)) C dX6_isPart_152 (by decide) rfl ?_
          refine n_aload_n C dX6_isPart_153 0 rfl rfl ?_
          refine n_get (N := 12) C dX6_isPart_154 iw6_isPart_X6 0 rfl rfl 11 (by decide) (List.mem_of_getElem? (i := 2) rfl) rfl rfl rfl ?_
          refine n_imul C dX6_isPart_157 rfl ?_
          refine n_iconst (v := (nI 3)) C dX6_isPart_158 (by decide) rfl ?_
          refine n_iadd C dX6_isPart_159 rfl ?_
          refine n_iconst (v := (nI 0)) C dX6_isPart_160 (by decide) rfl ?_
          obtain ⟨oM_161, h161, hf⟩ := bi hf
          obtain ⟨h161, e161⟩ := oast_some h161
          refine n_iast (w2 := bX6 cyI aM oM_161) C dX6_isPart_161 5 0 rfl rfl h161 (by subst e161; rfl) rfl ?_
          refine n_aload_n C dX6_isPart_162 0 rfl rfl ?_
          refine n_dup C dX6_isPart_163 rfl rfl ?_
          refine n_get (N := 12) C dX6_isPart_164 iw6_isPart_X6 0 rfl rfl 7 (by decide) (List.mem_of_getElem? (i := 3) rfl) rfl rfl rfl ?_
          refine n_iconst (v := (nI 1)) C dX6_isPart_167 (by decide) rfl ?_
          refine n_iadd C dX6_isPart_168 rfl ?_
          obtain ⟨oM_169, e169, hf⟩ := bi hf
          replace e169 := Option.some.inj e169
          refine n_put (w2 := bX6 cyI aM oM_169) (N := 12) (ty := .int) C dX6_isPart_169 iw6_isPart_X6 tyX6_ok nmX6 0 rfl rfl 7 (by decide) (List.mem_of_getElem? (i := 3) rfl) rfl rfl (by decide +kernel) rfl rfl (Nat.le_of_ble_eq_true rfl) (by subst e169; rfl) rfl ?_
          refine n_iconst (v := (nI 1)) C dX6_isPart_172 (by decide) rfl ?_
          obtain rfl := Option.some.inj hf
          exact n_zret C dX6_isPart_173 (Or.inr rfl)
        · have hf := ip h99 hf
          refine n_aload_n C dX6_isPart_102 0 rfl rfl ?_
          obtain ⟨z103, h103, hf⟩ := bi hf
          refine n_callV (As := []) (rest := []) (w2 := bX6 cyI aM z103.2) C dX6_isPart_103 (c6_stops l D cyI cyO cyJ aM n oM_88 z103 h103) (cwV 0 C.ts gX6_isPart_X6_stops rfl rfl rfl (by decide +kernel) ⟨Nat.le_of_ble_eq_true rfl, Nat.le_of_ble_eq_true rfl⟩) rfl (q0 := 0) (ci := 6) rfl rfl Frm.self rfl (Nat.le_of_ble_eq_true rfl) ⟨Nat.le_of_ble_eq_true rfl, Nat.le_of_ble_eq_true rfl⟩ rfl ?_
          obtain ⟨y106, h106, hf⟩ := bi hf
          obtain ⟨h106, e106⟩ := zo_some h106
          obtain rfl := Option.some.inj hf
          subst e106
          exact n_zret C dX6_isPart_106 (by assumption)
      · have hf := ip h43 hf
        refine n_aload_n C dX6_isPart_46 0 rfl rfl ?_
        refine n_iconst (v := (nI 2)) C dX6_isPart_47 (by decide) rfl ?_
        refine n_bipush (v := (nI 99)) C dX6_isPart_48 (by decide) rfl ?_
        obtain ⟨z50, h50, hf⟩ := bi hf
        refine n_callV (As := [.int (nI 2), .int (nI 99)]) (rest := []) (w2 := bX6 cyI aM z50.2) C dX6_isPart_50 (c6_isNumber l D cyI cyO cyJ aM n oM_34 (nI 2) (nI 99) z50 h50) (cwV 2 C.ts gX6_isPart_X6_isNumber rfl rfl rfl (by decide +kernel) ⟨Nat.le_of_ble_eq_true rfl, Nat.le_of_ble_eq_true rfl⟩) rfl (q0 := 0) (ci := 6) rfl rfl Frm.self rfl (Nat.le_of_ble_eq_true rfl) ⟨Nat.le_of_ble_eq_true rfl, Nat.le_of_ble_eq_true rfl⟩ rfl ?_
        refine n_if_eq (t := 79) C dX6_isPart_53 (by decide) rfl (fun h53 => ?_) (fun h53 => ?_)
        · have hf := ip h53 hf
          refine n_iconst (v := (nI 0)) C dX6_isPart_79 (by decide) rfl ?_
          obtain rfl := Option.some.inj hf
          exact n_zret C dX6_isPart_80 (Or.inl rfl)
        · have hf := iq h53 hf
          refine n_aload_n C dX6_isPart_56 0 rfl rfl ?_
          refine n_bipush (v := (nI 58)) C dX6_isPart_57 (by decide) rfl ?_
          obtain ⟨z59, h59, hf⟩ := bi hf
          refine n_callV (As := [.int (nI 58)]) (rest := []) (w2 := bX6 cyI aM z59.2) C dX6_isPart_59 (c6_isSign l D cyI cyO cyJ aM n z50.2 (nI 58) z59 h59) (cwV 1 C.ts gX6_isPart_X6_isSign rfl rfl rfl (by decide +kernel) ⟨Nat.le_of_ble_eq_true rfl, Nat.le_of_ble_eq_true rfl⟩) rfl (q0 := 0) (ci := 6) rfl rfl Frm.self rfl (Nat.le_of_ble_eq_true rfl) ⟨Nat.le_of_ble_eq_true rfl, Nat.le_of_ble_eq_true rfl⟩ rfl ?_
          refine n_if_eq (t := 79) C dX6_isPart_62 (by decide) rfl (fun h62 => ?_) (fun h62 => ?_)
          · have hf := ip h62 hf
            refine n_iconst (v := (nI 0)) C dX6_isPart_79 (by decide) rfl ?_
            obtain rfl := Option.some.inj hf
            exact n_zret C dX6_isPart_80 (Or.inl rfl)
          · have hf := iq h62 hf
            refine n_aload_n C dX6_isPart_65 0 rfl rfl ?_
            refine n_iconst (v := (nI 3)) C dX6_isPart_66 (by decide) rfl ?_
            refine n_bipush (v := (nI 99)) C dX6_isPart_67 (by decide) rfl ?_
            obtain ⟨z69, h69, hf⟩ := bi hf
            refine n_callV (As := [.int (nI 3), .int (nI 99)]) (rest := []) (w2 := bX6 cyI aM z69.2) C dX6_isPart_69 (c6_isNumber l D cyI cyO cyJ aM n z59.2 (nI 3) (nI 99) z69 h69) (cwV 2 C.ts gX6_isPart_X6_isNumber rfl rfl rfl (by decide +kernel) ⟨Nat.le_of_ble_eq_true rfl, Nat.le_of_ble_eq_true rfl⟩) rfl (q0 := 0) (ci := 6) rfl rfl Frm.self rfl (Nat.le_of_ble_eq_true rfl) ⟨Nat.le_of_ble_eq_true rfl, Nat.le_of_ble_eq_true rfl⟩ rfl ?_
            refine n_if_eq (t := 79) C dX6_isPart_72 (by decide) rfl (fun h72 => ?_) (fun h72 => ?_)
            · have hf := ip h72 hf
              refine n_iconst (v := (nI 0)) C dX6_isPart_79 (by decide) rfl ?_
              obtain rfl := Option.some.inj hf
              exact n_zret C dX6_isPart_80 (Or.inl rfl)
            · have hf := iq h72 hf
              refine n_iconst (v := (nI 1)) C dX6_isPart_75 (by decide) rfl ?_
              refine n_goto (t := 80) C dX6_isPart_76 (by decide) ?_
              obtain rfl := Option.some.inj hf
              exact n_zret C dX6_isPart_80 (Or.inr rfl)
    · have hf := ip h16 hf
      refine n_iconst (v := (nI 0)) C dX6_isPart_19 (by decide) rfl ?_
      obtain rfl := Option.some.inj hf
      exact n_zret C dX6_isPart_20 (Or.inl rfl)
-- X6 isText 
theorem iw6_isText_X6 : ∀ w ∈ u_ws RX6 TX6 12, w ∈ wsX6_isText := by decide +kernel
abbrev rm6_isText : Room := { frames := 4, cells := 0, slots := 0, locals := 86 }
def f6_isText_b87 (n : Nat) (s1 : Int32) (oM : OB) : Option (Int32 × (OB)) :=
  (zo s1).bind fun _ => (some (gsi oM 8 s1)).bind fun oM_87 => (if (oM_87.1 7) = (oM_87.1 5) then some ((nI 1), oM_87) else some ((nI 0), oM_87))
def f6_isText_b70 (n : Nat) (oM : OB) : Option (Int32 × (OB)) :=
  (if (oM.1 5) ≤ (oM.1 7) then f6_isText_b87 n (nI 0) oM else f6_isText_b87 n (nI 1) oM)
def f6_isText_b17 (n : Nat) (k70 : OB → Option (Int32 × (OB))) : Nat → Int32 → OB → Option (Int32 × (OB))
  | 0, _, _ => none
  | k + 1, v1, oM =>
    (if v1 = (0 : Int32) then k70 oM else (f6_isPart n oM).bind fun z22 => (if z22.1 = (0 : Int32) then some ((nI 0), z22.2) else (some (gsi z22.2 11 ((z22.2.1 11) + (nI 1)))).bind fun oM_37 => (f6_isAt n oM_37 (nI 59) (nI 59)).bind fun z45 => (if z45 = (0 : Int32) then (some (gsi oM_37 7 ((oM_37.1 7) + (nI 0)))).bind fun oM_64 => (f6_isText_b17 n k70 k) z45 oM_64 else (some (gsi oM_37 7 ((oM_37.1 7) + (nI 1)))).bind fun oM_64 => (f6_isText_b17 n k70 k) z45 oM_64)))
def f6_isText (n : Nat) (oM : OB) : Option (Int32 × (OB)) :=
  (some (gsi oM 7 (nI 0))).bind fun oM_2 => (some (gsi oM_2 11 (nI 0))).bind fun oM_7 => (some (gsi oM_7 8 (nI 0))).bind fun oM_12 => f6_isText_b17 n (fun oM => f6_isText_b70 n oM) n (nI 1) oM_12
set_option maxHeartbeats 4000000 in
set_option maxRecDepth 100000 in
theorem t6_isText_b87 {l : Launch} {p : Program} {e : Env} {s : State} {m : MethodId} {args : Array Value} {below : List Frame} {meth : Method} {c : Code} {D : va_G} {A : Nat → Prop} {cyI cyO cyJ : ClassId} {aM : Nat → Nat} (C : Cx p s m args meth c D (tyG cyI cyO cyJ) A RX6 cX6_isText 2 (some .boolean) wsX6_isText) {z : Int32 × (OB)} (n : Nat) (s1 : Int32) (oM : OB) (hf : f6_isText_b87 n s1 oM = some z) : Wn p l e rm6_isText s m args below meth c D A 2 0 0 (MQ below (Qr D (tyG cyI cyO cyJ) (bX6 cyI aM z.2) A (some (.int z.1))) args s 0 0 A) (bX6 cyI aM oM) 87 [(0, .ref (aM 0))] [.int s1, .ref (aM 0)] := by
  unfold f6_isText_b87 at hf
  obtain ⟨y87, h87, hf⟩ := bi hf
  obtain ⟨oM_87, e87, hf⟩ := bi hf
  replace e87 := Option.some.inj e87
  refine n_put (w2 := bX6 cyI aM oM_87) (N := 12) (ty := .boolean) C dX6_isText_87 iw6_isText_X6 tyX6_ok nmX6 0 rfl rfl 8 (by decide) (List.mem_of_getElem? (i := 3) rfl) rfl rfl (by decide +kernel) (zo_nar h87) (zo_fit h87) (Nat.le_of_ble_eq_true rfl) (by subst e87; rfl) rfl ?_
  refine n_aload_n C dX6_isText_90 0 rfl rfl ?_
  refine n_get (N := 12) C dX6_isText_91 iw6_isText_X6 0 rfl rfl 7 (by decide) (List.mem_of_getElem? (i := 1) rfl) rfl rfl rfl ?_
  refine n_aload_n C dX6_isText_94 0 rfl rfl ?_
  refine n_get (N := 12) C dX6_isText_95 iw6_isText_X6 0 rfl rfl 5 (by decide) (List.mem_of_getElem? (i := 4) rfl) rfl rfl rfl ?_
  refine n_icmp_ne (t := 105) C dX6_isText_98 (by decide) rfl (fun h98 => ?_) (fun h98 => ?_)
  · have hf := iq h98 hf
    refine n_iconst (v := (nI 0)) C dX6_isText_105 (by decide) rfl ?_
    obtain rfl := Option.some.inj hf
    exact n_zret C dX6_isText_106 (Or.inl rfl)
  · have hf := ip h98 hf
    refine n_iconst (v := (nI 1)) C dX6_isText_101 (by decide) rfl ?_
    refine n_goto (t := 106) C dX6_isText_102 (by decide) ?_
    obtain rfl := Option.some.inj hf
    exact n_zret C dX6_isText_106 (Or.inr rfl)
set_option maxHeartbeats 4000000 in
set_option maxRecDepth 100000 in
theorem t6_isText_b70 {l : Launch} {p : Program} {e : Env} {s : State} {m : MethodId} {args : Array Value} {below : List Frame} {meth : Method} {c : Code} {D : va_G} {A : Nat → Prop} {cyI cyO cyJ : ClassId} {aM : Nat → Nat} (C : Cx p s m args meth c D (tyG cyI cyO cyJ) A RX6 cX6_isText 2 (some .boolean) wsX6_isText) {z : Int32 × (OB)} (n : Nat) (oM : OB) (hf : f6_isText_b70 n oM = some z) : Wn p l e rm6_isText s m args below meth c D A 2 0 0 (MQ below (Qr D (tyG cyI cyO cyJ) (bX6 cyI aM z.2) A (some (.int z.1))) args s 0 0 A) (bX6 cyI aM oM) 70 [(0, .ref (aM 0))] [] := by
  unfold f6_isText_b70 at hf
  refine n_aload_n C dX6_isText_70 0 rfl rfl ?_
  refine n_aload_n C dX6_isText_71 0 rfl rfl ?_
  refine n_get (N := 12) C dX6_isText_72 iw6_isText_X6 0 rfl rfl 7 (by decide) (List.mem_of_getElem? (i := 1) rfl) rfl rfl rfl ?_
  refine n_aload_n C dX6_isText_75 0 rfl rfl ?_
  refine n_get (N := 12) C dX6_isText_76 iw6_isText_X6 0 rfl rfl 5 (by decide) (List.mem_of_getElem? (i := 4) rfl) rfl rfl rfl ?_
  refine n_icmp_ge (t := 86) C dX6_isText_79 (by decide) rfl (fun h79 => ?_) (fun h79 => ?_)
  · have hf := ip h79 hf
    refine n_iconst (v := (nI 0)) C dX6_isText_86 (by decide) rfl ?_
    exact Wn.sub (lv' := [(0, .ref (aM 0))]) [0] rfl (t6_isText_b87 C n (nI 0) oM hf)
  · have hf := iq h79 hf
    refine n_iconst (v := (nI 1)) C dX6_isText_82 (by decide) rfl ?_
    refine n_goto (t := 87) C dX6_isText_83 (by decide) ?_
    exact Wn.sub (lv' := [(0, .ref (aM 0))]) [0] rfl (t6_isText_b87 C n (nI 1) oM hf)
set_option maxHeartbeats 4000000 in
set_option maxRecDepth 100000 in
theorem t6_isText_b17 {l : Launch} {p : Program} {e : Env} {s : State} {m : MethodId} {args : Array Value} {below : List Frame} {meth : Method} {c : Code} {D : va_G} {A : Nat → Prop} {cyI cyO cyJ : ClassId} {aM : Nat → Nat} (C : Cx p s m args meth c D (tyG cyI cyO cyJ) A RX6 cX6_isText 2 (some .boolean) wsX6_isText) {z : Int32 × (OB)} (n : Nat) {k70 : OB → Option (Int32 × (OB))} (hk70 : ∀ (oM : OB), k70 oM = some z → Wn p l e rm6_isText s m args below meth c D A 2 0 0 (MQ below (Qr D (tyG cyI cyO cyJ) (bX6 cyI aM z.2) A (some (.int z.1))) args s 0 0 A) (bX6 cyI aM oM) 70 [(0, .ref (aM 0))] []) : ∀ (k : Nat) (v1 : Int32) (oM : OB), f6_isText_b17 n k70 k v1 oM = some z → Wn p l e rm6_isText s m args below meth c D A 2 0 0 (MQ below (Qr D (tyG cyI cyO cyJ) (bX6 cyI aM z.2) A (some (.int z.1))) args s 0 0 A) (bX6 cyI aM oM) 17 [(0, .ref (aM 0)), (1, .int v1)] [] := by
  intro k
  induction k with
  | zero => intro  v1 oM hf; cases hf
  | succ k ih =>
    intro  v1 oM hf
    unfold f6_isText_b17 at hf
    refine n_iload_n C dX6_isText_17 1 rfl rfl ?_
    refine n_if_eq (t := 70) C dX6_isText_18 (by decide) rfl (fun h18 => ?_) (fun h18 => ?_)
    · have hf := ip h18 hf
      exact Wn.sub (lv' := [(0, .ref (aM 0))]) [0] rfl (hk70 oM hf)
    · have hf := iq h18 hf
      refine n_aload_n C dX6_isText_21 0 rfl rfl ?_
      obtain ⟨z22, h22, hf⟩ := bi hf
      refine n_callV (As := []) (rest := []) (w2 := bX6 cyI aM z22.2) C dX6_isText_22 (c6_isPart l D cyI cyO cyJ aM n oM z22 h22) (cwV 0 C.ts gX6_isText_X6_isPart rfl rfl rfl (by decide +kernel) ⟨Nat.le_of_ble_eq_true rfl, Nat.le_of_ble_eq_true rfl⟩) rfl (q0 := 0) (ci := 6) rfl rfl Frm.self rfl (Nat.le_of_ble_eq_true rfl) ⟨Nat.le_of_ble_eq_true rfl, Nat.le_of_ble_eq_true rfl⟩ rfl ?_
      refine n_if_ne (t := 30) C dX6_isText_25 (by decide) rfl (fun h25 => ?_) (fun h25 => ?_)
      · have hf := iq h25 hf
        refine n_aload_n C dX6_isText_30 0 rfl rfl ?_
        refine n_dup C dX6_isText_31 rfl rfl ?_
        refine n_get (N := 12) C dX6_isText_32 iw6_isText_X6 0 rfl rfl 11 (by decide) (List.mem_of_getElem? (i := 2) rfl) rfl rfl rfl ?_
        refine n_iconst (v := (nI 1)) C dX6_isText_35 (by decide) rfl ?_
        refine n_iadd C dX6_isText_36 rfl ?_
        obtain ⟨oM_37, e37, hf⟩ := bi hf
        replace e37 := Option.some.inj e37
        refine n_put (w2 := bX6 cyI aM oM_37) (N := 12) (ty := .int) C dX6_isText_37 iw6_isText_X6 tyX6_ok nmX6 0 rfl rfl 11 (by decide) (List.mem_of_getElem? (i := 2) rfl) rfl rfl (by decide +kernel) rfl rfl (Nat.le_of_ble_eq_true rfl) (by subst e37; rfl) rfl ?_
        refine n_aload_n C dX6_isText_40 0 rfl rfl ?_
        refine n_bipush (v := (nI 59)) C dX6_isText_41 (by decide) rfl ?_
        refine n_bipush (v := (nI 59)) C dX6_isText_43 (by decide) rfl ?_
        obtain ⟨z45, h45, hf⟩ := bi hf
        refine n_callV (As := [.int (nI 59), .int (nI 59)]) (rest := []) (w2 := bX6 cyI aM oM_37) C dX6_isText_45 (c6_isAt l D cyI cyO cyJ aM n oM_37 (nI 59) (nI 59) z45 h45) (cwV 2 C.ts gX6_isText_X6_isAt rfl rfl rfl (by decide +kernel) ⟨Nat.le_of_ble_eq_true rfl, Nat.le_of_ble_eq_true rfl⟩) rfl (q0 := 0) (ci := 6) rfl rfl Frm.self rfl (Nat.le_of_ble_eq_true rfl) ⟨Nat.le_of_ble_eq_true rfl, Nat.le_of_ble_eq_true rfl⟩ rfl ?_
        refine n_istore_n (lv' := [(1, .int z45), (0, .ref (aM 0))]) C dX6_isText_48 (by decide) rfl rfl ?_
        refine n_aload_n C dX6_isText_49 1 rfl rfl ?_
        refine n_dup C dX6_isText_50 rfl rfl ?_
        refine n_get (N := 12) C dX6_isText_51 iw6_isText_X6 0 rfl rfl 7 (by decide) (List.mem_of_getElem? (i := 1) rfl) rfl rfl rfl ?_
        refine n_iload_n C dX6_isText_54 0 rfl rfl ?_
        refine n_if_eq (t := 62) C dX6_isText_55 (by decide) rfl (fun h55 => ?_) (fun h55 => ?_)
        · have hf := ip h55 hf
          refine n_iconst (v := (nI 0)) C dX6_isText_62 (by decide) rfl ?_
          refine n_iadd C dX6_isText_63 rfl ?_
          obtain ⟨oM_64, e64, hf⟩ := bi hf
          replace e64 := Option.some.inj e64
          refine n_put (w2 := bX6 cyI aM oM_64) (N := 12) (ty := .int) C dX6_isText_64 iw6_isText_X6 tyX6_ok nmX6 0 rfl rfl 7 (by decide) (List.mem_of_getElem? (i := 1) rfl) rfl rfl (by decide +kernel) rfl rfl (Nat.le_of_ble_eq_true rfl) (by subst e64; rfl) rfl ?_
          refine n_goto (t := 17) C dX6_isText_67 (by decide) ?_
          exact Wn.sub (lv' := [(0, .ref (aM 0)), (1, .int z45)]) [1, 0] rfl (ih z45 oM_64 hf)
        · have hf := iq h55 hf
          refine n_iconst (v := (nI 1)) C dX6_isText_58 (by decide) rfl ?_
          refine n_goto (t := 63) C dX6_isText_59 (by decide) ?_
          refine n_iadd C dX6_isText_63 rfl ?_
          obtain ⟨oM_64, e64, hf⟩ := bi hf
          replace e64 := Option.some.inj e64
          refine n_put (w2 := bX6 cyI aM oM_64) (N := 12) (ty := .int) C dX6_isText_64 iw6_isText_X6 tyX6_ok nmX6 0 rfl rfl 7 (by decide) (List.mem_of_getElem? (i := 1) rfl) rfl rfl (by decide +kernel) rfl rfl (Nat.le_of_ble_eq_true rfl) (by subst e64; rfl) rfl ?_
          refine n_goto (t := 17) C dX6_isText_67 (by decide) ?_
          exact Wn.sub (lv' := [(0, .ref (aM 0)), (1, .int z45)]) [1, 0] rfl (ih z45 oM_64 hf)
      · have hf := ip h25 hf
        refine n_iconst (v := (nI 0)) C dX6_isText_28 (by decide) rfl ?_
        obtain rfl := Option.some.inj hf
        exact n_zret C dX6_isText_29 (Or.inl rfl)
set_option maxHeartbeats 4000000 in
set_option maxRecDepth 100000 in
theorem c6_isText (l : Launch) (D : va_G) (cyI cyO cyJ : ClassId) (aM : Nat → Nat) (n : Nat) (oM : OB) (z : Int32 × (OB)) (hf : f6_isText n oM = some z) : Ct l D (tyG cyI cyO cyJ) yX6_isText wsX6_isText rm6_isText 0 0 [.ref (aM 0)] (bX6 cyI aM oM) (bX6 cyI aM z.2) (some (.int z.1)) := by
  refine Ct.of (cc := cX6_isText) (nL := 2) (ret := (some .boolean)) (lv := [(0, .ref (aM 0))]) (by decide +kernel) rfl rfl (Nat.le_of_ble_eq_true rfl) ?_
  intro p e s m args below meth c A C
  have C : Cx p s m args meth c D (tyG cyI cyO cyJ) A RX6 cX6_isText 2 (some .boolean) wsX6_isText := C
  unfold f6_isText at hf
  refine n_aload_n C dX6_isText_0 0 rfl rfl ?_
  refine n_iconst (v := (nI 0)) C dX6_isText_1 (by decide) rfl ?_
  obtain ⟨oM_2, e2, hf⟩ := bi hf
  replace e2 := Option.some.inj e2
  refine n_put (w2 := bX6 cyI aM oM_2) (N := 12) (ty := .int) C dX6_isText_2 iw6_isText_X6 tyX6_ok nmX6 0 rfl rfl 7 (by decide) (List.mem_of_getElem? (i := 1) rfl) rfl rfl (by decide +kernel) rfl rfl (Nat.le_of_ble_eq_true rfl) (by subst e2; rfl) rfl ?_
  refine n_aload_n C dX6_isText_5 0 rfl rfl ?_
  refine n_iconst (v := (nI 0)) C dX6_isText_6 (by decide) rfl ?_
  obtain ⟨oM_7, e7, hf⟩ := bi hf
  replace e7 := Option.some.inj e7
  refine n_put (w2 := bX6 cyI aM oM_7) (N := 12) (ty := .int) C dX6_isText_7 iw6_isText_X6 tyX6_ok nmX6 0 rfl rfl 11 (by decide) (List.mem_of_getElem? (i := 2) rfl) rfl rfl (by decide +kernel) rfl rfl (Nat.le_of_ble_eq_true rfl) (by subst e7; rfl) rfl ?_
  refine n_aload_n C dX6_isText_10 0 rfl rfl ?_
  refine n_iconst (v := (nI 0)) C dX6_isText_11 (by decide) rfl ?_
  obtain ⟨oM_12, e12, hf⟩ := bi hf
  replace e12 := Option.some.inj e12
  refine n_put (w2 := bX6 cyI aM oM_12) (N := 12) (ty := .boolean) C dX6_isText_12 iw6_isText_X6 tyX6_ok nmX6 0 rfl rfl 8 (by decide) (List.mem_of_getElem? (i := 3) rfl) rfl rfl (by decide +kernel) rfl rfl (Nat.le_of_ble_eq_true rfl) (by subst e12; rfl) rfl ?_
  refine n_iconst (v := (nI 1)) C dX6_isText_15 (by decide) rfl ?_
  refine n_istore_n (lv' := [(1, .int (nI 1)), (0, .ref (aM 0))]) C dX6_isText_16 (by decide) rfl rfl ?_
  exact Wn.sub (lv' := [(0, .ref (aM 0)), (1, .int (nI 1))]) [1, 0] rfl (t6_isText_b17 C n (fun oM hf => Wn.sub (lv' := [(0, .ref (aM 0))]) [0] rfl (t6_isText_b70 C n oM hf)) n (nI 1) oM_12 hf)
-- X6 firstError 
theorem iw6_firstError_X6 : ∀ w ∈ u_ws RX6 TX6 12, w ∈ wsX6_firstError := by decide +kernel
abbrev rm6_firstError : Room := { frames := 5, cells := 0, slots := 0, locals := 107 }
def f6_firstError (n : Nat) (oM : OB) : Option (Int32 × (OB)) :=
  (some (gsi oM 6 (nI 0))).bind fun oM_2 => (f6_isText n oM_2).bind fun z6 => (if z6.1 = (0 : Int32) then (if (z6.2.1 8) = (0 : Int32) then some (z6.2.1 5, z6.2) else some (z6.2.1 7, z6.2)) else some (z6.2.1 5, z6.2))
set_option maxHeartbeats 4000000 in
set_option maxRecDepth 100000 in
theorem c6_firstError (l : Launch) (D : va_G) (cyI cyO cyJ : ClassId) (aM : Nat → Nat) (n : Nat) (oM : OB) (z : Int32 × (OB)) (hf : f6_firstError n oM = some z) : Ct l D (tyG cyI cyO cyJ) yX6_firstError wsX6_firstError rm6_firstError 0 0 [.ref (aM 0)] (bX6 cyI aM oM) (bX6 cyI aM z.2) (some (.int z.1)) := by
  refine Ct.of (cc := cX6_firstError) (nL := 2) (ret := (some .int)) (lv := [(0, .ref (aM 0))]) (by decide +kernel) rfl rfl (Nat.le_of_ble_eq_true rfl) ?_
  intro p e s m args below meth c A C
  have C : Cx p s m args meth c D (tyG cyI cyO cyJ) A RX6 cX6_firstError 2 (some .int) wsX6_firstError := C
  unfold f6_firstError at hf
  refine n_aload_n C dX6_firstError_0 0 rfl rfl ?_
  refine n_iconst (v := (nI 0)) C dX6_firstError_1 (by decide) rfl ?_
  obtain ⟨oM_2, e2, hf⟩ := bi hf
  replace e2 := Option.some.inj e2
  refine n_put (w2 := bX6 cyI aM oM_2) (N := 12) (ty := .int) C dX6_firstError_2 iw6_firstError_X6 tyX6_ok nmX6 0 rfl rfl 6 (by decide) (List.mem_of_getElem? (i := 1) rfl) rfl rfl (by decide +kernel) rfl rfl (Nat.le_of_ble_eq_true rfl) (by subst e2; rfl) rfl ?_
  refine n_aload_n C dX6_firstError_5 0 rfl rfl ?_
  obtain ⟨z6, h6, hf⟩ := bi hf
  refine n_callV (As := []) (rest := []) (w2 := bX6 cyI aM z6.2) C dX6_firstError_6 (c6_isText l D cyI cyO cyJ aM n oM_2 z6 h6) (cwV 0 C.ts gX6_firstError_X6_isText rfl rfl rfl (by decide +kernel) ⟨Nat.le_of_ble_eq_true rfl, Nat.le_of_ble_eq_true rfl⟩) rfl (q0 := 0) (ci := 6) rfl rfl Frm.self rfl (Nat.le_of_ble_eq_true rfl) ⟨Nat.le_of_ble_eq_true rfl, Nat.le_of_ble_eq_true rfl⟩ rfl ?_
  refine n_istore_n (lv' := [(1, .int z6.1), (0, .ref (aM 0))]) C dX6_firstError_9 (by decide) rfl rfl ?_
  refine n_iload_n C dX6_firstError_10 0 rfl rfl ?_
  refine n_if_ne (t := 28) C dX6_firstError_11 (by decide) rfl (fun h11 => ?_) (fun h11 => ?_)
  · have hf := iq h11 hf
    refine n_aload_n C dX6_firstError_28 1 rfl rfl ?_
    refine n_get (N := 12) C dX6_firstError_29 iw6_firstError_X6 0 rfl rfl 5 (by decide) (List.mem_of_getElem? (i := 4) rfl) rfl rfl rfl ?_
    obtain rfl := Option.some.inj hf
    exact n_iret C dX6_firstError_32
  · have hf := ip h11 hf
    refine n_aload_n C dX6_firstError_14 1 rfl rfl ?_
    refine n_get (N := 12) C dX6_firstError_15 iw6_firstError_X6 0 rfl rfl 8 (by decide) (List.mem_of_getElem? (i := 2) rfl) rfl rfl rfl ?_
    refine n_if_eq (t := 28) C dX6_firstError_18 (by decide) rfl (fun h18 => ?_) (fun h18 => ?_)
    · have hf := ip h18 hf
      refine n_aload_n C dX6_firstError_28 1 rfl rfl ?_
      refine n_get (N := 12) C dX6_firstError_29 iw6_firstError_X6 0 rfl rfl 5 (by decide) (List.mem_of_getElem? (i := 4) rfl) rfl rfl rfl ?_
      obtain rfl := Option.some.inj hf
      exact n_iret C dX6_firstError_32
    · have hf := iq h18 hf
      refine n_aload_n C dX6_firstError_21 1 rfl rfl ?_
      refine n_get (N := 12) C dX6_firstError_22 iw6_firstError_X6 0 rfl rfl 7 (by decide) (List.mem_of_getElem? (i := 3) rfl) rfl rfl rfl ?_
      refine n_goto (t := 32) C dX6_firstError_25 (by decide) ?_
      obtain rfl := Option.some.inj hf
      exact n_iret C dX6_firstError_32
-- X6 withResult 
theorem iw6_withResult_X6 : ∀ w ∈ u_ws RX6 TX6 12, w ∈ wsX6_withResult := by decide +kernel
abbrev rm6_withResult : Room := { frames := 1, cells := 0, slots := 0, locals := 22 }
def f6_withResult_b4 (n : Nat) (oM : OB) : Nat → Int32 → Int32 → Option (Int32)
  | 0, _, _ => none
  | k + 1, v1, v2 =>
    (ald 270 (oM.2 0) (nI 5)).bind fun x10 => (if x10 ≤ v2 then some v1 else (f6_of n (oM.2 0) v2 (nI 6)).bind fun z22 => (if z22 = (0 : Int32) then (f6_withResult_b4 n oM k) (v1 + (nI 0)) (v2 + (nI 1)) else (f6_withResult_b4 n oM k) (v1 + (nI 1)) (v2 + (nI 1))))
def f6_withResult (n : Nat) (oM : OB) : Option (Int32) :=
  f6_withResult_b4 n oM n (nI 0) (nI 0)
set_option maxHeartbeats 4000000 in
set_option maxRecDepth 100000 in
theorem t6_withResult_b4 {l : Launch} {p : Program} {e : Env} {s : State} {m : MethodId} {args : Array Value} {below : List Frame} {meth : Method} {c : Code} {D : va_G} {A : Nat → Prop} {cyI cyO cyJ : ClassId} {aM : Nat → Nat} (C : Cx p s m args meth c D (tyG cyI cyO cyJ) A RX6 cX6_withResult 3 (some .int) wsX6_withResult) {z : Int32} (n : Nat) (oM : OB) : ∀ (k : Nat) (v1 : Int32) (v2 : Int32), f6_withResult_b4 n oM k v1 v2 = some z → Wn p l e rm6_withResult s m args below meth c D A 3 0 0 (MQ below (Qr D (tyG cyI cyO cyJ) (bX6 cyI aM oM) A (some (.int z))) args s 0 0 A) (bX6 cyI aM oM) 4 [(0, .ref (aM 0)), (1, .int v1), (2, .int v2)] [] := by
  intro k
  induction k with
  | zero => intro  v1 v2 hf; cases hf
  | succ k ih =>
    intro  v1 v2 hf
    unfold f6_withResult_b4 at hf
    refine n_iload_n C dX6_withResult_4 2 rfl rfl ?_
    refine n_aload_n C dX6_withResult_5 0 rfl rfl ?_
    refine n_get (N := 12) C dX6_withResult_6 iw6_withResult_X6 0 rfl rfl 0 (by decide) (List.mem_of_getElem? (i := 1) rfl) rfl rfl rfl ?_
    refine n_iconst (v := (nI 5)) C dX6_withResult_9 (by decide) rfl ?_
    obtain ⟨x10, h10, hf⟩ := bi hf
    obtain ⟨h10, e10⟩ := ald_some h10
    refine n_iald C dX6_withResult_10 1 0 rfl rfl h10 rfl ?_
    rw [← e10]
    refine n_icmp_ge (t := 41) C dX6_withResult_11 (by decide) rfl (fun h11 => ?_) (fun h11 => ?_)
    · have hf := ip h11 hf
      refine n_iload_n C dX6_withResult_41 1 rfl rfl ?_
      obtain rfl := Option.some.inj hf
      exact n_iret C dX6_withResult_42
    · have hf := iq h11 hf
      refine n_iload_n C dX6_withResult_14 1 rfl rfl ?_
      refine n_aload_n C dX6_withResult_15 0 rfl rfl ?_
      refine n_get (N := 12) C dX6_withResult_16 iw6_withResult_X6 0 rfl rfl 0 (by decide) (List.mem_of_getElem? (i := 1) rfl) rfl rfl rfl ?_
      refine n_iload_n C dX6_withResult_19 2 rfl rfl ?_
      refine n_bipush (v := (nI 6)) C dX6_withResult_20 (by decide) rfl ?_
      obtain ⟨z22, h22, hf⟩ := bi hf
      refine n_callS (As := [.ref (aM 1), .int v2, .int (nI 6)]) (rest := [.int v1]) (w2 := bX6 cyI aM oM) C dX6_withResult_22 (c6_of l D cyI cyO cyJ (aM 1) n (oM.2 0) v2 (nI 6) z22 h22) (va_cwS 3 C.ts gX6_withResult_X6_of rfl rfl rfl (by decide +kernel) ⟨Nat.le_of_ble_eq_true rfl, Nat.le_of_ble_eq_true rfl⟩) rfl (Frm.skipc (Frm.takec Frm.none)) rfl (Nat.le_of_ble_eq_true rfl) ⟨Nat.le_of_ble_eq_true rfl, Nat.le_of_ble_eq_true rfl⟩ rfl ?_
      refine n_if_ne (t := 32) C dX6_withResult_25 (by decide) rfl (fun h25 => ?_) (fun h25 => ?_)
      · have hf := iq h25 hf
        refine n_iconst (v := (nI 1)) C dX6_withResult_32 (by decide) rfl ?_
        refine n_iadd C dX6_withResult_33 rfl ?_
        refine n_istore_n (lv' := [(1, .int (v1 + (nI 1))), (0, .ref (aM 0)), (2, .int v2)]) C dX6_withResult_34 (by decide) rfl rfl ?_
        refine n_iinc (v := v2 + (nI 1)) (lv' := [(2, .int (v2 + (nI 1))), (1, .int (v1 + (nI 1))), (0, .ref (aM 0))]) C dX6_withResult_35 (j := 2) rfl rfl (by decide) rfl rfl ?_
        refine n_goto (t := 4) C dX6_withResult_38 (by decide) ?_
        exact Wn.sub (lv' := [(0, .ref (aM 0)), (1, .int (v1 + (nI 1))), (2, .int (v2 + (nI 1)))]) [2, 1, 0] rfl (ih (v1 + (nI 1)) (v2 + (nI 1)) hf)
      · have hf := ip h25 hf
        refine n_iconst (v := (nI 0)) C dX6_withResult_28 (by decide) rfl ?_
        refine n_goto (t := 33) C dX6_withResult_29 (by decide) ?_
        refine n_iadd C dX6_withResult_33 rfl ?_
        refine n_istore_n (lv' := [(1, .int (v1 + (nI 0))), (0, .ref (aM 0)), (2, .int v2)]) C dX6_withResult_34 (by decide) rfl rfl ?_
        refine n_iinc (v := v2 + (nI 1)) (lv' := [(2, .int (v2 + (nI 1))), (1, .int (v1 + (nI 0))), (0, .ref (aM 0))]) C dX6_withResult_35 (j := 2) rfl rfl (by decide) rfl rfl ?_
        refine n_goto (t := 4) C dX6_withResult_38 (by decide) ?_
        exact Wn.sub (lv' := [(0, .ref (aM 0)), (1, .int (v1 + (nI 0))), (2, .int (v2 + (nI 1)))]) [2, 1, 0] rfl (ih (v1 + (nI 0)) (v2 + (nI 1)) hf)
set_option maxHeartbeats 4000000 in
set_option maxRecDepth 100000 in
theorem c6_withResult (l : Launch) (D : va_G) (cyI cyO cyJ : ClassId) (aM : Nat → Nat) (n : Nat) (oM : OB) (z : Int32) (hf : f6_withResult n oM = some z) : Ct l D (tyG cyI cyO cyJ) yX6_withResult wsX6_withResult rm6_withResult 0 0 [.ref (aM 0)] (bX6 cyI aM oM) (bX6 cyI aM oM) (some (.int z)) := by
  refine Ct.of (cc := cX6_withResult) (nL := 3) (ret := (some .int)) (lv := [(0, .ref (aM 0))]) (by decide +kernel) rfl rfl (Nat.le_of_ble_eq_true rfl) ?_
  intro p e s m args below meth c A C
  have C : Cx p s m args meth c D (tyG cyI cyO cyJ) A RX6 cX6_withResult 3 (some .int) wsX6_withResult := C
  unfold f6_withResult at hf
  refine n_iconst (v := (nI 0)) C dX6_withResult_0 (by decide) rfl ?_
  refine n_istore_n (lv' := [(1, .int (nI 0)), (0, .ref (aM 0))]) C dX6_withResult_1 (by decide) rfl rfl ?_
  refine n_iconst (v := (nI 0)) C dX6_withResult_2 (by decide) rfl ?_
  refine n_istore_n (lv' := [(2, .int (nI 0)), (1, .int (nI 0)), (0, .ref (aM 0))]) C dX6_withResult_3 (by decide) rfl rfl ?_
  exact Wn.sub (lv' := [(0, .ref (aM 0)), (1, .int (nI 0)), (2, .int (nI 0))]) [2, 1, 0] rfl (t6_withResult_b4 C n oM n (nI 0) (nI 0) hf)
-- X6 report 
theorem iw6_report_X6 : ∀ w ∈ u_ws RX6 TX6 12, w ∈ wsX6_report := by decide +kernel
abbrev rm6_report : Room := { frames := 5, cells := 0, slots := 0, locals := 107 }
def f6_report_b63 (n : Nat) (oM : OB) : Option (Int32 × (OB)) :=
  (f6_fails n oM (nI 2)).bind fun z65 => some (z65.1, z65.2)
def f6_report_b145 (n : Nat) (oM : OB) : Option (Int32 × (OB)) :=
  (f6_withResult n oM).bind fun z146 => some (z146, oM)
def f6_report_b86 (n : Nat) (k145 : OB → Option (Int32 × (OB))) : Nat → Int32 → OB → Option (Int32 × (OB))
  | 0, _, _ => none
  | k + 1, v1, oM =>
    (if (oM.1 11) ≤ v1 then k145 oM else (ald 68 (oM.2 10) ((nI 4) * v1)).bind fun x105 => (ald 68 (oM.2 10) (((nI 4) * v1) + (nI 1))).bind fun x115 => (ald 68 (oM.2 10) (((nI 4) * v1) + (nI 2))).bind fun x125 => (ald 68 (oM.2 10) (((nI 4) * v1) + (nI 3))).bind fun x135 => (f6_gives n (oM.2 0) x105 x115 x125 x135).bind fun z136 => (f6_report_b86 n k145 k) (v1 + (nI 1)) (gsa oM 0 z136))
def f6_report_b75 (n : Nat) (oM : OB) : Option (Int32 × (OB)) :=
  (f6_saves n oM).bind fun z76 => (some (gsi z76 5 (nI 0))).bind fun oM_81 => f6_report_b86 n (fun oM => f6_report_b145 n oM) n (nI 0) oM_81
def f6_report_b20 (n : Nat) (k63 : OB → Option (Int32 × (OB))) (k75 : OB → Option (Int32 × (OB))) : Nat → Int32 → OB → Option (Int32 × (OB))
  | 0, _, _ => none
  | k + 1, v1, oM =>
    (if (oM.1 11) ≤ v1 then k75 oM else (ald 68 (oM.2 10) ((nI 4) * v1)).bind fun x36 => (f6_isMatch n oM x36).bind fun z37 => (if z37 = (0 : Int32) then k63 oM else (ald 68 (oM.2 10) ((nI 4) * v1)).bind fun x54 => (f6_of n (oM.2 0) x54 (nI 3)).bind fun z56 => (if z56 = (-1 : Int32) then k63 oM else (f6_report_b20 n k63 k75 k) (v1 + (nI 1)) oM)))
def f6_report (n : Nat) (oM : OB) : Option (Int32 × (OB)) :=
  (some (gsi oM 6 (nI 0))).bind fun oM_2 => (f6_isText n oM_2).bind fun z6 => (if z6.1 = (0 : Int32) then (f6_fails n z6.2 (nI 1)).bind fun z14 => some (z14.1, z14.2) else f6_report_b20 n (fun oM => f6_report_b63 n oM) (fun oM => f6_report_b75 n oM) n (nI 0) z6.2)
set_option maxHeartbeats 4000000 in
set_option maxRecDepth 100000 in
theorem t6_report_b63 {l : Launch} {p : Program} {e : Env} {s : State} {m : MethodId} {args : Array Value} {below : List Frame} {meth : Method} {c : Code} {D : va_G} {A : Nat → Prop} {cyI cyO cyJ : ClassId} {aM : Nat → Nat} (C : Cx p s m args meth c D (tyG cyI cyO cyJ) A RX6 cX6_report 2 (some .int) wsX6_report) {z : Int32 × (OB)} (n : Nat) (oM : OB) (hf : f6_report_b63 n oM = some z) : Wn p l e rm6_report s m args below meth c D A 2 0 0 (MQ below (Qr D (tyG cyI cyO cyJ) (bX6 cyI aM z.2) A (some (.int z.1))) args s 0 0 A) (bX6 cyI aM oM) 63 [(0, .ref (aM 0))] [] := by
  unfold f6_report_b63 at hf
  refine n_aload_n C dX6_report_63 0 rfl rfl ?_
  refine n_iconst (v := (nI 2)) C dX6_report_64 (by decide) rfl ?_
  obtain ⟨z65, h65, hf⟩ := bi hf
  refine n_callV (As := [.int (nI 2)]) (rest := []) (w2 := bX6 cyI aM z65.2) C dX6_report_65 (c6_fails l D cyI cyO cyJ aM n oM (nI 2) z65 h65) (cwV 1 C.ts gX6_report_X6_fails rfl rfl rfl (by decide +kernel) ⟨Nat.le_of_ble_eq_true rfl, Nat.le_of_ble_eq_true rfl⟩) rfl (q0 := 0) (ci := 6) rfl rfl Frm.self rfl (Nat.le_of_ble_eq_true rfl) ⟨Nat.le_of_ble_eq_true rfl, Nat.le_of_ble_eq_true rfl⟩ rfl ?_
  obtain rfl := Option.some.inj hf
  exact n_iret C dX6_report_68
set_option maxHeartbeats 4000000 in
set_option maxRecDepth 100000 in
theorem t6_report_b145 {l : Launch} {p : Program} {e : Env} {s : State} {m : MethodId} {args : Array Value} {below : List Frame} {meth : Method} {c : Code} {D : va_G} {A : Nat → Prop} {cyI cyO cyJ : ClassId} {aM : Nat → Nat} (C : Cx p s m args meth c D (tyG cyI cyO cyJ) A RX6 cX6_report 2 (some .int) wsX6_report) {z : Int32 × (OB)} (n : Nat) (oM : OB) (hf : f6_report_b145 n oM = some z) : Wn p l e rm6_report s m args below meth c D A 2 0 0 (MQ below (Qr D (tyG cyI cyO cyJ) (bX6 cyI aM z.2) A (some (.int z.1))) args s 0 0 A) (bX6 cyI aM oM) 145 [(0, .ref (aM 0))] [] := by
  unfold f6_report_b145 at hf
  refine n_aload_n C dX6_report_145 0 rfl rfl ?_
  obtain ⟨z146, h146, hf⟩ := bi hf
  refine n_callV (As := []) (rest := []) (w2 := bX6 cyI aM oM) C dX6_report_146 (c6_withResult l D cyI cyO cyJ aM n oM z146 h146) (cwV 0 C.ts gX6_report_X6_withResult rfl rfl rfl (by decide +kernel) ⟨Nat.le_of_ble_eq_true rfl, Nat.le_of_ble_eq_true rfl⟩) rfl (q0 := 0) (ci := 6) rfl rfl Frm.self rfl (Nat.le_of_ble_eq_true rfl) ⟨Nat.le_of_ble_eq_true rfl, Nat.le_of_ble_eq_true rfl⟩ rfl ?_
  obtain rfl := Option.some.inj hf
  exact n_iret C dX6_report_149
set_option maxHeartbeats 4000000 in
set_option maxRecDepth 100000 in
theorem t6_report_b86 {l : Launch} {p : Program} {e : Env} {s : State} {m : MethodId} {args : Array Value} {below : List Frame} {meth : Method} {c : Code} {D : va_G} {A : Nat → Prop} {cyI cyO cyJ : ClassId} {aM : Nat → Nat} (C : Cx p s m args meth c D (tyG cyI cyO cyJ) A RX6 cX6_report 2 (some .int) wsX6_report) {z : Int32 × (OB)} (n : Nat) {k145 : OB → Option (Int32 × (OB))} (hk145 : ∀ (oM : OB), k145 oM = some z → Wn p l e rm6_report s m args below meth c D A 2 0 0 (MQ below (Qr D (tyG cyI cyO cyJ) (bX6 cyI aM z.2) A (some (.int z.1))) args s 0 0 A) (bX6 cyI aM oM) 145 [(0, .ref (aM 0))] []) : ∀ (k : Nat) (v1 : Int32) (oM : OB), f6_report_b86 n k145 k v1 oM = some z → Wn p l e rm6_report s m args below meth c D A 2 0 0 (MQ below (Qr D (tyG cyI cyO cyJ) (bX6 cyI aM z.2) A (some (.int z.1))) args s 0 0 A) (bX6 cyI aM oM) 86 [(0, .ref (aM 0)), (1, .int v1)] [] := by
  intro k
  induction k with
  | zero => intro  v1 oM hf; cases hf
  | succ k ih =>
    intro  v1 oM hf
    unfold f6_report_b86 at hf
    refine n_iload_n C dX6_report_86 1 rfl rfl ?_
    refine n_aload_n C dX6_report_87 0 rfl rfl ?_
    refine n_get (N := 12) C dX6_report_88 iw6_report_X6 0 rfl rfl 11 (by decide) (List.mem_of_getElem? (i := 2) rfl) rfl rfl rfl ?_
    refine n_icmp_ge (t := 145) C dX6_report_91 (by decide) rfl (fun h91 => ?_) (fun h91 => ?_)
    · have hf := ip h91 hf
      exact Wn.sub (lv' := [(0, .ref (aM 0))]) [0] rfl (hk145 oM hf)
    · have hf := iq h91 hf
      refine n_aload_n C dX6_report_94 0 rfl rfl ?_
      refine n_get (N := 12) C dX6_report_95 iw6_report_X6 0 rfl rfl 0 (by decide) (List.mem_of_getElem? (i := 4) rfl) rfl rfl rfl ?_
      refine n_aload_n C dX6_report_98 0 rfl rfl ?_
      refine n_get (N := 12) C dX6_report_99 iw6_report_X6 0 rfl rfl 10 (by decide) (List.mem_of_getElem? (i := 3) rfl) rfl rfl rfl ?_
      refine n_iconst (v := (nI 4)) C dX6_report_102 (by decide) rfl ?_
      refine n_iload_n C dX6_report_103 1 rfl rfl ?_
      refine n_imul C dX6_report_104 rfl ?_
      obtain ⟨x105, h105, hf⟩ := bi hf
      obtain ⟨h105, e105⟩ := ald_some h105
      refine n_iald C dX6_report_105 5 0 rfl rfl h105 rfl ?_
      rw [← e105]
      refine n_aload_n C dX6_report_106 0 rfl rfl ?_
      refine n_get (N := 12) C dX6_report_107 iw6_report_X6 0 rfl rfl 10 (by decide) (List.mem_of_getElem? (i := 3) rfl) rfl rfl rfl ?_
      refine n_iconst (v := (nI 4)) C dX6_report_110 (by decide) rfl ?_
      refine n_iload_n C dX6_report_111 1 rfl rfl ?_
      refine n_imul C dX6_report_112 rfl ?_
      refine n_iconst (v := (nI 1)) C dX6_report_113 (by decide) rfl ?_
      refine n_iadd C dX6_report_114 rfl ?_
      obtain ⟨x115, h115, hf⟩ := bi hf
      obtain ⟨h115, e115⟩ := ald_some h115
      refine n_iald C dX6_report_115 5 0 rfl rfl h115 rfl ?_
      rw [← e115]
      refine n_aload_n C dX6_report_116 0 rfl rfl ?_
      refine n_get (N := 12) C dX6_report_117 iw6_report_X6 0 rfl rfl 10 (by decide) (List.mem_of_getElem? (i := 3) rfl) rfl rfl rfl ?_
      refine n_iconst (v := (nI 4)) C dX6_report_120 (by decide) rfl ?_
      refine n_iload_n C dX6_report_121 1 rfl rfl ?_
      refine n_imul C dX6_report_122 rfl ?_
      refine n_iconst (v := (nI 2)) C dX6_report_123 (by decide) rfl ?_
      refine n_iadd C dX6_report_124 rfl ?_
      obtain ⟨x125, h125, hf⟩ := bi hf
      obtain ⟨h125, e125⟩ := ald_some h125
      refine n_iald C dX6_report_125 5 0 rfl rfl h125 rfl ?_
      rw [← e125]
      refine n_aload_n C dX6_report_126 0 rfl rfl ?_
      refine n_get (N := 12) C dX6_report_127 iw6_report_X6 0 rfl rfl 10 (by decide) (List.mem_of_getElem? (i := 3) rfl) rfl rfl rfl ?_
      refine n_iconst (v := (nI 4)) C dX6_report_130 (by decide) rfl ?_
      refine n_iload_n C dX6_report_131 1 rfl rfl ?_
      refine n_imul C dX6_report_132 rfl ?_
      refine n_iconst (v := (nI 3)) C dX6_report_133 (by decide) rfl ?_
      refine n_iadd C dX6_report_134 rfl ?_
      obtain ⟨x135, h135, hf⟩ := bi hf
      obtain ⟨h135, e135⟩ := ald_some h135
      refine n_iald C dX6_report_135 5 0 rfl rfl h135 rfl ?_
      rw [← e135]
      obtain ⟨z136, h136, hf⟩ := bi hf
      refine n_callS (As := [.ref (aM 1), .int x105, .int x115, .int x125, .int x135]) (rest := []) (w2 := bX6 cyI aM (gsa oM 0 z136)) C dX6_report_136 (c6_gives l D cyI cyO cyJ (aM 1) n (oM.2 0) x105 x115 x125 x135 z136 h136) (va_cwS 5 C.ts gX6_report_X6_gives rfl rfl rfl (by decide +kernel) ⟨Nat.le_of_ble_eq_true rfl, Nat.le_of_ble_eq_true rfl⟩) rfl (Frm.skipc (Frm.takec Frm.none)) rfl (Nat.le_of_ble_eq_true rfl) ⟨Nat.le_of_ble_eq_true rfl, Nat.le_of_ble_eq_true rfl⟩ rfl ?_
      refine n_iinc (v := v1 + (nI 1)) (lv' := [(1, .int (v1 + (nI 1))), (0, .ref (aM 0))]) C dX6_report_139 (j := 1) rfl rfl (by decide) rfl rfl ?_
      refine n_goto (t := 86) C dX6_report_142 (by decide) ?_
      exact Wn.sub (lv' := [(0, .ref (aM 0)), (1, .int (v1 + (nI 1)))]) [1, 0] rfl (ih (v1 + (nI 1)) (gsa oM 0 z136) hf)
set_option maxHeartbeats 4000000 in
set_option maxRecDepth 100000 in
theorem t6_report_b75 {l : Launch} {p : Program} {e : Env} {s : State} {m : MethodId} {args : Array Value} {below : List Frame} {meth : Method} {c : Code} {D : va_G} {A : Nat → Prop} {cyI cyO cyJ : ClassId} {aM : Nat → Nat} (C : Cx p s m args meth c D (tyG cyI cyO cyJ) A RX6 cX6_report 2 (some .int) wsX6_report) {z : Int32 × (OB)} (n : Nat) (oM : OB) (hf : f6_report_b75 n oM = some z) : Wn p l e rm6_report s m args below meth c D A 2 0 0 (MQ below (Qr D (tyG cyI cyO cyJ) (bX6 cyI aM z.2) A (some (.int z.1))) args s 0 0 A) (bX6 cyI aM oM) 75 [(0, .ref (aM 0))] [] := by
  unfold f6_report_b75 at hf
  refine n_aload_n C dX6_report_75 0 rfl rfl ?_
  obtain ⟨z76, h76, hf⟩ := bi hf
  refine n_callV (As := []) (rest := []) (w2 := bX6 cyI aM z76) C dX6_report_76 (c6_saves l D cyI cyO cyJ aM n oM z76 h76) (cwV 0 C.ts gX6_report_X6_saves rfl rfl rfl (by decide +kernel) ⟨Nat.le_of_ble_eq_true rfl, Nat.le_of_ble_eq_true rfl⟩) rfl (q0 := 0) (ci := 6) rfl rfl Frm.self rfl (Nat.le_of_ble_eq_true rfl) ⟨Nat.le_of_ble_eq_true rfl, Nat.le_of_ble_eq_true rfl⟩ rfl ?_
  refine n_aload_n C dX6_report_79 0 rfl rfl ?_
  refine n_iconst (v := (nI 0)) C dX6_report_80 (by decide) rfl ?_
  obtain ⟨oM_81, e81, hf⟩ := bi hf
  replace e81 := Option.some.inj e81
  refine n_put (w2 := bX6 cyI aM oM_81) (N := 12) (ty := .int) C dX6_report_81 iw6_report_X6 tyX6_ok nmX6 0 rfl rfl 5 (by decide) (List.mem_of_getElem? (i := 5) rfl) rfl rfl (by decide +kernel) rfl rfl (Nat.le_of_ble_eq_true rfl) (by subst e81; rfl) rfl ?_
  refine n_iconst (v := (nI 0)) C dX6_report_84 (by decide) rfl ?_
  refine n_istore_n (lv' := [(1, .int (nI 0)), (0, .ref (aM 0))]) C dX6_report_85 (by decide) rfl rfl ?_
  exact Wn.sub (lv' := [(0, .ref (aM 0)), (1, .int (nI 0))]) [1, 0] rfl (t6_report_b86 C n (fun oM hf => Wn.sub (lv' := [(0, .ref (aM 0))]) [0] rfl (t6_report_b145 C n oM hf)) n (nI 0) oM_81 hf)
set_option maxHeartbeats 4000000 in
set_option maxRecDepth 100000 in
theorem t6_report_b20 {l : Launch} {p : Program} {e : Env} {s : State} {m : MethodId} {args : Array Value} {below : List Frame} {meth : Method} {c : Code} {D : va_G} {A : Nat → Prop} {cyI cyO cyJ : ClassId} {aM : Nat → Nat} (C : Cx p s m args meth c D (tyG cyI cyO cyJ) A RX6 cX6_report 2 (some .int) wsX6_report) {z : Int32 × (OB)} (n : Nat) {k63 : OB → Option (Int32 × (OB))} {k75 : OB → Option (Int32 × (OB))} (hk63 : ∀ (oM : OB), k63 oM = some z → Wn p l e rm6_report s m args below meth c D A 2 0 0 (MQ below (Qr D (tyG cyI cyO cyJ) (bX6 cyI aM z.2) A (some (.int z.1))) args s 0 0 A) (bX6 cyI aM oM) 63 [(0, .ref (aM 0))] []) (hk75 : ∀ (oM : OB), k75 oM = some z → Wn p l e rm6_report s m args below meth c D A 2 0 0 (MQ below (Qr D (tyG cyI cyO cyJ) (bX6 cyI aM z.2) A (some (.int z.1))) args s 0 0 A) (bX6 cyI aM oM) 75 [(0, .ref (aM 0))] []) : ∀ (k : Nat) (v1 : Int32) (oM : OB), f6_report_b20 n k63 k75 k v1 oM = some z → Wn p l e rm6_report s m args below meth c D A 2 0 0 (MQ below (Qr D (tyG cyI cyO cyJ) (bX6 cyI aM z.2) A (some (.int z.1))) args s 0 0 A) (bX6 cyI aM oM) 20 [(0, .ref (aM 0)), (1, .int v1)] [] := by
  intro k
  induction k with
  | zero => intro  v1 oM hf; cases hf
  | succ k ih =>
    intro  v1 oM hf
    unfold f6_report_b20 at hf
    refine n_iload_n C dX6_report_20 1 rfl rfl ?_
    refine n_aload_n C dX6_report_21 0 rfl rfl ?_
    refine n_get (N := 12) C dX6_report_22 iw6_report_X6 0 rfl rfl 11 (by decide) (List.mem_of_getElem? (i := 2) rfl) rfl rfl rfl ?_
    refine n_icmp_ge (t := 75) C dX6_report_25 (by decide) rfl (fun h25 => ?_) (fun h25 => ?_)
    · have hf := ip h25 hf
      exact Wn.sub (lv' := [(0, .ref (aM 0))]) [0] rfl (hk75 oM hf)
    · have hf := iq h25 hf
      refine n_aload_n C dX6_report_28 0 rfl rfl ?_
      refine n_aload_n C dX6_report_29 0 rfl rfl ?_
      refine n_get (N := 12) C dX6_report_30 iw6_report_X6 0 rfl rfl 10 (by decide) (List.mem_of_getElem? (i := 3) rfl) rfl rfl rfl ?_
      refine n_iconst (v := (nI 4)) C dX6_report_33 (by decide) rfl ?_
      refine n_iload_n C dX6_report_34 1 rfl rfl ?_
      refine n_imul C dX6_report_35 rfl ?_
      obtain ⟨x36, h36, hf⟩ := bi hf
      obtain ⟨h36, e36⟩ := ald_some h36
      refine n_iald C dX6_report_36 5 0 rfl rfl h36 rfl ?_
      rw [← e36]
      obtain ⟨z37, h37, hf⟩ := bi hf
      refine n_callV (As := [.int x36]) (rest := []) (w2 := bX6 cyI aM oM) C dX6_report_37 (c6_isMatch l D cyI cyO cyJ aM n oM x36 z37 h37) (cwV 1 C.ts gX6_report_X6_isMatch rfl rfl rfl (by decide +kernel) ⟨Nat.le_of_ble_eq_true rfl, Nat.le_of_ble_eq_true rfl⟩) rfl (q0 := 0) (ci := 6) rfl rfl Frm.self rfl (Nat.le_of_ble_eq_true rfl) ⟨Nat.le_of_ble_eq_true rfl, Nat.le_of_ble_eq_true rfl⟩ rfl ?_
      refine n_if_eq (t := 63) C dX6_report_40 (by decide) rfl (fun h40 => ?_) (fun h40 => ?_)
      · have hf := ip h40 hf
        exact Wn.sub (lv' := [(0, .ref (aM 0))]) [0] rfl (hk63 oM hf)
      · have hf := iq h40 hf
        refine n_aload_n C dX6_report_43 0 rfl rfl ?_
        refine n_get (N := 12) C dX6_report_44 iw6_report_X6 0 rfl rfl 0 (by decide) (List.mem_of_getElem? (i := 4) rfl) rfl rfl rfl ?_
        refine n_aload_n C dX6_report_47 0 rfl rfl ?_
        refine n_get (N := 12) C dX6_report_48 iw6_report_X6 0 rfl rfl 10 (by decide) (List.mem_of_getElem? (i := 3) rfl) rfl rfl rfl ?_
        refine n_iconst (v := (nI 4)) C dX6_report_51 (by decide) rfl ?_
        refine n_iload_n C dX6_report_52 1 rfl rfl ?_
        refine n_imul C dX6_report_53 rfl ?_
        obtain ⟨x54, h54, hf⟩ := bi hf
        obtain ⟨h54, e54⟩ := ald_some h54
        refine n_iald C dX6_report_54 5 0 rfl rfl h54 rfl ?_
        rw [← e54]
        refine n_iconst (v := (nI 3)) C dX6_report_55 (by decide) rfl ?_
        obtain ⟨z56, h56, hf⟩ := bi hf
        refine n_callS (As := [.ref (aM 1), .int x54, .int (nI 3)]) (rest := []) (w2 := bX6 cyI aM oM) C dX6_report_56 (c6_of l D cyI cyO cyJ (aM 1) n (oM.2 0) x54 (nI 3) z56 h56) (va_cwS 3 C.ts gX6_report_X6_of rfl rfl rfl (by decide +kernel) ⟨Nat.le_of_ble_eq_true rfl, Nat.le_of_ble_eq_true rfl⟩) rfl (Frm.skipc (Frm.takec Frm.none)) rfl (Nat.le_of_ble_eq_true rfl) ⟨Nat.le_of_ble_eq_true rfl, Nat.le_of_ble_eq_true rfl⟩ rfl ?_
        refine n_iconst (v := (-1 : Int32)) C dX6_report_59 (by decide) rfl ?_
        refine n_icmp_ne (t := 69) C dX6_report_60 (by decide) rfl (fun h60 => ?_) (fun h60 => ?_)
        · have hf := iq h60 hf
          refine n_iinc (v := v1 + (nI 1)) (lv' := [(1, .int (v1 + (nI 1))), (0, .ref (aM 0))]) C dX6_report_69 (j := 1) rfl rfl (by decide) rfl rfl ?_
          refine n_goto (t := 20) C dX6_report_72 (by decide) ?_
          exact Wn.sub (lv' := [(0, .ref (aM 0)), (1, .int (v1 + (nI 1)))]) [1, 0] rfl (ih (v1 + (nI 1)) oM hf)
        · have hf := ip h60 hf
          exact Wn.sub (lv' := [(0, .ref (aM 0))]) [0] rfl (hk63 oM hf)
set_option maxHeartbeats 4000000 in
set_option maxRecDepth 100000 in
theorem c6_report (l : Launch) (D : va_G) (cyI cyO cyJ : ClassId) (aM : Nat → Nat) (n : Nat) (oM : OB) (z : Int32 × (OB)) (hf : f6_report n oM = some z) : Ct l D (tyG cyI cyO cyJ) yX6_report wsX6_report rm6_report 0 0 [.ref (aM 0)] (bX6 cyI aM oM) (bX6 cyI aM z.2) (some (.int z.1)) := by
  refine Ct.of (cc := cX6_report) (nL := 2) (ret := (some .int)) (lv := [(0, .ref (aM 0))]) (by decide +kernel) rfl rfl (Nat.le_of_ble_eq_true rfl) ?_
  intro p e s m args below meth c A C
  have C : Cx p s m args meth c D (tyG cyI cyO cyJ) A RX6 cX6_report 2 (some .int) wsX6_report := C
  unfold f6_report at hf
  refine n_aload_n C dX6_report_0 0 rfl rfl ?_
  refine n_iconst (v := (nI 0)) C dX6_report_1 (by decide) rfl ?_
  obtain ⟨oM_2, e2, hf⟩ := bi hf
  replace e2 := Option.some.inj e2
  refine n_put (w2 := bX6 cyI aM oM_2) (N := 12) (ty := .int) C dX6_report_2 iw6_report_X6 tyX6_ok nmX6 0 rfl rfl 6 (by decide) (List.mem_of_getElem? (i := 1) rfl) rfl rfl (by decide +kernel) rfl rfl (Nat.le_of_ble_eq_true rfl) (by subst e2; rfl) rfl ?_
  refine n_aload_n C dX6_report_5 0 rfl rfl ?_
  obtain ⟨z6, h6, hf⟩ := bi hf
  refine n_callV (As := []) (rest := []) (w2 := bX6 cyI aM z6.2) C dX6_report_6 (c6_isText l D cyI cyO cyJ aM n oM_2 z6 h6) (cwV 0 C.ts gX6_report_X6_isText rfl rfl rfl (by decide +kernel) ⟨Nat.le_of_ble_eq_true rfl, Nat.le_of_ble_eq_true rfl⟩) rfl (q0 := 0) (ci := 6) rfl rfl Frm.self rfl (Nat.le_of_ble_eq_true rfl) ⟨Nat.le_of_ble_eq_true rfl, Nat.le_of_ble_eq_true rfl⟩ rfl ?_
  refine n_if_ne (t := 18) C dX6_report_9 (by decide) rfl (fun h9 => ?_) (fun h9 => ?_)
  · have hf := iq h9 hf
    refine n_iconst (v := (nI 0)) C dX6_report_18 (by decide) rfl ?_
    refine n_istore_n (lv' := [(1, .int (nI 0)), (0, .ref (aM 0))]) C dX6_report_19 (by decide) rfl rfl ?_
    exact Wn.sub (lv' := [(0, .ref (aM 0)), (1, .int (nI 0))]) [1, 0] rfl (t6_report_b20 C n (fun oM hf => Wn.sub (lv' := [(0, .ref (aM 0))]) [0] rfl (t6_report_b63 C n oM hf)) (fun oM hf => Wn.sub (lv' := [(0, .ref (aM 0))]) [0] rfl (t6_report_b75 C n oM hf)) n (nI 0) z6.2 hf)
  · have hf := ip h9 hf
    refine n_aload_n C dX6_report_12 0 rfl rfl ?_
    refine n_iconst (v := (nI 1)) C dX6_report_13 (by decide) rfl ?_
    obtain ⟨z14, h14, hf⟩ := bi hf
    refine n_callV (As := [.int (nI 1)]) (rest := []) (w2 := bX6 cyI aM z14.2) C dX6_report_14 (c6_fails l D cyI cyO cyJ aM n z6.2 (nI 1) z14 h14) (cwV 1 C.ts gX6_report_X6_fails rfl rfl rfl (by decide +kernel) ⟨Nat.le_of_ble_eq_true rfl, Nat.le_of_ble_eq_true rfl⟩) rfl (q0 := 0) (ci := 6) rfl rfl Frm.self rfl (Nat.le_of_ble_eq_true rfl) ⟨Nat.le_of_ble_eq_true rfl, Nat.le_of_ble_eq_true rfl⟩ rfl ?_
    obtain rfl := Option.some.inj hf
    exact n_iret C dX6_report_17
-- X6 ofMatch 
theorem iw6_ofMatch_X6 : ∀ w ∈ u_ws RX6 TX6 12, w ∈ wsX6_ofMatch := by decide +kernel
abbrev rm6_ofMatch : Room := { frames := 2, cells := 0, slots := 0, locals := 45 }
def f6_ofMatch (n : Nat) (oM : OB) (x1 : Int32) (x2 : Int32) : Option (Int32) :=
  (if (nI 6) ≤ x2 then (f6_of n (oM.2 0) x1 (nI 6)).bind fun z23 => (if x2 = (nI 8) then some z23 else (if z23 = (0 : Int32) then some (-1 : Int32) else (f6_scoreOf n (oM.2 0) x1 (x2 - (nI 6))).bind fun z54 => some z54)) else (f6_of n (oM.2 0) x1 x2).bind fun z12 => some z12)
set_option maxHeartbeats 4000000 in
set_option maxRecDepth 100000 in
theorem c6_ofMatch (l : Launch) (D : va_G) (cyI cyO cyJ : ClassId) (aM : Nat → Nat) (n : Nat) (oM : OB) (x1 : Int32) (x2 : Int32) (z : Int32) (hf : f6_ofMatch n oM x1 x2 = some z) : Ct l D (tyG cyI cyO cyJ) yX6_ofMatch wsX6_ofMatch rm6_ofMatch 0 0 [.ref (aM 0), .int x1, .int x2] (bX6 cyI aM oM) (bX6 cyI aM oM) (some (.int z)) := by
  refine Ct.of (cc := cX6_ofMatch) (nL := 4) (ret := (some .int)) (lv := [(0, .ref (aM 0)), (1, .int x1), (2, .int x2)]) (by decide +kernel) rfl rfl (Nat.le_of_ble_eq_true rfl) ?_
  intro p e s m args below meth c A C
  have C : Cx p s m args meth c D (tyG cyI cyO cyJ) A RX6 cX6_ofMatch 4 (some .int) wsX6_ofMatch := C
  unfold f6_ofMatch at hf
  refine n_iload_n C dX6_ofMatch_0 2 rfl rfl ?_
  refine n_bipush (v := (nI 6)) C dX6_ofMatch_1 (by decide) rfl ?_
  refine n_icmp_ge (t := 16) C dX6_ofMatch_3 (by decide) rfl (fun h3 => ?_) (fun h3 => ?_)
  · have hf := ip h3 hf
    refine n_aload_n C dX6_ofMatch_16 0 rfl rfl ?_
    refine n_get (N := 12) C dX6_ofMatch_17 iw6_ofMatch_X6 0 rfl rfl 0 (by decide) (List.mem_of_getElem? (i := 1) rfl) rfl rfl rfl ?_
    refine n_iload_n C dX6_ofMatch_20 1 rfl rfl ?_
    refine n_bipush (v := (nI 6)) C dX6_ofMatch_21 (by decide) rfl ?_
    obtain ⟨z23, h23, hf⟩ := bi hf
    refine n_callS (As := [.ref (aM 1), .int x1, .int (nI 6)]) (rest := []) (w2 := bX6 cyI aM oM) C dX6_ofMatch_23 (c6_of l D cyI cyO cyJ (aM 1) n (oM.2 0) x1 (nI 6) z23 h23) (va_cwS 3 C.ts gX6_ofMatch_X6_of rfl rfl rfl (by decide +kernel) ⟨Nat.le_of_ble_eq_true rfl, Nat.le_of_ble_eq_true rfl⟩) rfl (Frm.skipc (Frm.takec Frm.none)) rfl (Nat.le_of_ble_eq_true rfl) ⟨Nat.le_of_ble_eq_true rfl, Nat.le_of_ble_eq_true rfl⟩ rfl ?_
    refine n_istore_n (lv' := [(3, .int z23), (0, .ref (aM 0)), (1, .int x1), (2, .int x2)]) C dX6_ofMatch_26 (by decide) rfl rfl ?_
    refine n_iload_n C dX6_ofMatch_27 3 rfl rfl ?_
    refine n_bipush (v := (nI 8)) C dX6_ofMatch_28 (by decide) rfl ?_
    refine n_icmp_ne (t := 37) C dX6_ofMatch_30 (by decide) rfl (fun h30 => ?_) (fun h30 => ?_)
    · have hf := iq h30 hf
      refine n_iload_n C dX6_ofMatch_37 0 rfl rfl ?_
      refine n_if_ne (t := 45) C dX6_ofMatch_38 (by decide) rfl (fun h38 => ?_) (fun h38 => ?_)
      · have hf := iq h38 hf
        refine n_aload_n C dX6_ofMatch_45 1 rfl rfl ?_
        refine n_get (N := 12) C dX6_ofMatch_46 iw6_ofMatch_X6 0 rfl rfl 0 (by decide) (List.mem_of_getElem? (i := 1) rfl) rfl rfl rfl ?_
        refine n_iload_n C dX6_ofMatch_49 2 rfl rfl ?_
        refine n_iload_n C dX6_ofMatch_50 3 rfl rfl ?_
        refine n_bipush (v := (nI 6)) C dX6_ofMatch_51 (by decide) rfl ?_
        refine n_isub C dX6_ofMatch_53 rfl ?_
        obtain ⟨z54, h54, hf⟩ := bi hf
        refine n_callS (As := [.ref (aM 1), .int x1, .int (x2 - (nI 6))]) (rest := []) (w2 := bX6 cyI aM oM) C dX6_ofMatch_54 (c6_scoreOf l D cyI cyO cyJ (aM 1) n (oM.2 0) x1 (x2 - (nI 6)) z54 h54) (va_cwS 3 C.ts gX6_ofMatch_X6_scoreOf rfl rfl rfl (by decide +kernel) ⟨Nat.le_of_ble_eq_true rfl, Nat.le_of_ble_eq_true rfl⟩) rfl (Frm.skipc (Frm.takec Frm.none)) rfl (Nat.le_of_ble_eq_true rfl) ⟨Nat.le_of_ble_eq_true rfl, Nat.le_of_ble_eq_true rfl⟩ rfl ?_
        obtain rfl := Option.some.inj hf
        exact n_iret C dX6_ofMatch_57
      · have hf := ip h38 hf
        refine n_iconst (v := (-1 : Int32)) C dX6_ofMatch_41 (by decide) rfl ?_
        refine n_goto (t := 57) C dX6_ofMatch_42 (by decide) ?_
        obtain rfl := Option.some.inj hf
        exact n_iret C dX6_ofMatch_57
    · have hf := ip h30 hf
      refine n_iload_n C dX6_ofMatch_33 0 rfl rfl ?_
      refine n_goto (t := 57) C dX6_ofMatch_34 (by decide) ?_
      obtain rfl := Option.some.inj hf
      exact n_iret C dX6_ofMatch_57
  · have hf := iq h3 hf
    refine n_aload_n C dX6_ofMatch_6 0 rfl rfl ?_
    refine n_get (N := 12) C dX6_ofMatch_7 iw6_ofMatch_X6 0 rfl rfl 0 (by decide) (List.mem_of_getElem? (i := 1) rfl) rfl rfl rfl ?_
    refine n_iload_n C dX6_ofMatch_10 1 rfl rfl ?_
    refine n_iload_n C dX6_ofMatch_11 2 rfl rfl ?_
    obtain ⟨z12, h12, hf⟩ := bi hf
    refine n_callS (As := [.ref (aM 1), .int x1, .int x2]) (rest := []) (w2 := bX6 cyI aM oM) C dX6_ofMatch_12 (c6_of l D cyI cyO cyJ (aM 1) n (oM.2 0) x1 x2 z12 h12) (va_cwS 3 C.ts gX6_ofMatch_X6_of rfl rfl rfl (by decide +kernel) ⟨Nat.le_of_ble_eq_true rfl, Nat.le_of_ble_eq_true rfl⟩) rfl (Frm.skipc (Frm.takec Frm.none)) rfl (Nat.le_of_ble_eq_true rfl) ⟨Nat.le_of_ble_eq_true rfl, Nat.le_of_ble_eq_true rfl⟩ rfl ?_
    obtain rfl := Option.some.inj hf
    exact n_iret C dX6_ofMatch_15
-- X6 match 
theorem iw6_match_X6 : ∀ w ∈ u_ws RX6 TX6 12, w ∈ wsX6_match := by decide +kernel
abbrev rm6_match : Room := { frames := 3, cells := 0, slots := 0, locals := 68 }
def f6_match (n : Nat) (oM : OB) (x1 : Int32) (x2 : Int32) : Option (Int32 × (OB)) :=
  (some (gsi oM 6 (nI 0))).bind fun oM_2 => (f6_isMatch n oM_2 x1).bind fun z7 => (if z7 = (0 : Int32) then (f6_fails n oM_2 (nI 1)).bind fun z15 => some (z15.1, z15.2) else (f6_in n x2 (nI 0) (nI 8)).bind fun z23 => (if z23 = (0 : Int32) then (f6_fails n oM_2 (nI 2)).bind fun z40 => some (z40.1, z40.2) else (f6_ofMatch n oM_2 x1 x2).bind fun z32 => some (z32, oM_2)))
set_option maxHeartbeats 4000000 in
set_option maxRecDepth 100000 in
theorem c6_match (l : Launch) (D : va_G) (cyI cyO cyJ : ClassId) (aM : Nat → Nat) (n : Nat) (oM : OB) (x1 : Int32) (x2 : Int32) (z : Int32 × (OB)) (hf : f6_match n oM x1 x2 = some z) : Ct l D (tyG cyI cyO cyJ) yX6_match wsX6_match rm6_match 0 0 [.ref (aM 0), .int x1, .int x2] (bX6 cyI aM oM) (bX6 cyI aM z.2) (some (.int z.1)) := by
  refine Ct.of (cc := cX6_match) (nL := 3) (ret := (some .int)) (lv := [(0, .ref (aM 0)), (1, .int x1), (2, .int x2)]) (by decide +kernel) rfl rfl (Nat.le_of_ble_eq_true rfl) ?_
  intro p e s m args below meth c A C
  have C : Cx p s m args meth c D (tyG cyI cyO cyJ) A RX6 cX6_match 3 (some .int) wsX6_match := C
  unfold f6_match at hf
  refine n_aload_n C dX6_match_0 0 rfl rfl ?_
  refine n_iconst (v := (nI 0)) C dX6_match_1 (by decide) rfl ?_
  obtain ⟨oM_2, e2, hf⟩ := bi hf
  replace e2 := Option.some.inj e2
  refine n_put (w2 := bX6 cyI aM oM_2) (N := 12) (ty := .int) C dX6_match_2 iw6_match_X6 tyX6_ok nmX6 0 rfl rfl 6 (by decide) (List.mem_of_getElem? (i := 1) rfl) rfl rfl (by decide +kernel) rfl rfl (Nat.le_of_ble_eq_true rfl) (by subst e2; rfl) rfl ?_
  refine n_aload_n C dX6_match_5 0 rfl rfl ?_
  refine n_iload_n C dX6_match_6 1 rfl rfl ?_
  obtain ⟨z7, h7, hf⟩ := bi hf
  refine n_callV (As := [.int x1]) (rest := []) (w2 := bX6 cyI aM oM_2) C dX6_match_7 (c6_isMatch l D cyI cyO cyJ aM n oM_2 x1 z7 h7) (cwV 1 C.ts gX6_match_X6_isMatch rfl rfl rfl (by decide +kernel) ⟨Nat.le_of_ble_eq_true rfl, Nat.le_of_ble_eq_true rfl⟩) rfl (q0 := 0) (ci := 6) rfl rfl Frm.self rfl (Nat.le_of_ble_eq_true rfl) ⟨Nat.le_of_ble_eq_true rfl, Nat.le_of_ble_eq_true rfl⟩ rfl ?_
  refine n_if_ne (t := 19) C dX6_match_10 (by decide) rfl (fun h10 => ?_) (fun h10 => ?_)
  · have hf := iq h10 hf
    refine n_iload_n C dX6_match_19 2 rfl rfl ?_
    refine n_iconst (v := (nI 0)) C dX6_match_20 (by decide) rfl ?_
    refine n_bipush (v := (nI 8)) C dX6_match_21 (by decide) rfl ?_
    obtain ⟨z23, h23, hf⟩ := bi hf
    refine n_callS (As := [.int x2, .int (nI 0), .int (nI 8)]) (rest := []) (w2 := bX6 cyI aM oM_2) C dX6_match_23 (c6_in l D cyI cyO cyJ  n x2 (nI 0) (nI 8) z23 h23) (va_cwS 3 C.ts gX6_match_X6_in rfl rfl rfl (by decide +kernel) ⟨Nat.le_of_ble_eq_true rfl, Nat.le_of_ble_eq_true rfl⟩) rfl Frm.none rfl (Nat.le_of_ble_eq_true rfl) ⟨Nat.le_of_ble_eq_true rfl, Nat.le_of_ble_eq_true rfl⟩ rfl ?_
    refine n_if_eq (t := 38) C dX6_match_26 (by decide) rfl (fun h26 => ?_) (fun h26 => ?_)
    · have hf := ip h26 hf
      refine n_aload_n C dX6_match_38 0 rfl rfl ?_
      refine n_iconst (v := (nI 2)) C dX6_match_39 (by decide) rfl ?_
      obtain ⟨z40, h40, hf⟩ := bi hf
      refine n_callV (As := [.int (nI 2)]) (rest := []) (w2 := bX6 cyI aM z40.2) C dX6_match_40 (c6_fails l D cyI cyO cyJ aM n oM_2 (nI 2) z40 h40) (cwV 1 C.ts gX6_match_X6_fails rfl rfl rfl (by decide +kernel) ⟨Nat.le_of_ble_eq_true rfl, Nat.le_of_ble_eq_true rfl⟩) rfl (q0 := 0) (ci := 6) rfl rfl Frm.self rfl (Nat.le_of_ble_eq_true rfl) ⟨Nat.le_of_ble_eq_true rfl, Nat.le_of_ble_eq_true rfl⟩ rfl ?_
      obtain rfl := Option.some.inj hf
      exact n_iret C dX6_match_43
    · have hf := iq h26 hf
      refine n_aload_n C dX6_match_29 0 rfl rfl ?_
      refine n_iload_n C dX6_match_30 1 rfl rfl ?_
      refine n_iload_n C dX6_match_31 2 rfl rfl ?_
      obtain ⟨z32, h32, hf⟩ := bi hf
      refine n_callV (As := [.int x1, .int x2]) (rest := []) (w2 := bX6 cyI aM oM_2) C dX6_match_32 (c6_ofMatch l D cyI cyO cyJ aM n oM_2 x1 x2 z32 h32) (cwV 2 C.ts gX6_match_X6_ofMatch rfl rfl rfl (by decide +kernel) ⟨Nat.le_of_ble_eq_true rfl, Nat.le_of_ble_eq_true rfl⟩) rfl (q0 := 0) (ci := 6) rfl rfl Frm.self rfl (Nat.le_of_ble_eq_true rfl) ⟨Nat.le_of_ble_eq_true rfl, Nat.le_of_ble_eq_true rfl⟩ rfl ?_
      refine n_goto (t := 43) C dX6_match_35 (by decide) ?_
      obtain rfl := Option.some.inj hf
      exact n_iret C dX6_match_43
  · have hf := ip h10 hf
    refine n_aload_n C dX6_match_13 0 rfl rfl ?_
    refine n_iconst (v := (nI 1)) C dX6_match_14 (by decide) rfl ?_
    obtain ⟨z15, h15, hf⟩ := bi hf
    refine n_callV (As := [.int (nI 1)]) (rest := []) (w2 := bX6 cyI aM z15.2) C dX6_match_15 (c6_fails l D cyI cyO cyJ aM n oM_2 (nI 1) z15 h15) (cwV 1 C.ts gX6_match_X6_fails rfl rfl rfl (by decide +kernel) ⟨Nat.le_of_ble_eq_true rfl, Nat.le_of_ble_eq_true rfl⟩) rfl (q0 := 0) (ci := 6) rfl rfl Frm.self rfl (Nat.le_of_ble_eq_true rfl) ⟨Nat.le_of_ble_eq_true rfl, Nat.le_of_ble_eq_true rfl⟩ rfl ?_
    obtain rfl := Option.some.inj hf
    exact n_iret C dX6_match_18
-- X6 ofTeam 
theorem iw6_ofTeam_X6 : ∀ w ∈ u_ws RX6 TX6 12, w ∈ wsX6_ofTeam := by decide +kernel
abbrev rm6_ofTeam : Room := { frames := 6, cells := 0, slots := 0, locals := 142 }
def f6_ofTeam (n : Nat) (oM : OB) (x1 : Int32) (x2 : Int32) : Option (Int32) :=
  (if x2 = (0 : Int32) then (f6_points n (oM.2 0) x1).bind fun z9 => some z9 else (if x2 = (nI 7) then (f6_placeOf n (oM.2 0) x1).bind fun z26 => some z26 else (f6_sums n (oM.2 0) x1 x2).bind fun z38 => some z38))
set_option maxHeartbeats 4000000 in
set_option maxRecDepth 100000 in
theorem c6_ofTeam (l : Launch) (D : va_G) (cyI cyO cyJ : ClassId) (aM : Nat → Nat) (n : Nat) (oM : OB) (x1 : Int32) (x2 : Int32) (z : Int32) (hf : f6_ofTeam n oM x1 x2 = some z) : Ct l D (tyG cyI cyO cyJ) yX6_ofTeam wsX6_ofTeam rm6_ofTeam 0 0 [.ref (aM 0), .int x1, .int x2] (bX6 cyI aM oM) (bX6 cyI aM oM) (some (.int z)) := by
  refine Ct.of (cc := cX6_ofTeam) (nL := 3) (ret := (some .int)) (lv := [(0, .ref (aM 0)), (1, .int x1), (2, .int x2)]) (by decide +kernel) rfl rfl (Nat.le_of_ble_eq_true rfl) ?_
  intro p e s m args below meth c A C
  have C : Cx p s m args meth c D (tyG cyI cyO cyJ) A RX6 cX6_ofTeam 3 (some .int) wsX6_ofTeam := C
  unfold f6_ofTeam at hf
  refine n_iload_n C dX6_ofTeam_0 2 rfl rfl ?_
  refine n_if_ne (t := 15) C dX6_ofTeam_1 (by decide) rfl (fun h1 => ?_) (fun h1 => ?_)
  · have hf := iq h1 hf
    refine n_iload_n C dX6_ofTeam_15 2 rfl rfl ?_
    refine n_bipush (v := (nI 7)) C dX6_ofTeam_16 (by decide) rfl ?_
    refine n_icmp_ne (t := 32) C dX6_ofTeam_18 (by decide) rfl (fun h18 => ?_) (fun h18 => ?_)
    · have hf := iq h18 hf
      refine n_aload_n C dX6_ofTeam_32 0 rfl rfl ?_
      refine n_get (N := 12) C dX6_ofTeam_33 iw6_ofTeam_X6 0 rfl rfl 0 (by decide) (List.mem_of_getElem? (i := 1) rfl) rfl rfl rfl ?_
      refine n_iload_n C dX6_ofTeam_36 1 rfl rfl ?_
      refine n_iload_n C dX6_ofTeam_37 2 rfl rfl ?_
      obtain ⟨z38, h38, hf⟩ := bi hf
      refine n_callS (As := [.ref (aM 1), .int x1, .int x2]) (rest := []) (w2 := bX6 cyI aM oM) C dX6_ofTeam_38 (c6_sums l D cyI cyO cyJ (aM 1) n (oM.2 0) x1 x2 z38 h38) (va_cwS 3 C.ts gX6_ofTeam_X6_sums rfl rfl rfl (by decide +kernel) ⟨Nat.le_of_ble_eq_true rfl, Nat.le_of_ble_eq_true rfl⟩) rfl (Frm.skipc (Frm.takec Frm.none)) rfl (Nat.le_of_ble_eq_true rfl) ⟨Nat.le_of_ble_eq_true rfl, Nat.le_of_ble_eq_true rfl⟩ rfl ?_
      obtain rfl := Option.some.inj hf
      exact n_iret C dX6_ofTeam_41
    · have hf := ip h18 hf
      refine n_aload_n C dX6_ofTeam_21 0 rfl rfl ?_
      refine n_get (N := 12) C dX6_ofTeam_22 iw6_ofTeam_X6 0 rfl rfl 0 (by decide) (List.mem_of_getElem? (i := 1) rfl) rfl rfl rfl ?_
      refine n_iload_n C dX6_ofTeam_25 1 rfl rfl ?_
      obtain ⟨z26, h26, hf⟩ := bi hf
      refine n_callS (As := [.ref (aM 1), .int x1]) (rest := []) (w2 := bX6 cyI aM oM) C dX6_ofTeam_26 (c6_placeOf l D cyI cyO cyJ (aM 1) n (oM.2 0) x1 z26 h26) (va_cwS 2 C.ts gX6_ofTeam_X6_placeOf rfl rfl rfl (by decide +kernel) ⟨Nat.le_of_ble_eq_true rfl, Nat.le_of_ble_eq_true rfl⟩) rfl (Frm.skipc (Frm.takec Frm.none)) rfl (Nat.le_of_ble_eq_true rfl) ⟨Nat.le_of_ble_eq_true rfl, Nat.le_of_ble_eq_true rfl⟩ rfl ?_
      refine n_goto (t := 41) C dX6_ofTeam_29 (by decide) ?_
      obtain rfl := Option.some.inj hf
      exact n_iret C dX6_ofTeam_41
  · have hf := ip h1 hf
    refine n_aload_n C dX6_ofTeam_4 0 rfl rfl ?_
    refine n_get (N := 12) C dX6_ofTeam_5 iw6_ofTeam_X6 0 rfl rfl 0 (by decide) (List.mem_of_getElem? (i := 1) rfl) rfl rfl rfl ?_
    refine n_iload_n C dX6_ofTeam_8 1 rfl rfl ?_
    obtain ⟨z9, h9, hf⟩ := bi hf
    refine n_callS (As := [.ref (aM 1), .int x1]) (rest := []) (w2 := bX6 cyI aM oM) C dX6_ofTeam_9 (c6_points l D cyI cyO cyJ (aM 1) n (oM.2 0) x1 z9 h9) (va_cwS 2 C.ts gX6_ofTeam_X6_points rfl rfl rfl (by decide +kernel) ⟨Nat.le_of_ble_eq_true rfl, Nat.le_of_ble_eq_true rfl⟩) rfl (Frm.skipc (Frm.takec Frm.none)) rfl (Nat.le_of_ble_eq_true rfl) ⟨Nat.le_of_ble_eq_true rfl, Nat.le_of_ble_eq_true rfl⟩ rfl ?_
    refine n_goto (t := 41) C dX6_ofTeam_12 (by decide) ?_
    obtain rfl := Option.some.inj hf
    exact n_iret C dX6_ofTeam_41
-- X6 team 
theorem iw6_team_X6 : ∀ w ∈ u_ws RX6 TX6 12, w ∈ wsX6_team := by decide +kernel
abbrev rm6_team : Room := { frames := 7, cells := 0, slots := 0, locals := 164 }
def f6_team (n : Nat) (oM : OB) (x1 : Int32) (x2 : Int32) : Option (Int32 × (OB)) :=
  (some (gsi oM 6 (nI 0))).bind fun oM_2 => (f6_isTeam n oM_2 x1).bind fun z7 => (if z7 = (0 : Int32) then (f6_fails n oM_2 (nI 1)).bind fun z15 => some (z15.1, z15.2) else (f6_in n x2 (nI 0) (nI 8)).bind fun z23 => (if z23 = (0 : Int32) then (f6_fails n oM_2 (nI 2)).bind fun z40 => some (z40.1, z40.2) else (f6_ofTeam n oM_2 x1 x2).bind fun z32 => some (z32, oM_2)))
set_option maxHeartbeats 4000000 in
set_option maxRecDepth 100000 in
theorem c6_team (l : Launch) (D : va_G) (cyI cyO cyJ : ClassId) (aM : Nat → Nat) (n : Nat) (oM : OB) (x1 : Int32) (x2 : Int32) (z : Int32 × (OB)) (hf : f6_team n oM x1 x2 = some z) : Ct l D (tyG cyI cyO cyJ) yX6_team wsX6_team rm6_team 0 0 [.ref (aM 0), .int x1, .int x2] (bX6 cyI aM oM) (bX6 cyI aM z.2) (some (.int z.1)) := by
  refine Ct.of (cc := cX6_team) (nL := 3) (ret := (some .int)) (lv := [(0, .ref (aM 0)), (1, .int x1), (2, .int x2)]) (by decide +kernel) rfl rfl (Nat.le_of_ble_eq_true rfl) ?_
  intro p e s m args below meth c A C
  have C : Cx p s m args meth c D (tyG cyI cyO cyJ) A RX6 cX6_team 3 (some .int) wsX6_team := C
  unfold f6_team at hf
  refine n_aload_n C dX6_team_0 0 rfl rfl ?_
  refine n_iconst (v := (nI 0)) C dX6_team_1 (by decide) rfl ?_
  obtain ⟨oM_2, e2, hf⟩ := bi hf
  replace e2 := Option.some.inj e2
  refine n_put (w2 := bX6 cyI aM oM_2) (N := 12) (ty := .int) C dX6_team_2 iw6_team_X6 tyX6_ok nmX6 0 rfl rfl 6 (by decide) (List.mem_of_getElem? (i := 1) rfl) rfl rfl (by decide +kernel) rfl rfl (Nat.le_of_ble_eq_true rfl) (by subst e2; rfl) rfl ?_
  refine n_aload_n C dX6_team_5 0 rfl rfl ?_
  refine n_iload_n C dX6_team_6 1 rfl rfl ?_
  obtain ⟨z7, h7, hf⟩ := bi hf
  refine n_callV (As := [.int x1]) (rest := []) (w2 := bX6 cyI aM oM_2) C dX6_team_7 (c6_isTeam l D cyI cyO cyJ aM n oM_2 x1 z7 h7) (cwV 1 C.ts gX6_team_X6_isTeam rfl rfl rfl (by decide +kernel) ⟨Nat.le_of_ble_eq_true rfl, Nat.le_of_ble_eq_true rfl⟩) rfl (q0 := 0) (ci := 6) rfl rfl Frm.self rfl (Nat.le_of_ble_eq_true rfl) ⟨Nat.le_of_ble_eq_true rfl, Nat.le_of_ble_eq_true rfl⟩ rfl ?_
  refine n_if_ne (t := 19) C dX6_team_10 (by decide) rfl (fun h10 => ?_) (fun h10 => ?_)
  · have hf := iq h10 hf
    refine n_iload_n C dX6_team_19 2 rfl rfl ?_
    refine n_iconst (v := (nI 0)) C dX6_team_20 (by decide) rfl ?_
    refine n_bipush (v := (nI 8)) C dX6_team_21 (by decide) rfl ?_
    obtain ⟨z23, h23, hf⟩ := bi hf
    refine n_callS (As := [.int x2, .int (nI 0), .int (nI 8)]) (rest := []) (w2 := bX6 cyI aM oM_2) C dX6_team_23 (c6_in l D cyI cyO cyJ  n x2 (nI 0) (nI 8) z23 h23) (va_cwS 3 C.ts gX6_team_X6_in rfl rfl rfl (by decide +kernel) ⟨Nat.le_of_ble_eq_true rfl, Nat.le_of_ble_eq_true rfl⟩) rfl Frm.none rfl (Nat.le_of_ble_eq_true rfl) ⟨Nat.le_of_ble_eq_true rfl, Nat.le_of_ble_eq_true rfl⟩ rfl ?_
    refine n_if_eq (t := 38) C dX6_team_26 (by decide) rfl (fun h26 => ?_) (fun h26 => ?_)
    · have hf := ip h26 hf
      refine n_aload_n C dX6_team_38 0 rfl rfl ?_
      refine n_iconst (v := (nI 2)) C dX6_team_39 (by decide) rfl ?_
      obtain ⟨z40, h40, hf⟩ := bi hf
      refine n_callV (As := [.int (nI 2)]) (rest := []) (w2 := bX6 cyI aM z40.2) C dX6_team_40 (c6_fails l D cyI cyO cyJ aM n oM_2 (nI 2) z40 h40) (cwV 1 C.ts gX6_team_X6_fails rfl rfl rfl (by decide +kernel) ⟨Nat.le_of_ble_eq_true rfl, Nat.le_of_ble_eq_true rfl⟩) rfl (q0 := 0) (ci := 6) rfl rfl Frm.self rfl (Nat.le_of_ble_eq_true rfl) ⟨Nat.le_of_ble_eq_true rfl, Nat.le_of_ble_eq_true rfl⟩ rfl ?_
      obtain rfl := Option.some.inj hf
      exact n_iret C dX6_team_43
    · have hf := iq h26 hf
      refine n_aload_n C dX6_team_29 0 rfl rfl ?_
      refine n_iload_n C dX6_team_30 1 rfl rfl ?_
      refine n_iload_n C dX6_team_31 2 rfl rfl ?_
      obtain ⟨z32, h32, hf⟩ := bi hf
      refine n_callV (As := [.int x1, .int x2]) (rest := []) (w2 := bX6 cyI aM oM_2) C dX6_team_32 (c6_ofTeam l D cyI cyO cyJ aM n oM_2 x1 x2 z32 h32) (cwV 2 C.ts gX6_team_X6_ofTeam rfl rfl rfl (by decide +kernel) ⟨Nat.le_of_ble_eq_true rfl, Nat.le_of_ble_eq_true rfl⟩) rfl (q0 := 0) (ci := 6) rfl rfl Frm.self rfl (Nat.le_of_ble_eq_true rfl) ⟨Nat.le_of_ble_eq_true rfl, Nat.le_of_ble_eq_true rfl⟩ rfl ?_
      refine n_goto (t := 43) C dX6_team_35 (by decide) ?_
      obtain rfl := Option.some.inj hf
      exact n_iret C dX6_team_43
  · have hf := ip h10 hf
    refine n_aload_n C dX6_team_13 0 rfl rfl ?_
    refine n_iconst (v := (nI 1)) C dX6_team_14 (by decide) rfl ?_
    obtain ⟨z15, h15, hf⟩ := bi hf
    refine n_callV (As := [.int (nI 1)]) (rest := []) (w2 := bX6 cyI aM z15.2) C dX6_team_15 (c6_fails l D cyI cyO cyJ aM n oM_2 (nI 1) z15 h15) (cwV 1 C.ts gX6_team_X6_fails rfl rfl rfl (by decide +kernel) ⟨Nat.le_of_ble_eq_true rfl, Nat.le_of_ble_eq_true rfl⟩) rfl (q0 := 0) (ci := 6) rfl rfl Frm.self rfl (Nat.le_of_ble_eq_true rfl) ⟨Nat.le_of_ble_eq_true rfl, Nat.le_of_ble_eq_true rfl⟩ rfl ?_
    obtain rfl := Option.some.inj hf
    exact n_iret C dX6_team_18
-- X6 table 
theorem iw6_table_X6 : ∀ w ∈ u_ws RX6 TX6 12, w ∈ wsX6_table := by decide +kernel
abbrev rm6_table : Room := { frames := 7, cells := 0, slots := 0, locals := 165 }
def f6_table (n : Nat) (oM : OB) (x1 : Int32) : Option (Int32 × (OB)) :=
  (some (gsi oM 6 (nI 0))).bind fun oM_2 => (if (0 : Int32) ≤ x1 then (ald 270 (oM_2.2 0) (nI 4)).bind fun x21 => (if x21 ≤ x1 then some ((-1 : Int32), oM_2) else (f6_teamAt n (oM_2.2 0) x1).bind fun z30 => some (z30, oM_2)) else (f6_fails n oM_2 (nI 1)).bind fun z11 => some (z11.1, z11.2))
set_option maxHeartbeats 4000000 in
set_option maxRecDepth 100000 in
theorem c6_table (l : Launch) (D : va_G) (cyI cyO cyJ : ClassId) (aM : Nat → Nat) (n : Nat) (oM : OB) (x1 : Int32) (z : Int32 × (OB)) (hf : f6_table n oM x1 = some z) : Ct l D (tyG cyI cyO cyJ) yX6_table wsX6_table rm6_table 0 0 [.ref (aM 0), .int x1] (bX6 cyI aM oM) (bX6 cyI aM z.2) (some (.int z.1)) := by
  refine Ct.of (cc := cX6_table) (nL := 2) (ret := (some .int)) (lv := [(0, .ref (aM 0)), (1, .int x1)]) (by decide +kernel) rfl rfl (Nat.le_of_ble_eq_true rfl) ?_
  intro p e s m args below meth c A C
  have C : Cx p s m args meth c D (tyG cyI cyO cyJ) A RX6 cX6_table 2 (some .int) wsX6_table := C
  unfold f6_table at hf
  refine n_aload_n C dX6_table_0 0 rfl rfl ?_
  refine n_iconst (v := (nI 0)) C dX6_table_1 (by decide) rfl ?_
  obtain ⟨oM_2, e2, hf⟩ := bi hf
  replace e2 := Option.some.inj e2
  refine n_put (w2 := bX6 cyI aM oM_2) (N := 12) (ty := .int) C dX6_table_2 iw6_table_X6 tyX6_ok nmX6 0 rfl rfl 6 (by decide) (List.mem_of_getElem? (i := 1) rfl) rfl rfl (by decide +kernel) rfl rfl (Nat.le_of_ble_eq_true rfl) (by subst e2; rfl) rfl ?_
  refine n_iload_n C dX6_table_5 1 rfl rfl ?_
  refine n_if_ge (t := 15) C dX6_table_6 (by decide) rfl (fun h6 => ?_) (fun h6 => ?_)
  · have hf := ip h6 hf
    refine n_iload_n C dX6_table_15 1 rfl rfl ?_
    refine n_aload_n C dX6_table_16 0 rfl rfl ?_
    refine n_get (N := 12) C dX6_table_17 iw6_table_X6 0 rfl rfl 0 (by decide) (List.mem_of_getElem? (i := 2) rfl) rfl rfl rfl ?_
    refine n_iconst (v := (nI 4)) C dX6_table_20 (by decide) rfl ?_
    obtain ⟨x21, h21, hf⟩ := bi hf
    obtain ⟨h21, e21⟩ := ald_some h21
    refine n_iald C dX6_table_21 1 0 rfl rfl h21 rfl ?_
    rw [← e21]
    refine n_icmp_ge (t := 36) C dX6_table_22 (by decide) rfl (fun h22 => ?_) (fun h22 => ?_)
    · have hf := ip h22 hf
      refine n_iconst (v := (-1 : Int32)) C dX6_table_36 (by decide) rfl ?_
      obtain rfl := Option.some.inj hf
      exact n_iret C dX6_table_37
    · have hf := iq h22 hf
      refine n_aload_n C dX6_table_25 0 rfl rfl ?_
      refine n_get (N := 12) C dX6_table_26 iw6_table_X6 0 rfl rfl 0 (by decide) (List.mem_of_getElem? (i := 2) rfl) rfl rfl rfl ?_
      refine n_iload_n C dX6_table_29 1 rfl rfl ?_
      obtain ⟨z30, h30, hf⟩ := bi hf
      refine n_callS (As := [.ref (aM 1), .int x1]) (rest := []) (w2 := bX6 cyI aM oM_2) C dX6_table_30 (c6_teamAt l D cyI cyO cyJ (aM 1) n (oM_2.2 0) x1 z30 h30) (va_cwS 2 C.ts gX6_table_X6_teamAt rfl rfl rfl (by decide +kernel) ⟨Nat.le_of_ble_eq_true rfl, Nat.le_of_ble_eq_true rfl⟩) rfl (Frm.skipc (Frm.takec Frm.none)) rfl (Nat.le_of_ble_eq_true rfl) ⟨Nat.le_of_ble_eq_true rfl, Nat.le_of_ble_eq_true rfl⟩ rfl ?_
      refine n_goto (t := 37) C dX6_table_33 (by decide) ?_
      obtain rfl := Option.some.inj hf
      exact n_iret C dX6_table_37
  · have hf := iq h6 hf
    refine n_aload_n C dX6_table_9 0 rfl rfl ?_
    refine n_iconst (v := (nI 1)) C dX6_table_10 (by decide) rfl ?_
    obtain ⟨z11, h11, hf⟩ := bi hf
    refine n_callV (As := [.int (nI 1)]) (rest := []) (w2 := bX6 cyI aM z11.2) C dX6_table_11 (c6_fails l D cyI cyO cyJ aM n oM_2 (nI 1) z11 h11) (cwV 1 C.ts gX6_table_X6_fails rfl rfl rfl (by decide +kernel) ⟨Nat.le_of_ble_eq_true rfl, Nat.le_of_ble_eq_true rfl⟩) rfl (q0 := 0) (ci := 6) rfl rfl Frm.self rfl (Nat.le_of_ble_eq_true rfl) ⟨Nat.le_of_ble_eq_true rfl, Nat.le_of_ble_eq_true rfl⟩ rfl ?_
    obtain rfl := Option.some.inj hf
    exact n_iret C dX6_table_14
-- X6 busyWith 
theorem iw6_busyWith_X6 : ∀ w ∈ u_ws RX6 TX6 12, w ∈ wsX6_busyWith := by decide +kernel
abbrev rm6_busyWith : Room := { frames := 1, cells := 0, slots := 0, locals := 22 }
def f6_busyWith_b33 (n : Nat) (oM : OB) (x1 : Int32) (x2 : Int32) (k5 : Int32 → Int32 → Option (Int32)) (v3 : Int32) (v4 : Int32) (s1 : Int32) (s2 : Int32) : Option (Int32) :=
  (f6_of n (oM.2 0) s1 s2).bind fun z33 => (f6_of n (oM.2 0) v4 (nI 0)).bind fun z45 => (if z45 = x1 then (if z33 = (x2 - x2 / (nI 6) * (nI 6)) then k5 v4 (v4 + (nI 1)) else k5 v3 (v4 + (nI 1))) else k5 v3 (v4 + (nI 1)))
def f6_busyWith_b5 (n : Nat) (oM : OB) (x1 : Int32) (x2 : Int32) : Nat → Int32 → Int32 → Option (Int32)
  | 0, _, _ => none
  | k + 1, v3, v4 =>
    (ald 270 (oM.2 0) (nI 5)).bind fun x12 => (if x12 ≤ v4 then some v3 else (if (nI 6) ≤ x2 then f6_busyWith_b33 n oM x1 x2 (f6_busyWith_b5 n oM x1 x2 k) v3 v4 v4 (nI 4) else f6_busyWith_b33 n oM x1 x2 (f6_busyWith_b5 n oM x1 x2 k) v3 v4 v4 (nI 3)))
def f6_busyWith (n : Nat) (oM : OB) (x1 : Int32) (x2 : Int32) : Option (Int32) :=
  f6_busyWith_b5 n oM x1 x2 n (-1 : Int32) (nI 0)
set_option maxHeartbeats 4000000 in
set_option maxRecDepth 100000 in
theorem t6_busyWith_b33 {l : Launch} {p : Program} {e : Env} {s : State} {m : MethodId} {args : Array Value} {below : List Frame} {meth : Method} {c : Code} {D : va_G} {A : Nat → Prop} {cyI cyO cyJ : ClassId} {aM : Nat → Nat} (C : Cx p s m args meth c D (tyG cyI cyO cyJ) A RX6 cX6_busyWith 6 (some .int) wsX6_busyWith) {z : Int32} (n : Nat) (oM : OB) (x1 : Int32) (x2 : Int32) {k5 : Int32 → Int32 → Option (Int32)} (hk5 : ∀ (v3 : Int32) (v4 : Int32), k5 v3 v4 = some z → Wn p l e rm6_busyWith s m args below meth c D A 6 0 0 (MQ below (Qr D (tyG cyI cyO cyJ) (bX6 cyI aM oM) A (some (.int z))) args s 0 0 A) (bX6 cyI aM oM) 5 [(0, .ref (aM 0)), (1, .int x1), (2, .int x2), (3, .int v3), (4, .int v4)] []) (v3 : Int32) (v4 : Int32) (s1 : Int32) (s2 : Int32) (hf : f6_busyWith_b33 n oM x1 x2 k5 v3 v4 s1 s2 = some z) : Wn p l e rm6_busyWith s m args below meth c D A 6 0 0 (MQ below (Qr D (tyG cyI cyO cyJ) (bX6 cyI aM oM) A (some (.int z))) args s 0 0 A) (bX6 cyI aM oM) 33 [(0, .ref (aM 0)), (1, .int x1), (2, .int x2), (3, .int v3), (4, .int v4)] [.int s2, .int s1, .ref (aM 1)] := by
  unfold f6_busyWith_b33 at hf
  obtain ⟨z33, h33, hf⟩ := bi hf
  refine n_callS (As := [.ref (aM 1), .int s1, .int s2]) (rest := []) (w2 := bX6 cyI aM oM) C dX6_busyWith_33 (c6_of l D cyI cyO cyJ (aM 1) n (oM.2 0) s1 s2 z33 h33) (va_cwS 3 C.ts gX6_busyWith_X6_of rfl rfl rfl (by decide +kernel) ⟨Nat.le_of_ble_eq_true rfl, Nat.le_of_ble_eq_true rfl⟩) rfl (Frm.skipc (Frm.takec Frm.none)) rfl (Nat.le_of_ble_eq_true rfl) ⟨Nat.le_of_ble_eq_true rfl, Nat.le_of_ble_eq_true rfl⟩ rfl ?_
  refine n_istore (lv' := [(5, .int z33), (0, .ref (aM 0)), (1, .int x1), (2, .int x2), (3, .int v3), (4, .int v4)]) C dX6_busyWith_36 (by decide) rfl rfl ?_
  refine n_aload_n C dX6_busyWith_38 1 rfl rfl ?_
  refine n_get (N := 12) C dX6_busyWith_39 iw6_busyWith_X6 0 rfl rfl 0 (by decide) (List.mem_of_getElem? (i := 1) rfl) rfl rfl rfl ?_
  refine n_iload C dX6_busyWith_42 5 rfl rfl ?_
  refine n_iconst (v := (nI 0)) C dX6_busyWith_44 (by decide) rfl ?_
  obtain ⟨z45, h45, hf⟩ := bi hf
  refine n_callS (As := [.ref (aM 1), .int v4, .int (nI 0)]) (rest := []) (w2 := bX6 cyI aM oM) C dX6_busyWith_45 (c6_of l D cyI cyO cyJ (aM 1) n (oM.2 0) v4 (nI 0) z45 h45) (va_cwS 3 C.ts gX6_busyWith_X6_of rfl rfl rfl (by decide +kernel) ⟨Nat.le_of_ble_eq_true rfl, Nat.le_of_ble_eq_true rfl⟩) rfl (Frm.skipc (Frm.takec Frm.none)) rfl (Nat.le_of_ble_eq_true rfl) ⟨Nat.le_of_ble_eq_true rfl, Nat.le_of_ble_eq_true rfl⟩ rfl ?_
  refine n_iload_n C dX6_busyWith_48 2 rfl rfl ?_
  refine n_icmp_ne (t := 66) C dX6_busyWith_49 (by decide) rfl (fun h49 => ?_) (fun h49 => ?_)
  · have hf := iq h49 hf
    refine n_iload_n C dX6_busyWith_66 4 rfl rfl ?_
    refine n_istore_n (lv' := [(3, .int v3), (5, .int z33), (0, .ref (aM 0)), (1, .int x1), (2, .int x2), (4, .int v4)]) C dX6_busyWith_67 (by decide) rfl rfl ?_
    refine n_iinc (v := v4 + (nI 1)) (lv' := [(4, .int (v4 + (nI 1))), (3, .int v3), (5, .int z33), (0, .ref (aM 0)), (1, .int x1), (2, .int x2)]) C dX6_busyWith_68 (j := 5) rfl rfl (by decide) rfl rfl ?_
    refine n_goto (t := 5) C dX6_busyWith_71 (by decide) ?_
    exact Wn.sub (lv' := [(0, .ref (aM 0)), (1, .int x1), (2, .int x2), (3, .int v3), (4, .int (v4 + (nI 1)))]) [3, 4, 5, 1, 0] rfl (hk5 v3 (v4 + (nI 1)) hf)
  · have hf := ip h49 hf
    refine n_iload C dX6_busyWith_52 0 rfl rfl ?_
    refine n_iload_n C dX6_busyWith_54 3 rfl rfl ?_
    refine n_bipush (v := (nI 6)) C dX6_busyWith_55 (by decide) rfl ?_
    refine n_irem C dX6_busyWith_57 (by decide) rfl ?_
    refine n_icmp_ne (t := 66) C dX6_busyWith_58 (by decide) rfl (fun h58 => ?_) (fun h58 => ?_)
    · have hf := iq h58 hf
      refine n_iload_n C dX6_busyWith_66 4 rfl rfl ?_
      refine n_istore_n (lv' := [(3, .int v3), (5, .int z33), (0, .ref (aM 0)), (1, .int x1), (2, .int x2), (4, .int v4)]) C dX6_busyWith_67 (by decide) rfl rfl ?_
      refine n_iinc (v := v4 + (nI 1)) (lv' := [(4, .int (v4 + (nI 1))), (3, .int v3), (5, .int z33), (0, .ref (aM 0)), (1, .int x1), (2, .int x2)]) C dX6_busyWith_68 (j := 5) rfl rfl (by decide) rfl rfl ?_
      refine n_goto (t := 5) C dX6_busyWith_71 (by decide) ?_
      exact Wn.sub (lv' := [(0, .ref (aM 0)), (1, .int x1), (2, .int x2), (3, .int v3), (4, .int (v4 + (nI 1)))]) [3, 4, 5, 1, 0] rfl (hk5 v3 (v4 + (nI 1)) hf)
    · have hf := ip h58 hf
      refine n_iload C dX6_busyWith_61 5 rfl rfl ?_
      refine n_goto (t := 67) C dX6_busyWith_63 (by decide) ?_
      refine n_istore_n (lv' := [(3, .int v4), (5, .int z33), (0, .ref (aM 0)), (1, .int x1), (2, .int x2), (4, .int v4)]) C dX6_busyWith_67 (by decide) rfl rfl ?_
      refine n_iinc (v := v4 + (nI 1)) (lv' := [(4, .int (v4 + (nI 1))), (3, .int v4), (5, .int z33), (0, .ref (aM 0)), (1, .int x1), (2, .int x2)]) C dX6_busyWith_68 (j := 5) rfl rfl (by decide) rfl rfl ?_
      refine n_goto (t := 5) C dX6_busyWith_71 (by decide) ?_
      exact Wn.sub (lv' := [(0, .ref (aM 0)), (1, .int x1), (2, .int x2), (3, .int v4), (4, .int (v4 + (nI 1)))]) [3, 4, 5, 1, 0] rfl (hk5 v4 (v4 + (nI 1)) hf)
set_option maxHeartbeats 4000000 in
set_option maxRecDepth 100000 in
theorem t6_busyWith_b5 {l : Launch} {p : Program} {e : Env} {s : State} {m : MethodId} {args : Array Value} {below : List Frame} {meth : Method} {c : Code} {D : va_G} {A : Nat → Prop} {cyI cyO cyJ : ClassId} {aM : Nat → Nat} (C : Cx p s m args meth c D (tyG cyI cyO cyJ) A RX6 cX6_busyWith 6 (some .int) wsX6_busyWith) {z : Int32} (n : Nat) (oM : OB) (x1 : Int32) (x2 : Int32) : ∀ (k : Nat) (v3 : Int32) (v4 : Int32), f6_busyWith_b5 n oM x1 x2 k v3 v4 = some z → Wn p l e rm6_busyWith s m args below meth c D A 6 0 0 (MQ below (Qr D (tyG cyI cyO cyJ) (bX6 cyI aM oM) A (some (.int z))) args s 0 0 A) (bX6 cyI aM oM) 5 [(0, .ref (aM 0)), (1, .int x1), (2, .int x2), (3, .int v3), (4, .int v4)] [] := by
  intro k
  induction k with
  | zero => intro  v3 v4 hf; cases hf
  | succ k ih =>
    intro  v3 v4 hf
    unfold f6_busyWith_b5 at hf
    refine n_iload C dX6_busyWith_5 4 rfl rfl ?_
    refine n_aload_n C dX6_busyWith_7 0 rfl rfl ?_
    refine n_get (N := 12) C dX6_busyWith_8 iw6_busyWith_X6 0 rfl rfl 0 (by decide) (List.mem_of_getElem? (i := 1) rfl) rfl rfl rfl ?_
    refine n_iconst (v := (nI 5)) C dX6_busyWith_11 (by decide) rfl ?_
    obtain ⟨x12, h12, hf⟩ := bi hf
    obtain ⟨h12, e12⟩ := ald_some h12
    refine n_iald C dX6_busyWith_12 1 0 rfl rfl h12 rfl ?_
    rw [← e12]
    refine n_icmp_ge (t := 74) C dX6_busyWith_13 (by decide) rfl (fun h13 => ?_) (fun h13 => ?_)
    · have hf := ip h13 hf
      refine n_iload_n C dX6_busyWith_74 3 rfl rfl ?_
      obtain rfl := Option.some.inj hf
      exact n_iret C dX6_busyWith_75
    · have hf := iq h13 hf
      refine n_aload_n C dX6_busyWith_16 0 rfl rfl ?_
      refine n_get (N := 12) C dX6_busyWith_17 iw6_busyWith_X6 0 rfl rfl 0 (by decide) (List.mem_of_getElem? (i := 1) rfl) rfl rfl rfl ?_
      refine n_iload C dX6_busyWith_20 4 rfl rfl ?_
      refine n_iload_n C dX6_busyWith_22 2 rfl rfl ?_
      refine n_bipush (v := (nI 6)) C dX6_busyWith_23 (by decide) rfl ?_
      refine n_icmp_ge (t := 32) C dX6_busyWith_25 (by decide) rfl (fun h25 => ?_) (fun h25 => ?_)
      · have hf := ip h25 hf
        refine n_iconst (v := (nI 4)) C dX6_busyWith_32 (by decide) rfl ?_
        exact Wn.sub (lv' := [(0, .ref (aM 0)), (1, .int x1), (2, .int x2), (3, .int v3), (4, .int v4)]) [0, 1, 2, 3, 4] rfl (t6_busyWith_b33 C n oM x1 x2 ih v3 v4 v4 (nI 4) hf)
      · have hf := iq h25 hf
        refine n_iconst (v := (nI 3)) C dX6_busyWith_28 (by decide) rfl ?_
        refine n_goto (t := 33) C dX6_busyWith_29 (by decide) ?_
        exact Wn.sub (lv' := [(0, .ref (aM 0)), (1, .int x1), (2, .int x2), (3, .int v3), (4, .int v4)]) [0, 1, 2, 3, 4] rfl (t6_busyWith_b33 C n oM x1 x2 ih v3 v4 v4 (nI 3) hf)
set_option maxHeartbeats 4000000 in
set_option maxRecDepth 100000 in
theorem c6_busyWith (l : Launch) (D : va_G) (cyI cyO cyJ : ClassId) (aM : Nat → Nat) (n : Nat) (oM : OB) (x1 : Int32) (x2 : Int32) (z : Int32) (hf : f6_busyWith n oM x1 x2 = some z) : Ct l D (tyG cyI cyO cyJ) yX6_busyWith wsX6_busyWith rm6_busyWith 0 0 [.ref (aM 0), .int x1, .int x2] (bX6 cyI aM oM) (bX6 cyI aM oM) (some (.int z)) := by
  refine Ct.of (cc := cX6_busyWith) (nL := 6) (ret := (some .int)) (lv := [(0, .ref (aM 0)), (1, .int x1), (2, .int x2)]) (by decide +kernel) rfl rfl (Nat.le_of_ble_eq_true rfl) ?_
  intro p e s m args below meth c A C
  have C : Cx p s m args meth c D (tyG cyI cyO cyJ) A RX6 cX6_busyWith 6 (some .int) wsX6_busyWith := C
  unfold f6_busyWith at hf
  refine n_iconst (v := (-1 : Int32)) C dX6_busyWith_0 (by decide) rfl ?_
  refine n_istore_n (lv' := [(3, .int (-1 : Int32)), (0, .ref (aM 0)), (1, .int x1), (2, .int x2)]) C dX6_busyWith_1 (by decide) rfl rfl ?_
  refine n_iconst (v := (nI 0)) C dX6_busyWith_2 (by decide) rfl ?_
  refine n_istore (lv' := [(4, .int (nI 0)), (3, .int (-1 : Int32)), (0, .ref (aM 0)), (1, .int x1), (2, .int x2)]) C dX6_busyWith_3 (by decide) rfl rfl ?_
  exact Wn.sub (lv' := [(0, .ref (aM 0)), (1, .int x1), (2, .int x2), (3, .int (-1 : Int32)), (4, .int (nI 0))]) [2, 3, 4, 1, 0] rfl (t6_busyWith_b5 C n oM x1 x2 n (-1 : Int32) (nI 0) hf)
-- X6 busy 
theorem iw6_busy_X6 : ∀ w ∈ u_ws RX6 TX6 12, w ∈ wsX6_busy := by decide +kernel
abbrev rm6_busy : Room := { frames := 2, cells := 0, slots := 0, locals := 47 }
def f6_busy (n : Nat) (oM : OB) (x1 : Int32) (x2 : Int32) : Option (Int32 × (OB)) :=
  (some (gsi oM 6 (nI 0))).bind fun oM_2 => (f6_rounds n (oM_2.2 0)).bind fun z11 => (f6_in n x1 (nI 0) (z11 - (nI 1))).bind fun z16 => (if z16 = (0 : Int32) then (f6_fails n oM_2 (nI 1)).bind fun z24 => some (z24.1, z24.2) else (f6_in n x2 (nI 0) (nI 11)).bind fun z32 => (if z32 = (0 : Int32) then (f6_fails n oM_2 (nI 2)).bind fun z49 => some (z49.1, z49.2) else (f6_busyWith n oM_2 x1 x2).bind fun z41 => some (z41, oM_2)))
set_option maxHeartbeats 4000000 in
set_option maxRecDepth 100000 in
theorem c6_busy (l : Launch) (D : va_G) (cyI cyO cyJ : ClassId) (aM : Nat → Nat) (n : Nat) (oM : OB) (x1 : Int32) (x2 : Int32) (z : Int32 × (OB)) (hf : f6_busy n oM x1 x2 = some z) : Ct l D (tyG cyI cyO cyJ) yX6_busy wsX6_busy rm6_busy 0 0 [.ref (aM 0), .int x1, .int x2] (bX6 cyI aM oM) (bX6 cyI aM z.2) (some (.int z.1)) := by
  refine Ct.of (cc := cX6_busy) (nL := 3) (ret := (some .int)) (lv := [(0, .ref (aM 0)), (1, .int x1), (2, .int x2)]) (by decide +kernel) rfl rfl (Nat.le_of_ble_eq_true rfl) ?_
  intro p e s m args below meth c A C
  have C : Cx p s m args meth c D (tyG cyI cyO cyJ) A RX6 cX6_busy 3 (some .int) wsX6_busy := C
  unfold f6_busy at hf
  refine n_aload_n C dX6_busy_0 0 rfl rfl ?_
  refine n_iconst (v := (nI 0)) C dX6_busy_1 (by decide) rfl ?_
  obtain ⟨oM_2, e2, hf⟩ := bi hf
  replace e2 := Option.some.inj e2
  refine n_put (w2 := bX6 cyI aM oM_2) (N := 12) (ty := .int) C dX6_busy_2 iw6_busy_X6 tyX6_ok nmX6 0 rfl rfl 6 (by decide) (List.mem_of_getElem? (i := 1) rfl) rfl rfl (by decide +kernel) rfl rfl (Nat.le_of_ble_eq_true rfl) (by subst e2; rfl) rfl ?_
  refine n_iload_n C dX6_busy_5 1 rfl rfl ?_
  refine n_iconst (v := (nI 0)) C dX6_busy_6 (by decide) rfl ?_
  refine n_aload_n C dX6_busy_7 0 rfl rfl ?_
  refine n_get (N := 12) C dX6_busy_8 iw6_busy_X6 0 rfl rfl 0 (by decide) (List.mem_of_getElem? (i := 2) rfl) rfl rfl rfl ?_
  obtain ⟨z11, h11, hf⟩ := bi hf
  refine n_callS (As := [.ref (aM 1)]) (rest := [.int (nI 0), .int x1]) (w2 := bX6 cyI aM oM_2) C dX6_busy_11 (c6_rounds l D cyI cyO cyJ (aM 1) n (oM_2.2 0) z11 h11) (va_cwS 1 C.ts gX6_busy_X6_rounds rfl rfl rfl (by decide +kernel) ⟨Nat.le_of_ble_eq_true rfl, Nat.le_of_ble_eq_true rfl⟩) rfl (Frm.skipc (Frm.takec Frm.none)) rfl (Nat.le_of_ble_eq_true rfl) ⟨Nat.le_of_ble_eq_true rfl, Nat.le_of_ble_eq_true rfl⟩ rfl ?_
  refine n_iconst (v := (nI 1)) C dX6_busy_14 (by decide) rfl ?_
  refine n_isub C dX6_busy_15 rfl ?_
  obtain ⟨z16, h16, hf⟩ := bi hf
  refine n_callS (As := [.int x1, .int (nI 0), .int (z11 - (nI 1))]) (rest := []) (w2 := bX6 cyI aM oM_2) C dX6_busy_16 (c6_in l D cyI cyO cyJ  n x1 (nI 0) (z11 - (nI 1)) z16 h16) (va_cwS 3 C.ts gX6_busy_X6_in rfl rfl rfl (by decide +kernel) ⟨Nat.le_of_ble_eq_true rfl, Nat.le_of_ble_eq_true rfl⟩) rfl Frm.none rfl (Nat.le_of_ble_eq_true rfl) ⟨Nat.le_of_ble_eq_true rfl, Nat.le_of_ble_eq_true rfl⟩ rfl ?_
  refine n_if_ne (t := 28) C dX6_busy_19 (by decide) rfl (fun h19 => ?_) (fun h19 => ?_)
  · have hf := iq h19 hf
    refine n_iload_n C dX6_busy_28 2 rfl rfl ?_
    refine n_iconst (v := (nI 0)) C dX6_busy_29 (by decide) rfl ?_
    refine n_bipush (v := (nI 11)) C dX6_busy_30 (by decide) rfl ?_
    obtain ⟨z32, h32, hf⟩ := bi hf
    refine n_callS (As := [.int x2, .int (nI 0), .int (nI 11)]) (rest := []) (w2 := bX6 cyI aM oM_2) C dX6_busy_32 (c6_in l D cyI cyO cyJ  n x2 (nI 0) (nI 11) z32 h32) (va_cwS 3 C.ts gX6_busy_X6_in rfl rfl rfl (by decide +kernel) ⟨Nat.le_of_ble_eq_true rfl, Nat.le_of_ble_eq_true rfl⟩) rfl Frm.none rfl (Nat.le_of_ble_eq_true rfl) ⟨Nat.le_of_ble_eq_true rfl, Nat.le_of_ble_eq_true rfl⟩ rfl ?_
    refine n_if_eq (t := 47) C dX6_busy_35 (by decide) rfl (fun h35 => ?_) (fun h35 => ?_)
    · have hf := ip h35 hf
      refine n_aload_n C dX6_busy_47 0 rfl rfl ?_
      refine n_iconst (v := (nI 2)) C dX6_busy_48 (by decide) rfl ?_
      obtain ⟨z49, h49, hf⟩ := bi hf
      refine n_callV (As := [.int (nI 2)]) (rest := []) (w2 := bX6 cyI aM z49.2) C dX6_busy_49 (c6_fails l D cyI cyO cyJ aM n oM_2 (nI 2) z49 h49) (cwV 1 C.ts gX6_busy_X6_fails rfl rfl rfl (by decide +kernel) ⟨Nat.le_of_ble_eq_true rfl, Nat.le_of_ble_eq_true rfl⟩) rfl (q0 := 0) (ci := 6) rfl rfl Frm.self rfl (Nat.le_of_ble_eq_true rfl) ⟨Nat.le_of_ble_eq_true rfl, Nat.le_of_ble_eq_true rfl⟩ rfl ?_
      obtain rfl := Option.some.inj hf
      exact n_iret C dX6_busy_52
    · have hf := iq h35 hf
      refine n_aload_n C dX6_busy_38 0 rfl rfl ?_
      refine n_iload_n C dX6_busy_39 1 rfl rfl ?_
      refine n_iload_n C dX6_busy_40 2 rfl rfl ?_
      obtain ⟨z41, h41, hf⟩ := bi hf
      refine n_callV (As := [.int x1, .int x2]) (rest := []) (w2 := bX6 cyI aM oM_2) C dX6_busy_41 (c6_busyWith l D cyI cyO cyJ aM n oM_2 x1 x2 z41 h41) (cwV 2 C.ts gX6_busy_X6_busyWith rfl rfl rfl (by decide +kernel) ⟨Nat.le_of_ble_eq_true rfl, Nat.le_of_ble_eq_true rfl⟩) rfl (q0 := 0) (ci := 6) rfl rfl Frm.self rfl (Nat.le_of_ble_eq_true rfl) ⟨Nat.le_of_ble_eq_true rfl, Nat.le_of_ble_eq_true rfl⟩ rfl ?_
      refine n_goto (t := 52) C dX6_busy_44 (by decide) ?_
      obtain rfl := Option.some.inj hf
      exact n_iret C dX6_busy_52
  · have hf := ip h19 hf
    refine n_aload_n C dX6_busy_22 0 rfl rfl ?_
    refine n_iconst (v := (nI 1)) C dX6_busy_23 (by decide) rfl ?_
    obtain ⟨z24, h24, hf⟩ := bi hf
    refine n_callV (As := [.int (nI 1)]) (rest := []) (w2 := bX6 cyI aM z24.2) C dX6_busy_24 (c6_fails l D cyI cyO cyJ aM n oM_2 (nI 1) z24 h24) (cwV 1 C.ts gX6_busy_X6_fails rfl rfl rfl (by decide +kernel) ⟨Nat.le_of_ble_eq_true rfl, Nat.le_of_ble_eq_true rfl⟩) rfl (q0 := 0) (ci := 6) rfl rfl Frm.self rfl (Nat.le_of_ble_eq_true rfl) ⟨Nat.le_of_ble_eq_true rfl, Nat.le_of_ble_eq_true rfl⟩ rfl ?_
    obtain rfl := Option.some.inj hf
    exact n_iret C dX6_busy_27
-- X6 most 
theorem iw6_most_X6 : ∀ w ∈ u_ws RX6 TX6 12, w ∈ wsX6_most := by decide +kernel
abbrev rm6_most : Room := { frames := 2, cells := 0, slots := 0, locals := 47 }
def f6_most_b4 (n : Nat) (oM : OB) (x1 : Int32) : Nat → Int32 → Int32 → Option (Int32)
  | 0, _, _ => none
  | k + 1, v2, v3 =>
    (if (nI 6) ≤ v3 then some v2 else (f6_having n (oM.2 0) x1 v3 (-1 : Int32)).bind fun z17 => (if z17 ≤ v2 then (f6_most_b4 n oM x1 k) v2 (v3 + (nI 1)) else (f6_most_b4 n oM x1 k) z17 (v3 + (nI 1))))
def f6_most (n : Nat) (oM : OB) (x1 : Int32) : Option (Int32) :=
  f6_most_b4 n oM x1 n (nI 0) (nI 0)
set_option maxHeartbeats 4000000 in
set_option maxRecDepth 100000 in
theorem t6_most_b4 {l : Launch} {p : Program} {e : Env} {s : State} {m : MethodId} {args : Array Value} {below : List Frame} {meth : Method} {c : Code} {D : va_G} {A : Nat → Prop} {cyI cyO cyJ : ClassId} {aM : Nat → Nat} (C : Cx p s m args meth c D (tyG cyI cyO cyJ) A RX6 cX6_most 5 (some .int) wsX6_most) {z : Int32} (n : Nat) (oM : OB) (x1 : Int32) : ∀ (k : Nat) (v2 : Int32) (v3 : Int32), f6_most_b4 n oM x1 k v2 v3 = some z → Wn p l e rm6_most s m args below meth c D A 5 0 0 (MQ below (Qr D (tyG cyI cyO cyJ) (bX6 cyI aM oM) A (some (.int z))) args s 0 0 A) (bX6 cyI aM oM) 4 [(0, .ref (aM 0)), (1, .int x1), (2, .int v2), (3, .int v3)] [] := by
  intro k
  induction k with
  | zero => intro  v2 v3 hf; cases hf
  | succ k ih =>
    intro  v2 v3 hf
    unfold f6_most_b4 at hf
    refine n_iload_n C dX6_most_4 3 rfl rfl ?_
    refine n_bipush (v := (nI 6)) C dX6_most_5 (by decide) rfl ?_
    refine n_icmp_ge (t := 41) C dX6_most_7 (by decide) rfl (fun h7 => ?_) (fun h7 => ?_)
    · have hf := ip h7 hf
      refine n_iload_n C dX6_most_41 2 rfl rfl ?_
      obtain rfl := Option.some.inj hf
      exact n_iret C dX6_most_42
    · have hf := iq h7 hf
      refine n_aload_n C dX6_most_10 0 rfl rfl ?_
      refine n_get (N := 12) C dX6_most_11 iw6_most_X6 0 rfl rfl 0 (by decide) (List.mem_of_getElem? (i := 1) rfl) rfl rfl rfl ?_
      refine n_iload_n C dX6_most_14 1 rfl rfl ?_
      refine n_iload_n C dX6_most_15 3 rfl rfl ?_
      refine n_iconst (v := (-1 : Int32)) C dX6_most_16 (by decide) rfl ?_
      obtain ⟨z17, h17, hf⟩ := bi hf
      refine n_callS (As := [.ref (aM 1), .int x1, .int v3, .int (-1 : Int32)]) (rest := []) (w2 := bX6 cyI aM oM) C dX6_most_17 (c6_having l D cyI cyO cyJ (aM 1) n (oM.2 0) x1 v3 (-1 : Int32) z17 h17) (va_cwS 4 C.ts gX6_most_X6_having rfl rfl rfl (by decide +kernel) ⟨Nat.le_of_ble_eq_true rfl, Nat.le_of_ble_eq_true rfl⟩) rfl (Frm.skipc (Frm.takec Frm.none)) rfl (Nat.le_of_ble_eq_true rfl) ⟨Nat.le_of_ble_eq_true rfl, Nat.le_of_ble_eq_true rfl⟩ rfl ?_
      refine n_istore (lv' := [(4, .int z17), (0, .ref (aM 0)), (1, .int x1), (2, .int v2), (3, .int v3)]) C dX6_most_20 (by decide) rfl rfl ?_
      refine n_iload C dX6_most_22 0 rfl rfl ?_
      refine n_iload_n C dX6_most_24 3 rfl rfl ?_
      refine n_icmp_le (t := 33) C dX6_most_25 (by decide) rfl (fun h25 => ?_) (fun h25 => ?_)
      · have hf := ip h25 hf
        refine n_iload_n C dX6_most_33 3 rfl rfl ?_
        refine n_istore_n (lv' := [(2, .int v2), (4, .int z17), (0, .ref (aM 0)), (1, .int x1), (3, .int v3)]) C dX6_most_34 (by decide) rfl rfl ?_
        refine n_iinc (v := v3 + (nI 1)) (lv' := [(3, .int (v3 + (nI 1))), (2, .int v2), (4, .int z17), (0, .ref (aM 0)), (1, .int x1)]) C dX6_most_35 (j := 4) rfl rfl (by decide) rfl rfl ?_
        refine n_goto (t := 4) C dX6_most_38 (by decide) ?_
        exact Wn.sub (lv' := [(0, .ref (aM 0)), (1, .int x1), (2, .int v2), (3, .int (v3 + (nI 1)))]) [3, 4, 1, 0] rfl (ih v2 (v3 + (nI 1)) hf)
      · have hf := iq h25 hf
        refine n_iload C dX6_most_28 0 rfl rfl ?_
        refine n_goto (t := 34) C dX6_most_30 (by decide) ?_
        refine n_istore_n (lv' := [(2, .int z17), (4, .int z17), (0, .ref (aM 0)), (1, .int x1), (3, .int v3)]) C dX6_most_34 (by decide) rfl rfl ?_
        refine n_iinc (v := v3 + (nI 1)) (lv' := [(3, .int (v3 + (nI 1))), (2, .int z17), (4, .int z17), (0, .ref (aM 0)), (1, .int x1)]) C dX6_most_35 (j := 4) rfl rfl (by decide) rfl rfl ?_
        refine n_goto (t := 4) C dX6_most_38 (by decide) ?_
        exact Wn.sub (lv' := [(0, .ref (aM 0)), (1, .int x1), (2, .int z17), (3, .int (v3 + (nI 1)))]) [3, 4, 1, 0] rfl (ih z17 (v3 + (nI 1)) hf)
set_option maxHeartbeats 4000000 in
set_option maxRecDepth 100000 in
theorem c6_most (l : Launch) (D : va_G) (cyI cyO cyJ : ClassId) (aM : Nat → Nat) (n : Nat) (oM : OB) (x1 : Int32) (z : Int32) (hf : f6_most n oM x1 = some z) : Ct l D (tyG cyI cyO cyJ) yX6_most wsX6_most rm6_most 0 0 [.ref (aM 0), .int x1] (bX6 cyI aM oM) (bX6 cyI aM oM) (some (.int z)) := by
  refine Ct.of (cc := cX6_most) (nL := 5) (ret := (some .int)) (lv := [(0, .ref (aM 0)), (1, .int x1)]) (by decide +kernel) rfl rfl (Nat.le_of_ble_eq_true rfl) ?_
  intro p e s m args below meth c A C
  have C : Cx p s m args meth c D (tyG cyI cyO cyJ) A RX6 cX6_most 5 (some .int) wsX6_most := C
  unfold f6_most at hf
  refine n_iconst (v := (nI 0)) C dX6_most_0 (by decide) rfl ?_
  refine n_istore_n (lv' := [(2, .int (nI 0)), (0, .ref (aM 0)), (1, .int x1)]) C dX6_most_1 (by decide) rfl rfl ?_
  refine n_iconst (v := (nI 0)) C dX6_most_2 (by decide) rfl ?_
  refine n_istore_n (lv' := [(3, .int (nI 0)), (2, .int (nI 0)), (0, .ref (aM 0)), (1, .int x1)]) C dX6_most_3 (by decide) rfl rfl ?_
  exact Wn.sub (lv' := [(0, .ref (aM 0)), (1, .int x1), (2, .int (nI 0)), (3, .int (nI 0))]) [2, 3, 1, 0] rfl (t6_most_b4 C n oM x1 n (nI 0) (nI 0) hf)
-- X6 overTeams 
theorem iw6_overTeams_X6 : ∀ w ∈ u_ws RX6 TX6 12, w ∈ wsX6_overTeams := by decide +kernel
abbrev rm6_overTeams : Room := { frames := 7, cells := 0, slots := 0, locals := 164 }
def f6_overTeams_b4 (n : Nat) (oM : OB) (x1 : Int32) : Nat → Int32 → Int32 → Option (Int32)
  | 0, _, _ => none
  | k + 1, v2, v3 =>
    (ald 270 (oM.2 0) (nI 4)).bind fun x10 => (if x10 ≤ v3 then some v2 else (f6_ofTeam n oM v3 x1).bind fun z18 => (f6_overTeams_b4 n oM x1 k) (v2 + z18) (v3 + (nI 1)))
def f6_overTeams (n : Nat) (oM : OB) (x1 : Int32) : Option (Int32) :=
  f6_overTeams_b4 n oM x1 n (nI 0) (nI 0)
set_option maxHeartbeats 4000000 in
set_option maxRecDepth 100000 in
theorem t6_overTeams_b4 {l : Launch} {p : Program} {e : Env} {s : State} {m : MethodId} {args : Array Value} {below : List Frame} {meth : Method} {c : Code} {D : va_G} {A : Nat → Prop} {cyI cyO cyJ : ClassId} {aM : Nat → Nat} (C : Cx p s m args meth c D (tyG cyI cyO cyJ) A RX6 cX6_overTeams 4 (some .int) wsX6_overTeams) {z : Int32} (n : Nat) (oM : OB) (x1 : Int32) : ∀ (k : Nat) (v2 : Int32) (v3 : Int32), f6_overTeams_b4 n oM x1 k v2 v3 = some z → Wn p l e rm6_overTeams s m args below meth c D A 4 0 0 (MQ below (Qr D (tyG cyI cyO cyJ) (bX6 cyI aM oM) A (some (.int z))) args s 0 0 A) (bX6 cyI aM oM) 4 [(0, .ref (aM 0)), (1, .int x1), (2, .int v2), (3, .int v3)] [] := by
  intro k
  induction k with
  | zero => intro  v2 v3 hf; cases hf
  | succ k ih =>
    intro  v2 v3 hf
    unfold f6_overTeams_b4 at hf
    refine n_iload_n C dX6_overTeams_4 3 rfl rfl ?_
    refine n_aload_n C dX6_overTeams_5 0 rfl rfl ?_
    refine n_get (N := 12) C dX6_overTeams_6 iw6_overTeams_X6 0 rfl rfl 0 (by decide) (List.mem_of_getElem? (i := 1) rfl) rfl rfl rfl ?_
    refine n_iconst (v := (nI 4)) C dX6_overTeams_9 (by decide) rfl ?_
    obtain ⟨x10, h10, hf⟩ := bi hf
    obtain ⟨h10, e10⟩ := ald_some h10
    refine n_iald C dX6_overTeams_10 1 0 rfl rfl h10 rfl ?_
    rw [← e10]
    refine n_icmp_ge (t := 29) C dX6_overTeams_11 (by decide) rfl (fun h11 => ?_) (fun h11 => ?_)
    · have hf := ip h11 hf
      refine n_iload_n C dX6_overTeams_29 2 rfl rfl ?_
      obtain rfl := Option.some.inj hf
      exact n_iret C dX6_overTeams_30
    · have hf := iq h11 hf
      refine n_iload_n C dX6_overTeams_14 2 rfl rfl ?_
      refine n_aload_n C dX6_overTeams_15 0 rfl rfl ?_
      refine n_iload_n C dX6_overTeams_16 3 rfl rfl ?_
      refine n_iload_n C dX6_overTeams_17 1 rfl rfl ?_
      obtain ⟨z18, h18, hf⟩ := bi hf
      refine n_callV (As := [.int v3, .int x1]) (rest := [.int v2]) (w2 := bX6 cyI aM oM) C dX6_overTeams_18 (c6_ofTeam l D cyI cyO cyJ aM n oM v3 x1 z18 h18) (cwV 2 C.ts gX6_overTeams_X6_ofTeam rfl rfl rfl (by decide +kernel) ⟨Nat.le_of_ble_eq_true rfl, Nat.le_of_ble_eq_true rfl⟩) rfl (q0 := 0) (ci := 6) rfl rfl Frm.self rfl (Nat.le_of_ble_eq_true rfl) ⟨Nat.le_of_ble_eq_true rfl, Nat.le_of_ble_eq_true rfl⟩ rfl ?_
      refine n_iadd C dX6_overTeams_21 rfl ?_
      refine n_istore_n (lv' := [(2, .int (v2 + z18)), (0, .ref (aM 0)), (1, .int x1), (3, .int v3)]) C dX6_overTeams_22 (by decide) rfl rfl ?_
      refine n_iinc (v := v3 + (nI 1)) (lv' := [(3, .int (v3 + (nI 1))), (2, .int (v2 + z18)), (0, .ref (aM 0)), (1, .int x1)]) C dX6_overTeams_23 (j := 3) rfl rfl (by decide) rfl rfl ?_
      refine n_goto (t := 4) C dX6_overTeams_26 (by decide) ?_
      exact Wn.sub (lv' := [(0, .ref (aM 0)), (1, .int x1), (2, .int (v2 + z18)), (3, .int (v3 + (nI 1)))]) [2, 3, 1, 0] rfl (ih (v2 + z18) (v3 + (nI 1)) hf)
set_option maxHeartbeats 4000000 in
set_option maxRecDepth 100000 in
theorem c6_overTeams (l : Launch) (D : va_G) (cyI cyO cyJ : ClassId) (aM : Nat → Nat) (n : Nat) (oM : OB) (x1 : Int32) (z : Int32) (hf : f6_overTeams n oM x1 = some z) : Ct l D (tyG cyI cyO cyJ) yX6_overTeams wsX6_overTeams rm6_overTeams 0 0 [.ref (aM 0), .int x1] (bX6 cyI aM oM) (bX6 cyI aM oM) (some (.int z)) := by
  refine Ct.of (cc := cX6_overTeams) (nL := 4) (ret := (some .int)) (lv := [(0, .ref (aM 0)), (1, .int x1)]) (by decide +kernel) rfl rfl (Nat.le_of_ble_eq_true rfl) ?_
  intro p e s m args below meth c A C
  have C : Cx p s m args meth c D (tyG cyI cyO cyJ) A RX6 cX6_overTeams 4 (some .int) wsX6_overTeams := C
  unfold f6_overTeams at hf
  refine n_iconst (v := (nI 0)) C dX6_overTeams_0 (by decide) rfl ?_
  refine n_istore_n (lv' := [(2, .int (nI 0)), (0, .ref (aM 0)), (1, .int x1)]) C dX6_overTeams_1 (by decide) rfl rfl ?_
  refine n_iconst (v := (nI 0)) C dX6_overTeams_2 (by decide) rfl ?_
  refine n_istore_n (lv' := [(3, .int (nI 0)), (2, .int (nI 0)), (0, .ref (aM 0)), (1, .int x1)]) C dX6_overTeams_3 (by decide) rfl rfl ?_
  exact Wn.sub (lv' := [(0, .ref (aM 0)), (1, .int x1), (2, .int (nI 0)), (3, .int (nI 0))]) [2, 3, 1, 0] rfl (t6_overTeams_b4 C n oM x1 n (nI 0) (nI 0) hf)
-- X6 counted 
theorem iw6_counted_X6 : ∀ w ∈ u_ws RX6 TX6 12, w ∈ wsX6_counted := by decide +kernel
abbrev rm6_counted : Room := { frames := 8, cells := 0, slots := 0, locals := 187 }
def f6_counted (n : Nat) (oM : OB) (x1 : Int32) : Option (Int32) :=
  (if x1 = (nI 0) then (ald 270 (oM.2 0) (nI 4)).bind fun x57 => some x57 else (if x1 = (nI 1) then (f6_rounds n (oM.2 0)).bind fun z63 => some z63 else (if x1 = (nI 2) then (ald 270 (oM.2 0) (nI 5)).bind fun x72 => some x72 else (if x1 = (nI 3) then (ald 270 (oM.2 0) (nI 5)).bind fun x79 => (f6_having n (oM.2 0) (nI 3) (-1 : Int32) (-1 : Int32)).bind fun z87 => some (x79 - z87) else (if x1 = (nI 4) then (f6_withResult n oM).bind fun z93 => some z93 else (if x1 = (nI 5) then (f6_overTeams n oM (nI 6)).bind fun z100 => some z100 else (if x1 = (nI 6) then (f6_overTeams n oM (nI 0)).bind fun z106 => some z106 else (if x1 = (nI 7) then (f6_most n oM (nI 4)).bind fun z112 => some z112 else (if x1 = (nI 8) then (f6_most n oM (nI 3)).bind fun z118 => some z118 else some (oM.1 3))))))))))
set_option maxHeartbeats 4000000 in
set_option maxRecDepth 100000 in
theorem c6_counted (l : Launch) (D : va_G) (cyI cyO cyJ : ClassId) (aM : Nat → Nat) (n : Nat) (oM : OB) (x1 : Int32) (z : Int32) (hf : f6_counted n oM x1 = some z) : Ct l D (tyG cyI cyO cyJ) yX6_counted wsX6_counted rm6_counted 0 0 [.ref (aM 0), .int x1] (bX6 cyI aM oM) (bX6 cyI aM oM) (some (.int z)) := by
  refine Ct.of (cc := cX6_counted) (nL := 2) (ret := (some .int)) (lv := [(0, .ref (aM 0)), (1, .int x1)]) (by decide +kernel) rfl rfl (Nat.le_of_ble_eq_true rfl) ?_
  intro p e s m args below meth c A C
  have C : Cx p s m args meth c D (tyG cyI cyO cyJ) A RX6 cX6_counted 2 (some .int) wsX6_counted := C
  unfold f6_counted at hf
  refine n_iload_n C dX6_counted_0 1 rfl rfl ?_
  by_cases h1_0 : x1 = (nI 0)
  · have hf := ip h1_0 hf
    refine n_tswIn (off := 51) (t := 52) C dX6_counted_1 (by rw [h1_0]; decide) (by rw [h1_0]; decide) (by rw [h1_0]; decide) (by decide) ?_
    refine n_aload_n C dX6_counted_52 0 rfl rfl ?_
    refine n_get (N := 12) C dX6_counted_53 iw6_counted_X6 0 rfl rfl 0 (by decide) (List.mem_of_getElem? (i := 1) rfl) rfl rfl rfl ?_
    refine n_iconst (v := (nI 4)) C dX6_counted_56 (by decide) rfl ?_
    obtain ⟨x57, h57, hf⟩ := bi hf
    obtain ⟨h57, e57⟩ := ald_some h57
    refine n_iald C dX6_counted_57 1 0 rfl rfl h57 rfl ?_
    rw [← e57]
    obtain rfl := Option.some.inj hf
    exact n_iret C dX6_counted_58
  have hf := iq h1_0 hf
  by_cases h1_1 : x1 = (nI 1)
  · have hf := ip h1_1 hf
    refine n_tswIn (off := 58) (t := 59) C dX6_counted_1 (by rw [h1_1]; decide) (by rw [h1_1]; decide) (by rw [h1_1]; decide) (by decide) ?_
    refine n_aload_n C dX6_counted_59 0 rfl rfl ?_
    refine n_get (N := 12) C dX6_counted_60 iw6_counted_X6 0 rfl rfl 0 (by decide) (List.mem_of_getElem? (i := 1) rfl) rfl rfl rfl ?_
    obtain ⟨z63, h63, hf⟩ := bi hf
    refine n_callS (As := [.ref (aM 1)]) (rest := []) (w2 := bX6 cyI aM oM) C dX6_counted_63 (c6_rounds l D cyI cyO cyJ (aM 1) n (oM.2 0) z63 h63) (va_cwS 1 C.ts gX6_counted_X6_rounds rfl rfl rfl (by decide +kernel) ⟨Nat.le_of_ble_eq_true rfl, Nat.le_of_ble_eq_true rfl⟩) rfl (Frm.skipc (Frm.takec Frm.none)) rfl (Nat.le_of_ble_eq_true rfl) ⟨Nat.le_of_ble_eq_true rfl, Nat.le_of_ble_eq_true rfl⟩ rfl ?_
    obtain rfl := Option.some.inj hf
    exact n_iret C dX6_counted_66
  have hf := iq h1_1 hf
  by_cases h1_2 : x1 = (nI 2)
  · have hf := ip h1_2 hf
    refine n_tswIn (off := 66) (t := 67) C dX6_counted_1 (by rw [h1_2]; decide) (by rw [h1_2]; decide) (by rw [h1_2]; decide) (by decide) ?_
    refine n_aload_n C dX6_counted_67 0 rfl rfl ?_
    refine n_get (N := 12) C dX6_counted_68 iw6_counted_X6 0 rfl rfl 0 (by decide) (List.mem_of_getElem? (i := 1) rfl) rfl rfl rfl ?_
    refine n_iconst (v := (nI 5)) C dX6_counted_71 (by decide) rfl ?_
    obtain ⟨x72, h72, hf⟩ := bi hf
    obtain ⟨h72, e72⟩ := ald_some h72
    refine n_iald C dX6_counted_72 1 0 rfl rfl h72 rfl ?_
    rw [← e72]
    obtain rfl := Option.some.inj hf
    exact n_iret C dX6_counted_73
  have hf := iq h1_2 hf
  by_cases h1_3 : x1 = (nI 3)
  · have hf := ip h1_3 hf
    refine n_tswIn (off := 73) (t := 74) C dX6_counted_1 (by rw [h1_3]; decide) (by rw [h1_3]; decide) (by rw [h1_3]; decide) (by decide) ?_
    refine n_aload_n C dX6_counted_74 0 rfl rfl ?_
    refine n_get (N := 12) C dX6_counted_75 iw6_counted_X6 0 rfl rfl 0 (by decide) (List.mem_of_getElem? (i := 1) rfl) rfl rfl rfl ?_
    refine n_iconst (v := (nI 5)) C dX6_counted_78 (by decide) rfl ?_
    obtain ⟨x79, h79, hf⟩ := bi hf
    obtain ⟨h79, e79⟩ := ald_some h79
    refine n_iald C dX6_counted_79 1 0 rfl rfl h79 rfl ?_
    rw [← e79]
    refine n_aload_n C dX6_counted_80 0 rfl rfl ?_
    refine n_get (N := 12) C dX6_counted_81 iw6_counted_X6 0 rfl rfl 0 (by decide) (List.mem_of_getElem? (i := 1) rfl) rfl rfl rfl ?_
    refine n_iconst (v := (nI 3)) C dX6_counted_84 (by decide) rfl ?_
    refine n_iconst (v := (-1 : Int32)) C dX6_counted_85 (by decide) rfl ?_
    refine n_iconst (v := (-1 : Int32)) C dX6_counted_86 (by decide) rfl ?_
    obtain ⟨z87, h87, hf⟩ := bi hf
    refine n_callS (As := [.ref (aM 1), .int (nI 3), .int (-1 : Int32), .int (-1 : Int32)]) (rest := [.int x79]) (w2 := bX6 cyI aM oM) C dX6_counted_87 (c6_having l D cyI cyO cyJ (aM 1) n (oM.2 0) (nI 3) (-1 : Int32) (-1 : Int32) z87 h87) (va_cwS 4 C.ts gX6_counted_X6_having rfl rfl rfl (by decide +kernel) ⟨Nat.le_of_ble_eq_true rfl, Nat.le_of_ble_eq_true rfl⟩) rfl (Frm.skipc (Frm.takec Frm.none)) rfl (Nat.le_of_ble_eq_true rfl) ⟨Nat.le_of_ble_eq_true rfl, Nat.le_of_ble_eq_true rfl⟩ rfl ?_
    refine n_isub C dX6_counted_90 rfl ?_
    obtain rfl := Option.some.inj hf
    exact n_iret C dX6_counted_91
  have hf := iq h1_3 hf
  by_cases h1_4 : x1 = (nI 4)
  · have hf := ip h1_4 hf
    refine n_tswIn (off := 91) (t := 92) C dX6_counted_1 (by rw [h1_4]; decide) (by rw [h1_4]; decide) (by rw [h1_4]; decide) (by decide) ?_
    refine n_aload_n C dX6_counted_92 0 rfl rfl ?_
    obtain ⟨z93, h93, hf⟩ := bi hf
    refine n_callV (As := []) (rest := []) (w2 := bX6 cyI aM oM) C dX6_counted_93 (c6_withResult l D cyI cyO cyJ aM n oM z93 h93) (cwV 0 C.ts gX6_counted_X6_withResult rfl rfl rfl (by decide +kernel) ⟨Nat.le_of_ble_eq_true rfl, Nat.le_of_ble_eq_true rfl⟩) rfl (q0 := 0) (ci := 6) rfl rfl Frm.self rfl (Nat.le_of_ble_eq_true rfl) ⟨Nat.le_of_ble_eq_true rfl, Nat.le_of_ble_eq_true rfl⟩ rfl ?_
    obtain rfl := Option.some.inj hf
    exact n_iret C dX6_counted_96
  have hf := iq h1_4 hf
  by_cases h1_5 : x1 = (nI 5)
  · have hf := ip h1_5 hf
    refine n_tswIn (off := 96) (t := 97) C dX6_counted_1 (by rw [h1_5]; decide) (by rw [h1_5]; decide) (by rw [h1_5]; decide) (by decide) ?_
    refine n_aload_n C dX6_counted_97 0 rfl rfl ?_
    refine n_bipush (v := (nI 6)) C dX6_counted_98 (by decide) rfl ?_
    obtain ⟨z100, h100, hf⟩ := bi hf
    refine n_callV (As := [.int (nI 6)]) (rest := []) (w2 := bX6 cyI aM oM) C dX6_counted_100 (c6_overTeams l D cyI cyO cyJ aM n oM (nI 6) z100 h100) (cwV 1 C.ts gX6_counted_X6_overTeams rfl rfl rfl (by decide +kernel) ⟨Nat.le_of_ble_eq_true rfl, Nat.le_of_ble_eq_true rfl⟩) rfl (q0 := 0) (ci := 6) rfl rfl Frm.self rfl (Nat.le_of_ble_eq_true rfl) ⟨Nat.le_of_ble_eq_true rfl, Nat.le_of_ble_eq_true rfl⟩ rfl ?_
    obtain rfl := Option.some.inj hf
    exact n_iret C dX6_counted_103
  have hf := iq h1_5 hf
  by_cases h1_6 : x1 = (nI 6)
  · have hf := ip h1_6 hf
    refine n_tswIn (off := 103) (t := 104) C dX6_counted_1 (by rw [h1_6]; decide) (by rw [h1_6]; decide) (by rw [h1_6]; decide) (by decide) ?_
    refine n_aload_n C dX6_counted_104 0 rfl rfl ?_
    refine n_iconst (v := (nI 0)) C dX6_counted_105 (by decide) rfl ?_
    obtain ⟨z106, h106, hf⟩ := bi hf
    refine n_callV (As := [.int (nI 0)]) (rest := []) (w2 := bX6 cyI aM oM) C dX6_counted_106 (c6_overTeams l D cyI cyO cyJ aM n oM (nI 0) z106 h106) (cwV 1 C.ts gX6_counted_X6_overTeams rfl rfl rfl (by decide +kernel) ⟨Nat.le_of_ble_eq_true rfl, Nat.le_of_ble_eq_true rfl⟩) rfl (q0 := 0) (ci := 6) rfl rfl Frm.self rfl (Nat.le_of_ble_eq_true rfl) ⟨Nat.le_of_ble_eq_true rfl, Nat.le_of_ble_eq_true rfl⟩ rfl ?_
    obtain rfl := Option.some.inj hf
    exact n_iret C dX6_counted_109
  have hf := iq h1_6 hf
  by_cases h1_7 : x1 = (nI 7)
  · have hf := ip h1_7 hf
    refine n_tswIn (off := 109) (t := 110) C dX6_counted_1 (by rw [h1_7]; decide) (by rw [h1_7]; decide) (by rw [h1_7]; decide) (by decide) ?_
    refine n_aload_n C dX6_counted_110 0 rfl rfl ?_
    refine n_iconst (v := (nI 4)) C dX6_counted_111 (by decide) rfl ?_
    obtain ⟨z112, h112, hf⟩ := bi hf
    refine n_callV (As := [.int (nI 4)]) (rest := []) (w2 := bX6 cyI aM oM) C dX6_counted_112 (c6_most l D cyI cyO cyJ aM n oM (nI 4) z112 h112) (cwV 1 C.ts gX6_counted_X6_most rfl rfl rfl (by decide +kernel) ⟨Nat.le_of_ble_eq_true rfl, Nat.le_of_ble_eq_true rfl⟩) rfl (q0 := 0) (ci := 6) rfl rfl Frm.self rfl (Nat.le_of_ble_eq_true rfl) ⟨Nat.le_of_ble_eq_true rfl, Nat.le_of_ble_eq_true rfl⟩ rfl ?_
    obtain rfl := Option.some.inj hf
    exact n_iret C dX6_counted_115
  have hf := iq h1_7 hf
  by_cases h1_8 : x1 = (nI 8)
  · have hf := ip h1_8 hf
    refine n_tswIn (off := 115) (t := 116) C dX6_counted_1 (by rw [h1_8]; decide) (by rw [h1_8]; decide) (by rw [h1_8]; decide) (by decide) ?_
    refine n_aload_n C dX6_counted_116 0 rfl rfl ?_
    refine n_iconst (v := (nI 3)) C dX6_counted_117 (by decide) rfl ?_
    obtain ⟨z118, h118, hf⟩ := bi hf
    refine n_callV (As := [.int (nI 3)]) (rest := []) (w2 := bX6 cyI aM oM) C dX6_counted_118 (c6_most l D cyI cyO cyJ aM n oM (nI 3) z118 h118) (cwV 1 C.ts gX6_counted_X6_most rfl rfl rfl (by decide +kernel) ⟨Nat.le_of_ble_eq_true rfl, Nat.le_of_ble_eq_true rfl⟩) rfl (q0 := 0) (ci := 6) rfl rfl Frm.self rfl (Nat.le_of_ble_eq_true rfl) ⟨Nat.le_of_ble_eq_true rfl, Nat.le_of_ble_eq_true rfl⟩ rfl ?_
    obtain rfl := Option.some.inj hf
    exact n_iret C dX6_counted_121
  have hf := iq h1_8 hf
  refine n_tswOut (t := 122) C dX6_counted_1 (tsw_out 0 9 (fun i hi => by rcases i with _|_|_|_|_|_|_|_|_|i <;> first | exact h1_0 | exact h1_1 | exact h1_2 | exact h1_3 | exact h1_4 | exact h1_5 | exact h1_6 | exact h1_7 | exact h1_8 | omega)) (by decide) ?_
  refine n_aload_n C dX6_counted_122 0 rfl rfl ?_
  refine n_get (N := 12) C dX6_counted_123 iw6_counted_X6 0 rfl rfl 3 (by decide) (List.mem_of_getElem? (i := 2) rfl) rfl rfl rfl ?_
  obtain rfl := Option.some.inj hf
  exact n_iret C dX6_counted_126
-- X6 count 
theorem iw6_count_X6 : ∀ w ∈ u_ws RX6 TX6 12, w ∈ wsX6_count := by decide +kernel
abbrev rm6_count : Room := { frames := 9, cells := 0, slots := 0, locals := 208 }
def f6_count (n : Nat) (oM : OB) (x1 : Int32) : Option (Int32 × (OB)) :=
  (some (gsi oM 6 (nI 0))).bind fun oM_2 => (f6_in n x1 (nI 0) (nI 9)).bind fun z9 => (if z9 = (0 : Int32) then (f6_fails n oM_2 (nI 1)).bind fun z25 => some (z25.1, z25.2) else (f6_counted n oM_2 x1).bind fun z17 => some (z17, oM_2))
set_option maxHeartbeats 4000000 in
set_option maxRecDepth 100000 in
theorem c6_count (l : Launch) (D : va_G) (cyI cyO cyJ : ClassId) (aM : Nat → Nat) (n : Nat) (oM : OB) (x1 : Int32) (z : Int32 × (OB)) (hf : f6_count n oM x1 = some z) : Ct l D (tyG cyI cyO cyJ) yX6_count wsX6_count rm6_count 0 0 [.ref (aM 0), .int x1] (bX6 cyI aM oM) (bX6 cyI aM z.2) (some (.int z.1)) := by
  refine Ct.of (cc := cX6_count) (nL := 2) (ret := (some .int)) (lv := [(0, .ref (aM 0)), (1, .int x1)]) (by decide +kernel) rfl rfl (Nat.le_of_ble_eq_true rfl) ?_
  intro p e s m args below meth c A C
  have C : Cx p s m args meth c D (tyG cyI cyO cyJ) A RX6 cX6_count 2 (some .int) wsX6_count := C
  unfold f6_count at hf
  refine n_aload_n C dX6_count_0 0 rfl rfl ?_
  refine n_iconst (v := (nI 0)) C dX6_count_1 (by decide) rfl ?_
  obtain ⟨oM_2, e2, hf⟩ := bi hf
  replace e2 := Option.some.inj e2
  refine n_put (w2 := bX6 cyI aM oM_2) (N := 12) (ty := .int) C dX6_count_2 iw6_count_X6 tyX6_ok nmX6 0 rfl rfl 6 (by decide) (List.mem_of_getElem? (i := 1) rfl) rfl rfl (by decide +kernel) rfl rfl (Nat.le_of_ble_eq_true rfl) (by subst e2; rfl) rfl ?_
  refine n_iload_n C dX6_count_5 1 rfl rfl ?_
  refine n_iconst (v := (nI 0)) C dX6_count_6 (by decide) rfl ?_
  refine n_bipush (v := (nI 9)) C dX6_count_7 (by decide) rfl ?_
  obtain ⟨z9, h9, hf⟩ := bi hf
  refine n_callS (As := [.int x1, .int (nI 0), .int (nI 9)]) (rest := []) (w2 := bX6 cyI aM oM_2) C dX6_count_9 (c6_in l D cyI cyO cyJ  n x1 (nI 0) (nI 9) z9 h9) (va_cwS 3 C.ts gX6_count_X6_in rfl rfl rfl (by decide +kernel) ⟨Nat.le_of_ble_eq_true rfl, Nat.le_of_ble_eq_true rfl⟩) rfl Frm.none rfl (Nat.le_of_ble_eq_true rfl) ⟨Nat.le_of_ble_eq_true rfl, Nat.le_of_ble_eq_true rfl⟩ rfl ?_
  refine n_if_eq (t := 23) C dX6_count_12 (by decide) rfl (fun h12 => ?_) (fun h12 => ?_)
  · have hf := ip h12 hf
    refine n_aload_n C dX6_count_23 0 rfl rfl ?_
    refine n_iconst (v := (nI 1)) C dX6_count_24 (by decide) rfl ?_
    obtain ⟨z25, h25, hf⟩ := bi hf
    refine n_callV (As := [.int (nI 1)]) (rest := []) (w2 := bX6 cyI aM z25.2) C dX6_count_25 (c6_fails l D cyI cyO cyJ aM n oM_2 (nI 1) z25 h25) (cwV 1 C.ts gX6_count_X6_fails rfl rfl rfl (by decide +kernel) ⟨Nat.le_of_ble_eq_true rfl, Nat.le_of_ble_eq_true rfl⟩) rfl (q0 := 0) (ci := 6) rfl rfl Frm.self rfl (Nat.le_of_ble_eq_true rfl) ⟨Nat.le_of_ble_eq_true rfl, Nat.le_of_ble_eq_true rfl⟩ rfl ?_
    obtain rfl := Option.some.inj hf
    exact n_iret C dX6_count_28
  · have hf := iq h12 hf
    refine n_aload_n C dX6_count_15 0 rfl rfl ?_
    refine n_iload_n C dX6_count_16 1 rfl rfl ?_
    obtain ⟨z17, h17, hf⟩ := bi hf
    refine n_callV (As := [.int x1]) (rest := []) (w2 := bX6 cyI aM oM_2) C dX6_count_17 (c6_counted l D cyI cyO cyJ aM n oM_2 x1 z17 h17) (cwV 1 C.ts gX6_count_X6_counted rfl rfl rfl (by decide +kernel) ⟨Nat.le_of_ble_eq_true rfl, Nat.le_of_ble_eq_true rfl⟩) rfl (q0 := 0) (ci := 6) rfl rfl Frm.self rfl (Nat.le_of_ble_eq_true rfl) ⟨Nat.le_of_ble_eq_true rfl, Nat.le_of_ble_eq_true rfl⟩ rfl ?_
    refine n_goto (t := 28) C dX6_count_20 (by decide) ?_
    obtain rfl := Option.some.inj hf
    exact n_iret C dX6_count_28
-- X6 setting 
theorem iw6_setting_X6 : ∀ w ∈ u_ws RX6 TX6 12, w ∈ wsX6_setting := by decide +kernel
abbrev rm6_setting : Room := { frames := 1, cells := 0, slots := 0, locals := 22 }
def f6_setting (n : Nat) (oM : OB) (x1 : Int32) : Option (Int32 × (OB)) :=
  (some (gsi oM 6 (nI 0))).bind fun oM_2 => (f6_in n x1 (nI 0) (nI 3)).bind fun z8 => (if z8 = (0 : Int32) then (f6_fails n oM_2 (nI 1)).bind fun z25 => some (z25.1, z25.2) else (ald 270 (oM_2.2 0) x1).bind fun x19 => some (x19, oM_2))
set_option maxHeartbeats 4000000 in
set_option maxRecDepth 100000 in
theorem c6_setting (l : Launch) (D : va_G) (cyI cyO cyJ : ClassId) (aM : Nat → Nat) (n : Nat) (oM : OB) (x1 : Int32) (z : Int32 × (OB)) (hf : f6_setting n oM x1 = some z) : Ct l D (tyG cyI cyO cyJ) yX6_setting wsX6_setting rm6_setting 0 0 [.ref (aM 0), .int x1] (bX6 cyI aM oM) (bX6 cyI aM z.2) (some (.int z.1)) := by
  refine Ct.of (cc := cX6_setting) (nL := 2) (ret := (some .int)) (lv := [(0, .ref (aM 0)), (1, .int x1)]) (by decide +kernel) rfl rfl (Nat.le_of_ble_eq_true rfl) ?_
  intro p e s m args below meth c A C
  have C : Cx p s m args meth c D (tyG cyI cyO cyJ) A RX6 cX6_setting 2 (some .int) wsX6_setting := C
  unfold f6_setting at hf
  refine n_aload_n C dX6_setting_0 0 rfl rfl ?_
  refine n_iconst (v := (nI 0)) C dX6_setting_1 (by decide) rfl ?_
  obtain ⟨oM_2, e2, hf⟩ := bi hf
  replace e2 := Option.some.inj e2
  refine n_put (w2 := bX6 cyI aM oM_2) (N := 12) (ty := .int) C dX6_setting_2 iw6_setting_X6 tyX6_ok nmX6 0 rfl rfl 6 (by decide) (List.mem_of_getElem? (i := 1) rfl) rfl rfl (by decide +kernel) rfl rfl (Nat.le_of_ble_eq_true rfl) (by subst e2; rfl) rfl ?_
  refine n_iload_n C dX6_setting_5 1 rfl rfl ?_
  refine n_iconst (v := (nI 0)) C dX6_setting_6 (by decide) rfl ?_
  refine n_iconst (v := (nI 3)) C dX6_setting_7 (by decide) rfl ?_
  obtain ⟨z8, h8, hf⟩ := bi hf
  refine n_callS (As := [.int x1, .int (nI 0), .int (nI 3)]) (rest := []) (w2 := bX6 cyI aM oM_2) C dX6_setting_8 (c6_in l D cyI cyO cyJ  n x1 (nI 0) (nI 3) z8 h8) (va_cwS 3 C.ts gX6_setting_X6_in rfl rfl rfl (by decide +kernel) ⟨Nat.le_of_ble_eq_true rfl, Nat.le_of_ble_eq_true rfl⟩) rfl Frm.none rfl (Nat.le_of_ble_eq_true rfl) ⟨Nat.le_of_ble_eq_true rfl, Nat.le_of_ble_eq_true rfl⟩ rfl ?_
  refine n_if_eq (t := 23) C dX6_setting_11 (by decide) rfl (fun h11 => ?_) (fun h11 => ?_)
  · have hf := ip h11 hf
    refine n_aload_n C dX6_setting_23 0 rfl rfl ?_
    refine n_iconst (v := (nI 1)) C dX6_setting_24 (by decide) rfl ?_
    obtain ⟨z25, h25, hf⟩ := bi hf
    refine n_callV (As := [.int (nI 1)]) (rest := []) (w2 := bX6 cyI aM z25.2) C dX6_setting_25 (c6_fails l D cyI cyO cyJ aM n oM_2 (nI 1) z25 h25) (cwV 1 C.ts gX6_setting_X6_fails rfl rfl rfl (by decide +kernel) ⟨Nat.le_of_ble_eq_true rfl, Nat.le_of_ble_eq_true rfl⟩) rfl (q0 := 0) (ci := 6) rfl rfl Frm.self rfl (Nat.le_of_ble_eq_true rfl) ⟨Nat.le_of_ble_eq_true rfl, Nat.le_of_ble_eq_true rfl⟩ rfl ?_
    obtain rfl := Option.some.inj hf
    exact n_iret C dX6_setting_28
  · have hf := iq h11 hf
    refine n_aload_n C dX6_setting_14 0 rfl rfl ?_
    refine n_get (N := 12) C dX6_setting_15 iw6_setting_X6 0 rfl rfl 0 (by decide) (List.mem_of_getElem? (i := 2) rfl) rfl rfl rfl ?_
    refine n_iload_n C dX6_setting_18 1 rfl rfl ?_
    obtain ⟨x19, h19, hf⟩ := bi hf
    obtain ⟨h19, e19⟩ := ald_some h19
    refine n_iald C dX6_setting_19 1 0 rfl rfl h19 rfl ?_
    rw [← e19]
    refine n_goto (t := 28) C dX6_setting_20 (by decide) ?_
    obtain rfl := Option.some.inj hf
    exact n_iret C dX6_setting_28
-- X6 meeting 
theorem iw6_meeting_X6 : ∀ w ∈ u_ws RX6 TX6 12, w ∈ wsX6_meeting := by decide +kernel
abbrev rm6_meeting : Room := { frames := 2, cells := 0, slots := 0, locals := 44 }
def f6_meeting_b43 (n : Nat) (x1 : Int32) (x2 : Int32) : Nat → Int32 → Int32 → OB → Option (Int32 × (OB))
  | 0, _, _, _ => none
  | k + 1, v3, v4, oM =>
    (ald 270 (oM.2 0) (nI 5)).bind fun x50 => (if x50 ≤ v4 then some (v3, oM) else (f6_sideOf n (oM.2 0) v4 x1).bind fun z61 => (if z61 = (-1 : Int32) then (f6_meeting_b43 n x1 x2 k) v3 (v4 + (nI 1)) oM else (f6_sideOf n (oM.2 0) v4 x2).bind fun z75 => (if z75 = (-1 : Int32) then (f6_meeting_b43 n x1 x2 k) v3 (v4 + (nI 1)) oM else (f6_meeting_b43 n x1 x2 k) v4 (v4 + (nI 1)) oM)))
def f6_meeting (n : Nat) (oM : OB) (x1 : Int32) (x2 : Int32) : Option (Int32 × (OB)) :=
  (some (gsi oM 6 (nI 0))).bind fun oM_2 => (f6_isTeam n oM_2 x1).bind fun z7 => (if z7 = (0 : Int32) then (f6_fails n oM_2 (nI 1)).bind fun z23 => some (z23.1, z23.2) else (f6_isTeam n oM_2 x2).bind fun z15 => (if z15 = (0 : Int32) then (f6_fails n oM_2 (nI 1)).bind fun z23 => some (z23.1, z23.2) else (if x1 = x2 then (f6_fails n oM_2 (nI 2)).bind fun z34 => some (z34.1, z34.2) else f6_meeting_b43 n x1 x2 n (nI 0) (nI 0) oM_2)))
set_option maxHeartbeats 4000000 in
set_option maxRecDepth 100000 in
theorem t6_meeting_b43 {l : Launch} {p : Program} {e : Env} {s : State} {m : MethodId} {args : Array Value} {below : List Frame} {meth : Method} {c : Code} {D : va_G} {A : Nat → Prop} {cyI cyO cyJ : ClassId} {aM : Nat → Nat} (C : Cx p s m args meth c D (tyG cyI cyO cyJ) A RX6 cX6_meeting 5 (some .int) wsX6_meeting) {z : Int32 × (OB)} (n : Nat) (x1 : Int32) (x2 : Int32) : ∀ (k : Nat) (v3 : Int32) (v4 : Int32) (oM : OB), f6_meeting_b43 n x1 x2 k v3 v4 oM = some z → Wn p l e rm6_meeting s m args below meth c D A 5 0 0 (MQ below (Qr D (tyG cyI cyO cyJ) (bX6 cyI aM z.2) A (some (.int z.1))) args s 0 0 A) (bX6 cyI aM oM) 43 [(0, .ref (aM 0)), (1, .int x1), (2, .int x2), (3, .int v3), (4, .int v4)] [] := by
  intro k
  induction k with
  | zero => intro  v3 v4 oM hf; cases hf
  | succ k ih =>
    intro  v3 v4 oM hf
    unfold f6_meeting_b43 at hf
    refine n_iload C dX6_meeting_43 4 rfl rfl ?_
    refine n_aload_n C dX6_meeting_45 0 rfl rfl ?_
    refine n_get (N := 12) C dX6_meeting_46 iw6_meeting_X6 0 rfl rfl 0 (by decide) (List.mem_of_getElem? (i := 2) rfl) rfl rfl rfl ?_
    refine n_iconst (v := (nI 5)) C dX6_meeting_49 (by decide) rfl ?_
    obtain ⟨x50, h50, hf⟩ := bi hf
    obtain ⟨h50, e50⟩ := ald_some h50
    refine n_iald C dX6_meeting_50 1 0 rfl rfl h50 rfl ?_
    rw [← e50]
    refine n_icmp_ge (t := 95) C dX6_meeting_51 (by decide) rfl (fun h51 => ?_) (fun h51 => ?_)
    · have hf := ip h51 hf
      refine n_iload_n C dX6_meeting_95 3 rfl rfl ?_
      obtain rfl := Option.some.inj hf
      exact n_iret C dX6_meeting_96
    · have hf := iq h51 hf
      refine n_aload_n C dX6_meeting_54 0 rfl rfl ?_
      refine n_get (N := 12) C dX6_meeting_55 iw6_meeting_X6 0 rfl rfl 0 (by decide) (List.mem_of_getElem? (i := 2) rfl) rfl rfl rfl ?_
      refine n_iload C dX6_meeting_58 4 rfl rfl ?_
      refine n_iload_n C dX6_meeting_60 1 rfl rfl ?_
      obtain ⟨z61, h61, hf⟩ := bi hf
      refine n_callS (As := [.ref (aM 1), .int v4, .int x1]) (rest := []) (w2 := bX6 cyI aM oM) C dX6_meeting_61 (c6_sideOf l D cyI cyO cyJ (aM 1) n (oM.2 0) v4 x1 z61 h61) (va_cwS 3 C.ts gX6_meeting_X6_sideOf rfl rfl rfl (by decide +kernel) ⟨Nat.le_of_ble_eq_true rfl, Nat.le_of_ble_eq_true rfl⟩) rfl (Frm.skipc (Frm.takec Frm.none)) rfl (Nat.le_of_ble_eq_true rfl) ⟨Nat.le_of_ble_eq_true rfl, Nat.le_of_ble_eq_true rfl⟩ rfl ?_
      refine n_iconst (v := (-1 : Int32)) C dX6_meeting_64 (by decide) rfl ?_
      refine n_icmp_eq (t := 87) C dX6_meeting_65 (by decide) rfl (fun h65 => ?_) (fun h65 => ?_)
      · have hf := ip h65 hf
        refine n_iload_n C dX6_meeting_87 3 rfl rfl ?_
        refine n_istore_n (lv' := [(3, .int v3), (0, .ref (aM 0)), (1, .int x1), (2, .int x2), (4, .int v4)]) C dX6_meeting_88 (by decide) rfl rfl ?_
        refine n_iinc (v := v4 + (nI 1)) (lv' := [(4, .int (v4 + (nI 1))), (3, .int v3), (0, .ref (aM 0)), (1, .int x1), (2, .int x2)]) C dX6_meeting_89 (j := 4) rfl rfl (by decide) rfl rfl ?_
        refine n_goto (t := 43) C dX6_meeting_92 (by decide) ?_
        exact Wn.sub (lv' := [(0, .ref (aM 0)), (1, .int x1), (2, .int x2), (3, .int v3), (4, .int (v4 + (nI 1)))]) [2, 3, 4, 1, 0] rfl (ih v3 (v4 + (nI 1)) oM hf)
      · have hf := iq h65 hf
        refine n_aload_n C dX6_meeting_68 0 rfl rfl ?_
        refine n_get (N := 12) C dX6_meeting_69 iw6_meeting_X6 0 rfl rfl 0 (by decide) (List.mem_of_getElem? (i := 2) rfl) rfl rfl rfl ?_
        refine n_iload C dX6_meeting_72 4 rfl rfl ?_
        refine n_iload_n C dX6_meeting_74 2 rfl rfl ?_
        obtain ⟨z75, h75, hf⟩ := bi hf
        refine n_callS (As := [.ref (aM 1), .int v4, .int x2]) (rest := []) (w2 := bX6 cyI aM oM) C dX6_meeting_75 (c6_sideOf l D cyI cyO cyJ (aM 1) n (oM.2 0) v4 x2 z75 h75) (va_cwS 3 C.ts gX6_meeting_X6_sideOf rfl rfl rfl (by decide +kernel) ⟨Nat.le_of_ble_eq_true rfl, Nat.le_of_ble_eq_true rfl⟩) rfl (Frm.skipc (Frm.takec Frm.none)) rfl (Nat.le_of_ble_eq_true rfl) ⟨Nat.le_of_ble_eq_true rfl, Nat.le_of_ble_eq_true rfl⟩ rfl ?_
        refine n_iconst (v := (-1 : Int32)) C dX6_meeting_78 (by decide) rfl ?_
        refine n_icmp_eq (t := 87) C dX6_meeting_79 (by decide) rfl (fun h79 => ?_) (fun h79 => ?_)
        · have hf := ip h79 hf
          refine n_iload_n C dX6_meeting_87 3 rfl rfl ?_
          refine n_istore_n (lv' := [(3, .int v3), (0, .ref (aM 0)), (1, .int x1), (2, .int x2), (4, .int v4)]) C dX6_meeting_88 (by decide) rfl rfl ?_
          refine n_iinc (v := v4 + (nI 1)) (lv' := [(4, .int (v4 + (nI 1))), (3, .int v3), (0, .ref (aM 0)), (1, .int x1), (2, .int x2)]) C dX6_meeting_89 (j := 4) rfl rfl (by decide) rfl rfl ?_
          refine n_goto (t := 43) C dX6_meeting_92 (by decide) ?_
          exact Wn.sub (lv' := [(0, .ref (aM 0)), (1, .int x1), (2, .int x2), (3, .int v3), (4, .int (v4 + (nI 1)))]) [2, 3, 4, 1, 0] rfl (ih v3 (v4 + (nI 1)) oM hf)
        · have hf := iq h79 hf
          refine n_iload C dX6_meeting_82 4 rfl rfl ?_
          refine n_goto (t := 88) C dX6_meeting_84 (by decide) ?_
          refine n_istore_n (lv' := [(3, .int v4), (0, .ref (aM 0)), (1, .int x1), (2, .int x2), (4, .int v4)]) C dX6_meeting_88 (by decide) rfl rfl ?_
          refine n_iinc (v := v4 + (nI 1)) (lv' := [(4, .int (v4 + (nI 1))), (3, .int v4), (0, .ref (aM 0)), (1, .int x1), (2, .int x2)]) C dX6_meeting_89 (j := 4) rfl rfl (by decide) rfl rfl ?_
          refine n_goto (t := 43) C dX6_meeting_92 (by decide) ?_
          exact Wn.sub (lv' := [(0, .ref (aM 0)), (1, .int x1), (2, .int x2), (3, .int v4), (4, .int (v4 + (nI 1)))]) [2, 3, 4, 1, 0] rfl (ih v4 (v4 + (nI 1)) oM hf)
set_option maxHeartbeats 4000000 in
set_option maxRecDepth 100000 in
theorem c6_meeting (l : Launch) (D : va_G) (cyI cyO cyJ : ClassId) (aM : Nat → Nat) (n : Nat) (oM : OB) (x1 : Int32) (x2 : Int32) (z : Int32 × (OB)) (hf : f6_meeting n oM x1 x2 = some z) : Ct l D (tyG cyI cyO cyJ) yX6_meeting wsX6_meeting rm6_meeting 0 0 [.ref (aM 0), .int x1, .int x2] (bX6 cyI aM oM) (bX6 cyI aM z.2) (some (.int z.1)) := by
  refine Ct.of (cc := cX6_meeting) (nL := 5) (ret := (some .int)) (lv := [(0, .ref (aM 0)), (1, .int x1), (2, .int x2)]) (by decide +kernel) rfl rfl (Nat.le_of_ble_eq_true rfl) ?_
  intro p e s m args below meth c A C
  have C : Cx p s m args meth c D (tyG cyI cyO cyJ) A RX6 cX6_meeting 5 (some .int) wsX6_meeting := C
  unfold f6_meeting at hf
  refine n_aload_n C dX6_meeting_0 0 rfl rfl ?_
  refine n_iconst (v := (nI 0)) C dX6_meeting_1 (by decide) rfl ?_
  obtain ⟨oM_2, e2, hf⟩ := bi hf
  replace e2 := Option.some.inj e2
  refine n_put (w2 := bX6 cyI aM oM_2) (N := 12) (ty := .int) C dX6_meeting_2 iw6_meeting_X6 tyX6_ok nmX6 0 rfl rfl 6 (by decide) (List.mem_of_getElem? (i := 1) rfl) rfl rfl (by decide +kernel) rfl rfl (Nat.le_of_ble_eq_true rfl) (by subst e2; rfl) rfl ?_
  refine n_aload_n C dX6_meeting_5 0 rfl rfl ?_
  refine n_iload_n C dX6_meeting_6 1 rfl rfl ?_
  obtain ⟨z7, h7, hf⟩ := bi hf
  refine n_callV (As := [.int x1]) (rest := []) (w2 := bX6 cyI aM oM_2) C dX6_meeting_7 (c6_isTeam l D cyI cyO cyJ aM n oM_2 x1 z7 h7) (cwV 1 C.ts gX6_meeting_X6_isTeam rfl rfl rfl (by decide +kernel) ⟨Nat.le_of_ble_eq_true rfl, Nat.le_of_ble_eq_true rfl⟩) rfl (q0 := 0) (ci := 6) rfl rfl Frm.self rfl (Nat.le_of_ble_eq_true rfl) ⟨Nat.le_of_ble_eq_true rfl, Nat.le_of_ble_eq_true rfl⟩ rfl ?_
  refine n_if_eq (t := 21) C dX6_meeting_10 (by decide) rfl (fun h10 => ?_) (fun h10 => ?_)
  · have hf := ip h10 hf
    refine n_aload_n C dX6_meeting_21 0 rfl rfl ?_
    refine n_iconst (v := (nI 1)) C dX6_meeting_22 (by decide) rfl ?_
    obtain ⟨z23, h23, hf⟩ := bi hf
    refine n_callV (As := [.int (nI 1)]) (rest := []) (w2 := bX6 cyI aM z23.2) C dX6_meeting_23 (c6_fails l D cyI cyO cyJ aM n oM_2 (nI 1) z23 h23) (cwV 1 C.ts gX6_meeting_X6_fails rfl rfl rfl (by decide +kernel) ⟨Nat.le_of_ble_eq_true rfl, Nat.le_of_ble_eq_true rfl⟩) rfl (q0 := 0) (ci := 6) rfl rfl Frm.self rfl (Nat.le_of_ble_eq_true rfl) ⟨Nat.le_of_ble_eq_true rfl, Nat.le_of_ble_eq_true rfl⟩ rfl ?_
    obtain rfl := Option.some.inj hf
    exact n_iret C dX6_meeting_26
  · have hf := iq h10 hf
    refine n_aload_n C dX6_meeting_13 0 rfl rfl ?_
    refine n_iload_n C dX6_meeting_14 2 rfl rfl ?_
    obtain ⟨z15, h15, hf⟩ := bi hf
    refine n_callV (As := [.int x2]) (rest := []) (w2 := bX6 cyI aM oM_2) C dX6_meeting_15 (c6_isTeam l D cyI cyO cyJ aM n oM_2 x2 z15 h15) (cwV 1 C.ts gX6_meeting_X6_isTeam rfl rfl rfl (by decide +kernel) ⟨Nat.le_of_ble_eq_true rfl, Nat.le_of_ble_eq_true rfl⟩) rfl (q0 := 0) (ci := 6) rfl rfl Frm.self rfl (Nat.le_of_ble_eq_true rfl) ⟨Nat.le_of_ble_eq_true rfl, Nat.le_of_ble_eq_true rfl⟩ rfl ?_
    refine n_if_ne (t := 27) C dX6_meeting_18 (by decide) rfl (fun h18 => ?_) (fun h18 => ?_)
    · have hf := iq h18 hf
      refine n_iload_n C dX6_meeting_27 1 rfl rfl ?_
      refine n_iload_n C dX6_meeting_28 2 rfl rfl ?_
      refine n_icmp_ne (t := 38) C dX6_meeting_29 (by decide) rfl (fun h29 => ?_) (fun h29 => ?_)
      · have hf := iq h29 hf
        refine n_iconst (v := (nI 0)) C dX6_meeting_38 (by decide) rfl ?_
        refine n_istore_n (lv' := [(3, .int (nI 0)), (0, .ref (aM 0)), (1, .int x1), (2, .int x2)]) C dX6_meeting_39 (by decide) rfl rfl ?_
        refine n_iconst (v := (nI 0)) C dX6_meeting_40 (by decide) rfl ?_
        refine n_istore (lv' := [(4, .int (nI 0)), (3, .int (nI 0)), (0, .ref (aM 0)), (1, .int x1), (2, .int x2)]) C dX6_meeting_41 (by decide) rfl rfl ?_
        exact Wn.sub (lv' := [(0, .ref (aM 0)), (1, .int x1), (2, .int x2), (3, .int (nI 0)), (4, .int (nI 0))]) [2, 3, 4, 1, 0] rfl (t6_meeting_b43 C n x1 x2 n (nI 0) (nI 0) oM_2 hf)
      · have hf := ip h29 hf
        refine n_aload_n C dX6_meeting_32 0 rfl rfl ?_
        refine n_iconst (v := (nI 2)) C dX6_meeting_33 (by decide) rfl ?_
        obtain ⟨z34, h34, hf⟩ := bi hf
        refine n_callV (As := [.int (nI 2)]) (rest := []) (w2 := bX6 cyI aM z34.2) C dX6_meeting_34 (c6_fails l D cyI cyO cyJ aM n oM_2 (nI 2) z34 h34) (cwV 1 C.ts gX6_meeting_X6_fails rfl rfl rfl (by decide +kernel) ⟨Nat.le_of_ble_eq_true rfl, Nat.le_of_ble_eq_true rfl⟩) rfl (q0 := 0) (ci := 6) rfl rfl Frm.self rfl (Nat.le_of_ble_eq_true rfl) ⟨Nat.le_of_ble_eq_true rfl, Nat.le_of_ble_eq_true rfl⟩ rfl ?_
        obtain rfl := Option.some.inj hf
        exact n_iret C dX6_meeting_37
    · have hf := ip h18 hf
      refine n_aload_n C dX6_meeting_21 0 rfl rfl ?_
      refine n_iconst (v := (nI 1)) C dX6_meeting_22 (by decide) rfl ?_
      obtain ⟨z23, h23, hf⟩ := bi hf
      refine n_callV (As := [.int (nI 1)]) (rest := []) (w2 := bX6 cyI aM z23.2) C dX6_meeting_23 (c6_fails l D cyI cyO cyJ aM n oM_2 (nI 1) z23 h23) (cwV 1 C.ts gX6_meeting_X6_fails rfl rfl rfl (by decide +kernel) ⟨Nat.le_of_ble_eq_true rfl, Nat.le_of_ble_eq_true rfl⟩) rfl (q0 := 0) (ci := 6) rfl rfl Frm.self rfl (Nat.le_of_ble_eq_true rfl) ⟨Nat.le_of_ble_eq_true rfl, Nat.le_of_ble_eq_true rfl⟩ rfl ?_
      obtain rfl := Option.some.inj hf
      exact n_iret C dX6_meeting_26
-- X6 best 
theorem iw6_best_X6 : ∀ w ∈ u_ws RX6 TX6 12, w ∈ wsX6_best := by decide +kernel
abbrev rm6_best : Room := { frames := 6, cells := 0, slots := 0, locals := 142 }
def f6_best_b88 (n : Nat) (x1 : Int32) (oM : OB) : Option (Int32 × (OB)) :=
  (f6_placeOf n (oM.2 1) x1).bind fun z93 => some (z93, oM)
def f6_best_b69 (n : Nat) (x1 : Int32) (k15 : Int32 → OB → Option (Int32 × (OB))) (k88 : OB → Option (Int32 × (OB))) (v2 : Int32) (v3 : Int32) (s1 : Int32) (s2 : Int32) (s3 : Int32) (oM : OB) : Option (Int32 × (OB)) :=
  (if v3 = (0 : Int32) then (f6_gives n (oM.2 1) s1 s2 s3 (nI 0)).bind fun z79 => k15 (v2 + (nI 1)) (gsa oM 1 z79) else (f6_gives n (oM.2 1) s1 s2 s3 (nI 99)).bind fun z79 => k15 (v2 + (nI 1)) (gsa oM 1 z79))
def f6_best_b15 (n : Nat) (x1 : Int32) (k88 : OB → Option (Int32 × (OB))) : Nat → Int32 → OB → Option (Int32 × (OB))
  | 0, _, _ => none
  | k + 1, v2, oM =>
    (ald 270 (oM.2 1) (nI 5)).bind fun x21 => (if x21 ≤ v2 then k88 oM else (f6_sideOf n (oM.2 1) v2 x1).bind fun z31 => (if z31 = (-1 : Int32) then (f6_best_b15 n x1 k88 k) (v2 + (nI 1)) oM else (f6_of n (oM.2 1) v2 (nI 6)).bind fun z47 => (if z47 = (0 : Int32) then (if z31 = (0 : Int32) then f6_best_b69 n x1 (f6_best_b15 n x1 k88 k) k88 v2 z31 v2 (nI 1) (nI 99) oM else f6_best_b69 n x1 (f6_best_b15 n x1 k88 k) k88 v2 z31 v2 (nI 1) (nI 0) oM) else (f6_best_b15 n x1 k88 k) (v2 + (nI 1)) oM)))
def f6_best (n : Nat) (oM : OB) (x1 : Int32) : Option (Int32 × (OB)) :=
  (f6_copies n 270 (oM.2 0) 270 (oM.2 1) (nI 0) (nI 0)).bind fun z10 => f6_best_b15 n x1 (fun oM => f6_best_b88 n x1 oM) n (nI 0) (gsa oM 1 z10)
set_option maxHeartbeats 4000000 in
set_option maxRecDepth 100000 in
theorem t6_best_b88 {l : Launch} {p : Program} {e : Env} {s : State} {m : MethodId} {args : Array Value} {below : List Frame} {meth : Method} {c : Code} {D : va_G} {A : Nat → Prop} {cyI cyO cyJ : ClassId} {aM : Nat → Nat} (C : Cx p s m args meth c D (tyG cyI cyO cyJ) A RX6 cX6_best 4 (some .int) wsX6_best) {z : Int32 × (OB)} (n : Nat) (x1 : Int32) (oM : OB) (hf : f6_best_b88 n x1 oM = some z) : Wn p l e rm6_best s m args below meth c D A 4 0 0 (MQ below (Qr D (tyG cyI cyO cyJ) (bX6 cyI aM z.2) A (some (.int z.1))) args s 0 0 A) (bX6 cyI aM oM) 88 [(0, .ref (aM 0)), (1, .int x1)] [] := by
  unfold f6_best_b88 at hf
  refine n_aload_n C dX6_best_88 0 rfl rfl ?_
  refine n_get (N := 12) C dX6_best_89 iw6_best_X6 0 rfl rfl 1 (by decide) (List.mem_of_getElem? (i := 2) rfl) rfl rfl rfl ?_
  refine n_iload_n C dX6_best_92 1 rfl rfl ?_
  obtain ⟨z93, h93, hf⟩ := bi hf
  refine n_callS (As := [.ref (aM 2), .int x1]) (rest := []) (w2 := bX6 cyI aM oM) C dX6_best_93 (c6_placeOf l D cyI cyO cyJ (aM 2) n (oM.2 1) x1 z93 h93) (va_cwS 2 C.ts gX6_best_X6_placeOf rfl rfl rfl (by decide +kernel) ⟨Nat.le_of_ble_eq_true rfl, Nat.le_of_ble_eq_true rfl⟩) rfl (Frm.skipc (Frm.skipc (Frm.takec Frm.none))) rfl (Nat.le_of_ble_eq_true rfl) ⟨Nat.le_of_ble_eq_true rfl, Nat.le_of_ble_eq_true rfl⟩ rfl ?_
  obtain rfl := Option.some.inj hf
  exact n_iret C dX6_best_96
set_option maxHeartbeats 4000000 in
set_option maxRecDepth 100000 in
theorem t6_best_b69 {l : Launch} {p : Program} {e : Env} {s : State} {m : MethodId} {args : Array Value} {below : List Frame} {meth : Method} {c : Code} {D : va_G} {A : Nat → Prop} {cyI cyO cyJ : ClassId} {aM : Nat → Nat} (C : Cx p s m args meth c D (tyG cyI cyO cyJ) A RX6 cX6_best 4 (some .int) wsX6_best) {z : Int32 × (OB)} (n : Nat) (x1 : Int32) {k15 : Int32 → OB → Option (Int32 × (OB))} {k88 : OB → Option (Int32 × (OB))} (hk15 : ∀ (v2 : Int32) (oM : OB), k15 v2 oM = some z → Wn p l e rm6_best s m args below meth c D A 4 0 0 (MQ below (Qr D (tyG cyI cyO cyJ) (bX6 cyI aM z.2) A (some (.int z.1))) args s 0 0 A) (bX6 cyI aM oM) 15 [(0, .ref (aM 0)), (1, .int x1), (2, .int v2)] []) (hk88 : ∀ (oM : OB), k88 oM = some z → Wn p l e rm6_best s m args below meth c D A 4 0 0 (MQ below (Qr D (tyG cyI cyO cyJ) (bX6 cyI aM z.2) A (some (.int z.1))) args s 0 0 A) (bX6 cyI aM oM) 88 [(0, .ref (aM 0)), (1, .int x1)] []) (v2 : Int32) (v3 : Int32) (s1 : Int32) (s2 : Int32) (s3 : Int32) (oM : OB) (hf : f6_best_b69 n x1 k15 k88 v2 v3 s1 s2 s3 oM = some z) : Wn p l e rm6_best s m args below meth c D A 4 0 0 (MQ below (Qr D (tyG cyI cyO cyJ) (bX6 cyI aM z.2) A (some (.int z.1))) args s 0 0 A) (bX6 cyI aM oM) 69 [(0, .ref (aM 0)), (1, .int x1), (2, .int v2), (3, .int v3)] [.int s3, .int s2, .int s1, .ref (aM 2)] := by
  unfold f6_best_b69 at hf
  refine n_iload_n C dX6_best_69 3 rfl rfl ?_
  refine n_if_ne (t := 77) C dX6_best_70 (by decide) rfl (fun h70 => ?_) (fun h70 => ?_)
  · have hf := iq h70 hf
    refine n_bipush (v := (nI 99)) C dX6_best_77 (by decide) rfl ?_
    obtain ⟨z79, h79, hf⟩ := bi hf
    refine n_callS (As := [.ref (aM 2), .int s1, .int s2, .int s3, .int (nI 99)]) (rest := []) (w2 := bX6 cyI aM (gsa oM 1 z79)) C dX6_best_79 (c6_gives l D cyI cyO cyJ (aM 2) n (oM.2 1) s1 s2 s3 (nI 99) z79 h79) (va_cwS 5 C.ts gX6_best_X6_gives rfl rfl rfl (by decide +kernel) ⟨Nat.le_of_ble_eq_true rfl, Nat.le_of_ble_eq_true rfl⟩) rfl (Frm.skipc (Frm.skipc (Frm.takec Frm.none))) rfl (Nat.le_of_ble_eq_true rfl) ⟨Nat.le_of_ble_eq_true rfl, Nat.le_of_ble_eq_true rfl⟩ rfl ?_
    refine n_iinc (v := v2 + (nI 1)) (lv' := [(2, .int (v2 + (nI 1))), (0, .ref (aM 0)), (1, .int x1), (3, .int v3)]) C dX6_best_82 (j := 2) rfl rfl (by decide) rfl rfl ?_
    refine n_goto (t := 15) C dX6_best_85 (by decide) ?_
    exact Wn.sub (lv' := [(0, .ref (aM 0)), (1, .int x1), (2, .int (v2 + (nI 1)))]) [1, 2, 0] rfl (hk15 (v2 + (nI 1)) (gsa oM 1 z79) hf)
  · have hf := ip h70 hf
    refine n_iconst (v := (nI 0)) C dX6_best_73 (by decide) rfl ?_
    refine n_goto (t := 79) C dX6_best_74 (by decide) ?_
    obtain ⟨z79, h79, hf⟩ := bi hf
    refine n_callS (As := [.ref (aM 2), .int s1, .int s2, .int s3, .int (nI 0)]) (rest := []) (w2 := bX6 cyI aM (gsa oM 1 z79)) C dX6_best_79 (c6_gives l D cyI cyO cyJ (aM 2) n (oM.2 1) s1 s2 s3 (nI 0) z79 h79) (va_cwS 5 C.ts gX6_best_X6_gives rfl rfl rfl (by decide +kernel) ⟨Nat.le_of_ble_eq_true rfl, Nat.le_of_ble_eq_true rfl⟩) rfl (Frm.skipc (Frm.skipc (Frm.takec Frm.none))) rfl (Nat.le_of_ble_eq_true rfl) ⟨Nat.le_of_ble_eq_true rfl, Nat.le_of_ble_eq_true rfl⟩ rfl ?_
    refine n_iinc (v := v2 + (nI 1)) (lv' := [(2, .int (v2 + (nI 1))), (0, .ref (aM 0)), (1, .int x1), (3, .int v3)]) C dX6_best_82 (j := 2) rfl rfl (by decide) rfl rfl ?_
    refine n_goto (t := 15) C dX6_best_85 (by decide) ?_
    exact Wn.sub (lv' := [(0, .ref (aM 0)), (1, .int x1), (2, .int (v2 + (nI 1)))]) [1, 2, 0] rfl (hk15 (v2 + (nI 1)) (gsa oM 1 z79) hf)
set_option maxHeartbeats 4000000 in
set_option maxRecDepth 100000 in
theorem t6_best_b15 {l : Launch} {p : Program} {e : Env} {s : State} {m : MethodId} {args : Array Value} {below : List Frame} {meth : Method} {c : Code} {D : va_G} {A : Nat → Prop} {cyI cyO cyJ : ClassId} {aM : Nat → Nat} (C : Cx p s m args meth c D (tyG cyI cyO cyJ) A RX6 cX6_best 4 (some .int) wsX6_best) {z : Int32 × (OB)} (n : Nat) (x1 : Int32) {k88 : OB → Option (Int32 × (OB))} (hk88 : ∀ (oM : OB), k88 oM = some z → Wn p l e rm6_best s m args below meth c D A 4 0 0 (MQ below (Qr D (tyG cyI cyO cyJ) (bX6 cyI aM z.2) A (some (.int z.1))) args s 0 0 A) (bX6 cyI aM oM) 88 [(0, .ref (aM 0)), (1, .int x1)] []) : ∀ (k : Nat) (v2 : Int32) (oM : OB), f6_best_b15 n x1 k88 k v2 oM = some z → Wn p l e rm6_best s m args below meth c D A 4 0 0 (MQ below (Qr D (tyG cyI cyO cyJ) (bX6 cyI aM z.2) A (some (.int z.1))) args s 0 0 A) (bX6 cyI aM oM) 15 [(0, .ref (aM 0)), (1, .int x1), (2, .int v2)] [] := by
  intro k
  induction k with
  | zero => intro  v2 oM hf; cases hf
  | succ k ih =>
    intro  v2 oM hf
    unfold f6_best_b15 at hf
    refine n_iload_n C dX6_best_15 2 rfl rfl ?_
    refine n_aload_n C dX6_best_16 0 rfl rfl ?_
    refine n_get (N := 12) C dX6_best_17 iw6_best_X6 0 rfl rfl 1 (by decide) (List.mem_of_getElem? (i := 2) rfl) rfl rfl rfl ?_
    refine n_iconst (v := (nI 5)) C dX6_best_20 (by decide) rfl ?_
    obtain ⟨x21, h21, hf⟩ := bi hf
    obtain ⟨h21, e21⟩ := ald_some h21
    refine n_iald C dX6_best_21 2 0 rfl rfl h21 rfl ?_
    rw [← e21]
    refine n_icmp_ge (t := 88) C dX6_best_22 (by decide) rfl (fun h22 => ?_) (fun h22 => ?_)
    · have hf := ip h22 hf
      exact Wn.sub (lv' := [(0, .ref (aM 0)), (1, .int x1)]) [0, 1] rfl (hk88 oM hf)
    · have hf := iq h22 hf
      refine n_aload_n C dX6_best_25 0 rfl rfl ?_
      refine n_get (N := 12) C dX6_best_26 iw6_best_X6 0 rfl rfl 1 (by decide) (List.mem_of_getElem? (i := 2) rfl) rfl rfl rfl ?_
      refine n_iload_n C dX6_best_29 2 rfl rfl ?_
      refine n_iload_n C dX6_best_30 1 rfl rfl ?_
      obtain ⟨z31, h31, hf⟩ := bi hf
      refine n_callS (As := [.ref (aM 2), .int v2, .int x1]) (rest := []) (w2 := bX6 cyI aM oM) C dX6_best_31 (c6_sideOf l D cyI cyO cyJ (aM 2) n (oM.2 1) v2 x1 z31 h31) (va_cwS 3 C.ts gX6_best_X6_sideOf rfl rfl rfl (by decide +kernel) ⟨Nat.le_of_ble_eq_true rfl, Nat.le_of_ble_eq_true rfl⟩) rfl (Frm.skipc (Frm.skipc (Frm.takec Frm.none))) rfl (Nat.le_of_ble_eq_true rfl) ⟨Nat.le_of_ble_eq_true rfl, Nat.le_of_ble_eq_true rfl⟩ rfl ?_
      refine n_istore_n (lv' := [(3, .int z31), (0, .ref (aM 0)), (1, .int x1), (2, .int v2)]) C dX6_best_34 (by decide) rfl rfl ?_
      refine n_iload_n C dX6_best_35 0 rfl rfl ?_
      refine n_iconst (v := (-1 : Int32)) C dX6_best_36 (by decide) rfl ?_
      refine n_icmp_eq (t := 82) C dX6_best_37 (by decide) rfl (fun h37 => ?_) (fun h37 => ?_)
      · have hf := ip h37 hf
        refine n_iinc (v := v2 + (nI 1)) (lv' := [(2, .int (v2 + (nI 1))), (3, .int z31), (0, .ref (aM 0)), (1, .int x1)]) C dX6_best_82 (j := 3) rfl rfl (by decide) rfl rfl ?_
        refine n_goto (t := 15) C dX6_best_85 (by decide) ?_
        exact Wn.sub (lv' := [(0, .ref (aM 0)), (1, .int x1), (2, .int (v2 + (nI 1)))]) [2, 3, 0] rfl (ih (v2 + (nI 1)) oM hf)
      · have hf := iq h37 hf
        refine n_aload_n C dX6_best_40 1 rfl rfl ?_
        refine n_get (N := 12) C dX6_best_41 iw6_best_X6 0 rfl rfl 1 (by decide) (List.mem_of_getElem? (i := 2) rfl) rfl rfl rfl ?_
        refine n_iload_n C dX6_best_44 3 rfl rfl ?_
        refine n_bipush (v := (nI 6)) C dX6_best_45 (by decide) rfl ?_
        obtain ⟨z47, h47, hf⟩ := bi hf
        refine n_callS (As := [.ref (aM 2), .int v2, .int (nI 6)]) (rest := []) (w2 := bX6 cyI aM oM) C dX6_best_47 (c6_of l D cyI cyO cyJ (aM 2) n (oM.2 1) v2 (nI 6) z47 h47) (va_cwS 3 C.ts gX6_best_X6_of rfl rfl rfl (by decide +kernel) ⟨Nat.le_of_ble_eq_true rfl, Nat.le_of_ble_eq_true rfl⟩) rfl (Frm.skipc (Frm.skipc (Frm.takec Frm.none))) rfl (Nat.le_of_ble_eq_true rfl) ⟨Nat.le_of_ble_eq_true rfl, Nat.le_of_ble_eq_true rfl⟩ rfl ?_
        refine n_if_ne (t := 82) C dX6_best_50 (by decide) rfl (fun h50 => ?_) (fun h50 => ?_)
        · have hf := iq h50 hf
          refine n_iinc (v := v2 + (nI 1)) (lv' := [(2, .int (v2 + (nI 1))), (3, .int z31), (0, .ref (aM 0)), (1, .int x1)]) C dX6_best_82 (j := 3) rfl rfl (by decide) rfl rfl ?_
          refine n_goto (t := 15) C dX6_best_85 (by decide) ?_
          exact Wn.sub (lv' := [(0, .ref (aM 0)), (1, .int x1), (2, .int (v2 + (nI 1)))]) [2, 3, 0] rfl (ih (v2 + (nI 1)) oM hf)
        · have hf := ip h50 hf
          refine n_aload_n C dX6_best_53 1 rfl rfl ?_
          refine n_get (N := 12) C dX6_best_54 iw6_best_X6 0 rfl rfl 1 (by decide) (List.mem_of_getElem? (i := 2) rfl) rfl rfl rfl ?_
          refine n_iload_n C dX6_best_57 3 rfl rfl ?_
          refine n_iconst (v := (nI 1)) C dX6_best_58 (by decide) rfl ?_
          refine n_iload_n C dX6_best_59 0 rfl rfl ?_
          refine n_if_ne (t := 68) C dX6_best_60 (by decide) rfl (fun h60 => ?_) (fun h60 => ?_)
          · have hf := iq h60 hf
            refine n_iconst (v := (nI 0)) C dX6_best_68 (by decide) rfl ?_
            exact Wn.sub (lv' := [(0, .ref (aM 0)), (1, .int x1), (2, .int v2), (3, .int z31)]) [1, 2, 3, 0] rfl (t6_best_b69 C n x1 ih hk88 v2 z31 v2 (nI 1) (nI 0) oM hf)
          · have hf := ip h60 hf
            refine n_bipush (v := (nI 99)) C dX6_best_63 (by decide) rfl ?_
            refine n_goto (t := 69) C dX6_best_65 (by decide) ?_
            exact Wn.sub (lv' := [(0, .ref (aM 0)), (1, .int x1), (2, .int v2), (3, .int z31)]) [1, 2, 3, 0] rfl (t6_best_b69 C n x1 ih hk88 v2 z31 v2 (nI 1) (nI 99) oM hf)
set_option maxHeartbeats 4000000 in
set_option maxRecDepth 100000 in
theorem c6_best (l : Launch) (D : va_G) (cyI cyO cyJ : ClassId) (aM : Nat → Nat) (n : Nat) (oM : OB) (x1 : Int32) (z : Int32 × (OB)) (hf : f6_best n oM x1 = some z) : Ct l D (tyG cyI cyO cyJ) yX6_best wsX6_best rm6_best 0 0 [.ref (aM 0), .int x1] (bX6 cyI aM oM) (bX6 cyI aM z.2) (some (.int z.1)) := by
  refine Ct.of (cc := cX6_best) (nL := 4) (ret := (some .int)) (lv := [(0, .ref (aM 0)), (1, .int x1)]) (by decide +kernel) rfl rfl (Nat.le_of_ble_eq_true rfl) ?_
  intro p e s m args below meth c A C
  have C : Cx p s m args meth c D (tyG cyI cyO cyJ) A RX6 cX6_best 4 (some .int) wsX6_best := C
  unfold f6_best at hf
  refine n_aload_n C dX6_best_0 0 rfl rfl ?_
  refine n_get (N := 12) C dX6_best_1 iw6_best_X6 0 rfl rfl 0 (by decide) (List.mem_of_getElem? (i := 1) rfl) rfl rfl rfl ?_
  refine n_iconst (v := (nI 0)) C dX6_best_4 (by decide) rfl ?_
  refine n_aload_n C dX6_best_5 0 rfl rfl ?_
  refine n_get (N := 12) C dX6_best_6 iw6_best_X6 0 rfl rfl 1 (by decide) (List.mem_of_getElem? (i := 2) rfl) rfl rfl rfl ?_
  refine n_iconst (v := (nI 0)) C dX6_best_9 (by decide) rfl ?_
  obtain ⟨z10, h10, hf⟩ := bi hf
  refine n_callS (As := [.ref (aM 1), .int (nI 0), .ref (aM 2), .int (nI 0)]) (rest := []) (w2 := bX6 cyI aM (gsa oM 1 z10)) C dX6_best_10 (c6_copies l D cyI cyO cyJ (aM 1) (aM 2) n 270 (oM.2 0) 270 (oM.2 1) (nI 0) (nI 0) z10 h10) (va_cwS 4 C.ts gX6_best_X6_copies rfl rfl rfl (by decide +kernel) ⟨Nat.le_of_ble_eq_true rfl, Nat.le_of_ble_eq_true rfl⟩) rfl (Frm.skipc (Frm.takec (Frm.takec Frm.none))) rfl (Nat.le_of_ble_eq_true rfl) ⟨Nat.le_of_ble_eq_true rfl, Nat.le_of_ble_eq_true rfl⟩ rfl ?_
  refine n_iconst (v := (nI 0)) C dX6_best_13 (by decide) rfl ?_
  refine n_istore_n (lv' := [(2, .int (nI 0)), (0, .ref (aM 0)), (1, .int x1)]) C dX6_best_14 (by decide) rfl rfl ?_
  exact Wn.sub (lv' := [(0, .ref (aM 0)), (1, .int x1), (2, .int (nI 0))]) [1, 2, 0] rfl (t6_best_b15 C n x1 (fun oM hf => Wn.sub (lv' := [(0, .ref (aM 0)), (1, .int x1)]) [0, 1] rfl (t6_best_b88 C n x1 oM hf)) n (nI 0) (gsa oM 1 z10) hf)
-- X6 bestPlace 
theorem iw6_bestPlace_X6 : ∀ w ∈ u_ws RX6 TX6 12, w ∈ wsX6_bestPlace := by decide +kernel
abbrev rm6_bestPlace : Room := { frames := 7, cells := 0, slots := 0, locals := 165 }
def f6_bestPlace (n : Nat) (oM : OB) (x1 : Int32) : Option (Int32 × (OB)) :=
  (some (gsi oM 6 (nI 0))).bind fun oM_2 => (f6_isTeam n oM_2 x1).bind fun z7 => (if z7 = (0 : Int32) then (f6_fails n oM_2 (nI 1)).bind fun z23 => some (z23.1, z23.2) else (f6_best n oM_2 x1).bind fun z15 => some (z15.1, z15.2))
set_option maxHeartbeats 4000000 in
set_option maxRecDepth 100000 in
theorem c6_bestPlace (l : Launch) (D : va_G) (cyI cyO cyJ : ClassId) (aM : Nat → Nat) (n : Nat) (oM : OB) (x1 : Int32) (z : Int32 × (OB)) (hf : f6_bestPlace n oM x1 = some z) : Ct l D (tyG cyI cyO cyJ) yX6_bestPlace wsX6_bestPlace rm6_bestPlace 0 0 [.ref (aM 0), .int x1] (bX6 cyI aM oM) (bX6 cyI aM z.2) (some (.int z.1)) := by
  refine Ct.of (cc := cX6_bestPlace) (nL := 2) (ret := (some .int)) (lv := [(0, .ref (aM 0)), (1, .int x1)]) (by decide +kernel) rfl rfl (Nat.le_of_ble_eq_true rfl) ?_
  intro p e s m args below meth c A C
  have C : Cx p s m args meth c D (tyG cyI cyO cyJ) A RX6 cX6_bestPlace 2 (some .int) wsX6_bestPlace := C
  unfold f6_bestPlace at hf
  refine n_aload_n C dX6_bestPlace_0 0 rfl rfl ?_
  refine n_iconst (v := (nI 0)) C dX6_bestPlace_1 (by decide) rfl ?_
  obtain ⟨oM_2, e2, hf⟩ := bi hf
  replace e2 := Option.some.inj e2
  refine n_put (w2 := bX6 cyI aM oM_2) (N := 12) (ty := .int) C dX6_bestPlace_2 iw6_bestPlace_X6 tyX6_ok nmX6 0 rfl rfl 6 (by decide) (List.mem_of_getElem? (i := 1) rfl) rfl rfl (by decide +kernel) rfl rfl (Nat.le_of_ble_eq_true rfl) (by subst e2; rfl) rfl ?_
  refine n_aload_n C dX6_bestPlace_5 0 rfl rfl ?_
  refine n_iload_n C dX6_bestPlace_6 1 rfl rfl ?_
  obtain ⟨z7, h7, hf⟩ := bi hf
  refine n_callV (As := [.int x1]) (rest := []) (w2 := bX6 cyI aM oM_2) C dX6_bestPlace_7 (c6_isTeam l D cyI cyO cyJ aM n oM_2 x1 z7 h7) (cwV 1 C.ts gX6_bestPlace_X6_isTeam rfl rfl rfl (by decide +kernel) ⟨Nat.le_of_ble_eq_true rfl, Nat.le_of_ble_eq_true rfl⟩) rfl (q0 := 0) (ci := 6) rfl rfl Frm.self rfl (Nat.le_of_ble_eq_true rfl) ⟨Nat.le_of_ble_eq_true rfl, Nat.le_of_ble_eq_true rfl⟩ rfl ?_
  refine n_if_eq (t := 21) C dX6_bestPlace_10 (by decide) rfl (fun h10 => ?_) (fun h10 => ?_)
  · have hf := ip h10 hf
    refine n_aload_n C dX6_bestPlace_21 0 rfl rfl ?_
    refine n_iconst (v := (nI 1)) C dX6_bestPlace_22 (by decide) rfl ?_
    obtain ⟨z23, h23, hf⟩ := bi hf
    refine n_callV (As := [.int (nI 1)]) (rest := []) (w2 := bX6 cyI aM z23.2) C dX6_bestPlace_23 (c6_fails l D cyI cyO cyJ aM n oM_2 (nI 1) z23 h23) (cwV 1 C.ts gX6_bestPlace_X6_fails rfl rfl rfl (by decide +kernel) ⟨Nat.le_of_ble_eq_true rfl, Nat.le_of_ble_eq_true rfl⟩) rfl (q0 := 0) (ci := 6) rfl rfl Frm.self rfl (Nat.le_of_ble_eq_true rfl) ⟨Nat.le_of_ble_eq_true rfl, Nat.le_of_ble_eq_true rfl⟩ rfl ?_
    obtain rfl := Option.some.inj hf
    exact n_iret C dX6_bestPlace_26
  · have hf := iq h10 hf
    refine n_aload_n C dX6_bestPlace_13 0 rfl rfl ?_
    refine n_iload_n C dX6_bestPlace_14 1 rfl rfl ?_
    obtain ⟨z15, h15, hf⟩ := bi hf
    refine n_callV (As := [.int x1]) (rest := []) (w2 := bX6 cyI aM z15.2) C dX6_bestPlace_15 (c6_best l D cyI cyO cyJ aM n oM_2 x1 z15 h15) (cwV 1 C.ts gX6_bestPlace_X6_best rfl rfl rfl (by decide +kernel) ⟨Nat.le_of_ble_eq_true rfl, Nat.le_of_ble_eq_true rfl⟩) rfl (q0 := 0) (ci := 6) rfl rfl Frm.self rfl (Nat.le_of_ble_eq_true rfl) ⟨Nat.le_of_ble_eq_true rfl, Nat.le_of_ble_eq_true rfl⟩ rfl ?_
    refine n_goto (t := 26) C dX6_bestPlace_18 (by decide) ?_
    obtain rfl := Option.some.inj hf
    exact n_iret C dX6_bestPlace_26
-- X6 sure 
theorem iw6_sure_X6 : ∀ w ∈ u_ws RX6 TX6 12, w ∈ wsX6_sure := by decide +kernel
abbrev rm6_sure : Room := { frames := 4, cells := 0, slots := 0, locals := 94 }
def f6_sure_b72 (n : Nat) (oM : OB) (x1 : Int32) (v2 : Int32) : Option (Int32) :=
  (if v2 = (0 : Int32) then some (nI 0) else some (nI 1))
def f6_sure_b4 (n : Nat) (oM : OB) (x1 : Int32) (k72 : Int32 → Option (Int32)) : Nat → Int32 → Int32 → Option (Int32)
  | 0, _, _ => none
  | k + 1, v2, v3 =>
    (ald 270 (oM.2 0) (nI 4)).bind fun x10 => (if x10 ≤ v3 then k72 v2 else (if v2 = (0 : Int32) then (f6_sure_b4 n oM x1 k72 k) (nI 0) (v3 + (nI 1)) else (if v3 = x1 then (f6_sure_b4 n oM x1 k72 k) (nI 1) (v3 + (nI 1)) else (f6_points n (oM.2 0) v3).bind fun z28 => (ald 270 (oM.2 0) (nI 0)).bind fun x36 => (f6_sums n (oM.2 0) v3 (nI 8)).bind fun z44 => (f6_points n (oM.2 0) x1).bind fun z54 => (if z54 ≤ (z28 + (x36 * z44)) then (f6_sure_b4 n oM x1 k72 k) (nI 0) (v3 + (nI 1)) else (f6_sure_b4 n oM x1 k72 k) (nI 1) (v3 + (nI 1))))))
def f6_sure (n : Nat) (oM : OB) (x1 : Int32) : Option (Int32) :=
  f6_sure_b4 n oM x1 (fun v2 => f6_sure_b72 n oM x1 v2) n (nI 1) (nI 0)
set_option maxHeartbeats 4000000 in
set_option maxRecDepth 100000 in
theorem t6_sure_b72 {l : Launch} {p : Program} {e : Env} {s : State} {m : MethodId} {args : Array Value} {below : List Frame} {meth : Method} {c : Code} {D : va_G} {A : Nat → Prop} {cyI cyO cyJ : ClassId} {aM : Nat → Nat} (C : Cx p s m args meth c D (tyG cyI cyO cyJ) A RX6 cX6_sure 4 (some .int) wsX6_sure) {z : Int32} (n : Nat) (oM : OB) (x1 : Int32) (v2 : Int32) (hf : f6_sure_b72 n oM x1 v2 = some z) : Wn p l e rm6_sure s m args below meth c D A 4 0 0 (MQ below (Qr D (tyG cyI cyO cyJ) (bX6 cyI aM oM) A (some (.int z))) args s 0 0 A) (bX6 cyI aM oM) 72 [(2, .int v2)] [] := by
  unfold f6_sure_b72 at hf
  refine n_iload_n C dX6_sure_72 0 rfl rfl ?_
  refine n_if_eq (t := 80) C dX6_sure_73 (by decide) rfl (fun h73 => ?_) (fun h73 => ?_)
  · have hf := ip h73 hf
    refine n_iconst (v := (nI 0)) C dX6_sure_80 (by decide) rfl ?_
    obtain rfl := Option.some.inj hf
    exact n_iret C dX6_sure_81
  · have hf := iq h73 hf
    refine n_iconst (v := (nI 1)) C dX6_sure_76 (by decide) rfl ?_
    refine n_goto (t := 81) C dX6_sure_77 (by decide) ?_
    obtain rfl := Option.some.inj hf
    exact n_iret C dX6_sure_81
set_option maxHeartbeats 4000000 in
set_option maxRecDepth 100000 in
theorem t6_sure_b4 {l : Launch} {p : Program} {e : Env} {s : State} {m : MethodId} {args : Array Value} {below : List Frame} {meth : Method} {c : Code} {D : va_G} {A : Nat → Prop} {cyI cyO cyJ : ClassId} {aM : Nat → Nat} (C : Cx p s m args meth c D (tyG cyI cyO cyJ) A RX6 cX6_sure 4 (some .int) wsX6_sure) {z : Int32} (n : Nat) (oM : OB) (x1 : Int32) {k72 : Int32 → Option (Int32)} (hk72 : ∀ (v2 : Int32), k72 v2 = some z → Wn p l e rm6_sure s m args below meth c D A 4 0 0 (MQ below (Qr D (tyG cyI cyO cyJ) (bX6 cyI aM oM) A (some (.int z))) args s 0 0 A) (bX6 cyI aM oM) 72 [(2, .int v2)] []) : ∀ (k : Nat) (v2 : Int32) (v3 : Int32), f6_sure_b4 n oM x1 k72 k v2 v3 = some z → Wn p l e rm6_sure s m args below meth c D A 4 0 0 (MQ below (Qr D (tyG cyI cyO cyJ) (bX6 cyI aM oM) A (some (.int z))) args s 0 0 A) (bX6 cyI aM oM) 4 [(0, .ref (aM 0)), (1, .int x1), (2, .int v2), (3, .int v3)] [] := by
  intro k
  induction k with
  | zero => intro  v2 v3 hf; cases hf
  | succ k ih =>
    intro  v2 v3 hf
    unfold f6_sure_b4 at hf
    refine n_iload_n C dX6_sure_4 3 rfl rfl ?_
    refine n_aload_n C dX6_sure_5 0 rfl rfl ?_
    refine n_get (N := 12) C dX6_sure_6 iw6_sure_X6 0 rfl rfl 0 (by decide) (List.mem_of_getElem? (i := 1) rfl) rfl rfl rfl ?_
    refine n_iconst (v := (nI 4)) C dX6_sure_9 (by decide) rfl ?_
    obtain ⟨x10, h10, hf⟩ := bi hf
    obtain ⟨h10, e10⟩ := ald_some h10
    refine n_iald C dX6_sure_10 1 0 rfl rfl h10 rfl ?_
    rw [← e10]
    refine n_icmp_ge (t := 72) C dX6_sure_11 (by decide) rfl (fun h11 => ?_) (fun h11 => ?_)
    · have hf := ip h11 hf
      exact Wn.sub (lv' := [(2, .int v2)]) [2] rfl (hk72 v2 hf)
    · have hf := iq h11 hf
      refine n_iload_n C dX6_sure_14 2 rfl rfl ?_
      refine n_if_eq (t := 64) C dX6_sure_15 (by decide) rfl (fun h15 => ?_) (fun h15 => ?_)
      · have hf := ip h15 hf
        refine n_iconst (v := (nI 0)) C dX6_sure_64 (by decide) rfl ?_
        refine n_istore_n (lv' := [(2, .int (nI 0)), (0, .ref (aM 0)), (1, .int x1), (3, .int v3)]) C dX6_sure_65 (by decide) rfl rfl ?_
        refine n_iinc (v := v3 + (nI 1)) (lv' := [(3, .int (v3 + (nI 1))), (2, .int (nI 0)), (0, .ref (aM 0)), (1, .int x1)]) C dX6_sure_66 (j := 3) rfl rfl (by decide) rfl rfl ?_
        refine n_goto (t := 4) C dX6_sure_69 (by decide) ?_
        exact Wn.sub (lv' := [(0, .ref (aM 0)), (1, .int x1), (2, .int (nI 0)), (3, .int (v3 + (nI 1)))]) [2, 3, 1, 0] rfl (ih (nI 0) (v3 + (nI 1)) hf)
      · have hf := iq h15 hf
        refine n_iload_n C dX6_sure_18 3 rfl rfl ?_
        refine n_iload_n C dX6_sure_19 1 rfl rfl ?_
        refine n_icmp_eq (t := 60) C dX6_sure_20 (by decide) rfl (fun h20 => ?_) (fun h20 => ?_)
        · have hf := ip h20 hf
          refine n_iconst (v := (nI 1)) C dX6_sure_60 (by decide) rfl ?_
          refine n_goto (t := 65) C dX6_sure_61 (by decide) ?_
          refine n_istore_n (lv' := [(2, .int (nI 1)), (0, .ref (aM 0)), (1, .int x1), (3, .int v3)]) C dX6_sure_65 (by decide) rfl rfl ?_
          refine n_iinc (v := v3 + (nI 1)) (lv' := [(3, .int (v3 + (nI 1))), (2, .int (nI 1)), (0, .ref (aM 0)), (1, .int x1)]) C dX6_sure_66 (j := 3) rfl rfl (by decide) rfl rfl ?_
          refine n_goto (t := 4) C dX6_sure_69 (by decide) ?_
          exact Wn.sub (lv' := [(0, .ref (aM 0)), (1, .int x1), (2, .int (nI 1)), (3, .int (v3 + (nI 1)))]) [2, 3, 1, 0] rfl (ih (nI 1) (v3 + (nI 1)) hf)
        · have hf := iq h20 hf
          refine n_aload_n C dX6_sure_23 0 rfl rfl ?_
          refine n_get (N := 12) C dX6_sure_24 iw6_sure_X6 0 rfl rfl 0 (by decide) (List.mem_of_getElem? (i := 1) rfl) rfl rfl rfl ?_
          refine n_iload_n C dX6_sure_27 3 rfl rfl ?_
          obtain ⟨z28, h28, hf⟩ := bi hf
          refine n_callS (As := [.ref (aM 1), .int v3]) (rest := []) (w2 := bX6 cyI aM oM) C dX6_sure_28 (c6_points l D cyI cyO cyJ (aM 1) n (oM.2 0) v3 z28 h28) (va_cwS 2 C.ts gX6_sure_X6_points rfl rfl rfl (by decide +kernel) ⟨Nat.le_of_ble_eq_true rfl, Nat.le_of_ble_eq_true rfl⟩) rfl (Frm.skipc (Frm.takec Frm.none)) rfl (Nat.le_of_ble_eq_true rfl) ⟨Nat.le_of_ble_eq_true rfl, Nat.le_of_ble_eq_true rfl⟩ rfl ?_
          refine n_aload_n C dX6_sure_31 0 rfl rfl ?_
          refine n_get (N := 12) C dX6_sure_32 iw6_sure_X6 0 rfl rfl 0 (by decide) (List.mem_of_getElem? (i := 1) rfl) rfl rfl rfl ?_
          refine n_iconst (v := (nI 0)) C dX6_sure_35 (by decide) rfl ?_
          obtain ⟨x36, h36, hf⟩ := bi hf
          obtain ⟨h36, e36⟩ := ald_some h36
          refine n_iald C dX6_sure_36 1 0 rfl rfl h36 rfl ?_
          rw [← e36]
          refine n_aload_n C dX6_sure_37 0 rfl rfl ?_
          refine n_get (N := 12) C dX6_sure_38 iw6_sure_X6 0 rfl rfl 0 (by decide) (List.mem_of_getElem? (i := 1) rfl) rfl rfl rfl ?_
          refine n_iload_n C dX6_sure_41 3 rfl rfl ?_
          refine n_bipush (v := (nI 8)) C dX6_sure_42 (by decide) rfl ?_
          obtain ⟨z44, h44, hf⟩ := bi hf
          refine n_callS (As := [.ref (aM 1), .int v3, .int (nI 8)]) (rest := [.int x36, .int z28]) (w2 := bX6 cyI aM oM) C dX6_sure_44 (c6_sums l D cyI cyO cyJ (aM 1) n (oM.2 0) v3 (nI 8) z44 h44) (va_cwS 3 C.ts gX6_sure_X6_sums rfl rfl rfl (by decide +kernel) ⟨Nat.le_of_ble_eq_true rfl, Nat.le_of_ble_eq_true rfl⟩) rfl (Frm.skipc (Frm.takec Frm.none)) rfl (Nat.le_of_ble_eq_true rfl) ⟨Nat.le_of_ble_eq_true rfl, Nat.le_of_ble_eq_true rfl⟩ rfl ?_
          refine n_imul C dX6_sure_47 rfl ?_
          refine n_iadd C dX6_sure_48 rfl ?_
          refine n_aload_n C dX6_sure_49 0 rfl rfl ?_
          refine n_get (N := 12) C dX6_sure_50 iw6_sure_X6 0 rfl rfl 0 (by decide) (List.mem_of_getElem? (i := 1) rfl) rfl rfl rfl ?_
          refine n_iload_n C dX6_sure_53 1 rfl rfl ?_
          obtain ⟨z54, h54, hf⟩ := bi hf
          refine n_callS (As := [.ref (aM 1), .int x1]) (rest := [.int (z28 + (x36 * z44))]) (w2 := bX6 cyI aM oM) C dX6_sure_54 (c6_points l D cyI cyO cyJ (aM 1) n (oM.2 0) x1 z54 h54) (va_cwS 2 C.ts gX6_sure_X6_points rfl rfl rfl (by decide +kernel) ⟨Nat.le_of_ble_eq_true rfl, Nat.le_of_ble_eq_true rfl⟩) rfl (Frm.skipc (Frm.takec Frm.none)) rfl (Nat.le_of_ble_eq_true rfl) ⟨Nat.le_of_ble_eq_true rfl, Nat.le_of_ble_eq_true rfl⟩ rfl ?_
          refine n_icmp_ge (t := 64) C dX6_sure_57 (by decide) rfl (fun h57 => ?_) (fun h57 => ?_)
          · have hf := ip h57 hf
            refine n_iconst (v := (nI 0)) C dX6_sure_64 (by decide) rfl ?_
            refine n_istore_n (lv' := [(2, .int (nI 0)), (0, .ref (aM 0)), (1, .int x1), (3, .int v3)]) C dX6_sure_65 (by decide) rfl rfl ?_
            refine n_iinc (v := v3 + (nI 1)) (lv' := [(3, .int (v3 + (nI 1))), (2, .int (nI 0)), (0, .ref (aM 0)), (1, .int x1)]) C dX6_sure_66 (j := 3) rfl rfl (by decide) rfl rfl ?_
            refine n_goto (t := 4) C dX6_sure_69 (by decide) ?_
            exact Wn.sub (lv' := [(0, .ref (aM 0)), (1, .int x1), (2, .int (nI 0)), (3, .int (v3 + (nI 1)))]) [2, 3, 1, 0] rfl (ih (nI 0) (v3 + (nI 1)) hf)
          · have hf := iq h57 hf
            refine n_iconst (v := (nI 1)) C dX6_sure_60 (by decide) rfl ?_
            refine n_goto (t := 65) C dX6_sure_61 (by decide) ?_
            refine n_istore_n (lv' := [(2, .int (nI 1)), (0, .ref (aM 0)), (1, .int x1), (3, .int v3)]) C dX6_sure_65 (by decide) rfl rfl ?_
            refine n_iinc (v := v3 + (nI 1)) (lv' := [(3, .int (v3 + (nI 1))), (2, .int (nI 1)), (0, .ref (aM 0)), (1, .int x1)]) C dX6_sure_66 (j := 3) rfl rfl (by decide) rfl rfl ?_
            refine n_goto (t := 4) C dX6_sure_69 (by decide) ?_
            exact Wn.sub (lv' := [(0, .ref (aM 0)), (1, .int x1), (2, .int (nI 1)), (3, .int (v3 + (nI 1)))]) [2, 3, 1, 0] rfl (ih (nI 1) (v3 + (nI 1)) hf)
set_option maxHeartbeats 4000000 in
set_option maxRecDepth 100000 in
theorem c6_sure (l : Launch) (D : va_G) (cyI cyO cyJ : ClassId) (aM : Nat → Nat) (n : Nat) (oM : OB) (x1 : Int32) (z : Int32) (hf : f6_sure n oM x1 = some z) : Ct l D (tyG cyI cyO cyJ) yX6_sure wsX6_sure rm6_sure 0 0 [.ref (aM 0), .int x1] (bX6 cyI aM oM) (bX6 cyI aM oM) (some (.int z)) := by
  refine Ct.of (cc := cX6_sure) (nL := 4) (ret := (some .int)) (lv := [(0, .ref (aM 0)), (1, .int x1)]) (by decide +kernel) rfl rfl (Nat.le_of_ble_eq_true rfl) ?_
  intro p e s m args below meth c A C
  have C : Cx p s m args meth c D (tyG cyI cyO cyJ) A RX6 cX6_sure 4 (some .int) wsX6_sure := C
  unfold f6_sure at hf
  refine n_iconst (v := (nI 1)) C dX6_sure_0 (by decide) rfl ?_
  refine n_istore_n (lv' := [(2, .int (nI 1)), (0, .ref (aM 0)), (1, .int x1)]) C dX6_sure_1 (by decide) rfl rfl ?_
  refine n_iconst (v := (nI 0)) C dX6_sure_2 (by decide) rfl ?_
  refine n_istore_n (lv' := [(3, .int (nI 0)), (2, .int (nI 1)), (0, .ref (aM 0)), (1, .int x1)]) C dX6_sure_3 (by decide) rfl rfl ?_
  exact Wn.sub (lv' := [(0, .ref (aM 0)), (1, .int x1), (2, .int (nI 1)), (3, .int (nI 0))]) [2, 3, 1, 0] rfl (t6_sure_b4 C n oM x1 (fun v2 hf => Wn.sub (lv' := [(2, .int v2)]) [0] rfl (t6_sure_b72 C n oM x1 v2 hf)) n (nI 1) (nI 0) hf)
-- X6 isSure 
theorem iw6_isSure_X6 : ∀ w ∈ u_ws RX6 TX6 12, w ∈ wsX6_isSure := by decide +kernel
abbrev rm6_isSure : Room := { frames := 5, cells := 0, slots := 0, locals := 117 }
def f6_isSure (n : Nat) (oM : OB) (x1 : Int32) : Option (Int32 × (OB)) :=
  (some (gsi oM 6 (nI 0))).bind fun oM_2 => (f6_isTeam n oM_2 x1).bind fun z7 => (if z7 = (0 : Int32) then (f6_fails n oM_2 (nI 1)).bind fun z23 => some (z23.1, z23.2) else (f6_sure n oM_2 x1).bind fun z15 => some (z15, oM_2))
set_option maxHeartbeats 4000000 in
set_option maxRecDepth 100000 in
theorem c6_isSure (l : Launch) (D : va_G) (cyI cyO cyJ : ClassId) (aM : Nat → Nat) (n : Nat) (oM : OB) (x1 : Int32) (z : Int32 × (OB)) (hf : f6_isSure n oM x1 = some z) : Ct l D (tyG cyI cyO cyJ) yX6_isSure wsX6_isSure rm6_isSure 0 0 [.ref (aM 0), .int x1] (bX6 cyI aM oM) (bX6 cyI aM z.2) (some (.int z.1)) := by
  refine Ct.of (cc := cX6_isSure) (nL := 2) (ret := (some .int)) (lv := [(0, .ref (aM 0)), (1, .int x1)]) (by decide +kernel) rfl rfl (Nat.le_of_ble_eq_true rfl) ?_
  intro p e s m args below meth c A C
  have C : Cx p s m args meth c D (tyG cyI cyO cyJ) A RX6 cX6_isSure 2 (some .int) wsX6_isSure := C
  unfold f6_isSure at hf
  refine n_aload_n C dX6_isSure_0 0 rfl rfl ?_
  refine n_iconst (v := (nI 0)) C dX6_isSure_1 (by decide) rfl ?_
  obtain ⟨oM_2, e2, hf⟩ := bi hf
  replace e2 := Option.some.inj e2
  refine n_put (w2 := bX6 cyI aM oM_2) (N := 12) (ty := .int) C dX6_isSure_2 iw6_isSure_X6 tyX6_ok nmX6 0 rfl rfl 6 (by decide) (List.mem_of_getElem? (i := 1) rfl) rfl rfl (by decide +kernel) rfl rfl (Nat.le_of_ble_eq_true rfl) (by subst e2; rfl) rfl ?_
  refine n_aload_n C dX6_isSure_5 0 rfl rfl ?_
  refine n_iload_n C dX6_isSure_6 1 rfl rfl ?_
  obtain ⟨z7, h7, hf⟩ := bi hf
  refine n_callV (As := [.int x1]) (rest := []) (w2 := bX6 cyI aM oM_2) C dX6_isSure_7 (c6_isTeam l D cyI cyO cyJ aM n oM_2 x1 z7 h7) (cwV 1 C.ts gX6_isSure_X6_isTeam rfl rfl rfl (by decide +kernel) ⟨Nat.le_of_ble_eq_true rfl, Nat.le_of_ble_eq_true rfl⟩) rfl (q0 := 0) (ci := 6) rfl rfl Frm.self rfl (Nat.le_of_ble_eq_true rfl) ⟨Nat.le_of_ble_eq_true rfl, Nat.le_of_ble_eq_true rfl⟩ rfl ?_
  refine n_if_eq (t := 21) C dX6_isSure_10 (by decide) rfl (fun h10 => ?_) (fun h10 => ?_)
  · have hf := ip h10 hf
    refine n_aload_n C dX6_isSure_21 0 rfl rfl ?_
    refine n_iconst (v := (nI 1)) C dX6_isSure_22 (by decide) rfl ?_
    obtain ⟨z23, h23, hf⟩ := bi hf
    refine n_callV (As := [.int (nI 1)]) (rest := []) (w2 := bX6 cyI aM z23.2) C dX6_isSure_23 (c6_fails l D cyI cyO cyJ aM n oM_2 (nI 1) z23 h23) (cwV 1 C.ts gX6_isSure_X6_fails rfl rfl rfl (by decide +kernel) ⟨Nat.le_of_ble_eq_true rfl, Nat.le_of_ble_eq_true rfl⟩) rfl (q0 := 0) (ci := 6) rfl rfl Frm.self rfl (Nat.le_of_ble_eq_true rfl) ⟨Nat.le_of_ble_eq_true rfl, Nat.le_of_ble_eq_true rfl⟩ rfl ?_
    obtain rfl := Option.some.inj hf
    exact n_iret C dX6_isSure_26
  · have hf := iq h10 hf
    refine n_aload_n C dX6_isSure_13 0 rfl rfl ?_
    refine n_iload_n C dX6_isSure_14 1 rfl rfl ?_
    obtain ⟨z15, h15, hf⟩ := bi hf
    refine n_callV (As := [.int x1]) (rest := []) (w2 := bX6 cyI aM oM_2) C dX6_isSure_15 (c6_sure l D cyI cyO cyJ aM n oM_2 x1 z15 h15) (cwV 1 C.ts gX6_isSure_X6_sure rfl rfl rfl (by decide +kernel) ⟨Nat.le_of_ble_eq_true rfl, Nat.le_of_ble_eq_true rfl⟩) rfl (q0 := 0) (ci := 6) rfl rfl Frm.self rfl (Nat.le_of_ble_eq_true rfl) ⟨Nat.le_of_ble_eq_true rfl, Nat.le_of_ble_eq_true rfl⟩ rfl ?_
    refine n_goto (t := 26) C dX6_isSure_18 (by decide) ?_
    obtain rfl := Option.some.inj hf
    exact n_iret C dX6_isSure_26
-- X6 without 
theorem iw6_without_X6 : ∀ w ∈ u_ws RX6 TX6 12, w ∈ wsX6_without := by decide +kernel
abbrev rm6_without : Room := { frames := 5, cells := 0, slots := 0, locals := 121 }
def f6_without (n : Nat) (oM : OB) (x1 : Int32) : Option (Int32 × (OB)) :=
  (f6_copies n 270 (oM.2 0) 270 (oM.2 1) (nI 0) (nI 0)).bind fun z10 => (oast (gsa oM 1 z10) 1 270 ((nI 6) + x1) (nI 127)).bind fun oM_23 => (f6_stages n (oM_23.2 1)).bind fun z28 => some (z28.1, gsa oM_23 1 z28.2)
set_option maxHeartbeats 4000000 in
set_option maxRecDepth 100000 in
theorem c6_without (l : Launch) (D : va_G) (cyI cyO cyJ : ClassId) (aM : Nat → Nat) (n : Nat) (oM : OB) (x1 : Int32) (z : Int32 × (OB)) (hf : f6_without n oM x1 = some z) : Ct l D (tyG cyI cyO cyJ) yX6_without wsX6_without rm6_without 0 0 [.ref (aM 0), .int x1] (bX6 cyI aM oM) (bX6 cyI aM z.2) (some (.int z.1)) := by
  refine Ct.of (cc := cX6_without) (nL := 2) (ret := (some .int)) (lv := [(0, .ref (aM 0)), (1, .int x1)]) (by decide +kernel) rfl rfl (Nat.le_of_ble_eq_true rfl) ?_
  intro p e s m args below meth c A C
  have C : Cx p s m args meth c D (tyG cyI cyO cyJ) A RX6 cX6_without 2 (some .int) wsX6_without := C
  unfold f6_without at hf
  refine n_aload_n C dX6_without_0 0 rfl rfl ?_
  refine n_get (N := 12) C dX6_without_1 iw6_without_X6 0 rfl rfl 0 (by decide) (List.mem_of_getElem? (i := 1) rfl) rfl rfl rfl ?_
  refine n_iconst (v := (nI 0)) C dX6_without_4 (by decide) rfl ?_
  refine n_aload_n C dX6_without_5 0 rfl rfl ?_
  refine n_get (N := 12) C dX6_without_6 iw6_without_X6 0 rfl rfl 1 (by decide) (List.mem_of_getElem? (i := 2) rfl) rfl rfl rfl ?_
  refine n_iconst (v := (nI 0)) C dX6_without_9 (by decide) rfl ?_
  obtain ⟨z10, h10, hf⟩ := bi hf
  refine n_callS (As := [.ref (aM 1), .int (nI 0), .ref (aM 2), .int (nI 0)]) (rest := []) (w2 := bX6 cyI aM (gsa oM 1 z10)) C dX6_without_10 (c6_copies l D cyI cyO cyJ (aM 1) (aM 2) n 270 (oM.2 0) 270 (oM.2 1) (nI 0) (nI 0) z10 h10) (va_cwS 4 C.ts gX6_without_X6_copies rfl rfl rfl (by decide +kernel) ⟨Nat.le_of_ble_eq_true rfl, Nat.le_of_ble_eq_true rfl⟩) rfl (Frm.skipc (Frm.takec (Frm.takec Frm.none))) rfl (Nat.le_of_ble_eq_true rfl) ⟨Nat.le_of_ble_eq_true rfl, Nat.le_of_ble_eq_true rfl⟩ rfl ?_
  refine n_aload_n C dX6_without_13 0 rfl rfl ?_
  refine n_get (N := 12) C dX6_without_14 iw6_without_X6 0 rfl rfl 1 (by decide) (List.mem_of_getElem? (i := 2) rfl) rfl rfl rfl ?_
  refine n_bipush (v := (nI 6)) C dX6_without_17 (by decide) rfl ?_
  refine n_iload_n C dX6_without_19 1 rfl rfl ?_
  refine n_iadd C dX6_without_20 rfl ?_
  refine n_bipush (v := (nI 127)) C dX6_without_21 (by decide) rfl ?_
  obtain ⟨oM_23, h23, hf⟩ := bi hf
  obtain ⟨h23, e23⟩ := oast_some h23
  refine n_iast (w2 := bX6 cyI aM oM_23) C dX6_without_23 2 0 rfl rfl h23 (by subst e23; rfl) rfl ?_
  refine n_aload_n C dX6_without_24 0 rfl rfl ?_
  refine n_get (N := 12) C dX6_without_25 iw6_without_X6 0 rfl rfl 1 (by decide) (List.mem_of_getElem? (i := 2) rfl) rfl rfl rfl ?_
  obtain ⟨z28, h28, hf⟩ := bi hf
  refine n_callS (As := [.ref (aM 2)]) (rest := []) (w2 := bX6 cyI aM (gsa oM_23 1 z28.2)) C dX6_without_28 (c6_stages l D cyI cyO cyJ (aM 2) n (oM_23.2 1) z28 h28) (va_cwS 1 C.ts gX6_without_X6_stages rfl rfl rfl (by decide +kernel) ⟨Nat.le_of_ble_eq_true rfl, Nat.le_of_ble_eq_true rfl⟩) rfl (Frm.skipc (Frm.skipc (Frm.takec Frm.none))) rfl (Nat.le_of_ble_eq_true rfl) ⟨Nat.le_of_ble_eq_true rfl, Nat.le_of_ble_eq_true rfl⟩ rfl ?_
  obtain rfl := Option.some.inj hf
  exact n_iret C dX6_without_31
-- X6 ifMissing 
theorem iw6_ifMissing_X6 : ∀ w ∈ u_ws RX6 TX6 12, w ∈ wsX6_ifMissing := by decide +kernel
abbrev rm6_ifMissing : Room := { frames := 6, cells := 0, slots := 0, locals := 142 }
def f6_ifMissing (n : Nat) (oM : OB) (x1 : Int32) : Option (Int32 × (OB)) :=
  (some (gsi oM 6 (nI 0))).bind fun oM_2 => (f6_in n x1 (nI 0) (nI 11)).bind fun z9 => (if z9 = (0 : Int32) then (f6_fails n oM_2 (nI 1)).bind fun z25 => some (z25.1, z25.2) else (f6_without n oM_2 x1).bind fun z17 => some (z17.1, z17.2))
set_option maxHeartbeats 4000000 in
set_option maxRecDepth 100000 in
theorem c6_ifMissing (l : Launch) (D : va_G) (cyI cyO cyJ : ClassId) (aM : Nat → Nat) (n : Nat) (oM : OB) (x1 : Int32) (z : Int32 × (OB)) (hf : f6_ifMissing n oM x1 = some z) : Ct l D (tyG cyI cyO cyJ) yX6_ifMissing wsX6_ifMissing rm6_ifMissing 0 0 [.ref (aM 0), .int x1] (bX6 cyI aM oM) (bX6 cyI aM z.2) (some (.int z.1)) := by
  refine Ct.of (cc := cX6_ifMissing) (nL := 2) (ret := (some .int)) (lv := [(0, .ref (aM 0)), (1, .int x1)]) (by decide +kernel) rfl rfl (Nat.le_of_ble_eq_true rfl) ?_
  intro p e s m args below meth c A C
  have C : Cx p s m args meth c D (tyG cyI cyO cyJ) A RX6 cX6_ifMissing 2 (some .int) wsX6_ifMissing := C
  unfold f6_ifMissing at hf
  refine n_aload_n C dX6_ifMissing_0 0 rfl rfl ?_
  refine n_iconst (v := (nI 0)) C dX6_ifMissing_1 (by decide) rfl ?_
  obtain ⟨oM_2, e2, hf⟩ := bi hf
  replace e2 := Option.some.inj e2
  refine n_put (w2 := bX6 cyI aM oM_2) (N := 12) (ty := .int) C dX6_ifMissing_2 iw6_ifMissing_X6 tyX6_ok nmX6 0 rfl rfl 6 (by decide) (List.mem_of_getElem? (i := 1) rfl) rfl rfl (by decide +kernel) rfl rfl (Nat.le_of_ble_eq_true rfl) (by subst e2; rfl) rfl ?_
  refine n_iload_n C dX6_ifMissing_5 1 rfl rfl ?_
  refine n_iconst (v := (nI 0)) C dX6_ifMissing_6 (by decide) rfl ?_
  refine n_bipush (v := (nI 11)) C dX6_ifMissing_7 (by decide) rfl ?_
  obtain ⟨z9, h9, hf⟩ := bi hf
  refine n_callS (As := [.int x1, .int (nI 0), .int (nI 11)]) (rest := []) (w2 := bX6 cyI aM oM_2) C dX6_ifMissing_9 (c6_in l D cyI cyO cyJ  n x1 (nI 0) (nI 11) z9 h9) (va_cwS 3 C.ts gX6_ifMissing_X6_in rfl rfl rfl (by decide +kernel) ⟨Nat.le_of_ble_eq_true rfl, Nat.le_of_ble_eq_true rfl⟩) rfl Frm.none rfl (Nat.le_of_ble_eq_true rfl) ⟨Nat.le_of_ble_eq_true rfl, Nat.le_of_ble_eq_true rfl⟩ rfl ?_
  refine n_if_eq (t := 23) C dX6_ifMissing_12 (by decide) rfl (fun h12 => ?_) (fun h12 => ?_)
  · have hf := ip h12 hf
    refine n_aload_n C dX6_ifMissing_23 0 rfl rfl ?_
    refine n_iconst (v := (nI 1)) C dX6_ifMissing_24 (by decide) rfl ?_
    obtain ⟨z25, h25, hf⟩ := bi hf
    refine n_callV (As := [.int (nI 1)]) (rest := []) (w2 := bX6 cyI aM z25.2) C dX6_ifMissing_25 (c6_fails l D cyI cyO cyJ aM n oM_2 (nI 1) z25 h25) (cwV 1 C.ts gX6_ifMissing_X6_fails rfl rfl rfl (by decide +kernel) ⟨Nat.le_of_ble_eq_true rfl, Nat.le_of_ble_eq_true rfl⟩) rfl (q0 := 0) (ci := 6) rfl rfl Frm.self rfl (Nat.le_of_ble_eq_true rfl) ⟨Nat.le_of_ble_eq_true rfl, Nat.le_of_ble_eq_true rfl⟩ rfl ?_
    obtain rfl := Option.some.inj hf
    exact n_iret C dX6_ifMissing_28
  · have hf := iq h12 hf
    refine n_aload_n C dX6_ifMissing_15 0 rfl rfl ?_
    refine n_iload_n C dX6_ifMissing_16 1 rfl rfl ?_
    obtain ⟨z17, h17, hf⟩ := bi hf
    refine n_callV (As := [.int x1]) (rest := []) (w2 := bX6 cyI aM z17.2) C dX6_ifMissing_17 (c6_without l D cyI cyO cyJ aM n oM_2 x1 z17 h17) (cwV 1 C.ts gX6_ifMissing_X6_without rfl rfl rfl (by decide +kernel) ⟨Nat.le_of_ble_eq_true rfl, Nat.le_of_ble_eq_true rfl⟩) rfl (q0 := 0) (ci := 6) rfl rfl Frm.self rfl (Nat.le_of_ble_eq_true rfl) ⟨Nat.le_of_ble_eq_true rfl, Nat.le_of_ble_eq_true rfl⟩ rfl ?_
    refine n_goto (t := 28) C dX6_ifMissing_20 (by decide) ?_
    obtain rfl := Option.some.inj hf
    exact n_iret C dX6_ifMissing_28
-- X6 nearness 
theorem iw6_nearness_X6 : ∀ w ∈ u_ws RX6 TX6 12, w ∈ wsX6_nearness := by decide +kernel
abbrev rm6_nearness : Room := { frames := 7, cells := 0, slots := 0, locals := 165 }
def f6_nearness (n : Nat) (oM : OB) : Option (UInt64) :=
  (f6_teamAt n (oM.2 0) (nI 0)).bind fun z9 => (f6_points n (oM.2 0) z9).bind fun z12 => (ald 270 (oM.2 0) (nI 4)).bind fun x29 => (f6_teamAt n (oM.2 0) (x29 - (nI 1))).bind fun z32 => (f6_points n (oM.2 0) z32).bind fun z35 => (if (0 : Int32) < z12 then (nn (FP.ddiv (FP.i2d z35) (FP.i2d z12))).bind fun _ => some (FP.ddiv (FP.i2d z35) (FP.i2d z12)) else some FP.dconst1)
set_option maxHeartbeats 4000000 in
set_option maxRecDepth 100000 in
theorem c6_nearness (l : Launch) (D : va_G) (cyI cyO cyJ : ClassId) (aM : Nat → Nat) (n : Nat) (oM : OB) (z : UInt64) (hf : f6_nearness n oM = some z) : Ct l D (tyG cyI cyO cyJ) yX6_nearness wsX6_nearness rm6_nearness 0 0 [.ref (aM 0)] (bX6 cyI aM oM) (bX6 cyI aM oM) (some (.double z)) := by
  refine Ct.of (cc := cX6_nearness) (nL := 3) (ret := (some .double)) (lv := [(0, .ref (aM 0))]) (by decide +kernel) rfl rfl (Nat.le_of_ble_eq_true rfl) ?_
  intro p e s m args below meth c A C
  have C : Cx p s m args meth c D (tyG cyI cyO cyJ) A RX6 cX6_nearness 3 (some .double) wsX6_nearness := C
  unfold f6_nearness at hf
  refine n_aload_n C dX6_nearness_0 0 rfl rfl ?_
  refine n_get (N := 12) C dX6_nearness_1 iw6_nearness_X6 0 rfl rfl 0 (by decide) (List.mem_of_getElem? (i := 1) rfl) rfl rfl rfl ?_
  refine n_aload_n C dX6_nearness_4 0 rfl rfl ?_
  refine n_get (N := 12) C dX6_nearness_5 iw6_nearness_X6 0 rfl rfl 0 (by decide) (List.mem_of_getElem? (i := 1) rfl) rfl rfl rfl ?_
  refine n_iconst (v := (nI 0)) C dX6_nearness_8 (by decide) rfl ?_
  obtain ⟨z9, h9, hf⟩ := bi hf
  refine n_callS (As := [.ref (aM 1), .int (nI 0)]) (rest := [.ref (aM 1)]) (w2 := bX6 cyI aM oM) C dX6_nearness_9 (c6_teamAt l D cyI cyO cyJ (aM 1) n (oM.2 0) (nI 0) z9 h9) (va_cwS 2 C.ts gX6_nearness_X6_teamAt rfl rfl rfl (by decide +kernel) ⟨Nat.le_of_ble_eq_true rfl, Nat.le_of_ble_eq_true rfl⟩) rfl (Frm.skipc (Frm.takec Frm.none)) rfl (Nat.le_of_ble_eq_true rfl) ⟨Nat.le_of_ble_eq_true rfl, Nat.le_of_ble_eq_true rfl⟩ rfl ?_
  obtain ⟨z12, h12, hf⟩ := bi hf
  refine n_callS (As := [.ref (aM 1), .int z9]) (rest := []) (w2 := bX6 cyI aM oM) C dX6_nearness_12 (c6_points l D cyI cyO cyJ (aM 1) n (oM.2 0) z9 z12 h12) (va_cwS 2 C.ts gX6_nearness_X6_points rfl rfl rfl (by decide +kernel) ⟨Nat.le_of_ble_eq_true rfl, Nat.le_of_ble_eq_true rfl⟩) rfl (Frm.skipc (Frm.takec Frm.none)) rfl (Nat.le_of_ble_eq_true rfl) ⟨Nat.le_of_ble_eq_true rfl, Nat.le_of_ble_eq_true rfl⟩ rfl ?_
  refine n_istore_n (lv' := [(1, .int z12), (0, .ref (aM 0))]) C dX6_nearness_15 (by decide) rfl rfl ?_
  refine n_aload_n C dX6_nearness_16 1 rfl rfl ?_
  refine n_get (N := 12) C dX6_nearness_17 iw6_nearness_X6 0 rfl rfl 0 (by decide) (List.mem_of_getElem? (i := 1) rfl) rfl rfl rfl ?_
  refine n_aload_n C dX6_nearness_20 1 rfl rfl ?_
  refine n_get (N := 12) C dX6_nearness_21 iw6_nearness_X6 0 rfl rfl 0 (by decide) (List.mem_of_getElem? (i := 1) rfl) rfl rfl rfl ?_
  refine n_aload_n C dX6_nearness_24 1 rfl rfl ?_
  refine n_get (N := 12) C dX6_nearness_25 iw6_nearness_X6 0 rfl rfl 0 (by decide) (List.mem_of_getElem? (i := 1) rfl) rfl rfl rfl ?_
  refine n_iconst (v := (nI 4)) C dX6_nearness_28 (by decide) rfl ?_
  obtain ⟨x29, h29, hf⟩ := bi hf
  obtain ⟨h29, e29⟩ := ald_some h29
  refine n_iald C dX6_nearness_29 1 0 rfl rfl h29 rfl ?_
  rw [← e29]
  refine n_iconst (v := (nI 1)) C dX6_nearness_30 (by decide) rfl ?_
  refine n_isub C dX6_nearness_31 rfl ?_
  obtain ⟨z32, h32, hf⟩ := bi hf
  refine n_callS (As := [.ref (aM 1), .int (x29 - (nI 1))]) (rest := [.ref (aM 1)]) (w2 := bX6 cyI aM oM) C dX6_nearness_32 (c6_teamAt l D cyI cyO cyJ (aM 1) n (oM.2 0) (x29 - (nI 1)) z32 h32) (va_cwS 2 C.ts gX6_nearness_X6_teamAt rfl rfl rfl (by decide +kernel) ⟨Nat.le_of_ble_eq_true rfl, Nat.le_of_ble_eq_true rfl⟩) rfl (Frm.skipc (Frm.takec Frm.none)) rfl (Nat.le_of_ble_eq_true rfl) ⟨Nat.le_of_ble_eq_true rfl, Nat.le_of_ble_eq_true rfl⟩ rfl ?_
  obtain ⟨z35, h35, hf⟩ := bi hf
  refine n_callS (As := [.ref (aM 1), .int z32]) (rest := []) (w2 := bX6 cyI aM oM) C dX6_nearness_35 (c6_points l D cyI cyO cyJ (aM 1) n (oM.2 0) z32 z35 h35) (va_cwS 2 C.ts gX6_nearness_X6_points rfl rfl rfl (by decide +kernel) ⟨Nat.le_of_ble_eq_true rfl, Nat.le_of_ble_eq_true rfl⟩) rfl (Frm.skipc (Frm.takec Frm.none)) rfl (Nat.le_of_ble_eq_true rfl) ⟨Nat.le_of_ble_eq_true rfl, Nat.le_of_ble_eq_true rfl⟩ rfl ?_
  refine n_istore_n (lv' := [(2, .int z35), (1, .int z12), (0, .ref (aM 0))]) C dX6_nearness_38 (by decide) rfl rfl ?_
  refine n_iload_n C dX6_nearness_39 1 rfl rfl ?_
  refine n_if_gt (t := 47) C dX6_nearness_40 (by decide) rfl (fun h40 => ?_) (fun h40 => ?_)
  · have hf := ip h40 hf
    refine n_iload_n C dX6_nearness_47 0 rfl rfl ?_
    refine n_i2d C dX6_nearness_48 rfl ?_
    refine n_iload_n C dX6_nearness_49 1 rfl rfl ?_
    refine n_i2d C dX6_nearness_50 rfl ?_
    obtain ⟨u51, h51, hf⟩ := bi hf
    refine n_ddiv C dX6_nearness_51 (nn_some h51).1 rfl ?_
    obtain rfl := Option.some.inj hf
    exact n_dret C dX6_nearness_52
  · have hf := iq h40 hf
    refine n_dconst1 C dX6_nearness_43 rfl ?_
    refine n_goto (t := 52) C dX6_nearness_44 (by decide) ?_
    obtain rfl := Option.some.inj hf
    exact n_dret C dX6_nearness_52
-- X6 closeness 
theorem iw6_closeness_X6 : ∀ w ∈ u_ws RX6 TX6 12, w ∈ wsX6_closeness := by decide +kernel
abbrev rm6_closeness : Room := { frames := 8, cells := 0, slots := 0, locals := 187 }
def f6_closeness (n : Nat) (oM : OB) : Option (UInt64 × (OB)) :=
  (some (gsi oM 6 (nI 0))).bind fun oM_2 => (f6_nearness n oM_2).bind fun z6 => some (z6, oM_2)
set_option maxHeartbeats 4000000 in
set_option maxRecDepth 100000 in
theorem c6_closeness (l : Launch) (D : va_G) (cyI cyO cyJ : ClassId) (aM : Nat → Nat) (n : Nat) (oM : OB) (z : UInt64 × (OB)) (hf : f6_closeness n oM = some z) : Ct l D (tyG cyI cyO cyJ) yX6_closeness wsX6_closeness rm6_closeness 0 0 [.ref (aM 0)] (bX6 cyI aM oM) (bX6 cyI aM z.2) (some (.double z.1)) := by
  refine Ct.of (cc := cX6_closeness) (nL := 1) (ret := (some .double)) (lv := [(0, .ref (aM 0))]) (by decide +kernel) rfl rfl (Nat.le_of_ble_eq_true rfl) ?_
  intro p e s m args below meth c A C
  have C : Cx p s m args meth c D (tyG cyI cyO cyJ) A RX6 cX6_closeness 1 (some .double) wsX6_closeness := C
  unfold f6_closeness at hf
  refine n_aload_n C dX6_closeness_0 0 rfl rfl ?_
  refine n_iconst (v := (nI 0)) C dX6_closeness_1 (by decide) rfl ?_
  obtain ⟨oM_2, e2, hf⟩ := bi hf
  replace e2 := Option.some.inj e2
  refine n_put (w2 := bX6 cyI aM oM_2) (N := 12) (ty := .int) C dX6_closeness_2 iw6_closeness_X6 tyX6_ok nmX6 0 rfl rfl 6 (by decide) (List.mem_of_getElem? (i := 1) rfl) rfl rfl (by decide +kernel) rfl rfl (Nat.le_of_ble_eq_true rfl) (by subst e2; rfl) rfl ?_
  refine n_aload_n C dX6_closeness_5 0 rfl rfl ?_
  obtain ⟨z6, h6, hf⟩ := bi hf
  refine n_callV (As := []) (rest := []) (w2 := bX6 cyI aM oM_2) C dX6_closeness_6 (c6_nearness l D cyI cyO cyJ aM n oM_2 z6 h6) (cwV 0 C.ts gX6_closeness_X6_nearness rfl rfl rfl (by decide +kernel) ⟨Nat.le_of_ble_eq_true rfl, Nat.le_of_ble_eq_true rfl⟩) rfl (q0 := 0) (ci := 6) rfl rfl Frm.self rfl (Nat.le_of_ble_eq_true rfl) ⟨Nat.le_of_ble_eq_true rfl, Nat.le_of_ble_eq_true rfl⟩ rfl ?_
  obtain rfl := Option.some.inj hf
  exact n_dret C dX6_closeness_9
-- Jxe99ae isNaN_b9ae7 
abbrev rmJ_isNaN_b9ae7 : Room := { frames := 0, cells := 0, slots := 0, locals := 0 }
def fJ_isNaN_b9ae7 (n : Nat) (x0 : UInt64) : Option (Int32) :=
  (if (Op.cmpValue (FP.dcmp x0 x0) .l) = (0 : Int32) then some (nI 0) else some (nI 1))
set_option maxHeartbeats 4000000 in
set_option maxRecDepth 100000 in
theorem cJ_isNaN_b9ae7 (l : Launch) (D : va_G) (cyI cyO cyJ : ClassId) (n : Nat) (x0 : UInt64) (z : Int32) (hf : fJ_isNaN_b9ae7 n x0 = some z) : Ct l D (tyG cyI cyO cyJ) yJxe99ae_isNaN_b9ae7 wsJxe99ae_isNaN_b9ae7 rmJ_isNaN_b9ae7 0 0 [.double x0] (([] : va_W)) (([] : va_W)) (some (.int z)) := by
  refine Ct.of (cc := cJxe99ae_isNaN_b9ae7) (nL := 2) (ret := (some .boolean)) (lv := [(0, .double x0)]) (by decide +kernel) rfl rfl (Nat.le_of_ble_eq_true rfl) ?_
  intro p e s m args below meth c A C
  have C : Cx p s m args meth c D (tyG cyI cyO cyJ) A RJxe99ae cJxe99ae_isNaN_b9ae7 2 (some .boolean) wsJxe99ae_isNaN_b9ae7 := C
  unfold fJ_isNaN_b9ae7 at hf
  refine n_dload_n C dJxe99ae_isNaN_b9ae7_0 0 rfl rfl ?_
  refine n_dload_n C dJxe99ae_isNaN_b9ae7_1 0 rfl rfl ?_
  refine n_dcmp C dJxe99ae_isNaN_b9ae7_2 rfl ?_
  refine n_if_eq (t := 10) C dJxe99ae_isNaN_b9ae7_3 (by decide) rfl (fun h3 => ?_) (fun h3 => ?_)
  · have hf := ip h3 hf
    refine n_iconst (v := (nI 0)) C dJxe99ae_isNaN_b9ae7_10 (by decide) rfl ?_
    obtain rfl := Option.some.inj hf
    exact n_zret C dJxe99ae_isNaN_b9ae7_11 (Or.inl rfl)
  · have hf := iq h3 hf
    refine n_iconst (v := (nI 1)) C dJxe99ae_isNaN_b9ae7_6 (by decide) rfl ?_
    refine n_goto (t := 11) C dJxe99ae_isNaN_b9ae7_7 (by decide) ?_
    obtain rfl := Option.some.inj hf
    exact n_zret C dJxe99ae_isNaN_b9ae7_11 (Or.inr rfl)
-- Jxe99ae doubleToLongBits_ccdee 
abbrev rmJ_doubleToLongBits_ccdee : Room := { frames := 1, cells := 0, slots := 0, locals := 23 }
def fJ_doubleToLongBits_ccdee (n : Nat) (x0 : UInt64) : Option (Int64) :=
  (fJ_isNaN_b9ae7 n x0).bind fun z1 => (if z1 = (0 : Int32) then some x0.toInt64 else some (9221120237041090560 : Int64))
set_option maxHeartbeats 4000000 in
set_option maxRecDepth 100000 in
theorem cJ_doubleToLongBits_ccdee (l : Launch) (D : va_G) (cyI cyO cyJ : ClassId) (n : Nat) (x0 : UInt64) (z : Int64) (hf : fJ_doubleToLongBits_ccdee n x0 = some z) : Ct l D (tyG cyI cyO cyJ) yJxe99ae_doubleToLongBits_ccdee wsJxe99ae_doubleToLongBits_ccdee rmJ_doubleToLongBits_ccdee 0 0 [.double x0] (([] : va_W)) (([] : va_W)) (some (.long z)) := by
  refine Ct.of (cc := cJxe99ae_doubleToLongBits_ccdee) (nL := 2) (ret := (some .long)) (lv := [(0, .double x0)]) (by decide +kernel) rfl rfl (Nat.le_of_ble_eq_true rfl) ?_
  intro p e s m args below meth c A C
  have C : Cx p s m args meth c D (tyG cyI cyO cyJ) A RJxe99ae cJxe99ae_doubleToLongBits_ccdee 2 (some .long) wsJxe99ae_doubleToLongBits_ccdee := C
  unfold fJ_doubleToLongBits_ccdee at hf
  refine n_dload_n C dJxe99ae_doubleToLongBits_ccdee_0 0 rfl rfl ?_
  obtain ⟨z1, h1, hf⟩ := bi hf
  refine n_callS (As := [.double x0]) (rest := []) (w2 := ([] : va_W)) C dJxe99ae_doubleToLongBits_ccdee_1 (cJ_isNaN_b9ae7 l D cyI cyO cyJ  n x0 z1 h1) (va_cwS 1 C.ts gJxe99ae_doubleToLongBits_ccdee_Jxe99ae_isNaN_b9ae7 rfl rfl rfl (by decide +kernel) ⟨Nat.le_of_ble_eq_true rfl, Nat.le_of_ble_eq_true rfl⟩) rfl Frm.self rfl (Nat.le_of_ble_eq_true rfl) ⟨Nat.le_of_ble_eq_true rfl, Nat.le_of_ble_eq_true rfl⟩ rfl ?_
  refine n_if_ne (t := 12) C dJxe99ae_doubleToLongBits_ccdee_4 (by decide) rfl (fun h4 => ?_) (fun h4 => ?_)
  · have hf := iq h4 hf
    refine n_ldc2 (v := (9221120237041090560 : Int64)) C dJxe99ae_doubleToLongBits_ccdee_12 (List.mem_of_getElem? (i := 5) rfl) rfl ?_
    obtain rfl := Option.some.inj hf
    exact n_lret C dJxe99ae_doubleToLongBits_ccdee_15
  · have hf := ip h4 hf
    refine n_dload_n C dJxe99ae_doubleToLongBits_ccdee_7 0 rfl rfl ?_
    refine n_raw C dJxe99ae_doubleToLongBits_ccdee_8 (List.mem_of_getElem? (i := 1) rfl) (List.mem_of_getElem? (i := 2) rfl) (List.mem_of_getElem? (i := 3) rfl) (List.mem_of_getElem? (i := 4) rfl) (Nat.le_of_ble_eq_true rfl) (Nat.le_of_ble_eq_true rfl) rfl ?_
    obtain rfl := Option.some.inj hf
    exact n_lret C dJxe99ae_doubleToLongBits_ccdee_11
-- X6 digest 
theorem iw6_digest_X6 : ∀ w ∈ u_ws RX6 TX6 12, w ∈ wsX6_digest := by decide +kernel
abbrev rm6_digest : Room := { frames := 9, cells := 0, slots := 0, locals := 208 }
def f6_digest_b331 (n : Nat) (v1 : Int64) (oM : OB) : Option (Int64 × (OB)) :=
  some (v1, oM)
def f6_digest_b303 (n : Nat) (k331 : Int64 → OB → Option (Int64 × (OB))) : Nat → Int64 → Int32 → OB → Option (Int64 × (OB))
  | 0, _, _, _ => none
  | k + 1, v1, v3, oM =>
    (if (oM.1 5) ≤ v3 then k331 v1 oM else (ald 60 (oM.2 4) v3).bind fun x321 => (f6_digest_b303 n k331 k) (((31 : Int64) * v1) + x321.toInt64) (v3 + (nI 1)) oM)
def f6_digest_b277 (n : Nat) (v1 : Int64) (oM : OB) : Option (Int64 × (OB)) :=
  (f6_nearness n oM).bind fun z286 => (fJ_doubleToLongBits_ccdee n z286).bind fun z289 => f6_digest_b303 n (fun v1 oM => f6_digest_b331 n v1 oM) n (((31 : Int64) * (((31 : Int64) * v1) + z289)) + ((oM.1 5).toInt64)) (nI 0) oM
def f6_digest_b252 (n : Nat) (k277 : Int64 → OB → Option (Int64 × (OB))) : Nat → Int64 → Int32 → OB → Option (Int64 × (OB))
  | 0, _, _, _ => none
  | k + 1, v1, v3, oM =>
    (if (nI 12) ≤ v3 then k277 v1 oM else (f6_without n oM v3).bind fun z265 => (f6_digest_b252 n k277 k) (((31 : Int64) * v1) + z265.1.toInt64) (v3 + (nI 1)) z265.2)
def f6_digest_b250 (n : Nat) (v1 : Int64) (oM : OB) : Option (Int64 × (OB)) :=
  f6_digest_b252 n (fun v1 oM => f6_digest_b277 n v1 oM) n v1 (nI 0) oM
def f6_digest_b218 (n : Nat) (k250 : Int64 → OB → Option (Int64 × (OB))) : Nat → Int64 → Int32 → OB → Option (Int64 × (OB))
  | 0, _, _, _ => none
  | k + 1, v1, v3, oM =>
    (ald 270 (oM.2 0) (nI 4)).bind fun x224 => (if x224 ≤ v3 then k250 v1 oM else (f6_teamAt n (oM.2 0) v3).bind fun z238 => (f6_digest_b218 n k250 k) (((31 : Int64) * v1) + z238.toInt64) (v3 + (nI 1)) oM)
def f6_digest_b216 (n : Nat) (v1 : Int64) (oM : OB) : Option (Int64 × (OB)) :=
  f6_digest_b218 n (fun v1 oM => f6_digest_b250 n v1 oM) n v1 (nI 0) oM
def f6_digest_b186 (n : Nat) (k145 : Int64 → Int32 → OB → Option (Int64 × (OB))) (k216 : Int64 → OB → Option (Int64 × (OB))) (v1 : Int64) (v3 : Int32) (oM : OB) : Option (Int64 × (OB)) :=
  (f6_best n oM v3).bind fun z196 => (f6_sure n z196.2 v3).bind fun z204 => k145 (((31 : Int64) * (((31 : Int64) * v1) + z196.1.toInt64)) + z204.toInt64) (v3 + (nI 1)) z196.2
def f6_digest_b158 (n : Nat) (k186 : Int64 → Int32 → OB → Option (Int64 × (OB))) : Nat → Int64 → Int32 → Int32 → OB → Option (Int64 × (OB))
  | 0, _, _, _, _ => none
  | k + 1, v1, v3, v4, oM =>
    (if (nI 9) ≤ v4 then k186 v1 v3 oM else (f6_ofTeam n oM v3 v4).bind fun z174 => (f6_digest_b158 n k186 k) (((31 : Int64) * v1) + z174.toInt64) v3 (v4 + (nI 1)) oM)
def f6_digest_b145 (n : Nat) (k216 : Int64 → OB → Option (Int64 × (OB))) : Nat → Int64 → Int32 → OB → Option (Int64 × (OB))
  | 0, _, _, _ => none
  | k + 1, v1, v3, oM =>
    (ald 270 (oM.2 0) (nI 4)).bind fun x151 => (if x151 ≤ v3 then k216 v1 oM else f6_digest_b158 n (fun v1 v3 oM => f6_digest_b186 n (f6_digest_b145 n k216 k) k216 v1 v3 oM) n v1 v3 (nI 0) oM)
def f6_digest_b143 (n : Nat) (v1 : Int64) (oM : OB) : Option (Int64 × (OB)) :=
  f6_digest_b145 n (fun v1 oM => f6_digest_b216 n v1 oM) n v1 (nI 0) oM
def f6_digest_b137 (n : Nat) (k96 : Int64 → Int32 → OB → Option (Int64 × (OB))) (k143 : Int64 → OB → Option (Int64 × (OB))) (v1 : Int64) (v3 : Int32) (oM : OB) : Option (Int64 × (OB)) :=
  k96 v1 (v3 + (nI 1)) oM
def f6_digest_b109 (n : Nat) (k137 : Int64 → Int32 → OB → Option (Int64 × (OB))) : Nat → Int64 → Int32 → Int32 → OB → Option (Int64 × (OB))
  | 0, _, _, _, _ => none
  | k + 1, v1, v3, v4, oM =>
    (if (nI 9) ≤ v4 then k137 v1 v3 oM else (f6_ofMatch n oM v3 v4).bind fun z125 => (f6_digest_b109 n k137 k) (((31 : Int64) * v1) + z125.toInt64) v3 (v4 + (nI 1)) oM)
def f6_digest_b96 (n : Nat) (k143 : Int64 → OB → Option (Int64 × (OB))) : Nat → Int64 → Int32 → OB → Option (Int64 × (OB))
  | 0, _, _, _ => none
  | k + 1, v1, v3, oM =>
    (ald 270 (oM.2 0) (nI 5)).bind fun x102 => (if x102 ≤ v3 then k143 v1 oM else f6_digest_b109 n (fun v1 v3 oM => f6_digest_b137 n (f6_digest_b96 n k143 k) k143 v1 v3 oM) n v1 v3 (nI 0) oM)
def f6_digest_b94 (n : Nat) (v1 : Int64) (oM : OB) : Option (Int64 × (OB)) :=
  f6_digest_b96 n (fun v1 oM => f6_digest_b143 n v1 oM) n v1 (nI 0) oM
def f6_digest_b65 (n : Nat) (k94 : Int64 → OB → Option (Int64 × (OB))) : Nat → Int64 → Int32 → OB → Option (Int64 × (OB))
  | 0, _, _, _ => none
  | k + 1, v1, v3, oM =>
    (if (nI 12) ≤ v3 then k94 v1 oM else (ald 270 (oM.2 0) ((nI 6) + v3)).bind fun x84 => (f6_digest_b65 n k94 k) (((31 : Int64) * v1) + x84.toInt64) (v3 + (nI 1)) oM)
def f6_digest_b63 (n : Nat) (v1 : Int64) (oM : OB) : Option (Int64 × (OB)) :=
  f6_digest_b65 n (fun v1 oM => f6_digest_b94 n v1 oM) n v1 (nI 0) oM
def f6_digest_b38 (n : Nat) (k63 : Int64 → OB → Option (Int64 × (OB))) : Nat → Int64 → Int32 → OB → Option (Int64 × (OB))
  | 0, _, _, _ => none
  | k + 1, v1, v3, oM =>
    (if (nI 4) ≤ v3 then k63 v1 oM else (ald 270 (oM.2 0) v3).bind fun x53 => (f6_digest_b38 n k63 k) (((31 : Int64) * v1) + x53.toInt64) (v3 + (nI 1)) oM)
def f6_digest_b36 (n : Nat) (v1 : Int64) (oM : OB) : Option (Int64 × (OB)) :=
  f6_digest_b38 n (fun v1 oM => f6_digest_b63 n v1 oM) n v1 (nI 0) oM
def f6_digest_b11 (n : Nat) (k36 : Int64 → OB → Option (Int64 × (OB))) : Nat → Int64 → Int32 → OB → Option (Int64 × (OB))
  | 0, _, _, _ => none
  | k + 1, v1, v3, oM =>
    (if (nI 10) ≤ v3 then k36 v1 oM else (f6_counted n oM v3).bind fun z24 => (f6_digest_b11 n k36 k) (((31 : Int64) * v1) + z24.toInt64) (v3 + (nI 1)) oM)
def f6_digest (n : Nat) (oM : OB) : Option (Int64 × (OB)) :=
  (some (gsi oM 6 (nI 0))).bind fun oM_2 => f6_digest_b11 n (fun v1 oM => f6_digest_b36 n v1 oM) n (3011 : Int64) (nI 0) oM_2
set_option maxHeartbeats 4000000 in
set_option maxRecDepth 100000 in
theorem t6_digest_b331 {l : Launch} {p : Program} {e : Env} {s : State} {m : MethodId} {args : Array Value} {below : List Frame} {meth : Method} {c : Code} {D : va_G} {A : Nat → Prop} {cyI cyO cyJ : ClassId} {aM : Nat → Nat} (C : Cx p s m args meth c D (tyG cyI cyO cyJ) A RX6 cX6_digest 5 (some .long) wsX6_digest) {z : Int64 × (OB)} (n : Nat) (v1 : Int64) (oM : OB) (hf : f6_digest_b331 n v1 oM = some z) : Wn p l e rm6_digest s m args below meth c D A 5 0 0 (MQ below (Qr D (tyG cyI cyO cyJ) (bX6 cyI aM z.2) A (some (.long z.1))) args s 0 0 A) (bX6 cyI aM oM) 331 [(1, .long v1)] [] := by
  unfold f6_digest_b331 at hf
  refine n_lload_n C dX6_digest_331 0 rfl rfl ?_
  obtain rfl := Option.some.inj hf
  exact n_lret C dX6_digest_332
set_option maxHeartbeats 4000000 in
set_option maxRecDepth 100000 in
theorem t6_digest_b303 {l : Launch} {p : Program} {e : Env} {s : State} {m : MethodId} {args : Array Value} {below : List Frame} {meth : Method} {c : Code} {D : va_G} {A : Nat → Prop} {cyI cyO cyJ : ClassId} {aM : Nat → Nat} (C : Cx p s m args meth c D (tyG cyI cyO cyJ) A RX6 cX6_digest 5 (some .long) wsX6_digest) {z : Int64 × (OB)} (n : Nat) {k331 : Int64 → OB → Option (Int64 × (OB))} (hk331 : ∀ (v1 : Int64) (oM : OB), k331 v1 oM = some z → Wn p l e rm6_digest s m args below meth c D A 5 0 0 (MQ below (Qr D (tyG cyI cyO cyJ) (bX6 cyI aM z.2) A (some (.long z.1))) args s 0 0 A) (bX6 cyI aM oM) 331 [(1, .long v1)] []) : ∀ (k : Nat) (v1 : Int64) (v3 : Int32) (oM : OB), f6_digest_b303 n k331 k v1 v3 oM = some z → Wn p l e rm6_digest s m args below meth c D A 5 0 0 (MQ below (Qr D (tyG cyI cyO cyJ) (bX6 cyI aM z.2) A (some (.long z.1))) args s 0 0 A) (bX6 cyI aM oM) 303 [(0, .ref (aM 0)), (1, .long v1), (3, .int v3)] [] := by
  intro k
  induction k with
  | zero => intro  v1 v3 oM hf; cases hf
  | succ k ih =>
    intro  v1 v3 oM hf
    unfold f6_digest_b303 at hf
    refine n_iload_n C dX6_digest_303 2 rfl rfl ?_
    refine n_aload_n C dX6_digest_304 0 rfl rfl ?_
    refine n_get (N := 12) C dX6_digest_305 iw6_digest_X6 0 rfl rfl 5 (by decide) (List.mem_of_getElem? (i := 5) rfl) rfl rfl rfl ?_
    refine n_icmp_ge (t := 331) C dX6_digest_308 (by decide) rfl (fun h308 => ?_) (fun h308 => ?_)
    · have hf := ip h308 hf
      exact Wn.sub (lv' := [(1, .long v1)]) [1] rfl (hk331 v1 oM hf)
    · have hf := iq h308 hf
      refine n_ldc2 (v := (31 : Int64)) C dX6_digest_311 (List.mem_of_getElem? (i := 3) rfl) rfl ?_
      refine n_lload_n C dX6_digest_314 1 rfl rfl ?_
      refine n_lmul C dX6_digest_315 rfl ?_
      refine n_aload_n C dX6_digest_316 0 rfl rfl ?_
      refine n_get (N := 12) C dX6_digest_317 iw6_digest_X6 0 rfl rfl 4 (by decide) (List.mem_of_getElem? (i := 6) rfl) rfl rfl rfl ?_
      refine n_iload_n C dX6_digest_320 2 rfl rfl ?_
      obtain ⟨x321, h321, hf⟩ := bi hf
      obtain ⟨h321, e321⟩ := ald_some h321
      refine n_iald C dX6_digest_321 4 0 rfl rfl h321 rfl ?_
      rw [← e321]
      refine n_i2l C dX6_digest_322 rfl ?_
      refine n_ladd C dX6_digest_323 rfl ?_
      refine n_lstore_n (lv' := [(1, .long (((31 : Int64) * v1) + x321.toInt64)), (0, .ref (aM 0)), (3, .int v3)]) C dX6_digest_324 (by decide) rfl rfl ?_
      refine n_iinc (v := v3 + (nI 1)) (lv' := [(3, .int (v3 + (nI 1))), (1, .long (((31 : Int64) * v1) + x321.toInt64)), (0, .ref (aM 0))]) C dX6_digest_325 (j := 2) rfl rfl (by decide) rfl rfl ?_
      refine n_goto (t := 303) C dX6_digest_328 (by decide) ?_
      exact Wn.sub (lv' := [(0, .ref (aM 0)), (1, .long (((31 : Int64) * v1) + x321.toInt64)), (3, .int (v3 + (nI 1)))]) [2, 1, 0] rfl (ih (((31 : Int64) * v1) + x321.toInt64) (v3 + (nI 1)) oM hf)
set_option maxHeartbeats 4000000 in
set_option maxRecDepth 100000 in
theorem t6_digest_b277 {l : Launch} {p : Program} {e : Env} {s : State} {m : MethodId} {args : Array Value} {below : List Frame} {meth : Method} {c : Code} {D : va_G} {A : Nat → Prop} {cyI cyO cyJ : ClassId} {aM : Nat → Nat} (C : Cx p s m args meth c D (tyG cyI cyO cyJ) A RX6 cX6_digest 5 (some .long) wsX6_digest) {z : Int64 × (OB)} (n : Nat) (v1 : Int64) (oM : OB) (hf : f6_digest_b277 n v1 oM = some z) : Wn p l e rm6_digest s m args below meth c D A 5 0 0 (MQ below (Qr D (tyG cyI cyO cyJ) (bX6 cyI aM z.2) A (some (.long z.1))) args s 0 0 A) (bX6 cyI aM oM) 277 [(0, .ref (aM 0)), (1, .long v1)] [] := by
  unfold f6_digest_b277 at hf
  refine n_ldc2 (v := (31 : Int64)) C dX6_digest_277 (List.mem_of_getElem? (i := 3) rfl) rfl ?_
  refine n_ldc2 (v := (31 : Int64)) C dX6_digest_280 (List.mem_of_getElem? (i := 3) rfl) rfl ?_
  refine n_lload_n C dX6_digest_283 1 rfl rfl ?_
  refine n_lmul C dX6_digest_284 rfl ?_
  refine n_aload_n C dX6_digest_285 0 rfl rfl ?_
  obtain ⟨z286, h286, hf⟩ := bi hf
  refine n_callV (As := []) (rest := [.long ((31 : Int64) * v1), .long (31 : Int64)]) (w2 := bX6 cyI aM oM) C dX6_digest_286 (c6_nearness l D cyI cyO cyJ aM n oM z286 h286) (cwV 0 C.ts gX6_digest_X6_nearness rfl rfl rfl (by decide +kernel) ⟨Nat.le_of_ble_eq_true rfl, Nat.le_of_ble_eq_true rfl⟩) rfl (q0 := 0) (ci := 6) rfl rfl Frm.self rfl (Nat.le_of_ble_eq_true rfl) ⟨Nat.le_of_ble_eq_true rfl, Nat.le_of_ble_eq_true rfl⟩ rfl ?_
  obtain ⟨z289, h289, hf⟩ := bi hf
  refine n_callS (As := [.double z286]) (rest := [.long ((31 : Int64) * v1), .long (31 : Int64)]) (w2 := bX6 cyI aM oM) C dX6_digest_289 (cJ_doubleToLongBits_ccdee l D cyI cyO cyJ  n z286 z289 h289) (va_cwS 1 C.ts gX6_digest_Jxe99ae_doubleToLongBits_ccdee rfl rfl rfl (by decide +kernel) ⟨Nat.le_of_ble_eq_true rfl, Nat.le_of_ble_eq_true rfl⟩) rfl Frm.none rfl (Nat.le_of_ble_eq_true rfl) ⟨Nat.le_of_ble_eq_true rfl, Nat.le_of_ble_eq_true rfl⟩ rfl ?_
  refine n_ladd C dX6_digest_292 rfl ?_
  refine n_lmul C dX6_digest_293 rfl ?_
  refine n_aload_n C dX6_digest_294 0 rfl rfl ?_
  refine n_get (N := 12) C dX6_digest_295 iw6_digest_X6 0 rfl rfl 5 (by decide) (List.mem_of_getElem? (i := 5) rfl) rfl rfl rfl ?_
  refine n_i2l C dX6_digest_298 rfl ?_
  refine n_ladd C dX6_digest_299 rfl ?_
  refine n_lstore_n (lv' := [(1, .long (((31 : Int64) * (((31 : Int64) * v1) + z289)) + ((oM.1 5).toInt64))), (0, .ref (aM 0))]) C dX6_digest_300 (by decide) rfl rfl ?_
  refine n_iconst (v := (nI 0)) C dX6_digest_301 (by decide) rfl ?_
  refine n_istore_n (lv' := [(3, .int (nI 0)), (1, .long (((31 : Int64) * (((31 : Int64) * v1) + z289)) + ((oM.1 5).toInt64))), (0, .ref (aM 0))]) C dX6_digest_302 (by decide) rfl rfl ?_
  exact Wn.sub (lv' := [(0, .ref (aM 0)), (1, .long (((31 : Int64) * (((31 : Int64) * v1) + z289)) + ((oM.1 5).toInt64))), (3, .int (nI 0))]) [2, 1, 0] rfl (t6_digest_b303 C n (fun v1 oM hf => Wn.sub (lv' := [(1, .long v1)]) [0] rfl (t6_digest_b331 C n v1 oM hf)) n (((31 : Int64) * (((31 : Int64) * v1) + z289)) + ((oM.1 5).toInt64)) (nI 0) oM hf)
set_option maxHeartbeats 4000000 in
set_option maxRecDepth 100000 in
theorem t6_digest_b252 {l : Launch} {p : Program} {e : Env} {s : State} {m : MethodId} {args : Array Value} {below : List Frame} {meth : Method} {c : Code} {D : va_G} {A : Nat → Prop} {cyI cyO cyJ : ClassId} {aM : Nat → Nat} (C : Cx p s m args meth c D (tyG cyI cyO cyJ) A RX6 cX6_digest 5 (some .long) wsX6_digest) {z : Int64 × (OB)} (n : Nat) {k277 : Int64 → OB → Option (Int64 × (OB))} (hk277 : ∀ (v1 : Int64) (oM : OB), k277 v1 oM = some z → Wn p l e rm6_digest s m args below meth c D A 5 0 0 (MQ below (Qr D (tyG cyI cyO cyJ) (bX6 cyI aM z.2) A (some (.long z.1))) args s 0 0 A) (bX6 cyI aM oM) 277 [(0, .ref (aM 0)), (1, .long v1)] []) : ∀ (k : Nat) (v1 : Int64) (v3 : Int32) (oM : OB), f6_digest_b252 n k277 k v1 v3 oM = some z → Wn p l e rm6_digest s m args below meth c D A 5 0 0 (MQ below (Qr D (tyG cyI cyO cyJ) (bX6 cyI aM z.2) A (some (.long z.1))) args s 0 0 A) (bX6 cyI aM oM) 252 [(0, .ref (aM 0)), (1, .long v1), (3, .int v3)] [] := by
  intro k
  induction k with
  | zero => intro  v1 v3 oM hf; cases hf
  | succ k ih =>
    intro  v1 v3 oM hf
    unfold f6_digest_b252 at hf
    refine n_iload_n C dX6_digest_252 2 rfl rfl ?_
    refine n_bipush (v := (nI 12)) C dX6_digest_253 (by decide) rfl ?_
    refine n_icmp_ge (t := 277) C dX6_digest_255 (by decide) rfl (fun h255 => ?_) (fun h255 => ?_)
    · have hf := ip h255 hf
      exact Wn.sub (lv' := [(0, .ref (aM 0)), (1, .long v1)]) [0, 1] rfl (hk277 v1 oM hf)
    · have hf := iq h255 hf
      refine n_ldc2 (v := (31 : Int64)) C dX6_digest_258 (List.mem_of_getElem? (i := 3) rfl) rfl ?_
      refine n_lload_n C dX6_digest_261 1 rfl rfl ?_
      refine n_lmul C dX6_digest_262 rfl ?_
      refine n_aload_n C dX6_digest_263 0 rfl rfl ?_
      refine n_iload_n C dX6_digest_264 2 rfl rfl ?_
      obtain ⟨z265, h265, hf⟩ := bi hf
      refine n_callV (As := [.int v3]) (rest := [.long ((31 : Int64) * v1)]) (w2 := bX6 cyI aM z265.2) C dX6_digest_265 (c6_without l D cyI cyO cyJ aM n oM v3 z265 h265) (cwV 1 C.ts gX6_digest_X6_without rfl rfl rfl (by decide +kernel) ⟨Nat.le_of_ble_eq_true rfl, Nat.le_of_ble_eq_true rfl⟩) rfl (q0 := 0) (ci := 6) rfl rfl Frm.self rfl (Nat.le_of_ble_eq_true rfl) ⟨Nat.le_of_ble_eq_true rfl, Nat.le_of_ble_eq_true rfl⟩ rfl ?_
      refine n_i2l C dX6_digest_268 rfl ?_
      refine n_ladd C dX6_digest_269 rfl ?_
      refine n_lstore_n (lv' := [(1, .long (((31 : Int64) * v1) + z265.1.toInt64)), (0, .ref (aM 0)), (3, .int v3)]) C dX6_digest_270 (by decide) rfl rfl ?_
      refine n_iinc (v := v3 + (nI 1)) (lv' := [(3, .int (v3 + (nI 1))), (1, .long (((31 : Int64) * v1) + z265.1.toInt64)), (0, .ref (aM 0))]) C dX6_digest_271 (j := 2) rfl rfl (by decide) rfl rfl ?_
      refine n_goto (t := 252) C dX6_digest_274 (by decide) ?_
      exact Wn.sub (lv' := [(0, .ref (aM 0)), (1, .long (((31 : Int64) * v1) + z265.1.toInt64)), (3, .int (v3 + (nI 1)))]) [2, 1, 0] rfl (ih (((31 : Int64) * v1) + z265.1.toInt64) (v3 + (nI 1)) z265.2 hf)
set_option maxHeartbeats 4000000 in
set_option maxRecDepth 100000 in
theorem t6_digest_b250 {l : Launch} {p : Program} {e : Env} {s : State} {m : MethodId} {args : Array Value} {below : List Frame} {meth : Method} {c : Code} {D : va_G} {A : Nat → Prop} {cyI cyO cyJ : ClassId} {aM : Nat → Nat} (C : Cx p s m args meth c D (tyG cyI cyO cyJ) A RX6 cX6_digest 5 (some .long) wsX6_digest) {z : Int64 × (OB)} (n : Nat) (v1 : Int64) (oM : OB) (hf : f6_digest_b250 n v1 oM = some z) : Wn p l e rm6_digest s m args below meth c D A 5 0 0 (MQ below (Qr D (tyG cyI cyO cyJ) (bX6 cyI aM z.2) A (some (.long z.1))) args s 0 0 A) (bX6 cyI aM oM) 250 [(0, .ref (aM 0)), (1, .long v1)] [] := by
  unfold f6_digest_b250 at hf
  refine n_iconst (v := (nI 0)) C dX6_digest_250 (by decide) rfl ?_
  refine n_istore_n (lv' := [(3, .int (nI 0)), (0, .ref (aM 0)), (1, .long v1)]) C dX6_digest_251 (by decide) rfl rfl ?_
  exact Wn.sub (lv' := [(0, .ref (aM 0)), (1, .long v1), (3, .int (nI 0))]) [1, 2, 0] rfl (t6_digest_b252 C n (fun v1 oM hf => Wn.sub (lv' := [(0, .ref (aM 0)), (1, .long v1)]) [0, 1] rfl (t6_digest_b277 C n v1 oM hf)) n v1 (nI 0) oM hf)
set_option maxHeartbeats 4000000 in
set_option maxRecDepth 100000 in
theorem t6_digest_b218 {l : Launch} {p : Program} {e : Env} {s : State} {m : MethodId} {args : Array Value} {below : List Frame} {meth : Method} {c : Code} {D : va_G} {A : Nat → Prop} {cyI cyO cyJ : ClassId} {aM : Nat → Nat} (C : Cx p s m args meth c D (tyG cyI cyO cyJ) A RX6 cX6_digest 5 (some .long) wsX6_digest) {z : Int64 × (OB)} (n : Nat) {k250 : Int64 → OB → Option (Int64 × (OB))} (hk250 : ∀ (v1 : Int64) (oM : OB), k250 v1 oM = some z → Wn p l e rm6_digest s m args below meth c D A 5 0 0 (MQ below (Qr D (tyG cyI cyO cyJ) (bX6 cyI aM z.2) A (some (.long z.1))) args s 0 0 A) (bX6 cyI aM oM) 250 [(0, .ref (aM 0)), (1, .long v1)] []) : ∀ (k : Nat) (v1 : Int64) (v3 : Int32) (oM : OB), f6_digest_b218 n k250 k v1 v3 oM = some z → Wn p l e rm6_digest s m args below meth c D A 5 0 0 (MQ below (Qr D (tyG cyI cyO cyJ) (bX6 cyI aM z.2) A (some (.long z.1))) args s 0 0 A) (bX6 cyI aM oM) 218 [(0, .ref (aM 0)), (1, .long v1), (3, .int v3)] [] := by
  intro k
  induction k with
  | zero => intro  v1 v3 oM hf; cases hf
  | succ k ih =>
    intro  v1 v3 oM hf
    unfold f6_digest_b218 at hf
    refine n_iload_n C dX6_digest_218 2 rfl rfl ?_
    refine n_aload_n C dX6_digest_219 0 rfl rfl ?_
    refine n_get (N := 12) C dX6_digest_220 iw6_digest_X6 0 rfl rfl 0 (by decide) (List.mem_of_getElem? (i := 4) rfl) rfl rfl rfl ?_
    refine n_iconst (v := (nI 4)) C dX6_digest_223 (by decide) rfl ?_
    obtain ⟨x224, h224, hf⟩ := bi hf
    obtain ⟨h224, e224⟩ := ald_some h224
    refine n_iald C dX6_digest_224 1 0 rfl rfl h224 rfl ?_
    rw [← e224]
    refine n_icmp_ge (t := 250) C dX6_digest_225 (by decide) rfl (fun h225 => ?_) (fun h225 => ?_)
    · have hf := ip h225 hf
      exact Wn.sub (lv' := [(0, .ref (aM 0)), (1, .long v1)]) [0, 1] rfl (hk250 v1 oM hf)
    · have hf := iq h225 hf
      refine n_ldc2 (v := (31 : Int64)) C dX6_digest_228 (List.mem_of_getElem? (i := 3) rfl) rfl ?_
      refine n_lload_n C dX6_digest_231 1 rfl rfl ?_
      refine n_lmul C dX6_digest_232 rfl ?_
      refine n_aload_n C dX6_digest_233 0 rfl rfl ?_
      refine n_get (N := 12) C dX6_digest_234 iw6_digest_X6 0 rfl rfl 0 (by decide) (List.mem_of_getElem? (i := 4) rfl) rfl rfl rfl ?_
      refine n_iload_n C dX6_digest_237 2 rfl rfl ?_
      obtain ⟨z238, h238, hf⟩ := bi hf
      refine n_callS (As := [.ref (aM 1), .int v3]) (rest := [.long ((31 : Int64) * v1)]) (w2 := bX6 cyI aM oM) C dX6_digest_238 (c6_teamAt l D cyI cyO cyJ (aM 1) n (oM.2 0) v3 z238 h238) (va_cwS 2 C.ts gX6_digest_X6_teamAt rfl rfl rfl (by decide +kernel) ⟨Nat.le_of_ble_eq_true rfl, Nat.le_of_ble_eq_true rfl⟩) rfl (Frm.skipc (Frm.takec Frm.none)) rfl (Nat.le_of_ble_eq_true rfl) ⟨Nat.le_of_ble_eq_true rfl, Nat.le_of_ble_eq_true rfl⟩ rfl ?_
      refine n_i2l C dX6_digest_241 rfl ?_
      refine n_ladd C dX6_digest_242 rfl ?_
      refine n_lstore_n (lv' := [(1, .long (((31 : Int64) * v1) + z238.toInt64)), (0, .ref (aM 0)), (3, .int v3)]) C dX6_digest_243 (by decide) rfl rfl ?_
      refine n_iinc (v := v3 + (nI 1)) (lv' := [(3, .int (v3 + (nI 1))), (1, .long (((31 : Int64) * v1) + z238.toInt64)), (0, .ref (aM 0))]) C dX6_digest_244 (j := 2) rfl rfl (by decide) rfl rfl ?_
      refine n_goto (t := 218) C dX6_digest_247 (by decide) ?_
      exact Wn.sub (lv' := [(0, .ref (aM 0)), (1, .long (((31 : Int64) * v1) + z238.toInt64)), (3, .int (v3 + (nI 1)))]) [2, 1, 0] rfl (ih (((31 : Int64) * v1) + z238.toInt64) (v3 + (nI 1)) oM hf)
set_option maxHeartbeats 4000000 in
set_option maxRecDepth 100000 in
theorem t6_digest_b216 {l : Launch} {p : Program} {e : Env} {s : State} {m : MethodId} {args : Array Value} {below : List Frame} {meth : Method} {c : Code} {D : va_G} {A : Nat → Prop} {cyI cyO cyJ : ClassId} {aM : Nat → Nat} (C : Cx p s m args meth c D (tyG cyI cyO cyJ) A RX6 cX6_digest 5 (some .long) wsX6_digest) {z : Int64 × (OB)} (n : Nat) (v1 : Int64) (oM : OB) (hf : f6_digest_b216 n v1 oM = some z) : Wn p l e rm6_digest s m args below meth c D A 5 0 0 (MQ below (Qr D (tyG cyI cyO cyJ) (bX6 cyI aM z.2) A (some (.long z.1))) args s 0 0 A) (bX6 cyI aM oM) 216 [(0, .ref (aM 0)), (1, .long v1)] [] := by
  unfold f6_digest_b216 at hf
  refine n_iconst (v := (nI 0)) C dX6_digest_216 (by decide) rfl ?_
  refine n_istore_n (lv' := [(3, .int (nI 0)), (0, .ref (aM 0)), (1, .long v1)]) C dX6_digest_217 (by decide) rfl rfl ?_
  exact Wn.sub (lv' := [(0, .ref (aM 0)), (1, .long v1), (3, .int (nI 0))]) [1, 2, 0] rfl (t6_digest_b218 C n (fun v1 oM hf => Wn.sub (lv' := [(0, .ref (aM 0)), (1, .long v1)]) [0, 1] rfl (t6_digest_b250 C n v1 oM hf)) n v1 (nI 0) oM hf)
set_option maxHeartbeats 4000000 in
set_option maxRecDepth 100000 in
theorem t6_digest_b186 {l : Launch} {p : Program} {e : Env} {s : State} {m : MethodId} {args : Array Value} {below : List Frame} {meth : Method} {c : Code} {D : va_G} {A : Nat → Prop} {cyI cyO cyJ : ClassId} {aM : Nat → Nat} (C : Cx p s m args meth c D (tyG cyI cyO cyJ) A RX6 cX6_digest 5 (some .long) wsX6_digest) {z : Int64 × (OB)} (n : Nat) {k145 : Int64 → Int32 → OB → Option (Int64 × (OB))} {k216 : Int64 → OB → Option (Int64 × (OB))} (hk145 : ∀ (v1 : Int64) (v3 : Int32) (oM : OB), k145 v1 v3 oM = some z → Wn p l e rm6_digest s m args below meth c D A 5 0 0 (MQ below (Qr D (tyG cyI cyO cyJ) (bX6 cyI aM z.2) A (some (.long z.1))) args s 0 0 A) (bX6 cyI aM oM) 145 [(0, .ref (aM 0)), (1, .long v1), (3, .int v3)] []) (hk216 : ∀ (v1 : Int64) (oM : OB), k216 v1 oM = some z → Wn p l e rm6_digest s m args below meth c D A 5 0 0 (MQ below (Qr D (tyG cyI cyO cyJ) (bX6 cyI aM z.2) A (some (.long z.1))) args s 0 0 A) (bX6 cyI aM oM) 216 [(0, .ref (aM 0)), (1, .long v1)] []) (v1 : Int64) (v3 : Int32) (oM : OB) (hf : f6_digest_b186 n k145 k216 v1 v3 oM = some z) : Wn p l e rm6_digest s m args below meth c D A 5 0 0 (MQ below (Qr D (tyG cyI cyO cyJ) (bX6 cyI aM z.2) A (some (.long z.1))) args s 0 0 A) (bX6 cyI aM oM) 186 [(0, .ref (aM 0)), (1, .long v1), (3, .int v3)] [] := by
  unfold f6_digest_b186 at hf
  refine n_ldc2 (v := (31 : Int64)) C dX6_digest_186 (List.mem_of_getElem? (i := 3) rfl) rfl ?_
  refine n_ldc2 (v := (31 : Int64)) C dX6_digest_189 (List.mem_of_getElem? (i := 3) rfl) rfl ?_
  refine n_lload_n C dX6_digest_192 1 rfl rfl ?_
  refine n_lmul C dX6_digest_193 rfl ?_
  refine n_aload_n C dX6_digest_194 0 rfl rfl ?_
  refine n_iload_n C dX6_digest_195 2 rfl rfl ?_
  obtain ⟨z196, h196, hf⟩ := bi hf
  refine n_callV (As := [.int v3]) (rest := [.long ((31 : Int64) * v1), .long (31 : Int64)]) (w2 := bX6 cyI aM z196.2) C dX6_digest_196 (c6_best l D cyI cyO cyJ aM n oM v3 z196 h196) (cwV 1 C.ts gX6_digest_X6_best rfl rfl rfl (by decide +kernel) ⟨Nat.le_of_ble_eq_true rfl, Nat.le_of_ble_eq_true rfl⟩) rfl (q0 := 0) (ci := 6) rfl rfl Frm.self rfl (Nat.le_of_ble_eq_true rfl) ⟨Nat.le_of_ble_eq_true rfl, Nat.le_of_ble_eq_true rfl⟩ rfl ?_
  refine n_i2l C dX6_digest_199 rfl ?_
  refine n_ladd C dX6_digest_200 rfl ?_
  refine n_lmul C dX6_digest_201 rfl ?_
  refine n_aload_n C dX6_digest_202 0 rfl rfl ?_
  refine n_iload_n C dX6_digest_203 2 rfl rfl ?_
  obtain ⟨z204, h204, hf⟩ := bi hf
  refine n_callV (As := [.int v3]) (rest := [.long ((31 : Int64) * (((31 : Int64) * v1) + z196.1.toInt64))]) (w2 := bX6 cyI aM z196.2) C dX6_digest_204 (c6_sure l D cyI cyO cyJ aM n z196.2 v3 z204 h204) (cwV 1 C.ts gX6_digest_X6_sure rfl rfl rfl (by decide +kernel) ⟨Nat.le_of_ble_eq_true rfl, Nat.le_of_ble_eq_true rfl⟩) rfl (q0 := 0) (ci := 6) rfl rfl Frm.self rfl (Nat.le_of_ble_eq_true rfl) ⟨Nat.le_of_ble_eq_true rfl, Nat.le_of_ble_eq_true rfl⟩ rfl ?_
  refine n_i2l C dX6_digest_207 rfl ?_
  refine n_ladd C dX6_digest_208 rfl ?_
  refine n_lstore_n (lv' := [(1, .long (((31 : Int64) * (((31 : Int64) * v1) + z196.1.toInt64)) + z204.toInt64)), (0, .ref (aM 0)), (3, .int v3)]) C dX6_digest_209 (by decide) rfl rfl ?_
  refine n_iinc (v := v3 + (nI 1)) (lv' := [(3, .int (v3 + (nI 1))), (1, .long (((31 : Int64) * (((31 : Int64) * v1) + z196.1.toInt64)) + z204.toInt64)), (0, .ref (aM 0))]) C dX6_digest_210 (j := 2) rfl rfl (by decide) rfl rfl ?_
  refine n_goto (t := 145) C dX6_digest_213 (by decide) ?_
  exact Wn.sub (lv' := [(0, .ref (aM 0)), (1, .long (((31 : Int64) * (((31 : Int64) * v1) + z196.1.toInt64)) + z204.toInt64)), (3, .int (v3 + (nI 1)))]) [2, 1, 0] rfl (hk145 (((31 : Int64) * (((31 : Int64) * v1) + z196.1.toInt64)) + z204.toInt64) (v3 + (nI 1)) z196.2 hf)
set_option maxHeartbeats 4000000 in
set_option maxRecDepth 100000 in
theorem t6_digest_b158 {l : Launch} {p : Program} {e : Env} {s : State} {m : MethodId} {args : Array Value} {below : List Frame} {meth : Method} {c : Code} {D : va_G} {A : Nat → Prop} {cyI cyO cyJ : ClassId} {aM : Nat → Nat} (C : Cx p s m args meth c D (tyG cyI cyO cyJ) A RX6 cX6_digest 5 (some .long) wsX6_digest) {z : Int64 × (OB)} (n : Nat) {k186 : Int64 → Int32 → OB → Option (Int64 × (OB))} (hk186 : ∀ (v1 : Int64) (v3 : Int32) (oM : OB), k186 v1 v3 oM = some z → Wn p l e rm6_digest s m args below meth c D A 5 0 0 (MQ below (Qr D (tyG cyI cyO cyJ) (bX6 cyI aM z.2) A (some (.long z.1))) args s 0 0 A) (bX6 cyI aM oM) 186 [(0, .ref (aM 0)), (1, .long v1), (3, .int v3)] []) : ∀ (k : Nat) (v1 : Int64) (v3 : Int32) (v4 : Int32) (oM : OB), f6_digest_b158 n k186 k v1 v3 v4 oM = some z → Wn p l e rm6_digest s m args below meth c D A 5 0 0 (MQ below (Qr D (tyG cyI cyO cyJ) (bX6 cyI aM z.2) A (some (.long z.1))) args s 0 0 A) (bX6 cyI aM oM) 158 [(0, .ref (aM 0)), (1, .long v1), (3, .int v3), (4, .int v4)] [] := by
  intro k
  induction k with
  | zero => intro  v1 v3 v4 oM hf; cases hf
  | succ k ih =>
    intro  v1 v3 v4 oM hf
    unfold f6_digest_b158 at hf
    refine n_iload C dX6_digest_158 3 rfl rfl ?_
    refine n_bipush (v := (nI 9)) C dX6_digest_160 (by decide) rfl ?_
    refine n_icmp_ge (t := 186) C dX6_digest_162 (by decide) rfl (fun h162 => ?_) (fun h162 => ?_)
    · have hf := ip h162 hf
      exact Wn.sub (lv' := [(0, .ref (aM 0)), (1, .long v1), (3, .int v3)]) [0, 1, 2] rfl (hk186 v1 v3 oM hf)
    · have hf := iq h162 hf
      refine n_ldc2 (v := (31 : Int64)) C dX6_digest_165 (List.mem_of_getElem? (i := 3) rfl) rfl ?_
      refine n_lload_n C dX6_digest_168 1 rfl rfl ?_
      refine n_lmul C dX6_digest_169 rfl ?_
      refine n_aload_n C dX6_digest_170 0 rfl rfl ?_
      refine n_iload_n C dX6_digest_171 2 rfl rfl ?_
      refine n_iload C dX6_digest_172 3 rfl rfl ?_
      obtain ⟨z174, h174, hf⟩ := bi hf
      refine n_callV (As := [.int v3, .int v4]) (rest := [.long ((31 : Int64) * v1)]) (w2 := bX6 cyI aM oM) C dX6_digest_174 (c6_ofTeam l D cyI cyO cyJ aM n oM v3 v4 z174 h174) (cwV 2 C.ts gX6_digest_X6_ofTeam rfl rfl rfl (by decide +kernel) ⟨Nat.le_of_ble_eq_true rfl, Nat.le_of_ble_eq_true rfl⟩) rfl (q0 := 0) (ci := 6) rfl rfl Frm.self rfl (Nat.le_of_ble_eq_true rfl) ⟨Nat.le_of_ble_eq_true rfl, Nat.le_of_ble_eq_true rfl⟩ rfl ?_
      refine n_i2l C dX6_digest_177 rfl ?_
      refine n_ladd C dX6_digest_178 rfl ?_
      refine n_lstore_n (lv' := [(1, .long (((31 : Int64) * v1) + z174.toInt64)), (0, .ref (aM 0)), (3, .int v3), (4, .int v4)]) C dX6_digest_179 (by decide) rfl rfl ?_
      refine n_iinc (v := v4 + (nI 1)) (lv' := [(4, .int (v4 + (nI 1))), (1, .long (((31 : Int64) * v1) + z174.toInt64)), (0, .ref (aM 0)), (3, .int v3)]) C dX6_digest_180 (j := 3) rfl rfl (by decide) rfl rfl ?_
      refine n_goto (t := 158) C dX6_digest_183 (by decide) ?_
      exact Wn.sub (lv' := [(0, .ref (aM 0)), (1, .long (((31 : Int64) * v1) + z174.toInt64)), (3, .int v3), (4, .int (v4 + (nI 1)))]) [2, 1, 3, 0] rfl (ih (((31 : Int64) * v1) + z174.toInt64) v3 (v4 + (nI 1)) oM hf)
set_option maxHeartbeats 4000000 in
set_option maxRecDepth 100000 in
theorem t6_digest_b145 {l : Launch} {p : Program} {e : Env} {s : State} {m : MethodId} {args : Array Value} {below : List Frame} {meth : Method} {c : Code} {D : va_G} {A : Nat → Prop} {cyI cyO cyJ : ClassId} {aM : Nat → Nat} (C : Cx p s m args meth c D (tyG cyI cyO cyJ) A RX6 cX6_digest 5 (some .long) wsX6_digest) {z : Int64 × (OB)} (n : Nat) {k216 : Int64 → OB → Option (Int64 × (OB))} (hk216 : ∀ (v1 : Int64) (oM : OB), k216 v1 oM = some z → Wn p l e rm6_digest s m args below meth c D A 5 0 0 (MQ below (Qr D (tyG cyI cyO cyJ) (bX6 cyI aM z.2) A (some (.long z.1))) args s 0 0 A) (bX6 cyI aM oM) 216 [(0, .ref (aM 0)), (1, .long v1)] []) : ∀ (k : Nat) (v1 : Int64) (v3 : Int32) (oM : OB), f6_digest_b145 n k216 k v1 v3 oM = some z → Wn p l e rm6_digest s m args below meth c D A 5 0 0 (MQ below (Qr D (tyG cyI cyO cyJ) (bX6 cyI aM z.2) A (some (.long z.1))) args s 0 0 A) (bX6 cyI aM oM) 145 [(0, .ref (aM 0)), (1, .long v1), (3, .int v3)] [] := by
  intro k
  induction k with
  | zero => intro  v1 v3 oM hf; cases hf
  | succ k ih =>
    intro  v1 v3 oM hf
    unfold f6_digest_b145 at hf
    refine n_iload_n C dX6_digest_145 2 rfl rfl ?_
    refine n_aload_n C dX6_digest_146 0 rfl rfl ?_
    refine n_get (N := 12) C dX6_digest_147 iw6_digest_X6 0 rfl rfl 0 (by decide) (List.mem_of_getElem? (i := 4) rfl) rfl rfl rfl ?_
    refine n_iconst (v := (nI 4)) C dX6_digest_150 (by decide) rfl ?_
    obtain ⟨x151, h151, hf⟩ := bi hf
    obtain ⟨h151, e151⟩ := ald_some h151
    refine n_iald C dX6_digest_151 1 0 rfl rfl h151 rfl ?_
    rw [← e151]
    refine n_icmp_ge (t := 216) C dX6_digest_152 (by decide) rfl (fun h152 => ?_) (fun h152 => ?_)
    · have hf := ip h152 hf
      exact Wn.sub (lv' := [(0, .ref (aM 0)), (1, .long v1)]) [0, 1] rfl (hk216 v1 oM hf)
    · have hf := iq h152 hf
      refine n_iconst (v := (nI 0)) C dX6_digest_155 (by decide) rfl ?_
      refine n_istore (lv' := [(4, .int (nI 0)), (0, .ref (aM 0)), (1, .long v1), (3, .int v3)]) C dX6_digest_156 (by decide) rfl rfl ?_
      exact Wn.sub (lv' := [(0, .ref (aM 0)), (1, .long v1), (3, .int v3), (4, .int (nI 0))]) [1, 2, 3, 0] rfl (t6_digest_b158 C n (fun v1 v3 oM hf => Wn.sub (lv' := [(0, .ref (aM 0)), (1, .long v1), (3, .int v3)]) [0, 1, 2] rfl (t6_digest_b186 C n ih hk216 v1 v3 oM hf)) n v1 v3 (nI 0) oM hf)
set_option maxHeartbeats 4000000 in
set_option maxRecDepth 100000 in
theorem t6_digest_b143 {l : Launch} {p : Program} {e : Env} {s : State} {m : MethodId} {args : Array Value} {below : List Frame} {meth : Method} {c : Code} {D : va_G} {A : Nat → Prop} {cyI cyO cyJ : ClassId} {aM : Nat → Nat} (C : Cx p s m args meth c D (tyG cyI cyO cyJ) A RX6 cX6_digest 5 (some .long) wsX6_digest) {z : Int64 × (OB)} (n : Nat) (v1 : Int64) (oM : OB) (hf : f6_digest_b143 n v1 oM = some z) : Wn p l e rm6_digest s m args below meth c D A 5 0 0 (MQ below (Qr D (tyG cyI cyO cyJ) (bX6 cyI aM z.2) A (some (.long z.1))) args s 0 0 A) (bX6 cyI aM oM) 143 [(0, .ref (aM 0)), (1, .long v1)] [] := by
  unfold f6_digest_b143 at hf
  refine n_iconst (v := (nI 0)) C dX6_digest_143 (by decide) rfl ?_
  refine n_istore_n (lv' := [(3, .int (nI 0)), (0, .ref (aM 0)), (1, .long v1)]) C dX6_digest_144 (by decide) rfl rfl ?_
  exact Wn.sub (lv' := [(0, .ref (aM 0)), (1, .long v1), (3, .int (nI 0))]) [1, 2, 0] rfl (t6_digest_b145 C n (fun v1 oM hf => Wn.sub (lv' := [(0, .ref (aM 0)), (1, .long v1)]) [0, 1] rfl (t6_digest_b216 C n v1 oM hf)) n v1 (nI 0) oM hf)
set_option maxHeartbeats 4000000 in
set_option maxRecDepth 100000 in
theorem t6_digest_b137 {l : Launch} {p : Program} {e : Env} {s : State} {m : MethodId} {args : Array Value} {below : List Frame} {meth : Method} {c : Code} {D : va_G} {A : Nat → Prop} {cyI cyO cyJ : ClassId} {aM : Nat → Nat} (C : Cx p s m args meth c D (tyG cyI cyO cyJ) A RX6 cX6_digest 5 (some .long) wsX6_digest) {z : Int64 × (OB)} (n : Nat) {k96 : Int64 → Int32 → OB → Option (Int64 × (OB))} {k143 : Int64 → OB → Option (Int64 × (OB))} (hk96 : ∀ (v1 : Int64) (v3 : Int32) (oM : OB), k96 v1 v3 oM = some z → Wn p l e rm6_digest s m args below meth c D A 5 0 0 (MQ below (Qr D (tyG cyI cyO cyJ) (bX6 cyI aM z.2) A (some (.long z.1))) args s 0 0 A) (bX6 cyI aM oM) 96 [(0, .ref (aM 0)), (1, .long v1), (3, .int v3)] []) (hk143 : ∀ (v1 : Int64) (oM : OB), k143 v1 oM = some z → Wn p l e rm6_digest s m args below meth c D A 5 0 0 (MQ below (Qr D (tyG cyI cyO cyJ) (bX6 cyI aM z.2) A (some (.long z.1))) args s 0 0 A) (bX6 cyI aM oM) 143 [(0, .ref (aM 0)), (1, .long v1)] []) (v1 : Int64) (v3 : Int32) (oM : OB) (hf : f6_digest_b137 n k96 k143 v1 v3 oM = some z) : Wn p l e rm6_digest s m args below meth c D A 5 0 0 (MQ below (Qr D (tyG cyI cyO cyJ) (bX6 cyI aM z.2) A (some (.long z.1))) args s 0 0 A) (bX6 cyI aM oM) 137 [(0, .ref (aM 0)), (1, .long v1), (3, .int v3)] [] := by
  unfold f6_digest_b137 at hf
  refine n_iinc (v := v3 + (nI 1)) (lv' := [(3, .int (v3 + (nI 1))), (0, .ref (aM 0)), (1, .long v1)]) C dX6_digest_137 (j := 2) rfl rfl (by decide) rfl rfl ?_
  refine n_goto (t := 96) C dX6_digest_140 (by decide) ?_
  exact Wn.sub (lv' := [(0, .ref (aM 0)), (1, .long v1), (3, .int (v3 + (nI 1)))]) [1, 2, 0] rfl (hk96 v1 (v3 + (nI 1)) oM hf)
set_option maxHeartbeats 4000000 in
set_option maxRecDepth 100000 in
theorem t6_digest_b109 {l : Launch} {p : Program} {e : Env} {s : State} {m : MethodId} {args : Array Value} {below : List Frame} {meth : Method} {c : Code} {D : va_G} {A : Nat → Prop} {cyI cyO cyJ : ClassId} {aM : Nat → Nat} (C : Cx p s m args meth c D (tyG cyI cyO cyJ) A RX6 cX6_digest 5 (some .long) wsX6_digest) {z : Int64 × (OB)} (n : Nat) {k137 : Int64 → Int32 → OB → Option (Int64 × (OB))} (hk137 : ∀ (v1 : Int64) (v3 : Int32) (oM : OB), k137 v1 v3 oM = some z → Wn p l e rm6_digest s m args below meth c D A 5 0 0 (MQ below (Qr D (tyG cyI cyO cyJ) (bX6 cyI aM z.2) A (some (.long z.1))) args s 0 0 A) (bX6 cyI aM oM) 137 [(0, .ref (aM 0)), (1, .long v1), (3, .int v3)] []) : ∀ (k : Nat) (v1 : Int64) (v3 : Int32) (v4 : Int32) (oM : OB), f6_digest_b109 n k137 k v1 v3 v4 oM = some z → Wn p l e rm6_digest s m args below meth c D A 5 0 0 (MQ below (Qr D (tyG cyI cyO cyJ) (bX6 cyI aM z.2) A (some (.long z.1))) args s 0 0 A) (bX6 cyI aM oM) 109 [(0, .ref (aM 0)), (1, .long v1), (3, .int v3), (4, .int v4)] [] := by
  intro k
  induction k with
  | zero => intro  v1 v3 v4 oM hf; cases hf
  | succ k ih =>
    intro  v1 v3 v4 oM hf
    unfold f6_digest_b109 at hf
    refine n_iload C dX6_digest_109 3 rfl rfl ?_
    refine n_bipush (v := (nI 9)) C dX6_digest_111 (by decide) rfl ?_
    refine n_icmp_ge (t := 137) C dX6_digest_113 (by decide) rfl (fun h113 => ?_) (fun h113 => ?_)
    · have hf := ip h113 hf
      exact Wn.sub (lv' := [(0, .ref (aM 0)), (1, .long v1), (3, .int v3)]) [0, 1, 2] rfl (hk137 v1 v3 oM hf)
    · have hf := iq h113 hf
      refine n_ldc2 (v := (31 : Int64)) C dX6_digest_116 (List.mem_of_getElem? (i := 3) rfl) rfl ?_
      refine n_lload_n C dX6_digest_119 1 rfl rfl ?_
      refine n_lmul C dX6_digest_120 rfl ?_
      refine n_aload_n C dX6_digest_121 0 rfl rfl ?_
      refine n_iload_n C dX6_digest_122 2 rfl rfl ?_
      refine n_iload C dX6_digest_123 3 rfl rfl ?_
      obtain ⟨z125, h125, hf⟩ := bi hf
      refine n_callV (As := [.int v3, .int v4]) (rest := [.long ((31 : Int64) * v1)]) (w2 := bX6 cyI aM oM) C dX6_digest_125 (c6_ofMatch l D cyI cyO cyJ aM n oM v3 v4 z125 h125) (cwV 2 C.ts gX6_digest_X6_ofMatch rfl rfl rfl (by decide +kernel) ⟨Nat.le_of_ble_eq_true rfl, Nat.le_of_ble_eq_true rfl⟩) rfl (q0 := 0) (ci := 6) rfl rfl Frm.self rfl (Nat.le_of_ble_eq_true rfl) ⟨Nat.le_of_ble_eq_true rfl, Nat.le_of_ble_eq_true rfl⟩ rfl ?_
      refine n_i2l C dX6_digest_128 rfl ?_
      refine n_ladd C dX6_digest_129 rfl ?_
      refine n_lstore_n (lv' := [(1, .long (((31 : Int64) * v1) + z125.toInt64)), (0, .ref (aM 0)), (3, .int v3), (4, .int v4)]) C dX6_digest_130 (by decide) rfl rfl ?_
      refine n_iinc (v := v4 + (nI 1)) (lv' := [(4, .int (v4 + (nI 1))), (1, .long (((31 : Int64) * v1) + z125.toInt64)), (0, .ref (aM 0)), (3, .int v3)]) C dX6_digest_131 (j := 3) rfl rfl (by decide) rfl rfl ?_
      refine n_goto (t := 109) C dX6_digest_134 (by decide) ?_
      exact Wn.sub (lv' := [(0, .ref (aM 0)), (1, .long (((31 : Int64) * v1) + z125.toInt64)), (3, .int v3), (4, .int (v4 + (nI 1)))]) [2, 1, 3, 0] rfl (ih (((31 : Int64) * v1) + z125.toInt64) v3 (v4 + (nI 1)) oM hf)
set_option maxHeartbeats 4000000 in
set_option maxRecDepth 100000 in
theorem t6_digest_b96 {l : Launch} {p : Program} {e : Env} {s : State} {m : MethodId} {args : Array Value} {below : List Frame} {meth : Method} {c : Code} {D : va_G} {A : Nat → Prop} {cyI cyO cyJ : ClassId} {aM : Nat → Nat} (C : Cx p s m args meth c D (tyG cyI cyO cyJ) A RX6 cX6_digest 5 (some .long) wsX6_digest) {z : Int64 × (OB)} (n : Nat) {k143 : Int64 → OB → Option (Int64 × (OB))} (hk143 : ∀ (v1 : Int64) (oM : OB), k143 v1 oM = some z → Wn p l e rm6_digest s m args below meth c D A 5 0 0 (MQ below (Qr D (tyG cyI cyO cyJ) (bX6 cyI aM z.2) A (some (.long z.1))) args s 0 0 A) (bX6 cyI aM oM) 143 [(0, .ref (aM 0)), (1, .long v1)] []) : ∀ (k : Nat) (v1 : Int64) (v3 : Int32) (oM : OB), f6_digest_b96 n k143 k v1 v3 oM = some z → Wn p l e rm6_digest s m args below meth c D A 5 0 0 (MQ below (Qr D (tyG cyI cyO cyJ) (bX6 cyI aM z.2) A (some (.long z.1))) args s 0 0 A) (bX6 cyI aM oM) 96 [(0, .ref (aM 0)), (1, .long v1), (3, .int v3)] [] := by
  intro k
  induction k with
  | zero => intro  v1 v3 oM hf; cases hf
  | succ k ih =>
    intro  v1 v3 oM hf
    unfold f6_digest_b96 at hf
    refine n_iload_n C dX6_digest_96 2 rfl rfl ?_
    refine n_aload_n C dX6_digest_97 0 rfl rfl ?_
    refine n_get (N := 12) C dX6_digest_98 iw6_digest_X6 0 rfl rfl 0 (by decide) (List.mem_of_getElem? (i := 4) rfl) rfl rfl rfl ?_
    refine n_iconst (v := (nI 5)) C dX6_digest_101 (by decide) rfl ?_
    obtain ⟨x102, h102, hf⟩ := bi hf
    obtain ⟨h102, e102⟩ := ald_some h102
    refine n_iald C dX6_digest_102 1 0 rfl rfl h102 rfl ?_
    rw [← e102]
    refine n_icmp_ge (t := 143) C dX6_digest_103 (by decide) rfl (fun h103 => ?_) (fun h103 => ?_)
    · have hf := ip h103 hf
      exact Wn.sub (lv' := [(0, .ref (aM 0)), (1, .long v1)]) [0, 1] rfl (hk143 v1 oM hf)
    · have hf := iq h103 hf
      refine n_iconst (v := (nI 0)) C dX6_digest_106 (by decide) rfl ?_
      refine n_istore (lv' := [(4, .int (nI 0)), (0, .ref (aM 0)), (1, .long v1), (3, .int v3)]) C dX6_digest_107 (by decide) rfl rfl ?_
      exact Wn.sub (lv' := [(0, .ref (aM 0)), (1, .long v1), (3, .int v3), (4, .int (nI 0))]) [1, 2, 3, 0] rfl (t6_digest_b109 C n (fun v1 v3 oM hf => Wn.sub (lv' := [(0, .ref (aM 0)), (1, .long v1), (3, .int v3)]) [0, 1, 2] rfl (t6_digest_b137 C n ih hk143 v1 v3 oM hf)) n v1 v3 (nI 0) oM hf)
set_option maxHeartbeats 4000000 in
set_option maxRecDepth 100000 in
theorem t6_digest_b94 {l : Launch} {p : Program} {e : Env} {s : State} {m : MethodId} {args : Array Value} {below : List Frame} {meth : Method} {c : Code} {D : va_G} {A : Nat → Prop} {cyI cyO cyJ : ClassId} {aM : Nat → Nat} (C : Cx p s m args meth c D (tyG cyI cyO cyJ) A RX6 cX6_digest 5 (some .long) wsX6_digest) {z : Int64 × (OB)} (n : Nat) (v1 : Int64) (oM : OB) (hf : f6_digest_b94 n v1 oM = some z) : Wn p l e rm6_digest s m args below meth c D A 5 0 0 (MQ below (Qr D (tyG cyI cyO cyJ) (bX6 cyI aM z.2) A (some (.long z.1))) args s 0 0 A) (bX6 cyI aM oM) 94 [(0, .ref (aM 0)), (1, .long v1)] [] := by
  unfold f6_digest_b94 at hf
  refine n_iconst (v := (nI 0)) C dX6_digest_94 (by decide) rfl ?_
  refine n_istore_n (lv' := [(3, .int (nI 0)), (0, .ref (aM 0)), (1, .long v1)]) C dX6_digest_95 (by decide) rfl rfl ?_
  exact Wn.sub (lv' := [(0, .ref (aM 0)), (1, .long v1), (3, .int (nI 0))]) [1, 2, 0] rfl (t6_digest_b96 C n (fun v1 oM hf => Wn.sub (lv' := [(0, .ref (aM 0)), (1, .long v1)]) [0, 1] rfl (t6_digest_b143 C n v1 oM hf)) n v1 (nI 0) oM hf)
set_option maxHeartbeats 4000000 in
set_option maxRecDepth 100000 in
theorem t6_digest_b65 {l : Launch} {p : Program} {e : Env} {s : State} {m : MethodId} {args : Array Value} {below : List Frame} {meth : Method} {c : Code} {D : va_G} {A : Nat → Prop} {cyI cyO cyJ : ClassId} {aM : Nat → Nat} (C : Cx p s m args meth c D (tyG cyI cyO cyJ) A RX6 cX6_digest 5 (some .long) wsX6_digest) {z : Int64 × (OB)} (n : Nat) {k94 : Int64 → OB → Option (Int64 × (OB))} (hk94 : ∀ (v1 : Int64) (oM : OB), k94 v1 oM = some z → Wn p l e rm6_digest s m args below meth c D A 5 0 0 (MQ below (Qr D (tyG cyI cyO cyJ) (bX6 cyI aM z.2) A (some (.long z.1))) args s 0 0 A) (bX6 cyI aM oM) 94 [(0, .ref (aM 0)), (1, .long v1)] []) : ∀ (k : Nat) (v1 : Int64) (v3 : Int32) (oM : OB), f6_digest_b65 n k94 k v1 v3 oM = some z → Wn p l e rm6_digest s m args below meth c D A 5 0 0 (MQ below (Qr D (tyG cyI cyO cyJ) (bX6 cyI aM z.2) A (some (.long z.1))) args s 0 0 A) (bX6 cyI aM oM) 65 [(0, .ref (aM 0)), (1, .long v1), (3, .int v3)] [] := by
  intro k
  induction k with
  | zero => intro  v1 v3 oM hf; cases hf
  | succ k ih =>
    intro  v1 v3 oM hf
    unfold f6_digest_b65 at hf
    refine n_iload_n C dX6_digest_65 2 rfl rfl ?_
    refine n_bipush (v := (nI 12)) C dX6_digest_66 (by decide) rfl ?_
    refine n_icmp_ge (t := 94) C dX6_digest_68 (by decide) rfl (fun h68 => ?_) (fun h68 => ?_)
    · have hf := ip h68 hf
      exact Wn.sub (lv' := [(0, .ref (aM 0)), (1, .long v1)]) [0, 1] rfl (hk94 v1 oM hf)
    · have hf := iq h68 hf
      refine n_ldc2 (v := (31 : Int64)) C dX6_digest_71 (List.mem_of_getElem? (i := 3) rfl) rfl ?_
      refine n_lload_n C dX6_digest_74 1 rfl rfl ?_
      refine n_lmul C dX6_digest_75 rfl ?_
      refine n_aload_n C dX6_digest_76 0 rfl rfl ?_
      refine n_get (N := 12) C dX6_digest_77 iw6_digest_X6 0 rfl rfl 0 (by decide) (List.mem_of_getElem? (i := 4) rfl) rfl rfl rfl ?_
      refine n_bipush (v := (nI 6)) C dX6_digest_80 (by decide) rfl ?_
      refine n_iload_n C dX6_digest_82 2 rfl rfl ?_
      refine n_iadd C dX6_digest_83 rfl ?_
      obtain ⟨x84, h84, hf⟩ := bi hf
      obtain ⟨h84, e84⟩ := ald_some h84
      refine n_iald C dX6_digest_84 1 0 rfl rfl h84 rfl ?_
      rw [← e84]
      refine n_i2l C dX6_digest_85 rfl ?_
      refine n_ladd C dX6_digest_86 rfl ?_
      refine n_lstore_n (lv' := [(1, .long (((31 : Int64) * v1) + x84.toInt64)), (0, .ref (aM 0)), (3, .int v3)]) C dX6_digest_87 (by decide) rfl rfl ?_
      refine n_iinc (v := v3 + (nI 1)) (lv' := [(3, .int (v3 + (nI 1))), (1, .long (((31 : Int64) * v1) + x84.toInt64)), (0, .ref (aM 0))]) C dX6_digest_88 (j := 2) rfl rfl (by decide) rfl rfl ?_
      refine n_goto (t := 65) C dX6_digest_91 (by decide) ?_
      exact Wn.sub (lv' := [(0, .ref (aM 0)), (1, .long (((31 : Int64) * v1) + x84.toInt64)), (3, .int (v3 + (nI 1)))]) [2, 1, 0] rfl (ih (((31 : Int64) * v1) + x84.toInt64) (v3 + (nI 1)) oM hf)
set_option maxHeartbeats 4000000 in
set_option maxRecDepth 100000 in
theorem t6_digest_b63 {l : Launch} {p : Program} {e : Env} {s : State} {m : MethodId} {args : Array Value} {below : List Frame} {meth : Method} {c : Code} {D : va_G} {A : Nat → Prop} {cyI cyO cyJ : ClassId} {aM : Nat → Nat} (C : Cx p s m args meth c D (tyG cyI cyO cyJ) A RX6 cX6_digest 5 (some .long) wsX6_digest) {z : Int64 × (OB)} (n : Nat) (v1 : Int64) (oM : OB) (hf : f6_digest_b63 n v1 oM = some z) : Wn p l e rm6_digest s m args below meth c D A 5 0 0 (MQ below (Qr D (tyG cyI cyO cyJ) (bX6 cyI aM z.2) A (some (.long z.1))) args s 0 0 A) (bX6 cyI aM oM) 63 [(0, .ref (aM 0)), (1, .long v1)] [] := by
  unfold f6_digest_b63 at hf
  refine n_iconst (v := (nI 0)) C dX6_digest_63 (by decide) rfl ?_
  refine n_istore_n (lv' := [(3, .int (nI 0)), (0, .ref (aM 0)), (1, .long v1)]) C dX6_digest_64 (by decide) rfl rfl ?_
  exact Wn.sub (lv' := [(0, .ref (aM 0)), (1, .long v1), (3, .int (nI 0))]) [1, 2, 0] rfl (t6_digest_b65 C n (fun v1 oM hf => Wn.sub (lv' := [(0, .ref (aM 0)), (1, .long v1)]) [0, 1] rfl (t6_digest_b94 C n v1 oM hf)) n v1 (nI 0) oM hf)
set_option maxHeartbeats 4000000 in
set_option maxRecDepth 100000 in
theorem t6_digest_b38 {l : Launch} {p : Program} {e : Env} {s : State} {m : MethodId} {args : Array Value} {below : List Frame} {meth : Method} {c : Code} {D : va_G} {A : Nat → Prop} {cyI cyO cyJ : ClassId} {aM : Nat → Nat} (C : Cx p s m args meth c D (tyG cyI cyO cyJ) A RX6 cX6_digest 5 (some .long) wsX6_digest) {z : Int64 × (OB)} (n : Nat) {k63 : Int64 → OB → Option (Int64 × (OB))} (hk63 : ∀ (v1 : Int64) (oM : OB), k63 v1 oM = some z → Wn p l e rm6_digest s m args below meth c D A 5 0 0 (MQ below (Qr D (tyG cyI cyO cyJ) (bX6 cyI aM z.2) A (some (.long z.1))) args s 0 0 A) (bX6 cyI aM oM) 63 [(0, .ref (aM 0)), (1, .long v1)] []) : ∀ (k : Nat) (v1 : Int64) (v3 : Int32) (oM : OB), f6_digest_b38 n k63 k v1 v3 oM = some z → Wn p l e rm6_digest s m args below meth c D A 5 0 0 (MQ below (Qr D (tyG cyI cyO cyJ) (bX6 cyI aM z.2) A (some (.long z.1))) args s 0 0 A) (bX6 cyI aM oM) 38 [(0, .ref (aM 0)), (1, .long v1), (3, .int v3)] [] := by
  intro k
  induction k with
  | zero => intro  v1 v3 oM hf; cases hf
  | succ k ih =>
    intro  v1 v3 oM hf
    unfold f6_digest_b38 at hf
    refine n_iload_n C dX6_digest_38 2 rfl rfl ?_
    refine n_iconst (v := (nI 4)) C dX6_digest_39 (by decide) rfl ?_
    refine n_icmp_ge (t := 63) C dX6_digest_40 (by decide) rfl (fun h40 => ?_) (fun h40 => ?_)
    · have hf := ip h40 hf
      exact Wn.sub (lv' := [(0, .ref (aM 0)), (1, .long v1)]) [0, 1] rfl (hk63 v1 oM hf)
    · have hf := iq h40 hf
      refine n_ldc2 (v := (31 : Int64)) C dX6_digest_43 (List.mem_of_getElem? (i := 3) rfl) rfl ?_
      refine n_lload_n C dX6_digest_46 1 rfl rfl ?_
      refine n_lmul C dX6_digest_47 rfl ?_
      refine n_aload_n C dX6_digest_48 0 rfl rfl ?_
      refine n_get (N := 12) C dX6_digest_49 iw6_digest_X6 0 rfl rfl 0 (by decide) (List.mem_of_getElem? (i := 4) rfl) rfl rfl rfl ?_
      refine n_iload_n C dX6_digest_52 2 rfl rfl ?_
      obtain ⟨x53, h53, hf⟩ := bi hf
      obtain ⟨h53, e53⟩ := ald_some h53
      refine n_iald C dX6_digest_53 1 0 rfl rfl h53 rfl ?_
      rw [← e53]
      refine n_i2l C dX6_digest_54 rfl ?_
      refine n_ladd C dX6_digest_55 rfl ?_
      refine n_lstore_n (lv' := [(1, .long (((31 : Int64) * v1) + x53.toInt64)), (0, .ref (aM 0)), (3, .int v3)]) C dX6_digest_56 (by decide) rfl rfl ?_
      refine n_iinc (v := v3 + (nI 1)) (lv' := [(3, .int (v3 + (nI 1))), (1, .long (((31 : Int64) * v1) + x53.toInt64)), (0, .ref (aM 0))]) C dX6_digest_57 (j := 2) rfl rfl (by decide) rfl rfl ?_
      refine n_goto (t := 38) C dX6_digest_60 (by decide) ?_
      exact Wn.sub (lv' := [(0, .ref (aM 0)), (1, .long (((31 : Int64) * v1) + x53.toInt64)), (3, .int (v3 + (nI 1)))]) [2, 1, 0] rfl (ih (((31 : Int64) * v1) + x53.toInt64) (v3 + (nI 1)) oM hf)
set_option maxHeartbeats 4000000 in
set_option maxRecDepth 100000 in
theorem t6_digest_b36 {l : Launch} {p : Program} {e : Env} {s : State} {m : MethodId} {args : Array Value} {below : List Frame} {meth : Method} {c : Code} {D : va_G} {A : Nat → Prop} {cyI cyO cyJ : ClassId} {aM : Nat → Nat} (C : Cx p s m args meth c D (tyG cyI cyO cyJ) A RX6 cX6_digest 5 (some .long) wsX6_digest) {z : Int64 × (OB)} (n : Nat) (v1 : Int64) (oM : OB) (hf : f6_digest_b36 n v1 oM = some z) : Wn p l e rm6_digest s m args below meth c D A 5 0 0 (MQ below (Qr D (tyG cyI cyO cyJ) (bX6 cyI aM z.2) A (some (.long z.1))) args s 0 0 A) (bX6 cyI aM oM) 36 [(0, .ref (aM 0)), (1, .long v1)] [] := by
  unfold f6_digest_b36 at hf
  refine n_iconst (v := (nI 0)) C dX6_digest_36 (by decide) rfl ?_
  refine n_istore_n (lv' := [(3, .int (nI 0)), (0, .ref (aM 0)), (1, .long v1)]) C dX6_digest_37 (by decide) rfl rfl ?_
  exact Wn.sub (lv' := [(0, .ref (aM 0)), (1, .long v1), (3, .int (nI 0))]) [1, 2, 0] rfl (t6_digest_b38 C n (fun v1 oM hf => Wn.sub (lv' := [(0, .ref (aM 0)), (1, .long v1)]) [0, 1] rfl (t6_digest_b63 C n v1 oM hf)) n v1 (nI 0) oM hf)
set_option maxHeartbeats 4000000 in
set_option maxRecDepth 100000 in
theorem t6_digest_b11 {l : Launch} {p : Program} {e : Env} {s : State} {m : MethodId} {args : Array Value} {below : List Frame} {meth : Method} {c : Code} {D : va_G} {A : Nat → Prop} {cyI cyO cyJ : ClassId} {aM : Nat → Nat} (C : Cx p s m args meth c D (tyG cyI cyO cyJ) A RX6 cX6_digest 5 (some .long) wsX6_digest) {z : Int64 × (OB)} (n : Nat) {k36 : Int64 → OB → Option (Int64 × (OB))} (hk36 : ∀ (v1 : Int64) (oM : OB), k36 v1 oM = some z → Wn p l e rm6_digest s m args below meth c D A 5 0 0 (MQ below (Qr D (tyG cyI cyO cyJ) (bX6 cyI aM z.2) A (some (.long z.1))) args s 0 0 A) (bX6 cyI aM oM) 36 [(0, .ref (aM 0)), (1, .long v1)] []) : ∀ (k : Nat) (v1 : Int64) (v3 : Int32) (oM : OB), f6_digest_b11 n k36 k v1 v3 oM = some z → Wn p l e rm6_digest s m args below meth c D A 5 0 0 (MQ below (Qr D (tyG cyI cyO cyJ) (bX6 cyI aM z.2) A (some (.long z.1))) args s 0 0 A) (bX6 cyI aM oM) 11 [(0, .ref (aM 0)), (1, .long v1), (3, .int v3)] [] := by
  intro k
  induction k with
  | zero => intro  v1 v3 oM hf; cases hf
  | succ k ih =>
    intro  v1 v3 oM hf
    unfold f6_digest_b11 at hf
    refine n_iload_n C dX6_digest_11 2 rfl rfl ?_
    refine n_bipush (v := (nI 10)) C dX6_digest_12 (by decide) rfl ?_
    refine n_icmp_ge (t := 36) C dX6_digest_14 (by decide) rfl (fun h14 => ?_) (fun h14 => ?_)
    · have hf := ip h14 hf
      exact Wn.sub (lv' := [(0, .ref (aM 0)), (1, .long v1)]) [0, 1] rfl (hk36 v1 oM hf)
    · have hf := iq h14 hf
      refine n_ldc2 (v := (31 : Int64)) C dX6_digest_17 (List.mem_of_getElem? (i := 3) rfl) rfl ?_
      refine n_lload_n C dX6_digest_20 1 rfl rfl ?_
      refine n_lmul C dX6_digest_21 rfl ?_
      refine n_aload_n C dX6_digest_22 0 rfl rfl ?_
      refine n_iload_n C dX6_digest_23 2 rfl rfl ?_
      obtain ⟨z24, h24, hf⟩ := bi hf
      refine n_callV (As := [.int v3]) (rest := [.long ((31 : Int64) * v1)]) (w2 := bX6 cyI aM oM) C dX6_digest_24 (c6_counted l D cyI cyO cyJ aM n oM v3 z24 h24) (cwV 1 C.ts gX6_digest_X6_counted rfl rfl rfl (by decide +kernel) ⟨Nat.le_of_ble_eq_true rfl, Nat.le_of_ble_eq_true rfl⟩) rfl (q0 := 0) (ci := 6) rfl rfl Frm.self rfl (Nat.le_of_ble_eq_true rfl) ⟨Nat.le_of_ble_eq_true rfl, Nat.le_of_ble_eq_true rfl⟩ rfl ?_
      refine n_i2l C dX6_digest_27 rfl ?_
      refine n_ladd C dX6_digest_28 rfl ?_
      refine n_lstore_n (lv' := [(1, .long (((31 : Int64) * v1) + z24.toInt64)), (0, .ref (aM 0)), (3, .int v3)]) C dX6_digest_29 (by decide) rfl rfl ?_
      refine n_iinc (v := v3 + (nI 1)) (lv' := [(3, .int (v3 + (nI 1))), (1, .long (((31 : Int64) * v1) + z24.toInt64)), (0, .ref (aM 0))]) C dX6_digest_30 (j := 2) rfl rfl (by decide) rfl rfl ?_
      refine n_goto (t := 11) C dX6_digest_33 (by decide) ?_
      exact Wn.sub (lv' := [(0, .ref (aM 0)), (1, .long (((31 : Int64) * v1) + z24.toInt64)), (3, .int (v3 + (nI 1)))]) [2, 1, 0] rfl (ih (((31 : Int64) * v1) + z24.toInt64) (v3 + (nI 1)) oM hf)
set_option maxHeartbeats 4000000 in
set_option maxRecDepth 100000 in
theorem c6_digest (l : Launch) (D : va_G) (cyI cyO cyJ : ClassId) (aM : Nat → Nat) (n : Nat) (oM : OB) (z : Int64 × (OB)) (hf : f6_digest n oM = some z) : Ct l D (tyG cyI cyO cyJ) yX6_digest wsX6_digest rm6_digest 0 0 [.ref (aM 0)] (bX6 cyI aM oM) (bX6 cyI aM z.2) (some (.long z.1)) := by
  refine Ct.of (cc := cX6_digest) (nL := 5) (ret := (some .long)) (lv := [(0, .ref (aM 0))]) (by decide +kernel) rfl rfl (Nat.le_of_ble_eq_true rfl) ?_
  intro p e s m args below meth c A C
  have C : Cx p s m args meth c D (tyG cyI cyO cyJ) A RX6 cX6_digest 5 (some .long) wsX6_digest := C
  unfold f6_digest at hf
  refine n_aload_n C dX6_digest_0 0 rfl rfl ?_
  refine n_iconst (v := (nI 0)) C dX6_digest_1 (by decide) rfl ?_
  obtain ⟨oM_2, e2, hf⟩ := bi hf
  replace e2 := Option.some.inj e2
  refine n_put (w2 := bX6 cyI aM oM_2) (N := 12) (ty := .int) C dX6_digest_2 iw6_digest_X6 tyX6_ok nmX6 0 rfl rfl 6 (by decide) (List.mem_of_getElem? (i := 1) rfl) rfl rfl (by decide +kernel) rfl rfl (Nat.le_of_ble_eq_true rfl) (by subst e2; rfl) rfl ?_
  refine n_ldc2 (v := (3011 : Int64)) C dX6_digest_5 (List.mem_of_getElem? (i := 2) rfl) rfl ?_
  refine n_lstore_n (lv' := [(1, .long (3011 : Int64)), (0, .ref (aM 0))]) C dX6_digest_8 (by decide) rfl rfl ?_
  refine n_iconst (v := (nI 0)) C dX6_digest_9 (by decide) rfl ?_
  refine n_istore_n (lv' := [(3, .int (nI 0)), (1, .long (3011 : Int64)), (0, .ref (aM 0))]) C dX6_digest_10 (by decide) rfl rfl ?_
  exact Wn.sub (lv' := [(0, .ref (aM 0)), (1, .long (3011 : Int64)), (3, .int (nI 0))]) [2, 1, 0] rfl (t6_digest_b11 C n (fun v1 oM hf => Wn.sub (lv' := [(0, .ref (aM 0)), (1, .long v1)]) [0, 1] rfl (t6_digest_b36 C n v1 oM hf)) n (3011 : Int64) (nI 0) oM_2 hf)
