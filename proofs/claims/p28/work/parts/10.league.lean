abbrev bX1 (cyI : ClassId) (a : Nat → Nat) (o : OB) : va_W := [(a 0, .inr (1, [.int (o.1 0), .int (o.1 1), .int (o.1 2), .ref (a 4), .ref (a 5), .ref (a 6), .ref (a 7), .ref (a 8), .ref (a 9), .ref (a 10), .ref (a 11), .ref (a 12), .ref (a 13), .ref (a 14), .ref (a 15)])), (a 4, .inl (cyI, 4, .inl (o.2 3))), (a 5, .inl (cyI, 6, .inl (o.2 4))), (a 6, .inl (cyI, 6, .inl (o.2 5))), (a 7, .inl (cyI, 28, .inl (o.2 6))), (a 8, .inl (cyI, 28, .inl (o.2 7))), (a 9, .inl (cyI, 28, .inl (o.2 8))), (a 10, .inl (cyI, 28, .inl (o.2 9))), (a 11, .inl (cyI, 28, .inl (o.2 10))), (a 12, .inl (cyI, 28, .inl (o.2 11))), (a 13, .inl (cyI, 28, .inl (o.2 12))), (a 14, .inl (cyI, 28, .inl (o.2 13))), (a 15, .inl (cyI, 28, .inl (o.2 14)))]
-- X1 hasMatch 
theorem iw1_hasMatch_X1 : ∀ w ∈ u_ws RX1 TX1 15, w ∈ wsX1_hasMatch := by decide +kernel
abbrev rm1_hasMatch : Room := { frames := 0, cells := 0, slots := 0, locals := 0 }
def f1_hasMatch (n : Nat) (oL : OB) (x1 : Int32) : Option (Int32) :=
  (if x1 < (0 : Int32) then some (nI 0) else (if (oL.1 2) ≤ x1 then some (nI 0) else some (nI 1)))
set_option maxHeartbeats 4000000 in
set_option maxRecDepth 100000 in
theorem c1_hasMatch (l : Launch) (D : va_G) (cyI cyO cyJ : ClassId) (aL : Nat → Nat) (n : Nat) (oL : OB) (x1 : Int32) (z : Int32) (hf : f1_hasMatch n oL x1 = some z) : Ct l D (tyG cyI cyO cyJ) yX1_hasMatch wsX1_hasMatch rm1_hasMatch 0 0 [.ref (aL 0), .int x1] (bX1 cyI aL oL) (bX1 cyI aL oL) (some (.int z)) := by
  refine Ct.of (cc := cX1_hasMatch) (nL := 2) (ret := (some .boolean)) (lv := [(0, .ref (aL 0)), (1, .int x1)]) (by decide +kernel) rfl rfl (Nat.le_of_ble_eq_true rfl) ?_
  intro p e s m args below meth c A C
  have C : Cx p s m args meth c D (tyG cyI cyO cyJ) A RX1 cX1_hasMatch 2 (some .boolean) wsX1_hasMatch := C
  unfold f1_hasMatch at hf
  refine n_iload_n C dX1_hasMatch_0 1 rfl rfl ?_
  refine n_if_lt (t := 16) C dX1_hasMatch_1 (by decide) rfl (fun h1 => ?_) (fun h1 => ?_)
  · have hf := ip h1 hf
    refine n_iconst (v := (nI 0)) C dX1_hasMatch_16 (by decide) rfl ?_
    obtain rfl := Option.some.inj hf
    exact n_zret C dX1_hasMatch_17 (Or.inl rfl)
  · have hf := iq h1 hf
    refine n_iload_n C dX1_hasMatch_4 1 rfl rfl ?_
    refine n_aload_n C dX1_hasMatch_5 0 rfl rfl ?_
    refine n_get (N := 15) C dX1_hasMatch_6 iw1_hasMatch_X1 0 rfl rfl 2 (by decide) (List.mem_of_getElem? (i := 1) rfl) rfl rfl rfl ?_
    refine n_icmp_ge (t := 16) C dX1_hasMatch_9 (by decide) rfl (fun h9 => ?_) (fun h9 => ?_)
    · have hf := ip h9 hf
      refine n_iconst (v := (nI 0)) C dX1_hasMatch_16 (by decide) rfl ?_
      obtain rfl := Option.some.inj hf
      exact n_zret C dX1_hasMatch_17 (Or.inl rfl)
    · have hf := iq h9 hf
      refine n_iconst (v := (nI 1)) C dX1_hasMatch_12 (by decide) rfl ?_
      refine n_goto (t := 17) C dX1_hasMatch_13 (by decide) ?_
      obtain rfl := Option.some.inj hf
      exact n_zret C dX1_hasMatch_17 (Or.inr rfl)
-- X1 hasTeam 
theorem iw1_hasTeam_X1 : ∀ w ∈ u_ws RX1 TX1 15, w ∈ wsX1_hasTeam := by decide +kernel
abbrev rm1_hasTeam : Room := { frames := 0, cells := 0, slots := 0, locals := 0 }
def f1_hasTeam (n : Nat) (oL : OB) (x1 : Int32) : Option (Int32) :=
  (if x1 < (0 : Int32) then some (nI 0) else (if (oL.1 0) ≤ x1 then some (nI 0) else some (nI 1)))
set_option maxHeartbeats 4000000 in
set_option maxRecDepth 100000 in
theorem c1_hasTeam (l : Launch) (D : va_G) (cyI cyO cyJ : ClassId) (aL : Nat → Nat) (n : Nat) (oL : OB) (x1 : Int32) (z : Int32) (hf : f1_hasTeam n oL x1 = some z) : Ct l D (tyG cyI cyO cyJ) yX1_hasTeam wsX1_hasTeam rm1_hasTeam 0 0 [.ref (aL 0), .int x1] (bX1 cyI aL oL) (bX1 cyI aL oL) (some (.int z)) := by
  refine Ct.of (cc := cX1_hasTeam) (nL := 2) (ret := (some .boolean)) (lv := [(0, .ref (aL 0)), (1, .int x1)]) (by decide +kernel) rfl rfl (Nat.le_of_ble_eq_true rfl) ?_
  intro p e s m args below meth c A C
  have C : Cx p s m args meth c D (tyG cyI cyO cyJ) A RX1 cX1_hasTeam 2 (some .boolean) wsX1_hasTeam := C
  unfold f1_hasTeam at hf
  refine n_iload_n C dX1_hasTeam_0 1 rfl rfl ?_
  refine n_if_lt (t := 16) C dX1_hasTeam_1 (by decide) rfl (fun h1 => ?_) (fun h1 => ?_)
  · have hf := ip h1 hf
    refine n_iconst (v := (nI 0)) C dX1_hasTeam_16 (by decide) rfl ?_
    obtain rfl := Option.some.inj hf
    exact n_zret C dX1_hasTeam_17 (Or.inl rfl)
  · have hf := iq h1 hf
    refine n_iload_n C dX1_hasTeam_4 1 rfl rfl ?_
    refine n_aload_n C dX1_hasTeam_5 0 rfl rfl ?_
    refine n_get (N := 15) C dX1_hasTeam_6 iw1_hasTeam_X1 0 rfl rfl 0 (by decide) (List.mem_of_getElem? (i := 1) rfl) rfl rfl rfl ?_
    refine n_icmp_ge (t := 16) C dX1_hasTeam_9 (by decide) rfl (fun h9 => ?_) (fun h9 => ?_)
    · have hf := ip h9 hf
      refine n_iconst (v := (nI 0)) C dX1_hasTeam_16 (by decide) rfl ?_
      obtain rfl := Option.some.inj hf
      exact n_zret C dX1_hasTeam_17 (Or.inl rfl)
    · have hf := iq h9 hf
      refine n_iconst (v := (nI 1)) C dX1_hasTeam_12 (by decide) rfl ?_
      refine n_goto (t := 17) C dX1_hasTeam_13 (by decide) ?_
      obtain rfl := Option.some.inj hf
      exact n_zret C dX1_hasTeam_17 (Or.inr rfl)
-- X1 canHaveResult 
theorem iw1_canHaveResult_X1 : ∀ w ∈ u_ws RX1 TX1 15, w ∈ wsX1_canHaveResult := by decide +kernel
abbrev rm1_canHaveResult : Room := { frames := 1, cells := 0, slots := 0, locals := 21 }
def f1_canHaveResult (n : Nat) (oL : OB) (x1 : Int32) : Option (Int32) :=
  (f1_hasMatch n oL x1).bind fun z2 => (if z2 = (0 : Int32) then some (nI 0) else (ald 28 (oL.2 9) x1).bind fun x13 => (if x13 = (-1 : Int32) then some (nI 0) else some (nI 1)))
set_option maxHeartbeats 4000000 in
set_option maxRecDepth 100000 in
theorem c1_canHaveResult (l : Launch) (D : va_G) (cyI cyO cyJ : ClassId) (aL : Nat → Nat) (n : Nat) (oL : OB) (x1 : Int32) (z : Int32) (hf : f1_canHaveResult n oL x1 = some z) : Ct l D (tyG cyI cyO cyJ) yX1_canHaveResult wsX1_canHaveResult rm1_canHaveResult 0 0 [.ref (aL 0), .int x1] (bX1 cyI aL oL) (bX1 cyI aL oL) (some (.int z)) := by
  refine Ct.of (cc := cX1_canHaveResult) (nL := 2) (ret := (some .boolean)) (lv := [(0, .ref (aL 0)), (1, .int x1)]) (by decide +kernel) rfl rfl (Nat.le_of_ble_eq_true rfl) ?_
  intro p e s m args below meth c A C
  have C : Cx p s m args meth c D (tyG cyI cyO cyJ) A RX1 cX1_canHaveResult 2 (some .boolean) wsX1_canHaveResult := C
  unfold f1_canHaveResult at hf
  refine n_aload_n C dX1_canHaveResult_0 0 rfl rfl ?_
  refine n_iload_n C dX1_canHaveResult_1 1 rfl rfl ?_
  obtain ⟨z2, h2, hf⟩ := bi hf
  refine n_callV (As := [.int x1]) (rest := []) (w2 := bX1 cyI aL oL) C dX1_canHaveResult_2 (c1_hasMatch l D cyI cyO cyJ aL n oL x1 z2 h2) (cwV 1 C.ts gX1_canHaveResult_X1_hasMatch rfl rfl rfl (by decide +kernel) ⟨Nat.le_of_ble_eq_true rfl, Nat.le_of_ble_eq_true rfl⟩) rfl (q0 := 0) (ci := 1) rfl rfl Frm.self rfl (Nat.le_of_ble_eq_true rfl) ⟨Nat.le_of_ble_eq_true rfl, Nat.le_of_ble_eq_true rfl⟩ rfl ?_
  refine n_if_eq (t := 22) C dX1_canHaveResult_5 (by decide) rfl (fun h5 => ?_) (fun h5 => ?_)
  · have hf := ip h5 hf
    refine n_iconst (v := (nI 0)) C dX1_canHaveResult_22 (by decide) rfl ?_
    obtain rfl := Option.some.inj hf
    exact n_zret C dX1_canHaveResult_23 (Or.inl rfl)
  · have hf := iq h5 hf
    refine n_aload_n C dX1_canHaveResult_8 0 rfl rfl ?_
    refine n_get (N := 15) C dX1_canHaveResult_9 iw1_canHaveResult_X1 0 rfl rfl 9 (by decide) (List.mem_of_getElem? (i := 1) rfl) rfl rfl rfl ?_
    refine n_iload_n C dX1_canHaveResult_12 1 rfl rfl ?_
    obtain ⟨x13, h13, hf⟩ := bi hf
    obtain ⟨h13, e13⟩ := ald_some h13
    refine n_iald C dX1_canHaveResult_13 7 0 rfl rfl h13 rfl ?_
    rw [← e13]
    refine n_iconst (v := (-1 : Int32)) C dX1_canHaveResult_14 (by decide) rfl ?_
    refine n_icmp_eq (t := 22) C dX1_canHaveResult_15 (by decide) rfl (fun h15 => ?_) (fun h15 => ?_)
    · have hf := ip h15 hf
      refine n_iconst (v := (nI 0)) C dX1_canHaveResult_22 (by decide) rfl ?_
      obtain rfl := Option.some.inj hf
      exact n_zret C dX1_canHaveResult_23 (Or.inl rfl)
    · have hf := iq h15 hf
      refine n_iconst (v := (nI 1)) C dX1_canHaveResult_18 (by decide) rfl ?_
      refine n_goto (t := 23) C dX1_canHaveResult_19 (by decide) ?_
      obtain rfl := Option.some.inj hf
      exact n_zret C dX1_canHaveResult_23 (Or.inr rfl)
-- X1 give 
theorem iw1_give_X1 : ∀ w ∈ u_ws RX1 TX1 15, w ∈ wsX1_give := by decide +kernel
abbrev rm1_give : Room := { frames := 1, cells := 0, slots := 0, locals := 21 }
def f1_give (n : Nat) (oL : OB) (x1 : Int32) (x2 : Int32) (x3 : Int32) (x4 : Int32) : Option ((OB)) :=
  (f1_hasMatch n oL x1).bind fun z2 => (if z2 = (0 : Int32) then some oL else (oast oL 12 28 x1 x2).bind fun oL_15 => (oast oL_15 13 28 x1 x3).bind fun oL_22 => (oast oL_22 14 28 x1 x4).bind fun oL_30 => some oL_30)
set_option maxHeartbeats 4000000 in
set_option maxRecDepth 100000 in
theorem c1_give (l : Launch) (D : va_G) (cyI cyO cyJ : ClassId) (aL : Nat → Nat) (n : Nat) (oL : OB) (x1 : Int32) (x2 : Int32) (x3 : Int32) (x4 : Int32) (z : (OB)) (hf : f1_give n oL x1 x2 x3 x4 = some z) : Ct l D (tyG cyI cyO cyJ) yX1_give wsX1_give rm1_give 0 0 [.ref (aL 0), .int x1, .int x2, .int x3, .int x4] (bX1 cyI aL oL) (bX1 cyI aL z) none := by
  refine Ct.of (cc := cX1_give) (nL := 5) (ret := none) (lv := [(0, .ref (aL 0)), (1, .int x1), (2, .int x2), (3, .int x3), (4, .int x4)]) (by decide +kernel) rfl rfl (Nat.le_of_ble_eq_true rfl) ?_
  intro p e s m args below meth c A C
  have C : Cx p s m args meth c D (tyG cyI cyO cyJ) A RX1 cX1_give 5 none wsX1_give := C
  unfold f1_give at hf
  refine n_aload_n C dX1_give_0 0 rfl rfl ?_
  refine n_iload_n C dX1_give_1 1 rfl rfl ?_
  obtain ⟨z2, h2, hf⟩ := bi hf
  refine n_callV (As := [.int x1]) (rest := []) (w2 := bX1 cyI aL oL) C dX1_give_2 (c1_hasMatch l D cyI cyO cyJ aL n oL x1 z2 h2) (cwV 1 C.ts gX1_give_X1_hasMatch rfl rfl rfl (by decide +kernel) ⟨Nat.le_of_ble_eq_true rfl, Nat.le_of_ble_eq_true rfl⟩) rfl (q0 := 0) (ci := 1) rfl rfl Frm.self rfl (Nat.le_of_ble_eq_true rfl) ⟨Nat.le_of_ble_eq_true rfl, Nat.le_of_ble_eq_true rfl⟩ rfl ?_
  refine n_if_ne (t := 9) C dX1_give_5 (by decide) rfl (fun h5 => ?_) (fun h5 => ?_)
  · have hf := iq h5 hf
    refine n_aload_n C dX1_give_9 0 rfl rfl ?_
    refine n_get (N := 15) C dX1_give_10 iw1_give_X1 0 rfl rfl 12 (by decide) (List.mem_of_getElem? (i := 1) rfl) rfl rfl rfl ?_
    refine n_iload_n C dX1_give_13 1 rfl rfl ?_
    refine n_iload_n C dX1_give_14 2 rfl rfl ?_
    obtain ⟨oL_15, h15, hf⟩ := bi hf
    obtain ⟨h15, e15⟩ := oast_some h15
    refine n_iast (w2 := bX1 cyI aL oL_15) C dX1_give_15 10 0 rfl rfl h15 (by subst e15; rfl) rfl ?_
    refine n_aload_n C dX1_give_16 0 rfl rfl ?_
    refine n_get (N := 15) C dX1_give_17 iw1_give_X1 0 rfl rfl 13 (by decide) (List.mem_of_getElem? (i := 2) rfl) rfl rfl rfl ?_
    refine n_iload_n C dX1_give_20 1 rfl rfl ?_
    refine n_iload_n C dX1_give_21 3 rfl rfl ?_
    obtain ⟨oL_22, h22, hf⟩ := bi hf
    obtain ⟨h22, e22⟩ := oast_some h22
    refine n_iast (w2 := bX1 cyI aL oL_22) C dX1_give_22 11 0 rfl rfl h22 (by subst e22; rfl) rfl ?_
    refine n_aload_n C dX1_give_23 0 rfl rfl ?_
    refine n_get (N := 15) C dX1_give_24 iw1_give_X1 0 rfl rfl 14 (by decide) (List.mem_of_getElem? (i := 3) rfl) rfl rfl rfl ?_
    refine n_iload_n C dX1_give_27 1 rfl rfl ?_
    refine n_iload C dX1_give_28 4 rfl rfl ?_
    obtain ⟨oL_30, h30, hf⟩ := bi hf
    obtain ⟨h30, e30⟩ := oast_some h30
    refine n_iast (w2 := bX1 cyI aL oL_30) C dX1_give_30 12 0 rfl rfl h30 (by subst e30; rfl) rfl ?_
    obtain rfl := Option.some.inj hf
    exact n_vret C dX1_give_31
  · have hf := ip h5 hf
    obtain rfl := Option.some.inj hf
    exact n_vret C dX1_give_8
-- X1 addMatch 
theorem iw1_addMatch_X1 : ∀ w ∈ u_ws RX1 TX1 15, w ∈ wsX1_addMatch := by decide +kernel
abbrev rm1_addMatch : Room := { frames := 0, cells := 0, slots := 0, locals := 0 }
def f1_addMatch (n : Nat) (oL : OB) (x1 : Int32) (x2 : Int32) (x3 : Int32) : Option ((OB)) :=
  (if (oL.1 0) ≤ x2 then some oL else (if (oL.1 0) ≤ x3 then some oL else (if (oL.1 2) < (nI 28) then (some (gsi oL 2 ((oL.1 2) + (nI 1)))).bind fun oL_39 => (oast oL_39 6 28 (oL.1 2) x1).bind fun oL_49 => (oast oL_49 7 28 (oL.1 2) x2).bind fun oL_57 => (oast oL_57 8 28 (oL.1 2) x3).bind fun oL_65 => (oast oL_65 9 28 (oL.1 2) (-1 : Int32)).bind fun oL_73 => (oast oL_73 10 28 (oL.1 2) (-1 : Int32)).bind fun oL_81 => (oast oL_81 11 28 (oL.1 2) (nI 0)).bind fun oL_89 => (oast oL_89 12 28 (oL.1 2) (nI 0)).bind fun oL_97 => some oL_97 else some oL)))
set_option maxHeartbeats 4000000 in
set_option maxRecDepth 100000 in
theorem c1_addMatch (l : Launch) (D : va_G) (cyI cyO cyJ : ClassId) (aL : Nat → Nat) (n : Nat) (oL : OB) (x1 : Int32) (x2 : Int32) (x3 : Int32) (z : (OB)) (hf : f1_addMatch n oL x1 x2 x3 = some z) : Ct l D (tyG cyI cyO cyJ) yX1_addMatch wsX1_addMatch rm1_addMatch 0 0 [.ref (aL 0), .int x1, .int x2, .int x3] (bX1 cyI aL oL) (bX1 cyI aL z) none := by
  refine Ct.of (cc := cX1_addMatch) (nL := 5) (ret := none) (lv := [(0, .ref (aL 0)), (1, .int x1), (2, .int x2), (3, .int x3)]) (by decide +kernel) rfl rfl (Nat.le_of_ble_eq_true rfl) ?_
  intro p e s m args below meth c A C
  have C : Cx p s m args meth c D (tyG cyI cyO cyJ) A RX1 cX1_addMatch 5 none wsX1_addMatch := C
  unfold f1_addMatch at hf
  refine n_iload_n C dX1_addMatch_0 2 rfl rfl ?_
  refine n_aload_n C dX1_addMatch_1 0 rfl rfl ?_
  refine n_get (N := 15) C dX1_addMatch_2 iw1_addMatch_X1 0 rfl rfl 0 (by decide) (List.mem_of_getElem? (i := 1) rfl) rfl rfl rfl ?_
  refine n_icmp_ge (t := 25) C dX1_addMatch_5 (by decide) rfl (fun h5 => ?_) (fun h5 => ?_)
  · have hf := ip h5 hf
    obtain rfl := Option.some.inj hf
    exact n_vret C dX1_addMatch_25
  · have hf := iq h5 hf
    refine n_iload_n C dX1_addMatch_8 3 rfl rfl ?_
    refine n_aload_n C dX1_addMatch_9 0 rfl rfl ?_
    refine n_get (N := 15) C dX1_addMatch_10 iw1_addMatch_X1 0 rfl rfl 0 (by decide) (List.mem_of_getElem? (i := 1) rfl) rfl rfl rfl ?_
    refine n_icmp_ge (t := 25) C dX1_addMatch_13 (by decide) rfl (fun h13 => ?_) (fun h13 => ?_)
    · have hf := ip h13 hf
      obtain rfl := Option.some.inj hf
      exact n_vret C dX1_addMatch_25
    · have hf := iq h13 hf
      refine n_aload_n C dX1_addMatch_16 0 rfl rfl ?_
      refine n_get (N := 15) C dX1_addMatch_17 iw1_addMatch_X1 0 rfl rfl 2 (by decide) (List.mem_of_getElem? (i := 2) rfl) rfl rfl rfl ?_
      refine n_bipush (v := (nI 28)) C dX1_addMatch_20 (by decide) rfl ?_
      refine n_icmp_lt (t := 26) C dX1_addMatch_22 (by decide) rfl (fun h22 => ?_) (fun h22 => ?_)
      · have hf := ip h22 hf
        refine n_aload_n C dX1_addMatch_26 0 rfl rfl ?_
        refine n_get (N := 15) C dX1_addMatch_27 iw1_addMatch_X1 0 rfl rfl 2 (by decide) (List.mem_of_getElem? (i := 2) rfl) rfl rfl rfl ?_
        refine n_istore (lv' := [(4, .int (oL.1 2)), (0, .ref (aL 0)), (1, .int x1), (2, .int x2), (3, .int x3)]) C dX1_addMatch_30 (by decide) rfl rfl ?_
        refine n_aload_n C dX1_addMatch_32 1 rfl rfl ?_
        refine n_dup C dX1_addMatch_33 rfl rfl ?_
        refine n_get (N := 15) C dX1_addMatch_34 iw1_addMatch_X1 0 rfl rfl 2 (by decide) (List.mem_of_getElem? (i := 2) rfl) rfl rfl rfl ?_
        refine n_iconst (v := (nI 1)) C dX1_addMatch_37 (by decide) rfl ?_
        refine n_iadd C dX1_addMatch_38 rfl ?_
        obtain ⟨oL_39, e39, hf⟩ := bi hf
        replace e39 := Option.some.inj e39
        refine n_put (w2 := bX1 cyI aL oL_39) (N := 15) (ty := .int) C dX1_addMatch_39 iw1_addMatch_X1 tyX1_ok nmX1 0 rfl rfl 2 (by decide) (List.mem_of_getElem? (i := 2) rfl) rfl rfl (by decide +kernel) rfl rfl (Nat.le_of_ble_eq_true rfl) (by subst e39; rfl) rfl ?_
        refine n_aload_n C dX1_addMatch_42 1 rfl rfl ?_
        refine n_get (N := 15) C dX1_addMatch_43 iw1_addMatch_X1 0 rfl rfl 6 (by decide) (List.mem_of_getElem? (i := 3) rfl) rfl rfl rfl ?_
        refine n_iload C dX1_addMatch_46 0 rfl rfl ?_
        refine n_iload_n C dX1_addMatch_48 2 rfl rfl ?_
        obtain ⟨oL_49, h49, hf⟩ := bi hf
        obtain ⟨h49, e49⟩ := oast_some h49
        refine n_iast (w2 := bX1 cyI aL oL_49) C dX1_addMatch_49 4 0 rfl rfl h49 (by subst e49; rfl) rfl ?_
        refine n_aload_n C dX1_addMatch_50 1 rfl rfl ?_
        refine n_get (N := 15) C dX1_addMatch_51 iw1_addMatch_X1 0 rfl rfl 7 (by decide) (List.mem_of_getElem? (i := 4) rfl) rfl rfl rfl ?_
        refine n_iload C dX1_addMatch_54 0 rfl rfl ?_
        refine n_iload_n C dX1_addMatch_56 3 rfl rfl ?_
        obtain ⟨oL_57, h57, hf⟩ := bi hf
        obtain ⟨h57, e57⟩ := oast_some h57
        refine n_iast (w2 := bX1 cyI aL oL_57) C dX1_addMatch_57 5 0 rfl rfl h57 (by subst e57; rfl) rfl ?_
        refine n_aload_n C dX1_addMatch_58 1 rfl rfl ?_
        refine n_get (N := 15) C dX1_addMatch_59 iw1_addMatch_X1 0 rfl rfl 8 (by decide) (List.mem_of_getElem? (i := 5) rfl) rfl rfl rfl ?_
        refine n_iload C dX1_addMatch_62 0 rfl rfl ?_
        refine n_iload_n C dX1_addMatch_64 4 rfl rfl ?_
        obtain ⟨oL_65, h65, hf⟩ := bi hf
        obtain ⟨h65, e65⟩ := oast_some h65
        refine n_iast (w2 := bX1 cyI aL oL_65) C dX1_addMatch_65 6 0 rfl rfl h65 (by subst e65; rfl) rfl ?_
        refine n_aload_n C dX1_addMatch_66 1 rfl rfl ?_
        refine n_get (N := 15) C dX1_addMatch_67 iw1_addMatch_X1 0 rfl rfl 9 (by decide) (List.mem_of_getElem? (i := 6) rfl) rfl rfl rfl ?_
        refine n_iload C dX1_addMatch_70 0 rfl rfl ?_
        refine n_iconst (v := (-1 : Int32)) C dX1_addMatch_72 (by decide) rfl ?_
        obtain ⟨oL_73, h73, hf⟩ := bi hf
        obtain ⟨h73, e73⟩ := oast_some h73
        refine n_iast (w2 := bX1 cyI aL oL_73) C dX1_addMatch_73 7 0 rfl rfl h73 (by subst e73; rfl) rfl ?_
        refine n_aload_n C dX1_addMatch_74 1 rfl rfl ?_
        refine n_get (N := 15) C dX1_addMatch_75 iw1_addMatch_X1 0 rfl rfl 10 (by decide) (List.mem_of_getElem? (i := 7) rfl) rfl rfl rfl ?_
        refine n_iload C dX1_addMatch_78 0 rfl rfl ?_
        refine n_iconst (v := (-1 : Int32)) C dX1_addMatch_80 (by decide) rfl ?_
        obtain ⟨oL_81, h81, hf⟩ := bi hf
        obtain ⟨h81, e81⟩ := oast_some h81
        refine n_iast (w2 := bX1 cyI aL oL_81) C dX1_addMatch_81 8 0 rfl rfl h81 (by subst e81; rfl) rfl ?_
        refine n_aload_n C dX1_addMatch_82 1 rfl rfl ?_
        refine n_get (N := 15) C dX1_addMatch_83 iw1_addMatch_X1 0 rfl rfl 11 (by decide) (List.mem_of_getElem? (i := 8) rfl) rfl rfl rfl ?_
        refine n_iload C dX1_addMatch_86 0 rfl rfl ?_
        refine n_iconst (v := (nI 0)) C dX1_addMatch_88 (by decide) rfl ?_
        obtain ⟨oL_89, h89, hf⟩ := bi hf
        obtain ⟨h89, e89⟩ := oast_some h89
        refine n_iast (w2 := bX1 cyI aL oL_89) C dX1_addMatch_89 9 0 rfl rfl h89 (by subst e89; rfl) rfl ?_
        refine n_aload_n C dX1_addMatch_90 1 rfl rfl ?_
        refine n_get (N := 15) C dX1_addMatch_91 iw1_addMatch_X1 0 rfl rfl 12 (by decide) (List.mem_of_getElem? (i := 9) rfl) rfl rfl rfl ?_
        refine n_iload C dX1_addMatch_94 0 rfl rfl ?_
        refine n_iconst (v := (nI 0)) C dX1_addMatch_96 (by decide) rfl ?_
        obtain ⟨oL_97, h97, hf⟩ := bi hf
        obtain ⟨h97, e97⟩ := oast_some h97
        refine n_iast (w2 := bX1 cyI aL oL_97) C dX1_addMatch_97 10 0 rfl rfl h97 (by subst e97; rfl) rfl ?_
        obtain rfl := Option.some.inj hf
        exact n_vret C dX1_addMatch_98
      · have hf := iq h22 hf
        obtain rfl := Option.some.inj hf
        exact n_vret C dX1_addMatch_25
-- X1 pairRound 
theorem iw1_pairRound_X1 : ∀ w ∈ u_ws RX1 TX1 15, w ∈ wsX1_pairRound := by decide +kernel
abbrev rm1_pairRound : Room := { frames := 1, cells := 0, slots := 0, locals := 24 }
def f1_pairRound_b53 (n : Nat) (x1 : Int32) (k12 : Int32 → OB → Option ((OB))) (v2 : Int32) (v4 : Int32) (s1 : Int32) (s2 : Int32) (oL : OB) : Option ((OB)) :=
  (if (0 : Int32) ≤ v4 then (f1_addMatch n oL s1 s2 v4).bind fun z70 => k12 (v2 + (nI 1)) z70 else (f1_addMatch n oL s1 s2 (v4 + (oL.1 1))).bind fun z70 => k12 (v2 + (nI 1)) z70)
def f1_pairRound_b12 (n : Nat) (x1 : Int32) : Nat → Int32 → OB → Option ((OB))
  | 0, _, _ => none
  | k + 1, v2, oL =>
    (if (((oL.1 1) + (nI 1)) / (nI 2)) ≤ v2 then some oL else (if (x1 + v2) < (oL.1 1) then f1_pairRound_b53 n x1 (f1_pairRound_b12 n x1 k) v2 (x1 - v2) x1 (x1 + v2) oL else f1_pairRound_b53 n x1 (f1_pairRound_b12 n x1 k) v2 (x1 - v2) x1 ((x1 + v2) - (oL.1 1)) oL))
def f1_pairRound (n : Nat) (oL : OB) (x1 : Int32) : Option ((OB)) :=
  (f1_addMatch n oL x1 (oL.1 1) x1).bind fun z7 => f1_pairRound_b12 n x1 n (nI 1) z7
set_option maxHeartbeats 4000000 in
set_option maxRecDepth 100000 in
theorem t1_pairRound_b53 {l : Launch} {p : Program} {e : Env} {s : State} {m : MethodId} {args : Array Value} {below : List Frame} {meth : Method} {c : Code} {D : va_G} {A : Nat → Prop} {cyI cyO cyJ : ClassId} {aL : Nat → Nat} (C : Cx p s m args meth c D (tyG cyI cyO cyJ) A RX1 cX1_pairRound 5 none wsX1_pairRound) {z : (OB)} (n : Nat) (x1 : Int32) {k12 : Int32 → OB → Option ((OB))} (hk12 : ∀ (v2 : Int32) (oL : OB), k12 v2 oL = some z → Wn p l e rm1_pairRound s m args below meth c D A 5 0 0 (MQ below (Qr D (tyG cyI cyO cyJ) (bX1 cyI aL z) A none) args s 0 0 A) (bX1 cyI aL oL) 12 [(0, .ref (aL 0)), (1, .int x1), (2, .int v2)] []) (v2 : Int32) (v4 : Int32) (s1 : Int32) (s2 : Int32) (oL : OB) (hf : f1_pairRound_b53 n x1 k12 v2 v4 s1 s2 oL = some z) : Wn p l e rm1_pairRound s m args below meth c D A 5 0 0 (MQ below (Qr D (tyG cyI cyO cyJ) (bX1 cyI aL z) A none) args s 0 0 A) (bX1 cyI aL oL) 53 [(0, .ref (aL 0)), (1, .int x1), (2, .int v2), (4, .int v4)] [.int s2, .int s1, .ref (aL 0)] := by
  unfold f1_pairRound_b53 at hf
  refine n_iload C dX1_pairRound_53 3 rfl rfl ?_
  refine n_if_ge (t := 68) C dX1_pairRound_55 (by decide) rfl (fun h55 => ?_) (fun h55 => ?_)
  · have hf := ip h55 hf
    refine n_iload C dX1_pairRound_68 3 rfl rfl ?_
    obtain ⟨z70, h70, hf⟩ := bi hf
    refine n_callV (As := [.int s1, .int s2, .int v4]) (rest := []) (w2 := bX1 cyI aL z70) C dX1_pairRound_70 (c1_addMatch l D cyI cyO cyJ aL n oL s1 s2 v4 z70 h70) (cwV 3 C.ts gX1_pairRound_X1_addMatch rfl rfl rfl (by decide +kernel) ⟨Nat.le_of_ble_eq_true rfl, Nat.le_of_ble_eq_true rfl⟩) rfl (q0 := 0) (ci := 1) rfl rfl Frm.self rfl (Nat.le_of_ble_eq_true rfl) ⟨Nat.le_of_ble_eq_true rfl, Nat.le_of_ble_eq_true rfl⟩ rfl ?_
    refine n_iinc (v := v2 + (nI 1)) (lv' := [(2, .int (v2 + (nI 1))), (0, .ref (aL 0)), (1, .int x1), (4, .int v4)]) C dX1_pairRound_73 (j := 2) rfl rfl (by decide) rfl rfl ?_
    refine n_goto (t := 12) C dX1_pairRound_76 (by decide) ?_
    exact Wn.sub (lv' := [(0, .ref (aL 0)), (1, .int x1), (2, .int (v2 + (nI 1)))]) [1, 2, 0] rfl (hk12 (v2 + (nI 1)) z70 hf)
  · have hf := iq h55 hf
    refine n_iload C dX1_pairRound_58 3 rfl rfl ?_
    refine n_aload_n C dX1_pairRound_60 0 rfl rfl ?_
    refine n_get (N := 15) C dX1_pairRound_61 iw1_pairRound_X1 0 rfl rfl 1 (by decide) (List.mem_of_getElem? (i := 1) rfl) rfl rfl rfl ?_
    refine n_iadd C dX1_pairRound_64 rfl ?_
    refine n_goto (t := 70) C dX1_pairRound_65 (by decide) ?_
    obtain ⟨z70, h70, hf⟩ := bi hf
    refine n_callV (As := [.int s1, .int s2, .int (v4 + (oL.1 1))]) (rest := []) (w2 := bX1 cyI aL z70) C dX1_pairRound_70 (c1_addMatch l D cyI cyO cyJ aL n oL s1 s2 (v4 + (oL.1 1)) z70 h70) (cwV 3 C.ts gX1_pairRound_X1_addMatch rfl rfl rfl (by decide +kernel) ⟨Nat.le_of_ble_eq_true rfl, Nat.le_of_ble_eq_true rfl⟩) rfl (q0 := 0) (ci := 1) rfl rfl Frm.self rfl (Nat.le_of_ble_eq_true rfl) ⟨Nat.le_of_ble_eq_true rfl, Nat.le_of_ble_eq_true rfl⟩ rfl ?_
    refine n_iinc (v := v2 + (nI 1)) (lv' := [(2, .int (v2 + (nI 1))), (0, .ref (aL 0)), (1, .int x1), (4, .int v4)]) C dX1_pairRound_73 (j := 2) rfl rfl (by decide) rfl rfl ?_
    refine n_goto (t := 12) C dX1_pairRound_76 (by decide) ?_
    exact Wn.sub (lv' := [(0, .ref (aL 0)), (1, .int x1), (2, .int (v2 + (nI 1)))]) [1, 2, 0] rfl (hk12 (v2 + (nI 1)) z70 hf)
set_option maxHeartbeats 4000000 in
set_option maxRecDepth 100000 in
theorem t1_pairRound_b12 {l : Launch} {p : Program} {e : Env} {s : State} {m : MethodId} {args : Array Value} {below : List Frame} {meth : Method} {c : Code} {D : va_G} {A : Nat → Prop} {cyI cyO cyJ : ClassId} {aL : Nat → Nat} (C : Cx p s m args meth c D (tyG cyI cyO cyJ) A RX1 cX1_pairRound 5 none wsX1_pairRound) {z : (OB)} (n : Nat) (x1 : Int32) : ∀ (k : Nat) (v2 : Int32) (oL : OB), f1_pairRound_b12 n x1 k v2 oL = some z → Wn p l e rm1_pairRound s m args below meth c D A 5 0 0 (MQ below (Qr D (tyG cyI cyO cyJ) (bX1 cyI aL z) A none) args s 0 0 A) (bX1 cyI aL oL) 12 [(0, .ref (aL 0)), (1, .int x1), (2, .int v2)] [] := by
  intro k
  induction k with
  | zero => intro  v2 oL hf; cases hf
  | succ k ih =>
    intro  v2 oL hf
    unfold f1_pairRound_b12 at hf
    refine n_iload_n C dX1_pairRound_12 2 rfl rfl ?_
    refine n_aload_n C dX1_pairRound_13 0 rfl rfl ?_
    refine n_get (N := 15) C dX1_pairRound_14 iw1_pairRound_X1 0 rfl rfl 1 (by decide) (List.mem_of_getElem? (i := 1) rfl) rfl rfl rfl ?_
    refine n_iconst (v := (nI 1)) C dX1_pairRound_17 (by decide) rfl ?_
    refine n_iadd C dX1_pairRound_18 rfl ?_
    refine n_iconst (v := (nI 2)) C dX1_pairRound_19 (by decide) rfl ?_
    refine n_idiv C dX1_pairRound_20 (by decide) rfl ?_
    refine n_icmp_ge (t := 79) C dX1_pairRound_21 (by decide) rfl (fun h21 => ?_) (fun h21 => ?_)
    · have hf := ip h21 hf
      obtain rfl := Option.some.inj hf
      exact n_vret C dX1_pairRound_79
    · have hf := iq h21 hf
      refine n_iload_n C dX1_pairRound_24 1 rfl rfl ?_
      refine n_iload_n C dX1_pairRound_25 2 rfl rfl ?_
      refine n_iadd C dX1_pairRound_26 rfl ?_
      refine n_istore_n (lv' := [(3, .int (x1 + v2)), (0, .ref (aL 0)), (1, .int x1), (2, .int v2)]) C dX1_pairRound_27 (by decide) rfl rfl ?_
      refine n_iload_n C dX1_pairRound_28 2 rfl rfl ?_
      refine n_iload_n C dX1_pairRound_29 3 rfl rfl ?_
      refine n_isub C dX1_pairRound_30 rfl ?_
      refine n_istore (lv' := [(4, .int (x1 - v2)), (3, .int (x1 + v2)), (0, .ref (aL 0)), (1, .int x1), (2, .int v2)]) C dX1_pairRound_31 (by decide) rfl rfl ?_
      refine n_aload_n C dX1_pairRound_33 2 rfl rfl ?_
      refine n_iload_n C dX1_pairRound_34 3 rfl rfl ?_
      refine n_iload_n C dX1_pairRound_35 1 rfl rfl ?_
      refine n_aload_n C dX1_pairRound_36 2 rfl rfl ?_
      refine n_get (N := 15) C dX1_pairRound_37 iw1_pairRound_X1 0 rfl rfl 1 (by decide) (List.mem_of_getElem? (i := 1) rfl) rfl rfl rfl ?_
      refine n_icmp_lt (t := 52) C dX1_pairRound_40 (by decide) rfl (fun h40 => ?_) (fun h40 => ?_)
      · have hf := ip h40 hf
        refine n_iload_n C dX1_pairRound_52 1 rfl rfl ?_
        exact Wn.sub (lv' := [(0, .ref (aL 0)), (1, .int x1), (2, .int v2), (4, .int (x1 - v2))]) [2, 3, 4, 0] rfl (t1_pairRound_b53 C n x1 ih v2 (x1 - v2) x1 (x1 + v2) oL hf)
      · have hf := iq h40 hf
        refine n_iload_n C dX1_pairRound_43 1 rfl rfl ?_
        refine n_aload_n C dX1_pairRound_44 2 rfl rfl ?_
        refine n_get (N := 15) C dX1_pairRound_45 iw1_pairRound_X1 0 rfl rfl 1 (by decide) (List.mem_of_getElem? (i := 1) rfl) rfl rfl rfl ?_
        refine n_isub C dX1_pairRound_48 rfl ?_
        refine n_goto (t := 53) C dX1_pairRound_49 (by decide) ?_
        exact Wn.sub (lv' := [(0, .ref (aL 0)), (1, .int x1), (2, .int v2), (4, .int (x1 - v2))]) [2, 3, 4, 0] rfl (t1_pairRound_b53 C n x1 ih v2 (x1 - v2) x1 ((x1 + v2) - (oL.1 1)) oL hf)
set_option maxHeartbeats 4000000 in
set_option maxRecDepth 100000 in
theorem c1_pairRound (l : Launch) (D : va_G) (cyI cyO cyJ : ClassId) (aL : Nat → Nat) (n : Nat) (oL : OB) (x1 : Int32) (z : (OB)) (hf : f1_pairRound n oL x1 = some z) : Ct l D (tyG cyI cyO cyJ) yX1_pairRound wsX1_pairRound rm1_pairRound 0 0 [.ref (aL 0), .int x1] (bX1 cyI aL oL) (bX1 cyI aL z) none := by
  refine Ct.of (cc := cX1_pairRound) (nL := 5) (ret := none) (lv := [(0, .ref (aL 0)), (1, .int x1)]) (by decide +kernel) rfl rfl (Nat.le_of_ble_eq_true rfl) ?_
  intro p e s m args below meth c A C
  have C : Cx p s m args meth c D (tyG cyI cyO cyJ) A RX1 cX1_pairRound 5 none wsX1_pairRound := C
  unfold f1_pairRound at hf
  refine n_aload_n C dX1_pairRound_0 0 rfl rfl ?_
  refine n_iload_n C dX1_pairRound_1 1 rfl rfl ?_
  refine n_aload_n C dX1_pairRound_2 0 rfl rfl ?_
  refine n_get (N := 15) C dX1_pairRound_3 iw1_pairRound_X1 0 rfl rfl 1 (by decide) (List.mem_of_getElem? (i := 1) rfl) rfl rfl rfl ?_
  refine n_iload_n C dX1_pairRound_6 1 rfl rfl ?_
  obtain ⟨z7, h7, hf⟩ := bi hf
  refine n_callV (As := [.int x1, .int (oL.1 1), .int x1]) (rest := []) (w2 := bX1 cyI aL z7) C dX1_pairRound_7 (c1_addMatch l D cyI cyO cyJ aL n oL x1 (oL.1 1) x1 z7 h7) (cwV 3 C.ts gX1_pairRound_X1_addMatch rfl rfl rfl (by decide +kernel) ⟨Nat.le_of_ble_eq_true rfl, Nat.le_of_ble_eq_true rfl⟩) rfl (q0 := 0) (ci := 1) rfl rfl Frm.self rfl (Nat.le_of_ble_eq_true rfl) ⟨Nat.le_of_ble_eq_true rfl, Nat.le_of_ble_eq_true rfl⟩ rfl ?_
  refine n_iconst (v := (nI 1)) C dX1_pairRound_10 (by decide) rfl ?_
  refine n_istore_n (lv' := [(2, .int (nI 1)), (0, .ref (aL 0)), (1, .int x1)]) C dX1_pairRound_11 (by decide) rfl rfl ?_
  exact Wn.sub (lv' := [(0, .ref (aL 0)), (1, .int x1), (2, .int (nI 1))]) [1, 2, 0] rfl (t1_pairRound_b12 C n x1 n (nI 1) z7 hf)
-- X1 restart 
theorem iw1_restart_X1 : ∀ w ∈ u_ws RX1 TX1 15, w ∈ wsX1_restart := by decide +kernel
abbrev rm1_restart : Room := { frames := 2, cells := 0, slots := 0, locals := 48 }
def f1_restart_b71 (n : Nat) (x1 : Int32) : Nat → Int32 → OB → Option ((OB))
  | 0, _, _ => none
  | k + 1, v2, oL =>
    (if (oL.1 1) ≤ v2 then some oL else (f1_pairRound n oL v2).bind fun z81 => (f1_restart_b71 n x1 k) (v2 + (nI 1)) z81)
def f1_restart_b69 (n : Nat) (x1 : Int32) (oL : OB) : Option ((OB)) :=
  f1_restart_b71 n x1 n (nI 0) oL
def f1_restart_b50 (n : Nat) (x1 : Int32) (k69 : OB → Option ((OB))) : Nat → Int32 → OB → Option ((OB))
  | 0, _, _ => none
  | k + 1, v2, oL =>
    (if (nI 6) ≤ v2 then k69 oL else (oast oL 5 6 v2 (nI 0)).bind fun oL_62 => (f1_restart_b50 n x1 k69 k) (v2 + (nI 1)) oL_62)
def f1_restart_b48 (n : Nat) (x1 : Int32) (oL : OB) : Option ((OB)) :=
  f1_restart_b50 n x1 (fun oL => f1_restart_b69 n x1 oL) n (nI 0) oL
def f1_restart_b29 (n : Nat) (x1 : Int32) (k48 : OB → Option ((OB))) : Nat → Int32 → OB → Option ((OB))
  | 0, _, _ => none
  | k + 1, v2, oL =>
    (if (nI 6) ≤ v2 then k48 oL else (oast oL 4 6 v2 (nI 0)).bind fun oL_41 => (f1_restart_b29 n x1 k48 k) (v2 + (nI 1)) oL_41)
def f1_restart (n : Nat) (oL : OB) (x1 : Int32) : Option ((OB)) :=
  (some (gsi oL 0 x1)).bind fun oL_2 => (if (x1 - x1 / (nI 2) * (nI 2)) = (0 : Int32) then (some (gsi oL_2 1 (x1 - (nI 1)))).bind fun oL_19 => (some (gsi oL_19 2 (nI 0))).bind fun oL_24 => f1_restart_b29 n x1 (fun oL => f1_restart_b48 n x1 oL) n (nI 0) oL_24 else (some (gsi oL_2 1 x1)).bind fun oL_19 => (some (gsi oL_19 2 (nI 0))).bind fun oL_24 => f1_restart_b29 n x1 (fun oL => f1_restart_b48 n x1 oL) n (nI 0) oL_24)
set_option maxHeartbeats 4000000 in
set_option maxRecDepth 100000 in
theorem t1_restart_b71 {l : Launch} {p : Program} {e : Env} {s : State} {m : MethodId} {args : Array Value} {below : List Frame} {meth : Method} {c : Code} {D : va_G} {A : Nat → Prop} {cyI cyO cyJ : ClassId} {aL : Nat → Nat} (C : Cx p s m args meth c D (tyG cyI cyO cyJ) A RX1 cX1_restart 3 none wsX1_restart) {z : (OB)} (n : Nat) (x1 : Int32) : ∀ (k : Nat) (v2 : Int32) (oL : OB), f1_restart_b71 n x1 k v2 oL = some z → Wn p l e rm1_restart s m args below meth c D A 3 0 0 (MQ below (Qr D (tyG cyI cyO cyJ) (bX1 cyI aL z) A none) args s 0 0 A) (bX1 cyI aL oL) 71 [(0, .ref (aL 0)), (2, .int v2)] [] := by
  intro k
  induction k with
  | zero => intro  v2 oL hf; cases hf
  | succ k ih =>
    intro  v2 oL hf
    unfold f1_restart_b71 at hf
    refine n_iload_n C dX1_restart_71 1 rfl rfl ?_
    refine n_aload_n C dX1_restart_72 0 rfl rfl ?_
    refine n_get (N := 15) C dX1_restart_73 iw1_restart_X1 0 rfl rfl 1 (by decide) (List.mem_of_getElem? (i := 2) rfl) rfl rfl rfl ?_
    refine n_icmp_ge (t := 90) C dX1_restart_76 (by decide) rfl (fun h76 => ?_) (fun h76 => ?_)
    · have hf := ip h76 hf
      obtain rfl := Option.some.inj hf
      exact n_vret C dX1_restart_90
    · have hf := iq h76 hf
      refine n_aload_n C dX1_restart_79 0 rfl rfl ?_
      refine n_iload_n C dX1_restart_80 1 rfl rfl ?_
      obtain ⟨z81, h81, hf⟩ := bi hf
      refine n_callV (As := [.int v2]) (rest := []) (w2 := bX1 cyI aL z81) C dX1_restart_81 (c1_pairRound l D cyI cyO cyJ aL n oL v2 z81 h81) (cwV 1 C.ts gX1_restart_X1_pairRound rfl rfl rfl (by decide +kernel) ⟨Nat.le_of_ble_eq_true rfl, Nat.le_of_ble_eq_true rfl⟩) rfl (q0 := 0) (ci := 1) rfl rfl Frm.self rfl (Nat.le_of_ble_eq_true rfl) ⟨Nat.le_of_ble_eq_true rfl, Nat.le_of_ble_eq_true rfl⟩ rfl ?_
      refine n_iinc (v := v2 + (nI 1)) (lv' := [(2, .int (v2 + (nI 1))), (0, .ref (aL 0))]) C dX1_restart_84 (j := 1) rfl rfl (by decide) rfl rfl ?_
      refine n_goto (t := 71) C dX1_restart_87 (by decide) ?_
      exact Wn.sub (lv' := [(0, .ref (aL 0)), (2, .int (v2 + (nI 1)))]) [1, 0] rfl (ih (v2 + (nI 1)) z81 hf)
set_option maxHeartbeats 4000000 in
set_option maxRecDepth 100000 in
theorem t1_restart_b69 {l : Launch} {p : Program} {e : Env} {s : State} {m : MethodId} {args : Array Value} {below : List Frame} {meth : Method} {c : Code} {D : va_G} {A : Nat → Prop} {cyI cyO cyJ : ClassId} {aL : Nat → Nat} (C : Cx p s m args meth c D (tyG cyI cyO cyJ) A RX1 cX1_restart 3 none wsX1_restart) {z : (OB)} (n : Nat) (x1 : Int32) (oL : OB) (hf : f1_restart_b69 n x1 oL = some z) : Wn p l e rm1_restart s m args below meth c D A 3 0 0 (MQ below (Qr D (tyG cyI cyO cyJ) (bX1 cyI aL z) A none) args s 0 0 A) (bX1 cyI aL oL) 69 [(0, .ref (aL 0))] [] := by
  unfold f1_restart_b69 at hf
  refine n_iconst (v := (nI 0)) C dX1_restart_69 (by decide) rfl ?_
  refine n_istore_n (lv' := [(2, .int (nI 0)), (0, .ref (aL 0))]) C dX1_restart_70 (by decide) rfl rfl ?_
  exact Wn.sub (lv' := [(0, .ref (aL 0)), (2, .int (nI 0))]) [1, 0] rfl (t1_restart_b71 C n x1 n (nI 0) oL hf)
set_option maxHeartbeats 4000000 in
set_option maxRecDepth 100000 in
theorem t1_restart_b50 {l : Launch} {p : Program} {e : Env} {s : State} {m : MethodId} {args : Array Value} {below : List Frame} {meth : Method} {c : Code} {D : va_G} {A : Nat → Prop} {cyI cyO cyJ : ClassId} {aL : Nat → Nat} (C : Cx p s m args meth c D (tyG cyI cyO cyJ) A RX1 cX1_restart 3 none wsX1_restart) {z : (OB)} (n : Nat) (x1 : Int32) {k69 : OB → Option ((OB))} (hk69 : ∀ (oL : OB), k69 oL = some z → Wn p l e rm1_restart s m args below meth c D A 3 0 0 (MQ below (Qr D (tyG cyI cyO cyJ) (bX1 cyI aL z) A none) args s 0 0 A) (bX1 cyI aL oL) 69 [(0, .ref (aL 0))] []) : ∀ (k : Nat) (v2 : Int32) (oL : OB), f1_restart_b50 n x1 k69 k v2 oL = some z → Wn p l e rm1_restart s m args below meth c D A 3 0 0 (MQ below (Qr D (tyG cyI cyO cyJ) (bX1 cyI aL z) A none) args s 0 0 A) (bX1 cyI aL oL) 50 [(0, .ref (aL 0)), (2, .int v2)] [] := by
  intro k
  induction k with
  | zero => intro  v2 oL hf; cases hf
  | succ k ih =>
    intro  v2 oL hf
    unfold f1_restart_b50 at hf
    refine n_iload_n C dX1_restart_50 1 rfl rfl ?_
    refine n_bipush (v := (nI 6)) C dX1_restart_51 (by decide) rfl ?_
    refine n_icmp_ge (t := 69) C dX1_restart_53 (by decide) rfl (fun h53 => ?_) (fun h53 => ?_)
    · have hf := ip h53 hf
      exact Wn.sub (lv' := [(0, .ref (aL 0))]) [0] rfl (hk69 oL hf)
    · have hf := iq h53 hf
      refine n_aload_n C dX1_restart_56 0 rfl rfl ?_
      refine n_get (N := 15) C dX1_restart_57 iw1_restart_X1 0 rfl rfl 5 (by decide) (List.mem_of_getElem? (i := 5) rfl) rfl rfl rfl ?_
      refine n_iload_n C dX1_restart_60 1 rfl rfl ?_
      refine n_iconst (v := (nI 0)) C dX1_restart_61 (by decide) rfl ?_
      obtain ⟨oL_62, h62, hf⟩ := bi hf
      obtain ⟨h62, e62⟩ := oast_some h62
      refine n_iast (w2 := bX1 cyI aL oL_62) C dX1_restart_62 3 0 rfl rfl h62 (by subst e62; rfl) rfl ?_
      refine n_iinc (v := v2 + (nI 1)) (lv' := [(2, .int (v2 + (nI 1))), (0, .ref (aL 0))]) C dX1_restart_63 (j := 1) rfl rfl (by decide) rfl rfl ?_
      refine n_goto (t := 50) C dX1_restart_66 (by decide) ?_
      exact Wn.sub (lv' := [(0, .ref (aL 0)), (2, .int (v2 + (nI 1)))]) [1, 0] rfl (ih (v2 + (nI 1)) oL_62 hf)
set_option maxHeartbeats 4000000 in
set_option maxRecDepth 100000 in
theorem t1_restart_b48 {l : Launch} {p : Program} {e : Env} {s : State} {m : MethodId} {args : Array Value} {below : List Frame} {meth : Method} {c : Code} {D : va_G} {A : Nat → Prop} {cyI cyO cyJ : ClassId} {aL : Nat → Nat} (C : Cx p s m args meth c D (tyG cyI cyO cyJ) A RX1 cX1_restart 3 none wsX1_restart) {z : (OB)} (n : Nat) (x1 : Int32) (oL : OB) (hf : f1_restart_b48 n x1 oL = some z) : Wn p l e rm1_restart s m args below meth c D A 3 0 0 (MQ below (Qr D (tyG cyI cyO cyJ) (bX1 cyI aL z) A none) args s 0 0 A) (bX1 cyI aL oL) 48 [(0, .ref (aL 0))] [] := by
  unfold f1_restart_b48 at hf
  refine n_iconst (v := (nI 0)) C dX1_restart_48 (by decide) rfl ?_
  refine n_istore_n (lv' := [(2, .int (nI 0)), (0, .ref (aL 0))]) C dX1_restart_49 (by decide) rfl rfl ?_
  exact Wn.sub (lv' := [(0, .ref (aL 0)), (2, .int (nI 0))]) [1, 0] rfl (t1_restart_b50 C n x1 (fun oL hf => Wn.sub (lv' := [(0, .ref (aL 0))]) [0] rfl (t1_restart_b69 C n x1 oL hf)) n (nI 0) oL hf)
set_option maxHeartbeats 4000000 in
set_option maxRecDepth 100000 in
theorem t1_restart_b29 {l : Launch} {p : Program} {e : Env} {s : State} {m : MethodId} {args : Array Value} {below : List Frame} {meth : Method} {c : Code} {D : va_G} {A : Nat → Prop} {cyI cyO cyJ : ClassId} {aL : Nat → Nat} (C : Cx p s m args meth c D (tyG cyI cyO cyJ) A RX1 cX1_restart 3 none wsX1_restart) {z : (OB)} (n : Nat) (x1 : Int32) {k48 : OB → Option ((OB))} (hk48 : ∀ (oL : OB), k48 oL = some z → Wn p l e rm1_restart s m args below meth c D A 3 0 0 (MQ below (Qr D (tyG cyI cyO cyJ) (bX1 cyI aL z) A none) args s 0 0 A) (bX1 cyI aL oL) 48 [(0, .ref (aL 0))] []) : ∀ (k : Nat) (v2 : Int32) (oL : OB), f1_restart_b29 n x1 k48 k v2 oL = some z → Wn p l e rm1_restart s m args below meth c D A 3 0 0 (MQ below (Qr D (tyG cyI cyO cyJ) (bX1 cyI aL z) A none) args s 0 0 A) (bX1 cyI aL oL) 29 [(0, .ref (aL 0)), (2, .int v2)] [] := by
  intro k
  induction k with
  | zero => intro  v2 oL hf; cases hf
  | succ k ih =>
    intro  v2 oL hf
    unfold f1_restart_b29 at hf
    refine n_iload_n C dX1_restart_29 1 rfl rfl ?_
    refine n_bipush (v := (nI 6)) C dX1_restart_30 (by decide) rfl ?_
    refine n_icmp_ge (t := 48) C dX1_restart_32 (by decide) rfl (fun h32 => ?_) (fun h32 => ?_)
    · have hf := ip h32 hf
      exact Wn.sub (lv' := [(0, .ref (aL 0))]) [0] rfl (hk48 oL hf)
    · have hf := iq h32 hf
      refine n_aload_n C dX1_restart_35 0 rfl rfl ?_
      refine n_get (N := 15) C dX1_restart_36 iw1_restart_X1 0 rfl rfl 4 (by decide) (List.mem_of_getElem? (i := 4) rfl) rfl rfl rfl ?_
      refine n_iload_n C dX1_restart_39 1 rfl rfl ?_
      refine n_iconst (v := (nI 0)) C dX1_restart_40 (by decide) rfl ?_
      obtain ⟨oL_41, h41, hf⟩ := bi hf
      obtain ⟨h41, e41⟩ := oast_some h41
      refine n_iast (w2 := bX1 cyI aL oL_41) C dX1_restart_41 2 0 rfl rfl h41 (by subst e41; rfl) rfl ?_
      refine n_iinc (v := v2 + (nI 1)) (lv' := [(2, .int (v2 + (nI 1))), (0, .ref (aL 0))]) C dX1_restart_42 (j := 1) rfl rfl (by decide) rfl rfl ?_
      refine n_goto (t := 29) C dX1_restart_45 (by decide) ?_
      exact Wn.sub (lv' := [(0, .ref (aL 0)), (2, .int (v2 + (nI 1)))]) [1, 0] rfl (ih (v2 + (nI 1)) oL_41 hf)
set_option maxHeartbeats 4000000 in
set_option maxRecDepth 100000 in
theorem c1_restart (l : Launch) (D : va_G) (cyI cyO cyJ : ClassId) (aL : Nat → Nat) (n : Nat) (oL : OB) (x1 : Int32) (z : (OB)) (hf : f1_restart n oL x1 = some z) : Ct l D (tyG cyI cyO cyJ) yX1_restart wsX1_restart rm1_restart 0 0 [.ref (aL 0), .int x1] (bX1 cyI aL oL) (bX1 cyI aL z) none := by
  refine Ct.of (cc := cX1_restart) (nL := 3) (ret := none) (lv := [(0, .ref (aL 0)), (1, .int x1)]) (by decide +kernel) rfl rfl (Nat.le_of_ble_eq_true rfl) ?_
  intro p e s m args below meth c A C
  have C : Cx p s m args meth c D (tyG cyI cyO cyJ) A RX1 cX1_restart 3 none wsX1_restart := C
  unfold f1_restart at hf
  refine n_aload_n C dX1_restart_0 0 rfl rfl ?_
  refine n_iload_n C dX1_restart_1 1 rfl rfl ?_
  obtain ⟨oL_2, e2, hf⟩ := bi hf
  replace e2 := Option.some.inj e2
  refine n_put (w2 := bX1 cyI aL oL_2) (N := 15) (ty := .int) C dX1_restart_2 iw1_restart_X1 tyX1_ok nmX1 0 rfl rfl 0 (by decide) (List.mem_of_getElem? (i := 1) rfl) rfl rfl (by decide +kernel) rfl rfl (Nat.le_of_ble_eq_true rfl) (by subst e2; rfl) rfl ?_
  refine n_aload_n C dX1_restart_5 0 rfl rfl ?_
  refine n_iload_n C dX1_restart_6 1 rfl rfl ?_
  refine n_iconst (v := (nI 2)) C dX1_restart_7 (by decide) rfl ?_
  refine n_irem C dX1_restart_8 (by decide) rfl ?_
  refine n_if_ne (t := 18) C dX1_restart_9 (by decide) rfl (fun h9 => ?_) (fun h9 => ?_)
  · have hf := iq h9 hf
    refine n_iload_n C dX1_restart_18 1 rfl rfl ?_
    obtain ⟨oL_19, e19, hf⟩ := bi hf
    replace e19 := Option.some.inj e19
    refine n_put (w2 := bX1 cyI aL oL_19) (N := 15) (ty := .int) C dX1_restart_19 iw1_restart_X1 tyX1_ok nmX1 0 rfl rfl 1 (by decide) (List.mem_of_getElem? (i := 2) rfl) rfl rfl (by decide +kernel) rfl rfl (Nat.le_of_ble_eq_true rfl) (by subst e19; rfl) rfl ?_
    refine n_aload_n C dX1_restart_22 0 rfl rfl ?_
    refine n_iconst (v := (nI 0)) C dX1_restart_23 (by decide) rfl ?_
    obtain ⟨oL_24, e24, hf⟩ := bi hf
    replace e24 := Option.some.inj e24
    refine n_put (w2 := bX1 cyI aL oL_24) (N := 15) (ty := .int) C dX1_restart_24 iw1_restart_X1 tyX1_ok nmX1 0 rfl rfl 2 (by decide) (List.mem_of_getElem? (i := 3) rfl) rfl rfl (by decide +kernel) rfl rfl (Nat.le_of_ble_eq_true rfl) (by subst e24; rfl) rfl ?_
    refine n_iconst (v := (nI 0)) C dX1_restart_27 (by decide) rfl ?_
    refine n_istore_n (lv' := [(2, .int (nI 0)), (0, .ref (aL 0)), (1, .int x1)]) C dX1_restart_28 (by decide) rfl rfl ?_
    exact Wn.sub (lv' := [(0, .ref (aL 0)), (2, .int (nI 0))]) [1, 0] rfl (t1_restart_b29 C n x1 (fun oL hf => Wn.sub (lv' := [(0, .ref (aL 0))]) [0] rfl (t1_restart_b48 C n x1 oL hf)) n (nI 0) oL_24 hf)
  · have hf := ip h9 hf
    refine n_iload_n C dX1_restart_12 1 rfl rfl ?_
    refine n_iconst (v := (nI 1)) C dX1_restart_13 (by decide) rfl ?_
    refine n_isub C dX1_restart_14 rfl ?_
    refine n_goto (t := 19) C dX1_restart_15 (by decide) ?_
    obtain ⟨oL_19, e19, hf⟩ := bi hf
    replace e19 := Option.some.inj e19
    refine n_put (w2 := bX1 cyI aL oL_19) (N := 15) (ty := .int) C dX1_restart_19 iw1_restart_X1 tyX1_ok nmX1 0 rfl rfl 1 (by decide) (List.mem_of_getElem? (i := 2) rfl) rfl rfl (by decide +kernel) rfl rfl (Nat.le_of_ble_eq_true rfl) (by subst e19; rfl) rfl ?_
    refine n_aload_n C dX1_restart_22 0 rfl rfl ?_
    refine n_iconst (v := (nI 0)) C dX1_restart_23 (by decide) rfl ?_
    obtain ⟨oL_24, e24, hf⟩ := bi hf
    replace e24 := Option.some.inj e24
    refine n_put (w2 := bX1 cyI aL oL_24) (N := 15) (ty := .int) C dX1_restart_24 iw1_restart_X1 tyX1_ok nmX1 0 rfl rfl 2 (by decide) (List.mem_of_getElem? (i := 3) rfl) rfl rfl (by decide +kernel) rfl rfl (Nat.le_of_ble_eq_true rfl) (by subst e24; rfl) rfl ?_
    refine n_iconst (v := (nI 0)) C dX1_restart_27 (by decide) rfl ?_
    refine n_istore_n (lv' := [(2, .int (nI 0)), (0, .ref (aL 0)), (1, .int x1)]) C dX1_restart_28 (by decide) rfl rfl ?_
    exact Wn.sub (lv' := [(0, .ref (aL 0)), (2, .int (nI 0))]) [1, 0] rfl (t1_restart_b29 C n x1 (fun oL hf => Wn.sub (lv' := [(0, .ref (aL 0))]) [0] rfl (t1_restart_b48 C n x1 oL hf)) n (nI 0) oL_24 hf)
-- X1 winAll 
theorem iw1_winAll_X1 : ∀ w ∈ u_ws RX1 TX1 15, w ∈ wsX1_winAll := by decide +kernel
abbrev rm1_winAll : Room := { frames := 2, cells := 0, slots := 0, locals := 45 }
def f1_winAll_b41 (n : Nat) (x1 : Int32) (k2 : Int32 → OB → Option ((OB))) (v2 : Int32) (oL : OB) : Option ((OB)) :=
  (ald 28 (oL.2 12) v2).bind fun x46 => (if x46 = (0 : Int32) then (ald 28 (oL.2 8) v2).bind fun x55 => (if x55 = x1 then (f1_give n oL v2 (nI 1) (nI 0) (nI 99)).bind fun z66 => k2 (v2 + (nI 1)) z66 else k2 (v2 + (nI 1)) oL) else k2 (v2 + (nI 1)) oL)
def f1_winAll_b2 (n : Nat) (x1 : Int32) : Nat → Int32 → OB → Option ((OB))
  | 0, _, _ => none
  | k + 1, v2, oL =>
    (if (oL.1 2) ≤ v2 then some oL else (ald 28 (oL.2 12) v2).bind fun x15 => (if x15 = (0 : Int32) then (ald 28 (oL.2 7) v2).bind fun x24 => (if x24 = x1 then (f1_give n oL v2 (nI 1) (nI 99) (nI 0)).bind fun z35 => (f1_winAll_b2 n x1 k) (v2 + (nI 1)) z35 else f1_winAll_b41 n x1 (f1_winAll_b2 n x1 k) v2 oL) else f1_winAll_b41 n x1 (f1_winAll_b2 n x1 k) v2 oL))
def f1_winAll (n : Nat) (oL : OB) (x1 : Int32) : Option ((OB)) :=
  f1_winAll_b2 n x1 n (nI 0) oL
set_option maxHeartbeats 4000000 in
set_option maxRecDepth 100000 in
theorem t1_winAll_b41 {l : Launch} {p : Program} {e : Env} {s : State} {m : MethodId} {args : Array Value} {below : List Frame} {meth : Method} {c : Code} {D : va_G} {A : Nat → Prop} {cyI cyO cyJ : ClassId} {aL : Nat → Nat} (C : Cx p s m args meth c D (tyG cyI cyO cyJ) A RX1 cX1_winAll 3 none wsX1_winAll) {z : (OB)} (n : Nat) (x1 : Int32) {k2 : Int32 → OB → Option ((OB))} (hk2 : ∀ (v2 : Int32) (oL : OB), k2 v2 oL = some z → Wn p l e rm1_winAll s m args below meth c D A 3 0 0 (MQ below (Qr D (tyG cyI cyO cyJ) (bX1 cyI aL z) A none) args s 0 0 A) (bX1 cyI aL oL) 2 [(0, .ref (aL 0)), (1, .int x1), (2, .int v2)] []) (v2 : Int32) (oL : OB) (hf : f1_winAll_b41 n x1 k2 v2 oL = some z) : Wn p l e rm1_winAll s m args below meth c D A 3 0 0 (MQ below (Qr D (tyG cyI cyO cyJ) (bX1 cyI aL z) A none) args s 0 0 A) (bX1 cyI aL oL) 41 [(0, .ref (aL 0)), (1, .int x1), (2, .int v2)] [] := by
  unfold f1_winAll_b41 at hf
  refine n_aload_n C dX1_winAll_41 0 rfl rfl ?_
  refine n_get (N := 15) C dX1_winAll_42 iw1_winAll_X1 0 rfl rfl 12 (by decide) (List.mem_of_getElem? (i := 2) rfl) rfl rfl rfl ?_
  refine n_iload_n C dX1_winAll_45 2 rfl rfl ?_
  obtain ⟨x46, h46, hf⟩ := bi hf
  obtain ⟨h46, e46⟩ := ald_some h46
  refine n_iald C dX1_winAll_46 10 0 rfl rfl h46 rfl ?_
  rw [← e46]
  refine n_if_ne (t := 69) C dX1_winAll_47 (by decide) rfl (fun h47 => ?_) (fun h47 => ?_)
  · have hf := iq h47 hf
    refine n_iinc (v := v2 + (nI 1)) (lv' := [(2, .int (v2 + (nI 1))), (0, .ref (aL 0)), (1, .int x1)]) C dX1_winAll_69 (j := 2) rfl rfl (by decide) rfl rfl ?_
    refine n_goto (t := 2) C dX1_winAll_72 (by decide) ?_
    exact Wn.sub (lv' := [(0, .ref (aL 0)), (1, .int x1), (2, .int (v2 + (nI 1)))]) [1, 2, 0] rfl (hk2 (v2 + (nI 1)) oL hf)
  · have hf := ip h47 hf
    refine n_aload_n C dX1_winAll_50 0 rfl rfl ?_
    refine n_get (N := 15) C dX1_winAll_51 iw1_winAll_X1 0 rfl rfl 8 (by decide) (List.mem_of_getElem? (i := 4) rfl) rfl rfl rfl ?_
    refine n_iload_n C dX1_winAll_54 2 rfl rfl ?_
    obtain ⟨x55, h55, hf⟩ := bi hf
    obtain ⟨h55, e55⟩ := ald_some h55
    refine n_iald C dX1_winAll_55 6 0 rfl rfl h55 rfl ?_
    rw [← e55]
    refine n_iload_n C dX1_winAll_56 1 rfl rfl ?_
    refine n_icmp_ne (t := 69) C dX1_winAll_57 (by decide) rfl (fun h57 => ?_) (fun h57 => ?_)
    · have hf := iq h57 hf
      refine n_iinc (v := v2 + (nI 1)) (lv' := [(2, .int (v2 + (nI 1))), (0, .ref (aL 0)), (1, .int x1)]) C dX1_winAll_69 (j := 2) rfl rfl (by decide) rfl rfl ?_
      refine n_goto (t := 2) C dX1_winAll_72 (by decide) ?_
      exact Wn.sub (lv' := [(0, .ref (aL 0)), (1, .int x1), (2, .int (v2 + (nI 1)))]) [1, 2, 0] rfl (hk2 (v2 + (nI 1)) oL hf)
    · have hf := ip h57 hf
      refine n_aload_n C dX1_winAll_60 0 rfl rfl ?_
      refine n_iload_n C dX1_winAll_61 2 rfl rfl ?_
      refine n_iconst (v := (nI 1)) C dX1_winAll_62 (by decide) rfl ?_
      refine n_iconst (v := (nI 0)) C dX1_winAll_63 (by decide) rfl ?_
      refine n_bipush (v := (nI 99)) C dX1_winAll_64 (by decide) rfl ?_
      obtain ⟨z66, h66, hf⟩ := bi hf
      refine n_callV (As := [.int v2, .int (nI 1), .int (nI 0), .int (nI 99)]) (rest := []) (w2 := bX1 cyI aL z66) C dX1_winAll_66 (c1_give l D cyI cyO cyJ aL n oL v2 (nI 1) (nI 0) (nI 99) z66 h66) (cwV 4 C.ts gX1_winAll_X1_give rfl rfl rfl (by decide +kernel) ⟨Nat.le_of_ble_eq_true rfl, Nat.le_of_ble_eq_true rfl⟩) rfl (q0 := 0) (ci := 1) rfl rfl Frm.self rfl (Nat.le_of_ble_eq_true rfl) ⟨Nat.le_of_ble_eq_true rfl, Nat.le_of_ble_eq_true rfl⟩ rfl ?_
      refine n_iinc (v := v2 + (nI 1)) (lv' := [(2, .int (v2 + (nI 1))), (0, .ref (aL 0)), (1, .int x1)]) C dX1_winAll_69 (j := 2) rfl rfl (by decide) rfl rfl ?_
      refine n_goto (t := 2) C dX1_winAll_72 (by decide) ?_
      exact Wn.sub (lv' := [(0, .ref (aL 0)), (1, .int x1), (2, .int (v2 + (nI 1)))]) [1, 2, 0] rfl (hk2 (v2 + (nI 1)) z66 hf)
set_option maxHeartbeats 4000000 in
set_option maxRecDepth 100000 in
theorem t1_winAll_b2 {l : Launch} {p : Program} {e : Env} {s : State} {m : MethodId} {args : Array Value} {below : List Frame} {meth : Method} {c : Code} {D : va_G} {A : Nat → Prop} {cyI cyO cyJ : ClassId} {aL : Nat → Nat} (C : Cx p s m args meth c D (tyG cyI cyO cyJ) A RX1 cX1_winAll 3 none wsX1_winAll) {z : (OB)} (n : Nat) (x1 : Int32) : ∀ (k : Nat) (v2 : Int32) (oL : OB), f1_winAll_b2 n x1 k v2 oL = some z → Wn p l e rm1_winAll s m args below meth c D A 3 0 0 (MQ below (Qr D (tyG cyI cyO cyJ) (bX1 cyI aL z) A none) args s 0 0 A) (bX1 cyI aL oL) 2 [(0, .ref (aL 0)), (1, .int x1), (2, .int v2)] [] := by
  intro k
  induction k with
  | zero => intro  v2 oL hf; cases hf
  | succ k ih =>
    intro  v2 oL hf
    unfold f1_winAll_b2 at hf
    refine n_iload_n C dX1_winAll_2 2 rfl rfl ?_
    refine n_aload_n C dX1_winAll_3 0 rfl rfl ?_
    refine n_get (N := 15) C dX1_winAll_4 iw1_winAll_X1 0 rfl rfl 2 (by decide) (List.mem_of_getElem? (i := 1) rfl) rfl rfl rfl ?_
    refine n_icmp_ge (t := 75) C dX1_winAll_7 (by decide) rfl (fun h7 => ?_) (fun h7 => ?_)
    · have hf := ip h7 hf
      obtain rfl := Option.some.inj hf
      exact n_vret C dX1_winAll_75
    · have hf := iq h7 hf
      refine n_aload_n C dX1_winAll_10 0 rfl rfl ?_
      refine n_get (N := 15) C dX1_winAll_11 iw1_winAll_X1 0 rfl rfl 12 (by decide) (List.mem_of_getElem? (i := 2) rfl) rfl rfl rfl ?_
      refine n_iload_n C dX1_winAll_14 2 rfl rfl ?_
      obtain ⟨x15, h15, hf⟩ := bi hf
      obtain ⟨h15, e15⟩ := ald_some h15
      refine n_iald C dX1_winAll_15 10 0 rfl rfl h15 rfl ?_
      rw [← e15]
      refine n_if_ne (t := 41) C dX1_winAll_16 (by decide) rfl (fun h16 => ?_) (fun h16 => ?_)
      · have hf := iq h16 hf
        exact Wn.sub (lv' := [(0, .ref (aL 0)), (1, .int x1), (2, .int v2)]) [0, 1, 2] rfl (t1_winAll_b41 C n x1 ih v2 oL hf)
      · have hf := ip h16 hf
        refine n_aload_n C dX1_winAll_19 0 rfl rfl ?_
        refine n_get (N := 15) C dX1_winAll_20 iw1_winAll_X1 0 rfl rfl 7 (by decide) (List.mem_of_getElem? (i := 3) rfl) rfl rfl rfl ?_
        refine n_iload_n C dX1_winAll_23 2 rfl rfl ?_
        obtain ⟨x24, h24, hf⟩ := bi hf
        obtain ⟨h24, e24⟩ := ald_some h24
        refine n_iald C dX1_winAll_24 5 0 rfl rfl h24 rfl ?_
        rw [← e24]
        refine n_iload_n C dX1_winAll_25 1 rfl rfl ?_
        refine n_icmp_ne (t := 41) C dX1_winAll_26 (by decide) rfl (fun h26 => ?_) (fun h26 => ?_)
        · have hf := iq h26 hf
          exact Wn.sub (lv' := [(0, .ref (aL 0)), (1, .int x1), (2, .int v2)]) [0, 1, 2] rfl (t1_winAll_b41 C n x1 ih v2 oL hf)
        · have hf := ip h26 hf
          refine n_aload_n C dX1_winAll_29 0 rfl rfl ?_
          refine n_iload_n C dX1_winAll_30 2 rfl rfl ?_
          refine n_iconst (v := (nI 1)) C dX1_winAll_31 (by decide) rfl ?_
          refine n_bipush (v := (nI 99)) C dX1_winAll_32 (by decide) rfl ?_
          refine n_iconst (v := (nI 0)) C dX1_winAll_34 (by decide) rfl ?_
          obtain ⟨z35, h35, hf⟩ := bi hf
          refine n_callV (As := [.int v2, .int (nI 1), .int (nI 99), .int (nI 0)]) (rest := []) (w2 := bX1 cyI aL z35) C dX1_winAll_35 (c1_give l D cyI cyO cyJ aL n oL v2 (nI 1) (nI 99) (nI 0) z35 h35) (cwV 4 C.ts gX1_winAll_X1_give rfl rfl rfl (by decide +kernel) ⟨Nat.le_of_ble_eq_true rfl, Nat.le_of_ble_eq_true rfl⟩) rfl (q0 := 0) (ci := 1) rfl rfl Frm.self rfl (Nat.le_of_ble_eq_true rfl) ⟨Nat.le_of_ble_eq_true rfl, Nat.le_of_ble_eq_true rfl⟩ rfl ?_
          refine n_goto (t := 69) C dX1_winAll_38 (by decide) ?_
          refine n_iinc (v := v2 + (nI 1)) (lv' := [(2, .int (v2 + (nI 1))), (0, .ref (aL 0)), (1, .int x1)]) C dX1_winAll_69 (j := 2) rfl rfl (by decide) rfl rfl ?_
          refine n_goto (t := 2) C dX1_winAll_72 (by decide) ?_
          exact Wn.sub (lv' := [(0, .ref (aL 0)), (1, .int x1), (2, .int (v2 + (nI 1)))]) [1, 2, 0] rfl (ih (v2 + (nI 1)) z35 hf)
set_option maxHeartbeats 4000000 in
set_option maxRecDepth 100000 in
theorem c1_winAll (l : Launch) (D : va_G) (cyI cyO cyJ : ClassId) (aL : Nat → Nat) (n : Nat) (oL : OB) (x1 : Int32) (z : (OB)) (hf : f1_winAll n oL x1 = some z) : Ct l D (tyG cyI cyO cyJ) yX1_winAll wsX1_winAll rm1_winAll 0 0 [.ref (aL 0), .int x1] (bX1 cyI aL oL) (bX1 cyI aL z) none := by
  refine Ct.of (cc := cX1_winAll) (nL := 3) (ret := none) (lv := [(0, .ref (aL 0)), (1, .int x1)]) (by decide +kernel) rfl rfl (Nat.le_of_ble_eq_true rfl) ?_
  intro p e s m args below meth c A C
  have C : Cx p s m args meth c D (tyG cyI cyO cyJ) A RX1 cX1_winAll 3 none wsX1_winAll := C
  unfold f1_winAll at hf
  refine n_iconst (v := (nI 0)) C dX1_winAll_0 (by decide) rfl ?_
  refine n_istore_n (lv' := [(2, .int (nI 0)), (0, .ref (aL 0)), (1, .int x1)]) C dX1_winAll_1 (by decide) rfl rfl ?_
  exact Wn.sub (lv' := [(0, .ref (aL 0)), (1, .int x1), (2, .int (nI 0))]) [1, 2, 0] rfl (t1_winAll_b2 C n x1 n (nI 0) oL hf)
-- X1 scoreOf 
theorem iw1_scoreOf_X1 : ∀ w ∈ u_ws RX1 TX1 15, w ∈ wsX1_scoreOf := by decide +kernel
abbrev rm1_scoreOf : Room := { frames := 1, cells := 0, slots := 0, locals := 21 }
def f1_scoreOf (n : Nat) (oL : OB) (x1 : Int32) (x2 : Int32) : Option (Int32) :=
  (f1_hasMatch n oL x1).bind fun z2 => (if z2 = (0 : Int32) then some (-1 : Int32) else (ald 28 (oL.2 12) x1).bind fun x15 => (if x15 = (nI 1) then (if x2 = (0 : Int32) then (ald 28 (oL.2 13) x1).bind fun x62 => some x62 else (ald 28 (oL.2 14) x1).bind fun x53 => some x53) else (if x15 = (nI 2) then (if x2 = (0 : Int32) then some (nI 0) else (ald 4 (oL.2 3) (nI 2)).bind fun x73 => some x73) else (if x15 = (nI 3) then (if x2 = (0 : Int32) then (ald 4 (oL.2 3) (nI 2)).bind fun x92 => some x92 else some (nI 0)) else some (-1 : Int32)))))
set_option maxHeartbeats 4000000 in
set_option maxRecDepth 100000 in
theorem c1_scoreOf (l : Launch) (D : va_G) (cyI cyO cyJ : ClassId) (aL : Nat → Nat) (n : Nat) (oL : OB) (x1 : Int32) (x2 : Int32) (z : Int32) (hf : f1_scoreOf n oL x1 x2 = some z) : Ct l D (tyG cyI cyO cyJ) yX1_scoreOf wsX1_scoreOf rm1_scoreOf 0 0 [.ref (aL 0), .int x1, .int x2] (bX1 cyI aL oL) (bX1 cyI aL oL) (some (.int z)) := by
  refine Ct.of (cc := cX1_scoreOf) (nL := 3) (ret := (some .int)) (lv := [(0, .ref (aL 0)), (1, .int x1), (2, .int x2)]) (by decide +kernel) rfl rfl (Nat.le_of_ble_eq_true rfl) ?_
  intro p e s m args below meth c A C
  have C : Cx p s m args meth c D (tyG cyI cyO cyJ) A RX1 cX1_scoreOf 3 (some .int) wsX1_scoreOf := C
  unfold f1_scoreOf at hf
  refine n_aload_n C dX1_scoreOf_0 0 rfl rfl ?_
  refine n_iload_n C dX1_scoreOf_1 1 rfl rfl ?_
  obtain ⟨z2, h2, hf⟩ := bi hf
  refine n_callV (As := [.int x1]) (rest := []) (w2 := bX1 cyI aL oL) C dX1_scoreOf_2 (c1_hasMatch l D cyI cyO cyJ aL n oL x1 z2 h2) (cwV 1 C.ts gX1_scoreOf_X1_hasMatch rfl rfl rfl (by decide +kernel) ⟨Nat.le_of_ble_eq_true rfl, Nat.le_of_ble_eq_true rfl⟩) rfl (q0 := 0) (ci := 1) rfl rfl Frm.self rfl (Nat.le_of_ble_eq_true rfl) ⟨Nat.le_of_ble_eq_true rfl, Nat.le_of_ble_eq_true rfl⟩ rfl ?_
  refine n_if_ne (t := 10) C dX1_scoreOf_5 (by decide) rfl (fun h5 => ?_) (fun h5 => ?_)
  · have hf := iq h5 hf
    refine n_aload_n C dX1_scoreOf_10 0 rfl rfl ?_
    refine n_get (N := 15) C dX1_scoreOf_11 iw1_scoreOf_X1 0 rfl rfl 12 (by decide) (List.mem_of_getElem? (i := 1) rfl) rfl rfl rfl ?_
    refine n_iload_n C dX1_scoreOf_14 1 rfl rfl ?_
    obtain ⟨x15, h15, hf⟩ := bi hf
    obtain ⟨h15, e15⟩ := ald_some h15
    refine n_iald C dX1_scoreOf_15 10 0 rfl rfl h15 rfl ?_
    rw [← e15]
    by_cases h16_0 : x15 = (nI 1)
    · have hf := ip h16_0 hf
      refine n_tswIn (off := 28) (t := 44) C dX1_scoreOf_16 (by rw [h16_0]; decide) (by rw [h16_0]; decide) (by rw [h16_0]; decide) (by decide) ?_
      refine n_iload_n C dX1_scoreOf_44 2 rfl rfl ?_
      refine n_if_eq (t := 57) C dX1_scoreOf_45 (by decide) rfl (fun h45 => ?_) (fun h45 => ?_)
      · have hf := ip h45 hf
        refine n_aload_n C dX1_scoreOf_57 0 rfl rfl ?_
        refine n_get (N := 15) C dX1_scoreOf_58 iw1_scoreOf_X1 0 rfl rfl 13 (by decide) (List.mem_of_getElem? (i := 3) rfl) rfl rfl rfl ?_
        refine n_iload_n C dX1_scoreOf_61 1 rfl rfl ?_
        obtain ⟨x62, h62, hf⟩ := bi hf
        obtain ⟨h62, e62⟩ := ald_some h62
        refine n_iald C dX1_scoreOf_62 11 0 rfl rfl h62 rfl ?_
        rw [← e62]
        obtain rfl := Option.some.inj hf
        exact n_iret C dX1_scoreOf_63
      · have hf := iq h45 hf
        refine n_aload_n C dX1_scoreOf_48 0 rfl rfl ?_
        refine n_get (N := 15) C dX1_scoreOf_49 iw1_scoreOf_X1 0 rfl rfl 14 (by decide) (List.mem_of_getElem? (i := 2) rfl) rfl rfl rfl ?_
        refine n_iload_n C dX1_scoreOf_52 1 rfl rfl ?_
        obtain ⟨x53, h53, hf⟩ := bi hf
        obtain ⟨h53, e53⟩ := ald_some h53
        refine n_iald C dX1_scoreOf_53 12 0 rfl rfl h53 rfl ?_
        rw [← e53]
        refine n_goto (t := 63) C dX1_scoreOf_54 (by decide) ?_
        obtain rfl := Option.some.inj hf
        exact n_iret C dX1_scoreOf_63
    have hf := iq h16_0 hf
    by_cases h16_1 : x15 = (nI 2)
    · have hf := ip h16_1 hf
      refine n_tswIn (off := 48) (t := 64) C dX1_scoreOf_16 (by rw [h16_1]; decide) (by rw [h16_1]; decide) (by rw [h16_1]; decide) (by decide) ?_
      refine n_iload_n C dX1_scoreOf_64 2 rfl rfl ?_
      refine n_if_eq (t := 77) C dX1_scoreOf_65 (by decide) rfl (fun h65 => ?_) (fun h65 => ?_)
      · have hf := ip h65 hf
        refine n_iconst (v := (nI 0)) C dX1_scoreOf_77 (by decide) rfl ?_
        obtain rfl := Option.some.inj hf
        exact n_iret C dX1_scoreOf_78
      · have hf := iq h65 hf
        refine n_aload_n C dX1_scoreOf_68 0 rfl rfl ?_
        refine n_get (N := 15) C dX1_scoreOf_69 iw1_scoreOf_X1 0 rfl rfl 3 (by decide) (List.mem_of_getElem? (i := 4) rfl) rfl rfl rfl ?_
        refine n_iconst (v := (nI 2)) C dX1_scoreOf_72 (by decide) rfl ?_
        obtain ⟨x73, h73, hf⟩ := bi hf
        obtain ⟨h73, e73⟩ := ald_some h73
        refine n_iald C dX1_scoreOf_73 1 0 rfl rfl h73 rfl ?_
        rw [← e73]
        refine n_goto (t := 78) C dX1_scoreOf_74 (by decide) ?_
        obtain rfl := Option.some.inj hf
        exact n_iret C dX1_scoreOf_78
    have hf := iq h16_1 hf
    by_cases h16_2 : x15 = (nI 3)
    · have hf := ip h16_2 hf
      refine n_tswIn (off := 63) (t := 79) C dX1_scoreOf_16 (by rw [h16_2]; decide) (by rw [h16_2]; decide) (by rw [h16_2]; decide) (by decide) ?_
      refine n_iload_n C dX1_scoreOf_79 2 rfl rfl ?_
      refine n_if_eq (t := 87) C dX1_scoreOf_80 (by decide) rfl (fun h80 => ?_) (fun h80 => ?_)
      · have hf := ip h80 hf
        refine n_aload_n C dX1_scoreOf_87 0 rfl rfl ?_
        refine n_get (N := 15) C dX1_scoreOf_88 iw1_scoreOf_X1 0 rfl rfl 3 (by decide) (List.mem_of_getElem? (i := 4) rfl) rfl rfl rfl ?_
        refine n_iconst (v := (nI 2)) C dX1_scoreOf_91 (by decide) rfl ?_
        obtain ⟨x92, h92, hf⟩ := bi hf
        obtain ⟨h92, e92⟩ := ald_some h92
        refine n_iald C dX1_scoreOf_92 1 0 rfl rfl h92 rfl ?_
        rw [← e92]
        obtain rfl := Option.some.inj hf
        exact n_iret C dX1_scoreOf_93
      · have hf := iq h80 hf
        refine n_iconst (v := (nI 0)) C dX1_scoreOf_83 (by decide) rfl ?_
        refine n_goto (t := 93) C dX1_scoreOf_84 (by decide) ?_
        obtain rfl := Option.some.inj hf
        exact n_iret C dX1_scoreOf_93
    have hf := iq h16_2 hf
    refine n_tswOut (t := 94) C dX1_scoreOf_16 (tsw_out 1 3 (fun i hi => by rcases i with _|_|_|i <;> first | exact h16_0 | exact h16_1 | exact h16_2 | omega)) (by decide) ?_
    refine n_iconst (v := (-1 : Int32)) C dX1_scoreOf_94 (by decide) rfl ?_
    obtain rfl := Option.some.inj hf
    exact n_iret C dX1_scoreOf_95
  · have hf := ip h5 hf
    refine n_iconst (v := (-1 : Int32)) C dX1_scoreOf_8 (by decide) rfl ?_
    obtain rfl := Option.some.inj hf
    exact n_iret C dX1_scoreOf_9
-- X1 property 
theorem iw1_property_X1 : ∀ w ∈ u_ws RX1 TX1 15, w ∈ wsX1_property := by decide +kernel
abbrev rm1_property : Room := { frames := 2, cells := 0, slots := 0, locals := 43 }
def f1_property (n : Nat) (oL : OB) (x1 : Int32) (x2 : Int32) : Option (Int32) :=
  (f1_hasMatch n oL x1).bind fun z2 => (if z2 = (0 : Int32) then some (-1 : Int32) else (if x2 = (nI 0) then (ald 28 (oL.2 6) x1).bind fun x61 => some x61 else (if x2 = (nI 1) then (ald 28 (oL.2 7) x1).bind fun x68 => some x68 else (if x2 = (nI 2) then (ald 28 (oL.2 8) x1).bind fun x75 => some x75 else (if x2 = (nI 3) then (ald 28 (oL.2 9) x1).bind fun x82 => some x82 else (if x2 = (nI 4) then (ald 28 (oL.2 10) x1).bind fun x89 => some x89 else (if x2 = (nI 5) then (ald 28 (oL.2 11) x1).bind fun x96 => some x96 else (if x2 = (nI 6) then (f1_scoreOf n oL x1 (nI 0)).bind fun z101 => some z101 else (if x2 = (nI 7) then (f1_scoreOf n oL x1 (nI 1)).bind fun z108 => some z108 else (ald 28 (oL.2 12) x1).bind fun x117 => some x117)))))))))
set_option maxHeartbeats 4000000 in
set_option maxRecDepth 100000 in
theorem c1_property (l : Launch) (D : va_G) (cyI cyO cyJ : ClassId) (aL : Nat → Nat) (n : Nat) (oL : OB) (x1 : Int32) (x2 : Int32) (z : Int32) (hf : f1_property n oL x1 x2 = some z) : Ct l D (tyG cyI cyO cyJ) yX1_property wsX1_property rm1_property 0 0 [.ref (aL 0), .int x1, .int x2] (bX1 cyI aL oL) (bX1 cyI aL oL) (some (.int z)) := by
  refine Ct.of (cc := cX1_property) (nL := 3) (ret := (some .int)) (lv := [(0, .ref (aL 0)), (1, .int x1), (2, .int x2)]) (by decide +kernel) rfl rfl (Nat.le_of_ble_eq_true rfl) ?_
  intro p e s m args below meth c A C
  have C : Cx p s m args meth c D (tyG cyI cyO cyJ) A RX1 cX1_property 3 (some .int) wsX1_property := C
  unfold f1_property at hf
  refine n_aload_n C dX1_property_0 0 rfl rfl ?_
  refine n_iload_n C dX1_property_1 1 rfl rfl ?_
  obtain ⟨z2, h2, hf⟩ := bi hf
  refine n_callV (As := [.int x1]) (rest := []) (w2 := bX1 cyI aL oL) C dX1_property_2 (c1_hasMatch l D cyI cyO cyJ aL n oL x1 z2 h2) (cwV 1 C.ts gX1_property_X1_hasMatch rfl rfl rfl (by decide +kernel) ⟨Nat.le_of_ble_eq_true rfl, Nat.le_of_ble_eq_true rfl⟩) rfl (q0 := 0) (ci := 1) rfl rfl Frm.self rfl (Nat.le_of_ble_eq_true rfl) ⟨Nat.le_of_ble_eq_true rfl, Nat.le_of_ble_eq_true rfl⟩ rfl ?_
  refine n_if_ne (t := 10) C dX1_property_5 (by decide) rfl (fun h5 => ?_) (fun h5 => ?_)
  · have hf := iq h5 hf
    refine n_iload_n C dX1_property_10 2 rfl rfl ?_
    by_cases h11_0 : x2 = (nI 0)
    · have hf := ip h11_0 hf
      refine n_tswIn (off := 45) (t := 56) C dX1_property_11 (by rw [h11_0]; decide) (by rw [h11_0]; decide) (by rw [h11_0]; decide) (by decide) ?_
      refine n_aload_n C dX1_property_56 0 rfl rfl ?_
      refine n_get (N := 15) C dX1_property_57 iw1_property_X1 0 rfl rfl 6 (by decide) (List.mem_of_getElem? (i := 1) rfl) rfl rfl rfl ?_
      refine n_iload_n C dX1_property_60 1 rfl rfl ?_
      obtain ⟨x61, h61, hf⟩ := bi hf
      obtain ⟨h61, e61⟩ := ald_some h61
      refine n_iald C dX1_property_61 4 0 rfl rfl h61 rfl ?_
      rw [← e61]
      obtain rfl := Option.some.inj hf
      exact n_iret C dX1_property_62
    have hf := iq h11_0 hf
    by_cases h11_1 : x2 = (nI 1)
    · have hf := ip h11_1 hf
      refine n_tswIn (off := 52) (t := 63) C dX1_property_11 (by rw [h11_1]; decide) (by rw [h11_1]; decide) (by rw [h11_1]; decide) (by decide) ?_
      refine n_aload_n C dX1_property_63 0 rfl rfl ?_
      refine n_get (N := 15) C dX1_property_64 iw1_property_X1 0 rfl rfl 7 (by decide) (List.mem_of_getElem? (i := 2) rfl) rfl rfl rfl ?_
      refine n_iload_n C dX1_property_67 1 rfl rfl ?_
      obtain ⟨x68, h68, hf⟩ := bi hf
      obtain ⟨h68, e68⟩ := ald_some h68
      refine n_iald C dX1_property_68 5 0 rfl rfl h68 rfl ?_
      rw [← e68]
      obtain rfl := Option.some.inj hf
      exact n_iret C dX1_property_69
    have hf := iq h11_1 hf
    by_cases h11_2 : x2 = (nI 2)
    · have hf := ip h11_2 hf
      refine n_tswIn (off := 59) (t := 70) C dX1_property_11 (by rw [h11_2]; decide) (by rw [h11_2]; decide) (by rw [h11_2]; decide) (by decide) ?_
      refine n_aload_n C dX1_property_70 0 rfl rfl ?_
      refine n_get (N := 15) C dX1_property_71 iw1_property_X1 0 rfl rfl 8 (by decide) (List.mem_of_getElem? (i := 3) rfl) rfl rfl rfl ?_
      refine n_iload_n C dX1_property_74 1 rfl rfl ?_
      obtain ⟨x75, h75, hf⟩ := bi hf
      obtain ⟨h75, e75⟩ := ald_some h75
      refine n_iald C dX1_property_75 6 0 rfl rfl h75 rfl ?_
      rw [← e75]
      obtain rfl := Option.some.inj hf
      exact n_iret C dX1_property_76
    have hf := iq h11_2 hf
    by_cases h11_3 : x2 = (nI 3)
    · have hf := ip h11_3 hf
      refine n_tswIn (off := 66) (t := 77) C dX1_property_11 (by rw [h11_3]; decide) (by rw [h11_3]; decide) (by rw [h11_3]; decide) (by decide) ?_
      refine n_aload_n C dX1_property_77 0 rfl rfl ?_
      refine n_get (N := 15) C dX1_property_78 iw1_property_X1 0 rfl rfl 9 (by decide) (List.mem_of_getElem? (i := 4) rfl) rfl rfl rfl ?_
      refine n_iload_n C dX1_property_81 1 rfl rfl ?_
      obtain ⟨x82, h82, hf⟩ := bi hf
      obtain ⟨h82, e82⟩ := ald_some h82
      refine n_iald C dX1_property_82 7 0 rfl rfl h82 rfl ?_
      rw [← e82]
      obtain rfl := Option.some.inj hf
      exact n_iret C dX1_property_83
    have hf := iq h11_3 hf
    by_cases h11_4 : x2 = (nI 4)
    · have hf := ip h11_4 hf
      refine n_tswIn (off := 73) (t := 84) C dX1_property_11 (by rw [h11_4]; decide) (by rw [h11_4]; decide) (by rw [h11_4]; decide) (by decide) ?_
      refine n_aload_n C dX1_property_84 0 rfl rfl ?_
      refine n_get (N := 15) C dX1_property_85 iw1_property_X1 0 rfl rfl 10 (by decide) (List.mem_of_getElem? (i := 5) rfl) rfl rfl rfl ?_
      refine n_iload_n C dX1_property_88 1 rfl rfl ?_
      obtain ⟨x89, h89, hf⟩ := bi hf
      obtain ⟨h89, e89⟩ := ald_some h89
      refine n_iald C dX1_property_89 8 0 rfl rfl h89 rfl ?_
      rw [← e89]
      obtain rfl := Option.some.inj hf
      exact n_iret C dX1_property_90
    have hf := iq h11_4 hf
    by_cases h11_5 : x2 = (nI 5)
    · have hf := ip h11_5 hf
      refine n_tswIn (off := 80) (t := 91) C dX1_property_11 (by rw [h11_5]; decide) (by rw [h11_5]; decide) (by rw [h11_5]; decide) (by decide) ?_
      refine n_aload_n C dX1_property_91 0 rfl rfl ?_
      refine n_get (N := 15) C dX1_property_92 iw1_property_X1 0 rfl rfl 11 (by decide) (List.mem_of_getElem? (i := 6) rfl) rfl rfl rfl ?_
      refine n_iload_n C dX1_property_95 1 rfl rfl ?_
      obtain ⟨x96, h96, hf⟩ := bi hf
      obtain ⟨h96, e96⟩ := ald_some h96
      refine n_iald C dX1_property_96 9 0 rfl rfl h96 rfl ?_
      rw [← e96]
      obtain rfl := Option.some.inj hf
      exact n_iret C dX1_property_97
    have hf := iq h11_5 hf
    by_cases h11_6 : x2 = (nI 6)
    · have hf := ip h11_6 hf
      refine n_tswIn (off := 87) (t := 98) C dX1_property_11 (by rw [h11_6]; decide) (by rw [h11_6]; decide) (by rw [h11_6]; decide) (by decide) ?_
      refine n_aload_n C dX1_property_98 0 rfl rfl ?_
      refine n_iload_n C dX1_property_99 1 rfl rfl ?_
      refine n_iconst (v := (nI 0)) C dX1_property_100 (by decide) rfl ?_
      obtain ⟨z101, h101, hf⟩ := bi hf
      refine n_callV (As := [.int x1, .int (nI 0)]) (rest := []) (w2 := bX1 cyI aL oL) C dX1_property_101 (c1_scoreOf l D cyI cyO cyJ aL n oL x1 (nI 0) z101 h101) (cwV 2 C.ts gX1_property_X1_scoreOf rfl rfl rfl (by decide +kernel) ⟨Nat.le_of_ble_eq_true rfl, Nat.le_of_ble_eq_true rfl⟩) rfl (q0 := 0) (ci := 1) rfl rfl Frm.self rfl (Nat.le_of_ble_eq_true rfl) ⟨Nat.le_of_ble_eq_true rfl, Nat.le_of_ble_eq_true rfl⟩ rfl ?_
      obtain rfl := Option.some.inj hf
      exact n_iret C dX1_property_104
    have hf := iq h11_6 hf
    by_cases h11_7 : x2 = (nI 7)
    · have hf := ip h11_7 hf
      refine n_tswIn (off := 94) (t := 105) C dX1_property_11 (by rw [h11_7]; decide) (by rw [h11_7]; decide) (by rw [h11_7]; decide) (by decide) ?_
      refine n_aload_n C dX1_property_105 0 rfl rfl ?_
      refine n_iload_n C dX1_property_106 1 rfl rfl ?_
      refine n_iconst (v := (nI 1)) C dX1_property_107 (by decide) rfl ?_
      obtain ⟨z108, h108, hf⟩ := bi hf
      refine n_callV (As := [.int x1, .int (nI 1)]) (rest := []) (w2 := bX1 cyI aL oL) C dX1_property_108 (c1_scoreOf l D cyI cyO cyJ aL n oL x1 (nI 1) z108 h108) (cwV 2 C.ts gX1_property_X1_scoreOf rfl rfl rfl (by decide +kernel) ⟨Nat.le_of_ble_eq_true rfl, Nat.le_of_ble_eq_true rfl⟩) rfl (q0 := 0) (ci := 1) rfl rfl Frm.self rfl (Nat.le_of_ble_eq_true rfl) ⟨Nat.le_of_ble_eq_true rfl, Nat.le_of_ble_eq_true rfl⟩ rfl ?_
      obtain rfl := Option.some.inj hf
      exact n_iret C dX1_property_111
    have hf := iq h11_7 hf
    refine n_tswOut (t := 112) C dX1_property_11 (tsw_out 0 8 (fun i hi => by rcases i with _|_|_|_|_|_|_|_|i <;> first | exact h11_0 | exact h11_1 | exact h11_2 | exact h11_3 | exact h11_4 | exact h11_5 | exact h11_6 | exact h11_7 | omega)) (by decide) ?_
    refine n_aload_n C dX1_property_112 0 rfl rfl ?_
    refine n_get (N := 15) C dX1_property_113 iw1_property_X1 0 rfl rfl 12 (by decide) (List.mem_of_getElem? (i := 7) rfl) rfl rfl rfl ?_
    refine n_iload_n C dX1_property_116 1 rfl rfl ?_
    obtain ⟨x117, h117, hf⟩ := bi hf
    obtain ⟨h117, e117⟩ := ald_some h117
    refine n_iald C dX1_property_117 10 0 rfl rfl h117 rfl ?_
    rw [← e117]
    obtain rfl := Option.some.inj hf
    exact n_iret C dX1_property_118
  · have hf := ip h5 hf
    refine n_iconst (v := (-1 : Int32)) C dX1_property_8 (by decide) rfl ?_
    obtain rfl := Option.some.inj hf
    exact n_iret C dX1_property_9
-- X1 matchInRound v
theorem iw1_matchInRound_v_X1 : ∀ w ∈ u_ws RX1 TX1 15, w ∈ wsX1_matchInRound := by decide +kernel
abbrev rm1_matchInRound_v : Room := { frames := 0, cells := 0, slots := 0, locals := 0 }
def f1_matchInRound_v_b3 (n : Nat) (oL : OB) (x1 : Int32) (x3 : Int32) : Nat → Int32 → Option (Int32)
  | 0, _ => none
  | k + 1, v4 =>
    (if (oL.1 2) ≤ v4 then some (-1 : Int32) else (if (nI 28) ≤ v4 then some (-1 : Int32) else (ald 28 (oL.2 6) v4).bind fun x25 => (if x25 = x1 then (ald 28 (oL.2 9) v4).bind fun x33 => (if x33 = x3 then some v4 else (f1_matchInRound_v_b3 n oL x1 x3 k) (v4 + (nI 1))) else (f1_matchInRound_v_b3 n oL x1 x3 k) (v4 + (nI 1)))))
def f1_matchInRound_v (n : Nat) (oL : OB) (x1 : Int32) (x3 : Int32) : Option (Int32) :=
  f1_matchInRound_v_b3 n oL x1 x3 n (nI 0)
set_option maxHeartbeats 4000000 in
set_option maxRecDepth 100000 in
theorem t1_matchInRound_v_b3 {l : Launch} {p : Program} {e : Env} {s : State} {m : MethodId} {args : Array Value} {below : List Frame} {meth : Method} {c : Code} {D : va_G} {A : Nat → Prop} {cyI cyO cyJ : ClassId} {aL : Nat → Nat} (C : Cx p s m args meth c D (tyG cyI cyO cyJ) A RX1 cX1_matchInRound 5 (some .int) wsX1_matchInRound) {z : Int32} (n : Nat) (oL : OB) (x1 : Int32) (x3 : Int32) : ∀ (k : Nat) (v4 : Int32), f1_matchInRound_v_b3 n oL x1 x3 k v4 = some z → Wn p l e rm1_matchInRound_v s m args below meth c D A 5 0 0 (MQ below (Qr D (tyG cyI cyO cyJ) (bX1 cyI aL oL) A (some (.int z))) args s 0 0 A) (bX1 cyI aL oL) 3 [(0, .ref (aL 0)), (1, .int x1), (2, .ref (aL 10)), (3, .int x3), (4, .int v4)] [] := by
  intro k
  induction k with
  | zero => intro  v4 hf; cases hf
  | succ k ih =>
    intro  v4 hf
    unfold f1_matchInRound_v_b3 at hf
    refine n_iload C dX1_matchInRound_3 4 rfl rfl ?_
    refine n_aload_n C dX1_matchInRound_5 0 rfl rfl ?_
    refine n_get (N := 15) C dX1_matchInRound_6 iw1_matchInRound_v_X1 0 rfl rfl 2 (by decide) (List.mem_of_getElem? (i := 1) rfl) rfl rfl rfl ?_
    refine n_icmp_ge (t := 47) C dX1_matchInRound_9 (by decide) rfl (fun h9 => ?_) (fun h9 => ?_)
    · have hf := ip h9 hf
      refine n_iconst (v := (-1 : Int32)) C dX1_matchInRound_47 (by decide) rfl ?_
      obtain rfl := Option.some.inj hf
      exact n_iret C dX1_matchInRound_48
    · have hf := iq h9 hf
      refine n_iload C dX1_matchInRound_12 4 rfl rfl ?_
      refine n_aload_n C dX1_matchInRound_14 2 rfl rfl ?_
      refine n_alen (v := (nI 28)) C dX1_matchInRound_15 7 0 rfl rfl rfl rfl ?_
      refine n_icmp_ge (t := 47) C dX1_matchInRound_16 (by decide) rfl (fun h16 => ?_) (fun h16 => ?_)
      · have hf := ip h16 hf
        refine n_iconst (v := (-1 : Int32)) C dX1_matchInRound_47 (by decide) rfl ?_
        obtain rfl := Option.some.inj hf
        exact n_iret C dX1_matchInRound_48
      · have hf := iq h16 hf
        refine n_aload_n C dX1_matchInRound_19 0 rfl rfl ?_
        refine n_get (N := 15) C dX1_matchInRound_20 iw1_matchInRound_v_X1 0 rfl rfl 6 (by decide) (List.mem_of_getElem? (i := 2) rfl) rfl rfl rfl ?_
        refine n_iload C dX1_matchInRound_23 4 rfl rfl ?_
        obtain ⟨x25, h25, hf⟩ := bi hf
        obtain ⟨h25, e25⟩ := ald_some h25
        refine n_iald C dX1_matchInRound_25 4 0 rfl rfl h25 rfl ?_
        rw [← e25]
        refine n_iload_n C dX1_matchInRound_26 1 rfl rfl ?_
        refine n_icmp_ne (t := 41) C dX1_matchInRound_27 (by decide) rfl (fun h27 => ?_) (fun h27 => ?_)
        · have hf := iq h27 hf
          refine n_iinc (v := v4 + (nI 1)) (lv' := [(4, .int (v4 + (nI 1))), (0, .ref (aL 0)), (1, .int x1), (2, .ref (aL 10)), (3, .int x3)]) C dX1_matchInRound_41 (j := 4) rfl rfl (by decide) rfl rfl ?_
          refine n_goto (t := 3) C dX1_matchInRound_44 (by decide) ?_
          exact Wn.sub (lv' := [(0, .ref (aL 0)), (1, .int x1), (2, .ref (aL 10)), (3, .int x3), (4, .int (v4 + (nI 1)))]) [1, 2, 3, 4, 0] rfl (ih (v4 + (nI 1)) hf)
        · have hf := ip h27 hf
          refine n_aload_n C dX1_matchInRound_30 2 rfl rfl ?_
          refine n_iload C dX1_matchInRound_31 4 rfl rfl ?_
          obtain ⟨x33, h33, hf⟩ := bi hf
          obtain ⟨h33, e33⟩ := ald_some h33
          refine n_iald C dX1_matchInRound_33 7 0 rfl rfl h33 rfl ?_
          rw [← e33]
          refine n_iload_n C dX1_matchInRound_34 3 rfl rfl ?_
          refine n_icmp_ne (t := 41) C dX1_matchInRound_35 (by decide) rfl (fun h35 => ?_) (fun h35 => ?_)
          · have hf := iq h35 hf
            refine n_iinc (v := v4 + (nI 1)) (lv' := [(4, .int (v4 + (nI 1))), (0, .ref (aL 0)), (1, .int x1), (2, .ref (aL 10)), (3, .int x3)]) C dX1_matchInRound_41 (j := 4) rfl rfl (by decide) rfl rfl ?_
            refine n_goto (t := 3) C dX1_matchInRound_44 (by decide) ?_
            exact Wn.sub (lv' := [(0, .ref (aL 0)), (1, .int x1), (2, .ref (aL 10)), (3, .int x3), (4, .int (v4 + (nI 1)))]) [1, 2, 3, 4, 0] rfl (ih (v4 + (nI 1)) hf)
          · have hf := ip h35 hf
            refine n_iload C dX1_matchInRound_38 4 rfl rfl ?_
            obtain rfl := Option.some.inj hf
            exact n_iret C dX1_matchInRound_40
set_option maxHeartbeats 4000000 in
set_option maxRecDepth 100000 in
theorem c1_matchInRound_v (l : Launch) (D : va_G) (cyI cyO cyJ : ClassId) (aL : Nat → Nat) (n : Nat) (oL : OB) (x1 : Int32) (x3 : Int32) (z : Int32) (hf : f1_matchInRound_v n oL x1 x3 = some z) : Ct l D (tyG cyI cyO cyJ) yX1_matchInRound wsX1_matchInRound rm1_matchInRound_v 0 0 [.ref (aL 0), .int x1, .ref (aL 10), .int x3] (bX1 cyI aL oL) (bX1 cyI aL oL) (some (.int z)) := by
  refine Ct.of (cc := cX1_matchInRound) (nL := 5) (ret := (some .int)) (lv := [(0, .ref (aL 0)), (1, .int x1), (2, .ref (aL 10)), (3, .int x3)]) (by decide +kernel) rfl rfl (Nat.le_of_ble_eq_true rfl) ?_
  intro p e s m args below meth c A C
  have C : Cx p s m args meth c D (tyG cyI cyO cyJ) A RX1 cX1_matchInRound 5 (some .int) wsX1_matchInRound := C
  unfold f1_matchInRound_v at hf
  refine n_iconst (v := (nI 0)) C dX1_matchInRound_0 (by decide) rfl ?_
  refine n_istore (lv' := [(4, .int (nI 0)), (0, .ref (aL 0)), (1, .int x1), (2, .ref (aL 10)), (3, .int x3)]) C dX1_matchInRound_1 (by decide) rfl rfl ?_
  exact Wn.sub (lv' := [(0, .ref (aL 0)), (1, .int x1), (2, .ref (aL 10)), (3, .int x3), (4, .int (nI 0))]) [1, 2, 3, 4, 0] rfl (t1_matchInRound_v_b3 C n oL x1 x3 n (nI 0) hf)
-- X1 matchInRound s
theorem iw1_matchInRound_s_X1 : ∀ w ∈ u_ws RX1 TX1 15, w ∈ wsX1_matchInRound := by decide +kernel
abbrev rm1_matchInRound_s : Room := { frames := 0, cells := 0, slots := 0, locals := 0 }
def f1_matchInRound_s_b3 (n : Nat) (oL : OB) (x1 : Int32) (x3 : Int32) : Nat → Int32 → Option (Int32)
  | 0, _ => none
  | k + 1, v4 =>
    (if (oL.1 2) ≤ v4 then some (-1 : Int32) else (if (nI 28) ≤ v4 then some (-1 : Int32) else (ald 28 (oL.2 6) v4).bind fun x25 => (if x25 = x1 then (ald 28 (oL.2 10) v4).bind fun x33 => (if x33 = x3 then some v4 else (f1_matchInRound_s_b3 n oL x1 x3 k) (v4 + (nI 1))) else (f1_matchInRound_s_b3 n oL x1 x3 k) (v4 + (nI 1)))))
def f1_matchInRound_s (n : Nat) (oL : OB) (x1 : Int32) (x3 : Int32) : Option (Int32) :=
  f1_matchInRound_s_b3 n oL x1 x3 n (nI 0)
set_option maxHeartbeats 4000000 in
set_option maxRecDepth 100000 in
theorem t1_matchInRound_s_b3 {l : Launch} {p : Program} {e : Env} {s : State} {m : MethodId} {args : Array Value} {below : List Frame} {meth : Method} {c : Code} {D : va_G} {A : Nat → Prop} {cyI cyO cyJ : ClassId} {aL : Nat → Nat} (C : Cx p s m args meth c D (tyG cyI cyO cyJ) A RX1 cX1_matchInRound 5 (some .int) wsX1_matchInRound) {z : Int32} (n : Nat) (oL : OB) (x1 : Int32) (x3 : Int32) : ∀ (k : Nat) (v4 : Int32), f1_matchInRound_s_b3 n oL x1 x3 k v4 = some z → Wn p l e rm1_matchInRound_s s m args below meth c D A 5 0 0 (MQ below (Qr D (tyG cyI cyO cyJ) (bX1 cyI aL oL) A (some (.int z))) args s 0 0 A) (bX1 cyI aL oL) 3 [(0, .ref (aL 0)), (1, .int x1), (2, .ref (aL 11)), (3, .int x3), (4, .int v4)] [] := by
  intro k
  induction k with
  | zero => intro  v4 hf; cases hf
  | succ k ih =>
    intro  v4 hf
    unfold f1_matchInRound_s_b3 at hf
    refine n_iload C dX1_matchInRound_3 4 rfl rfl ?_
    refine n_aload_n C dX1_matchInRound_5 0 rfl rfl ?_
    refine n_get (N := 15) C dX1_matchInRound_6 iw1_matchInRound_s_X1 0 rfl rfl 2 (by decide) (List.mem_of_getElem? (i := 1) rfl) rfl rfl rfl ?_
    refine n_icmp_ge (t := 47) C dX1_matchInRound_9 (by decide) rfl (fun h9 => ?_) (fun h9 => ?_)
    · have hf := ip h9 hf
      refine n_iconst (v := (-1 : Int32)) C dX1_matchInRound_47 (by decide) rfl ?_
      obtain rfl := Option.some.inj hf
      exact n_iret C dX1_matchInRound_48
    · have hf := iq h9 hf
      refine n_iload C dX1_matchInRound_12 4 rfl rfl ?_
      refine n_aload_n C dX1_matchInRound_14 2 rfl rfl ?_
      refine n_alen (v := (nI 28)) C dX1_matchInRound_15 8 0 rfl rfl rfl rfl ?_
      refine n_icmp_ge (t := 47) C dX1_matchInRound_16 (by decide) rfl (fun h16 => ?_) (fun h16 => ?_)
      · have hf := ip h16 hf
        refine n_iconst (v := (-1 : Int32)) C dX1_matchInRound_47 (by decide) rfl ?_
        obtain rfl := Option.some.inj hf
        exact n_iret C dX1_matchInRound_48
      · have hf := iq h16 hf
        refine n_aload_n C dX1_matchInRound_19 0 rfl rfl ?_
        refine n_get (N := 15) C dX1_matchInRound_20 iw1_matchInRound_s_X1 0 rfl rfl 6 (by decide) (List.mem_of_getElem? (i := 2) rfl) rfl rfl rfl ?_
        refine n_iload C dX1_matchInRound_23 4 rfl rfl ?_
        obtain ⟨x25, h25, hf⟩ := bi hf
        obtain ⟨h25, e25⟩ := ald_some h25
        refine n_iald C dX1_matchInRound_25 4 0 rfl rfl h25 rfl ?_
        rw [← e25]
        refine n_iload_n C dX1_matchInRound_26 1 rfl rfl ?_
        refine n_icmp_ne (t := 41) C dX1_matchInRound_27 (by decide) rfl (fun h27 => ?_) (fun h27 => ?_)
        · have hf := iq h27 hf
          refine n_iinc (v := v4 + (nI 1)) (lv' := [(4, .int (v4 + (nI 1))), (0, .ref (aL 0)), (1, .int x1), (2, .ref (aL 11)), (3, .int x3)]) C dX1_matchInRound_41 (j := 4) rfl rfl (by decide) rfl rfl ?_
          refine n_goto (t := 3) C dX1_matchInRound_44 (by decide) ?_
          exact Wn.sub (lv' := [(0, .ref (aL 0)), (1, .int x1), (2, .ref (aL 11)), (3, .int x3), (4, .int (v4 + (nI 1)))]) [1, 2, 3, 4, 0] rfl (ih (v4 + (nI 1)) hf)
        · have hf := ip h27 hf
          refine n_aload_n C dX1_matchInRound_30 2 rfl rfl ?_
          refine n_iload C dX1_matchInRound_31 4 rfl rfl ?_
          obtain ⟨x33, h33, hf⟩ := bi hf
          obtain ⟨h33, e33⟩ := ald_some h33
          refine n_iald C dX1_matchInRound_33 8 0 rfl rfl h33 rfl ?_
          rw [← e33]
          refine n_iload_n C dX1_matchInRound_34 3 rfl rfl ?_
          refine n_icmp_ne (t := 41) C dX1_matchInRound_35 (by decide) rfl (fun h35 => ?_) (fun h35 => ?_)
          · have hf := iq h35 hf
            refine n_iinc (v := v4 + (nI 1)) (lv' := [(4, .int (v4 + (nI 1))), (0, .ref (aL 0)), (1, .int x1), (2, .ref (aL 11)), (3, .int x3)]) C dX1_matchInRound_41 (j := 4) rfl rfl (by decide) rfl rfl ?_
            refine n_goto (t := 3) C dX1_matchInRound_44 (by decide) ?_
            exact Wn.sub (lv' := [(0, .ref (aL 0)), (1, .int x1), (2, .ref (aL 11)), (3, .int x3), (4, .int (v4 + (nI 1)))]) [1, 2, 3, 4, 0] rfl (ih (v4 + (nI 1)) hf)
          · have hf := ip h35 hf
            refine n_iload C dX1_matchInRound_38 4 rfl rfl ?_
            obtain rfl := Option.some.inj hf
            exact n_iret C dX1_matchInRound_40
set_option maxHeartbeats 4000000 in
set_option maxRecDepth 100000 in
theorem c1_matchInRound_s (l : Launch) (D : va_G) (cyI cyO cyJ : ClassId) (aL : Nat → Nat) (n : Nat) (oL : OB) (x1 : Int32) (x3 : Int32) (z : Int32) (hf : f1_matchInRound_s n oL x1 x3 = some z) : Ct l D (tyG cyI cyO cyJ) yX1_matchInRound wsX1_matchInRound rm1_matchInRound_s 0 0 [.ref (aL 0), .int x1, .ref (aL 11), .int x3] (bX1 cyI aL oL) (bX1 cyI aL oL) (some (.int z)) := by
  refine Ct.of (cc := cX1_matchInRound) (nL := 5) (ret := (some .int)) (lv := [(0, .ref (aL 0)), (1, .int x1), (2, .ref (aL 11)), (3, .int x3)]) (by decide +kernel) rfl rfl (Nat.le_of_ble_eq_true rfl) ?_
  intro p e s m args below meth c A C
  have C : Cx p s m args meth c D (tyG cyI cyO cyJ) A RX1 cX1_matchInRound 5 (some .int) wsX1_matchInRound := C
  unfold f1_matchInRound_s at hf
  refine n_iconst (v := (nI 0)) C dX1_matchInRound_0 (by decide) rfl ?_
  refine n_istore (lv' := [(4, .int (nI 0)), (0, .ref (aL 0)), (1, .int x1), (2, .ref (aL 11)), (3, .int x3)]) C dX1_matchInRound_1 (by decide) rfl rfl ?_
  exact Wn.sub (lv' := [(0, .ref (aL 0)), (1, .int x1), (2, .ref (aL 11)), (3, .int x3), (4, .int (nI 0))]) [1, 2, 3, 4, 0] rfl (t1_matchInRound_s_b3 C n oL x1 x3 n (nI 0) hf)
-- X1 matchOfBoth 
theorem iw1_matchOfBoth_X1 : ∀ w ∈ u_ws RX1 TX1 15, w ∈ wsX1_matchOfBoth := by decide +kernel
abbrev rm1_matchOfBoth : Room := { frames := 0, cells := 0, slots := 0, locals := 0 }
def f1_matchOfBoth_b30 (n : Nat) (oL : OB) (x1 : Int32) (x2 : Int32) (k2 : Int32 → Option (Int32)) (v3 : Int32) : Option (Int32) :=
  (ald 28 (oL.2 7) v3).bind fun x35 => (if x35 = x2 then (ald 28 (oL.2 8) v3).bind fun x45 => (if x45 = x1 then some v3 else k2 (v3 + (nI 1))) else k2 (v3 + (nI 1)))
def f1_matchOfBoth_b2 (n : Nat) (oL : OB) (x1 : Int32) (x2 : Int32) : Nat → Int32 → Option (Int32)
  | 0, _ => none
  | k + 1, v3 =>
    (if (oL.1 2) ≤ v3 then some (-1 : Int32) else (ald 28 (oL.2 7) v3).bind fun x15 => (if x15 = x1 then (ald 28 (oL.2 8) v3).bind fun x25 => (if x25 = x2 then some v3 else f1_matchOfBoth_b30 n oL x1 x2 (f1_matchOfBoth_b2 n oL x1 x2 k) v3) else f1_matchOfBoth_b30 n oL x1 x2 (f1_matchOfBoth_b2 n oL x1 x2 k) v3))
def f1_matchOfBoth (n : Nat) (oL : OB) (x1 : Int32) (x2 : Int32) : Option (Int32) :=
  f1_matchOfBoth_b2 n oL x1 x2 n (nI 0)
set_option maxHeartbeats 4000000 in
set_option maxRecDepth 100000 in
theorem t1_matchOfBoth_b30 {l : Launch} {p : Program} {e : Env} {s : State} {m : MethodId} {args : Array Value} {below : List Frame} {meth : Method} {c : Code} {D : va_G} {A : Nat → Prop} {cyI cyO cyJ : ClassId} {aL : Nat → Nat} (C : Cx p s m args meth c D (tyG cyI cyO cyJ) A RX1 cX1_matchOfBoth 4 (some .int) wsX1_matchOfBoth) {z : Int32} (n : Nat) (oL : OB) (x1 : Int32) (x2 : Int32) {k2 : Int32 → Option (Int32)} (hk2 : ∀ (v3 : Int32), k2 v3 = some z → Wn p l e rm1_matchOfBoth s m args below meth c D A 4 0 0 (MQ below (Qr D (tyG cyI cyO cyJ) (bX1 cyI aL oL) A (some (.int z))) args s 0 0 A) (bX1 cyI aL oL) 2 [(0, .ref (aL 0)), (1, .int x1), (2, .int x2), (3, .int v3)] []) (v3 : Int32) (hf : f1_matchOfBoth_b30 n oL x1 x2 k2 v3 = some z) : Wn p l e rm1_matchOfBoth s m args below meth c D A 4 0 0 (MQ below (Qr D (tyG cyI cyO cyJ) (bX1 cyI aL oL) A (some (.int z))) args s 0 0 A) (bX1 cyI aL oL) 30 [(0, .ref (aL 0)), (1, .int x1), (2, .int x2), (3, .int v3)] [] := by
  unfold f1_matchOfBoth_b30 at hf
  refine n_aload_n C dX1_matchOfBoth_30 0 rfl rfl ?_
  refine n_get (N := 15) C dX1_matchOfBoth_31 iw1_matchOfBoth_X1 0 rfl rfl 7 (by decide) (List.mem_of_getElem? (i := 2) rfl) rfl rfl rfl ?_
  refine n_iload_n C dX1_matchOfBoth_34 3 rfl rfl ?_
  obtain ⟨x35, h35, hf⟩ := bi hf
  obtain ⟨h35, e35⟩ := ald_some h35
  refine n_iald C dX1_matchOfBoth_35 5 0 rfl rfl h35 rfl ?_
  rw [← e35]
  refine n_iload_n C dX1_matchOfBoth_36 2 rfl rfl ?_
  refine n_icmp_ne (t := 52) C dX1_matchOfBoth_37 (by decide) rfl (fun h37 => ?_) (fun h37 => ?_)
  · have hf := iq h37 hf
    refine n_iinc (v := v3 + (nI 1)) (lv' := [(3, .int (v3 + (nI 1))), (0, .ref (aL 0)), (1, .int x1), (2, .int x2)]) C dX1_matchOfBoth_52 (j := 3) rfl rfl (by decide) rfl rfl ?_
    refine n_goto (t := 2) C dX1_matchOfBoth_55 (by decide) ?_
    exact Wn.sub (lv' := [(0, .ref (aL 0)), (1, .int x1), (2, .int x2), (3, .int (v3 + (nI 1)))]) [1, 2, 3, 0] rfl (hk2 (v3 + (nI 1)) hf)
  · have hf := ip h37 hf
    refine n_aload_n C dX1_matchOfBoth_40 0 rfl rfl ?_
    refine n_get (N := 15) C dX1_matchOfBoth_41 iw1_matchOfBoth_X1 0 rfl rfl 8 (by decide) (List.mem_of_getElem? (i := 3) rfl) rfl rfl rfl ?_
    refine n_iload_n C dX1_matchOfBoth_44 3 rfl rfl ?_
    obtain ⟨x45, h45, hf⟩ := bi hf
    obtain ⟨h45, e45⟩ := ald_some h45
    refine n_iald C dX1_matchOfBoth_45 6 0 rfl rfl h45 rfl ?_
    rw [← e45]
    refine n_iload_n C dX1_matchOfBoth_46 1 rfl rfl ?_
    refine n_icmp_ne (t := 52) C dX1_matchOfBoth_47 (by decide) rfl (fun h47 => ?_) (fun h47 => ?_)
    · have hf := iq h47 hf
      refine n_iinc (v := v3 + (nI 1)) (lv' := [(3, .int (v3 + (nI 1))), (0, .ref (aL 0)), (1, .int x1), (2, .int x2)]) C dX1_matchOfBoth_52 (j := 3) rfl rfl (by decide) rfl rfl ?_
      refine n_goto (t := 2) C dX1_matchOfBoth_55 (by decide) ?_
      exact Wn.sub (lv' := [(0, .ref (aL 0)), (1, .int x1), (2, .int x2), (3, .int (v3 + (nI 1)))]) [1, 2, 3, 0] rfl (hk2 (v3 + (nI 1)) hf)
    · have hf := ip h47 hf
      refine n_iload_n C dX1_matchOfBoth_50 3 rfl rfl ?_
      obtain rfl := Option.some.inj hf
      exact n_iret C dX1_matchOfBoth_51
set_option maxHeartbeats 4000000 in
set_option maxRecDepth 100000 in
theorem t1_matchOfBoth_b2 {l : Launch} {p : Program} {e : Env} {s : State} {m : MethodId} {args : Array Value} {below : List Frame} {meth : Method} {c : Code} {D : va_G} {A : Nat → Prop} {cyI cyO cyJ : ClassId} {aL : Nat → Nat} (C : Cx p s m args meth c D (tyG cyI cyO cyJ) A RX1 cX1_matchOfBoth 4 (some .int) wsX1_matchOfBoth) {z : Int32} (n : Nat) (oL : OB) (x1 : Int32) (x2 : Int32) : ∀ (k : Nat) (v3 : Int32), f1_matchOfBoth_b2 n oL x1 x2 k v3 = some z → Wn p l e rm1_matchOfBoth s m args below meth c D A 4 0 0 (MQ below (Qr D (tyG cyI cyO cyJ) (bX1 cyI aL oL) A (some (.int z))) args s 0 0 A) (bX1 cyI aL oL) 2 [(0, .ref (aL 0)), (1, .int x1), (2, .int x2), (3, .int v3)] [] := by
  intro k
  induction k with
  | zero => intro  v3 hf; cases hf
  | succ k ih =>
    intro  v3 hf
    unfold f1_matchOfBoth_b2 at hf
    refine n_iload_n C dX1_matchOfBoth_2 3 rfl rfl ?_
    refine n_aload_n C dX1_matchOfBoth_3 0 rfl rfl ?_
    refine n_get (N := 15) C dX1_matchOfBoth_4 iw1_matchOfBoth_X1 0 rfl rfl 2 (by decide) (List.mem_of_getElem? (i := 1) rfl) rfl rfl rfl ?_
    refine n_icmp_ge (t := 58) C dX1_matchOfBoth_7 (by decide) rfl (fun h7 => ?_) (fun h7 => ?_)
    · have hf := ip h7 hf
      refine n_iconst (v := (-1 : Int32)) C dX1_matchOfBoth_58 (by decide) rfl ?_
      obtain rfl := Option.some.inj hf
      exact n_iret C dX1_matchOfBoth_59
    · have hf := iq h7 hf
      refine n_aload_n C dX1_matchOfBoth_10 0 rfl rfl ?_
      refine n_get (N := 15) C dX1_matchOfBoth_11 iw1_matchOfBoth_X1 0 rfl rfl 7 (by decide) (List.mem_of_getElem? (i := 2) rfl) rfl rfl rfl ?_
      refine n_iload_n C dX1_matchOfBoth_14 3 rfl rfl ?_
      obtain ⟨x15, h15, hf⟩ := bi hf
      obtain ⟨h15, e15⟩ := ald_some h15
      refine n_iald C dX1_matchOfBoth_15 5 0 rfl rfl h15 rfl ?_
      rw [← e15]
      refine n_iload_n C dX1_matchOfBoth_16 1 rfl rfl ?_
      refine n_icmp_ne (t := 30) C dX1_matchOfBoth_17 (by decide) rfl (fun h17 => ?_) (fun h17 => ?_)
      · have hf := iq h17 hf
        exact Wn.sub (lv' := [(0, .ref (aL 0)), (1, .int x1), (2, .int x2), (3, .int v3)]) [0, 1, 2, 3] rfl (t1_matchOfBoth_b30 C n oL x1 x2 ih v3 hf)
      · have hf := ip h17 hf
        refine n_aload_n C dX1_matchOfBoth_20 0 rfl rfl ?_
        refine n_get (N := 15) C dX1_matchOfBoth_21 iw1_matchOfBoth_X1 0 rfl rfl 8 (by decide) (List.mem_of_getElem? (i := 3) rfl) rfl rfl rfl ?_
        refine n_iload_n C dX1_matchOfBoth_24 3 rfl rfl ?_
        obtain ⟨x25, h25, hf⟩ := bi hf
        obtain ⟨h25, e25⟩ := ald_some h25
        refine n_iald C dX1_matchOfBoth_25 6 0 rfl rfl h25 rfl ?_
        rw [← e25]
        refine n_iload_n C dX1_matchOfBoth_26 2 rfl rfl ?_
        refine n_icmp_eq (t := 50) C dX1_matchOfBoth_27 (by decide) rfl (fun h27 => ?_) (fun h27 => ?_)
        · have hf := ip h27 hf
          refine n_iload_n C dX1_matchOfBoth_50 3 rfl rfl ?_
          obtain rfl := Option.some.inj hf
          exact n_iret C dX1_matchOfBoth_51
        · have hf := iq h27 hf
          exact Wn.sub (lv' := [(0, .ref (aL 0)), (1, .int x1), (2, .int x2), (3, .int v3)]) [0, 1, 2, 3] rfl (t1_matchOfBoth_b30 C n oL x1 x2 ih v3 hf)
set_option maxHeartbeats 4000000 in
set_option maxRecDepth 100000 in
theorem c1_matchOfBoth (l : Launch) (D : va_G) (cyI cyO cyJ : ClassId) (aL : Nat → Nat) (n : Nat) (oL : OB) (x1 : Int32) (x2 : Int32) (z : Int32) (hf : f1_matchOfBoth n oL x1 x2 = some z) : Ct l D (tyG cyI cyO cyJ) yX1_matchOfBoth wsX1_matchOfBoth rm1_matchOfBoth 0 0 [.ref (aL 0), .int x1, .int x2] (bX1 cyI aL oL) (bX1 cyI aL oL) (some (.int z)) := by
  refine Ct.of (cc := cX1_matchOfBoth) (nL := 4) (ret := (some .int)) (lv := [(0, .ref (aL 0)), (1, .int x1), (2, .int x2)]) (by decide +kernel) rfl rfl (Nat.le_of_ble_eq_true rfl) ?_
  intro p e s m args below meth c A C
  have C : Cx p s m args meth c D (tyG cyI cyO cyJ) A RX1 cX1_matchOfBoth 4 (some .int) wsX1_matchOfBoth := C
  unfold f1_matchOfBoth at hf
  refine n_iconst (v := (nI 0)) C dX1_matchOfBoth_0 (by decide) rfl ?_
  refine n_istore_n (lv' := [(3, .int (nI 0)), (0, .ref (aL 0)), (1, .int x1), (2, .int x2)]) C dX1_matchOfBoth_1 (by decide) rfl rfl ?_
  exact Wn.sub (lv' := [(0, .ref (aL 0)), (1, .int x1), (2, .int x2), (3, .int (nI 0))]) [1, 2, 3, 0] rfl (t1_matchOfBoth_b2 C n oL x1 x2 n (nI 0) hf)
-- X1 withVenue 
theorem iw1_withVenue_X1 : ∀ w ∈ u_ws RX1 TX1 15, w ∈ wsX1_withVenue := by decide +kernel
abbrev rm1_withVenue : Room := { frames := 0, cells := 0, slots := 0, locals := 0 }
def f1_withVenue_b4 (n : Nat) (oL : OB) : Nat → Int32 → Int32 → Option (Int32)
  | 0, _, _ => none
  | k + 1, v1, v2 =>
    (if (oL.1 2) ≤ v2 then some v1 else (ald 28 (oL.2 9) v2).bind fun x17 => (if x17 = (-1 : Int32) then (f1_withVenue_b4 n oL k) v1 (v2 + (nI 1)) else (f1_withVenue_b4 n oL k) (v1 + (nI 1)) (v2 + (nI 1))))
def f1_withVenue (n : Nat) (oL : OB) : Option (Int32) :=
  f1_withVenue_b4 n oL n (nI 0) (nI 0)
set_option maxHeartbeats 4000000 in
set_option maxRecDepth 100000 in
theorem t1_withVenue_b4 {l : Launch} {p : Program} {e : Env} {s : State} {m : MethodId} {args : Array Value} {below : List Frame} {meth : Method} {c : Code} {D : va_G} {A : Nat → Prop} {cyI cyO cyJ : ClassId} {aL : Nat → Nat} (C : Cx p s m args meth c D (tyG cyI cyO cyJ) A RX1 cX1_withVenue 3 (some .int) wsX1_withVenue) {z : Int32} (n : Nat) (oL : OB) : ∀ (k : Nat) (v1 : Int32) (v2 : Int32), f1_withVenue_b4 n oL k v1 v2 = some z → Wn p l e rm1_withVenue s m args below meth c D A 3 0 0 (MQ below (Qr D (tyG cyI cyO cyJ) (bX1 cyI aL oL) A (some (.int z))) args s 0 0 A) (bX1 cyI aL oL) 4 [(0, .ref (aL 0)), (1, .int v1), (2, .int v2)] [] := by
  intro k
  induction k with
  | zero => intro  v1 v2 hf; cases hf
  | succ k ih =>
    intro  v1 v2 hf
    unfold f1_withVenue_b4 at hf
    refine n_iload_n C dX1_withVenue_4 2 rfl rfl ?_
    refine n_aload_n C dX1_withVenue_5 0 rfl rfl ?_
    refine n_get (N := 15) C dX1_withVenue_6 iw1_withVenue_X1 0 rfl rfl 2 (by decide) (List.mem_of_getElem? (i := 1) rfl) rfl rfl rfl ?_
    refine n_icmp_ge (t := 31) C dX1_withVenue_9 (by decide) rfl (fun h9 => ?_) (fun h9 => ?_)
    · have hf := ip h9 hf
      refine n_iload_n C dX1_withVenue_31 1 rfl rfl ?_
      obtain rfl := Option.some.inj hf
      exact n_iret C dX1_withVenue_32
    · have hf := iq h9 hf
      refine n_aload_n C dX1_withVenue_12 0 rfl rfl ?_
      refine n_get (N := 15) C dX1_withVenue_13 iw1_withVenue_X1 0 rfl rfl 9 (by decide) (List.mem_of_getElem? (i := 2) rfl) rfl rfl rfl ?_
      refine n_iload_n C dX1_withVenue_16 2 rfl rfl ?_
      obtain ⟨x17, h17, hf⟩ := bi hf
      obtain ⟨h17, e17⟩ := ald_some h17
      refine n_iald C dX1_withVenue_17 7 0 rfl rfl h17 rfl ?_
      rw [← e17]
      refine n_iconst (v := (-1 : Int32)) C dX1_withVenue_18 (by decide) rfl ?_
      refine n_icmp_eq (t := 25) C dX1_withVenue_19 (by decide) rfl (fun h19 => ?_) (fun h19 => ?_)
      · have hf := ip h19 hf
        refine n_iinc (v := v2 + (nI 1)) (lv' := [(2, .int (v2 + (nI 1))), (0, .ref (aL 0)), (1, .int v1)]) C dX1_withVenue_25 (j := 2) rfl rfl (by decide) rfl rfl ?_
        refine n_goto (t := 4) C dX1_withVenue_28 (by decide) ?_
        exact Wn.sub (lv' := [(0, .ref (aL 0)), (1, .int v1), (2, .int (v2 + (nI 1)))]) [1, 2, 0] rfl (ih v1 (v2 + (nI 1)) hf)
      · have hf := iq h19 hf
        refine n_iinc (v := v1 + (nI 1)) (lv' := [(1, .int (v1 + (nI 1))), (0, .ref (aL 0)), (2, .int v2)]) C dX1_withVenue_22 (j := 1) rfl rfl (by decide) rfl rfl ?_
        refine n_iinc (v := v2 + (nI 1)) (lv' := [(2, .int (v2 + (nI 1))), (1, .int (v1 + (nI 1))), (0, .ref (aL 0))]) C dX1_withVenue_25 (j := 2) rfl rfl (by decide) rfl rfl ?_
        refine n_goto (t := 4) C dX1_withVenue_28 (by decide) ?_
        exact Wn.sub (lv' := [(0, .ref (aL 0)), (1, .int (v1 + (nI 1))), (2, .int (v2 + (nI 1)))]) [2, 1, 0] rfl (ih (v1 + (nI 1)) (v2 + (nI 1)) hf)
set_option maxHeartbeats 4000000 in
set_option maxRecDepth 100000 in
theorem c1_withVenue (l : Launch) (D : va_G) (cyI cyO cyJ : ClassId) (aL : Nat → Nat) (n : Nat) (oL : OB) (z : Int32) (hf : f1_withVenue n oL = some z) : Ct l D (tyG cyI cyO cyJ) yX1_withVenue wsX1_withVenue rm1_withVenue 0 0 [.ref (aL 0)] (bX1 cyI aL oL) (bX1 cyI aL oL) (some (.int z)) := by
  refine Ct.of (cc := cX1_withVenue) (nL := 3) (ret := (some .int)) (lv := [(0, .ref (aL 0))]) (by decide +kernel) rfl rfl (Nat.le_of_ble_eq_true rfl) ?_
  intro p e s m args below meth c A C
  have C : Cx p s m args meth c D (tyG cyI cyO cyJ) A RX1 cX1_withVenue 3 (some .int) wsX1_withVenue := C
  unfold f1_withVenue at hf
  refine n_iconst (v := (nI 0)) C dX1_withVenue_0 (by decide) rfl ?_
  refine n_istore_n (lv' := [(1, .int (nI 0)), (0, .ref (aL 0))]) C dX1_withVenue_1 (by decide) rfl rfl ?_
  refine n_iconst (v := (nI 0)) C dX1_withVenue_2 (by decide) rfl ?_
  refine n_istore_n (lv' := [(2, .int (nI 0)), (1, .int (nI 0)), (0, .ref (aL 0))]) C dX1_withVenue_3 (by decide) rfl rfl ?_
  exact Wn.sub (lv' := [(0, .ref (aL 0)), (1, .int (nI 0)), (2, .int (nI 0))]) [2, 1, 0] rfl (t1_withVenue_b4 C n oL n (nI 0) (nI 0) hf)
-- X1 withResult 
theorem iw1_withResult_X1 : ∀ w ∈ u_ws RX1 TX1 15, w ∈ wsX1_withResult := by decide +kernel
abbrev rm1_withResult : Room := { frames := 0, cells := 0, slots := 0, locals := 0 }
def f1_withResult_b4 (n : Nat) (oL : OB) : Nat → Int32 → Int32 → Option (Int32)
  | 0, _, _ => none
  | k + 1, v1, v2 =>
    (if (oL.1 2) ≤ v2 then some v1 else (ald 28 (oL.2 12) v2).bind fun x17 => (if x17 = (0 : Int32) then (f1_withResult_b4 n oL k) v1 (v2 + (nI 1)) else (f1_withResult_b4 n oL k) (v1 + (nI 1)) (v2 + (nI 1))))
def f1_withResult (n : Nat) (oL : OB) : Option (Int32) :=
  f1_withResult_b4 n oL n (nI 0) (nI 0)
set_option maxHeartbeats 4000000 in
set_option maxRecDepth 100000 in
theorem t1_withResult_b4 {l : Launch} {p : Program} {e : Env} {s : State} {m : MethodId} {args : Array Value} {below : List Frame} {meth : Method} {c : Code} {D : va_G} {A : Nat → Prop} {cyI cyO cyJ : ClassId} {aL : Nat → Nat} (C : Cx p s m args meth c D (tyG cyI cyO cyJ) A RX1 cX1_withResult 3 (some .int) wsX1_withResult) {z : Int32} (n : Nat) (oL : OB) : ∀ (k : Nat) (v1 : Int32) (v2 : Int32), f1_withResult_b4 n oL k v1 v2 = some z → Wn p l e rm1_withResult s m args below meth c D A 3 0 0 (MQ below (Qr D (tyG cyI cyO cyJ) (bX1 cyI aL oL) A (some (.int z))) args s 0 0 A) (bX1 cyI aL oL) 4 [(0, .ref (aL 0)), (1, .int v1), (2, .int v2)] [] := by
  intro k
  induction k with
  | zero => intro  v1 v2 hf; cases hf
  | succ k ih =>
    intro  v1 v2 hf
    unfold f1_withResult_b4 at hf
    refine n_iload_n C dX1_withResult_4 2 rfl rfl ?_
    refine n_aload_n C dX1_withResult_5 0 rfl rfl ?_
    refine n_get (N := 15) C dX1_withResult_6 iw1_withResult_X1 0 rfl rfl 2 (by decide) (List.mem_of_getElem? (i := 1) rfl) rfl rfl rfl ?_
    refine n_icmp_ge (t := 30) C dX1_withResult_9 (by decide) rfl (fun h9 => ?_) (fun h9 => ?_)
    · have hf := ip h9 hf
      refine n_iload_n C dX1_withResult_30 1 rfl rfl ?_
      obtain rfl := Option.some.inj hf
      exact n_iret C dX1_withResult_31
    · have hf := iq h9 hf
      refine n_aload_n C dX1_withResult_12 0 rfl rfl ?_
      refine n_get (N := 15) C dX1_withResult_13 iw1_withResult_X1 0 rfl rfl 12 (by decide) (List.mem_of_getElem? (i := 2) rfl) rfl rfl rfl ?_
      refine n_iload_n C dX1_withResult_16 2 rfl rfl ?_
      obtain ⟨x17, h17, hf⟩ := bi hf
      obtain ⟨h17, e17⟩ := ald_some h17
      refine n_iald C dX1_withResult_17 10 0 rfl rfl h17 rfl ?_
      rw [← e17]
      refine n_if_eq (t := 24) C dX1_withResult_18 (by decide) rfl (fun h18 => ?_) (fun h18 => ?_)
      · have hf := ip h18 hf
        refine n_iinc (v := v2 + (nI 1)) (lv' := [(2, .int (v2 + (nI 1))), (0, .ref (aL 0)), (1, .int v1)]) C dX1_withResult_24 (j := 2) rfl rfl (by decide) rfl rfl ?_
        refine n_goto (t := 4) C dX1_withResult_27 (by decide) ?_
        exact Wn.sub (lv' := [(0, .ref (aL 0)), (1, .int v1), (2, .int (v2 + (nI 1)))]) [1, 2, 0] rfl (ih v1 (v2 + (nI 1)) hf)
      · have hf := iq h18 hf
        refine n_iinc (v := v1 + (nI 1)) (lv' := [(1, .int (v1 + (nI 1))), (0, .ref (aL 0)), (2, .int v2)]) C dX1_withResult_21 (j := 1) rfl rfl (by decide) rfl rfl ?_
        refine n_iinc (v := v2 + (nI 1)) (lv' := [(2, .int (v2 + (nI 1))), (1, .int (v1 + (nI 1))), (0, .ref (aL 0))]) C dX1_withResult_24 (j := 2) rfl rfl (by decide) rfl rfl ?_
        refine n_goto (t := 4) C dX1_withResult_27 (by decide) ?_
        exact Wn.sub (lv' := [(0, .ref (aL 0)), (1, .int (v1 + (nI 1))), (2, .int (v2 + (nI 1)))]) [2, 1, 0] rfl (ih (v1 + (nI 1)) (v2 + (nI 1)) hf)
set_option maxHeartbeats 4000000 in
set_option maxRecDepth 100000 in
theorem c1_withResult (l : Launch) (D : va_G) (cyI cyO cyJ : ClassId) (aL : Nat → Nat) (n : Nat) (oL : OB) (z : Int32) (hf : f1_withResult n oL = some z) : Ct l D (tyG cyI cyO cyJ) yX1_withResult wsX1_withResult rm1_withResult 0 0 [.ref (aL 0)] (bX1 cyI aL oL) (bX1 cyI aL oL) (some (.int z)) := by
  refine Ct.of (cc := cX1_withResult) (nL := 3) (ret := (some .int)) (lv := [(0, .ref (aL 0))]) (by decide +kernel) rfl rfl (Nat.le_of_ble_eq_true rfl) ?_
  intro p e s m args below meth c A C
  have C : Cx p s m args meth c D (tyG cyI cyO cyJ) A RX1 cX1_withResult 3 (some .int) wsX1_withResult := C
  unfold f1_withResult at hf
  refine n_iconst (v := (nI 0)) C dX1_withResult_0 (by decide) rfl ?_
  refine n_istore_n (lv' := [(1, .int (nI 0)), (0, .ref (aL 0))]) C dX1_withResult_1 (by decide) rfl rfl ?_
  refine n_iconst (v := (nI 0)) C dX1_withResult_2 (by decide) rfl ?_
  refine n_istore_n (lv' := [(2, .int (nI 0)), (1, .int (nI 0)), (0, .ref (aL 0))]) C dX1_withResult_3 (by decide) rfl rfl ?_
  exact Wn.sub (lv' := [(0, .ref (aL 0)), (1, .int (nI 0)), (2, .int (nI 0))]) [2, 1, 0] rfl (t1_withResult_b4 C n oL n (nI 0) (nI 0) hf)
-- X1 walkovers 
theorem iw1_walkovers_X1 : ∀ w ∈ u_ws RX1 TX1 15, w ∈ wsX1_walkovers := by decide +kernel
abbrev rm1_walkovers : Room := { frames := 0, cells := 0, slots := 0, locals := 0 }
def f1_walkovers_b4 (n : Nat) (oL : OB) : Nat → Int32 → Int32 → Option (Int32)
  | 0, _, _ => none
  | k + 1, v1, v2 =>
    (if (oL.1 2) ≤ v2 then some v1 else (ald 28 (oL.2 12) v2).bind fun x17 => (if x17 = (nI 2) then (f1_walkovers_b4 n oL k) (v1 + (nI 1)) (v2 + (nI 1)) else (ald 28 (oL.2 12) v2).bind fun x27 => (if x27 = (nI 3) then (f1_walkovers_b4 n oL k) (v1 + (nI 1)) (v2 + (nI 1)) else (f1_walkovers_b4 n oL k) v1 (v2 + (nI 1)))))
def f1_walkovers (n : Nat) (oL : OB) : Option (Int32) :=
  f1_walkovers_b4 n oL n (nI 0) (nI 0)
set_option maxHeartbeats 4000000 in
set_option maxRecDepth 100000 in
theorem t1_walkovers_b4 {l : Launch} {p : Program} {e : Env} {s : State} {m : MethodId} {args : Array Value} {below : List Frame} {meth : Method} {c : Code} {D : va_G} {A : Nat → Prop} {cyI cyO cyJ : ClassId} {aL : Nat → Nat} (C : Cx p s m args meth c D (tyG cyI cyO cyJ) A RX1 cX1_walkovers 3 (some .int) wsX1_walkovers) {z : Int32} (n : Nat) (oL : OB) : ∀ (k : Nat) (v1 : Int32) (v2 : Int32), f1_walkovers_b4 n oL k v1 v2 = some z → Wn p l e rm1_walkovers s m args below meth c D A 3 0 0 (MQ below (Qr D (tyG cyI cyO cyJ) (bX1 cyI aL oL) A (some (.int z))) args s 0 0 A) (bX1 cyI aL oL) 4 [(0, .ref (aL 0)), (1, .int v1), (2, .int v2)] [] := by
  intro k
  induction k with
  | zero => intro  v1 v2 hf; cases hf
  | succ k ih =>
    intro  v1 v2 hf
    unfold f1_walkovers_b4 at hf
    refine n_iload_n C dX1_walkovers_4 2 rfl rfl ?_
    refine n_aload_n C dX1_walkovers_5 0 rfl rfl ?_
    refine n_get (N := 15) C dX1_walkovers_6 iw1_walkovers_X1 0 rfl rfl 2 (by decide) (List.mem_of_getElem? (i := 1) rfl) rfl rfl rfl ?_
    refine n_icmp_ge (t := 41) C dX1_walkovers_9 (by decide) rfl (fun h9 => ?_) (fun h9 => ?_)
    · have hf := ip h9 hf
      refine n_iload_n C dX1_walkovers_41 1 rfl rfl ?_
      obtain rfl := Option.some.inj hf
      exact n_iret C dX1_walkovers_42
    · have hf := iq h9 hf
      refine n_aload_n C dX1_walkovers_12 0 rfl rfl ?_
      refine n_get (N := 15) C dX1_walkovers_13 iw1_walkovers_X1 0 rfl rfl 12 (by decide) (List.mem_of_getElem? (i := 2) rfl) rfl rfl rfl ?_
      refine n_iload_n C dX1_walkovers_16 2 rfl rfl ?_
      obtain ⟨x17, h17, hf⟩ := bi hf
      obtain ⟨h17, e17⟩ := ald_some h17
      refine n_iald C dX1_walkovers_17 10 0 rfl rfl h17 rfl ?_
      rw [← e17]
      refine n_iconst (v := (nI 2)) C dX1_walkovers_18 (by decide) rfl ?_
      refine n_icmp_eq (t := 32) C dX1_walkovers_19 (by decide) rfl (fun h19 => ?_) (fun h19 => ?_)
      · have hf := ip h19 hf
        refine n_iinc (v := v1 + (nI 1)) (lv' := [(1, .int (v1 + (nI 1))), (0, .ref (aL 0)), (2, .int v2)]) C dX1_walkovers_32 (j := 1) rfl rfl (by decide) rfl rfl ?_
        refine n_iinc (v := v2 + (nI 1)) (lv' := [(2, .int (v2 + (nI 1))), (1, .int (v1 + (nI 1))), (0, .ref (aL 0))]) C dX1_walkovers_35 (j := 2) rfl rfl (by decide) rfl rfl ?_
        refine n_goto (t := 4) C dX1_walkovers_38 (by decide) ?_
        exact Wn.sub (lv' := [(0, .ref (aL 0)), (1, .int (v1 + (nI 1))), (2, .int (v2 + (nI 1)))]) [2, 1, 0] rfl (ih (v1 + (nI 1)) (v2 + (nI 1)) hf)
      · have hf := iq h19 hf
        refine n_aload_n C dX1_walkovers_22 0 rfl rfl ?_
        refine n_get (N := 15) C dX1_walkovers_23 iw1_walkovers_X1 0 rfl rfl 12 (by decide) (List.mem_of_getElem? (i := 2) rfl) rfl rfl rfl ?_
        refine n_iload_n C dX1_walkovers_26 2 rfl rfl ?_
        obtain ⟨x27, h27, hf⟩ := bi hf
        obtain ⟨h27, e27⟩ := ald_some h27
        refine n_iald C dX1_walkovers_27 10 0 rfl rfl h27 rfl ?_
        rw [← e27]
        refine n_iconst (v := (nI 3)) C dX1_walkovers_28 (by decide) rfl ?_
        refine n_icmp_ne (t := 35) C dX1_walkovers_29 (by decide) rfl (fun h29 => ?_) (fun h29 => ?_)
        · have hf := iq h29 hf
          refine n_iinc (v := v2 + (nI 1)) (lv' := [(2, .int (v2 + (nI 1))), (0, .ref (aL 0)), (1, .int v1)]) C dX1_walkovers_35 (j := 2) rfl rfl (by decide) rfl rfl ?_
          refine n_goto (t := 4) C dX1_walkovers_38 (by decide) ?_
          exact Wn.sub (lv' := [(0, .ref (aL 0)), (1, .int v1), (2, .int (v2 + (nI 1)))]) [1, 2, 0] rfl (ih v1 (v2 + (nI 1)) hf)
        · have hf := ip h29 hf
          refine n_iinc (v := v1 + (nI 1)) (lv' := [(1, .int (v1 + (nI 1))), (0, .ref (aL 0)), (2, .int v2)]) C dX1_walkovers_32 (j := 1) rfl rfl (by decide) rfl rfl ?_
          refine n_iinc (v := v2 + (nI 1)) (lv' := [(2, .int (v2 + (nI 1))), (1, .int (v1 + (nI 1))), (0, .ref (aL 0))]) C dX1_walkovers_35 (j := 2) rfl rfl (by decide) rfl rfl ?_
          refine n_goto (t := 4) C dX1_walkovers_38 (by decide) ?_
          exact Wn.sub (lv' := [(0, .ref (aL 0)), (1, .int (v1 + (nI 1))), (2, .int (v2 + (nI 1)))]) [2, 1, 0] rfl (ih (v1 + (nI 1)) (v2 + (nI 1)) hf)
set_option maxHeartbeats 4000000 in
set_option maxRecDepth 100000 in
theorem c1_walkovers (l : Launch) (D : va_G) (cyI cyO cyJ : ClassId) (aL : Nat → Nat) (n : Nat) (oL : OB) (z : Int32) (hf : f1_walkovers n oL = some z) : Ct l D (tyG cyI cyO cyJ) yX1_walkovers wsX1_walkovers rm1_walkovers 0 0 [.ref (aL 0)] (bX1 cyI aL oL) (bX1 cyI aL oL) (some (.int z)) := by
  refine Ct.of (cc := cX1_walkovers) (nL := 3) (ret := (some .int)) (lv := [(0, .ref (aL 0))]) (by decide +kernel) rfl rfl (Nat.le_of_ble_eq_true rfl) ?_
  intro p e s m args below meth c A C
  have C : Cx p s m args meth c D (tyG cyI cyO cyJ) A RX1 cX1_walkovers 3 (some .int) wsX1_walkovers := C
  unfold f1_walkovers at hf
  refine n_iconst (v := (nI 0)) C dX1_walkovers_0 (by decide) rfl ?_
  refine n_istore_n (lv' := [(1, .int (nI 0)), (0, .ref (aL 0))]) C dX1_walkovers_1 (by decide) rfl rfl ?_
  refine n_iconst (v := (nI 0)) C dX1_walkovers_2 (by decide) rfl ?_
  refine n_istore_n (lv' := [(2, .int (nI 0)), (1, .int (nI 0)), (0, .ref (aL 0))]) C dX1_walkovers_3 (by decide) rfl rfl ?_
  exact Wn.sub (lv' := [(0, .ref (aL 0)), (1, .int (nI 0)), (2, .int (nI 0))]) [2, 1, 0] rfl (t1_walkovers_b4 C n oL n (nI 0) (nI 0) hf)
-- X1 mostOften v
theorem iw1_mostOften_v_X1 : ∀ w ∈ u_ws RX1 TX1 15, w ∈ wsX1_mostOften := by decide +kernel
abbrev rm1_mostOften_v : Room := { frames := 1, cells := 0, slots := 0, locals := 21 }
def f1_mostOften_v_b51 (n : Nat) (oL : OB) (x2 : Int32) (k5 : Int32 → Int32 → Option (Int32)) (v3 : Int32) (v4 : Int32) (v5 : Int32) : Option (Int32) :=
  (some (if v3 < v5 then v5 else v3)).bind fun x54 => k5 x54 (v4 + (nI 1))
def f1_mostOften_v_b17 (n : Nat) (oL : OB) (x2 : Int32) (k51 : Int32 → Int32 → Int32 → Option (Int32)) : Nat → Int32 → Int32 → Int32 → Int32 → Option (Int32)
  | 0, _, _, _, _ => none
  | k + 1, v3, v4, v5, v6 =>
    (if (oL.1 2) ≤ v6 then k51 v3 v4 v5 else (if (nI 28) ≤ v6 then k51 v3 v4 v5 else (ald 28 (oL.2 9) v6).bind fun x36 => (if x36 = v4 then (f1_mostOften_v_b17 n oL x2 k51 k) v3 v4 (v5 + (nI 1)) (v6 + (nI 1)) else (f1_mostOften_v_b17 n oL x2 k51 k) v3 v4 v5 (v6 + (nI 1)))))
def f1_mostOften_v_b5 (n : Nat) (oL : OB) (x2 : Int32) : Nat → Int32 → Int32 → Option (Int32)
  | 0, _, _ => none
  | k + 1, v3, v4 =>
    (if x2 ≤ v4 then some v3 else f1_mostOften_v_b17 n oL x2 (fun v3 v4 v5 => f1_mostOften_v_b51 n oL x2 (f1_mostOften_v_b5 n oL x2 k) v3 v4 v5) n v3 v4 (nI 0) (nI 0))
def f1_mostOften_v (n : Nat) (oL : OB) (x2 : Int32) : Option (Int32) :=
  f1_mostOften_v_b5 n oL x2 n (nI 0) (nI 0)
set_option maxHeartbeats 4000000 in
set_option maxRecDepth 100000 in
theorem t1_mostOften_v_b51 {l : Launch} {p : Program} {e : Env} {s : State} {m : MethodId} {args : Array Value} {below : List Frame} {meth : Method} {c : Code} {D : va_G} {A : Nat → Prop} {cyI cyO cyJ : ClassId} {aL : Nat → Nat} (C : Cx p s m args meth c D (tyG cyI cyO cyJ) A RX1 cX1_mostOften 7 (some .int) wsX1_mostOften) {z : Int32} (n : Nat) (oL : OB) (x2 : Int32) {k5 : Int32 → Int32 → Option (Int32)} (hk5 : ∀ (v3 : Int32) (v4 : Int32), k5 v3 v4 = some z → Wn p l e rm1_mostOften_v s m args below meth c D A 7 0 0 (MQ below (Qr D (tyG cyI cyO cyJ) (bX1 cyI aL oL) A (some (.int z))) args s 0 0 A) (bX1 cyI aL oL) 5 [(0, .ref (aL 0)), (1, .ref (aL 10)), (2, .int x2), (3, .int v3), (4, .int v4)] []) (v3 : Int32) (v4 : Int32) (v5 : Int32) (hf : f1_mostOften_v_b51 n oL x2 k5 v3 v4 v5 = some z) : Wn p l e rm1_mostOften_v s m args below meth c D A 7 0 0 (MQ below (Qr D (tyG cyI cyO cyJ) (bX1 cyI aL oL) A (some (.int z))) args s 0 0 A) (bX1 cyI aL oL) 51 [(0, .ref (aL 0)), (1, .ref (aL 10)), (2, .int x2), (3, .int v3), (4, .int v4), (5, .int v5)] [] := by
  unfold f1_mostOften_v_b51 at hf
  refine n_iload_n C dX1_mostOften_51 3 rfl rfl ?_
  refine n_iload C dX1_mostOften_52 5 rfl rfl ?_
  refine n_mmax C dX1_mostOften_54 (List.mem_of_getElem? (i := 2) rfl) (List.mem_of_getElem? (i := 3) rfl) (List.mem_of_getElem? (i := 4) rfl) (List.mem_of_getElem? (i := 5) rfl) (Nat.le_of_ble_eq_true rfl) (Nat.le_of_ble_eq_true rfl) ⟨Nat.zero_le _, Nat.zero_le _⟩ rfl ?_
  obtain ⟨x54, e54, hf⟩ := bi hf
  rw [Option.some.inj e54]
  refine n_istore_n (lv' := [(3, .int x54), (0, .ref (aL 0)), (1, .ref (aL 10)), (2, .int x2), (4, .int v4), (5, .int v5)]) C dX1_mostOften_57 (by decide) rfl rfl ?_
  refine n_iinc (v := v4 + (nI 1)) (lv' := [(4, .int (v4 + (nI 1))), (3, .int x54), (0, .ref (aL 0)), (1, .ref (aL 10)), (2, .int x2), (5, .int v5)]) C dX1_mostOften_58 (j := 4) rfl rfl (by decide) rfl rfl ?_
  refine n_goto (t := 5) C dX1_mostOften_61 (by decide) ?_
  exact Wn.sub (lv' := [(0, .ref (aL 0)), (1, .ref (aL 10)), (2, .int x2), (3, .int x54), (4, .int (v4 + (nI 1)))]) [2, 3, 4, 1, 0] rfl (hk5 x54 (v4 + (nI 1)) hf)
set_option maxHeartbeats 4000000 in
set_option maxRecDepth 100000 in
theorem t1_mostOften_v_b17 {l : Launch} {p : Program} {e : Env} {s : State} {m : MethodId} {args : Array Value} {below : List Frame} {meth : Method} {c : Code} {D : va_G} {A : Nat → Prop} {cyI cyO cyJ : ClassId} {aL : Nat → Nat} (C : Cx p s m args meth c D (tyG cyI cyO cyJ) A RX1 cX1_mostOften 7 (some .int) wsX1_mostOften) {z : Int32} (n : Nat) (oL : OB) (x2 : Int32) {k51 : Int32 → Int32 → Int32 → Option (Int32)} (hk51 : ∀ (v3 : Int32) (v4 : Int32) (v5 : Int32), k51 v3 v4 v5 = some z → Wn p l e rm1_mostOften_v s m args below meth c D A 7 0 0 (MQ below (Qr D (tyG cyI cyO cyJ) (bX1 cyI aL oL) A (some (.int z))) args s 0 0 A) (bX1 cyI aL oL) 51 [(0, .ref (aL 0)), (1, .ref (aL 10)), (2, .int x2), (3, .int v3), (4, .int v4), (5, .int v5)] []) : ∀ (k : Nat) (v3 : Int32) (v4 : Int32) (v5 : Int32) (v6 : Int32), f1_mostOften_v_b17 n oL x2 k51 k v3 v4 v5 v6 = some z → Wn p l e rm1_mostOften_v s m args below meth c D A 7 0 0 (MQ below (Qr D (tyG cyI cyO cyJ) (bX1 cyI aL oL) A (some (.int z))) args s 0 0 A) (bX1 cyI aL oL) 17 [(0, .ref (aL 0)), (1, .ref (aL 10)), (2, .int x2), (3, .int v3), (4, .int v4), (5, .int v5), (6, .int v6)] [] := by
  intro k
  induction k with
  | zero => intro  v3 v4 v5 v6 hf; cases hf
  | succ k ih =>
    intro  v3 v4 v5 v6 hf
    unfold f1_mostOften_v_b17 at hf
    refine n_iload C dX1_mostOften_17 6 rfl rfl ?_
    refine n_aload_n C dX1_mostOften_19 0 rfl rfl ?_
    refine n_get (N := 15) C dX1_mostOften_20 iw1_mostOften_v_X1 0 rfl rfl 2 (by decide) (List.mem_of_getElem? (i := 1) rfl) rfl rfl rfl ?_
    refine n_icmp_ge (t := 51) C dX1_mostOften_23 (by decide) rfl (fun h23 => ?_) (fun h23 => ?_)
    · have hf := ip h23 hf
      exact Wn.sub (lv' := [(0, .ref (aL 0)), (1, .ref (aL 10)), (2, .int x2), (3, .int v3), (4, .int v4), (5, .int v5)]) [0, 1, 2, 3, 4, 5] rfl (hk51 v3 v4 v5 hf)
    · have hf := iq h23 hf
      refine n_iload C dX1_mostOften_26 6 rfl rfl ?_
      refine n_aload_n C dX1_mostOften_28 1 rfl rfl ?_
      refine n_alen (v := (nI 28)) C dX1_mostOften_29 7 0 rfl rfl rfl rfl ?_
      refine n_icmp_ge (t := 51) C dX1_mostOften_30 (by decide) rfl (fun h30 => ?_) (fun h30 => ?_)
      · have hf := ip h30 hf
        exact Wn.sub (lv' := [(0, .ref (aL 0)), (1, .ref (aL 10)), (2, .int x2), (3, .int v3), (4, .int v4), (5, .int v5)]) [0, 1, 2, 3, 4, 5] rfl (hk51 v3 v4 v5 hf)
      · have hf := iq h30 hf
        refine n_aload_n C dX1_mostOften_33 1 rfl rfl ?_
        refine n_iload C dX1_mostOften_34 6 rfl rfl ?_
        obtain ⟨x36, h36, hf⟩ := bi hf
        obtain ⟨h36, e36⟩ := ald_some h36
        refine n_iald C dX1_mostOften_36 7 0 rfl rfl h36 rfl ?_
        rw [← e36]
        refine n_iload C dX1_mostOften_37 4 rfl rfl ?_
        refine n_icmp_ne (t := 45) C dX1_mostOften_39 (by decide) rfl (fun h39 => ?_) (fun h39 => ?_)
        · have hf := iq h39 hf
          refine n_iinc (v := v6 + (nI 1)) (lv' := [(6, .int (v6 + (nI 1))), (0, .ref (aL 0)), (1, .ref (aL 10)), (2, .int x2), (3, .int v3), (4, .int v4), (5, .int v5)]) C dX1_mostOften_45 (j := 6) rfl rfl (by decide) rfl rfl ?_
          refine n_goto (t := 17) C dX1_mostOften_48 (by decide) ?_
          exact Wn.sub (lv' := [(0, .ref (aL 0)), (1, .ref (aL 10)), (2, .int x2), (3, .int v3), (4, .int v4), (5, .int v5), (6, .int (v6 + (nI 1)))]) [1, 2, 3, 4, 5, 6, 0] rfl (ih v3 v4 v5 (v6 + (nI 1)) hf)
        · have hf := ip h39 hf
          refine n_iinc (v := v5 + (nI 1)) (lv' := [(5, .int (v5 + (nI 1))), (0, .ref (aL 0)), (1, .ref (aL 10)), (2, .int x2), (3, .int v3), (4, .int v4), (6, .int v6)]) C dX1_mostOften_42 (j := 5) rfl rfl (by decide) rfl rfl ?_
          refine n_iinc (v := v6 + (nI 1)) (lv' := [(6, .int (v6 + (nI 1))), (5, .int (v5 + (nI 1))), (0, .ref (aL 0)), (1, .ref (aL 10)), (2, .int x2), (3, .int v3), (4, .int v4)]) C dX1_mostOften_45 (j := 6) rfl rfl (by decide) rfl rfl ?_
          refine n_goto (t := 17) C dX1_mostOften_48 (by decide) ?_
          exact Wn.sub (lv' := [(0, .ref (aL 0)), (1, .ref (aL 10)), (2, .int x2), (3, .int v3), (4, .int v4), (5, .int (v5 + (nI 1))), (6, .int (v6 + (nI 1)))]) [2, 3, 4, 5, 6, 1, 0] rfl (ih v3 v4 (v5 + (nI 1)) (v6 + (nI 1)) hf)
set_option maxHeartbeats 4000000 in
set_option maxRecDepth 100000 in
theorem t1_mostOften_v_b5 {l : Launch} {p : Program} {e : Env} {s : State} {m : MethodId} {args : Array Value} {below : List Frame} {meth : Method} {c : Code} {D : va_G} {A : Nat → Prop} {cyI cyO cyJ : ClassId} {aL : Nat → Nat} (C : Cx p s m args meth c D (tyG cyI cyO cyJ) A RX1 cX1_mostOften 7 (some .int) wsX1_mostOften) {z : Int32} (n : Nat) (oL : OB) (x2 : Int32) : ∀ (k : Nat) (v3 : Int32) (v4 : Int32), f1_mostOften_v_b5 n oL x2 k v3 v4 = some z → Wn p l e rm1_mostOften_v s m args below meth c D A 7 0 0 (MQ below (Qr D (tyG cyI cyO cyJ) (bX1 cyI aL oL) A (some (.int z))) args s 0 0 A) (bX1 cyI aL oL) 5 [(0, .ref (aL 0)), (1, .ref (aL 10)), (2, .int x2), (3, .int v3), (4, .int v4)] [] := by
  intro k
  induction k with
  | zero => intro  v3 v4 hf; cases hf
  | succ k ih =>
    intro  v3 v4 hf
    unfold f1_mostOften_v_b5 at hf
    refine n_iload C dX1_mostOften_5 4 rfl rfl ?_
    refine n_iload_n C dX1_mostOften_7 2 rfl rfl ?_
    refine n_icmp_ge (t := 64) C dX1_mostOften_8 (by decide) rfl (fun h8 => ?_) (fun h8 => ?_)
    · have hf := ip h8 hf
      refine n_iload_n C dX1_mostOften_64 3 rfl rfl ?_
      obtain rfl := Option.some.inj hf
      exact n_iret C dX1_mostOften_65
    · have hf := iq h8 hf
      refine n_iconst (v := (nI 0)) C dX1_mostOften_11 (by decide) rfl ?_
      refine n_istore (lv' := [(5, .int (nI 0)), (0, .ref (aL 0)), (1, .ref (aL 10)), (2, .int x2), (3, .int v3), (4, .int v4)]) C dX1_mostOften_12 (by decide) rfl rfl ?_
      refine n_iconst (v := (nI 0)) C dX1_mostOften_14 (by decide) rfl ?_
      refine n_istore (lv' := [(6, .int (nI 0)), (5, .int (nI 0)), (0, .ref (aL 0)), (1, .ref (aL 10)), (2, .int x2), (3, .int v3), (4, .int v4)]) C dX1_mostOften_15 (by decide) rfl rfl ?_
      exact Wn.sub (lv' := [(0, .ref (aL 0)), (1, .ref (aL 10)), (2, .int x2), (3, .int v3), (4, .int v4), (5, .int (nI 0)), (6, .int (nI 0))]) [2, 3, 4, 5, 6, 1, 0] rfl (t1_mostOften_v_b17 C n oL x2 (fun v3 v4 v5 hf => Wn.sub (lv' := [(0, .ref (aL 0)), (1, .ref (aL 10)), (2, .int x2), (3, .int v3), (4, .int v4), (5, .int v5)]) [0, 1, 2, 3, 4, 5] rfl (t1_mostOften_v_b51 C n oL x2 ih v3 v4 v5 hf)) n v3 v4 (nI 0) (nI 0) hf)
set_option maxHeartbeats 4000000 in
set_option maxRecDepth 100000 in
theorem c1_mostOften_v (l : Launch) (D : va_G) (cyI cyO cyJ : ClassId) (aL : Nat → Nat) (n : Nat) (oL : OB) (x2 : Int32) (z : Int32) (hf : f1_mostOften_v n oL x2 = some z) : Ct l D (tyG cyI cyO cyJ) yX1_mostOften wsX1_mostOften rm1_mostOften_v 0 0 [.ref (aL 0), .ref (aL 10), .int x2] (bX1 cyI aL oL) (bX1 cyI aL oL) (some (.int z)) := by
  refine Ct.of (cc := cX1_mostOften) (nL := 7) (ret := (some .int)) (lv := [(0, .ref (aL 0)), (1, .ref (aL 10)), (2, .int x2)]) (by decide +kernel) rfl rfl (Nat.le_of_ble_eq_true rfl) ?_
  intro p e s m args below meth c A C
  have C : Cx p s m args meth c D (tyG cyI cyO cyJ) A RX1 cX1_mostOften 7 (some .int) wsX1_mostOften := C
  unfold f1_mostOften_v at hf
  refine n_iconst (v := (nI 0)) C dX1_mostOften_0 (by decide) rfl ?_
  refine n_istore_n (lv' := [(3, .int (nI 0)), (0, .ref (aL 0)), (1, .ref (aL 10)), (2, .int x2)]) C dX1_mostOften_1 (by decide) rfl rfl ?_
  refine n_iconst (v := (nI 0)) C dX1_mostOften_2 (by decide) rfl ?_
  refine n_istore (lv' := [(4, .int (nI 0)), (3, .int (nI 0)), (0, .ref (aL 0)), (1, .ref (aL 10)), (2, .int x2)]) C dX1_mostOften_3 (by decide) rfl rfl ?_
  exact Wn.sub (lv' := [(0, .ref (aL 0)), (1, .ref (aL 10)), (2, .int x2), (3, .int (nI 0)), (4, .int (nI 0))]) [2, 3, 4, 1, 0] rfl (t1_mostOften_v_b5 C n oL x2 n (nI 0) (nI 0) hf)
-- X1 mostOften s
theorem iw1_mostOften_s_X1 : ∀ w ∈ u_ws RX1 TX1 15, w ∈ wsX1_mostOften := by decide +kernel
abbrev rm1_mostOften_s : Room := { frames := 1, cells := 0, slots := 0, locals := 21 }
def f1_mostOften_s_b51 (n : Nat) (oL : OB) (x2 : Int32) (k5 : Int32 → Int32 → Option (Int32)) (v3 : Int32) (v4 : Int32) (v5 : Int32) : Option (Int32) :=
  (some (if v3 < v5 then v5 else v3)).bind fun x54 => k5 x54 (v4 + (nI 1))
def f1_mostOften_s_b17 (n : Nat) (oL : OB) (x2 : Int32) (k51 : Int32 → Int32 → Int32 → Option (Int32)) : Nat → Int32 → Int32 → Int32 → Int32 → Option (Int32)
  | 0, _, _, _, _ => none
  | k + 1, v3, v4, v5, v6 =>
    (if (oL.1 2) ≤ v6 then k51 v3 v4 v5 else (if (nI 28) ≤ v6 then k51 v3 v4 v5 else (ald 28 (oL.2 10) v6).bind fun x36 => (if x36 = v4 then (f1_mostOften_s_b17 n oL x2 k51 k) v3 v4 (v5 + (nI 1)) (v6 + (nI 1)) else (f1_mostOften_s_b17 n oL x2 k51 k) v3 v4 v5 (v6 + (nI 1)))))
def f1_mostOften_s_b5 (n : Nat) (oL : OB) (x2 : Int32) : Nat → Int32 → Int32 → Option (Int32)
  | 0, _, _ => none
  | k + 1, v3, v4 =>
    (if x2 ≤ v4 then some v3 else f1_mostOften_s_b17 n oL x2 (fun v3 v4 v5 => f1_mostOften_s_b51 n oL x2 (f1_mostOften_s_b5 n oL x2 k) v3 v4 v5) n v3 v4 (nI 0) (nI 0))
def f1_mostOften_s (n : Nat) (oL : OB) (x2 : Int32) : Option (Int32) :=
  f1_mostOften_s_b5 n oL x2 n (nI 0) (nI 0)
set_option maxHeartbeats 4000000 in
set_option maxRecDepth 100000 in
theorem t1_mostOften_s_b51 {l : Launch} {p : Program} {e : Env} {s : State} {m : MethodId} {args : Array Value} {below : List Frame} {meth : Method} {c : Code} {D : va_G} {A : Nat → Prop} {cyI cyO cyJ : ClassId} {aL : Nat → Nat} (C : Cx p s m args meth c D (tyG cyI cyO cyJ) A RX1 cX1_mostOften 7 (some .int) wsX1_mostOften) {z : Int32} (n : Nat) (oL : OB) (x2 : Int32) {k5 : Int32 → Int32 → Option (Int32)} (hk5 : ∀ (v3 : Int32) (v4 : Int32), k5 v3 v4 = some z → Wn p l e rm1_mostOften_s s m args below meth c D A 7 0 0 (MQ below (Qr D (tyG cyI cyO cyJ) (bX1 cyI aL oL) A (some (.int z))) args s 0 0 A) (bX1 cyI aL oL) 5 [(0, .ref (aL 0)), (1, .ref (aL 11)), (2, .int x2), (3, .int v3), (4, .int v4)] []) (v3 : Int32) (v4 : Int32) (v5 : Int32) (hf : f1_mostOften_s_b51 n oL x2 k5 v3 v4 v5 = some z) : Wn p l e rm1_mostOften_s s m args below meth c D A 7 0 0 (MQ below (Qr D (tyG cyI cyO cyJ) (bX1 cyI aL oL) A (some (.int z))) args s 0 0 A) (bX1 cyI aL oL) 51 [(0, .ref (aL 0)), (1, .ref (aL 11)), (2, .int x2), (3, .int v3), (4, .int v4), (5, .int v5)] [] := by
  unfold f1_mostOften_s_b51 at hf
  refine n_iload_n C dX1_mostOften_51 3 rfl rfl ?_
  refine n_iload C dX1_mostOften_52 5 rfl rfl ?_
  refine n_mmax C dX1_mostOften_54 (List.mem_of_getElem? (i := 2) rfl) (List.mem_of_getElem? (i := 3) rfl) (List.mem_of_getElem? (i := 4) rfl) (List.mem_of_getElem? (i := 5) rfl) (Nat.le_of_ble_eq_true rfl) (Nat.le_of_ble_eq_true rfl) ⟨Nat.zero_le _, Nat.zero_le _⟩ rfl ?_
  obtain ⟨x54, e54, hf⟩ := bi hf
  rw [Option.some.inj e54]
  refine n_istore_n (lv' := [(3, .int x54), (0, .ref (aL 0)), (1, .ref (aL 11)), (2, .int x2), (4, .int v4), (5, .int v5)]) C dX1_mostOften_57 (by decide) rfl rfl ?_
  refine n_iinc (v := v4 + (nI 1)) (lv' := [(4, .int (v4 + (nI 1))), (3, .int x54), (0, .ref (aL 0)), (1, .ref (aL 11)), (2, .int x2), (5, .int v5)]) C dX1_mostOften_58 (j := 4) rfl rfl (by decide) rfl rfl ?_
  refine n_goto (t := 5) C dX1_mostOften_61 (by decide) ?_
  exact Wn.sub (lv' := [(0, .ref (aL 0)), (1, .ref (aL 11)), (2, .int x2), (3, .int x54), (4, .int (v4 + (nI 1)))]) [2, 3, 4, 1, 0] rfl (hk5 x54 (v4 + (nI 1)) hf)
set_option maxHeartbeats 4000000 in
set_option maxRecDepth 100000 in
theorem t1_mostOften_s_b17 {l : Launch} {p : Program} {e : Env} {s : State} {m : MethodId} {args : Array Value} {below : List Frame} {meth : Method} {c : Code} {D : va_G} {A : Nat → Prop} {cyI cyO cyJ : ClassId} {aL : Nat → Nat} (C : Cx p s m args meth c D (tyG cyI cyO cyJ) A RX1 cX1_mostOften 7 (some .int) wsX1_mostOften) {z : Int32} (n : Nat) (oL : OB) (x2 : Int32) {k51 : Int32 → Int32 → Int32 → Option (Int32)} (hk51 : ∀ (v3 : Int32) (v4 : Int32) (v5 : Int32), k51 v3 v4 v5 = some z → Wn p l e rm1_mostOften_s s m args below meth c D A 7 0 0 (MQ below (Qr D (tyG cyI cyO cyJ) (bX1 cyI aL oL) A (some (.int z))) args s 0 0 A) (bX1 cyI aL oL) 51 [(0, .ref (aL 0)), (1, .ref (aL 11)), (2, .int x2), (3, .int v3), (4, .int v4), (5, .int v5)] []) : ∀ (k : Nat) (v3 : Int32) (v4 : Int32) (v5 : Int32) (v6 : Int32), f1_mostOften_s_b17 n oL x2 k51 k v3 v4 v5 v6 = some z → Wn p l e rm1_mostOften_s s m args below meth c D A 7 0 0 (MQ below (Qr D (tyG cyI cyO cyJ) (bX1 cyI aL oL) A (some (.int z))) args s 0 0 A) (bX1 cyI aL oL) 17 [(0, .ref (aL 0)), (1, .ref (aL 11)), (2, .int x2), (3, .int v3), (4, .int v4), (5, .int v5), (6, .int v6)] [] := by
  intro k
  induction k with
  | zero => intro  v3 v4 v5 v6 hf; cases hf
  | succ k ih =>
    intro  v3 v4 v5 v6 hf
    unfold f1_mostOften_s_b17 at hf
    refine n_iload C dX1_mostOften_17 6 rfl rfl ?_
    refine n_aload_n C dX1_mostOften_19 0 rfl rfl ?_
    refine n_get (N := 15) C dX1_mostOften_20 iw1_mostOften_s_X1 0 rfl rfl 2 (by decide) (List.mem_of_getElem? (i := 1) rfl) rfl rfl rfl ?_
    refine n_icmp_ge (t := 51) C dX1_mostOften_23 (by decide) rfl (fun h23 => ?_) (fun h23 => ?_)
    · have hf := ip h23 hf
      exact Wn.sub (lv' := [(0, .ref (aL 0)), (1, .ref (aL 11)), (2, .int x2), (3, .int v3), (4, .int v4), (5, .int v5)]) [0, 1, 2, 3, 4, 5] rfl (hk51 v3 v4 v5 hf)
    · have hf := iq h23 hf
      refine n_iload C dX1_mostOften_26 6 rfl rfl ?_
      refine n_aload_n C dX1_mostOften_28 1 rfl rfl ?_
      refine n_alen (v := (nI 28)) C dX1_mostOften_29 8 0 rfl rfl rfl rfl ?_
      refine n_icmp_ge (t := 51) C dX1_mostOften_30 (by decide) rfl (fun h30 => ?_) (fun h30 => ?_)
      · have hf := ip h30 hf
        exact Wn.sub (lv' := [(0, .ref (aL 0)), (1, .ref (aL 11)), (2, .int x2), (3, .int v3), (4, .int v4), (5, .int v5)]) [0, 1, 2, 3, 4, 5] rfl (hk51 v3 v4 v5 hf)
      · have hf := iq h30 hf
        refine n_aload_n C dX1_mostOften_33 1 rfl rfl ?_
        refine n_iload C dX1_mostOften_34 6 rfl rfl ?_
        obtain ⟨x36, h36, hf⟩ := bi hf
        obtain ⟨h36, e36⟩ := ald_some h36
        refine n_iald C dX1_mostOften_36 8 0 rfl rfl h36 rfl ?_
        rw [← e36]
        refine n_iload C dX1_mostOften_37 4 rfl rfl ?_
        refine n_icmp_ne (t := 45) C dX1_mostOften_39 (by decide) rfl (fun h39 => ?_) (fun h39 => ?_)
        · have hf := iq h39 hf
          refine n_iinc (v := v6 + (nI 1)) (lv' := [(6, .int (v6 + (nI 1))), (0, .ref (aL 0)), (1, .ref (aL 11)), (2, .int x2), (3, .int v3), (4, .int v4), (5, .int v5)]) C dX1_mostOften_45 (j := 6) rfl rfl (by decide) rfl rfl ?_
          refine n_goto (t := 17) C dX1_mostOften_48 (by decide) ?_
          exact Wn.sub (lv' := [(0, .ref (aL 0)), (1, .ref (aL 11)), (2, .int x2), (3, .int v3), (4, .int v4), (5, .int v5), (6, .int (v6 + (nI 1)))]) [1, 2, 3, 4, 5, 6, 0] rfl (ih v3 v4 v5 (v6 + (nI 1)) hf)
        · have hf := ip h39 hf
          refine n_iinc (v := v5 + (nI 1)) (lv' := [(5, .int (v5 + (nI 1))), (0, .ref (aL 0)), (1, .ref (aL 11)), (2, .int x2), (3, .int v3), (4, .int v4), (6, .int v6)]) C dX1_mostOften_42 (j := 5) rfl rfl (by decide) rfl rfl ?_
          refine n_iinc (v := v6 + (nI 1)) (lv' := [(6, .int (v6 + (nI 1))), (5, .int (v5 + (nI 1))), (0, .ref (aL 0)), (1, .ref (aL 11)), (2, .int x2), (3, .int v3), (4, .int v4)]) C dX1_mostOften_45 (j := 6) rfl rfl (by decide) rfl rfl ?_
          refine n_goto (t := 17) C dX1_mostOften_48 (by decide) ?_
          exact Wn.sub (lv' := [(0, .ref (aL 0)), (1, .ref (aL 11)), (2, .int x2), (3, .int v3), (4, .int v4), (5, .int (v5 + (nI 1))), (6, .int (v6 + (nI 1)))]) [2, 3, 4, 5, 6, 1, 0] rfl (ih v3 v4 (v5 + (nI 1)) (v6 + (nI 1)) hf)
set_option maxHeartbeats 4000000 in
set_option maxRecDepth 100000 in
theorem t1_mostOften_s_b5 {l : Launch} {p : Program} {e : Env} {s : State} {m : MethodId} {args : Array Value} {below : List Frame} {meth : Method} {c : Code} {D : va_G} {A : Nat → Prop} {cyI cyO cyJ : ClassId} {aL : Nat → Nat} (C : Cx p s m args meth c D (tyG cyI cyO cyJ) A RX1 cX1_mostOften 7 (some .int) wsX1_mostOften) {z : Int32} (n : Nat) (oL : OB) (x2 : Int32) : ∀ (k : Nat) (v3 : Int32) (v4 : Int32), f1_mostOften_s_b5 n oL x2 k v3 v4 = some z → Wn p l e rm1_mostOften_s s m args below meth c D A 7 0 0 (MQ below (Qr D (tyG cyI cyO cyJ) (bX1 cyI aL oL) A (some (.int z))) args s 0 0 A) (bX1 cyI aL oL) 5 [(0, .ref (aL 0)), (1, .ref (aL 11)), (2, .int x2), (3, .int v3), (4, .int v4)] [] := by
  intro k
  induction k with
  | zero => intro  v3 v4 hf; cases hf
  | succ k ih =>
    intro  v3 v4 hf
    unfold f1_mostOften_s_b5 at hf
    refine n_iload C dX1_mostOften_5 4 rfl rfl ?_
    refine n_iload_n C dX1_mostOften_7 2 rfl rfl ?_
    refine n_icmp_ge (t := 64) C dX1_mostOften_8 (by decide) rfl (fun h8 => ?_) (fun h8 => ?_)
    · have hf := ip h8 hf
      refine n_iload_n C dX1_mostOften_64 3 rfl rfl ?_
      obtain rfl := Option.some.inj hf
      exact n_iret C dX1_mostOften_65
    · have hf := iq h8 hf
      refine n_iconst (v := (nI 0)) C dX1_mostOften_11 (by decide) rfl ?_
      refine n_istore (lv' := [(5, .int (nI 0)), (0, .ref (aL 0)), (1, .ref (aL 11)), (2, .int x2), (3, .int v3), (4, .int v4)]) C dX1_mostOften_12 (by decide) rfl rfl ?_
      refine n_iconst (v := (nI 0)) C dX1_mostOften_14 (by decide) rfl ?_
      refine n_istore (lv' := [(6, .int (nI 0)), (5, .int (nI 0)), (0, .ref (aL 0)), (1, .ref (aL 11)), (2, .int x2), (3, .int v3), (4, .int v4)]) C dX1_mostOften_15 (by decide) rfl rfl ?_
      exact Wn.sub (lv' := [(0, .ref (aL 0)), (1, .ref (aL 11)), (2, .int x2), (3, .int v3), (4, .int v4), (5, .int (nI 0)), (6, .int (nI 0))]) [2, 3, 4, 5, 6, 1, 0] rfl (t1_mostOften_s_b17 C n oL x2 (fun v3 v4 v5 hf => Wn.sub (lv' := [(0, .ref (aL 0)), (1, .ref (aL 11)), (2, .int x2), (3, .int v3), (4, .int v4), (5, .int v5)]) [0, 1, 2, 3, 4, 5] rfl (t1_mostOften_s_b51 C n oL x2 ih v3 v4 v5 hf)) n v3 v4 (nI 0) (nI 0) hf)
set_option maxHeartbeats 4000000 in
set_option maxRecDepth 100000 in
theorem c1_mostOften_s (l : Launch) (D : va_G) (cyI cyO cyJ : ClassId) (aL : Nat → Nat) (n : Nat) (oL : OB) (x2 : Int32) (z : Int32) (hf : f1_mostOften_s n oL x2 = some z) : Ct l D (tyG cyI cyO cyJ) yX1_mostOften wsX1_mostOften rm1_mostOften_s 0 0 [.ref (aL 0), .ref (aL 11), .int x2] (bX1 cyI aL oL) (bX1 cyI aL oL) (some (.int z)) := by
  refine Ct.of (cc := cX1_mostOften) (nL := 7) (ret := (some .int)) (lv := [(0, .ref (aL 0)), (1, .ref (aL 11)), (2, .int x2)]) (by decide +kernel) rfl rfl (Nat.le_of_ble_eq_true rfl) ?_
  intro p e s m args below meth c A C
  have C : Cx p s m args meth c D (tyG cyI cyO cyJ) A RX1 cX1_mostOften 7 (some .int) wsX1_mostOften := C
  unfold f1_mostOften_s at hf
  refine n_iconst (v := (nI 0)) C dX1_mostOften_0 (by decide) rfl ?_
  refine n_istore_n (lv' := [(3, .int (nI 0)), (0, .ref (aL 0)), (1, .ref (aL 11)), (2, .int x2)]) C dX1_mostOften_1 (by decide) rfl rfl ?_
  refine n_iconst (v := (nI 0)) C dX1_mostOften_2 (by decide) rfl ?_
  refine n_istore (lv' := [(4, .int (nI 0)), (3, .int (nI 0)), (0, .ref (aL 0)), (1, .ref (aL 11)), (2, .int x2)]) C dX1_mostOften_3 (by decide) rfl rfl ?_
  exact Wn.sub (lv' := [(0, .ref (aL 0)), (1, .ref (aL 11)), (2, .int x2), (3, .int (nI 0)), (4, .int (nI 0))]) [2, 3, 4, 1, 0] rfl (t1_mostOften_s_b5 C n oL x2 n (nI 0) (nI 0) hf)
-- X1 copyFrom 
theorem iw1_copyFrom_X1 : ∀ w ∈ u_ws RX1 TX1 15, w ∈ wsX1_copyFrom := by decide +kernel
abbrev rm1_copyFrom : Room := { frames := 1, cells := 0, slots := 0, locals := 26 }
def f1_copyFrom (n : Nat) (oL : OB) (oK : OB) : Option ((OB)) :=
  (some (gsi oL 0 (oK.1 0))).bind fun oL_5 => (some (gsi oL_5 1 (oK.1 1))).bind fun oL_13 => (some (gsi oL_13 2 (oK.1 2))).bind fun oL_21 => (some (gsa oL_21 3 (va_cpy (oK.2 3) (oL_21.2 3) (nI 0).toNatClampNeg (nI 0).toNatClampNeg (nI 4).toNatClampNeg))).bind fun oL_35 => (some (gsa oL_35 4 (va_cpy (oK.2 4) (oL_35.2 4) (nI 0).toNatClampNeg (nI 0).toNatClampNeg (nI 6).toNatClampNeg))).bind fun oL_50 => (some (gsa oL_50 5 (va_cpy (oK.2 5) (oL_50.2 5) (nI 0).toNatClampNeg (nI 0).toNatClampNeg (nI 6).toNatClampNeg))).bind fun oL_65 => (some (gsa oL_65 6 (va_cpy (oK.2 6) (oL_65.2 6) (nI 0).toNatClampNeg (nI 0).toNatClampNeg (nI 28).toNatClampNeg))).bind fun oL_80 => (some (gsa oL_80 7 (va_cpy (oK.2 7) (oL_80.2 7) (nI 0).toNatClampNeg (nI 0).toNatClampNeg (nI 28).toNatClampNeg))).bind fun oL_95 => (some (gsa oL_95 8 (va_cpy (oK.2 8) (oL_95.2 8) (nI 0).toNatClampNeg (nI 0).toNatClampNeg (nI 28).toNatClampNeg))).bind fun oL_110 => (some (gsa oL_110 9 (va_cpy (oK.2 9) (oL_110.2 9) (nI 0).toNatClampNeg (nI 0).toNatClampNeg (nI 28).toNatClampNeg))).bind fun oL_125 => (some (gsa oL_125 10 (va_cpy (oK.2 10) (oL_125.2 10) (nI 0).toNatClampNeg (nI 0).toNatClampNeg (nI 28).toNatClampNeg))).bind fun oL_140 => (some (gsa oL_140 11 (va_cpy (oK.2 11) (oL_140.2 11) (nI 0).toNatClampNeg (nI 0).toNatClampNeg (nI 28).toNatClampNeg))).bind fun oL_155 => (some (gsa oL_155 12 (va_cpy (oK.2 12) (oL_155.2 12) (nI 0).toNatClampNeg (nI 0).toNatClampNeg (nI 28).toNatClampNeg))).bind fun oL_170 => (some (gsa oL_170 13 (va_cpy (oK.2 13) (oL_170.2 13) (nI 0).toNatClampNeg (nI 0).toNatClampNeg (nI 28).toNatClampNeg))).bind fun oL_185 => (some (gsa oL_185 14 (va_cpy (oK.2 14) (oL_185.2 14) (nI 0).toNatClampNeg (nI 0).toNatClampNeg (nI 28).toNatClampNeg))).bind fun oL_200 => some oL_200
set_option maxHeartbeats 4000000 in
set_option maxRecDepth 100000 in
theorem c1_copyFrom (l : Launch) (D : va_G) (cyI cyO cyJ : ClassId) (aL : Nat → Nat) (aK : Nat → Nat) (n : Nat) (oL : OB) (oK : OB) (z : (OB)) (hf : f1_copyFrom n oL oK = some z) : Ct l D (tyG cyI cyO cyJ) yX1_copyFrom wsX1_copyFrom rm1_copyFrom 0 0 [.ref (aL 0), .ref (aK 0)] (bX1 cyI aL oL ++ bX1 cyI aK oK) (bX1 cyI aL z ++ bX1 cyI aK oK) none := by
  refine Ct.of (cc := cX1_copyFrom) (nL := 2) (ret := none) (lv := [(0, .ref (aL 0)), (1, .ref (aK 0))]) (by decide +kernel) rfl rfl (Nat.le_of_ble_eq_true rfl) ?_
  intro p e s m args below meth c A C
  have C : Cx p s m args meth c D (tyG cyI cyO cyJ) A RX1 cX1_copyFrom 2 none wsX1_copyFrom := C
  unfold f1_copyFrom at hf
  refine n_aload_n C dX1_copyFrom_0 0 rfl rfl ?_
  refine n_aload_n C dX1_copyFrom_1 1 rfl rfl ?_
  refine n_get (N := 15) C dX1_copyFrom_2 iw1_copyFrom_X1 13 rfl rfl 0 (by decide) (List.mem_of_getElem? (i := 1) rfl) rfl rfl rfl ?_
  obtain ⟨oL_5, e5, hf⟩ := bi hf
  replace e5 := Option.some.inj e5
  refine n_put (w2 := bX1 cyI aL oL_5 ++ bX1 cyI aK oK) (N := 15) (ty := .int) C dX1_copyFrom_5 iw1_copyFrom_X1 tyX1_ok nmX1 0 rfl rfl 0 (by decide) (List.mem_of_getElem? (i := 1) rfl) rfl rfl (by decide +kernel) rfl rfl (Nat.le_of_ble_eq_true rfl) (by subst e5; rfl) rfl ?_
  refine n_aload_n C dX1_copyFrom_8 0 rfl rfl ?_
  refine n_aload_n C dX1_copyFrom_9 1 rfl rfl ?_
  refine n_get (N := 15) C dX1_copyFrom_10 iw1_copyFrom_X1 13 rfl rfl 1 (by decide) (List.mem_of_getElem? (i := 2) rfl) rfl rfl rfl ?_
  obtain ⟨oL_13, e13, hf⟩ := bi hf
  replace e13 := Option.some.inj e13
  refine n_put (w2 := bX1 cyI aL oL_13 ++ bX1 cyI aK oK) (N := 15) (ty := .int) C dX1_copyFrom_13 iw1_copyFrom_X1 tyX1_ok nmX1 0 rfl rfl 1 (by decide) (List.mem_of_getElem? (i := 2) rfl) rfl rfl (by decide +kernel) rfl rfl (Nat.le_of_ble_eq_true rfl) (by subst e13; rfl) rfl ?_
  refine n_aload_n C dX1_copyFrom_16 0 rfl rfl ?_
  refine n_aload_n C dX1_copyFrom_17 1 rfl rfl ?_
  refine n_get (N := 15) C dX1_copyFrom_18 iw1_copyFrom_X1 13 rfl rfl 2 (by decide) (List.mem_of_getElem? (i := 3) rfl) rfl rfl rfl ?_
  obtain ⟨oL_21, e21, hf⟩ := bi hf
  replace e21 := Option.some.inj e21
  refine n_put (w2 := bX1 cyI aL oL_21 ++ bX1 cyI aK oK) (N := 15) (ty := .int) C dX1_copyFrom_21 iw1_copyFrom_X1 tyX1_ok nmX1 0 rfl rfl 2 (by decide) (List.mem_of_getElem? (i := 3) rfl) rfl rfl (by decide +kernel) rfl rfl (Nat.le_of_ble_eq_true rfl) (by subst e21; rfl) rfl ?_
  refine n_aload_n C dX1_copyFrom_24 1 rfl rfl ?_
  refine n_get (N := 15) C dX1_copyFrom_25 iw1_copyFrom_X1 13 rfl rfl 3 (by decide) (List.mem_of_getElem? (i := 4) rfl) rfl rfl rfl ?_
  refine n_iconst (v := (nI 0)) C dX1_copyFrom_28 (by decide) rfl ?_
  refine n_aload_n C dX1_copyFrom_29 0 rfl rfl ?_
  refine n_get (N := 15) C dX1_copyFrom_30 iw1_copyFrom_X1 0 rfl rfl 3 (by decide) (List.mem_of_getElem? (i := 4) rfl) rfl rfl rfl ?_
  refine n_iconst (v := (nI 0)) C dX1_copyFrom_33 (by decide) rfl ?_
  refine n_iconst (v := (nI 4)) C dX1_copyFrom_34 (by decide) rfl ?_
  obtain ⟨oL_35, e35, hf⟩ := bi hf
  replace e35 := Option.some.inj e35
  refine n_copyi (w2 := bX1 cyI aL oL_35 ++ bX1 cyI aK oK) (q0 := 14) (q1 := 1) (t0 := 0) C dX1_copyFrom_35 (List.mem_of_getElem? (i := 5) rfl) (List.mem_of_getElem? (i := 6) rfl) (List.mem_of_getElem? (i := 7) rfl) (List.mem_of_getElem? (i := 8) rfl) rfl rfl rfl (by decide) (by decide) (by decide) (by decide) (by decide) (Nat.le_of_ble_eq_true rfl) (Nat.le_of_ble_eq_true rfl) (by subst e35; rfl) rfl ?_
  refine n_aload_n C dX1_copyFrom_38 1 rfl rfl ?_
  refine n_get (N := 15) C dX1_copyFrom_39 iw1_copyFrom_X1 13 rfl rfl 4 (by decide) (List.mem_of_getElem? (i := 9) rfl) rfl rfl rfl ?_
  refine n_iconst (v := (nI 0)) C dX1_copyFrom_42 (by decide) rfl ?_
  refine n_aload_n C dX1_copyFrom_43 0 rfl rfl ?_
  refine n_get (N := 15) C dX1_copyFrom_44 iw1_copyFrom_X1 0 rfl rfl 4 (by decide) (List.mem_of_getElem? (i := 9) rfl) rfl rfl rfl ?_
  refine n_iconst (v := (nI 0)) C dX1_copyFrom_47 (by decide) rfl ?_
  refine n_bipush (v := (nI 6)) C dX1_copyFrom_48 (by decide) rfl ?_
  obtain ⟨oL_50, e50, hf⟩ := bi hf
  replace e50 := Option.some.inj e50
  refine n_copyi (w2 := bX1 cyI aL oL_50 ++ bX1 cyI aK oK) (q0 := 15) (q1 := 2) (t0 := 0) C dX1_copyFrom_50 (List.mem_of_getElem? (i := 5) rfl) (List.mem_of_getElem? (i := 6) rfl) (List.mem_of_getElem? (i := 7) rfl) (List.mem_of_getElem? (i := 8) rfl) rfl rfl rfl (by decide) (by decide) (by decide) (by decide) (by decide) (Nat.le_of_ble_eq_true rfl) (Nat.le_of_ble_eq_true rfl) (by subst e50; rfl) rfl ?_
  refine n_aload_n C dX1_copyFrom_53 1 rfl rfl ?_
  refine n_get (N := 15) C dX1_copyFrom_54 iw1_copyFrom_X1 13 rfl rfl 5 (by decide) (List.mem_of_getElem? (i := 10) rfl) rfl rfl rfl ?_
  refine n_iconst (v := (nI 0)) C dX1_copyFrom_57 (by decide) rfl ?_
  refine n_aload_n C dX1_copyFrom_58 0 rfl rfl ?_
  refine n_get (N := 15) C dX1_copyFrom_59 iw1_copyFrom_X1 0 rfl rfl 5 (by decide) (List.mem_of_getElem? (i := 10) rfl) rfl rfl rfl ?_
  refine n_iconst (v := (nI 0)) C dX1_copyFrom_62 (by decide) rfl ?_
  refine n_bipush (v := (nI 6)) C dX1_copyFrom_63 (by decide) rfl ?_
  obtain ⟨oL_65, e65, hf⟩ := bi hf
  replace e65 := Option.some.inj e65
  refine n_copyi (w2 := bX1 cyI aL oL_65 ++ bX1 cyI aK oK) (q0 := 16) (q1 := 3) (t0 := 0) C dX1_copyFrom_65 (List.mem_of_getElem? (i := 5) rfl) (List.mem_of_getElem? (i := 6) rfl) (List.mem_of_getElem? (i := 7) rfl) (List.mem_of_getElem? (i := 8) rfl) rfl rfl rfl (by decide) (by decide) (by decide) (by decide) (by decide) (Nat.le_of_ble_eq_true rfl) (Nat.le_of_ble_eq_true rfl) (by subst e65; rfl) rfl ?_
  refine n_aload_n C dX1_copyFrom_68 1 rfl rfl ?_
  refine n_get (N := 15) C dX1_copyFrom_69 iw1_copyFrom_X1 13 rfl rfl 6 (by decide) (List.mem_of_getElem? (i := 11) rfl) rfl rfl rfl ?_
  refine n_iconst (v := (nI 0)) C dX1_copyFrom_72 (by decide) rfl ?_
  refine n_aload_n C dX1_copyFrom_73 0 rfl rfl ?_
  refine n_get (N := 15) C dX1_copyFrom_74 iw1_copyFrom_X1 0 rfl rfl 6 (by decide) (List.mem_of_getElem? (i := 11) rfl) rfl rfl rfl ?_
  refine n_iconst (v := (nI 0)) C dX1_copyFrom_77 (by decide) rfl ?_
  refine n_bipush (v := (nI 28)) C dX1_copyFrom_78 (by decide) rfl ?_
  obtain ⟨oL_80, e80, hf⟩ := bi hf
  replace e80 := Option.some.inj e80
  refine n_copyi (w2 := bX1 cyI aL oL_80 ++ bX1 cyI aK oK) (q0 := 17) (q1 := 4) (t0 := 0) C dX1_copyFrom_80 (List.mem_of_getElem? (i := 5) rfl) (List.mem_of_getElem? (i := 6) rfl) (List.mem_of_getElem? (i := 7) rfl) (List.mem_of_getElem? (i := 8) rfl) rfl rfl rfl (by decide) (by decide) (by decide) (by decide) (by decide) (Nat.le_of_ble_eq_true rfl) (Nat.le_of_ble_eq_true rfl) (by subst e80; rfl) rfl ?_
  refine n_aload_n C dX1_copyFrom_83 1 rfl rfl ?_
  refine n_get (N := 15) C dX1_copyFrom_84 iw1_copyFrom_X1 13 rfl rfl 7 (by decide) (List.mem_of_getElem? (i := 12) rfl) rfl rfl rfl ?_
  refine n_iconst (v := (nI 0)) C dX1_copyFrom_87 (by decide) rfl ?_
  refine n_aload_n C dX1_copyFrom_88 0 rfl rfl ?_
  refine n_get (N := 15) C dX1_copyFrom_89 iw1_copyFrom_X1 0 rfl rfl 7 (by decide) (List.mem_of_getElem? (i := 12) rfl) rfl rfl rfl ?_
  refine n_iconst (v := (nI 0)) C dX1_copyFrom_92 (by decide) rfl ?_
  refine n_bipush (v := (nI 28)) C dX1_copyFrom_93 (by decide) rfl ?_
  obtain ⟨oL_95, e95, hf⟩ := bi hf
  replace e95 := Option.some.inj e95
  refine n_copyi (w2 := bX1 cyI aL oL_95 ++ bX1 cyI aK oK) (q0 := 18) (q1 := 5) (t0 := 0) C dX1_copyFrom_95 (List.mem_of_getElem? (i := 5) rfl) (List.mem_of_getElem? (i := 6) rfl) (List.mem_of_getElem? (i := 7) rfl) (List.mem_of_getElem? (i := 8) rfl) rfl rfl rfl (by decide) (by decide) (by decide) (by decide) (by decide) (Nat.le_of_ble_eq_true rfl) (Nat.le_of_ble_eq_true rfl) (by subst e95; rfl) rfl ?_
  refine n_aload_n C dX1_copyFrom_98 1 rfl rfl ?_
  refine n_get (N := 15) C dX1_copyFrom_99 iw1_copyFrom_X1 13 rfl rfl 8 (by decide) (List.mem_of_getElem? (i := 13) rfl) rfl rfl rfl ?_
  refine n_iconst (v := (nI 0)) C dX1_copyFrom_102 (by decide) rfl ?_
  refine n_aload_n C dX1_copyFrom_103 0 rfl rfl ?_
  refine n_get (N := 15) C dX1_copyFrom_104 iw1_copyFrom_X1 0 rfl rfl 8 (by decide) (List.mem_of_getElem? (i := 13) rfl) rfl rfl rfl ?_
  refine n_iconst (v := (nI 0)) C dX1_copyFrom_107 (by decide) rfl ?_
  refine n_bipush (v := (nI 28)) C dX1_copyFrom_108 (by decide) rfl ?_
  obtain ⟨oL_110, e110, hf⟩ := bi hf
  replace e110 := Option.some.inj e110
  refine n_copyi (w2 := bX1 cyI aL oL_110 ++ bX1 cyI aK oK) (q0 := 19) (q1 := 6) (t0 := 0) C dX1_copyFrom_110 (List.mem_of_getElem? (i := 5) rfl) (List.mem_of_getElem? (i := 6) rfl) (List.mem_of_getElem? (i := 7) rfl) (List.mem_of_getElem? (i := 8) rfl) rfl rfl rfl (by decide) (by decide) (by decide) (by decide) (by decide) (Nat.le_of_ble_eq_true rfl) (Nat.le_of_ble_eq_true rfl) (by subst e110; rfl) rfl ?_
  refine n_aload_n C dX1_copyFrom_113 1 rfl rfl ?_
  refine n_get (N := 15) C dX1_copyFrom_114 iw1_copyFrom_X1 13 rfl rfl 9 (by decide) (List.mem_of_getElem? (i := 14) rfl) rfl rfl rfl ?_
  refine n_iconst (v := (nI 0)) C dX1_copyFrom_117 (by decide) rfl ?_
  refine n_aload_n C dX1_copyFrom_118 0 rfl rfl ?_
  refine n_get (N := 15) C dX1_copyFrom_119 iw1_copyFrom_X1 0 rfl rfl 9 (by decide) (List.mem_of_getElem? (i := 14) rfl) rfl rfl rfl ?_
  refine n_iconst (v := (nI 0)) C dX1_copyFrom_122 (by decide) rfl ?_
  refine n_bipush (v := (nI 28)) C dX1_copyFrom_123 (by decide) rfl ?_
  obtain ⟨oL_125, e125, hf⟩ := bi hf
  replace e125 := Option.some.inj e125
  refine n_copyi (w2 := bX1 cyI aL oL_125 ++ bX1 cyI aK oK) (q0 := 20) (q1 := 7) (t0 := 0) C dX1_copyFrom_125 (List.mem_of_getElem? (i := 5) rfl) (List.mem_of_getElem? (i := 6) rfl) (List.mem_of_getElem? (i := 7) rfl) (List.mem_of_getElem? (i := 8) rfl) rfl rfl rfl (by decide) (by decide) (by decide) (by decide) (by decide) (Nat.le_of_ble_eq_true rfl) (Nat.le_of_ble_eq_true rfl) (by subst e125; rfl) rfl ?_
  refine n_aload_n C dX1_copyFrom_128 1 rfl rfl ?_
  refine n_get (N := 15) C dX1_copyFrom_129 iw1_copyFrom_X1 13 rfl rfl 10 (by decide) (List.mem_of_getElem? (i := 15) rfl) rfl rfl rfl ?_
  refine n_iconst (v := (nI 0)) C dX1_copyFrom_132 (by decide) rfl ?_
  refine n_aload_n C dX1_copyFrom_133 0 rfl rfl ?_
  refine n_get (N := 15) C dX1_copyFrom_134 iw1_copyFrom_X1 0 rfl rfl 10 (by decide) (List.mem_of_getElem? (i := 15) rfl) rfl rfl rfl ?_
  refine n_iconst (v := (nI 0)) C dX1_copyFrom_137 (by decide) rfl ?_
  refine n_bipush (v := (nI 28)) C dX1_copyFrom_138 (by decide) rfl ?_
  obtain ⟨oL_140, e140, hf⟩ := bi hf
  replace e140 := Option.some.inj e140
  refine n_copyi (w2 := bX1 cyI aL oL_140 ++ bX1 cyI aK oK) (q0 := 21) (q1 := 8) (t0 := 0) C dX1_copyFrom_140 (List.mem_of_getElem? (i := 5) rfl) (List.mem_of_getElem? (i := 6) rfl) (List.mem_of_getElem? (i := 7) rfl) (List.mem_of_getElem? (i := 8) rfl) rfl rfl rfl (by decide) (by decide) (by decide) (by decide) (by decide) (Nat.le_of_ble_eq_true rfl) (Nat.le_of_ble_eq_true rfl) (by subst e140; rfl) rfl ?_
  refine n_aload_n C dX1_copyFrom_143 1 rfl rfl ?_
  refine n_get (N := 15) C dX1_copyFrom_144 iw1_copyFrom_X1 13 rfl rfl 11 (by decide) (List.mem_of_getElem? (i := 16) rfl) rfl rfl rfl ?_
  refine n_iconst (v := (nI 0)) C dX1_copyFrom_147 (by decide) rfl ?_
  refine n_aload_n C dX1_copyFrom_148 0 rfl rfl ?_
  refine n_get (N := 15) C dX1_copyFrom_149 iw1_copyFrom_X1 0 rfl rfl 11 (by decide) (List.mem_of_getElem? (i := 16) rfl) rfl rfl rfl ?_
  refine n_iconst (v := (nI 0)) C dX1_copyFrom_152 (by decide) rfl ?_
  refine n_bipush (v := (nI 28)) C dX1_copyFrom_153 (by decide) rfl ?_
  obtain ⟨oL_155, e155, hf⟩ := bi hf
  replace e155 := Option.some.inj e155
  refine n_copyi (w2 := bX1 cyI aL oL_155 ++ bX1 cyI aK oK) (q0 := 22) (q1 := 9) (t0 := 0) C dX1_copyFrom_155 (List.mem_of_getElem? (i := 5) rfl) (List.mem_of_getElem? (i := 6) rfl) (List.mem_of_getElem? (i := 7) rfl) (List.mem_of_getElem? (i := 8) rfl) rfl rfl rfl (by decide) (by decide) (by decide) (by decide) (by decide) (Nat.le_of_ble_eq_true rfl) (Nat.le_of_ble_eq_true rfl) (by subst e155; rfl) rfl ?_
  refine n_aload_n C dX1_copyFrom_158 1 rfl rfl ?_
  refine n_get (N := 15) C dX1_copyFrom_159 iw1_copyFrom_X1 13 rfl rfl 12 (by decide) (List.mem_of_getElem? (i := 17) rfl) rfl rfl rfl ?_
  refine n_iconst (v := (nI 0)) C dX1_copyFrom_162 (by decide) rfl ?_
  refine n_aload_n C dX1_copyFrom_163 0 rfl rfl ?_
  refine n_get (N := 15) C dX1_copyFrom_164 iw1_copyFrom_X1 0 rfl rfl 12 (by decide) (List.mem_of_getElem? (i := 17) rfl) rfl rfl rfl ?_
  refine n_iconst (v := (nI 0)) C dX1_copyFrom_167 (by decide) rfl ?_
  refine n_bipush (v := (nI 28)) C dX1_copyFrom_168 (by decide) rfl ?_
  obtain ⟨oL_170, e170, hf⟩ := bi hf
  replace e170 := Option.some.inj e170
  refine n_copyi (w2 := bX1 cyI aL oL_170 ++ bX1 cyI aK oK) (q0 := 23) (q1 := 10) (t0 := 0) C dX1_copyFrom_170 (List.mem_of_getElem? (i := 5) rfl) (List.mem_of_getElem? (i := 6) rfl) (List.mem_of_getElem? (i := 7) rfl) (List.mem_of_getElem? (i := 8) rfl) rfl rfl rfl (by decide) (by decide) (by decide) (by decide) (by decide) (Nat.le_of_ble_eq_true rfl) (Nat.le_of_ble_eq_true rfl) (by subst e170; rfl) rfl ?_
  refine n_aload_n C dX1_copyFrom_173 1 rfl rfl ?_
  refine n_get (N := 15) C dX1_copyFrom_174 iw1_copyFrom_X1 13 rfl rfl 13 (by decide) (List.mem_of_getElem? (i := 18) rfl) rfl rfl rfl ?_
  refine n_iconst (v := (nI 0)) C dX1_copyFrom_177 (by decide) rfl ?_
  refine n_aload_n C dX1_copyFrom_178 0 rfl rfl ?_
  refine n_get (N := 15) C dX1_copyFrom_179 iw1_copyFrom_X1 0 rfl rfl 13 (by decide) (List.mem_of_getElem? (i := 18) rfl) rfl rfl rfl ?_
  refine n_iconst (v := (nI 0)) C dX1_copyFrom_182 (by decide) rfl ?_
  refine n_bipush (v := (nI 28)) C dX1_copyFrom_183 (by decide) rfl ?_
  obtain ⟨oL_185, e185, hf⟩ := bi hf
  replace e185 := Option.some.inj e185
  refine n_copyi (w2 := bX1 cyI aL oL_185 ++ bX1 cyI aK oK) (q0 := 24) (q1 := 11) (t0 := 0) C dX1_copyFrom_185 (List.mem_of_getElem? (i := 5) rfl) (List.mem_of_getElem? (i := 6) rfl) (List.mem_of_getElem? (i := 7) rfl) (List.mem_of_getElem? (i := 8) rfl) rfl rfl rfl (by decide) (by decide) (by decide) (by decide) (by decide) (Nat.le_of_ble_eq_true rfl) (Nat.le_of_ble_eq_true rfl) (by subst e185; rfl) rfl ?_
  refine n_aload_n C dX1_copyFrom_188 1 rfl rfl ?_
  refine n_get (N := 15) C dX1_copyFrom_189 iw1_copyFrom_X1 13 rfl rfl 14 (by decide) (List.mem_of_getElem? (i := 19) rfl) rfl rfl rfl ?_
  refine n_iconst (v := (nI 0)) C dX1_copyFrom_192 (by decide) rfl ?_
  refine n_aload_n C dX1_copyFrom_193 0 rfl rfl ?_
  refine n_get (N := 15) C dX1_copyFrom_194 iw1_copyFrom_X1 0 rfl rfl 14 (by decide) (List.mem_of_getElem? (i := 19) rfl) rfl rfl rfl ?_
  refine n_iconst (v := (nI 0)) C dX1_copyFrom_197 (by decide) rfl ?_
  refine n_bipush (v := (nI 28)) C dX1_copyFrom_198 (by decide) rfl ?_
  obtain ⟨oL_200, e200, hf⟩ := bi hf
  replace e200 := Option.some.inj e200
  refine n_copyi (w2 := bX1 cyI aL oL_200 ++ bX1 cyI aK oK) (q0 := 25) (q1 := 12) (t0 := 0) C dX1_copyFrom_200 (List.mem_of_getElem? (i := 5) rfl) (List.mem_of_getElem? (i := 6) rfl) (List.mem_of_getElem? (i := 7) rfl) (List.mem_of_getElem? (i := 8) rfl) rfl rfl rfl (by decide) (by decide) (by decide) (by decide) (by decide) (Nat.le_of_ble_eq_true rfl) (Nat.le_of_ble_eq_true rfl) (by subst e200; rfl) rfl ?_
  obtain rfl := Option.some.inj hf
  exact n_vret C dX1_copyFrom_203
-- X1 copyFrom b
theorem iw1_copyFrom_b_X1 : ∀ w ∈ u_ws RX1 TX1 15, w ∈ wsX1_copyFrom := by decide +kernel
abbrev rm1_copyFrom_b : Room := { frames := 1, cells := 0, slots := 0, locals := 26 }
def f1_copyFrom_b (n : Nat) (oK : OB) (oL : OB) : Option ((OB)) :=
  (some (gsi oL 0 (oK.1 0))).bind fun oL_5 => (some (gsi oL_5 1 (oK.1 1))).bind fun oL_13 => (some (gsi oL_13 2 (oK.1 2))).bind fun oL_21 => (some (gsa oL_21 3 (va_cpy (oK.2 3) (oL_21.2 3) (nI 0).toNatClampNeg (nI 0).toNatClampNeg (nI 4).toNatClampNeg))).bind fun oL_35 => (some (gsa oL_35 4 (va_cpy (oK.2 4) (oL_35.2 4) (nI 0).toNatClampNeg (nI 0).toNatClampNeg (nI 6).toNatClampNeg))).bind fun oL_50 => (some (gsa oL_50 5 (va_cpy (oK.2 5) (oL_50.2 5) (nI 0).toNatClampNeg (nI 0).toNatClampNeg (nI 6).toNatClampNeg))).bind fun oL_65 => (some (gsa oL_65 6 (va_cpy (oK.2 6) (oL_65.2 6) (nI 0).toNatClampNeg (nI 0).toNatClampNeg (nI 28).toNatClampNeg))).bind fun oL_80 => (some (gsa oL_80 7 (va_cpy (oK.2 7) (oL_80.2 7) (nI 0).toNatClampNeg (nI 0).toNatClampNeg (nI 28).toNatClampNeg))).bind fun oL_95 => (some (gsa oL_95 8 (va_cpy (oK.2 8) (oL_95.2 8) (nI 0).toNatClampNeg (nI 0).toNatClampNeg (nI 28).toNatClampNeg))).bind fun oL_110 => (some (gsa oL_110 9 (va_cpy (oK.2 9) (oL_110.2 9) (nI 0).toNatClampNeg (nI 0).toNatClampNeg (nI 28).toNatClampNeg))).bind fun oL_125 => (some (gsa oL_125 10 (va_cpy (oK.2 10) (oL_125.2 10) (nI 0).toNatClampNeg (nI 0).toNatClampNeg (nI 28).toNatClampNeg))).bind fun oL_140 => (some (gsa oL_140 11 (va_cpy (oK.2 11) (oL_140.2 11) (nI 0).toNatClampNeg (nI 0).toNatClampNeg (nI 28).toNatClampNeg))).bind fun oL_155 => (some (gsa oL_155 12 (va_cpy (oK.2 12) (oL_155.2 12) (nI 0).toNatClampNeg (nI 0).toNatClampNeg (nI 28).toNatClampNeg))).bind fun oL_170 => (some (gsa oL_170 13 (va_cpy (oK.2 13) (oL_170.2 13) (nI 0).toNatClampNeg (nI 0).toNatClampNeg (nI 28).toNatClampNeg))).bind fun oL_185 => (some (gsa oL_185 14 (va_cpy (oK.2 14) (oL_185.2 14) (nI 0).toNatClampNeg (nI 0).toNatClampNeg (nI 28).toNatClampNeg))).bind fun oL_200 => some oL_200
set_option maxHeartbeats 4000000 in
set_option maxRecDepth 100000 in
theorem c1_copyFrom_b (l : Launch) (D : va_G) (cyI cyO cyJ : ClassId) (aK : Nat → Nat) (aL : Nat → Nat) (n : Nat) (oK : OB) (oL : OB) (z : (OB)) (hf : f1_copyFrom_b n oK oL = some z) : Ct l D (tyG cyI cyO cyJ) yX1_copyFrom wsX1_copyFrom rm1_copyFrom_b 0 0 [.ref (aL 0), .ref (aK 0)] (bX1 cyI aK oK ++ bX1 cyI aL oL) (bX1 cyI aK oK ++ bX1 cyI aL z) none := by
  refine Ct.of (cc := cX1_copyFrom) (nL := 2) (ret := none) (lv := [(0, .ref (aL 0)), (1, .ref (aK 0))]) (by decide +kernel) rfl rfl (Nat.le_of_ble_eq_true rfl) ?_
  intro p e s m args below meth c A C
  have C : Cx p s m args meth c D (tyG cyI cyO cyJ) A RX1 cX1_copyFrom 2 none wsX1_copyFrom := C
  unfold f1_copyFrom_b at hf
  refine n_aload_n C dX1_copyFrom_0 0 rfl rfl ?_
  refine n_aload_n C dX1_copyFrom_1 1 rfl rfl ?_
  refine n_get (N := 15) C dX1_copyFrom_2 iw1_copyFrom_b_X1 0 rfl rfl 0 (by decide) (List.mem_of_getElem? (i := 1) rfl) rfl rfl rfl ?_
  obtain ⟨oL_5, e5, hf⟩ := bi hf
  replace e5 := Option.some.inj e5
  refine n_put (w2 := bX1 cyI aK oK ++ bX1 cyI aL oL_5) (N := 15) (ty := .int) C dX1_copyFrom_5 iw1_copyFrom_b_X1 tyX1_ok nmX1 13 rfl rfl 0 (by decide) (List.mem_of_getElem? (i := 1) rfl) rfl rfl (by decide +kernel) rfl rfl (Nat.le_of_ble_eq_true rfl) (by subst e5; rfl) rfl ?_
  refine n_aload_n C dX1_copyFrom_8 0 rfl rfl ?_
  refine n_aload_n C dX1_copyFrom_9 1 rfl rfl ?_
  refine n_get (N := 15) C dX1_copyFrom_10 iw1_copyFrom_b_X1 0 rfl rfl 1 (by decide) (List.mem_of_getElem? (i := 2) rfl) rfl rfl rfl ?_
  obtain ⟨oL_13, e13, hf⟩ := bi hf
  replace e13 := Option.some.inj e13
  refine n_put (w2 := bX1 cyI aK oK ++ bX1 cyI aL oL_13) (N := 15) (ty := .int) C dX1_copyFrom_13 iw1_copyFrom_b_X1 tyX1_ok nmX1 13 rfl rfl 1 (by decide) (List.mem_of_getElem? (i := 2) rfl) rfl rfl (by decide +kernel) rfl rfl (Nat.le_of_ble_eq_true rfl) (by subst e13; rfl) rfl ?_
  refine n_aload_n C dX1_copyFrom_16 0 rfl rfl ?_
  refine n_aload_n C dX1_copyFrom_17 1 rfl rfl ?_
  refine n_get (N := 15) C dX1_copyFrom_18 iw1_copyFrom_b_X1 0 rfl rfl 2 (by decide) (List.mem_of_getElem? (i := 3) rfl) rfl rfl rfl ?_
  obtain ⟨oL_21, e21, hf⟩ := bi hf
  replace e21 := Option.some.inj e21
  refine n_put (w2 := bX1 cyI aK oK ++ bX1 cyI aL oL_21) (N := 15) (ty := .int) C dX1_copyFrom_21 iw1_copyFrom_b_X1 tyX1_ok nmX1 13 rfl rfl 2 (by decide) (List.mem_of_getElem? (i := 3) rfl) rfl rfl (by decide +kernel) rfl rfl (Nat.le_of_ble_eq_true rfl) (by subst e21; rfl) rfl ?_
  refine n_aload_n C dX1_copyFrom_24 1 rfl rfl ?_
  refine n_get (N := 15) C dX1_copyFrom_25 iw1_copyFrom_b_X1 0 rfl rfl 3 (by decide) (List.mem_of_getElem? (i := 4) rfl) rfl rfl rfl ?_
  refine n_iconst (v := (nI 0)) C dX1_copyFrom_28 (by decide) rfl ?_
  refine n_aload_n C dX1_copyFrom_29 0 rfl rfl ?_
  refine n_get (N := 15) C dX1_copyFrom_30 iw1_copyFrom_b_X1 13 rfl rfl 3 (by decide) (List.mem_of_getElem? (i := 4) rfl) rfl rfl rfl ?_
  refine n_iconst (v := (nI 0)) C dX1_copyFrom_33 (by decide) rfl ?_
  refine n_iconst (v := (nI 4)) C dX1_copyFrom_34 (by decide) rfl ?_
  obtain ⟨oL_35, e35, hf⟩ := bi hf
  replace e35 := Option.some.inj e35
  refine n_copyi (w2 := bX1 cyI aK oK ++ bX1 cyI aL oL_35) (q0 := 1) (q1 := 14) (t0 := 0) C dX1_copyFrom_35 (List.mem_of_getElem? (i := 5) rfl) (List.mem_of_getElem? (i := 6) rfl) (List.mem_of_getElem? (i := 7) rfl) (List.mem_of_getElem? (i := 8) rfl) rfl rfl rfl (by decide) (by decide) (by decide) (by decide) (by decide) (Nat.le_of_ble_eq_true rfl) (Nat.le_of_ble_eq_true rfl) (by subst e35; rfl) rfl ?_
  refine n_aload_n C dX1_copyFrom_38 1 rfl rfl ?_
  refine n_get (N := 15) C dX1_copyFrom_39 iw1_copyFrom_b_X1 0 rfl rfl 4 (by decide) (List.mem_of_getElem? (i := 9) rfl) rfl rfl rfl ?_
  refine n_iconst (v := (nI 0)) C dX1_copyFrom_42 (by decide) rfl ?_
  refine n_aload_n C dX1_copyFrom_43 0 rfl rfl ?_
  refine n_get (N := 15) C dX1_copyFrom_44 iw1_copyFrom_b_X1 13 rfl rfl 4 (by decide) (List.mem_of_getElem? (i := 9) rfl) rfl rfl rfl ?_
  refine n_iconst (v := (nI 0)) C dX1_copyFrom_47 (by decide) rfl ?_
  refine n_bipush (v := (nI 6)) C dX1_copyFrom_48 (by decide) rfl ?_
  obtain ⟨oL_50, e50, hf⟩ := bi hf
  replace e50 := Option.some.inj e50
  refine n_copyi (w2 := bX1 cyI aK oK ++ bX1 cyI aL oL_50) (q0 := 2) (q1 := 15) (t0 := 0) C dX1_copyFrom_50 (List.mem_of_getElem? (i := 5) rfl) (List.mem_of_getElem? (i := 6) rfl) (List.mem_of_getElem? (i := 7) rfl) (List.mem_of_getElem? (i := 8) rfl) rfl rfl rfl (by decide) (by decide) (by decide) (by decide) (by decide) (Nat.le_of_ble_eq_true rfl) (Nat.le_of_ble_eq_true rfl) (by subst e50; rfl) rfl ?_
  refine n_aload_n C dX1_copyFrom_53 1 rfl rfl ?_
  refine n_get (N := 15) C dX1_copyFrom_54 iw1_copyFrom_b_X1 0 rfl rfl 5 (by decide) (List.mem_of_getElem? (i := 10) rfl) rfl rfl rfl ?_
  refine n_iconst (v := (nI 0)) C dX1_copyFrom_57 (by decide) rfl ?_
  refine n_aload_n C dX1_copyFrom_58 0 rfl rfl ?_
  refine n_get (N := 15) C dX1_copyFrom_59 iw1_copyFrom_b_X1 13 rfl rfl 5 (by decide) (List.mem_of_getElem? (i := 10) rfl) rfl rfl rfl ?_
  refine n_iconst (v := (nI 0)) C dX1_copyFrom_62 (by decide) rfl ?_
  refine n_bipush (v := (nI 6)) C dX1_copyFrom_63 (by decide) rfl ?_
  obtain ⟨oL_65, e65, hf⟩ := bi hf
  replace e65 := Option.some.inj e65
  refine n_copyi (w2 := bX1 cyI aK oK ++ bX1 cyI aL oL_65) (q0 := 3) (q1 := 16) (t0 := 0) C dX1_copyFrom_65 (List.mem_of_getElem? (i := 5) rfl) (List.mem_of_getElem? (i := 6) rfl) (List.mem_of_getElem? (i := 7) rfl) (List.mem_of_getElem? (i := 8) rfl) rfl rfl rfl (by decide) (by decide) (by decide) (by decide) (by decide) (Nat.le_of_ble_eq_true rfl) (Nat.le_of_ble_eq_true rfl) (by subst e65; rfl) rfl ?_
  refine n_aload_n C dX1_copyFrom_68 1 rfl rfl ?_
  refine n_get (N := 15) C dX1_copyFrom_69 iw1_copyFrom_b_X1 0 rfl rfl 6 (by decide) (List.mem_of_getElem? (i := 11) rfl) rfl rfl rfl ?_
  refine n_iconst (v := (nI 0)) C dX1_copyFrom_72 (by decide) rfl ?_
  refine n_aload_n C dX1_copyFrom_73 0 rfl rfl ?_
  refine n_get (N := 15) C dX1_copyFrom_74 iw1_copyFrom_b_X1 13 rfl rfl 6 (by decide) (List.mem_of_getElem? (i := 11) rfl) rfl rfl rfl ?_
  refine n_iconst (v := (nI 0)) C dX1_copyFrom_77 (by decide) rfl ?_
  refine n_bipush (v := (nI 28)) C dX1_copyFrom_78 (by decide) rfl ?_
  obtain ⟨oL_80, e80, hf⟩ := bi hf
  replace e80 := Option.some.inj e80
  refine n_copyi (w2 := bX1 cyI aK oK ++ bX1 cyI aL oL_80) (q0 := 4) (q1 := 17) (t0 := 0) C dX1_copyFrom_80 (List.mem_of_getElem? (i := 5) rfl) (List.mem_of_getElem? (i := 6) rfl) (List.mem_of_getElem? (i := 7) rfl) (List.mem_of_getElem? (i := 8) rfl) rfl rfl rfl (by decide) (by decide) (by decide) (by decide) (by decide) (Nat.le_of_ble_eq_true rfl) (Nat.le_of_ble_eq_true rfl) (by subst e80; rfl) rfl ?_
  refine n_aload_n C dX1_copyFrom_83 1 rfl rfl ?_
  refine n_get (N := 15) C dX1_copyFrom_84 iw1_copyFrom_b_X1 0 rfl rfl 7 (by decide) (List.mem_of_getElem? (i := 12) rfl) rfl rfl rfl ?_
  refine n_iconst (v := (nI 0)) C dX1_copyFrom_87 (by decide) rfl ?_
  refine n_aload_n C dX1_copyFrom_88 0 rfl rfl ?_
  refine n_get (N := 15) C dX1_copyFrom_89 iw1_copyFrom_b_X1 13 rfl rfl 7 (by decide) (List.mem_of_getElem? (i := 12) rfl) rfl rfl rfl ?_
  refine n_iconst (v := (nI 0)) C dX1_copyFrom_92 (by decide) rfl ?_
  refine n_bipush (v := (nI 28)) C dX1_copyFrom_93 (by decide) rfl ?_
  obtain ⟨oL_95, e95, hf⟩ := bi hf
  replace e95 := Option.some.inj e95
  refine n_copyi (w2 := bX1 cyI aK oK ++ bX1 cyI aL oL_95) (q0 := 5) (q1 := 18) (t0 := 0) C dX1_copyFrom_95 (List.mem_of_getElem? (i := 5) rfl) (List.mem_of_getElem? (i := 6) rfl) (List.mem_of_getElem? (i := 7) rfl) (List.mem_of_getElem? (i := 8) rfl) rfl rfl rfl (by decide) (by decide) (by decide) (by decide) (by decide) (Nat.le_of_ble_eq_true rfl) (Nat.le_of_ble_eq_true rfl) (by subst e95; rfl) rfl ?_
  refine n_aload_n C dX1_copyFrom_98 1 rfl rfl ?_
  refine n_get (N := 15) C dX1_copyFrom_99 iw1_copyFrom_b_X1 0 rfl rfl 8 (by decide) (List.mem_of_getElem? (i := 13) rfl) rfl rfl rfl ?_
  refine n_iconst (v := (nI 0)) C dX1_copyFrom_102 (by decide) rfl ?_
  refine n_aload_n C dX1_copyFrom_103 0 rfl rfl ?_
  refine n_get (N := 15) C dX1_copyFrom_104 iw1_copyFrom_b_X1 13 rfl rfl 8 (by decide) (List.mem_of_getElem? (i := 13) rfl) rfl rfl rfl ?_
  refine n_iconst (v := (nI 0)) C dX1_copyFrom_107 (by decide) rfl ?_
  refine n_bipush (v := (nI 28)) C dX1_copyFrom_108 (by decide) rfl ?_
  obtain ⟨oL_110, e110, hf⟩ := bi hf
  replace e110 := Option.some.inj e110
  refine n_copyi (w2 := bX1 cyI aK oK ++ bX1 cyI aL oL_110) (q0 := 6) (q1 := 19) (t0 := 0) C dX1_copyFrom_110 (List.mem_of_getElem? (i := 5) rfl) (List.mem_of_getElem? (i := 6) rfl) (List.mem_of_getElem? (i := 7) rfl) (List.mem_of_getElem? (i := 8) rfl) rfl rfl rfl (by decide) (by decide) (by decide) (by decide) (by decide) (Nat.le_of_ble_eq_true rfl) (Nat.le_of_ble_eq_true rfl) (by subst e110; rfl) rfl ?_
  refine n_aload_n C dX1_copyFrom_113 1 rfl rfl ?_
  refine n_get (N := 15) C dX1_copyFrom_114 iw1_copyFrom_b_X1 0 rfl rfl 9 (by decide) (List.mem_of_getElem? (i := 14) rfl) rfl rfl rfl ?_
  refine n_iconst (v := (nI 0)) C dX1_copyFrom_117 (by decide) rfl ?_
  refine n_aload_n C dX1_copyFrom_118 0 rfl rfl ?_
  refine n_get (N := 15) C dX1_copyFrom_119 iw1_copyFrom_b_X1 13 rfl rfl 9 (by decide) (List.mem_of_getElem? (i := 14) rfl) rfl rfl rfl ?_
  refine n_iconst (v := (nI 0)) C dX1_copyFrom_122 (by decide) rfl ?_
  refine n_bipush (v := (nI 28)) C dX1_copyFrom_123 (by decide) rfl ?_
  obtain ⟨oL_125, e125, hf⟩ := bi hf
  replace e125 := Option.some.inj e125
  refine n_copyi (w2 := bX1 cyI aK oK ++ bX1 cyI aL oL_125) (q0 := 7) (q1 := 20) (t0 := 0) C dX1_copyFrom_125 (List.mem_of_getElem? (i := 5) rfl) (List.mem_of_getElem? (i := 6) rfl) (List.mem_of_getElem? (i := 7) rfl) (List.mem_of_getElem? (i := 8) rfl) rfl rfl rfl (by decide) (by decide) (by decide) (by decide) (by decide) (Nat.le_of_ble_eq_true rfl) (Nat.le_of_ble_eq_true rfl) (by subst e125; rfl) rfl ?_
  refine n_aload_n C dX1_copyFrom_128 1 rfl rfl ?_
  refine n_get (N := 15) C dX1_copyFrom_129 iw1_copyFrom_b_X1 0 rfl rfl 10 (by decide) (List.mem_of_getElem? (i := 15) rfl) rfl rfl rfl ?_
  refine n_iconst (v := (nI 0)) C dX1_copyFrom_132 (by decide) rfl ?_
  refine n_aload_n C dX1_copyFrom_133 0 rfl rfl ?_
  refine n_get (N := 15) C dX1_copyFrom_134 iw1_copyFrom_b_X1 13 rfl rfl 10 (by decide) (List.mem_of_getElem? (i := 15) rfl) rfl rfl rfl ?_
  refine n_iconst (v := (nI 0)) C dX1_copyFrom_137 (by decide) rfl ?_
  refine n_bipush (v := (nI 28)) C dX1_copyFrom_138 (by decide) rfl ?_
  obtain ⟨oL_140, e140, hf⟩ := bi hf
  replace e140 := Option.some.inj e140
  refine n_copyi (w2 := bX1 cyI aK oK ++ bX1 cyI aL oL_140) (q0 := 8) (q1 := 21) (t0 := 0) C dX1_copyFrom_140 (List.mem_of_getElem? (i := 5) rfl) (List.mem_of_getElem? (i := 6) rfl) (List.mem_of_getElem? (i := 7) rfl) (List.mem_of_getElem? (i := 8) rfl) rfl rfl rfl (by decide) (by decide) (by decide) (by decide) (by decide) (Nat.le_of_ble_eq_true rfl) (Nat.le_of_ble_eq_true rfl) (by subst e140; rfl) rfl ?_
  refine n_aload_n C dX1_copyFrom_143 1 rfl rfl ?_
  refine n_get (N := 15) C dX1_copyFrom_144 iw1_copyFrom_b_X1 0 rfl rfl 11 (by decide) (List.mem_of_getElem? (i := 16) rfl) rfl rfl rfl ?_
  refine n_iconst (v := (nI 0)) C dX1_copyFrom_147 (by decide) rfl ?_
  refine n_aload_n C dX1_copyFrom_148 0 rfl rfl ?_
  refine n_get (N := 15) C dX1_copyFrom_149 iw1_copyFrom_b_X1 13 rfl rfl 11 (by decide) (List.mem_of_getElem? (i := 16) rfl) rfl rfl rfl ?_
  refine n_iconst (v := (nI 0)) C dX1_copyFrom_152 (by decide) rfl ?_
  refine n_bipush (v := (nI 28)) C dX1_copyFrom_153 (by decide) rfl ?_
  obtain ⟨oL_155, e155, hf⟩ := bi hf
  replace e155 := Option.some.inj e155
  refine n_copyi (w2 := bX1 cyI aK oK ++ bX1 cyI aL oL_155) (q0 := 9) (q1 := 22) (t0 := 0) C dX1_copyFrom_155 (List.mem_of_getElem? (i := 5) rfl) (List.mem_of_getElem? (i := 6) rfl) (List.mem_of_getElem? (i := 7) rfl) (List.mem_of_getElem? (i := 8) rfl) rfl rfl rfl (by decide) (by decide) (by decide) (by decide) (by decide) (Nat.le_of_ble_eq_true rfl) (Nat.le_of_ble_eq_true rfl) (by subst e155; rfl) rfl ?_
  refine n_aload_n C dX1_copyFrom_158 1 rfl rfl ?_
  refine n_get (N := 15) C dX1_copyFrom_159 iw1_copyFrom_b_X1 0 rfl rfl 12 (by decide) (List.mem_of_getElem? (i := 17) rfl) rfl rfl rfl ?_
  refine n_iconst (v := (nI 0)) C dX1_copyFrom_162 (by decide) rfl ?_
  refine n_aload_n C dX1_copyFrom_163 0 rfl rfl ?_
  refine n_get (N := 15) C dX1_copyFrom_164 iw1_copyFrom_b_X1 13 rfl rfl 12 (by decide) (List.mem_of_getElem? (i := 17) rfl) rfl rfl rfl ?_
  refine n_iconst (v := (nI 0)) C dX1_copyFrom_167 (by decide) rfl ?_
  refine n_bipush (v := (nI 28)) C dX1_copyFrom_168 (by decide) rfl ?_
  obtain ⟨oL_170, e170, hf⟩ := bi hf
  replace e170 := Option.some.inj e170
  refine n_copyi (w2 := bX1 cyI aK oK ++ bX1 cyI aL oL_170) (q0 := 10) (q1 := 23) (t0 := 0) C dX1_copyFrom_170 (List.mem_of_getElem? (i := 5) rfl) (List.mem_of_getElem? (i := 6) rfl) (List.mem_of_getElem? (i := 7) rfl) (List.mem_of_getElem? (i := 8) rfl) rfl rfl rfl (by decide) (by decide) (by decide) (by decide) (by decide) (Nat.le_of_ble_eq_true rfl) (Nat.le_of_ble_eq_true rfl) (by subst e170; rfl) rfl ?_
  refine n_aload_n C dX1_copyFrom_173 1 rfl rfl ?_
  refine n_get (N := 15) C dX1_copyFrom_174 iw1_copyFrom_b_X1 0 rfl rfl 13 (by decide) (List.mem_of_getElem? (i := 18) rfl) rfl rfl rfl ?_
  refine n_iconst (v := (nI 0)) C dX1_copyFrom_177 (by decide) rfl ?_
  refine n_aload_n C dX1_copyFrom_178 0 rfl rfl ?_
  refine n_get (N := 15) C dX1_copyFrom_179 iw1_copyFrom_b_X1 13 rfl rfl 13 (by decide) (List.mem_of_getElem? (i := 18) rfl) rfl rfl rfl ?_
  refine n_iconst (v := (nI 0)) C dX1_copyFrom_182 (by decide) rfl ?_
  refine n_bipush (v := (nI 28)) C dX1_copyFrom_183 (by decide) rfl ?_
  obtain ⟨oL_185, e185, hf⟩ := bi hf
  replace e185 := Option.some.inj e185
  refine n_copyi (w2 := bX1 cyI aK oK ++ bX1 cyI aL oL_185) (q0 := 11) (q1 := 24) (t0 := 0) C dX1_copyFrom_185 (List.mem_of_getElem? (i := 5) rfl) (List.mem_of_getElem? (i := 6) rfl) (List.mem_of_getElem? (i := 7) rfl) (List.mem_of_getElem? (i := 8) rfl) rfl rfl rfl (by decide) (by decide) (by decide) (by decide) (by decide) (Nat.le_of_ble_eq_true rfl) (Nat.le_of_ble_eq_true rfl) (by subst e185; rfl) rfl ?_
  refine n_aload_n C dX1_copyFrom_188 1 rfl rfl ?_
  refine n_get (N := 15) C dX1_copyFrom_189 iw1_copyFrom_b_X1 0 rfl rfl 14 (by decide) (List.mem_of_getElem? (i := 19) rfl) rfl rfl rfl ?_
  refine n_iconst (v := (nI 0)) C dX1_copyFrom_192 (by decide) rfl ?_
  refine n_aload_n C dX1_copyFrom_193 0 rfl rfl ?_
  refine n_get (N := 15) C dX1_copyFrom_194 iw1_copyFrom_b_X1 13 rfl rfl 14 (by decide) (List.mem_of_getElem? (i := 19) rfl) rfl rfl rfl ?_
  refine n_iconst (v := (nI 0)) C dX1_copyFrom_197 (by decide) rfl ?_
  refine n_bipush (v := (nI 28)) C dX1_copyFrom_198 (by decide) rfl ?_
  obtain ⟨oL_200, e200, hf⟩ := bi hf
  replace e200 := Option.some.inj e200
  refine n_copyi (w2 := bX1 cyI aK oK ++ bX1 cyI aL oL_200) (q0 := 12) (q1 := 25) (t0 := 0) C dX1_copyFrom_200 (List.mem_of_getElem? (i := 5) rfl) (List.mem_of_getElem? (i := 6) rfl) (List.mem_of_getElem? (i := 7) rfl) (List.mem_of_getElem? (i := 8) rfl) rfl rfl rfl (by decide) (by decide) (by decide) (by decide) (by decide) (Nat.le_of_ble_eq_true rfl) (Nat.le_of_ble_eq_true rfl) (by subst e200; rfl) rfl ?_
  obtain rfl := Option.some.inj hf
  exact n_vret C dX1_copyFrom_203
