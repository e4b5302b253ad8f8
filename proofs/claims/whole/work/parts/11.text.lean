abbrev bX2 (cyI : ClassId) (a : Nat → Nat) (o : OB) : va_W := [(a 0, .inr (2, [.int (o.1 0), .ref (a 2), .ref (a 3), .ref (a 4), .ref (a 5), .ref (a 6), .int (o.1 6), .int (o.1 7)])), (a 2, .inl (cyI, 60, .inl (o.2 1))), (a 3, .inl (cyI, 12, .inl (o.2 2))), (a 4, .inl (cyI, 12, .inl (o.2 3))), (a 5, .inl (cyI, 12, .inl (o.2 4))), (a 6, .inl (cyI, 12, .inl (o.2 5)))]
-- X2 add 
theorem iw2_add_X2 : ∀ w ∈ u_ws RX2 TX2 8, w ∈ wsX2_add := by decide +kernel
abbrev rm2_add : Room := { frames := 0, cells := 0, slots := 0, locals := 0 }
def f2_add (n : Nat) (oB : OB) (x1 : Int32) : Option ((OB)) :=
  (if (oB.1 0) < (0 : Int32) then some oB else (if (nI 60) ≤ (oB.1 0) then some oB else (oast oB 1 60 (oB.1 0) x1).bind fun oB_25 => (some (gsi oB_25 0 ((oB_25.1 0) + (nI 1)))).bind fun oB_33 => some oB_33))
set_option maxHeartbeats 4000000 in
set_option maxRecDepth 100000 in
theorem c2_add (l : Launch) (D : va_G) (cyI cyO cyJ : ClassId) (aB : Nat → Nat) (n : Nat) (oB : OB) (x1 : Int32) (z : (OB)) (hf : f2_add n oB x1 = some z) : Ct l D (tyG cyI cyO cyJ) yX2_add wsX2_add rm2_add 0 0 [.ref (aB 0), .int x1] (bX2 cyI aB oB) (bX2 cyI aB z) none := by
  refine Ct.of (cc := cX2_add) (nL := 2) (ret := none) (lv := [(0, .ref (aB 0)), (1, .int x1)]) (by decide +kernel) rfl rfl (Nat.le_of_ble_eq_true rfl) ?_
  intro p e s m args below meth c A C
  have C : Cx p s m args meth c D (tyG cyI cyO cyJ) A RX2 cX2_add 2 none wsX2_add := C
  unfold f2_add at hf
  refine n_aload_n C dX2_add_0 0 rfl rfl ?_
  refine n_get (N := 8) C dX2_add_1 iw2_add_X2 0 rfl rfl 0 (by decide) (List.mem_of_getElem? (i := 1) rfl) rfl rfl rfl ?_
  refine n_if_lt (t := 36) C dX2_add_4 (by decide) rfl (fun h4 => ?_) (fun h4 => ?_)
  · have hf := ip h4 hf
    obtain rfl := Option.some.inj hf
    exact n_vret C dX2_add_36
  · have hf := iq h4 hf
    refine n_aload_n C dX2_add_7 0 rfl rfl ?_
    refine n_get (N := 8) C dX2_add_8 iw2_add_X2 0 rfl rfl 0 (by decide) (List.mem_of_getElem? (i := 1) rfl) rfl rfl rfl ?_
    refine n_bipush (v := (nI 60)) C dX2_add_11 (by decide) rfl ?_
    refine n_icmp_ge (t := 36) C dX2_add_13 (by decide) rfl (fun h13 => ?_) (fun h13 => ?_)
    · have hf := ip h13 hf
      obtain rfl := Option.some.inj hf
      exact n_vret C dX2_add_36
    · have hf := iq h13 hf
      refine n_aload_n C dX2_add_16 0 rfl rfl ?_
      refine n_get (N := 8) C dX2_add_17 iw2_add_X2 0 rfl rfl 1 (by decide) (List.mem_of_getElem? (i := 2) rfl) rfl rfl rfl ?_
      refine n_aload_n C dX2_add_20 0 rfl rfl ?_
      refine n_get (N := 8) C dX2_add_21 iw2_add_X2 0 rfl rfl 0 (by decide) (List.mem_of_getElem? (i := 1) rfl) rfl rfl rfl ?_
      refine n_iload_n C dX2_add_24 1 rfl rfl ?_
      obtain ⟨oB_25, h25, hf⟩ := bi hf
      obtain ⟨h25, e25⟩ := oast_some h25
      refine n_iast (w2 := bX2 cyI aB oB_25) C dX2_add_25 1 0 rfl rfl h25 (by subst e25; rfl) rfl ?_
      refine n_aload_n C dX2_add_26 0 rfl rfl ?_
      refine n_dup C dX2_add_27 rfl rfl ?_
      refine n_get (N := 8) C dX2_add_28 iw2_add_X2 0 rfl rfl 0 (by decide) (List.mem_of_getElem? (i := 1) rfl) rfl rfl rfl ?_
      refine n_iconst (v := (nI 1)) C dX2_add_31 (by decide) rfl ?_
      refine n_iadd C dX2_add_32 rfl ?_
      obtain ⟨oB_33, e33, hf⟩ := bi hf
      replace e33 := Option.some.inj e33
      refine n_put (w2 := bX2 cyI aB oB_33) (N := 8) (ty := .int) C dX2_add_33 iw2_add_X2 tyX2_ok nmX2 0 rfl rfl 0 (by decide) (List.mem_of_getElem? (i := 1) rfl) rfl rfl (by decide +kernel) rfl rfl (Nat.le_of_ble_eq_true rfl) (by subst e33; rfl) rfl ?_
      obtain rfl := Option.some.inj hf
      exact n_vret C dX2_add_36
-- X2 beginNumber m
theorem iw2_beginNumber_m_X2 : ∀ w ∈ u_ws RX2 TX2 8, w ∈ wsX2_beginNumber := by decide +kernel
abbrev rm2_beginNumber_m : Room := { frames := 0, cells := 0, slots := 0, locals := 0 }
def f2_beginNumber_m (n : Nat) (oB : OB) (x2 : Int32) (x3 : Int32) : Option (Int32 × (OB)) :=
  (if x2 < (nI 48) then some ((nI 8), oB) else (if (nI 57) < x2 then some ((nI 8), oB) else (if (oB.1 6) < (0 : Int32) then some ((nI 8), oB) else (if (oB.1 6) < (nI 12) then (oast oB 2 12 (oB.1 6) (x2 - (nI 48))).bind fun oB_40 => some (x3, oB_40) else some ((nI 8), oB)))))
set_option maxHeartbeats 4000000 in
set_option maxRecDepth 100000 in
theorem c2_beginNumber_m (l : Launch) (D : va_G) (cyI cyO cyJ : ClassId) (aB : Nat → Nat) (n : Nat) (oB : OB) (x2 : Int32) (x3 : Int32) (z : Int32 × (OB)) (hf : f2_beginNumber_m n oB x2 x3 = some z) : Ct l D (tyG cyI cyO cyJ) yX2_beginNumber wsX2_beginNumber rm2_beginNumber_m 0 0 [.ref (aB 0), .ref (aB 3), .int x2, .int x3] (bX2 cyI aB oB) (bX2 cyI aB z.2) (some (.int z.1)) := by
  refine Ct.of (cc := cX2_beginNumber) (nL := 4) (ret := (some .int)) (lv := [(0, .ref (aB 0)), (1, .ref (aB 3)), (2, .int x2), (3, .int x3)]) (by decide +kernel) rfl rfl (Nat.le_of_ble_eq_true rfl) ?_
  intro p e s m args below meth c A C
  have C : Cx p s m args meth c D (tyG cyI cyO cyJ) A RX2 cX2_beginNumber 4 (some .int) wsX2_beginNumber := C
  unfold f2_beginNumber_m at hf
  refine n_iload_n C dX2_beginNumber_0 2 rfl rfl ?_
  refine n_bipush (v := (nI 48)) C dX2_beginNumber_1 (by decide) rfl ?_
  refine n_icmp_lt (t := 28) C dX2_beginNumber_3 (by decide) rfl (fun h3 => ?_) (fun h3 => ?_)
  · have hf := ip h3 hf
    refine n_bipush (v := (nI 8)) C dX2_beginNumber_28 (by decide) rfl ?_
    obtain rfl := Option.some.inj hf
    exact n_iret C dX2_beginNumber_30
  · have hf := iq h3 hf
    refine n_iload_n C dX2_beginNumber_6 2 rfl rfl ?_
    refine n_bipush (v := (nI 57)) C dX2_beginNumber_7 (by decide) rfl ?_
    refine n_icmp_gt (t := 28) C dX2_beginNumber_9 (by decide) rfl (fun h9 => ?_) (fun h9 => ?_)
    · have hf := ip h9 hf
      refine n_bipush (v := (nI 8)) C dX2_beginNumber_28 (by decide) rfl ?_
      obtain rfl := Option.some.inj hf
      exact n_iret C dX2_beginNumber_30
    · have hf := iq h9 hf
      refine n_aload_n C dX2_beginNumber_12 0 rfl rfl ?_
      refine n_get (N := 8) C dX2_beginNumber_13 iw2_beginNumber_m_X2 0 rfl rfl 6 (by decide) (List.mem_of_getElem? (i := 1) rfl) rfl rfl rfl ?_
      refine n_if_lt (t := 28) C dX2_beginNumber_16 (by decide) rfl (fun h16 => ?_) (fun h16 => ?_)
      · have hf := ip h16 hf
        refine n_bipush (v := (nI 8)) C dX2_beginNumber_28 (by decide) rfl ?_
        obtain rfl := Option.some.inj hf
        exact n_iret C dX2_beginNumber_30
      · have hf := iq h16 hf
        refine n_aload_n C dX2_beginNumber_19 0 rfl rfl ?_
        refine n_get (N := 8) C dX2_beginNumber_20 iw2_beginNumber_m_X2 0 rfl rfl 6 (by decide) (List.mem_of_getElem? (i := 1) rfl) rfl rfl rfl ?_
        refine n_aload_n C dX2_beginNumber_23 1 rfl rfl ?_
        refine n_alen (v := (nI 12)) C dX2_beginNumber_24 2 0 rfl rfl rfl rfl ?_
        refine n_icmp_lt (t := 31) C dX2_beginNumber_25 (by decide) rfl (fun h25 => ?_) (fun h25 => ?_)
        · have hf := ip h25 hf
          refine n_aload_n C dX2_beginNumber_31 1 rfl rfl ?_
          refine n_aload_n C dX2_beginNumber_32 0 rfl rfl ?_
          refine n_get (N := 8) C dX2_beginNumber_33 iw2_beginNumber_m_X2 0 rfl rfl 6 (by decide) (List.mem_of_getElem? (i := 1) rfl) rfl rfl rfl ?_
          refine n_iload_n C dX2_beginNumber_36 2 rfl rfl ?_
          refine n_bipush (v := (nI 48)) C dX2_beginNumber_37 (by decide) rfl ?_
          refine n_isub C dX2_beginNumber_39 rfl ?_
          obtain ⟨oB_40, h40, hf⟩ := bi hf
          obtain ⟨h40, e40⟩ := oast_some h40
          refine n_iast (w2 := bX2 cyI aB oB_40) C dX2_beginNumber_40 2 0 rfl rfl h40 (by subst e40; rfl) rfl ?_
          refine n_iload_n C dX2_beginNumber_41 3 rfl rfl ?_
          obtain rfl := Option.some.inj hf
          exact n_iret C dX2_beginNumber_42
        · have hf := iq h25 hf
          refine n_bipush (v := (nI 8)) C dX2_beginNumber_28 (by decide) rfl ?_
          obtain rfl := Option.some.inj hf
          exact n_iret C dX2_beginNumber_30
-- X2 growNumber m
theorem iw2_growNumber_m_X2 : ∀ w ∈ u_ws RX2 TX2 8, w ∈ wsX2_growNumber := by decide +kernel
abbrev rm2_growNumber_m : Room := { frames := 0, cells := 0, slots := 0, locals := 0 }
def f2_growNumber_m (n : Nat) (oB : OB) (x2 : Int32) (x3 : Int32) : Option (Int32 × (OB)) :=
  (if x2 < (nI 48) then some ((nI 8), oB) else (if (nI 57) < x2 then some ((nI 8), oB) else (if (oB.1 6) < (0 : Int32) then some ((nI 8), oB) else (if (oB.1 6) < (nI 12) then (ald 12 (oB.2 2) (oB.1 6)).bind fun x36 => (ald 12 (oB.2 2) (oB.1 6)).bind fun x52 => (if x52 = (0 : Int32) then some ((nI 8), oB) else (if (((x36 * (nI 10)) + x2) - (nI 48)) ≤ x3 then (oast oB 2 12 (oB.1 6) (((x36 * (nI 10)) + x2) - (nI 48))).bind fun oB_72 => some (oB_72.1 7, oB_72) else some ((nI 8), oB))) else some ((nI 8), oB)))))
set_option maxHeartbeats 4000000 in
set_option maxRecDepth 100000 in
theorem c2_growNumber_m (l : Launch) (D : va_G) (cyI cyO cyJ : ClassId) (aB : Nat → Nat) (n : Nat) (oB : OB) (x2 : Int32) (x3 : Int32) (z : Int32 × (OB)) (hf : f2_growNumber_m n oB x2 x3 = some z) : Ct l D (tyG cyI cyO cyJ) yX2_growNumber wsX2_growNumber rm2_growNumber_m 0 0 [.ref (aB 0), .ref (aB 3), .int x2, .int x3] (bX2 cyI aB oB) (bX2 cyI aB z.2) (some (.int z.1)) := by
  refine Ct.of (cc := cX2_growNumber) (nL := 5) (ret := (some .int)) (lv := [(0, .ref (aB 0)), (1, .ref (aB 3)), (2, .int x2), (3, .int x3)]) (by decide +kernel) rfl rfl (Nat.le_of_ble_eq_true rfl) ?_
  intro p e s m args below meth c A C
  have C : Cx p s m args meth c D (tyG cyI cyO cyJ) A RX2 cX2_growNumber 5 (some .int) wsX2_growNumber := C
  unfold f2_growNumber_m at hf
  refine n_iload_n C dX2_growNumber_0 2 rfl rfl ?_
  refine n_bipush (v := (nI 48)) C dX2_growNumber_1 (by decide) rfl ?_
  refine n_icmp_lt (t := 28) C dX2_growNumber_3 (by decide) rfl (fun h3 => ?_) (fun h3 => ?_)
  · have hf := ip h3 hf
    refine n_bipush (v := (nI 8)) C dX2_growNumber_28 (by decide) rfl ?_
    obtain rfl := Option.some.inj hf
    exact n_iret C dX2_growNumber_30
  · have hf := iq h3 hf
    refine n_iload_n C dX2_growNumber_6 2 rfl rfl ?_
    refine n_bipush (v := (nI 57)) C dX2_growNumber_7 (by decide) rfl ?_
    refine n_icmp_gt (t := 28) C dX2_growNumber_9 (by decide) rfl (fun h9 => ?_) (fun h9 => ?_)
    · have hf := ip h9 hf
      refine n_bipush (v := (nI 8)) C dX2_growNumber_28 (by decide) rfl ?_
      obtain rfl := Option.some.inj hf
      exact n_iret C dX2_growNumber_30
    · have hf := iq h9 hf
      refine n_aload_n C dX2_growNumber_12 0 rfl rfl ?_
      refine n_get (N := 8) C dX2_growNumber_13 iw2_growNumber_m_X2 0 rfl rfl 6 (by decide) (List.mem_of_getElem? (i := 1) rfl) rfl rfl rfl ?_
      refine n_if_lt (t := 28) C dX2_growNumber_16 (by decide) rfl (fun h16 => ?_) (fun h16 => ?_)
      · have hf := ip h16 hf
        refine n_bipush (v := (nI 8)) C dX2_growNumber_28 (by decide) rfl ?_
        obtain rfl := Option.some.inj hf
        exact n_iret C dX2_growNumber_30
      · have hf := iq h16 hf
        refine n_aload_n C dX2_growNumber_19 0 rfl rfl ?_
        refine n_get (N := 8) C dX2_growNumber_20 iw2_growNumber_m_X2 0 rfl rfl 6 (by decide) (List.mem_of_getElem? (i := 1) rfl) rfl rfl rfl ?_
        refine n_aload_n C dX2_growNumber_23 1 rfl rfl ?_
        refine n_alen (v := (nI 12)) C dX2_growNumber_24 2 0 rfl rfl rfl rfl ?_
        refine n_icmp_lt (t := 31) C dX2_growNumber_25 (by decide) rfl (fun h25 => ?_) (fun h25 => ?_)
        · have hf := ip h25 hf
          refine n_aload_n C dX2_growNumber_31 1 rfl rfl ?_
          refine n_aload_n C dX2_growNumber_32 0 rfl rfl ?_
          refine n_get (N := 8) C dX2_growNumber_33 iw2_growNumber_m_X2 0 rfl rfl 6 (by decide) (List.mem_of_getElem? (i := 1) rfl) rfl rfl rfl ?_
          obtain ⟨x36, h36, hf⟩ := bi hf
          obtain ⟨h36, e36⟩ := ald_some h36
          refine n_iald C dX2_growNumber_36 2 0 rfl rfl h36 rfl ?_
          rw [← e36]
          refine n_bipush (v := (nI 10)) C dX2_growNumber_37 (by decide) rfl ?_
          refine n_imul C dX2_growNumber_39 rfl ?_
          refine n_iload_n C dX2_growNumber_40 2 rfl rfl ?_
          refine n_iadd C dX2_growNumber_41 rfl ?_
          refine n_bipush (v := (nI 48)) C dX2_growNumber_42 (by decide) rfl ?_
          refine n_isub C dX2_growNumber_44 rfl ?_
          refine n_istore (lv' := [(4, .int (((x36 * (nI 10)) + x2) - (nI 48))), (0, .ref (aB 0)), (1, .ref (aB 3)), (2, .int x2), (3, .int x3)]) C dX2_growNumber_45 (by decide) rfl rfl ?_
          refine n_aload_n C dX2_growNumber_47 2 rfl rfl ?_
          refine n_aload_n C dX2_growNumber_48 1 rfl rfl ?_
          refine n_get (N := 8) C dX2_growNumber_49 iw2_growNumber_m_X2 0 rfl rfl 6 (by decide) (List.mem_of_getElem? (i := 1) rfl) rfl rfl rfl ?_
          obtain ⟨x52, h52, hf⟩ := bi hf
          obtain ⟨h52, e52⟩ := ald_some h52
          refine n_iald C dX2_growNumber_52 2 0 rfl rfl h52 rfl ?_
          rw [← e52]
          refine n_if_eq (t := 62) C dX2_growNumber_53 (by decide) rfl (fun h53 => ?_) (fun h53 => ?_)
          · have hf := ip h53 hf
            refine n_bipush (v := (nI 8)) C dX2_growNumber_62 (by decide) rfl ?_
            obtain rfl := Option.some.inj hf
            exact n_iret C dX2_growNumber_64
          · have hf := iq h53 hf
            refine n_iload C dX2_growNumber_56 0 rfl rfl ?_
            refine n_iload_n C dX2_growNumber_58 4 rfl rfl ?_
            refine n_icmp_le (t := 65) C dX2_growNumber_59 (by decide) rfl (fun h59 => ?_) (fun h59 => ?_)
            · have hf := ip h59 hf
              refine n_aload_n C dX2_growNumber_65 2 rfl rfl ?_
              refine n_aload_n C dX2_growNumber_66 1 rfl rfl ?_
              refine n_get (N := 8) C dX2_growNumber_67 iw2_growNumber_m_X2 0 rfl rfl 6 (by decide) (List.mem_of_getElem? (i := 1) rfl) rfl rfl rfl ?_
              refine n_iload C dX2_growNumber_70 0 rfl rfl ?_
              obtain ⟨oB_72, h72, hf⟩ := bi hf
              obtain ⟨h72, e72⟩ := oast_some h72
              refine n_iast (w2 := bX2 cyI aB oB_72) C dX2_growNumber_72 2 0 rfl rfl h72 (by subst e72; rfl) rfl ?_
              refine n_aload_n C dX2_growNumber_73 1 rfl rfl ?_
              refine n_get (N := 8) C dX2_growNumber_74 iw2_growNumber_m_X2 0 rfl rfl 7 (by decide) (List.mem_of_getElem? (i := 2) rfl) rfl rfl rfl ?_
              obtain rfl := Option.some.inj hf
              exact n_iret C dX2_growNumber_77
            · have hf := iq h59 hf
              refine n_bipush (v := (nI 8)) C dX2_growNumber_62 (by decide) rfl ?_
              obtain rfl := Option.some.inj hf
              exact n_iret C dX2_growNumber_64
        · have hf := iq h25 hf
          refine n_bipush (v := (nI 8)) C dX2_growNumber_28 (by decide) rfl ?_
          obtain rfl := Option.some.inj hf
          exact n_iret C dX2_growNumber_30
-- X2 beginNumber f
theorem iw2_beginNumber_f_X2 : ∀ w ∈ u_ws RX2 TX2 8, w ∈ wsX2_beginNumber := by decide +kernel
abbrev rm2_beginNumber_f : Room := { frames := 0, cells := 0, slots := 0, locals := 0 }
def f2_beginNumber_f (n : Nat) (oB : OB) (x2 : Int32) (x3 : Int32) : Option (Int32 × (OB)) :=
  (if x2 < (nI 48) then some ((nI 8), oB) else (if (nI 57) < x2 then some ((nI 8), oB) else (if (oB.1 6) < (0 : Int32) then some ((nI 8), oB) else (if (oB.1 6) < (nI 12) then (oast oB 4 12 (oB.1 6) (x2 - (nI 48))).bind fun oB_40 => some (x3, oB_40) else some ((nI 8), oB)))))
set_option maxHeartbeats 4000000 in
set_option maxRecDepth 100000 in
theorem c2_beginNumber_f (l : Launch) (D : va_G) (cyI cyO cyJ : ClassId) (aB : Nat → Nat) (n : Nat) (oB : OB) (x2 : Int32) (x3 : Int32) (z : Int32 × (OB)) (hf : f2_beginNumber_f n oB x2 x3 = some z) : Ct l D (tyG cyI cyO cyJ) yX2_beginNumber wsX2_beginNumber rm2_beginNumber_f 0 0 [.ref (aB 0), .ref (aB 5), .int x2, .int x3] (bX2 cyI aB oB) (bX2 cyI aB z.2) (some (.int z.1)) := by
  refine Ct.of (cc := cX2_beginNumber) (nL := 4) (ret := (some .int)) (lv := [(0, .ref (aB 0)), (1, .ref (aB 5)), (2, .int x2), (3, .int x3)]) (by decide +kernel) rfl rfl (Nat.le_of_ble_eq_true rfl) ?_
  intro p e s m args below meth c A C
  have C : Cx p s m args meth c D (tyG cyI cyO cyJ) A RX2 cX2_beginNumber 4 (some .int) wsX2_beginNumber := C
  unfold f2_beginNumber_f at hf
  refine n_iload_n C dX2_beginNumber_0 2 rfl rfl ?_
  refine n_bipush (v := (nI 48)) C dX2_beginNumber_1 (by decide) rfl ?_
  refine n_icmp_lt (t := 28) C dX2_beginNumber_3 (by decide) rfl (fun h3 => ?_) (fun h3 => ?_)
  · have hf := ip h3 hf
    refine n_bipush (v := (nI 8)) C dX2_beginNumber_28 (by decide) rfl ?_
    obtain rfl := Option.some.inj hf
    exact n_iret C dX2_beginNumber_30
  · have hf := iq h3 hf
    refine n_iload_n C dX2_beginNumber_6 2 rfl rfl ?_
    refine n_bipush (v := (nI 57)) C dX2_beginNumber_7 (by decide) rfl ?_
    refine n_icmp_gt (t := 28) C dX2_beginNumber_9 (by decide) rfl (fun h9 => ?_) (fun h9 => ?_)
    · have hf := ip h9 hf
      refine n_bipush (v := (nI 8)) C dX2_beginNumber_28 (by decide) rfl ?_
      obtain rfl := Option.some.inj hf
      exact n_iret C dX2_beginNumber_30
    · have hf := iq h9 hf
      refine n_aload_n C dX2_beginNumber_12 0 rfl rfl ?_
      refine n_get (N := 8) C dX2_beginNumber_13 iw2_beginNumber_f_X2 0 rfl rfl 6 (by decide) (List.mem_of_getElem? (i := 1) rfl) rfl rfl rfl ?_
      refine n_if_lt (t := 28) C dX2_beginNumber_16 (by decide) rfl (fun h16 => ?_) (fun h16 => ?_)
      · have hf := ip h16 hf
        refine n_bipush (v := (nI 8)) C dX2_beginNumber_28 (by decide) rfl ?_
        obtain rfl := Option.some.inj hf
        exact n_iret C dX2_beginNumber_30
      · have hf := iq h16 hf
        refine n_aload_n C dX2_beginNumber_19 0 rfl rfl ?_
        refine n_get (N := 8) C dX2_beginNumber_20 iw2_beginNumber_f_X2 0 rfl rfl 6 (by decide) (List.mem_of_getElem? (i := 1) rfl) rfl rfl rfl ?_
        refine n_aload_n C dX2_beginNumber_23 1 rfl rfl ?_
        refine n_alen (v := (nI 12)) C dX2_beginNumber_24 4 0 rfl rfl rfl rfl ?_
        refine n_icmp_lt (t := 31) C dX2_beginNumber_25 (by decide) rfl (fun h25 => ?_) (fun h25 => ?_)
        · have hf := ip h25 hf
          refine n_aload_n C dX2_beginNumber_31 1 rfl rfl ?_
          refine n_aload_n C dX2_beginNumber_32 0 rfl rfl ?_
          refine n_get (N := 8) C dX2_beginNumber_33 iw2_beginNumber_f_X2 0 rfl rfl 6 (by decide) (List.mem_of_getElem? (i := 1) rfl) rfl rfl rfl ?_
          refine n_iload_n C dX2_beginNumber_36 2 rfl rfl ?_
          refine n_bipush (v := (nI 48)) C dX2_beginNumber_37 (by decide) rfl ?_
          refine n_isub C dX2_beginNumber_39 rfl ?_
          obtain ⟨oB_40, h40, hf⟩ := bi hf
          obtain ⟨h40, e40⟩ := oast_some h40
          refine n_iast (w2 := bX2 cyI aB oB_40) C dX2_beginNumber_40 4 0 rfl rfl h40 (by subst e40; rfl) rfl ?_
          refine n_iload_n C dX2_beginNumber_41 3 rfl rfl ?_
          obtain rfl := Option.some.inj hf
          exact n_iret C dX2_beginNumber_42
        · have hf := iq h25 hf
          refine n_bipush (v := (nI 8)) C dX2_beginNumber_28 (by decide) rfl ?_
          obtain rfl := Option.some.inj hf
          exact n_iret C dX2_beginNumber_30
-- X2 growNumber f
theorem iw2_growNumber_f_X2 : ∀ w ∈ u_ws RX2 TX2 8, w ∈ wsX2_growNumber := by decide +kernel
abbrev rm2_growNumber_f : Room := { frames := 0, cells := 0, slots := 0, locals := 0 }
def f2_growNumber_f (n : Nat) (oB : OB) (x2 : Int32) (x3 : Int32) : Option (Int32 × (OB)) :=
  (if x2 < (nI 48) then some ((nI 8), oB) else (if (nI 57) < x2 then some ((nI 8), oB) else (if (oB.1 6) < (0 : Int32) then some ((nI 8), oB) else (if (oB.1 6) < (nI 12) then (ald 12 (oB.2 4) (oB.1 6)).bind fun x36 => (ald 12 (oB.2 4) (oB.1 6)).bind fun x52 => (if x52 = (0 : Int32) then some ((nI 8), oB) else (if (((x36 * (nI 10)) + x2) - (nI 48)) ≤ x3 then (oast oB 4 12 (oB.1 6) (((x36 * (nI 10)) + x2) - (nI 48))).bind fun oB_72 => some (oB_72.1 7, oB_72) else some ((nI 8), oB))) else some ((nI 8), oB)))))
set_option maxHeartbeats 4000000 in
set_option maxRecDepth 100000 in
theorem c2_growNumber_f (l : Launch) (D : va_G) (cyI cyO cyJ : ClassId) (aB : Nat → Nat) (n : Nat) (oB : OB) (x2 : Int32) (x3 : Int32) (z : Int32 × (OB)) (hf : f2_growNumber_f n oB x2 x3 = some z) : Ct l D (tyG cyI cyO cyJ) yX2_growNumber wsX2_growNumber rm2_growNumber_f 0 0 [.ref (aB 0), .ref (aB 5), .int x2, .int x3] (bX2 cyI aB oB) (bX2 cyI aB z.2) (some (.int z.1)) := by
  refine Ct.of (cc := cX2_growNumber) (nL := 5) (ret := (some .int)) (lv := [(0, .ref (aB 0)), (1, .ref (aB 5)), (2, .int x2), (3, .int x3)]) (by decide +kernel) rfl rfl (Nat.le_of_ble_eq_true rfl) ?_
  intro p e s m args below meth c A C
  have C : Cx p s m args meth c D (tyG cyI cyO cyJ) A RX2 cX2_growNumber 5 (some .int) wsX2_growNumber := C
  unfold f2_growNumber_f at hf
  refine n_iload_n C dX2_growNumber_0 2 rfl rfl ?_
  refine n_bipush (v := (nI 48)) C dX2_growNumber_1 (by decide) rfl ?_
  refine n_icmp_lt (t := 28) C dX2_growNumber_3 (by decide) rfl (fun h3 => ?_) (fun h3 => ?_)
  · have hf := ip h3 hf
    refine n_bipush (v := (nI 8)) C dX2_growNumber_28 (by decide) rfl ?_
    obtain rfl := Option.some.inj hf
    exact n_iret C dX2_growNumber_30
  · have hf := iq h3 hf
    refine n_iload_n C dX2_growNumber_6 2 rfl rfl ?_
    refine n_bipush (v := (nI 57)) C dX2_growNumber_7 (by decide) rfl ?_
    refine n_icmp_gt (t := 28) C dX2_growNumber_9 (by decide) rfl (fun h9 => ?_) (fun h9 => ?_)
    · have hf := ip h9 hf
      refine n_bipush (v := (nI 8)) C dX2_growNumber_28 (by decide) rfl ?_
      obtain rfl := Option.some.inj hf
      exact n_iret C dX2_growNumber_30
    · have hf := iq h9 hf
      refine n_aload_n C dX2_growNumber_12 0 rfl rfl ?_
      refine n_get (N := 8) C dX2_growNumber_13 iw2_growNumber_f_X2 0 rfl rfl 6 (by decide) (List.mem_of_getElem? (i := 1) rfl) rfl rfl rfl ?_
      refine n_if_lt (t := 28) C dX2_growNumber_16 (by decide) rfl (fun h16 => ?_) (fun h16 => ?_)
      · have hf := ip h16 hf
        refine n_bipush (v := (nI 8)) C dX2_growNumber_28 (by decide) rfl ?_
        obtain rfl := Option.some.inj hf
        exact n_iret C dX2_growNumber_30
      · have hf := iq h16 hf
        refine n_aload_n C dX2_growNumber_19 0 rfl rfl ?_
        refine n_get (N := 8) C dX2_growNumber_20 iw2_growNumber_f_X2 0 rfl rfl 6 (by decide) (List.mem_of_getElem? (i := 1) rfl) rfl rfl rfl ?_
        refine n_aload_n C dX2_growNumber_23 1 rfl rfl ?_
        refine n_alen (v := (nI 12)) C dX2_growNumber_24 4 0 rfl rfl rfl rfl ?_
        refine n_icmp_lt (t := 31) C dX2_growNumber_25 (by decide) rfl (fun h25 => ?_) (fun h25 => ?_)
        · have hf := ip h25 hf
          refine n_aload_n C dX2_growNumber_31 1 rfl rfl ?_
          refine n_aload_n C dX2_growNumber_32 0 rfl rfl ?_
          refine n_get (N := 8) C dX2_growNumber_33 iw2_growNumber_f_X2 0 rfl rfl 6 (by decide) (List.mem_of_getElem? (i := 1) rfl) rfl rfl rfl ?_
          obtain ⟨x36, h36, hf⟩ := bi hf
          obtain ⟨h36, e36⟩ := ald_some h36
          refine n_iald C dX2_growNumber_36 4 0 rfl rfl h36 rfl ?_
          rw [← e36]
          refine n_bipush (v := (nI 10)) C dX2_growNumber_37 (by decide) rfl ?_
          refine n_imul C dX2_growNumber_39 rfl ?_
          refine n_iload_n C dX2_growNumber_40 2 rfl rfl ?_
          refine n_iadd C dX2_growNumber_41 rfl ?_
          refine n_bipush (v := (nI 48)) C dX2_growNumber_42 (by decide) rfl ?_
          refine n_isub C dX2_growNumber_44 rfl ?_
          refine n_istore (lv' := [(4, .int (((x36 * (nI 10)) + x2) - (nI 48))), (0, .ref (aB 0)), (1, .ref (aB 5)), (2, .int x2), (3, .int x3)]) C dX2_growNumber_45 (by decide) rfl rfl ?_
          refine n_aload_n C dX2_growNumber_47 2 rfl rfl ?_
          refine n_aload_n C dX2_growNumber_48 1 rfl rfl ?_
          refine n_get (N := 8) C dX2_growNumber_49 iw2_growNumber_f_X2 0 rfl rfl 6 (by decide) (List.mem_of_getElem? (i := 1) rfl) rfl rfl rfl ?_
          obtain ⟨x52, h52, hf⟩ := bi hf
          obtain ⟨h52, e52⟩ := ald_some h52
          refine n_iald C dX2_growNumber_52 4 0 rfl rfl h52 rfl ?_
          rw [← e52]
          refine n_if_eq (t := 62) C dX2_growNumber_53 (by decide) rfl (fun h53 => ?_) (fun h53 => ?_)
          · have hf := ip h53 hf
            refine n_bipush (v := (nI 8)) C dX2_growNumber_62 (by decide) rfl ?_
            obtain rfl := Option.some.inj hf
            exact n_iret C dX2_growNumber_64
          · have hf := iq h53 hf
            refine n_iload C dX2_growNumber_56 0 rfl rfl ?_
            refine n_iload_n C dX2_growNumber_58 4 rfl rfl ?_
            refine n_icmp_le (t := 65) C dX2_growNumber_59 (by decide) rfl (fun h59 => ?_) (fun h59 => ?_)
            · have hf := ip h59 hf
              refine n_aload_n C dX2_growNumber_65 2 rfl rfl ?_
              refine n_aload_n C dX2_growNumber_66 1 rfl rfl ?_
              refine n_get (N := 8) C dX2_growNumber_67 iw2_growNumber_f_X2 0 rfl rfl 6 (by decide) (List.mem_of_getElem? (i := 1) rfl) rfl rfl rfl ?_
              refine n_iload C dX2_growNumber_70 0 rfl rfl ?_
              obtain ⟨oB_72, h72, hf⟩ := bi hf
              obtain ⟨h72, e72⟩ := oast_some h72
              refine n_iast (w2 := bX2 cyI aB oB_72) C dX2_growNumber_72 4 0 rfl rfl h72 (by subst e72; rfl) rfl ?_
              refine n_aload_n C dX2_growNumber_73 1 rfl rfl ?_
              refine n_get (N := 8) C dX2_growNumber_74 iw2_growNumber_f_X2 0 rfl rfl 7 (by decide) (List.mem_of_getElem? (i := 2) rfl) rfl rfl rfl ?_
              obtain rfl := Option.some.inj hf
              exact n_iret C dX2_growNumber_77
            · have hf := iq h59 hf
              refine n_bipush (v := (nI 8)) C dX2_growNumber_62 (by decide) rfl ?_
              obtain rfl := Option.some.inj hf
              exact n_iret C dX2_growNumber_64
        · have hf := iq h25 hf
          refine n_bipush (v := (nI 8)) C dX2_growNumber_28 (by decide) rfl ?_
          obtain rfl := Option.some.inj hf
          exact n_iret C dX2_growNumber_30
-- X2 beginNumber s
theorem iw2_beginNumber_s_X2 : ∀ w ∈ u_ws RX2 TX2 8, w ∈ wsX2_beginNumber := by decide +kernel
abbrev rm2_beginNumber_s : Room := { frames := 0, cells := 0, slots := 0, locals := 0 }
def f2_beginNumber_s (n : Nat) (oB : OB) (x2 : Int32) (x3 : Int32) : Option (Int32 × (OB)) :=
  (if x2 < (nI 48) then some ((nI 8), oB) else (if (nI 57) < x2 then some ((nI 8), oB) else (if (oB.1 6) < (0 : Int32) then some ((nI 8), oB) else (if (oB.1 6) < (nI 12) then (oast oB 5 12 (oB.1 6) (x2 - (nI 48))).bind fun oB_40 => some (x3, oB_40) else some ((nI 8), oB)))))
set_option maxHeartbeats 4000000 in
set_option maxRecDepth 100000 in
theorem c2_beginNumber_s (l : Launch) (D : va_G) (cyI cyO cyJ : ClassId) (aB : Nat → Nat) (n : Nat) (oB : OB) (x2 : Int32) (x3 : Int32) (z : Int32 × (OB)) (hf : f2_beginNumber_s n oB x2 x3 = some z) : Ct l D (tyG cyI cyO cyJ) yX2_beginNumber wsX2_beginNumber rm2_beginNumber_s 0 0 [.ref (aB 0), .ref (aB 6), .int x2, .int x3] (bX2 cyI aB oB) (bX2 cyI aB z.2) (some (.int z.1)) := by
  refine Ct.of (cc := cX2_beginNumber) (nL := 4) (ret := (some .int)) (lv := [(0, .ref (aB 0)), (1, .ref (aB 6)), (2, .int x2), (3, .int x3)]) (by decide +kernel) rfl rfl (Nat.le_of_ble_eq_true rfl) ?_
  intro p e s m args below meth c A C
  have C : Cx p s m args meth c D (tyG cyI cyO cyJ) A RX2 cX2_beginNumber 4 (some .int) wsX2_beginNumber := C
  unfold f2_beginNumber_s at hf
  refine n_iload_n C dX2_beginNumber_0 2 rfl rfl ?_
  refine n_bipush (v := (nI 48)) C dX2_beginNumber_1 (by decide) rfl ?_
  refine n_icmp_lt (t := 28) C dX2_beginNumber_3 (by decide) rfl (fun h3 => ?_) (fun h3 => ?_)
  · have hf := ip h3 hf
    refine n_bipush (v := (nI 8)) C dX2_beginNumber_28 (by decide) rfl ?_
    obtain rfl := Option.some.inj hf
    exact n_iret C dX2_beginNumber_30
  · have hf := iq h3 hf
    refine n_iload_n C dX2_beginNumber_6 2 rfl rfl ?_
    refine n_bipush (v := (nI 57)) C dX2_beginNumber_7 (by decide) rfl ?_
    refine n_icmp_gt (t := 28) C dX2_beginNumber_9 (by decide) rfl (fun h9 => ?_) (fun h9 => ?_)
    · have hf := ip h9 hf
      refine n_bipush (v := (nI 8)) C dX2_beginNumber_28 (by decide) rfl ?_
      obtain rfl := Option.some.inj hf
      exact n_iret C dX2_beginNumber_30
    · have hf := iq h9 hf
      refine n_aload_n C dX2_beginNumber_12 0 rfl rfl ?_
      refine n_get (N := 8) C dX2_beginNumber_13 iw2_beginNumber_s_X2 0 rfl rfl 6 (by decide) (List.mem_of_getElem? (i := 1) rfl) rfl rfl rfl ?_
      refine n_if_lt (t := 28) C dX2_beginNumber_16 (by decide) rfl (fun h16 => ?_) (fun h16 => ?_)
      · have hf := ip h16 hf
        refine n_bipush (v := (nI 8)) C dX2_beginNumber_28 (by decide) rfl ?_
        obtain rfl := Option.some.inj hf
        exact n_iret C dX2_beginNumber_30
      · have hf := iq h16 hf
        refine n_aload_n C dX2_beginNumber_19 0 rfl rfl ?_
        refine n_get (N := 8) C dX2_beginNumber_20 iw2_beginNumber_s_X2 0 rfl rfl 6 (by decide) (List.mem_of_getElem? (i := 1) rfl) rfl rfl rfl ?_
        refine n_aload_n C dX2_beginNumber_23 1 rfl rfl ?_
        refine n_alen (v := (nI 12)) C dX2_beginNumber_24 5 0 rfl rfl rfl rfl ?_
        refine n_icmp_lt (t := 31) C dX2_beginNumber_25 (by decide) rfl (fun h25 => ?_) (fun h25 => ?_)
        · have hf := ip h25 hf
          refine n_aload_n C dX2_beginNumber_31 1 rfl rfl ?_
          refine n_aload_n C dX2_beginNumber_32 0 rfl rfl ?_
          refine n_get (N := 8) C dX2_beginNumber_33 iw2_beginNumber_s_X2 0 rfl rfl 6 (by decide) (List.mem_of_getElem? (i := 1) rfl) rfl rfl rfl ?_
          refine n_iload_n C dX2_beginNumber_36 2 rfl rfl ?_
          refine n_bipush (v := (nI 48)) C dX2_beginNumber_37 (by decide) rfl ?_
          refine n_isub C dX2_beginNumber_39 rfl ?_
          obtain ⟨oB_40, h40, hf⟩ := bi hf
          obtain ⟨h40, e40⟩ := oast_some h40
          refine n_iast (w2 := bX2 cyI aB oB_40) C dX2_beginNumber_40 5 0 rfl rfl h40 (by subst e40; rfl) rfl ?_
          refine n_iload_n C dX2_beginNumber_41 3 rfl rfl ?_
          obtain rfl := Option.some.inj hf
          exact n_iret C dX2_beginNumber_42
        · have hf := iq h25 hf
          refine n_bipush (v := (nI 8)) C dX2_beginNumber_28 (by decide) rfl ?_
          obtain rfl := Option.some.inj hf
          exact n_iret C dX2_beginNumber_30
-- X2 growNumber s
theorem iw2_growNumber_s_X2 : ∀ w ∈ u_ws RX2 TX2 8, w ∈ wsX2_growNumber := by decide +kernel
abbrev rm2_growNumber_s : Room := { frames := 0, cells := 0, slots := 0, locals := 0 }
def f2_growNumber_s (n : Nat) (oB : OB) (x2 : Int32) (x3 : Int32) : Option (Int32 × (OB)) :=
  (if x2 < (nI 48) then some ((nI 8), oB) else (if (nI 57) < x2 then some ((nI 8), oB) else (if (oB.1 6) < (0 : Int32) then some ((nI 8), oB) else (if (oB.1 6) < (nI 12) then (ald 12 (oB.2 5) (oB.1 6)).bind fun x36 => (ald 12 (oB.2 5) (oB.1 6)).bind fun x52 => (if x52 = (0 : Int32) then some ((nI 8), oB) else (if (((x36 * (nI 10)) + x2) - (nI 48)) ≤ x3 then (oast oB 5 12 (oB.1 6) (((x36 * (nI 10)) + x2) - (nI 48))).bind fun oB_72 => some (oB_72.1 7, oB_72) else some ((nI 8), oB))) else some ((nI 8), oB)))))
set_option maxHeartbeats 4000000 in
set_option maxRecDepth 100000 in
theorem c2_growNumber_s (l : Launch) (D : va_G) (cyI cyO cyJ : ClassId) (aB : Nat → Nat) (n : Nat) (oB : OB) (x2 : Int32) (x3 : Int32) (z : Int32 × (OB)) (hf : f2_growNumber_s n oB x2 x3 = some z) : Ct l D (tyG cyI cyO cyJ) yX2_growNumber wsX2_growNumber rm2_growNumber_s 0 0 [.ref (aB 0), .ref (aB 6), .int x2, .int x3] (bX2 cyI aB oB) (bX2 cyI aB z.2) (some (.int z.1)) := by
  refine Ct.of (cc := cX2_growNumber) (nL := 5) (ret := (some .int)) (lv := [(0, .ref (aB 0)), (1, .ref (aB 6)), (2, .int x2), (3, .int x3)]) (by decide +kernel) rfl rfl (Nat.le_of_ble_eq_true rfl) ?_
  intro p e s m args below meth c A C
  have C : Cx p s m args meth c D (tyG cyI cyO cyJ) A RX2 cX2_growNumber 5 (some .int) wsX2_growNumber := C
  unfold f2_growNumber_s at hf
  refine n_iload_n C dX2_growNumber_0 2 rfl rfl ?_
  refine n_bipush (v := (nI 48)) C dX2_growNumber_1 (by decide) rfl ?_
  refine n_icmp_lt (t := 28) C dX2_growNumber_3 (by decide) rfl (fun h3 => ?_) (fun h3 => ?_)
  · have hf := ip h3 hf
    refine n_bipush (v := (nI 8)) C dX2_growNumber_28 (by decide) rfl ?_
    obtain rfl := Option.some.inj hf
    exact n_iret C dX2_growNumber_30
  · have hf := iq h3 hf
    refine n_iload_n C dX2_growNumber_6 2 rfl rfl ?_
    refine n_bipush (v := (nI 57)) C dX2_growNumber_7 (by decide) rfl ?_
    refine n_icmp_gt (t := 28) C dX2_growNumber_9 (by decide) rfl (fun h9 => ?_) (fun h9 => ?_)
    · have hf := ip h9 hf
      refine n_bipush (v := (nI 8)) C dX2_growNumber_28 (by decide) rfl ?_
      obtain rfl := Option.some.inj hf
      exact n_iret C dX2_growNumber_30
    · have hf := iq h9 hf
      refine n_aload_n C dX2_growNumber_12 0 rfl rfl ?_
      refine n_get (N := 8) C dX2_growNumber_13 iw2_growNumber_s_X2 0 rfl rfl 6 (by decide) (List.mem_of_getElem? (i := 1) rfl) rfl rfl rfl ?_
      refine n_if_lt (t := 28) C dX2_growNumber_16 (by decide) rfl (fun h16 => ?_) (fun h16 => ?_)
      · have hf := ip h16 hf
        refine n_bipush (v := (nI 8)) C dX2_growNumber_28 (by decide) rfl ?_
        obtain rfl := Option.some.inj hf
        exact n_iret C dX2_growNumber_30
      · have hf := iq h16 hf
        refine n_aload_n C dX2_growNumber_19 0 rfl rfl ?_
        refine n_get (N := 8) C dX2_growNumber_20 iw2_growNumber_s_X2 0 rfl rfl 6 (by decide) (List.mem_of_getElem? (i := 1) rfl) rfl rfl rfl ?_
        refine n_aload_n C dX2_growNumber_23 1 rfl rfl ?_
        refine n_alen (v := (nI 12)) C dX2_growNumber_24 5 0 rfl rfl rfl rfl ?_
        refine n_icmp_lt (t := 31) C dX2_growNumber_25 (by decide) rfl (fun h25 => ?_) (fun h25 => ?_)
        · have hf := ip h25 hf
          refine n_aload_n C dX2_growNumber_31 1 rfl rfl ?_
          refine n_aload_n C dX2_growNumber_32 0 rfl rfl ?_
          refine n_get (N := 8) C dX2_growNumber_33 iw2_growNumber_s_X2 0 rfl rfl 6 (by decide) (List.mem_of_getElem? (i := 1) rfl) rfl rfl rfl ?_
          obtain ⟨x36, h36, hf⟩ := bi hf
          obtain ⟨h36, e36⟩ := ald_some h36
          refine n_iald C dX2_growNumber_36 5 0 rfl rfl h36 rfl ?_
          rw [← e36]
          refine n_bipush (v := (nI 10)) C dX2_growNumber_37 (by decide) rfl ?_
          refine n_imul C dX2_growNumber_39 rfl ?_
          refine n_iload_n C dX2_growNumber_40 2 rfl rfl ?_
          refine n_iadd C dX2_growNumber_41 rfl ?_
          refine n_bipush (v := (nI 48)) C dX2_growNumber_42 (by decide) rfl ?_
          refine n_isub C dX2_growNumber_44 rfl ?_
          refine n_istore (lv' := [(4, .int (((x36 * (nI 10)) + x2) - (nI 48))), (0, .ref (aB 0)), (1, .ref (aB 6)), (2, .int x2), (3, .int x3)]) C dX2_growNumber_45 (by decide) rfl rfl ?_
          refine n_aload_n C dX2_growNumber_47 2 rfl rfl ?_
          refine n_aload_n C dX2_growNumber_48 1 rfl rfl ?_
          refine n_get (N := 8) C dX2_growNumber_49 iw2_growNumber_s_X2 0 rfl rfl 6 (by decide) (List.mem_of_getElem? (i := 1) rfl) rfl rfl rfl ?_
          obtain ⟨x52, h52, hf⟩ := bi hf
          obtain ⟨h52, e52⟩ := ald_some h52
          refine n_iald C dX2_growNumber_52 5 0 rfl rfl h52 rfl ?_
          rw [← e52]
          refine n_if_eq (t := 62) C dX2_growNumber_53 (by decide) rfl (fun h53 => ?_) (fun h53 => ?_)
          · have hf := ip h53 hf
            refine n_bipush (v := (nI 8)) C dX2_growNumber_62 (by decide) rfl ?_
            obtain rfl := Option.some.inj hf
            exact n_iret C dX2_growNumber_64
          · have hf := iq h53 hf
            refine n_iload C dX2_growNumber_56 0 rfl rfl ?_
            refine n_iload_n C dX2_growNumber_58 4 rfl rfl ?_
            refine n_icmp_le (t := 65) C dX2_growNumber_59 (by decide) rfl (fun h59 => ?_) (fun h59 => ?_)
            · have hf := ip h59 hf
              refine n_aload_n C dX2_growNumber_65 2 rfl rfl ?_
              refine n_aload_n C dX2_growNumber_66 1 rfl rfl ?_
              refine n_get (N := 8) C dX2_growNumber_67 iw2_growNumber_s_X2 0 rfl rfl 6 (by decide) (List.mem_of_getElem? (i := 1) rfl) rfl rfl rfl ?_
              refine n_iload C dX2_growNumber_70 0 rfl rfl ?_
              obtain ⟨oB_72, h72, hf⟩ := bi hf
              obtain ⟨h72, e72⟩ := oast_some h72
              refine n_iast (w2 := bX2 cyI aB oB_72) C dX2_growNumber_72 5 0 rfl rfl h72 (by subst e72; rfl) rfl ?_
              refine n_aload_n C dX2_growNumber_73 1 rfl rfl ?_
              refine n_get (N := 8) C dX2_growNumber_74 iw2_growNumber_s_X2 0 rfl rfl 7 (by decide) (List.mem_of_getElem? (i := 2) rfl) rfl rfl rfl ?_
              obtain rfl := Option.some.inj hf
              exact n_iret C dX2_growNumber_77
            · have hf := iq h59 hf
              refine n_bipush (v := (nI 8)) C dX2_growNumber_62 (by decide) rfl ?_
              obtain rfl := Option.some.inj hf
              exact n_iret C dX2_growNumber_64
        · have hf := iq h25 hf
          refine n_bipush (v := (nI 8)) C dX2_growNumber_28 (by decide) rfl ?_
          obtain rfl := Option.some.inj hf
          exact n_iret C dX2_growNumber_30
-- X2 endPart 
theorem iw2_endPart_X2 : ∀ w ∈ u_ws RX2 TX2 8, w ∈ wsX2_endPart := by decide +kernel
abbrev rm2_endPart : Room := { frames := 0, cells := 0, slots := 0, locals := 0 }
def f2_endPart (n : Nat) (oB : OB) : Option (Int32 × (OB)) :=
  (some (gsi oB 6 ((oB.1 6) + (nI 1)))).bind fun oB_7 => some ((nI 0), oB_7)
set_option maxHeartbeats 4000000 in
set_option maxRecDepth 100000 in
theorem c2_endPart (l : Launch) (D : va_G) (cyI cyO cyJ : ClassId) (aB : Nat → Nat) (n : Nat) (oB : OB) (z : Int32 × (OB)) (hf : f2_endPart n oB = some z) : Ct l D (tyG cyI cyO cyJ) yX2_endPart wsX2_endPart rm2_endPart 0 0 [.ref (aB 0)] (bX2 cyI aB oB) (bX2 cyI aB z.2) (some (.int z.1)) := by
  refine Ct.of (cc := cX2_endPart) (nL := 1) (ret := (some .int)) (lv := [(0, .ref (aB 0))]) (by decide +kernel) rfl rfl (Nat.le_of_ble_eq_true rfl) ?_
  intro p e s m args below meth c A C
  have C : Cx p s m args meth c D (tyG cyI cyO cyJ) A RX2 cX2_endPart 1 (some .int) wsX2_endPart := C
  unfold f2_endPart at hf
  refine n_aload_n C dX2_endPart_0 0 rfl rfl ?_
  refine n_dup C dX2_endPart_1 rfl rfl ?_
  refine n_get (N := 8) C dX2_endPart_2 iw2_endPart_X2 0 rfl rfl 6 (by decide) (List.mem_of_getElem? (i := 1) rfl) rfl rfl rfl ?_
  refine n_iconst (v := (nI 1)) C dX2_endPart_5 (by decide) rfl ?_
  refine n_iadd C dX2_endPart_6 rfl ?_
  obtain ⟨oB_7, e7, hf⟩ := bi hf
  replace e7 := Option.some.inj e7
  refine n_put (w2 := bX2 cyI aB oB_7) (N := 8) (ty := .int) C dX2_endPart_7 iw2_endPart_X2 tyX2_ok nmX2 0 rfl rfl 6 (by decide) (List.mem_of_getElem? (i := 1) rfl) rfl rfl (by decide +kernel) rfl rfl (Nat.le_of_ble_eq_true rfl) (by subst e7; rfl) rfl ?_
  refine n_iconst (v := (nI 0)) C dX2_endPart_10 (by decide) rfl ?_
  obtain rfl := Option.some.inj hf
  exact n_iret C dX2_endPart_11
-- X2 takeGiver 
theorem iw2_takeGiver_X2 : ∀ w ∈ u_ws RX2 TX2 8, w ∈ wsX2_takeGiver := by decide +kernel
abbrev rm2_takeGiver : Room := { frames := 0, cells := 0, slots := 0, locals := 0 }
def f2_takeGiver_b50 (n : Nat) (x1 : Int32) (s1 : Int32) (s2 : Int32) (oB : OB) : Option (Int32 × (OB)) :=
  (oast oB 3 12 s1 s2).bind fun oB_50 => (oast oB_50 4 12 (oB_50.1 6) (nI 0)).bind fun oB_60 => (oast oB_60 5 12 (oB_60.1 6) (nI 0)).bind fun oB_70 => some ((nI 7), oB_70)
def f2_takeGiver_b12 (n : Nat) (x1 : Int32) (oB : OB) : Option (Int32 × (OB)) :=
  (if (oB.1 6) < (0 : Int32) then some ((nI 8), oB) else (if (oB.1 6) < (nI 12) then (if x1 = (nI 49) then f2_takeGiver_b50 n x1 (oB.1 6) (nI 2) oB else f2_takeGiver_b50 n x1 (oB.1 6) (nI 3) oB) else some ((nI 8), oB)))
def f2_takeGiver (n : Nat) (oB : OB) (x1 : Int32) : Option (Int32 × (OB)) :=
  (if x1 = (nI 49) then f2_takeGiver_b12 n x1 oB else (if x1 = (nI 50) then f2_takeGiver_b12 n x1 oB else some ((nI 8), oB)))
set_option maxHeartbeats 4000000 in
set_option maxRecDepth 100000 in
theorem t2_takeGiver_b50 {l : Launch} {p : Program} {e : Env} {s : State} {m : MethodId} {args : Array Value} {below : List Frame} {meth : Method} {c : Code} {D : va_G} {A : Nat → Prop} {cyI cyO cyJ : ClassId} {aB : Nat → Nat} (C : Cx p s m args meth c D (tyG cyI cyO cyJ) A RX2 cX2_takeGiver 2 (some .int) wsX2_takeGiver) {z : Int32 × (OB)} (n : Nat) (x1 : Int32) (s1 : Int32) (s2 : Int32) (oB : OB) (hf : f2_takeGiver_b50 n x1 s1 s2 oB = some z) : Wn p l e rm2_takeGiver s m args below meth c D A 2 0 0 (MQ below (Qr D (tyG cyI cyO cyJ) (bX2 cyI aB z.2) A (some (.int z.1))) args s 0 0 A) (bX2 cyI aB oB) 50 [(0, .ref (aB 0))] [.int s2, .int s1, .ref (aB 4)] := by
  unfold f2_takeGiver_b50 at hf
  obtain ⟨oB_50, h50, hf⟩ := bi hf
  obtain ⟨h50, e50⟩ := oast_some h50
  refine n_iast (w2 := bX2 cyI aB oB_50) C dX2_takeGiver_50 3 0 rfl rfl h50 (by subst e50; rfl) rfl ?_
  refine n_aload_n C dX2_takeGiver_51 0 rfl rfl ?_
  refine n_get (N := 8) C dX2_takeGiver_52 iw2_takeGiver_X2 0 rfl rfl 4 (by decide) (List.mem_of_getElem? (i := 3) rfl) rfl rfl rfl ?_
  refine n_aload_n C dX2_takeGiver_55 0 rfl rfl ?_
  refine n_get (N := 8) C dX2_takeGiver_56 iw2_takeGiver_X2 0 rfl rfl 6 (by decide) (List.mem_of_getElem? (i := 1) rfl) rfl rfl rfl ?_
  refine n_iconst (v := (nI 0)) C dX2_takeGiver_59 (by decide) rfl ?_
  obtain ⟨oB_60, h60, hf⟩ := bi hf
  obtain ⟨h60, e60⟩ := oast_some h60
  refine n_iast (w2 := bX2 cyI aB oB_60) C dX2_takeGiver_60 4 0 rfl rfl h60 (by subst e60; rfl) rfl ?_
  refine n_aload_n C dX2_takeGiver_61 0 rfl rfl ?_
  refine n_get (N := 8) C dX2_takeGiver_62 iw2_takeGiver_X2 0 rfl rfl 5 (by decide) (List.mem_of_getElem? (i := 4) rfl) rfl rfl rfl ?_
  refine n_aload_n C dX2_takeGiver_65 0 rfl rfl ?_
  refine n_get (N := 8) C dX2_takeGiver_66 iw2_takeGiver_X2 0 rfl rfl 6 (by decide) (List.mem_of_getElem? (i := 1) rfl) rfl rfl rfl ?_
  refine n_iconst (v := (nI 0)) C dX2_takeGiver_69 (by decide) rfl ?_
  obtain ⟨oB_70, h70, hf⟩ := bi hf
  obtain ⟨h70, e70⟩ := oast_some h70
  refine n_iast (w2 := bX2 cyI aB oB_70) C dX2_takeGiver_70 5 0 rfl rfl h70 (by subst e70; rfl) rfl ?_
  refine n_bipush (v := (nI 7)) C dX2_takeGiver_71 (by decide) rfl ?_
  obtain rfl := Option.some.inj hf
  exact n_iret C dX2_takeGiver_73
set_option maxHeartbeats 4000000 in
set_option maxRecDepth 100000 in
theorem t2_takeGiver_b12 {l : Launch} {p : Program} {e : Env} {s : State} {m : MethodId} {args : Array Value} {below : List Frame} {meth : Method} {c : Code} {D : va_G} {A : Nat → Prop} {cyI cyO cyJ : ClassId} {aB : Nat → Nat} (C : Cx p s m args meth c D (tyG cyI cyO cyJ) A RX2 cX2_takeGiver 2 (some .int) wsX2_takeGiver) {z : Int32 × (OB)} (n : Nat) (x1 : Int32) (oB : OB) (hf : f2_takeGiver_b12 n x1 oB = some z) : Wn p l e rm2_takeGiver s m args below meth c D A 2 0 0 (MQ below (Qr D (tyG cyI cyO cyJ) (bX2 cyI aB z.2) A (some (.int z.1))) args s 0 0 A) (bX2 cyI aB oB) 12 [(0, .ref (aB 0)), (1, .int x1)] [] := by
  unfold f2_takeGiver_b12 at hf
  refine n_aload_n C dX2_takeGiver_12 0 rfl rfl ?_
  refine n_get (N := 8) C dX2_takeGiver_13 iw2_takeGiver_X2 0 rfl rfl 6 (by decide) (List.mem_of_getElem? (i := 1) rfl) rfl rfl rfl ?_
  refine n_if_lt (t := 28) C dX2_takeGiver_16 (by decide) rfl (fun h16 => ?_) (fun h16 => ?_)
  · have hf := ip h16 hf
    refine n_bipush (v := (nI 8)) C dX2_takeGiver_28 (by decide) rfl ?_
    obtain rfl := Option.some.inj hf
    exact n_iret C dX2_takeGiver_30
  · have hf := iq h16 hf
    refine n_aload_n C dX2_takeGiver_19 0 rfl rfl ?_
    refine n_get (N := 8) C dX2_takeGiver_20 iw2_takeGiver_X2 0 rfl rfl 6 (by decide) (List.mem_of_getElem? (i := 1) rfl) rfl rfl rfl ?_
    refine n_bipush (v := (nI 12)) C dX2_takeGiver_23 (by decide) rfl ?_
    refine n_icmp_lt (t := 31) C dX2_takeGiver_25 (by decide) rfl (fun h25 => ?_) (fun h25 => ?_)
    · have hf := ip h25 hf
      refine n_aload_n C dX2_takeGiver_31 0 rfl rfl ?_
      refine n_get (N := 8) C dX2_takeGiver_32 iw2_takeGiver_X2 0 rfl rfl 3 (by decide) (List.mem_of_getElem? (i := 2) rfl) rfl rfl rfl ?_
      refine n_aload_n C dX2_takeGiver_35 0 rfl rfl ?_
      refine n_get (N := 8) C dX2_takeGiver_36 iw2_takeGiver_X2 0 rfl rfl 6 (by decide) (List.mem_of_getElem? (i := 1) rfl) rfl rfl rfl ?_
      refine n_iload_n C dX2_takeGiver_39 1 rfl rfl ?_
      refine n_bipush (v := (nI 49)) C dX2_takeGiver_40 (by decide) rfl ?_
      refine n_icmp_ne (t := 49) C dX2_takeGiver_42 (by decide) rfl (fun h42 => ?_) (fun h42 => ?_)
      · have hf := iq h42 hf
        refine n_iconst (v := (nI 3)) C dX2_takeGiver_49 (by decide) rfl ?_
        exact Wn.sub (lv' := [(0, .ref (aB 0))]) [0] rfl (t2_takeGiver_b50 C n x1 (oB.1 6) (nI 3) oB hf)
      · have hf := ip h42 hf
        refine n_iconst (v := (nI 2)) C dX2_takeGiver_45 (by decide) rfl ?_
        refine n_goto (t := 50) C dX2_takeGiver_46 (by decide) ?_
        exact Wn.sub (lv' := [(0, .ref (aB 0))]) [0] rfl (t2_takeGiver_b50 C n x1 (oB.1 6) (nI 2) oB hf)
    · have hf := iq h25 hf
      refine n_bipush (v := (nI 8)) C dX2_takeGiver_28 (by decide) rfl ?_
      obtain rfl := Option.some.inj hf
      exact n_iret C dX2_takeGiver_30
set_option maxHeartbeats 4000000 in
set_option maxRecDepth 100000 in
theorem c2_takeGiver (l : Launch) (D : va_G) (cyI cyO cyJ : ClassId) (aB : Nat → Nat) (n : Nat) (oB : OB) (x1 : Int32) (z : Int32 × (OB)) (hf : f2_takeGiver n oB x1 = some z) : Ct l D (tyG cyI cyO cyJ) yX2_takeGiver wsX2_takeGiver rm2_takeGiver 0 0 [.ref (aB 0), .int x1] (bX2 cyI aB oB) (bX2 cyI aB z.2) (some (.int z.1)) := by
  refine Ct.of (cc := cX2_takeGiver) (nL := 2) (ret := (some .int)) (lv := [(0, .ref (aB 0)), (1, .int x1)]) (by decide +kernel) rfl rfl (Nat.le_of_ble_eq_true rfl) ?_
  intro p e s m args below meth c A C
  have C : Cx p s m args meth c D (tyG cyI cyO cyJ) A RX2 cX2_takeGiver 2 (some .int) wsX2_takeGiver := C
  unfold f2_takeGiver at hf
  refine n_iload_n C dX2_takeGiver_0 1 rfl rfl ?_
  refine n_bipush (v := (nI 49)) C dX2_takeGiver_1 (by decide) rfl ?_
  refine n_icmp_eq (t := 12) C dX2_takeGiver_3 (by decide) rfl (fun h3 => ?_) (fun h3 => ?_)
  · have hf := ip h3 hf
    exact Wn.sub (lv' := [(0, .ref (aB 0)), (1, .int x1)]) [0, 1] rfl (t2_takeGiver_b12 C n x1 oB hf)
  · have hf := iq h3 hf
    refine n_iload_n C dX2_takeGiver_6 1 rfl rfl ?_
    refine n_bipush (v := (nI 50)) C dX2_takeGiver_7 (by decide) rfl ?_
    refine n_icmp_ne (t := 28) C dX2_takeGiver_9 (by decide) rfl (fun h9 => ?_) (fun h9 => ?_)
    · have hf := iq h9 hf
      refine n_bipush (v := (nI 8)) C dX2_takeGiver_28 (by decide) rfl ?_
      obtain rfl := Option.some.inj hf
      exact n_iret C dX2_takeGiver_30
    · have hf := ip h9 hf
      exact Wn.sub (lv' := [(0, .ref (aB 0)), (1, .int x1)]) [0, 1] rfl (t2_takeGiver_b12 C n x1 oB hf)
-- X2 beginSecondScore 
theorem iw2_beginSecondScore_X2 : ∀ w ∈ u_ws RX2 TX2 8, w ∈ wsX2_beginSecondScore := by decide +kernel
abbrev rm2_beginSecondScore : Room := { frames := 1, cells := 0, slots := 0, locals := 23 }
def f2_beginSecondScore (n : Nat) (oB : OB) (x1 : Int32) : Option (Int32 × (OB)) :=
  (if (oB.1 6) < (0 : Int32) then some ((nI 8), oB) else (if (oB.1 6) < (nI 12) then (oast oB 3 12 (oB.1 6) (nI 1)).bind fun oB_28 => (f2_beginNumber_s n oB_28 x1 (nI 5)).bind fun z36 => some (z36.1, z36.2) else some ((nI 8), oB)))
set_option maxHeartbeats 4000000 in
set_option maxRecDepth 100000 in
theorem c2_beginSecondScore (l : Launch) (D : va_G) (cyI cyO cyJ : ClassId) (aB : Nat → Nat) (n : Nat) (oB : OB) (x1 : Int32) (z : Int32 × (OB)) (hf : f2_beginSecondScore n oB x1 = some z) : Ct l D (tyG cyI cyO cyJ) yX2_beginSecondScore wsX2_beginSecondScore rm2_beginSecondScore 0 0 [.ref (aB 0), .int x1] (bX2 cyI aB oB) (bX2 cyI aB z.2) (some (.int z.1)) := by
  refine Ct.of (cc := cX2_beginSecondScore) (nL := 2) (ret := (some .int)) (lv := [(0, .ref (aB 0)), (1, .int x1)]) (by decide +kernel) rfl rfl (Nat.le_of_ble_eq_true rfl) ?_
  intro p e s m args below meth c A C
  have C : Cx p s m args meth c D (tyG cyI cyO cyJ) A RX2 cX2_beginSecondScore 2 (some .int) wsX2_beginSecondScore := C
  unfold f2_beginSecondScore at hf
  refine n_aload_n C dX2_beginSecondScore_0 0 rfl rfl ?_
  refine n_get (N := 8) C dX2_beginSecondScore_1 iw2_beginSecondScore_X2 0 rfl rfl 6 (by decide) (List.mem_of_getElem? (i := 1) rfl) rfl rfl rfl ?_
  refine n_if_lt (t := 16) C dX2_beginSecondScore_4 (by decide) rfl (fun h4 => ?_) (fun h4 => ?_)
  · have hf := ip h4 hf
    refine n_bipush (v := (nI 8)) C dX2_beginSecondScore_16 (by decide) rfl ?_
    obtain rfl := Option.some.inj hf
    exact n_iret C dX2_beginSecondScore_18
  · have hf := iq h4 hf
    refine n_aload_n C dX2_beginSecondScore_7 0 rfl rfl ?_
    refine n_get (N := 8) C dX2_beginSecondScore_8 iw2_beginSecondScore_X2 0 rfl rfl 6 (by decide) (List.mem_of_getElem? (i := 1) rfl) rfl rfl rfl ?_
    refine n_bipush (v := (nI 12)) C dX2_beginSecondScore_11 (by decide) rfl ?_
    refine n_icmp_lt (t := 19) C dX2_beginSecondScore_13 (by decide) rfl (fun h13 => ?_) (fun h13 => ?_)
    · have hf := ip h13 hf
      refine n_aload_n C dX2_beginSecondScore_19 0 rfl rfl ?_
      refine n_get (N := 8) C dX2_beginSecondScore_20 iw2_beginSecondScore_X2 0 rfl rfl 3 (by decide) (List.mem_of_getElem? (i := 2) rfl) rfl rfl rfl ?_
      refine n_aload_n C dX2_beginSecondScore_23 0 rfl rfl ?_
      refine n_get (N := 8) C dX2_beginSecondScore_24 iw2_beginSecondScore_X2 0 rfl rfl 6 (by decide) (List.mem_of_getElem? (i := 1) rfl) rfl rfl rfl ?_
      refine n_iconst (v := (nI 1)) C dX2_beginSecondScore_27 (by decide) rfl ?_
      obtain ⟨oB_28, h28, hf⟩ := bi hf
      obtain ⟨h28, e28⟩ := oast_some h28
      refine n_iast (w2 := bX2 cyI aB oB_28) C dX2_beginSecondScore_28 3 0 rfl rfl h28 (by subst e28; rfl) rfl ?_
      refine n_aload_n C dX2_beginSecondScore_29 0 rfl rfl ?_
      refine n_aload_n C dX2_beginSecondScore_30 0 rfl rfl ?_
      refine n_get (N := 8) C dX2_beginSecondScore_31 iw2_beginSecondScore_X2 0 rfl rfl 5 (by decide) (List.mem_of_getElem? (i := 3) rfl) rfl rfl rfl ?_
      refine n_iload_n C dX2_beginSecondScore_34 1 rfl rfl ?_
      refine n_iconst (v := (nI 5)) C dX2_beginSecondScore_35 (by decide) rfl ?_
      obtain ⟨z36, h36, hf⟩ := bi hf
      refine n_callV (As := [.ref (aB 6), .int x1, .int (nI 5)]) (rest := []) (w2 := bX2 cyI aB z36.2) C dX2_beginSecondScore_36 (c2_beginNumber_s l D cyI cyO cyJ aB n oB_28 x1 (nI 5) z36 h36) (cwV 3 C.ts gX2_beginSecondScore_X2_beginNumber rfl rfl rfl (by decide +kernel) ⟨Nat.le_of_ble_eq_true rfl, Nat.le_of_ble_eq_true rfl⟩) rfl (q0 := 0) (ci := 2) rfl rfl Frm.self rfl (Nat.le_of_ble_eq_true rfl) ⟨Nat.le_of_ble_eq_true rfl, Nat.le_of_ble_eq_true rfl⟩ rfl ?_
      obtain rfl := Option.some.inj hf
      exact n_iret C dX2_beginSecondScore_39
    · have hf := iq h13 hf
      refine n_bipush (v := (nI 8)) C dX2_beginSecondScore_16 (by decide) rfl ?_
      obtain rfl := Option.some.inj hf
      exact n_iret C dX2_beginSecondScore_18
-- X2 next 
theorem iw2_next_X2 : ∀ w ∈ u_ws RX2 TX2 8, w ∈ wsX2_next := by decide +kernel
abbrev rm2_next : Room := { frames := 2, cells := 0, slots := 0, locals := 44 }
def f2_next (n : Nat) (oB : OB) (x1 : Int32) : Option (Int32 × (OB)) :=
  (if (oB.1 7) = (nI 0) then (f2_beginNumber_m n oB x1 (nI 1)).bind fun z59 => some (z59.1, z59.2) else (if (oB.1 7) = (nI 1) then (if x1 = (nI 61) then some ((nI 2), oB) else (f2_growNumber_m n oB x1 (nI 27)).bind fun z81 => some (z81.1, z81.2)) else (if (oB.1 7) = (nI 2) then (if x1 = (nI 119) then some ((nI 6), oB) else (f2_beginNumber_f n oB x1 (nI 3)).bind fun z103 => some (z103.1, z103.2)) else (if (oB.1 7) = (nI 3) then (if x1 = (nI 58) then some ((nI 4), oB) else (f2_growNumber_f n oB x1 (nI 99)).bind fun z125 => some (z125.1, z125.2)) else (if (oB.1 7) = (nI 4) then (f2_beginSecondScore n oB x1).bind fun z131 => some (z131.1, z131.2) else (if (oB.1 7) = (nI 5) then (if x1 = (nI 59) then (f2_endPart n oB).bind fun z142 => some (z142.1, z142.2) else (f2_growNumber_s n oB x1 (nI 99)).bind fun z156 => some (z156.1, z156.2)) else (if (oB.1 7) = (nI 6) then (f2_takeGiver n oB x1).bind fun z162 => some (z162.1, z162.2) else (if (oB.1 7) = (nI 7) then (if x1 = (nI 59) then (f2_endPart n oB).bind fun z173 => some (z173.1, z173.2) else some ((nI 8), oB)) else some ((nI 8), oB)))))))))
set_option maxHeartbeats 4000000 in
set_option maxRecDepth 100000 in
theorem c2_next (l : Launch) (D : va_G) (cyI cyO cyJ : ClassId) (aB : Nat → Nat) (n : Nat) (oB : OB) (x1 : Int32) (z : Int32 × (OB)) (hf : f2_next n oB x1 = some z) : Ct l D (tyG cyI cyO cyJ) yX2_next wsX2_next rm2_next 0 0 [.ref (aB 0), .int x1] (bX2 cyI aB oB) (bX2 cyI aB z.2) (some (.int z.1)) := by
  refine Ct.of (cc := cX2_next) (nL := 2) (ret := (some .int)) (lv := [(0, .ref (aB 0)), (1, .int x1)]) (by decide +kernel) rfl rfl (Nat.le_of_ble_eq_true rfl) ?_
  intro p e s m args below meth c A C
  have C : Cx p s m args meth c D (tyG cyI cyO cyJ) A RX2 cX2_next 2 (some .int) wsX2_next := C
  unfold f2_next at hf
  refine n_aload_n C dX2_next_0 0 rfl rfl ?_
  refine n_get (N := 8) C dX2_next_1 iw2_next_X2 0 rfl rfl 7 (by decide) (List.mem_of_getElem? (i := 1) rfl) rfl rfl rfl ?_
  by_cases h4_0 : (oB.1 7) = (nI 0)
  · have hf := ip h4_0 hf
    refine n_tswIn (off := 48) (t := 52) C dX2_next_4 (by rw [h4_0]; decide) (by rw [h4_0]; decide) (by rw [h4_0]; decide) (by decide) ?_
    refine n_aload_n C dX2_next_52 0 rfl rfl ?_
    refine n_aload_n C dX2_next_53 0 rfl rfl ?_
    refine n_get (N := 8) C dX2_next_54 iw2_next_X2 0 rfl rfl 2 (by decide) (List.mem_of_getElem? (i := 2) rfl) rfl rfl rfl ?_
    refine n_iload_n C dX2_next_57 1 rfl rfl ?_
    refine n_iconst (v := (nI 1)) C dX2_next_58 (by decide) rfl ?_
    obtain ⟨z59, h59, hf⟩ := bi hf
    refine n_callV (As := [.ref (aB 3), .int x1, .int (nI 1)]) (rest := []) (w2 := bX2 cyI aB z59.2) C dX2_next_59 (c2_beginNumber_m l D cyI cyO cyJ aB n oB x1 (nI 1) z59 h59) (cwV 3 C.ts gX2_next_X2_beginNumber rfl rfl rfl (by decide +kernel) ⟨Nat.le_of_ble_eq_true rfl, Nat.le_of_ble_eq_true rfl⟩) rfl (q0 := 0) (ci := 2) rfl rfl Frm.self rfl (Nat.le_of_ble_eq_true rfl) ⟨Nat.le_of_ble_eq_true rfl, Nat.le_of_ble_eq_true rfl⟩ rfl ?_
    obtain rfl := Option.some.inj hf
    exact n_iret C dX2_next_62
  have hf := iq h4_0 hf
  by_cases h4_1 : (oB.1 7) = (nI 1)
  · have hf := ip h4_1 hf
    refine n_tswIn (off := 59) (t := 63) C dX2_next_4 (by rw [h4_1]; decide) (by rw [h4_1]; decide) (by rw [h4_1]; decide) (by decide) ?_
    refine n_iload_n C dX2_next_63 1 rfl rfl ?_
    refine n_bipush (v := (nI 61)) C dX2_next_64 (by decide) rfl ?_
    refine n_icmp_ne (t := 73) C dX2_next_66 (by decide) rfl (fun h66 => ?_) (fun h66 => ?_)
    · have hf := iq h66 hf
      refine n_aload_n C dX2_next_73 0 rfl rfl ?_
      refine n_aload_n C dX2_next_74 0 rfl rfl ?_
      refine n_get (N := 8) C dX2_next_75 iw2_next_X2 0 rfl rfl 2 (by decide) (List.mem_of_getElem? (i := 2) rfl) rfl rfl rfl ?_
      refine n_iload_n C dX2_next_78 1 rfl rfl ?_
      refine n_bipush (v := (nI 27)) C dX2_next_79 (by decide) rfl ?_
      obtain ⟨z81, h81, hf⟩ := bi hf
      refine n_callV (As := [.ref (aB 3), .int x1, .int (nI 27)]) (rest := []) (w2 := bX2 cyI aB z81.2) C dX2_next_81 (c2_growNumber_m l D cyI cyO cyJ aB n oB x1 (nI 27) z81 h81) (cwV 3 C.ts gX2_next_X2_growNumber rfl rfl rfl (by decide +kernel) ⟨Nat.le_of_ble_eq_true rfl, Nat.le_of_ble_eq_true rfl⟩) rfl (q0 := 0) (ci := 2) rfl rfl Frm.self rfl (Nat.le_of_ble_eq_true rfl) ⟨Nat.le_of_ble_eq_true rfl, Nat.le_of_ble_eq_true rfl⟩ rfl ?_
      obtain rfl := Option.some.inj hf
      exact n_iret C dX2_next_84
    · have hf := ip h66 hf
      refine n_iconst (v := (nI 2)) C dX2_next_69 (by decide) rfl ?_
      refine n_goto (t := 84) C dX2_next_70 (by decide) ?_
      obtain rfl := Option.some.inj hf
      exact n_iret C dX2_next_84
  have hf := iq h4_1 hf
  by_cases h4_2 : (oB.1 7) = (nI 2)
  · have hf := ip h4_2 hf
    refine n_tswIn (off := 81) (t := 85) C dX2_next_4 (by rw [h4_2]; decide) (by rw [h4_2]; decide) (by rw [h4_2]; decide) (by decide) ?_
    refine n_iload_n C dX2_next_85 1 rfl rfl ?_
    refine n_bipush (v := (nI 119)) C dX2_next_86 (by decide) rfl ?_
    refine n_icmp_ne (t := 96) C dX2_next_88 (by decide) rfl (fun h88 => ?_) (fun h88 => ?_)
    · have hf := iq h88 hf
      refine n_aload_n C dX2_next_96 0 rfl rfl ?_
      refine n_aload_n C dX2_next_97 0 rfl rfl ?_
      refine n_get (N := 8) C dX2_next_98 iw2_next_X2 0 rfl rfl 4 (by decide) (List.mem_of_getElem? (i := 3) rfl) rfl rfl rfl ?_
      refine n_iload_n C dX2_next_101 1 rfl rfl ?_
      refine n_iconst (v := (nI 3)) C dX2_next_102 (by decide) rfl ?_
      obtain ⟨z103, h103, hf⟩ := bi hf
      refine n_callV (As := [.ref (aB 5), .int x1, .int (nI 3)]) (rest := []) (w2 := bX2 cyI aB z103.2) C dX2_next_103 (c2_beginNumber_f l D cyI cyO cyJ aB n oB x1 (nI 3) z103 h103) (cwV 3 C.ts gX2_next_X2_beginNumber rfl rfl rfl (by decide +kernel) ⟨Nat.le_of_ble_eq_true rfl, Nat.le_of_ble_eq_true rfl⟩) rfl (q0 := 0) (ci := 2) rfl rfl Frm.self rfl (Nat.le_of_ble_eq_true rfl) ⟨Nat.le_of_ble_eq_true rfl, Nat.le_of_ble_eq_true rfl⟩ rfl ?_
      obtain rfl := Option.some.inj hf
      exact n_iret C dX2_next_106
    · have hf := ip h88 hf
      refine n_bipush (v := (nI 6)) C dX2_next_91 (by decide) rfl ?_
      refine n_goto (t := 106) C dX2_next_93 (by decide) ?_
      obtain rfl := Option.some.inj hf
      exact n_iret C dX2_next_106
  have hf := iq h4_2 hf
  by_cases h4_3 : (oB.1 7) = (nI 3)
  · have hf := ip h4_3 hf
    refine n_tswIn (off := 103) (t := 107) C dX2_next_4 (by rw [h4_3]; decide) (by rw [h4_3]; decide) (by rw [h4_3]; decide) (by decide) ?_
    refine n_iload_n C dX2_next_107 1 rfl rfl ?_
    refine n_bipush (v := (nI 58)) C dX2_next_108 (by decide) rfl ?_
    refine n_icmp_ne (t := 117) C dX2_next_110 (by decide) rfl (fun h110 => ?_) (fun h110 => ?_)
    · have hf := iq h110 hf
      refine n_aload_n C dX2_next_117 0 rfl rfl ?_
      refine n_aload_n C dX2_next_118 0 rfl rfl ?_
      refine n_get (N := 8) C dX2_next_119 iw2_next_X2 0 rfl rfl 4 (by decide) (List.mem_of_getElem? (i := 3) rfl) rfl rfl rfl ?_
      refine n_iload_n C dX2_next_122 1 rfl rfl ?_
      refine n_bipush (v := (nI 99)) C dX2_next_123 (by decide) rfl ?_
      obtain ⟨z125, h125, hf⟩ := bi hf
      refine n_callV (As := [.ref (aB 5), .int x1, .int (nI 99)]) (rest := []) (w2 := bX2 cyI aB z125.2) C dX2_next_125 (c2_growNumber_f l D cyI cyO cyJ aB n oB x1 (nI 99) z125 h125) (cwV 3 C.ts gX2_next_X2_growNumber rfl rfl rfl (by decide +kernel) ⟨Nat.le_of_ble_eq_true rfl, Nat.le_of_ble_eq_true rfl⟩) rfl (q0 := 0) (ci := 2) rfl rfl Frm.self rfl (Nat.le_of_ble_eq_true rfl) ⟨Nat.le_of_ble_eq_true rfl, Nat.le_of_ble_eq_true rfl⟩ rfl ?_
      obtain rfl := Option.some.inj hf
      exact n_iret C dX2_next_128
    · have hf := ip h110 hf
      refine n_iconst (v := (nI 4)) C dX2_next_113 (by decide) rfl ?_
      refine n_goto (t := 128) C dX2_next_114 (by decide) ?_
      obtain rfl := Option.some.inj hf
      exact n_iret C dX2_next_128
  have hf := iq h4_3 hf
  by_cases h4_4 : (oB.1 7) = (nI 4)
  · have hf := ip h4_4 hf
    refine n_tswIn (off := 125) (t := 129) C dX2_next_4 (by rw [h4_4]; decide) (by rw [h4_4]; decide) (by rw [h4_4]; decide) (by decide) ?_
    refine n_aload_n C dX2_next_129 0 rfl rfl ?_
    refine n_iload_n C dX2_next_130 1 rfl rfl ?_
    obtain ⟨z131, h131, hf⟩ := bi hf
    refine n_callV (As := [.int x1]) (rest := []) (w2 := bX2 cyI aB z131.2) C dX2_next_131 (c2_beginSecondScore l D cyI cyO cyJ aB n oB x1 z131 h131) (cwV 1 C.ts gX2_next_X2_beginSecondScore rfl rfl rfl (by decide +kernel) ⟨Nat.le_of_ble_eq_true rfl, Nat.le_of_ble_eq_true rfl⟩) rfl (q0 := 0) (ci := 2) rfl rfl Frm.self rfl (Nat.le_of_ble_eq_true rfl) ⟨Nat.le_of_ble_eq_true rfl, Nat.le_of_ble_eq_true rfl⟩ rfl ?_
    obtain rfl := Option.some.inj hf
    exact n_iret C dX2_next_134
  have hf := iq h4_4 hf
  by_cases h4_5 : (oB.1 7) = (nI 5)
  · have hf := ip h4_5 hf
    refine n_tswIn (off := 131) (t := 135) C dX2_next_4 (by rw [h4_5]; decide) (by rw [h4_5]; decide) (by rw [h4_5]; decide) (by decide) ?_
    refine n_iload_n C dX2_next_135 1 rfl rfl ?_
    refine n_bipush (v := (nI 59)) C dX2_next_136 (by decide) rfl ?_
    refine n_icmp_ne (t := 148) C dX2_next_138 (by decide) rfl (fun h138 => ?_) (fun h138 => ?_)
    · have hf := iq h138 hf
      refine n_aload_n C dX2_next_148 0 rfl rfl ?_
      refine n_aload_n C dX2_next_149 0 rfl rfl ?_
      refine n_get (N := 8) C dX2_next_150 iw2_next_X2 0 rfl rfl 5 (by decide) (List.mem_of_getElem? (i := 4) rfl) rfl rfl rfl ?_
      refine n_iload_n C dX2_next_153 1 rfl rfl ?_
      refine n_bipush (v := (nI 99)) C dX2_next_154 (by decide) rfl ?_
      obtain ⟨z156, h156, hf⟩ := bi hf
      refine n_callV (As := [.ref (aB 6), .int x1, .int (nI 99)]) (rest := []) (w2 := bX2 cyI aB z156.2) C dX2_next_156 (c2_growNumber_s l D cyI cyO cyJ aB n oB x1 (nI 99) z156 h156) (cwV 3 C.ts gX2_next_X2_growNumber rfl rfl rfl (by decide +kernel) ⟨Nat.le_of_ble_eq_true rfl, Nat.le_of_ble_eq_true rfl⟩) rfl (q0 := 0) (ci := 2) rfl rfl Frm.self rfl (Nat.le_of_ble_eq_true rfl) ⟨Nat.le_of_ble_eq_true rfl, Nat.le_of_ble_eq_true rfl⟩ rfl ?_
      obtain rfl := Option.some.inj hf
      exact n_iret C dX2_next_159
    · have hf := ip h138 hf
      refine n_aload_n C dX2_next_141 0 rfl rfl ?_
      obtain ⟨z142, h142, hf⟩ := bi hf
      refine n_callV (As := []) (rest := []) (w2 := bX2 cyI aB z142.2) C dX2_next_142 (c2_endPart l D cyI cyO cyJ aB n oB z142 h142) (cwV 0 C.ts gX2_next_X2_endPart rfl rfl rfl (by decide +kernel) ⟨Nat.le_of_ble_eq_true rfl, Nat.le_of_ble_eq_true rfl⟩) rfl (q0 := 0) (ci := 2) rfl rfl Frm.self rfl (Nat.le_of_ble_eq_true rfl) ⟨Nat.le_of_ble_eq_true rfl, Nat.le_of_ble_eq_true rfl⟩ rfl ?_
      refine n_goto (t := 159) C dX2_next_145 (by decide) ?_
      obtain rfl := Option.some.inj hf
      exact n_iret C dX2_next_159
  have hf := iq h4_5 hf
  by_cases h4_6 : (oB.1 7) = (nI 6)
  · have hf := ip h4_6 hf
    refine n_tswIn (off := 156) (t := 160) C dX2_next_4 (by rw [h4_6]; decide) (by rw [h4_6]; decide) (by rw [h4_6]; decide) (by decide) ?_
    refine n_aload_n C dX2_next_160 0 rfl rfl ?_
    refine n_iload_n C dX2_next_161 1 rfl rfl ?_
    obtain ⟨z162, h162, hf⟩ := bi hf
    refine n_callV (As := [.int x1]) (rest := []) (w2 := bX2 cyI aB z162.2) C dX2_next_162 (c2_takeGiver l D cyI cyO cyJ aB n oB x1 z162 h162) (cwV 1 C.ts gX2_next_X2_takeGiver rfl rfl rfl (by decide +kernel) ⟨Nat.le_of_ble_eq_true rfl, Nat.le_of_ble_eq_true rfl⟩) rfl (q0 := 0) (ci := 2) rfl rfl Frm.self rfl (Nat.le_of_ble_eq_true rfl) ⟨Nat.le_of_ble_eq_true rfl, Nat.le_of_ble_eq_true rfl⟩ rfl ?_
    obtain rfl := Option.some.inj hf
    exact n_iret C dX2_next_165
  have hf := iq h4_6 hf
  by_cases h4_7 : (oB.1 7) = (nI 7)
  · have hf := ip h4_7 hf
    refine n_tswIn (off := 162) (t := 166) C dX2_next_4 (by rw [h4_7]; decide) (by rw [h4_7]; decide) (by rw [h4_7]; decide) (by decide) ?_
    refine n_iload_n C dX2_next_166 1 rfl rfl ?_
    refine n_bipush (v := (nI 59)) C dX2_next_167 (by decide) rfl ?_
    refine n_icmp_ne (t := 179) C dX2_next_169 (by decide) rfl (fun h169 => ?_) (fun h169 => ?_)
    · have hf := iq h169 hf
      refine n_bipush (v := (nI 8)) C dX2_next_179 (by decide) rfl ?_
      obtain rfl := Option.some.inj hf
      exact n_iret C dX2_next_181
    · have hf := ip h169 hf
      refine n_aload_n C dX2_next_172 0 rfl rfl ?_
      obtain ⟨z173, h173, hf⟩ := bi hf
      refine n_callV (As := []) (rest := []) (w2 := bX2 cyI aB z173.2) C dX2_next_173 (c2_endPart l D cyI cyO cyJ aB n oB z173 h173) (cwV 0 C.ts gX2_next_X2_endPart rfl rfl rfl (by decide +kernel) ⟨Nat.le_of_ble_eq_true rfl, Nat.le_of_ble_eq_true rfl⟩) rfl (q0 := 0) (ci := 2) rfl rfl Frm.self rfl (Nat.le_of_ble_eq_true rfl) ⟨Nat.le_of_ble_eq_true rfl, Nat.le_of_ble_eq_true rfl⟩ rfl ?_
      refine n_goto (t := 181) C dX2_next_176 (by decide) ?_
      obtain rfl := Option.some.inj hf
      exact n_iret C dX2_next_181
  have hf := iq h4_7 hf
  refine n_tswOut (t := 182) C dX2_next_4 (tsw_out 0 8 (fun i hi => by rcases i with _|_|_|_|_|_|_|_|i <;> first | exact h4_0 | exact h4_1 | exact h4_2 | exact h4_3 | exact h4_4 | exact h4_5 | exact h4_6 | exact h4_7 | omega)) (by decide) ?_
  refine n_bipush (v := (nI 8)) C dX2_next_182 (by decide) rfl ?_
  obtain rfl := Option.some.inj hf
  exact n_iret C dX2_next_184
-- X2 read 
theorem iw2_read_X2 : ∀ w ∈ u_ws RX2 TX2 8, w ∈ wsX2_read := by decide +kernel
abbrev rm2_read : Room := { frames := 3, cells := 0, slots := 0, locals := 65 }
def f2_read_b71 (n : Nat) (oB : OB) : Option (Int32 × (OB)) :=
  some (oB.1 0, oB)
def f2_read_b51 (n : Nat) (k12 : Int32 → OB → Option (Int32 × (OB))) (k71 : OB → Option (Int32 × (OB))) (v1 : Int32) (s1 : Int32) (oB : OB) : Option (Int32 × (OB)) :=
  (some (gsi oB 7 s1)).bind fun oB_51 => (if (oB_51.1 7) = (nI 8) then some (v1, oB_51) else k12 (v1 + (nI 1)) oB_51)
def f2_read_b12 (n : Nat) (k71 : OB → Option (Int32 × (OB))) : Nat → Int32 → OB → Option (Int32 × (OB))
  | 0, _, _ => none
  | k + 1, v1, oB =>
    (if (oB.1 0) ≤ v1 then k71 oB else (if (nI 60) ≤ v1 then k71 oB else (if (nI 12) ≤ (oB.1 6) then f2_read_b51 n (f2_read_b12 n k71 k) k71 v1 (nI 8) oB else (ald 60 (oB.2 1) v1).bind fun x42 => (f2_next n oB x42).bind fun z43 => f2_read_b51 n (f2_read_b12 n k71 k) k71 v1 z43.1 z43.2)))
def f2_read (n : Nat) (oB : OB) : Option (Int32 × (OB)) :=
  (some (gsi oB 6 (nI 0))).bind fun oB_2 => (some (gsi oB_2 7 (nI 0))).bind fun oB_7 => f2_read_b12 n (fun oB => f2_read_b71 n oB) n (nI 0) oB_7
set_option maxHeartbeats 4000000 in
set_option maxRecDepth 100000 in
theorem t2_read_b71 {l : Launch} {p : Program} {e : Env} {s : State} {m : MethodId} {args : Array Value} {below : List Frame} {meth : Method} {c : Code} {D : va_G} {A : Nat → Prop} {cyI cyO cyJ : ClassId} {aB : Nat → Nat} (C : Cx p s m args meth c D (tyG cyI cyO cyJ) A RX2 cX2_read 2 (some .int) wsX2_read) {z : Int32 × (OB)} (n : Nat) (oB : OB) (hf : f2_read_b71 n oB = some z) : Wn p l e rm2_read s m args below meth c D A 2 0 0 (MQ below (Qr D (tyG cyI cyO cyJ) (bX2 cyI aB z.2) A (some (.int z.1))) args s 0 0 A) (bX2 cyI aB oB) 71 [(0, .ref (aB 0))] [] := by
  unfold f2_read_b71 at hf
  refine n_aload_n C dX2_read_71 0 rfl rfl ?_
  refine n_get (N := 8) C dX2_read_72 iw2_read_X2 0 rfl rfl 0 (by decide) (List.mem_of_getElem? (i := 3) rfl) rfl rfl rfl ?_
  obtain rfl := Option.some.inj hf
  exact n_iret C dX2_read_75
set_option maxHeartbeats 4000000 in
set_option maxRecDepth 100000 in
theorem t2_read_b51 {l : Launch} {p : Program} {e : Env} {s : State} {m : MethodId} {args : Array Value} {below : List Frame} {meth : Method} {c : Code} {D : va_G} {A : Nat → Prop} {cyI cyO cyJ : ClassId} {aB : Nat → Nat} (C : Cx p s m args meth c D (tyG cyI cyO cyJ) A RX2 cX2_read 2 (some .int) wsX2_read) {z : Int32 × (OB)} (n : Nat) {k12 : Int32 → OB → Option (Int32 × (OB))} {k71 : OB → Option (Int32 × (OB))} (hk12 : ∀ (v1 : Int32) (oB : OB), k12 v1 oB = some z → Wn p l e rm2_read s m args below meth c D A 2 0 0 (MQ below (Qr D (tyG cyI cyO cyJ) (bX2 cyI aB z.2) A (some (.int z.1))) args s 0 0 A) (bX2 cyI aB oB) 12 [(0, .ref (aB 0)), (1, .int v1)] []) (hk71 : ∀ (oB : OB), k71 oB = some z → Wn p l e rm2_read s m args below meth c D A 2 0 0 (MQ below (Qr D (tyG cyI cyO cyJ) (bX2 cyI aB z.2) A (some (.int z.1))) args s 0 0 A) (bX2 cyI aB oB) 71 [(0, .ref (aB 0))] []) (v1 : Int32) (s1 : Int32) (oB : OB) (hf : f2_read_b51 n k12 k71 v1 s1 oB = some z) : Wn p l e rm2_read s m args below meth c D A 2 0 0 (MQ below (Qr D (tyG cyI cyO cyJ) (bX2 cyI aB z.2) A (some (.int z.1))) args s 0 0 A) (bX2 cyI aB oB) 51 [(0, .ref (aB 0)), (1, .int v1)] [.int s1, .ref (aB 0)] := by
  unfold f2_read_b51 at hf
  obtain ⟨oB_51, e51, hf⟩ := bi hf
  replace e51 := Option.some.inj e51
  refine n_put (w2 := bX2 cyI aB oB_51) (N := 8) (ty := .int) C dX2_read_51 iw2_read_X2 tyX2_ok nmX2 0 rfl rfl 7 (by decide) (List.mem_of_getElem? (i := 2) rfl) rfl rfl (by decide +kernel) rfl rfl (Nat.le_of_ble_eq_true rfl) (by subst e51; rfl) rfl ?_
  refine n_aload_n C dX2_read_54 0 rfl rfl ?_
  refine n_get (N := 8) C dX2_read_55 iw2_read_X2 0 rfl rfl 7 (by decide) (List.mem_of_getElem? (i := 2) rfl) rfl rfl rfl ?_
  refine n_bipush (v := (nI 8)) C dX2_read_58 (by decide) rfl ?_
  refine n_icmp_ne (t := 65) C dX2_read_60 (by decide) rfl (fun h60 => ?_) (fun h60 => ?_)
  · have hf := iq h60 hf
    refine n_iinc (v := v1 + (nI 1)) (lv' := [(1, .int (v1 + (nI 1))), (0, .ref (aB 0))]) C dX2_read_65 (j := 1) rfl rfl (by decide) rfl rfl ?_
    refine n_goto (t := 12) C dX2_read_68 (by decide) ?_
    exact Wn.sub (lv' := [(0, .ref (aB 0)), (1, .int (v1 + (nI 1)))]) [1, 0] rfl (hk12 (v1 + (nI 1)) oB_51 hf)
  · have hf := ip h60 hf
    refine n_iload_n C dX2_read_63 1 rfl rfl ?_
    obtain rfl := Option.some.inj hf
    exact n_iret C dX2_read_64
set_option maxHeartbeats 4000000 in
set_option maxRecDepth 100000 in
theorem t2_read_b12 {l : Launch} {p : Program} {e : Env} {s : State} {m : MethodId} {args : Array Value} {below : List Frame} {meth : Method} {c : Code} {D : va_G} {A : Nat → Prop} {cyI cyO cyJ : ClassId} {aB : Nat → Nat} (C : Cx p s m args meth c D (tyG cyI cyO cyJ) A RX2 cX2_read 2 (some .int) wsX2_read) {z : Int32 × (OB)} (n : Nat) {k71 : OB → Option (Int32 × (OB))} (hk71 : ∀ (oB : OB), k71 oB = some z → Wn p l e rm2_read s m args below meth c D A 2 0 0 (MQ below (Qr D (tyG cyI cyO cyJ) (bX2 cyI aB z.2) A (some (.int z.1))) args s 0 0 A) (bX2 cyI aB oB) 71 [(0, .ref (aB 0))] []) : ∀ (k : Nat) (v1 : Int32) (oB : OB), f2_read_b12 n k71 k v1 oB = some z → Wn p l e rm2_read s m args below meth c D A 2 0 0 (MQ below (Qr D (tyG cyI cyO cyJ) (bX2 cyI aB z.2) A (some (.int z.1))) args s 0 0 A) (bX2 cyI aB oB) 12 [(0, .ref (aB 0)), (1, .int v1)] [] := by
  intro k
  induction k with
  | zero => intro  v1 oB hf; cases hf
  | succ k ih =>
    intro  v1 oB hf
    unfold f2_read_b12 at hf
    refine n_iload_n C dX2_read_12 1 rfl rfl ?_
    refine n_aload_n C dX2_read_13 0 rfl rfl ?_
    refine n_get (N := 8) C dX2_read_14 iw2_read_X2 0 rfl rfl 0 (by decide) (List.mem_of_getElem? (i := 3) rfl) rfl rfl rfl ?_
    refine n_icmp_ge (t := 71) C dX2_read_17 (by decide) rfl (fun h17 => ?_) (fun h17 => ?_)
    · have hf := ip h17 hf
      exact Wn.sub (lv' := [(0, .ref (aB 0))]) [0] rfl (hk71 oB hf)
    · have hf := iq h17 hf
      refine n_iload_n C dX2_read_20 1 rfl rfl ?_
      refine n_bipush (v := (nI 60)) C dX2_read_21 (by decide) rfl ?_
      refine n_icmp_ge (t := 71) C dX2_read_23 (by decide) rfl (fun h23 => ?_) (fun h23 => ?_)
      · have hf := ip h23 hf
        exact Wn.sub (lv' := [(0, .ref (aB 0))]) [0] rfl (hk71 oB hf)
      · have hf := iq h23 hf
        refine n_aload_n C dX2_read_26 0 rfl rfl ?_
        refine n_aload_n C dX2_read_27 0 rfl rfl ?_
        refine n_get (N := 8) C dX2_read_28 iw2_read_X2 0 rfl rfl 6 (by decide) (List.mem_of_getElem? (i := 1) rfl) rfl rfl rfl ?_
        refine n_bipush (v := (nI 12)) C dX2_read_31 (by decide) rfl ?_
        refine n_icmp_ge (t := 49) C dX2_read_33 (by decide) rfl (fun h33 => ?_) (fun h33 => ?_)
        · have hf := ip h33 hf
          refine n_bipush (v := (nI 8)) C dX2_read_49 (by decide) rfl ?_
          exact Wn.sub (lv' := [(0, .ref (aB 0)), (1, .int v1)]) [0, 1] rfl (t2_read_b51 C n ih hk71 v1 (nI 8) oB hf)
        · have hf := iq h33 hf
          refine n_aload_n C dX2_read_36 0 rfl rfl ?_
          refine n_aload_n C dX2_read_37 0 rfl rfl ?_
          refine n_get (N := 8) C dX2_read_38 iw2_read_X2 0 rfl rfl 1 (by decide) (List.mem_of_getElem? (i := 4) rfl) rfl rfl rfl ?_
          refine n_iload_n C dX2_read_41 1 rfl rfl ?_
          obtain ⟨x42, h42, hf⟩ := bi hf
          obtain ⟨h42, e42⟩ := ald_some h42
          refine n_iald C dX2_read_42 1 0 rfl rfl h42 rfl ?_
          rw [← e42]
          obtain ⟨z43, h43, hf⟩ := bi hf
          refine n_callV (As := [.int x42]) (rest := [.ref (aB 0)]) (w2 := bX2 cyI aB z43.2) C dX2_read_43 (c2_next l D cyI cyO cyJ aB n oB x42 z43 h43) (cwV 1 C.ts gX2_read_X2_next rfl rfl rfl (by decide +kernel) ⟨Nat.le_of_ble_eq_true rfl, Nat.le_of_ble_eq_true rfl⟩) rfl (q0 := 0) (ci := 2) rfl rfl Frm.self rfl (Nat.le_of_ble_eq_true rfl) ⟨Nat.le_of_ble_eq_true rfl, Nat.le_of_ble_eq_true rfl⟩ rfl ?_
          refine n_goto (t := 51) C dX2_read_46 (by decide) ?_
          exact Wn.sub (lv' := [(0, .ref (aB 0)), (1, .int v1)]) [0, 1] rfl (t2_read_b51 C n ih hk71 v1 z43.1 z43.2 hf)
set_option maxHeartbeats 4000000 in
set_option maxRecDepth 100000 in
theorem c2_read (l : Launch) (D : va_G) (cyI cyO cyJ : ClassId) (aB : Nat → Nat) (n : Nat) (oB : OB) (z : Int32 × (OB)) (hf : f2_read n oB = some z) : Ct l D (tyG cyI cyO cyJ) yX2_read wsX2_read rm2_read 0 0 [.ref (aB 0)] (bX2 cyI aB oB) (bX2 cyI aB z.2) (some (.int z.1)) := by
  refine Ct.of (cc := cX2_read) (nL := 2) (ret := (some .int)) (lv := [(0, .ref (aB 0))]) (by decide +kernel) rfl rfl (Nat.le_of_ble_eq_true rfl) ?_
  intro p e s m args below meth c A C
  have C : Cx p s m args meth c D (tyG cyI cyO cyJ) A RX2 cX2_read 2 (some .int) wsX2_read := C
  unfold f2_read at hf
  refine n_aload_n C dX2_read_0 0 rfl rfl ?_
  refine n_iconst (v := (nI 0)) C dX2_read_1 (by decide) rfl ?_
  obtain ⟨oB_2, e2, hf⟩ := bi hf
  replace e2 := Option.some.inj e2
  refine n_put (w2 := bX2 cyI aB oB_2) (N := 8) (ty := .int) C dX2_read_2 iw2_read_X2 tyX2_ok nmX2 0 rfl rfl 6 (by decide) (List.mem_of_getElem? (i := 1) rfl) rfl rfl (by decide +kernel) rfl rfl (Nat.le_of_ble_eq_true rfl) (by subst e2; rfl) rfl ?_
  refine n_aload_n C dX2_read_5 0 rfl rfl ?_
  refine n_iconst (v := (nI 0)) C dX2_read_6 (by decide) rfl ?_
  obtain ⟨oB_7, e7, hf⟩ := bi hf
  replace e7 := Option.some.inj e7
  refine n_put (w2 := bX2 cyI aB oB_7) (N := 8) (ty := .int) C dX2_read_7 iw2_read_X2 tyX2_ok nmX2 0 rfl rfl 7 (by decide) (List.mem_of_getElem? (i := 2) rfl) rfl rfl (by decide +kernel) rfl rfl (Nat.le_of_ble_eq_true rfl) (by subst e7; rfl) rfl ?_
  refine n_iconst (v := (nI 0)) C dX2_read_10 (by decide) rfl ?_
  refine n_istore_n (lv' := [(1, .int (nI 0)), (0, .ref (aB 0))]) C dX2_read_11 (by decide) rfl rfl ?_
  exact Wn.sub (lv' := [(0, .ref (aB 0)), (1, .int (nI 0))]) [1, 0] rfl (t2_read_b12 C n (fun oB hf => Wn.sub (lv' := [(0, .ref (aB 0))]) [0] rfl (t2_read_b71 C n oB hf)) n (nI 0) oB_7 hf)
-- X2 isComplete 
theorem iw2_isComplete_X2 : ∀ w ∈ u_ws RX2 TX2 8, w ∈ wsX2_isComplete := by decide +kernel
abbrev rm2_isComplete : Room := { frames := 0, cells := 0, slots := 0, locals := 0 }
def f2_isComplete (n : Nat) (oB : OB) : Option (Int32) :=
  (if (oB.1 7) = (nI 5) then some (nI 1) else (if (oB.1 7) = (nI 7) then some (nI 1) else some (nI 0)))
set_option maxHeartbeats 4000000 in
set_option maxRecDepth 100000 in
theorem c2_isComplete (l : Launch) (D : va_G) (cyI cyO cyJ : ClassId) (aB : Nat → Nat) (n : Nat) (oB : OB) (z : Int32) (hf : f2_isComplete n oB = some z) : Ct l D (tyG cyI cyO cyJ) yX2_isComplete wsX2_isComplete rm2_isComplete 0 0 [.ref (aB 0)] (bX2 cyI aB oB) (bX2 cyI aB oB) (some (.int z)) := by
  refine Ct.of (cc := cX2_isComplete) (nL := 1) (ret := (some .boolean)) (lv := [(0, .ref (aB 0))]) (by decide +kernel) rfl rfl (Nat.le_of_ble_eq_true rfl) ?_
  intro p e s m args below meth c A C
  have C : Cx p s m args meth c D (tyG cyI cyO cyJ) A RX2 cX2_isComplete 1 (some .boolean) wsX2_isComplete := C
  unfold f2_isComplete at hf
  refine n_aload_n C dX2_isComplete_0 0 rfl rfl ?_
  refine n_get (N := 8) C dX2_isComplete_1 iw2_isComplete_X2 0 rfl rfl 7 (by decide) (List.mem_of_getElem? (i := 1) rfl) rfl rfl rfl ?_
  refine n_iconst (v := (nI 5)) C dX2_isComplete_4 (by decide) rfl ?_
  refine n_icmp_eq (t := 17) C dX2_isComplete_5 (by decide) rfl (fun h5 => ?_) (fun h5 => ?_)
  · have hf := ip h5 hf
    refine n_iconst (v := (nI 1)) C dX2_isComplete_17 (by decide) rfl ?_
    refine n_goto (t := 22) C dX2_isComplete_18 (by decide) ?_
    obtain rfl := Option.some.inj hf
    exact n_zret C dX2_isComplete_22 (Or.inr rfl)
  · have hf := iq h5 hf
    refine n_aload_n C dX2_isComplete_8 0 rfl rfl ?_
    refine n_get (N := 8) C dX2_isComplete_9 iw2_isComplete_X2 0 rfl rfl 7 (by decide) (List.mem_of_getElem? (i := 1) rfl) rfl rfl rfl ?_
    refine n_bipush (v := (nI 7)) C dX2_isComplete_12 (by decide) rfl ?_
    refine n_icmp_ne (t := 21) C dX2_isComplete_14 (by decide) rfl (fun h14 => ?_) (fun h14 => ?_)
    · have hf := iq h14 hf
      refine n_iconst (v := (nI 0)) C dX2_isComplete_21 (by decide) rfl ?_
      obtain rfl := Option.some.inj hf
      exact n_zret C dX2_isComplete_22 (Or.inl rfl)
    · have hf := ip h14 hf
      refine n_iconst (v := (nI 1)) C dX2_isComplete_17 (by decide) rfl ?_
      refine n_goto (t := 22) C dX2_isComplete_18 (by decide) ?_
      obtain rfl := Option.some.inj hf
      exact n_zret C dX2_isComplete_22 (Or.inr rfl)
-- X2 parts 
theorem iw2_parts_X2 : ∀ w ∈ u_ws RX2 TX2 8, w ∈ wsX2_parts := by decide +kernel
abbrev rm2_parts : Room := { frames := 1, cells := 0, slots := 0, locals := 21 }
def f2_parts (n : Nat) (oB : OB) : Option (Int32) :=
  (f2_isComplete n oB).bind fun z1 => (if z1 = (0 : Int32) then some (nI 0) else (some (if (nI 12) < ((oB.1 6) + (nI 1)) then (nI 12) else ((oB.1 6) + (nI 1)))).bind fun x15 => some x15)
set_option maxHeartbeats 4000000 in
set_option maxRecDepth 100000 in
theorem c2_parts (l : Launch) (D : va_G) (cyI cyO cyJ : ClassId) (aB : Nat → Nat) (n : Nat) (oB : OB) (z : Int32) (hf : f2_parts n oB = some z) : Ct l D (tyG cyI cyO cyJ) yX2_parts wsX2_parts rm2_parts 0 0 [.ref (aB 0)] (bX2 cyI aB oB) (bX2 cyI aB oB) (some (.int z)) := by
  refine Ct.of (cc := cX2_parts) (nL := 1) (ret := (some .int)) (lv := [(0, .ref (aB 0))]) (by decide +kernel) rfl rfl (Nat.le_of_ble_eq_true rfl) ?_
  intro p e s m args below meth c A C
  have C : Cx p s m args meth c D (tyG cyI cyO cyJ) A RX2 cX2_parts 1 (some .int) wsX2_parts := C
  unfold f2_parts at hf
  refine n_aload_n C dX2_parts_0 0 rfl rfl ?_
  obtain ⟨z1, h1, hf⟩ := bi hf
  refine n_callV (As := []) (rest := []) (w2 := bX2 cyI aB oB) C dX2_parts_1 (c2_isComplete l D cyI cyO cyJ aB n oB z1 h1) (cwV 0 C.ts gX2_parts_X2_isComplete rfl rfl rfl (by decide +kernel) ⟨Nat.le_of_ble_eq_true rfl, Nat.le_of_ble_eq_true rfl⟩) rfl (q0 := 0) (ci := 2) rfl rfl Frm.self rfl (Nat.le_of_ble_eq_true rfl) ⟨Nat.le_of_ble_eq_true rfl, Nat.le_of_ble_eq_true rfl⟩ rfl ?_
  refine n_if_eq (t := 21) C dX2_parts_4 (by decide) rfl (fun h4 => ?_) (fun h4 => ?_)
  · have hf := ip h4 hf
    refine n_iconst (v := (nI 0)) C dX2_parts_21 (by decide) rfl ?_
    obtain rfl := Option.some.inj hf
    exact n_iret C dX2_parts_22
  · have hf := iq h4 hf
    refine n_aload_n C dX2_parts_7 0 rfl rfl ?_
    refine n_get (N := 8) C dX2_parts_8 iw2_parts_X2 0 rfl rfl 6 (by decide) (List.mem_of_getElem? (i := 1) rfl) rfl rfl rfl ?_
    refine n_iconst (v := (nI 1)) C dX2_parts_11 (by decide) rfl ?_
    refine n_iadd C dX2_parts_12 rfl ?_
    refine n_bipush (v := (nI 12)) C dX2_parts_13 (by decide) rfl ?_
    refine n_mmin C dX2_parts_15 (List.mem_of_getElem? (i := 2) rfl) (List.mem_of_getElem? (i := 3) rfl) (List.mem_of_getElem? (i := 4) rfl) (List.mem_of_getElem? (i := 5) rfl) (Nat.le_of_ble_eq_true rfl) (Nat.le_of_ble_eq_true rfl) ⟨Nat.zero_le _, Nat.zero_le _⟩ rfl ?_
    obtain ⟨x15, e15, hf⟩ := bi hf
    rw [Option.some.inj e15]
    refine n_goto (t := 22) C dX2_parts_18 (by decide) ?_
    obtain rfl := Option.some.inj hf
    exact n_iret C dX2_parts_22
