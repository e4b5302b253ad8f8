abbrev bX4 (cyI : ClassId) (a : Nat → Nat) (o : OB) : va_W := [(a 0, .inr (4, [.int (o.1 0), .ref (a 2), .ref (a 3), .ref (a 4), .ref (a 5), .ref (a 6), .ref (a 7), .ref (a 8), .ref (a 9)])), (a 2, .inl (cyI, 8, .inl (o.2 1))), (a 3, .inl (cyI, 8, .inl (o.2 2))), (a 4, .inl (cyI, 8, .inl (o.2 3))), (a 5, .inl (cyI, 8, .inl (o.2 4))), (a 6, .inl (cyI, 8, .inl (o.2 5))), (a 7, .inl (cyI, 8, .inl (o.2 6))), (a 8, .inl (cyI, 8, .inl (o.2 7))), (a 9, .inl (cyI, 8, .inl (o.2 8)))]
-- X4 hasTeam 
theorem iw4_hasTeam_X4 : ∀ w ∈ u_ws RX4 TX4 9, w ∈ wsX4_hasTeam := by decide +kernel
abbrev rm4_hasTeam : Room := { frames := 0, cells := 0, slots := 0, locals := 0 }
def f4_hasTeam (n : Nat) (oS : OB) (x1 : Int32) : Option (Int32) :=
  (if x1 < (0 : Int32) then some (nI 0) else (if (oS.1 0) ≤ x1 then some (nI 0) else some (nI 1)))
set_option maxHeartbeats 4000000 in
set_option maxRecDepth 100000 in
theorem c4_hasTeam (l : Launch) (D : va_G) (cyI cyO cyJ : ClassId) (aS : Nat → Nat) (n : Nat) (oS : OB) (x1 : Int32) (z : Int32) (hf : f4_hasTeam n oS x1 = some z) : Ct l D (tyG cyI cyO cyJ) yX4_hasTeam wsX4_hasTeam rm4_hasTeam 0 0 [.ref (aS 0), .int x1] (bX4 cyI aS oS) (bX4 cyI aS oS) (some (.int z)) := by
  refine Ct.of (cc := cX4_hasTeam) (nL := 2) (ret := (some .boolean)) (lv := [(0, .ref (aS 0)), (1, .int x1)]) (by decide +kernel) rfl rfl (Nat.le_of_ble_eq_true rfl) ?_
  intro p e s m args below meth c A C
  have C : Cx p s m args meth c D (tyG cyI cyO cyJ) A RX4 cX4_hasTeam 2 (some .boolean) wsX4_hasTeam := C
  unfold f4_hasTeam at hf
  refine n_iload_n C dX4_hasTeam_0 1 rfl rfl ?_
  refine n_if_lt (t := 16) C dX4_hasTeam_1 (by decide) rfl (fun h1 => ?_) (fun h1 => ?_)
  · have hf := ip h1 hf
    refine n_iconst (v := (nI 0)) C dX4_hasTeam_16 (by decide) rfl ?_
    obtain rfl := Option.some.inj hf
    exact n_zret C dX4_hasTeam_17 (Or.inl rfl)
  · have hf := iq h1 hf
    refine n_iload_n C dX4_hasTeam_4 1 rfl rfl ?_
    refine n_aload_n C dX4_hasTeam_5 0 rfl rfl ?_
    refine n_get (N := 9) C dX4_hasTeam_6 iw4_hasTeam_X4 0 rfl rfl 0 (by decide) (List.mem_of_getElem? (i := 1) rfl) rfl rfl rfl ?_
    refine n_icmp_ge (t := 16) C dX4_hasTeam_9 (by decide) rfl (fun h9 => ?_) (fun h9 => ?_)
    · have hf := ip h9 hf
      refine n_iconst (v := (nI 0)) C dX4_hasTeam_16 (by decide) rfl ?_
      obtain rfl := Option.some.inj hf
      exact n_zret C dX4_hasTeam_17 (Or.inl rfl)
    · have hf := iq h9 hf
      refine n_iconst (v := (nI 1)) C dX4_hasTeam_12 (by decide) rfl ?_
      refine n_goto (t := 17) C dX4_hasTeam_13 (by decide) ?_
      obtain rfl := Option.some.inj hf
      exact n_zret C dX4_hasTeam_17 (Or.inr rfl)
-- X4 addScores 
theorem iw4_addScores_X1 : ∀ w ∈ u_ws RX1 TX1 15, w ∈ wsX4_addScores := by decide +kernel
theorem iw4_addScores_X4 : ∀ w ∈ u_ws RX4 TX4 9, w ∈ wsX4_addScores := by decide +kernel
abbrev rm4_addScores : Room := { frames := 1, cells := 0, slots := 0, locals := 21 }
def f4_addScores (n : Nat) (oS : OB) (oL : OB) (x2 : Int32) (x3 : Int32) (x4 : Int32) : Option ((OB)) :=
  (f4_hasTeam n oS x2).bind fun z2 => (if z2 = (0 : Int32) then some oS else (ald 8 (oS.2 2) x2).bind fun x15 => (oast oS 2 8 x2 (x15 + (nI 1))).bind fun oS_18 => (ald 8 (oS_18.2 5) x2).bind fun x25 => (oast oS_18 5 8 x2 (x25 + x3)).bind fun oS_28 => (ald 8 (oS_28.2 6) x2).bind fun x35 => (oast oS_28 6 8 x2 (x35 + x4)).bind fun oS_39 => (if x3 ≤ x4 then (if x3 = x4 then (ald 8 (oS_39.2 4) x2).bind fun x86 => (oast oS_39 4 8 x2 (x86 + (nI 1))).bind fun oS_89 => (ald 8 (oS_89.2 1) x2).bind fun x96 => (ald 4 (oL.2 3) (nI 1)).bind fun x102 => (oast oS_89 1 8 x2 (x96 + x102)).bind fun oS_104 => some oS_104 else some oS_39) else (ald 8 (oS_39.2 3) x2).bind fun x52 => (oast oS_39 3 8 x2 (x52 + (nI 1))).bind fun oS_55 => (ald 8 (oS_55.2 1) x2).bind fun x62 => (ald 4 (oL.2 3) (nI 0)).bind fun x68 => (oast oS_55 1 8 x2 (x62 + x68)).bind fun oS_70 => some oS_70))
set_option maxHeartbeats 4000000 in
set_option maxRecDepth 100000 in
theorem c4_addScores (l : Launch) (D : va_G) (cyI cyO cyJ : ClassId) (aS : Nat → Nat) (aL : Nat → Nat) (n : Nat) (oS : OB) (oL : OB) (x2 : Int32) (x3 : Int32) (x4 : Int32) (z : (OB)) (hf : f4_addScores n oS oL x2 x3 x4 = some z) : Ct l D (tyG cyI cyO cyJ) yX4_addScores wsX4_addScores rm4_addScores 0 0 [.ref (aS 0), .ref (aL 0), .int x2, .int x3, .int x4] (bX4 cyI aS oS ++ bX1 cyI aL oL) (bX4 cyI aS z ++ bX1 cyI aL oL) none := by
  refine Ct.of (cc := cX4_addScores) (nL := 5) (ret := none) (lv := [(0, .ref (aS 0)), (1, .ref (aL 0)), (2, .int x2), (3, .int x3), (4, .int x4)]) (by decide +kernel) rfl rfl (Nat.le_of_ble_eq_true rfl) ?_
  intro p e s m args below meth c A C
  have C : Cx p s m args meth c D (tyG cyI cyO cyJ) A RX4 cX4_addScores 5 none wsX4_addScores := C
  unfold f4_addScores at hf
  refine n_aload_n C dX4_addScores_0 0 rfl rfl ?_
  refine n_iload_n C dX4_addScores_1 2 rfl rfl ?_
  obtain ⟨z2, h2, hf⟩ := bi hf
  refine n_callV (As := [.int x2]) (rest := []) (w2 := bX4 cyI aS oS ++ bX1 cyI aL oL) C dX4_addScores_2 (c4_hasTeam l D cyI cyO cyJ aS n oS x2 z2 h2) (cwV 1 C.ts gX4_addScores_X4_hasTeam rfl rfl rfl (by decide +kernel) ⟨Nat.le_of_ble_eq_true rfl, Nat.le_of_ble_eq_true rfl⟩) rfl (q0 := 0) (ci := 4) rfl rfl Frm.here rfl (Nat.le_of_ble_eq_true rfl) ⟨Nat.le_of_ble_eq_true rfl, Nat.le_of_ble_eq_true rfl⟩ rfl ?_
  refine n_if_ne (t := 9) C dX4_addScores_5 (by decide) rfl (fun h5 => ?_) (fun h5 => ?_)
  · have hf := iq h5 hf
    refine n_aload_n C dX4_addScores_9 0 rfl rfl ?_
    refine n_get (N := 9) C dX4_addScores_10 iw4_addScores_X4 0 rfl rfl 2 (by decide) (List.mem_of_getElem? (i := 1) rfl) rfl rfl rfl ?_
    refine n_iload_n C dX4_addScores_13 2 rfl rfl ?_
    refine n_dup2 C dX4_addScores_14 rfl rfl rfl ?_
    obtain ⟨x15, h15, hf⟩ := bi hf
    obtain ⟨h15, e15⟩ := ald_some h15
    refine n_iald C dX4_addScores_15 2 0 rfl rfl h15 rfl ?_
    rw [← e15]
    refine n_iconst (v := (nI 1)) C dX4_addScores_16 (by decide) rfl ?_
    refine n_iadd C dX4_addScores_17 rfl ?_
    obtain ⟨oS_18, h18, hf⟩ := bi hf
    obtain ⟨h18, e18⟩ := oast_some h18
    refine n_iast (w2 := bX4 cyI aS oS_18 ++ bX1 cyI aL oL) C dX4_addScores_18 2 0 rfl rfl h18 (by subst e18; rfl) rfl ?_
    refine n_aload_n C dX4_addScores_19 0 rfl rfl ?_
    refine n_get (N := 9) C dX4_addScores_20 iw4_addScores_X4 0 rfl rfl 5 (by decide) (List.mem_of_getElem? (i := 2) rfl) rfl rfl rfl ?_
    refine n_iload_n C dX4_addScores_23 2 rfl rfl ?_
    refine n_dup2 C dX4_addScores_24 rfl rfl rfl ?_
    obtain ⟨x25, h25, hf⟩ := bi hf
    obtain ⟨h25, e25⟩ := ald_some h25
    refine n_iald C dX4_addScores_25 5 0 rfl rfl h25 rfl ?_
    rw [← e25]
    refine n_iload_n C dX4_addScores_26 3 rfl rfl ?_
    refine n_iadd C dX4_addScores_27 rfl ?_
    obtain ⟨oS_28, h28, hf⟩ := bi hf
    obtain ⟨h28, e28⟩ := oast_some h28
    refine n_iast (w2 := bX4 cyI aS oS_28 ++ bX1 cyI aL oL) C dX4_addScores_28 5 0 rfl rfl h28 (by subst e28; rfl) rfl ?_
    refine n_aload_n C dX4_addScores_29 0 rfl rfl ?_
    refine n_get (N := 9) C dX4_addScores_30 iw4_addScores_X4 0 rfl rfl 6 (by decide) (List.mem_of_getElem? (i := 3) rfl) rfl rfl rfl ?_
    refine n_iload_n C dX4_addScores_33 2 rfl rfl ?_
    refine n_dup2 C dX4_addScores_34 rfl rfl rfl ?_
    obtain ⟨x35, h35, hf⟩ := bi hf
    obtain ⟨h35, e35⟩ := ald_some h35
    refine n_iald C dX4_addScores_35 6 0 rfl rfl h35 rfl ?_
    rw [← e35]
    refine n_iload C dX4_addScores_36 4 rfl rfl ?_
    refine n_iadd C dX4_addScores_38 rfl ?_
    obtain ⟨oS_39, h39, hf⟩ := bi hf
    obtain ⟨h39, e39⟩ := oast_some h39
    refine n_iast (w2 := bX4 cyI aS oS_39 ++ bX1 cyI aL oL) C dX4_addScores_39 6 0 rfl rfl h39 (by subst e39; rfl) rfl ?_
    refine n_iload_n C dX4_addScores_40 3 rfl rfl ?_
    refine n_iload C dX4_addScores_41 4 rfl rfl ?_
    refine n_icmp_le (t := 74) C dX4_addScores_43 (by decide) rfl (fun h43 => ?_) (fun h43 => ?_)
    · have hf := ip h43 hf
      refine n_iload_n C dX4_addScores_74 3 rfl rfl ?_
      refine n_iload C dX4_addScores_75 4 rfl rfl ?_
      refine n_icmp_ne (t := 105) C dX4_addScores_77 (by decide) rfl (fun h77 => ?_) (fun h77 => ?_)
      · have hf := iq h77 hf
        obtain rfl := Option.some.inj hf
        exact n_vret C dX4_addScores_105
      · have hf := ip h77 hf
        refine n_aload_n C dX4_addScores_80 0 rfl rfl ?_
        refine n_get (N := 9) C dX4_addScores_81 iw4_addScores_X4 0 rfl rfl 4 (by decide) (List.mem_of_getElem? (i := 7) rfl) rfl rfl rfl ?_
        refine n_iload_n C dX4_addScores_84 2 rfl rfl ?_
        refine n_dup2 C dX4_addScores_85 rfl rfl rfl ?_
        obtain ⟨x86, h86, hf⟩ := bi hf
        obtain ⟨h86, e86⟩ := ald_some h86
        refine n_iald C dX4_addScores_86 4 0 rfl rfl h86 rfl ?_
        rw [← e86]
        refine n_iconst (v := (nI 1)) C dX4_addScores_87 (by decide) rfl ?_
        refine n_iadd C dX4_addScores_88 rfl ?_
        obtain ⟨oS_89, h89, hf⟩ := bi hf
        obtain ⟨h89, e89⟩ := oast_some h89
        refine n_iast (w2 := bX4 cyI aS oS_89 ++ bX1 cyI aL oL) C dX4_addScores_89 4 0 rfl rfl h89 (by subst e89; rfl) rfl ?_
        refine n_aload_n C dX4_addScores_90 0 rfl rfl ?_
        refine n_get (N := 9) C dX4_addScores_91 iw4_addScores_X4 0 rfl rfl 1 (by decide) (List.mem_of_getElem? (i := 5) rfl) rfl rfl rfl ?_
        refine n_iload_n C dX4_addScores_94 2 rfl rfl ?_
        refine n_dup2 C dX4_addScores_95 rfl rfl rfl ?_
        obtain ⟨x96, h96, hf⟩ := bi hf
        obtain ⟨h96, e96⟩ := ald_some h96
        refine n_iald C dX4_addScores_96 1 0 rfl rfl h96 rfl ?_
        rw [← e96]
        refine n_aload_n C dX4_addScores_97 1 rfl rfl ?_
        refine n_get (N := 15) C dX4_addScores_98 iw4_addScores_X1 9 rfl rfl 3 (by decide) (List.mem_of_getElem? (i := 6) rfl) rfl rfl rfl ?_
        refine n_iconst (v := (nI 1)) C dX4_addScores_101 (by decide) rfl ?_
        obtain ⟨x102, h102, hf⟩ := bi hf
        obtain ⟨h102, e102⟩ := ald_some h102
        refine n_iald C dX4_addScores_102 10 0 rfl rfl h102 rfl ?_
        rw [← e102]
        refine n_iadd C dX4_addScores_103 rfl ?_
        obtain ⟨oS_104, h104, hf⟩ := bi hf
        obtain ⟨h104, e104⟩ := oast_some h104
        refine n_iast (w2 := bX4 cyI aS oS_104 ++ bX1 cyI aL oL) C dX4_addScores_104 1 0 rfl rfl h104 (by subst e104; rfl) rfl ?_
        obtain rfl := Option.some.inj hf
        exact n_vret C dX4_addScores_105
    · have hf := iq h43 hf
      refine n_aload_n C dX4_addScores_46 0 rfl rfl ?_
      refine n_get (N := 9) C dX4_addScores_47 iw4_addScores_X4 0 rfl rfl 3 (by decide) (List.mem_of_getElem? (i := 4) rfl) rfl rfl rfl ?_
      refine n_iload_n C dX4_addScores_50 2 rfl rfl ?_
      refine n_dup2 C dX4_addScores_51 rfl rfl rfl ?_
      obtain ⟨x52, h52, hf⟩ := bi hf
      obtain ⟨h52, e52⟩ := ald_some h52
      refine n_iald C dX4_addScores_52 3 0 rfl rfl h52 rfl ?_
      rw [← e52]
      refine n_iconst (v := (nI 1)) C dX4_addScores_53 (by decide) rfl ?_
      refine n_iadd C dX4_addScores_54 rfl ?_
      obtain ⟨oS_55, h55, hf⟩ := bi hf
      obtain ⟨h55, e55⟩ := oast_some h55
      refine n_iast (w2 := bX4 cyI aS oS_55 ++ bX1 cyI aL oL) C dX4_addScores_55 3 0 rfl rfl h55 (by subst e55; rfl) rfl ?_
      refine n_aload_n C dX4_addScores_56 0 rfl rfl ?_
      refine n_get (N := 9) C dX4_addScores_57 iw4_addScores_X4 0 rfl rfl 1 (by decide) (List.mem_of_getElem? (i := 5) rfl) rfl rfl rfl ?_
      refine n_iload_n C dX4_addScores_60 2 rfl rfl ?_
      refine n_dup2 C dX4_addScores_61 rfl rfl rfl ?_
      obtain ⟨x62, h62, hf⟩ := bi hf
      obtain ⟨h62, e62⟩ := ald_some h62
      refine n_iald C dX4_addScores_62 1 0 rfl rfl h62 rfl ?_
      rw [← e62]
      refine n_aload_n C dX4_addScores_63 1 rfl rfl ?_
      refine n_get (N := 15) C dX4_addScores_64 iw4_addScores_X1 9 rfl rfl 3 (by decide) (List.mem_of_getElem? (i := 6) rfl) rfl rfl rfl ?_
      refine n_iconst (v := (nI 0)) C dX4_addScores_67 (by decide) rfl ?_
      obtain ⟨x68, h68, hf⟩ := bi hf
      obtain ⟨h68, e68⟩ := ald_some h68
      refine n_iald C dX4_addScores_68 10 0 rfl rfl h68 rfl ?_
      rw [← e68]
      refine n_iadd C dX4_addScores_69 rfl ?_
      obtain ⟨oS_70, h70, hf⟩ := bi hf
      obtain ⟨h70, e70⟩ := oast_some h70
      refine n_iast (w2 := bX4 cyI aS oS_70 ++ bX1 cyI aL oL) C dX4_addScores_70 1 0 rfl rfl h70 (by subst e70; rfl) rfl ?_
      refine n_goto (t := 105) C dX4_addScores_71 (by decide) ?_
      obtain rfl := Option.some.inj hf
      exact n_vret C dX4_addScores_105
  · have hf := ip h5 hf
    obtain rfl := Option.some.inj hf
    exact n_vret C dX4_addScores_8
-- X4 addOneSide 
theorem iw4_addOneSide_X1 : ∀ w ∈ u_ws RX1 TX1 15, w ∈ wsX4_addOneSide := by decide +kernel
theorem iw4_addOneSide_X4 : ∀ w ∈ u_ws RX4 TX4 9, w ∈ wsX4_addOneSide := by decide +kernel
abbrev rm4_addOneSide : Room := { frames := 2, cells := 0, slots := 0, locals := 45 }
def f4_addOneSide_b94 (n : Nat) (oL : OB) (x2 : Int32) (x3 : Int32) (v4 : Int32) (s0 : Int32) (s1 : Int32) (oS : OB) : Option ((OB)) :=
  (if s0 = s1 then (ald 8 (oS.2 7) v4).bind fun x104 => (oast oS 7 8 v4 (x104 + (nI 1))).bind fun oS_107 => (ald 8 (oS_107.2 1) v4).bind fun x115 => (oast oS_107 1 8 v4 (x115 - (nI 1))).bind fun oS_118 => some oS_118 else some oS)
def f4_addOneSide_b77 (n : Nat) (oL : OB) (x2 : Int32) (x3 : Int32) (v4 : Int32) (v5 : Int32) (s2 : Int32) (s3 : Int32) (s5 : Int32) (s6 : Int32) (oS : OB) : Option ((OB)) :=
  (f1_scoreOf n oL s5 s6).bind fun z77 => (f4_addScores n oS oL s2 s3 z77).bind fun z80 => (if x3 = (0 : Int32) then f4_addOneSide_b94 n oL x2 x3 v4 v5 (nI 2) z80 else f4_addOneSide_b94 n oL x2 x3 v4 v5 (nI 3) z80)
def f4_addOneSide_b19 (n : Nat) (oL : OB) (x2 : Int32) (x3 : Int32) (s0 : Int32) (oS : OB) : Option ((OB)) :=
  (f4_hasTeam n oS s0).bind fun z24 => (if z24 = (0 : Int32) then some oS else (ald 28 (oL.2 12) x2).bind fun x36 => (if x36 = (0 : Int32) then (ald 8 (oS.2 8) s0).bind fun x51 => (oast oS 8 8 s0 (x51 + (nI 1))).bind fun oS_54 => some oS_54 else (f1_scoreOf n oL x2 x3).bind fun z63 => (if x3 = (0 : Int32) then f4_addOneSide_b77 n oL x2 x3 s0 x36 s0 z63 x2 (nI 1) oS else f4_addOneSide_b77 n oL x2 x3 s0 x36 s0 z63 x2 (nI 0) oS)))
def f4_addOneSide (n : Nat) (oS : OB) (oL : OB) (x2 : Int32) (x3 : Int32) : Option ((OB)) :=
  (if x3 = (0 : Int32) then (ald 28 (oL.2 7) x2).bind fun x18 => f4_addOneSide_b19 n oL x2 x3 x18 oS else (ald 28 (oL.2 8) x2).bind fun x9 => f4_addOneSide_b19 n oL x2 x3 x9 oS)
set_option maxHeartbeats 4000000 in
set_option maxRecDepth 100000 in
theorem t4_addOneSide_b94 {l : Launch} {p : Program} {e : Env} {s : State} {m : MethodId} {args : Array Value} {below : List Frame} {meth : Method} {c : Code} {D : va_G} {A : Nat → Prop} {cyI cyO cyJ : ClassId} {aS : Nat → Nat} {aL : Nat → Nat} (C : Cx p s m args meth c D (tyG cyI cyO cyJ) A RX4 cX4_addOneSide 6 none wsX4_addOneSide) {z : (OB)} (n : Nat) (oL : OB) (x2 : Int32) (x3 : Int32) (v4 : Int32) (s0 : Int32) (s1 : Int32) (oS : OB) (hf : f4_addOneSide_b94 n oL x2 x3 v4 s0 s1 oS = some z) : Wn p l e rm4_addOneSide s m args below meth c D A 6 0 0 (MQ below (Qr D (tyG cyI cyO cyJ) (bX4 cyI aS z ++ bX1 cyI aL oL) A none) args s 0 0 A) (bX4 cyI aS oS ++ bX1 cyI aL oL) 94 [(0, .ref (aS 0)), (4, .int v4)] [.int s1, .int s0] := by
  unfold f4_addOneSide_b94 at hf
  refine n_icmp_ne (t := 119) C dX4_addOneSide_94 (by decide) rfl (fun h94 => ?_) (fun h94 => ?_)
  · have hf := iq h94 hf
    obtain rfl := Option.some.inj hf
    exact n_vret C dX4_addOneSide_119
  · have hf := ip h94 hf
    refine n_aload_n C dX4_addOneSide_97 0 rfl rfl ?_
    refine n_get (N := 9) C dX4_addOneSide_98 iw4_addOneSide_X4 0 rfl rfl 7 (by decide) (List.mem_of_getElem? (i := 5) rfl) rfl rfl rfl ?_
    refine n_iload C dX4_addOneSide_101 1 rfl rfl ?_
    refine n_dup2 C dX4_addOneSide_103 rfl rfl rfl ?_
    obtain ⟨x104, h104, hf⟩ := bi hf
    obtain ⟨h104, e104⟩ := ald_some h104
    refine n_iald C dX4_addOneSide_104 7 0 rfl rfl h104 rfl ?_
    rw [← e104]
    refine n_iconst (v := (nI 1)) C dX4_addOneSide_105 (by decide) rfl ?_
    refine n_iadd C dX4_addOneSide_106 rfl ?_
    obtain ⟨oS_107, h107, hf⟩ := bi hf
    obtain ⟨h107, e107⟩ := oast_some h107
    refine n_iast (w2 := bX4 cyI aS oS_107 ++ bX1 cyI aL oL) C dX4_addOneSide_107 7 0 rfl rfl h107 (by subst e107; rfl) rfl ?_
    refine n_aload_n C dX4_addOneSide_108 0 rfl rfl ?_
    refine n_get (N := 9) C dX4_addOneSide_109 iw4_addOneSide_X4 0 rfl rfl 1 (by decide) (List.mem_of_getElem? (i := 6) rfl) rfl rfl rfl ?_
    refine n_iload C dX4_addOneSide_112 1 rfl rfl ?_
    refine n_dup2 C dX4_addOneSide_114 rfl rfl rfl ?_
    obtain ⟨x115, h115, hf⟩ := bi hf
    obtain ⟨h115, e115⟩ := ald_some h115
    refine n_iald C dX4_addOneSide_115 1 0 rfl rfl h115 rfl ?_
    rw [← e115]
    refine n_iconst (v := (nI 1)) C dX4_addOneSide_116 (by decide) rfl ?_
    refine n_isub C dX4_addOneSide_117 rfl ?_
    obtain ⟨oS_118, h118, hf⟩ := bi hf
    obtain ⟨h118, e118⟩ := oast_some h118
    refine n_iast (w2 := bX4 cyI aS oS_118 ++ bX1 cyI aL oL) C dX4_addOneSide_118 1 0 rfl rfl h118 (by subst e118; rfl) rfl ?_
    obtain rfl := Option.some.inj hf
    exact n_vret C dX4_addOneSide_119
set_option maxHeartbeats 4000000 in
set_option maxRecDepth 100000 in
theorem t4_addOneSide_b77 {l : Launch} {p : Program} {e : Env} {s : State} {m : MethodId} {args : Array Value} {below : List Frame} {meth : Method} {c : Code} {D : va_G} {A : Nat → Prop} {cyI cyO cyJ : ClassId} {aS : Nat → Nat} {aL : Nat → Nat} (C : Cx p s m args meth c D (tyG cyI cyO cyJ) A RX4 cX4_addOneSide 6 none wsX4_addOneSide) {z : (OB)} (n : Nat) (oL : OB) (x2 : Int32) (x3 : Int32) (v4 : Int32) (v5 : Int32) (s2 : Int32) (s3 : Int32) (s5 : Int32) (s6 : Int32) (oS : OB) (hf : f4_addOneSide_b77 n oL x2 x3 v4 v5 s2 s3 s5 s6 oS = some z) : Wn p l e rm4_addOneSide s m args below meth c D A 6 0 0 (MQ below (Qr D (tyG cyI cyO cyJ) (bX4 cyI aS z ++ bX1 cyI aL oL) A none) args s 0 0 A) (bX4 cyI aS oS ++ bX1 cyI aL oL) 77 [(0, .ref (aS 0)), (3, .int x3), (4, .int v4), (5, .int v5)] [.int s6, .int s5, .ref (aL 0), .int s3, .int s2, .ref (aL 0), .ref (aS 0)] := by
  unfold f4_addOneSide_b77 at hf
  obtain ⟨z77, h77, hf⟩ := bi hf
  refine n_callV (As := [.int s5, .int s6]) (rest := [.int s3, .int s2, .ref (aL 0), .ref (aS 0)]) (w2 := bX4 cyI aS oS ++ bX1 cyI aL oL) C dX4_addOneSide_77 (c1_scoreOf l D cyI cyO cyJ aL n oL s5 s6 z77 h77) (cwV 2 C.ts gX4_addOneSide_X1_scoreOf rfl rfl rfl (by decide +kernel) ⟨Nat.le_of_ble_eq_true rfl, Nat.le_of_ble_eq_true rfl⟩) rfl (q0 := 0) (ci := 1) rfl rfl (Frm.skip Frm.self) rfl (Nat.le_of_ble_eq_true rfl) ⟨Nat.le_of_ble_eq_true rfl, Nat.le_of_ble_eq_true rfl⟩ rfl ?_
  obtain ⟨z80, h80, hf⟩ := bi hf
  refine n_callV (As := [.ref (aL 0), .int s2, .int s3, .int z77]) (rest := []) (w2 := bX4 cyI aS z80 ++ bX1 cyI aL oL) C dX4_addOneSide_80 (c4_addScores l D cyI cyO cyJ aS aL n oS oL s2 s3 z77 z80 h80) (cwV 4 C.ts gX4_addOneSide_X4_addScores rfl rfl rfl (by decide +kernel) ⟨Nat.le_of_ble_eq_true rfl, Nat.le_of_ble_eq_true rfl⟩) rfl (q0 := 0) (ci := 4) rfl rfl Frm.self rfl (Nat.le_of_ble_eq_true rfl) ⟨Nat.le_of_ble_eq_true rfl, Nat.le_of_ble_eq_true rfl⟩ rfl ?_
  refine n_iload C dX4_addOneSide_83 3 rfl rfl ?_
  refine n_iload_n C dX4_addOneSide_85 1 rfl rfl ?_
  refine n_if_eq (t := 93) C dX4_addOneSide_86 (by decide) rfl (fun h86 => ?_) (fun h86 => ?_)
  · have hf := ip h86 hf
    refine n_iconst (v := (nI 2)) C dX4_addOneSide_93 (by decide) rfl ?_
    exact Wn.sub (lv' := [(0, .ref (aS 0)), (4, .int v4)]) [0, 2] rfl (t4_addOneSide_b94 C n oL x2 x3 v4 v5 (nI 2) z80 hf)
  · have hf := iq h86 hf
    refine n_iconst (v := (nI 3)) C dX4_addOneSide_89 (by decide) rfl ?_
    refine n_goto (t := 94) C dX4_addOneSide_90 (by decide) ?_
    exact Wn.sub (lv' := [(0, .ref (aS 0)), (4, .int v4)]) [0, 2] rfl (t4_addOneSide_b94 C n oL x2 x3 v4 v5 (nI 3) z80 hf)
set_option maxHeartbeats 4000000 in
set_option maxRecDepth 100000 in
theorem t4_addOneSide_b19 {l : Launch} {p : Program} {e : Env} {s : State} {m : MethodId} {args : Array Value} {below : List Frame} {meth : Method} {c : Code} {D : va_G} {A : Nat → Prop} {cyI cyO cyJ : ClassId} {aS : Nat → Nat} {aL : Nat → Nat} (C : Cx p s m args meth c D (tyG cyI cyO cyJ) A RX4 cX4_addOneSide 6 none wsX4_addOneSide) {z : (OB)} (n : Nat) (oL : OB) (x2 : Int32) (x3 : Int32) (s0 : Int32) (oS : OB) (hf : f4_addOneSide_b19 n oL x2 x3 s0 oS = some z) : Wn p l e rm4_addOneSide s m args below meth c D A 6 0 0 (MQ below (Qr D (tyG cyI cyO cyJ) (bX4 cyI aS z ++ bX1 cyI aL oL) A none) args s 0 0 A) (bX4 cyI aS oS ++ bX1 cyI aL oL) 19 [(0, .ref (aS 0)), (1, .ref (aL 0)), (2, .int x2), (3, .int x3)] [.int s0] := by
  unfold f4_addOneSide_b19 at hf
  refine n_istore (lv' := [(4, .int s0), (0, .ref (aS 0)), (1, .ref (aL 0)), (2, .int x2), (3, .int x3)]) C dX4_addOneSide_19 (by decide) rfl rfl ?_
  refine n_aload_n C dX4_addOneSide_21 1 rfl rfl ?_
  refine n_iload C dX4_addOneSide_22 0 rfl rfl ?_
  obtain ⟨z24, h24, hf⟩ := bi hf
  refine n_callV (As := [.int s0]) (rest := []) (w2 := bX4 cyI aS oS ++ bX1 cyI aL oL) C dX4_addOneSide_24 (c4_hasTeam l D cyI cyO cyJ aS n oS s0 z24 h24) (cwV 1 C.ts gX4_addOneSide_X4_hasTeam rfl rfl rfl (by decide +kernel) ⟨Nat.le_of_ble_eq_true rfl, Nat.le_of_ble_eq_true rfl⟩) rfl (q0 := 0) (ci := 4) rfl rfl Frm.here rfl (Nat.le_of_ble_eq_true rfl) ⟨Nat.le_of_ble_eq_true rfl, Nat.le_of_ble_eq_true rfl⟩ rfl ?_
  refine n_if_ne (t := 31) C dX4_addOneSide_27 (by decide) rfl (fun h27 => ?_) (fun h27 => ?_)
  · have hf := iq h27 hf
    refine n_aload_n C dX4_addOneSide_31 2 rfl rfl ?_
    refine n_get (N := 15) C dX4_addOneSide_32 iw4_addOneSide_X1 9 rfl rfl 12 (by decide) (List.mem_of_getElem? (i := 3) rfl) rfl rfl rfl ?_
    refine n_iload_n C dX4_addOneSide_35 3 rfl rfl ?_
    obtain ⟨x36, h36, hf⟩ := bi hf
    obtain ⟨h36, e36⟩ := ald_some h36
    refine n_iald C dX4_addOneSide_36 19 0 rfl rfl h36 rfl ?_
    rw [← e36]
    refine n_istore (lv' := [(5, .int x36), (4, .int s0), (0, .ref (aS 0)), (1, .ref (aL 0)), (2, .int x2), (3, .int x3)]) C dX4_addOneSide_37 (by decide) rfl rfl ?_
    refine n_iload C dX4_addOneSide_39 0 rfl rfl ?_
    refine n_if_ne (t := 56) C dX4_addOneSide_41 (by decide) rfl (fun h41 => ?_) (fun h41 => ?_)
    · have hf := iq h41 hf
      refine n_aload_n C dX4_addOneSide_56 2 rfl rfl ?_
      refine n_aload_n C dX4_addOneSide_57 3 rfl rfl ?_
      refine n_iload C dX4_addOneSide_58 1 rfl rfl ?_
      refine n_aload_n C dX4_addOneSide_60 3 rfl rfl ?_
      refine n_iload_n C dX4_addOneSide_61 4 rfl rfl ?_
      refine n_iload_n C dX4_addOneSide_62 5 rfl rfl ?_
      obtain ⟨z63, h63, hf⟩ := bi hf
      refine n_callV (As := [.int x2, .int x3]) (rest := [.int s0, .ref (aL 0), .ref (aS 0)]) (w2 := bX4 cyI aS oS ++ bX1 cyI aL oL) C dX4_addOneSide_63 (c1_scoreOf l D cyI cyO cyJ aL n oL x2 x3 z63 h63) (cwV 2 C.ts gX4_addOneSide_X1_scoreOf rfl rfl rfl (by decide +kernel) ⟨Nat.le_of_ble_eq_true rfl, Nat.le_of_ble_eq_true rfl⟩) rfl (q0 := 0) (ci := 1) rfl rfl (Frm.skip Frm.self) rfl (Nat.le_of_ble_eq_true rfl) ⟨Nat.le_of_ble_eq_true rfl, Nat.le_of_ble_eq_true rfl⟩ rfl ?_
      refine n_aload_n C dX4_addOneSide_66 3 rfl rfl ?_
      refine n_iload_n C dX4_addOneSide_67 4 rfl rfl ?_
      refine n_iload_n C dX4_addOneSide_68 5 rfl rfl ?_
      refine n_if_ne (t := 76) C dX4_addOneSide_69 (by decide) rfl (fun h69 => ?_) (fun h69 => ?_)
      · have hf := iq h69 hf
        refine n_iconst (v := (nI 0)) C dX4_addOneSide_76 (by decide) rfl ?_
        exact Wn.sub (lv' := [(0, .ref (aS 0)), (3, .int x3), (4, .int s0), (5, .int x36)]) [2, 5, 1, 0] rfl (t4_addOneSide_b77 C n oL x2 x3 s0 x36 s0 z63 x2 (nI 0) oS hf)
      · have hf := ip h69 hf
        refine n_iconst (v := (nI 1)) C dX4_addOneSide_72 (by decide) rfl ?_
        refine n_goto (t := 77) C dX4_addOneSide_73 (by decide) ?_
        exact Wn.sub (lv' := [(0, .ref (aS 0)), (3, .int x3), (4, .int s0), (5, .int x36)]) [2, 5, 1, 0] rfl (t4_addOneSide_b77 C n oL x2 x3 s0 x36 s0 z63 x2 (nI 1) oS hf)
    · have hf := ip h41 hf
      refine n_aload_n C dX4_addOneSide_44 2 rfl rfl ?_
      refine n_get (N := 9) C dX4_addOneSide_45 iw4_addOneSide_X4 0 rfl rfl 8 (by decide) (List.mem_of_getElem? (i := 4) rfl) rfl rfl rfl ?_
      refine n_iload C dX4_addOneSide_48 1 rfl rfl ?_
      refine n_dup2 C dX4_addOneSide_50 rfl rfl rfl ?_
      obtain ⟨x51, h51, hf⟩ := bi hf
      obtain ⟨h51, e51⟩ := ald_some h51
      refine n_iald C dX4_addOneSide_51 8 0 rfl rfl h51 rfl ?_
      rw [← e51]
      refine n_iconst (v := (nI 1)) C dX4_addOneSide_52 (by decide) rfl ?_
      refine n_iadd C dX4_addOneSide_53 rfl ?_
      obtain ⟨oS_54, h54, hf⟩ := bi hf
      obtain ⟨h54, e54⟩ := oast_some h54
      refine n_iast (w2 := bX4 cyI aS oS_54 ++ bX1 cyI aL oL) C dX4_addOneSide_54 8 0 rfl rfl h54 (by subst e54; rfl) rfl ?_
      obtain rfl := Option.some.inj hf
      exact n_vret C dX4_addOneSide_55
  · have hf := ip h27 hf
    obtain rfl := Option.some.inj hf
    exact n_vret C dX4_addOneSide_30
set_option maxHeartbeats 4000000 in
set_option maxRecDepth 100000 in
theorem c4_addOneSide (l : Launch) (D : va_G) (cyI cyO cyJ : ClassId) (aS : Nat → Nat) (aL : Nat → Nat) (n : Nat) (oS : OB) (oL : OB) (x2 : Int32) (x3 : Int32) (z : (OB)) (hf : f4_addOneSide n oS oL x2 x3 = some z) : Ct l D (tyG cyI cyO cyJ) yX4_addOneSide wsX4_addOneSide rm4_addOneSide 0 0 [.ref (aS 0), .ref (aL 0), .int x2, .int x3] (bX4 cyI aS oS ++ bX1 cyI aL oL) (bX4 cyI aS z ++ bX1 cyI aL oL) none := by
  refine Ct.of (cc := cX4_addOneSide) (nL := 6) (ret := none) (lv := [(0, .ref (aS 0)), (1, .ref (aL 0)), (2, .int x2), (3, .int x3)]) (by decide +kernel) rfl rfl (Nat.le_of_ble_eq_true rfl) ?_
  intro p e s m args below meth c A C
  have C : Cx p s m args meth c D (tyG cyI cyO cyJ) A RX4 cX4_addOneSide 6 none wsX4_addOneSide := C
  unfold f4_addOneSide at hf
  refine n_iload_n C dX4_addOneSide_0 3 rfl rfl ?_
  refine n_if_eq (t := 13) C dX4_addOneSide_1 (by decide) rfl (fun h1 => ?_) (fun h1 => ?_)
  · have hf := ip h1 hf
    refine n_aload_n C dX4_addOneSide_13 1 rfl rfl ?_
    refine n_get (N := 15) C dX4_addOneSide_14 iw4_addOneSide_X1 9 rfl rfl 7 (by decide) (List.mem_of_getElem? (i := 2) rfl) rfl rfl rfl ?_
    refine n_iload_n C dX4_addOneSide_17 2 rfl rfl ?_
    obtain ⟨x18, h18, hf⟩ := bi hf
    obtain ⟨h18, e18⟩ := ald_some h18
    refine n_iald C dX4_addOneSide_18 14 0 rfl rfl h18 rfl ?_
    rw [← e18]
    exact Wn.sub (lv' := [(0, .ref (aS 0)), (1, .ref (aL 0)), (2, .int x2), (3, .int x3)]) [0, 1, 2, 3] rfl (t4_addOneSide_b19 C n oL x2 x3 x18 oS hf)
  · have hf := iq h1 hf
    refine n_aload_n C dX4_addOneSide_4 1 rfl rfl ?_
    refine n_get (N := 15) C dX4_addOneSide_5 iw4_addOneSide_X1 9 rfl rfl 8 (by decide) (List.mem_of_getElem? (i := 1) rfl) rfl rfl rfl ?_
    refine n_iload_n C dX4_addOneSide_8 2 rfl rfl ?_
    obtain ⟨x9, h9, hf⟩ := bi hf
    obtain ⟨h9, e9⟩ := ald_some h9
    refine n_iald C dX4_addOneSide_9 15 0 rfl rfl h9 rfl ?_
    rw [← e9]
    refine n_goto (t := 19) C dX4_addOneSide_10 (by decide) ?_
    exact Wn.sub (lv' := [(0, .ref (aS 0)), (1, .ref (aL 0)), (2, .int x2), (3, .int x3)]) [0, 1, 2, 3] rfl (t4_addOneSide_b19 C n oL x2 x3 x9 oS hf)
-- X4 countUp 
theorem iw4_countUp_X1 : ∀ w ∈ u_ws RX1 TX1 15, w ∈ wsX4_countUp := by decide +kernel
theorem iw4_countUp_X4 : ∀ w ∈ u_ws RX4 TX4 9, w ∈ wsX4_countUp := by decide +kernel
abbrev rm4_countUp : Room := { frames := 3, cells := 0, slots := 0, locals := 70 }
def f4_countUp_b87 (n : Nat) (oL : OB) : Nat → Int32 → OB → Option ((OB))
  | 0, _, _ => none
  | k + 1, v2, oS =>
    (if (oL.1 2) ≤ v2 then some oS else (f4_addOneSide n oS oL v2 (nI 0)).bind fun z99 => (f4_addOneSide n z99 oL v2 (nI 1)).bind fun z106 => (f4_countUp_b87 n oL k) (v2 + (nI 1)) z106)
def f4_countUp_b85 (n : Nat) (oL : OB) (oS : OB) : Option ((OB)) :=
  f4_countUp_b87 n oL n (nI 0) oS
def f4_countUp_b15 (n : Nat) (oL : OB) (k85 : OB → Option ((OB))) : Nat → Int32 → OB → Option ((OB))
  | 0, _, _ => none
  | k + 1, v2, oS =>
    (if (oS.1 0) ≤ v2 then k85 oS else (oast oS 1 8 v2 (nI 0)).bind fun oS_29 => (oast oS_29 2 8 v2 (nI 0)).bind fun oS_36 => (oast oS_36 3 8 v2 (nI 0)).bind fun oS_43 => (oast oS_43 4 8 v2 (nI 0)).bind fun oS_50 => (oast oS_50 5 8 v2 (nI 0)).bind fun oS_57 => (oast oS_57 6 8 v2 (nI 0)).bind fun oS_64 => (oast oS_64 7 8 v2 (nI 0)).bind fun oS_71 => (oast oS_71 8 8 v2 (nI 0)).bind fun oS_78 => (f4_countUp_b15 n oL k85 k) (v2 + (nI 1)) oS_78)
def f4_countUp (n : Nat) (oS : OB) (oL : OB) : Option ((OB)) :=
  (some (if (nI 8) < (oL.1 0) then (nI 8) else (oL.1 0))).bind fun x7 => (some (gsi oS 0 x7)).bind fun oS_10 => f4_countUp_b15 n oL (fun oS => f4_countUp_b85 n oL oS) n (nI 0) oS_10
set_option maxHeartbeats 4000000 in
set_option maxRecDepth 100000 in
theorem t4_countUp_b87 {l : Launch} {p : Program} {e : Env} {s : State} {m : MethodId} {args : Array Value} {below : List Frame} {meth : Method} {c : Code} {D : va_G} {A : Nat → Prop} {cyI cyO cyJ : ClassId} {aS : Nat → Nat} {aL : Nat → Nat} (C : Cx p s m args meth c D (tyG cyI cyO cyJ) A RX4 cX4_countUp 3 none wsX4_countUp) {z : (OB)} (n : Nat) (oL : OB) : ∀ (k : Nat) (v2 : Int32) (oS : OB), f4_countUp_b87 n oL k v2 oS = some z → Wn p l e rm4_countUp s m args below meth c D A 3 0 0 (MQ below (Qr D (tyG cyI cyO cyJ) (bX4 cyI aS z ++ bX1 cyI aL oL) A none) args s 0 0 A) (bX4 cyI aS oS ++ bX1 cyI aL oL) 87 [(0, .ref (aS 0)), (1, .ref (aL 0)), (2, .int v2)] [] := by
  intro k
  induction k with
  | zero => intro  v2 oS hf; cases hf
  | succ k ih =>
    intro  v2 oS hf
    unfold f4_countUp_b87 at hf
    refine n_iload_n C dX4_countUp_87 2 rfl rfl ?_
    refine n_aload_n C dX4_countUp_88 1 rfl rfl ?_
    refine n_get (N := 15) C dX4_countUp_89 iw4_countUp_X1 9 rfl rfl 2 (by decide) (List.mem_of_getElem? (i := 15) rfl) rfl rfl rfl ?_
    refine n_icmp_ge (t := 115) C dX4_countUp_92 (by decide) rfl (fun h92 => ?_) (fun h92 => ?_)
    · have hf := ip h92 hf
      obtain rfl := Option.some.inj hf
      exact n_vret C dX4_countUp_115
    · have hf := iq h92 hf
      refine n_aload_n C dX4_countUp_95 0 rfl rfl ?_
      refine n_aload_n C dX4_countUp_96 1 rfl rfl ?_
      refine n_iload_n C dX4_countUp_97 2 rfl rfl ?_
      refine n_iconst (v := (nI 0)) C dX4_countUp_98 (by decide) rfl ?_
      obtain ⟨z99, h99, hf⟩ := bi hf
      refine n_callV (As := [.ref (aL 0), .int v2, .int (nI 0)]) (rest := []) (w2 := bX4 cyI aS z99 ++ bX1 cyI aL oL) C dX4_countUp_99 (c4_addOneSide l D cyI cyO cyJ aS aL n oS oL v2 (nI 0) z99 h99) (cwV 3 C.ts gX4_countUp_X4_addOneSide rfl rfl rfl (by decide +kernel) ⟨Nat.le_of_ble_eq_true rfl, Nat.le_of_ble_eq_true rfl⟩) rfl (q0 := 0) (ci := 4) rfl rfl Frm.self rfl (Nat.le_of_ble_eq_true rfl) ⟨Nat.le_of_ble_eq_true rfl, Nat.le_of_ble_eq_true rfl⟩ rfl ?_
      refine n_aload_n C dX4_countUp_102 0 rfl rfl ?_
      refine n_aload_n C dX4_countUp_103 1 rfl rfl ?_
      refine n_iload_n C dX4_countUp_104 2 rfl rfl ?_
      refine n_iconst (v := (nI 1)) C dX4_countUp_105 (by decide) rfl ?_
      obtain ⟨z106, h106, hf⟩ := bi hf
      refine n_callV (As := [.ref (aL 0), .int v2, .int (nI 1)]) (rest := []) (w2 := bX4 cyI aS z106 ++ bX1 cyI aL oL) C dX4_countUp_106 (c4_addOneSide l D cyI cyO cyJ aS aL n z99 oL v2 (nI 1) z106 h106) (cwV 3 C.ts gX4_countUp_X4_addOneSide rfl rfl rfl (by decide +kernel) ⟨Nat.le_of_ble_eq_true rfl, Nat.le_of_ble_eq_true rfl⟩) rfl (q0 := 0) (ci := 4) rfl rfl Frm.self rfl (Nat.le_of_ble_eq_true rfl) ⟨Nat.le_of_ble_eq_true rfl, Nat.le_of_ble_eq_true rfl⟩ rfl ?_
      refine n_iinc (v := v2 + (nI 1)) (lv' := [(2, .int (v2 + (nI 1))), (0, .ref (aS 0)), (1, .ref (aL 0))]) C dX4_countUp_109 (j := 2) rfl rfl (by decide) rfl rfl ?_
      refine n_goto (t := 87) C dX4_countUp_112 (by decide) ?_
      exact Wn.sub (lv' := [(0, .ref (aS 0)), (1, .ref (aL 0)), (2, .int (v2 + (nI 1)))]) [1, 2, 0] rfl (ih (v2 + (nI 1)) z106 hf)
set_option maxHeartbeats 4000000 in
set_option maxRecDepth 100000 in
theorem t4_countUp_b85 {l : Launch} {p : Program} {e : Env} {s : State} {m : MethodId} {args : Array Value} {below : List Frame} {meth : Method} {c : Code} {D : va_G} {A : Nat → Prop} {cyI cyO cyJ : ClassId} {aS : Nat → Nat} {aL : Nat → Nat} (C : Cx p s m args meth c D (tyG cyI cyO cyJ) A RX4 cX4_countUp 3 none wsX4_countUp) {z : (OB)} (n : Nat) (oL : OB) (oS : OB) (hf : f4_countUp_b85 n oL oS = some z) : Wn p l e rm4_countUp s m args below meth c D A 3 0 0 (MQ below (Qr D (tyG cyI cyO cyJ) (bX4 cyI aS z ++ bX1 cyI aL oL) A none) args s 0 0 A) (bX4 cyI aS oS ++ bX1 cyI aL oL) 85 [(0, .ref (aS 0)), (1, .ref (aL 0))] [] := by
  unfold f4_countUp_b85 at hf
  refine n_iconst (v := (nI 0)) C dX4_countUp_85 (by decide) rfl ?_
  refine n_istore_n (lv' := [(2, .int (nI 0)), (0, .ref (aS 0)), (1, .ref (aL 0))]) C dX4_countUp_86 (by decide) rfl rfl ?_
  exact Wn.sub (lv' := [(0, .ref (aS 0)), (1, .ref (aL 0)), (2, .int (nI 0))]) [1, 2, 0] rfl (t4_countUp_b87 C n oL n (nI 0) oS hf)
set_option maxHeartbeats 4000000 in
set_option maxRecDepth 100000 in
theorem t4_countUp_b15 {l : Launch} {p : Program} {e : Env} {s : State} {m : MethodId} {args : Array Value} {below : List Frame} {meth : Method} {c : Code} {D : va_G} {A : Nat → Prop} {cyI cyO cyJ : ClassId} {aS : Nat → Nat} {aL : Nat → Nat} (C : Cx p s m args meth c D (tyG cyI cyO cyJ) A RX4 cX4_countUp 3 none wsX4_countUp) {z : (OB)} (n : Nat) (oL : OB) {k85 : OB → Option ((OB))} (hk85 : ∀ (oS : OB), k85 oS = some z → Wn p l e rm4_countUp s m args below meth c D A 3 0 0 (MQ below (Qr D (tyG cyI cyO cyJ) (bX4 cyI aS z ++ bX1 cyI aL oL) A none) args s 0 0 A) (bX4 cyI aS oS ++ bX1 cyI aL oL) 85 [(0, .ref (aS 0)), (1, .ref (aL 0))] []) : ∀ (k : Nat) (v2 : Int32) (oS : OB), f4_countUp_b15 n oL k85 k v2 oS = some z → Wn p l e rm4_countUp s m args below meth c D A 3 0 0 (MQ below (Qr D (tyG cyI cyO cyJ) (bX4 cyI aS z ++ bX1 cyI aL oL) A none) args s 0 0 A) (bX4 cyI aS oS ++ bX1 cyI aL oL) 15 [(0, .ref (aS 0)), (1, .ref (aL 0)), (2, .int v2)] [] := by
  intro k
  induction k with
  | zero => intro  v2 oS hf; cases hf
  | succ k ih =>
    intro  v2 oS hf
    unfold f4_countUp_b15 at hf
    refine n_iload_n C dX4_countUp_15 2 rfl rfl ?_
    refine n_aload_n C dX4_countUp_16 0 rfl rfl ?_
    refine n_get (N := 9) C dX4_countUp_17 iw4_countUp_X4 0 rfl rfl 0 (by decide) (List.mem_of_getElem? (i := 6) rfl) rfl rfl rfl ?_
    refine n_icmp_ge (t := 85) C dX4_countUp_20 (by decide) rfl (fun h20 => ?_) (fun h20 => ?_)
    · have hf := ip h20 hf
      exact Wn.sub (lv' := [(0, .ref (aS 0)), (1, .ref (aL 0))]) [0, 1] rfl (hk85 oS hf)
    · have hf := iq h20 hf
      refine n_aload_n C dX4_countUp_23 0 rfl rfl ?_
      refine n_get (N := 9) C dX4_countUp_24 iw4_countUp_X4 0 rfl rfl 1 (by decide) (List.mem_of_getElem? (i := 7) rfl) rfl rfl rfl ?_
      refine n_iload_n C dX4_countUp_27 2 rfl rfl ?_
      refine n_iconst (v := (nI 0)) C dX4_countUp_28 (by decide) rfl ?_
      obtain ⟨oS_29, h29, hf⟩ := bi hf
      obtain ⟨h29, e29⟩ := oast_some h29
      refine n_iast (w2 := bX4 cyI aS oS_29 ++ bX1 cyI aL oL) C dX4_countUp_29 1 0 rfl rfl h29 (by subst e29; rfl) rfl ?_
      refine n_aload_n C dX4_countUp_30 0 rfl rfl ?_
      refine n_get (N := 9) C dX4_countUp_31 iw4_countUp_X4 0 rfl rfl 2 (by decide) (List.mem_of_getElem? (i := 8) rfl) rfl rfl rfl ?_
      refine n_iload_n C dX4_countUp_34 2 rfl rfl ?_
      refine n_iconst (v := (nI 0)) C dX4_countUp_35 (by decide) rfl ?_
      obtain ⟨oS_36, h36, hf⟩ := bi hf
      obtain ⟨h36, e36⟩ := oast_some h36
      refine n_iast (w2 := bX4 cyI aS oS_36 ++ bX1 cyI aL oL) C dX4_countUp_36 2 0 rfl rfl h36 (by subst e36; rfl) rfl ?_
      refine n_aload_n C dX4_countUp_37 0 rfl rfl ?_
      refine n_get (N := 9) C dX4_countUp_38 iw4_countUp_X4 0 rfl rfl 3 (by decide) (List.mem_of_getElem? (i := 9) rfl) rfl rfl rfl ?_
      refine n_iload_n C dX4_countUp_41 2 rfl rfl ?_
      refine n_iconst (v := (nI 0)) C dX4_countUp_42 (by decide) rfl ?_
      obtain ⟨oS_43, h43, hf⟩ := bi hf
      obtain ⟨h43, e43⟩ := oast_some h43
      refine n_iast (w2 := bX4 cyI aS oS_43 ++ bX1 cyI aL oL) C dX4_countUp_43 3 0 rfl rfl h43 (by subst e43; rfl) rfl ?_
      refine n_aload_n C dX4_countUp_44 0 rfl rfl ?_
      refine n_get (N := 9) C dX4_countUp_45 iw4_countUp_X4 0 rfl rfl 4 (by decide) (List.mem_of_getElem? (i := 10) rfl) rfl rfl rfl ?_
      refine n_iload_n C dX4_countUp_48 2 rfl rfl ?_
      refine n_iconst (v := (nI 0)) C dX4_countUp_49 (by decide) rfl ?_
      obtain ⟨oS_50, h50, hf⟩ := bi hf
      obtain ⟨h50, e50⟩ := oast_some h50
      refine n_iast (w2 := bX4 cyI aS oS_50 ++ bX1 cyI aL oL) C dX4_countUp_50 4 0 rfl rfl h50 (by subst e50; rfl) rfl ?_
      refine n_aload_n C dX4_countUp_51 0 rfl rfl ?_
      refine n_get (N := 9) C dX4_countUp_52 iw4_countUp_X4 0 rfl rfl 5 (by decide) (List.mem_of_getElem? (i := 11) rfl) rfl rfl rfl ?_
      refine n_iload_n C dX4_countUp_55 2 rfl rfl ?_
      refine n_iconst (v := (nI 0)) C dX4_countUp_56 (by decide) rfl ?_
      obtain ⟨oS_57, h57, hf⟩ := bi hf
      obtain ⟨h57, e57⟩ := oast_some h57
      refine n_iast (w2 := bX4 cyI aS oS_57 ++ bX1 cyI aL oL) C dX4_countUp_57 5 0 rfl rfl h57 (by subst e57; rfl) rfl ?_
      refine n_aload_n C dX4_countUp_58 0 rfl rfl ?_
      refine n_get (N := 9) C dX4_countUp_59 iw4_countUp_X4 0 rfl rfl 6 (by decide) (List.mem_of_getElem? (i := 12) rfl) rfl rfl rfl ?_
      refine n_iload_n C dX4_countUp_62 2 rfl rfl ?_
      refine n_iconst (v := (nI 0)) C dX4_countUp_63 (by decide) rfl ?_
      obtain ⟨oS_64, h64, hf⟩ := bi hf
      obtain ⟨h64, e64⟩ := oast_some h64
      refine n_iast (w2 := bX4 cyI aS oS_64 ++ bX1 cyI aL oL) C dX4_countUp_64 6 0 rfl rfl h64 (by subst e64; rfl) rfl ?_
      refine n_aload_n C dX4_countUp_65 0 rfl rfl ?_
      refine n_get (N := 9) C dX4_countUp_66 iw4_countUp_X4 0 rfl rfl 7 (by decide) (List.mem_of_getElem? (i := 13) rfl) rfl rfl rfl ?_
      refine n_iload_n C dX4_countUp_69 2 rfl rfl ?_
      refine n_iconst (v := (nI 0)) C dX4_countUp_70 (by decide) rfl ?_
      obtain ⟨oS_71, h71, hf⟩ := bi hf
      obtain ⟨h71, e71⟩ := oast_some h71
      refine n_iast (w2 := bX4 cyI aS oS_71 ++ bX1 cyI aL oL) C dX4_countUp_71 7 0 rfl rfl h71 (by subst e71; rfl) rfl ?_
      refine n_aload_n C dX4_countUp_72 0 rfl rfl ?_
      refine n_get (N := 9) C dX4_countUp_73 iw4_countUp_X4 0 rfl rfl 8 (by decide) (List.mem_of_getElem? (i := 14) rfl) rfl rfl rfl ?_
      refine n_iload_n C dX4_countUp_76 2 rfl rfl ?_
      refine n_iconst (v := (nI 0)) C dX4_countUp_77 (by decide) rfl ?_
      obtain ⟨oS_78, h78, hf⟩ := bi hf
      obtain ⟨h78, e78⟩ := oast_some h78
      refine n_iast (w2 := bX4 cyI aS oS_78 ++ bX1 cyI aL oL) C dX4_countUp_78 8 0 rfl rfl h78 (by subst e78; rfl) rfl ?_
      refine n_iinc (v := v2 + (nI 1)) (lv' := [(2, .int (v2 + (nI 1))), (0, .ref (aS 0)), (1, .ref (aL 0))]) C dX4_countUp_79 (j := 2) rfl rfl (by decide) rfl rfl ?_
      refine n_goto (t := 15) C dX4_countUp_82 (by decide) ?_
      exact Wn.sub (lv' := [(0, .ref (aS 0)), (1, .ref (aL 0)), (2, .int (v2 + (nI 1)))]) [1, 2, 0] rfl (ih (v2 + (nI 1)) oS_78 hf)
set_option maxHeartbeats 4000000 in
set_option maxRecDepth 100000 in
theorem c4_countUp (l : Launch) (D : va_G) (cyI cyO cyJ : ClassId) (aS : Nat → Nat) (aL : Nat → Nat) (n : Nat) (oS : OB) (oL : OB) (z : (OB)) (hf : f4_countUp n oS oL = some z) : Ct l D (tyG cyI cyO cyJ) yX4_countUp wsX4_countUp rm4_countUp 0 0 [.ref (aS 0), .ref (aL 0)] (bX4 cyI aS oS ++ bX1 cyI aL oL) (bX4 cyI aS z ++ bX1 cyI aL oL) none := by
  refine Ct.of (cc := cX4_countUp) (nL := 3) (ret := none) (lv := [(0, .ref (aS 0)), (1, .ref (aL 0))]) (by decide +kernel) rfl rfl (Nat.le_of_ble_eq_true rfl) ?_
  intro p e s m args below meth c A C
  have C : Cx p s m args meth c D (tyG cyI cyO cyJ) A RX4 cX4_countUp 3 none wsX4_countUp := C
  unfold f4_countUp at hf
  refine n_aload_n C dX4_countUp_0 0 rfl rfl ?_
  refine n_aload_n C dX4_countUp_1 1 rfl rfl ?_
  refine n_get (N := 15) C dX4_countUp_2 iw4_countUp_X1 9 rfl rfl 0 (by decide) (List.mem_of_getElem? (i := 1) rfl) rfl rfl rfl ?_
  refine n_bipush (v := (nI 8)) C dX4_countUp_5 (by decide) rfl ?_
  refine n_mmin C dX4_countUp_7 (List.mem_of_getElem? (i := 2) rfl) (List.mem_of_getElem? (i := 3) rfl) (List.mem_of_getElem? (i := 4) rfl) (List.mem_of_getElem? (i := 5) rfl) (Nat.le_of_ble_eq_true rfl) (Nat.le_of_ble_eq_true rfl) ⟨Nat.zero_le _, Nat.zero_le _⟩ rfl ?_
  obtain ⟨x7, e7, hf⟩ := bi hf
  rw [Option.some.inj e7]
  obtain ⟨oS_10, e10, hf⟩ := bi hf
  replace e10 := Option.some.inj e10
  refine n_put (w2 := bX4 cyI aS oS_10 ++ bX1 cyI aL oL) (N := 9) (ty := .int) C dX4_countUp_10 iw4_countUp_X4 tyX4_ok nmX4 0 rfl rfl 0 (by decide) (List.mem_of_getElem? (i := 6) rfl) rfl rfl (by decide +kernel) rfl rfl (Nat.le_of_ble_eq_true rfl) (by subst e10; rfl) rfl ?_
  refine n_iconst (v := (nI 0)) C dX4_countUp_13 (by decide) rfl ?_
  refine n_istore_n (lv' := [(2, .int (nI 0)), (0, .ref (aS 0)), (1, .ref (aL 0))]) C dX4_countUp_14 (by decide) rfl rfl ?_
  exact Wn.sub (lv' := [(0, .ref (aS 0)), (1, .ref (aL 0)), (2, .int (nI 0))]) [1, 2, 0] rfl (t4_countUp_b15 C n oL (fun oS hf => Wn.sub (lv' := [(0, .ref (aS 0)), (1, .ref (aL 0))]) [0, 1] rfl (t4_countUp_b85 C n oL oS hf)) n (nI 0) oS_10 hf)
-- X4 isAhead 
theorem iw4_isAhead_X4 : ∀ w ∈ u_ws RX4 TX4 9, w ∈ wsX4_isAhead := by decide +kernel
abbrev rm4_isAhead : Room := { frames := 1, cells := 0, slots := 0, locals := 21 }
def f4_isAhead (n : Nat) (oS : OB) (x1 : Int32) (x2 : Int32) : Option (Int32) :=
  (f4_hasTeam n oS x1).bind fun z2 => (if z2 = (0 : Int32) then some (nI 0) else (f4_hasTeam n oS x2).bind fun z10 => (if z10 = (0 : Int32) then some (nI 0) else (ald 8 (oS.2 1) x1).bind fun x23 => (ald 8 (oS.2 1) x2).bind fun x29 => (if x23 = x29 then (ald 8 (oS.2 5) x1).bind fun x59 => (ald 8 (oS.2 6) x1).bind fun x65 => (ald 8 (oS.2 5) x2).bind fun x73 => (ald 8 (oS.2 6) x2).bind fun x79 => (if (x59 - x65) = (x73 - x79) then (ald 8 (oS.2 5) x1).bind fun x106 => (ald 8 (oS.2 5) x2).bind fun x112 => (if x106 = x112 then (if x2 ≤ x1 then some (nI 0) else some (nI 1)) else (ald 8 (oS.2 5) x1).bind fun x121 => (ald 8 (oS.2 5) x2).bind fun x127 => (if x121 ≤ x127 then some (nI 0) else some (nI 1))) else (if (x59 - x65) ≤ (x73 - x79) then some (nI 0) else some (nI 1))) else (ald 8 (oS.2 1) x1).bind fun x38 => (ald 8 (oS.2 1) x2).bind fun x44 => (if x38 ≤ x44 then some (nI 0) else some (nI 1)))))
set_option maxHeartbeats 4000000 in
set_option maxRecDepth 100000 in
theorem c4_isAhead (l : Launch) (D : va_G) (cyI cyO cyJ : ClassId) (aS : Nat → Nat) (n : Nat) (oS : OB) (x1 : Int32) (x2 : Int32) (z : Int32) (hf : f4_isAhead n oS x1 x2 = some z) : Ct l D (tyG cyI cyO cyJ) yX4_isAhead wsX4_isAhead rm4_isAhead 0 0 [.ref (aS 0), .int x1, .int x2] (bX4 cyI aS oS) (bX4 cyI aS oS) (some (.int z)) := by
  refine Ct.of (cc := cX4_isAhead) (nL := 5) (ret := (some .boolean)) (lv := [(0, .ref (aS 0)), (1, .int x1), (2, .int x2)]) (by decide +kernel) rfl rfl (Nat.le_of_ble_eq_true rfl) ?_
  intro p e s m args below meth c A C
  have C : Cx p s m args meth c D (tyG cyI cyO cyJ) A RX4 cX4_isAhead 5 (some .boolean) wsX4_isAhead := C
  unfold f4_isAhead at hf
  refine n_aload_n C dX4_isAhead_0 0 rfl rfl ?_
  refine n_iload_n C dX4_isAhead_1 1 rfl rfl ?_
  obtain ⟨z2, h2, hf⟩ := bi hf
  refine n_callV (As := [.int x1]) (rest := []) (w2 := bX4 cyI aS oS) C dX4_isAhead_2 (c4_hasTeam l D cyI cyO cyJ aS n oS x1 z2 h2) (cwV 1 C.ts gX4_isAhead_X4_hasTeam rfl rfl rfl (by decide +kernel) ⟨Nat.le_of_ble_eq_true rfl, Nat.le_of_ble_eq_true rfl⟩) rfl (q0 := 0) (ci := 4) rfl rfl Frm.self rfl (Nat.le_of_ble_eq_true rfl) ⟨Nat.le_of_ble_eq_true rfl, Nat.le_of_ble_eq_true rfl⟩ rfl ?_
  refine n_if_eq (t := 16) C dX4_isAhead_5 (by decide) rfl (fun h5 => ?_) (fun h5 => ?_)
  · have hf := ip h5 hf
    refine n_iconst (v := (nI 0)) C dX4_isAhead_16 (by decide) rfl ?_
    obtain rfl := Option.some.inj hf
    exact n_zret C dX4_isAhead_17 (Or.inl rfl)
  · have hf := iq h5 hf
    refine n_aload_n C dX4_isAhead_8 0 rfl rfl ?_
    refine n_iload_n C dX4_isAhead_9 2 rfl rfl ?_
    obtain ⟨z10, h10, hf⟩ := bi hf
    refine n_callV (As := [.int x2]) (rest := []) (w2 := bX4 cyI aS oS) C dX4_isAhead_10 (c4_hasTeam l D cyI cyO cyJ aS n oS x2 z10 h10) (cwV 1 C.ts gX4_isAhead_X4_hasTeam rfl rfl rfl (by decide +kernel) ⟨Nat.le_of_ble_eq_true rfl, Nat.le_of_ble_eq_true rfl⟩) rfl (q0 := 0) (ci := 4) rfl rfl Frm.self rfl (Nat.le_of_ble_eq_true rfl) ⟨Nat.le_of_ble_eq_true rfl, Nat.le_of_ble_eq_true rfl⟩ rfl ?_
    refine n_if_ne (t := 18) C dX4_isAhead_13 (by decide) rfl (fun h13 => ?_) (fun h13 => ?_)
    · have hf := iq h13 hf
      refine n_aload_n C dX4_isAhead_18 0 rfl rfl ?_
      refine n_get (N := 9) C dX4_isAhead_19 iw4_isAhead_X4 0 rfl rfl 1 (by decide) (List.mem_of_getElem? (i := 1) rfl) rfl rfl rfl ?_
      refine n_iload_n C dX4_isAhead_22 1 rfl rfl ?_
      obtain ⟨x23, h23, hf⟩ := bi hf
      obtain ⟨h23, e23⟩ := ald_some h23
      refine n_iald C dX4_isAhead_23 1 0 rfl rfl h23 rfl ?_
      rw [← e23]
      refine n_aload_n C dX4_isAhead_24 0 rfl rfl ?_
      refine n_get (N := 9) C dX4_isAhead_25 iw4_isAhead_X4 0 rfl rfl 1 (by decide) (List.mem_of_getElem? (i := 1) rfl) rfl rfl rfl ?_
      refine n_iload_n C dX4_isAhead_28 2 rfl rfl ?_
      obtain ⟨x29, h29, hf⟩ := bi hf
      obtain ⟨h29, e29⟩ := ald_some h29
      refine n_iald C dX4_isAhead_29 1 0 rfl rfl h29 rfl ?_
      rw [← e29]
      refine n_icmp_eq (t := 54) C dX4_isAhead_30 (by decide) rfl (fun h30 => ?_) (fun h30 => ?_)
      · have hf := ip h30 hf
        refine n_aload_n C dX4_isAhead_54 0 rfl rfl ?_
        refine n_get (N := 9) C dX4_isAhead_55 iw4_isAhead_X4 0 rfl rfl 5 (by decide) (List.mem_of_getElem? (i := 2) rfl) rfl rfl rfl ?_
        refine n_iload_n C dX4_isAhead_58 1 rfl rfl ?_
        obtain ⟨x59, h59, hf⟩ := bi hf
        obtain ⟨h59, e59⟩ := ald_some h59
        refine n_iald C dX4_isAhead_59 5 0 rfl rfl h59 rfl ?_
        rw [← e59]
        refine n_aload_n C dX4_isAhead_60 0 rfl rfl ?_
        refine n_get (N := 9) C dX4_isAhead_61 iw4_isAhead_X4 0 rfl rfl 6 (by decide) (List.mem_of_getElem? (i := 3) rfl) rfl rfl rfl ?_
        refine n_iload_n C dX4_isAhead_64 1 rfl rfl ?_
        obtain ⟨x65, h65, hf⟩ := bi hf
        obtain ⟨h65, e65⟩ := ald_some h65
        refine n_iald C dX4_isAhead_65 6 0 rfl rfl h65 rfl ?_
        rw [← e65]
        refine n_isub C dX4_isAhead_66 rfl ?_
        refine n_istore_n (lv' := [(3, .int (x59 - x65)), (0, .ref (aS 0)), (1, .int x1), (2, .int x2)]) C dX4_isAhead_67 (by decide) rfl rfl ?_
        refine n_aload_n C dX4_isAhead_68 1 rfl rfl ?_
        refine n_get (N := 9) C dX4_isAhead_69 iw4_isAhead_X4 0 rfl rfl 5 (by decide) (List.mem_of_getElem? (i := 2) rfl) rfl rfl rfl ?_
        refine n_iload_n C dX4_isAhead_72 3 rfl rfl ?_
        obtain ⟨x73, h73, hf⟩ := bi hf
        obtain ⟨h73, e73⟩ := ald_some h73
        refine n_iald C dX4_isAhead_73 5 0 rfl rfl h73 rfl ?_
        rw [← e73]
        refine n_aload_n C dX4_isAhead_74 1 rfl rfl ?_
        refine n_get (N := 9) C dX4_isAhead_75 iw4_isAhead_X4 0 rfl rfl 6 (by decide) (List.mem_of_getElem? (i := 3) rfl) rfl rfl rfl ?_
        refine n_iload_n C dX4_isAhead_78 3 rfl rfl ?_
        obtain ⟨x79, h79, hf⟩ := bi hf
        obtain ⟨h79, e79⟩ := ald_some h79
        refine n_iald C dX4_isAhead_79 6 0 rfl rfl h79 rfl ?_
        rw [← e79]
        refine n_isub C dX4_isAhead_80 rfl ?_
        refine n_istore (lv' := [(4, .int (x73 - x79)), (3, .int (x59 - x65)), (0, .ref (aS 0)), (1, .int x1), (2, .int x2)]) C dX4_isAhead_81 (by decide) rfl rfl ?_
        refine n_iload_n C dX4_isAhead_83 1 rfl rfl ?_
        refine n_iload C dX4_isAhead_84 0 rfl rfl ?_
        refine n_icmp_eq (t := 101) C dX4_isAhead_86 (by decide) rfl (fun h86 => ?_) (fun h86 => ?_)
        · have hf := ip h86 hf
          refine n_aload_n C dX4_isAhead_101 2 rfl rfl ?_
          refine n_get (N := 9) C dX4_isAhead_102 iw4_isAhead_X4 0 rfl rfl 5 (by decide) (List.mem_of_getElem? (i := 2) rfl) rfl rfl rfl ?_
          refine n_iload_n C dX4_isAhead_105 3 rfl rfl ?_
          obtain ⟨x106, h106, hf⟩ := bi hf
          obtain ⟨h106, e106⟩ := ald_some h106
          refine n_iald C dX4_isAhead_106 5 0 rfl rfl h106 rfl ?_
          rw [← e106]
          refine n_aload_n C dX4_isAhead_107 2 rfl rfl ?_
          refine n_get (N := 9) C dX4_isAhead_108 iw4_isAhead_X4 0 rfl rfl 5 (by decide) (List.mem_of_getElem? (i := 2) rfl) rfl rfl rfl ?_
          refine n_iload_n C dX4_isAhead_111 4 rfl rfl ?_
          obtain ⟨x112, h112, hf⟩ := bi hf
          obtain ⟨h112, e112⟩ := ald_some h112
          refine n_iald C dX4_isAhead_112 5 0 rfl rfl h112 rfl ?_
          rw [← e112]
          refine n_icmp_eq (t := 137) C dX4_isAhead_113 (by decide) rfl (fun h113 => ?_) (fun h113 => ?_)
          · have hf := ip h113 hf
            refine n_iload_n C dX4_isAhead_137 3 rfl rfl ?_
            refine n_iload_n C dX4_isAhead_138 4 rfl rfl ?_
            refine n_icmp_ge (t := 146) C dX4_isAhead_139 (by decide) rfl (fun h139 => ?_) (fun h139 => ?_)
            · have hf := ip h139 hf
              refine n_iconst (v := (nI 0)) C dX4_isAhead_146 (by decide) rfl ?_
              obtain rfl := Option.some.inj hf
              exact n_zret C dX4_isAhead_147 (Or.inl rfl)
            · have hf := iq h139 hf
              refine n_iconst (v := (nI 1)) C dX4_isAhead_142 (by decide) rfl ?_
              refine n_goto (t := 147) C dX4_isAhead_143 (by decide) ?_
              obtain rfl := Option.some.inj hf
              exact n_zret C dX4_isAhead_147 (Or.inr rfl)
          · have hf := iq h113 hf
            refine n_aload_n C dX4_isAhead_116 2 rfl rfl ?_
            refine n_get (N := 9) C dX4_isAhead_117 iw4_isAhead_X4 0 rfl rfl 5 (by decide) (List.mem_of_getElem? (i := 2) rfl) rfl rfl rfl ?_
            refine n_iload_n C dX4_isAhead_120 3 rfl rfl ?_
            obtain ⟨x121, h121, hf⟩ := bi hf
            obtain ⟨h121, e121⟩ := ald_some h121
            refine n_iald C dX4_isAhead_121 5 0 rfl rfl h121 rfl ?_
            rw [← e121]
            refine n_aload_n C dX4_isAhead_122 2 rfl rfl ?_
            refine n_get (N := 9) C dX4_isAhead_123 iw4_isAhead_X4 0 rfl rfl 5 (by decide) (List.mem_of_getElem? (i := 2) rfl) rfl rfl rfl ?_
            refine n_iload_n C dX4_isAhead_126 4 rfl rfl ?_
            obtain ⟨x127, h127, hf⟩ := bi hf
            obtain ⟨h127, e127⟩ := ald_some h127
            refine n_iald C dX4_isAhead_127 5 0 rfl rfl h127 rfl ?_
            rw [← e127]
            refine n_icmp_le (t := 135) C dX4_isAhead_128 (by decide) rfl (fun h128 => ?_) (fun h128 => ?_)
            · have hf := ip h128 hf
              refine n_iconst (v := (nI 0)) C dX4_isAhead_135 (by decide) rfl ?_
              obtain rfl := Option.some.inj hf
              exact n_zret C dX4_isAhead_136 (Or.inl rfl)
            · have hf := iq h128 hf
              refine n_iconst (v := (nI 1)) C dX4_isAhead_131 (by decide) rfl ?_
              refine n_goto (t := 136) C dX4_isAhead_132 (by decide) ?_
              obtain rfl := Option.some.inj hf
              exact n_zret C dX4_isAhead_136 (Or.inr rfl)
        · have hf := iq h86 hf
          refine n_iload_n C dX4_isAhead_89 1 rfl rfl ?_
          refine n_iload C dX4_isAhead_90 0 rfl rfl ?_
          refine n_icmp_le (t := 99) C dX4_isAhead_92 (by decide) rfl (fun h92 => ?_) (fun h92 => ?_)
          · have hf := ip h92 hf
            refine n_iconst (v := (nI 0)) C dX4_isAhead_99 (by decide) rfl ?_
            obtain rfl := Option.some.inj hf
            exact n_zret C dX4_isAhead_100 (Or.inl rfl)
          · have hf := iq h92 hf
            refine n_iconst (v := (nI 1)) C dX4_isAhead_95 (by decide) rfl ?_
            refine n_goto (t := 100) C dX4_isAhead_96 (by decide) ?_
            obtain rfl := Option.some.inj hf
            exact n_zret C dX4_isAhead_100 (Or.inr rfl)
      · have hf := iq h30 hf
        refine n_aload_n C dX4_isAhead_33 0 rfl rfl ?_
        refine n_get (N := 9) C dX4_isAhead_34 iw4_isAhead_X4 0 rfl rfl 1 (by decide) (List.mem_of_getElem? (i := 1) rfl) rfl rfl rfl ?_
        refine n_iload_n C dX4_isAhead_37 1 rfl rfl ?_
        obtain ⟨x38, h38, hf⟩ := bi hf
        obtain ⟨h38, e38⟩ := ald_some h38
        refine n_iald C dX4_isAhead_38 1 0 rfl rfl h38 rfl ?_
        rw [← e38]
        refine n_aload_n C dX4_isAhead_39 0 rfl rfl ?_
        refine n_get (N := 9) C dX4_isAhead_40 iw4_isAhead_X4 0 rfl rfl 1 (by decide) (List.mem_of_getElem? (i := 1) rfl) rfl rfl rfl ?_
        refine n_iload_n C dX4_isAhead_43 2 rfl rfl ?_
        obtain ⟨x44, h44, hf⟩ := bi hf
        obtain ⟨h44, e44⟩ := ald_some h44
        refine n_iald C dX4_isAhead_44 1 0 rfl rfl h44 rfl ?_
        rw [← e44]
        refine n_icmp_le (t := 52) C dX4_isAhead_45 (by decide) rfl (fun h45 => ?_) (fun h45 => ?_)
        · have hf := ip h45 hf
          refine n_iconst (v := (nI 0)) C dX4_isAhead_52 (by decide) rfl ?_
          obtain rfl := Option.some.inj hf
          exact n_zret C dX4_isAhead_53 (Or.inl rfl)
        · have hf := iq h45 hf
          refine n_iconst (v := (nI 1)) C dX4_isAhead_48 (by decide) rfl ?_
          refine n_goto (t := 53) C dX4_isAhead_49 (by decide) ?_
          obtain rfl := Option.some.inj hf
          exact n_zret C dX4_isAhead_53 (Or.inr rfl)
    · have hf := ip h13 hf
      refine n_iconst (v := (nI 0)) C dX4_isAhead_16 (by decide) rfl ?_
      obtain rfl := Option.some.inj hf
      exact n_zret C dX4_isAhead_17 (Or.inl rfl)
-- X4 placeOf 
theorem iw4_placeOf_X4 : ∀ w ∈ u_ws RX4 TX4 9, w ∈ wsX4_placeOf := by decide +kernel
abbrev rm4_placeOf : Room := { frames := 2, cells := 0, slots := 0, locals := 45 }
def f4_placeOf_b4 (n : Nat) (oS : OB) (x1 : Int32) : Nat → Int32 → Int32 → Option (Int32)
  | 0, _, _ => none
  | k + 1, v2, v3 =>
    (if (oS.1 0) ≤ v3 then some v2 else (if v3 = x1 then (f4_placeOf_b4 n oS x1 k) v2 (v3 + (nI 1)) else (f4_isAhead n oS v3 x1).bind fun z20 => (if z20 = (0 : Int32) then (f4_placeOf_b4 n oS x1 k) v2 (v3 + (nI 1)) else (f4_placeOf_b4 n oS x1 k) (v2 + (nI 1)) (v3 + (nI 1)))))
def f4_placeOf (n : Nat) (oS : OB) (x1 : Int32) : Option (Int32) :=
  f4_placeOf_b4 n oS x1 n (nI 0) (nI 0)
set_option maxHeartbeats 4000000 in
set_option maxRecDepth 100000 in
theorem t4_placeOf_b4 {l : Launch} {p : Program} {e : Env} {s : State} {m : MethodId} {args : Array Value} {below : List Frame} {meth : Method} {c : Code} {D : va_G} {A : Nat → Prop} {cyI cyO cyJ : ClassId} {aS : Nat → Nat} (C : Cx p s m args meth c D (tyG cyI cyO cyJ) A RX4 cX4_placeOf 4 (some .int) wsX4_placeOf) {z : Int32} (n : Nat) (oS : OB) (x1 : Int32) : ∀ (k : Nat) (v2 : Int32) (v3 : Int32), f4_placeOf_b4 n oS x1 k v2 v3 = some z → Wn p l e rm4_placeOf s m args below meth c D A 4 0 0 (MQ below (Qr D (tyG cyI cyO cyJ) (bX4 cyI aS oS) A (some (.int z))) args s 0 0 A) (bX4 cyI aS oS) 4 [(0, .ref (aS 0)), (1, .int x1), (2, .int v2), (3, .int v3)] [] := by
  intro k
  induction k with
  | zero => intro  v2 v3 hf; cases hf
  | succ k ih =>
    intro  v2 v3 hf
    unfold f4_placeOf_b4 at hf
    refine n_iload_n C dX4_placeOf_4 3 rfl rfl ?_
    refine n_aload_n C dX4_placeOf_5 0 rfl rfl ?_
    refine n_get (N := 9) C dX4_placeOf_6 iw4_placeOf_X4 0 rfl rfl 0 (by decide) (List.mem_of_getElem? (i := 1) rfl) rfl rfl rfl ?_
    refine n_icmp_ge (t := 35) C dX4_placeOf_9 (by decide) rfl (fun h9 => ?_) (fun h9 => ?_)
    · have hf := ip h9 hf
      refine n_iload_n C dX4_placeOf_35 2 rfl rfl ?_
      obtain rfl := Option.some.inj hf
      exact n_iret C dX4_placeOf_36
    · have hf := iq h9 hf
      refine n_iload_n C dX4_placeOf_12 3 rfl rfl ?_
      refine n_iload_n C dX4_placeOf_13 1 rfl rfl ?_
      refine n_icmp_eq (t := 29) C dX4_placeOf_14 (by decide) rfl (fun h14 => ?_) (fun h14 => ?_)
      · have hf := ip h14 hf
        refine n_iinc (v := v3 + (nI 1)) (lv' := [(3, .int (v3 + (nI 1))), (0, .ref (aS 0)), (1, .int x1), (2, .int v2)]) C dX4_placeOf_29 (j := 3) rfl rfl (by decide) rfl rfl ?_
        refine n_goto (t := 4) C dX4_placeOf_32 (by decide) ?_
        exact Wn.sub (lv' := [(0, .ref (aS 0)), (1, .int x1), (2, .int v2), (3, .int (v3 + (nI 1)))]) [1, 2, 3, 0] rfl (ih v2 (v3 + (nI 1)) hf)
      · have hf := iq h14 hf
        refine n_aload_n C dX4_placeOf_17 0 rfl rfl ?_
        refine n_iload_n C dX4_placeOf_18 3 rfl rfl ?_
        refine n_iload_n C dX4_placeOf_19 1 rfl rfl ?_
        obtain ⟨z20, h20, hf⟩ := bi hf
        refine n_callV (As := [.int v3, .int x1]) (rest := []) (w2 := bX4 cyI aS oS) C dX4_placeOf_20 (c4_isAhead l D cyI cyO cyJ aS n oS v3 x1 z20 h20) (cwV 2 C.ts gX4_placeOf_X4_isAhead rfl rfl rfl (by decide +kernel) ⟨Nat.le_of_ble_eq_true rfl, Nat.le_of_ble_eq_true rfl⟩) rfl (q0 := 0) (ci := 4) rfl rfl Frm.self rfl (Nat.le_of_ble_eq_true rfl) ⟨Nat.le_of_ble_eq_true rfl, Nat.le_of_ble_eq_true rfl⟩ rfl ?_
        refine n_if_eq (t := 29) C dX4_placeOf_23 (by decide) rfl (fun h23 => ?_) (fun h23 => ?_)
        · have hf := ip h23 hf
          refine n_iinc (v := v3 + (nI 1)) (lv' := [(3, .int (v3 + (nI 1))), (0, .ref (aS 0)), (1, .int x1), (2, .int v2)]) C dX4_placeOf_29 (j := 3) rfl rfl (by decide) rfl rfl ?_
          refine n_goto (t := 4) C dX4_placeOf_32 (by decide) ?_
          exact Wn.sub (lv' := [(0, .ref (aS 0)), (1, .int x1), (2, .int v2), (3, .int (v3 + (nI 1)))]) [1, 2, 3, 0] rfl (ih v2 (v3 + (nI 1)) hf)
        · have hf := iq h23 hf
          refine n_iinc (v := v2 + (nI 1)) (lv' := [(2, .int (v2 + (nI 1))), (0, .ref (aS 0)), (1, .int x1), (3, .int v3)]) C dX4_placeOf_26 (j := 2) rfl rfl (by decide) rfl rfl ?_
          refine n_iinc (v := v3 + (nI 1)) (lv' := [(3, .int (v3 + (nI 1))), (2, .int (v2 + (nI 1))), (0, .ref (aS 0)), (1, .int x1)]) C dX4_placeOf_29 (j := 3) rfl rfl (by decide) rfl rfl ?_
          refine n_goto (t := 4) C dX4_placeOf_32 (by decide) ?_
          exact Wn.sub (lv' := [(0, .ref (aS 0)), (1, .int x1), (2, .int (v2 + (nI 1))), (3, .int (v3 + (nI 1)))]) [2, 3, 1, 0] rfl (ih (v2 + (nI 1)) (v3 + (nI 1)) hf)
set_option maxHeartbeats 4000000 in
set_option maxRecDepth 100000 in
theorem c4_placeOf (l : Launch) (D : va_G) (cyI cyO cyJ : ClassId) (aS : Nat → Nat) (n : Nat) (oS : OB) (x1 : Int32) (z : Int32) (hf : f4_placeOf n oS x1 = some z) : Ct l D (tyG cyI cyO cyJ) yX4_placeOf wsX4_placeOf rm4_placeOf 0 0 [.ref (aS 0), .int x1] (bX4 cyI aS oS) (bX4 cyI aS oS) (some (.int z)) := by
  refine Ct.of (cc := cX4_placeOf) (nL := 4) (ret := (some .int)) (lv := [(0, .ref (aS 0)), (1, .int x1)]) (by decide +kernel) rfl rfl (Nat.le_of_ble_eq_true rfl) ?_
  intro p e s m args below meth c A C
  have C : Cx p s m args meth c D (tyG cyI cyO cyJ) A RX4 cX4_placeOf 4 (some .int) wsX4_placeOf := C
  unfold f4_placeOf at hf
  refine n_iconst (v := (nI 0)) C dX4_placeOf_0 (by decide) rfl ?_
  refine n_istore_n (lv' := [(2, .int (nI 0)), (0, .ref (aS 0)), (1, .int x1)]) C dX4_placeOf_1 (by decide) rfl rfl ?_
  refine n_iconst (v := (nI 0)) C dX4_placeOf_2 (by decide) rfl ?_
  refine n_istore_n (lv' := [(3, .int (nI 0)), (2, .int (nI 0)), (0, .ref (aS 0)), (1, .int x1)]) C dX4_placeOf_3 (by decide) rfl rfl ?_
  exact Wn.sub (lv' := [(0, .ref (aS 0)), (1, .int x1), (2, .int (nI 0)), (3, .int (nI 0))]) [2, 3, 1, 0] rfl (t4_placeOf_b4 C n oS x1 n (nI 0) (nI 0) hf)
-- X4 property 
theorem iw4_property_X4 : ∀ w ∈ u_ws RX4 TX4 9, w ∈ wsX4_property := by decide +kernel
abbrev rm4_property : Room := { frames := 3, cells := 0, slots := 0, locals := 68 }
def f4_property (n : Nat) (oS : OB) (x1 : Int32) (x2 : Int32) : Option (Int32) :=
  (f4_hasTeam n oS x1).bind fun z2 => (if z2 = (0 : Int32) then some (-1 : Int32) else (if x2 = (nI 0) then (ald 8 (oS.2 1) x1).bind fun x61 => some x61 else (if x2 = (nI 1) then (ald 8 (oS.2 2) x1).bind fun x68 => some x68 else (if x2 = (nI 2) then (ald 8 (oS.2 3) x1).bind fun x75 => some x75 else (if x2 = (nI 3) then (ald 8 (oS.2 4) x1).bind fun x82 => some x82 else (if x2 = (nI 4) then (ald 8 (oS.2 5) x1).bind fun x89 => some x89 else (if x2 = (nI 5) then (ald 8 (oS.2 6) x1).bind fun x96 => some x96 else (if x2 = (nI 6) then (ald 8 (oS.2 7) x1).bind fun x103 => some x103 else (if x2 = (nI 7) then (f4_placeOf n oS x1).bind fun z107 => some z107 else (ald 8 (oS.2 8) x1).bind fun x116 => some x116)))))))))
set_option maxHeartbeats 4000000 in
set_option maxRecDepth 100000 in
theorem c4_property (l : Launch) (D : va_G) (cyI cyO cyJ : ClassId) (aS : Nat → Nat) (n : Nat) (oS : OB) (x1 : Int32) (x2 : Int32) (z : Int32) (hf : f4_property n oS x1 x2 = some z) : Ct l D (tyG cyI cyO cyJ) yX4_property wsX4_property rm4_property 0 0 [.ref (aS 0), .int x1, .int x2] (bX4 cyI aS oS) (bX4 cyI aS oS) (some (.int z)) := by
  refine Ct.of (cc := cX4_property) (nL := 3) (ret := (some .int)) (lv := [(0, .ref (aS 0)), (1, .int x1), (2, .int x2)]) (by decide +kernel) rfl rfl (Nat.le_of_ble_eq_true rfl) ?_
  intro p e s m args below meth c A C
  have C : Cx p s m args meth c D (tyG cyI cyO cyJ) A RX4 cX4_property 3 (some .int) wsX4_property := C
  unfold f4_property at hf
  refine n_aload_n C dX4_property_0 0 rfl rfl ?_
  refine n_iload_n C dX4_property_1 1 rfl rfl ?_
  obtain ⟨z2, h2, hf⟩ := bi hf
  refine n_callV (As := [.int x1]) (rest := []) (w2 := bX4 cyI aS oS) C dX4_property_2 (c4_hasTeam l D cyI cyO cyJ aS n oS x1 z2 h2) (cwV 1 C.ts gX4_property_X4_hasTeam rfl rfl rfl (by decide +kernel) ⟨Nat.le_of_ble_eq_true rfl, Nat.le_of_ble_eq_true rfl⟩) rfl (q0 := 0) (ci := 4) rfl rfl Frm.self rfl (Nat.le_of_ble_eq_true rfl) ⟨Nat.le_of_ble_eq_true rfl, Nat.le_of_ble_eq_true rfl⟩ rfl ?_
  refine n_if_ne (t := 10) C dX4_property_5 (by decide) rfl (fun h5 => ?_) (fun h5 => ?_)
  · have hf := iq h5 hf
    refine n_iload_n C dX4_property_10 2 rfl rfl ?_
    by_cases h11_0 : x2 = (nI 0)
    · have hf := ip h11_0 hf
      refine n_tswIn (off := 45) (t := 56) C dX4_property_11 (by rw [h11_0]; decide) (by rw [h11_0]; decide) (by rw [h11_0]; decide) (by decide) ?_
      refine n_aload_n C dX4_property_56 0 rfl rfl ?_
      refine n_get (N := 9) C dX4_property_57 iw4_property_X4 0 rfl rfl 1 (by decide) (List.mem_of_getElem? (i := 1) rfl) rfl rfl rfl ?_
      refine n_iload_n C dX4_property_60 1 rfl rfl ?_
      obtain ⟨x61, h61, hf⟩ := bi hf
      obtain ⟨h61, e61⟩ := ald_some h61
      refine n_iald C dX4_property_61 1 0 rfl rfl h61 rfl ?_
      rw [← e61]
      obtain rfl := Option.some.inj hf
      exact n_iret C dX4_property_62
    have hf := iq h11_0 hf
    by_cases h11_1 : x2 = (nI 1)
    · have hf := ip h11_1 hf
      refine n_tswIn (off := 52) (t := 63) C dX4_property_11 (by rw [h11_1]; decide) (by rw [h11_1]; decide) (by rw [h11_1]; decide) (by decide) ?_
      refine n_aload_n C dX4_property_63 0 rfl rfl ?_
      refine n_get (N := 9) C dX4_property_64 iw4_property_X4 0 rfl rfl 2 (by decide) (List.mem_of_getElem? (i := 2) rfl) rfl rfl rfl ?_
      refine n_iload_n C dX4_property_67 1 rfl rfl ?_
      obtain ⟨x68, h68, hf⟩ := bi hf
      obtain ⟨h68, e68⟩ := ald_some h68
      refine n_iald C dX4_property_68 2 0 rfl rfl h68 rfl ?_
      rw [← e68]
      obtain rfl := Option.some.inj hf
      exact n_iret C dX4_property_69
    have hf := iq h11_1 hf
    by_cases h11_2 : x2 = (nI 2)
    · have hf := ip h11_2 hf
      refine n_tswIn (off := 59) (t := 70) C dX4_property_11 (by rw [h11_2]; decide) (by rw [h11_2]; decide) (by rw [h11_2]; decide) (by decide) ?_
      refine n_aload_n C dX4_property_70 0 rfl rfl ?_
      refine n_get (N := 9) C dX4_property_71 iw4_property_X4 0 rfl rfl 3 (by decide) (List.mem_of_getElem? (i := 3) rfl) rfl rfl rfl ?_
      refine n_iload_n C dX4_property_74 1 rfl rfl ?_
      obtain ⟨x75, h75, hf⟩ := bi hf
      obtain ⟨h75, e75⟩ := ald_some h75
      refine n_iald C dX4_property_75 3 0 rfl rfl h75 rfl ?_
      rw [← e75]
      obtain rfl := Option.some.inj hf
      exact n_iret C dX4_property_76
    have hf := iq h11_2 hf
    by_cases h11_3 : x2 = (nI 3)
    · have hf := ip h11_3 hf
      refine n_tswIn (off := 66) (t := 77) C dX4_property_11 (by rw [h11_3]; decide) (by rw [h11_3]; decide) (by rw [h11_3]; decide) (by decide) ?_
      refine n_aload_n C dX4_property_77 0 rfl rfl ?_
      refine n_get (N := 9) C dX4_property_78 iw4_property_X4 0 rfl rfl 4 (by decide) (List.mem_of_getElem? (i := 4) rfl) rfl rfl rfl ?_
      refine n_iload_n C dX4_property_81 1 rfl rfl ?_
      obtain ⟨x82, h82, hf⟩ := bi hf
      obtain ⟨h82, e82⟩ := ald_some h82
      refine n_iald C dX4_property_82 4 0 rfl rfl h82 rfl ?_
      rw [← e82]
      obtain rfl := Option.some.inj hf
      exact n_iret C dX4_property_83
    have hf := iq h11_3 hf
    by_cases h11_4 : x2 = (nI 4)
    · have hf := ip h11_4 hf
      refine n_tswIn (off := 73) (t := 84) C dX4_property_11 (by rw [h11_4]; decide) (by rw [h11_4]; decide) (by rw [h11_4]; decide) (by decide) ?_
      refine n_aload_n C dX4_property_84 0 rfl rfl ?_
      refine n_get (N := 9) C dX4_property_85 iw4_property_X4 0 rfl rfl 5 (by decide) (List.mem_of_getElem? (i := 5) rfl) rfl rfl rfl ?_
      refine n_iload_n C dX4_property_88 1 rfl rfl ?_
      obtain ⟨x89, h89, hf⟩ := bi hf
      obtain ⟨h89, e89⟩ := ald_some h89
      refine n_iald C dX4_property_89 5 0 rfl rfl h89 rfl ?_
      rw [← e89]
      obtain rfl := Option.some.inj hf
      exact n_iret C dX4_property_90
    have hf := iq h11_4 hf
    by_cases h11_5 : x2 = (nI 5)
    · have hf := ip h11_5 hf
      refine n_tswIn (off := 80) (t := 91) C dX4_property_11 (by rw [h11_5]; decide) (by rw [h11_5]; decide) (by rw [h11_5]; decide) (by decide) ?_
      refine n_aload_n C dX4_property_91 0 rfl rfl ?_
      refine n_get (N := 9) C dX4_property_92 iw4_property_X4 0 rfl rfl 6 (by decide) (List.mem_of_getElem? (i := 6) rfl) rfl rfl rfl ?_
      refine n_iload_n C dX4_property_95 1 rfl rfl ?_
      obtain ⟨x96, h96, hf⟩ := bi hf
      obtain ⟨h96, e96⟩ := ald_some h96
      refine n_iald C dX4_property_96 6 0 rfl rfl h96 rfl ?_
      rw [← e96]
      obtain rfl := Option.some.inj hf
      exact n_iret C dX4_property_97
    have hf := iq h11_5 hf
    by_cases h11_6 : x2 = (nI 6)
    · have hf := ip h11_6 hf
      refine n_tswIn (off := 87) (t := 98) C dX4_property_11 (by rw [h11_6]; decide) (by rw [h11_6]; decide) (by rw [h11_6]; decide) (by decide) ?_
      refine n_aload_n C dX4_property_98 0 rfl rfl ?_
      refine n_get (N := 9) C dX4_property_99 iw4_property_X4 0 rfl rfl 7 (by decide) (List.mem_of_getElem? (i := 7) rfl) rfl rfl rfl ?_
      refine n_iload_n C dX4_property_102 1 rfl rfl ?_
      obtain ⟨x103, h103, hf⟩ := bi hf
      obtain ⟨h103, e103⟩ := ald_some h103
      refine n_iald C dX4_property_103 7 0 rfl rfl h103 rfl ?_
      rw [← e103]
      obtain rfl := Option.some.inj hf
      exact n_iret C dX4_property_104
    have hf := iq h11_6 hf
    by_cases h11_7 : x2 = (nI 7)
    · have hf := ip h11_7 hf
      refine n_tswIn (off := 94) (t := 105) C dX4_property_11 (by rw [h11_7]; decide) (by rw [h11_7]; decide) (by rw [h11_7]; decide) (by decide) ?_
      refine n_aload_n C dX4_property_105 0 rfl rfl ?_
      refine n_iload_n C dX4_property_106 1 rfl rfl ?_
      obtain ⟨z107, h107, hf⟩ := bi hf
      refine n_callV (As := [.int x1]) (rest := []) (w2 := bX4 cyI aS oS) C dX4_property_107 (c4_placeOf l D cyI cyO cyJ aS n oS x1 z107 h107) (cwV 1 C.ts gX4_property_X4_placeOf rfl rfl rfl (by decide +kernel) ⟨Nat.le_of_ble_eq_true rfl, Nat.le_of_ble_eq_true rfl⟩) rfl (q0 := 0) (ci := 4) rfl rfl Frm.self rfl (Nat.le_of_ble_eq_true rfl) ⟨Nat.le_of_ble_eq_true rfl, Nat.le_of_ble_eq_true rfl⟩ rfl ?_
      obtain rfl := Option.some.inj hf
      exact n_iret C dX4_property_110
    have hf := iq h11_7 hf
    refine n_tswOut (t := 111) C dX4_property_11 (tsw_out 0 8 (fun i hi => by rcases i with _|_|_|_|_|_|_|_|i <;> first | exact h11_0 | exact h11_1 | exact h11_2 | exact h11_3 | exact h11_4 | exact h11_5 | exact h11_6 | exact h11_7 | omega)) (by decide) ?_
    refine n_aload_n C dX4_property_111 0 rfl rfl ?_
    refine n_get (N := 9) C dX4_property_112 iw4_property_X4 0 rfl rfl 8 (by decide) (List.mem_of_getElem? (i := 8) rfl) rfl rfl rfl ?_
    refine n_iload_n C dX4_property_115 1 rfl rfl ?_
    obtain ⟨x116, h116, hf⟩ := bi hf
    obtain ⟨h116, e116⟩ := ald_some h116
    refine n_iald C dX4_property_116 8 0 rfl rfl h116 rfl ?_
    rw [← e116]
    obtain rfl := Option.some.inj hf
    exact n_iret C dX4_property_117
  · have hf := ip h5 hf
    refine n_iconst (v := (-1 : Int32)) C dX4_property_8 (by decide) rfl ?_
    obtain rfl := Option.some.inj hf
    exact n_iret C dX4_property_9
-- X4 allPoints 
theorem iw4_allPoints_X4 : ∀ w ∈ u_ws RX4 TX4 9, w ∈ wsX4_allPoints := by decide +kernel
abbrev rm4_allPoints : Room := { frames := 0, cells := 0, slots := 0, locals := 0 }
def f4_allPoints_b4 (n : Nat) (oS : OB) : Nat → Int32 → Int32 → Option (Int32)
  | 0, _, _ => none
  | k + 1, v1, v2 =>
    (if (oS.1 0) ≤ v2 then some v1 else (ald 8 (oS.2 1) v2).bind fun x18 => (f4_allPoints_b4 n oS k) (v1 + x18) (v2 + (nI 1)))
def f4_allPoints (n : Nat) (oS : OB) : Option (Int32) :=
  f4_allPoints_b4 n oS n (nI 0) (nI 0)
set_option maxHeartbeats 4000000 in
set_option maxRecDepth 100000 in
theorem t4_allPoints_b4 {l : Launch} {p : Program} {e : Env} {s : State} {m : MethodId} {args : Array Value} {below : List Frame} {meth : Method} {c : Code} {D : va_G} {A : Nat → Prop} {cyI cyO cyJ : ClassId} {aS : Nat → Nat} (C : Cx p s m args meth c D (tyG cyI cyO cyJ) A RX4 cX4_allPoints 3 (some .int) wsX4_allPoints) {z : Int32} (n : Nat) (oS : OB) : ∀ (k : Nat) (v1 : Int32) (v2 : Int32), f4_allPoints_b4 n oS k v1 v2 = some z → Wn p l e rm4_allPoints s m args below meth c D A 3 0 0 (MQ below (Qr D (tyG cyI cyO cyJ) (bX4 cyI aS oS) A (some (.int z))) args s 0 0 A) (bX4 cyI aS oS) 4 [(0, .ref (aS 0)), (1, .int v1), (2, .int v2)] [] := by
  intro k
  induction k with
  | zero => intro  v1 v2 hf; cases hf
  | succ k ih =>
    intro  v1 v2 hf
    unfold f4_allPoints_b4 at hf
    refine n_iload_n C dX4_allPoints_4 2 rfl rfl ?_
    refine n_aload_n C dX4_allPoints_5 0 rfl rfl ?_
    refine n_get (N := 9) C dX4_allPoints_6 iw4_allPoints_X4 0 rfl rfl 0 (by decide) (List.mem_of_getElem? (i := 1) rfl) rfl rfl rfl ?_
    refine n_icmp_ge (t := 27) C dX4_allPoints_9 (by decide) rfl (fun h9 => ?_) (fun h9 => ?_)
    · have hf := ip h9 hf
      refine n_iload_n C dX4_allPoints_27 1 rfl rfl ?_
      obtain rfl := Option.some.inj hf
      exact n_iret C dX4_allPoints_28
    · have hf := iq h9 hf
      refine n_iload_n C dX4_allPoints_12 1 rfl rfl ?_
      refine n_aload_n C dX4_allPoints_13 0 rfl rfl ?_
      refine n_get (N := 9) C dX4_allPoints_14 iw4_allPoints_X4 0 rfl rfl 1 (by decide) (List.mem_of_getElem? (i := 2) rfl) rfl rfl rfl ?_
      refine n_iload_n C dX4_allPoints_17 2 rfl rfl ?_
      obtain ⟨x18, h18, hf⟩ := bi hf
      obtain ⟨h18, e18⟩ := ald_some h18
      refine n_iald C dX4_allPoints_18 1 0 rfl rfl h18 rfl ?_
      rw [← e18]
      refine n_iadd C dX4_allPoints_19 rfl ?_
      refine n_istore_n (lv' := [(1, .int (v1 + x18)), (0, .ref (aS 0)), (2, .int v2)]) C dX4_allPoints_20 (by decide) rfl rfl ?_
      refine n_iinc (v := v2 + (nI 1)) (lv' := [(2, .int (v2 + (nI 1))), (1, .int (v1 + x18)), (0, .ref (aS 0))]) C dX4_allPoints_21 (j := 2) rfl rfl (by decide) rfl rfl ?_
      refine n_goto (t := 4) C dX4_allPoints_24 (by decide) ?_
      exact Wn.sub (lv' := [(0, .ref (aS 0)), (1, .int (v1 + x18)), (2, .int (v2 + (nI 1)))]) [2, 1, 0] rfl (ih (v1 + x18) (v2 + (nI 1)) hf)
set_option maxHeartbeats 4000000 in
set_option maxRecDepth 100000 in
theorem c4_allPoints (l : Launch) (D : va_G) (cyI cyO cyJ : ClassId) (aS : Nat → Nat) (n : Nat) (oS : OB) (z : Int32) (hf : f4_allPoints n oS = some z) : Ct l D (tyG cyI cyO cyJ) yX4_allPoints wsX4_allPoints rm4_allPoints 0 0 [.ref (aS 0)] (bX4 cyI aS oS) (bX4 cyI aS oS) (some (.int z)) := by
  refine Ct.of (cc := cX4_allPoints) (nL := 3) (ret := (some .int)) (lv := [(0, .ref (aS 0))]) (by decide +kernel) rfl rfl (Nat.le_of_ble_eq_true rfl) ?_
  intro p e s m args below meth c A C
  have C : Cx p s m args meth c D (tyG cyI cyO cyJ) A RX4 cX4_allPoints 3 (some .int) wsX4_allPoints := C
  unfold f4_allPoints at hf
  refine n_iconst (v := (nI 0)) C dX4_allPoints_0 (by decide) rfl ?_
  refine n_istore_n (lv' := [(1, .int (nI 0)), (0, .ref (aS 0))]) C dX4_allPoints_1 (by decide) rfl rfl ?_
  refine n_iconst (v := (nI 0)) C dX4_allPoints_2 (by decide) rfl ?_
  refine n_istore_n (lv' := [(2, .int (nI 0)), (1, .int (nI 0)), (0, .ref (aS 0))]) C dX4_allPoints_3 (by decide) rfl rfl ?_
  exact Wn.sub (lv' := [(0, .ref (aS 0)), (1, .int (nI 0)), (2, .int (nI 0))]) [2, 1, 0] rfl (t4_allPoints_b4 C n oS n (nI 0) (nI 0) hf)
-- X4 teamAt 
theorem iw4_teamAt_X4 : ∀ w ∈ u_ws RX4 TX4 9, w ∈ wsX4_teamAt := by decide +kernel
abbrev rm4_teamAt : Room := { frames := 3, cells := 0, slots := 0, locals := 68 }
def f4_teamAt_b2 (n : Nat) (oS : OB) (x1 : Int32) : Nat → Int32 → Option (Int32)
  | 0, _ => none
  | k + 1, v2 =>
    (if (oS.1 0) ≤ v2 then some (-1 : Int32) else (f4_placeOf n oS v2).bind fun z12 => (if z12 = x1 then some v2 else (f4_teamAt_b2 n oS x1 k) (v2 + (nI 1))))
def f4_teamAt (n : Nat) (oS : OB) (x1 : Int32) : Option (Int32) :=
  f4_teamAt_b2 n oS x1 n (nI 0)
set_option maxHeartbeats 4000000 in
set_option maxRecDepth 100000 in
theorem t4_teamAt_b2 {l : Launch} {p : Program} {e : Env} {s : State} {m : MethodId} {args : Array Value} {below : List Frame} {meth : Method} {c : Code} {D : va_G} {A : Nat → Prop} {cyI cyO cyJ : ClassId} {aS : Nat → Nat} (C : Cx p s m args meth c D (tyG cyI cyO cyJ) A RX4 cX4_teamAt 3 (some .int) wsX4_teamAt) {z : Int32} (n : Nat) (oS : OB) (x1 : Int32) : ∀ (k : Nat) (v2 : Int32), f4_teamAt_b2 n oS x1 k v2 = some z → Wn p l e rm4_teamAt s m args below meth c D A 3 0 0 (MQ below (Qr D (tyG cyI cyO cyJ) (bX4 cyI aS oS) A (some (.int z))) args s 0 0 A) (bX4 cyI aS oS) 2 [(0, .ref (aS 0)), (1, .int x1), (2, .int v2)] [] := by
  intro k
  induction k with
  | zero => intro  v2 hf; cases hf
  | succ k ih =>
    intro  v2 hf
    unfold f4_teamAt_b2 at hf
    refine n_iload_n C dX4_teamAt_2 2 rfl rfl ?_
    refine n_aload_n C dX4_teamAt_3 0 rfl rfl ?_
    refine n_get (N := 9) C dX4_teamAt_4 iw4_teamAt_X4 0 rfl rfl 0 (by decide) (List.mem_of_getElem? (i := 1) rfl) rfl rfl rfl ?_
    refine n_icmp_ge (t := 27) C dX4_teamAt_7 (by decide) rfl (fun h7 => ?_) (fun h7 => ?_)
    · have hf := ip h7 hf
      refine n_iconst (v := (-1 : Int32)) C dX4_teamAt_27 (by decide) rfl ?_
      obtain rfl := Option.some.inj hf
      exact n_iret C dX4_teamAt_28
    · have hf := iq h7 hf
      refine n_aload_n C dX4_teamAt_10 0 rfl rfl ?_
      refine n_iload_n C dX4_teamAt_11 2 rfl rfl ?_
      obtain ⟨z12, h12, hf⟩ := bi hf
      refine n_callV (As := [.int v2]) (rest := []) (w2 := bX4 cyI aS oS) C dX4_teamAt_12 (c4_placeOf l D cyI cyO cyJ aS n oS v2 z12 h12) (cwV 1 C.ts gX4_teamAt_X4_placeOf rfl rfl rfl (by decide +kernel) ⟨Nat.le_of_ble_eq_true rfl, Nat.le_of_ble_eq_true rfl⟩) rfl (q0 := 0) (ci := 4) rfl rfl Frm.self rfl (Nat.le_of_ble_eq_true rfl) ⟨Nat.le_of_ble_eq_true rfl, Nat.le_of_ble_eq_true rfl⟩ rfl ?_
      refine n_iload_n C dX4_teamAt_15 1 rfl rfl ?_
      refine n_icmp_ne (t := 21) C dX4_teamAt_16 (by decide) rfl (fun h16 => ?_) (fun h16 => ?_)
      · have hf := iq h16 hf
        refine n_iinc (v := v2 + (nI 1)) (lv' := [(2, .int (v2 + (nI 1))), (0, .ref (aS 0)), (1, .int x1)]) C dX4_teamAt_21 (j := 2) rfl rfl (by decide) rfl rfl ?_
        refine n_goto (t := 2) C dX4_teamAt_24 (by decide) ?_
        exact Wn.sub (lv' := [(0, .ref (aS 0)), (1, .int x1), (2, .int (v2 + (nI 1)))]) [1, 2, 0] rfl (ih (v2 + (nI 1)) hf)
      · have hf := ip h16 hf
        refine n_iload_n C dX4_teamAt_19 2 rfl rfl ?_
        obtain rfl := Option.some.inj hf
        exact n_iret C dX4_teamAt_20
set_option maxHeartbeats 4000000 in
set_option maxRecDepth 100000 in
theorem c4_teamAt (l : Launch) (D : va_G) (cyI cyO cyJ : ClassId) (aS : Nat → Nat) (n : Nat) (oS : OB) (x1 : Int32) (z : Int32) (hf : f4_teamAt n oS x1 = some z) : Ct l D (tyG cyI cyO cyJ) yX4_teamAt wsX4_teamAt rm4_teamAt 0 0 [.ref (aS 0), .int x1] (bX4 cyI aS oS) (bX4 cyI aS oS) (some (.int z)) := by
  refine Ct.of (cc := cX4_teamAt) (nL := 3) (ret := (some .int)) (lv := [(0, .ref (aS 0)), (1, .int x1)]) (by decide +kernel) rfl rfl (Nat.le_of_ble_eq_true rfl) ?_
  intro p e s m args below meth c A C
  have C : Cx p s m args meth c D (tyG cyI cyO cyJ) A RX4 cX4_teamAt 3 (some .int) wsX4_teamAt := C
  unfold f4_teamAt at hf
  refine n_iconst (v := (nI 0)) C dX4_teamAt_0 (by decide) rfl ?_
  refine n_istore_n (lv' := [(2, .int (nI 0)), (0, .ref (aS 0)), (1, .int x1)]) C dX4_teamAt_1 (by decide) rfl rfl ?_
  exact Wn.sub (lv' := [(0, .ref (aS 0)), (1, .int x1), (2, .int (nI 0))]) [1, 2, 0] rfl (t4_teamAt_b2 C n oS x1 n (nI 0) hf)
-- X4 isOutOfReach 
theorem iw4_isOutOfReach_X4 : ∀ w ∈ u_ws RX4 TX4 9, w ∈ wsX4_isOutOfReach := by decide +kernel
abbrev rm4_isOutOfReach : Room := { frames := 1, cells := 0, slots := 0, locals := 21 }
def f4_isOutOfReach_b12 (n : Nat) (oS : OB) (x1 : Int32) (x2 : Int32) : Nat → Int32 → Option (Int32)
  | 0, _ => none
  | k + 1, v3 =>
    (if (oS.1 0) ≤ v3 then some (nI 1) else (if v3 = x1 then (f4_isOutOfReach_b12 n oS x1 x2 k) (v3 + (nI 1)) else (ald 8 (oS.2 1) v3).bind fun x30 => (ald 8 (oS.2 8) v3).bind fun x36 => (ald 8 (oS.2 1) x1).bind fun x45 => (if (x30 + (x36 * x2)) < x45 then (f4_isOutOfReach_b12 n oS x1 x2 k) (v3 + (nI 1)) else some (nI 0))))
def f4_isOutOfReach (n : Nat) (oS : OB) (x1 : Int32) (x2 : Int32) : Option (Int32) :=
  (f4_hasTeam n oS x1).bind fun z2 => (if z2 = (0 : Int32) then some (nI 0) else f4_isOutOfReach_b12 n oS x1 x2 n (nI 0))
set_option maxHeartbeats 4000000 in
set_option maxRecDepth 100000 in
theorem t4_isOutOfReach_b12 {l : Launch} {p : Program} {e : Env} {s : State} {m : MethodId} {args : Array Value} {below : List Frame} {meth : Method} {c : Code} {D : va_G} {A : Nat → Prop} {cyI cyO cyJ : ClassId} {aS : Nat → Nat} (C : Cx p s m args meth c D (tyG cyI cyO cyJ) A RX4 cX4_isOutOfReach 4 (some .boolean) wsX4_isOutOfReach) {z : Int32} (n : Nat) (oS : OB) (x1 : Int32) (x2 : Int32) : ∀ (k : Nat) (v3 : Int32), f4_isOutOfReach_b12 n oS x1 x2 k v3 = some z → Wn p l e rm4_isOutOfReach s m args below meth c D A 4 0 0 (MQ below (Qr D (tyG cyI cyO cyJ) (bX4 cyI aS oS) A (some (.int z))) args s 0 0 A) (bX4 cyI aS oS) 12 [(0, .ref (aS 0)), (1, .int x1), (2, .int x2), (3, .int v3)] [] := by
  intro k
  induction k with
  | zero => intro  v3 hf; cases hf
  | succ k ih =>
    intro  v3 hf
    unfold f4_isOutOfReach_b12 at hf
    refine n_iload_n C dX4_isOutOfReach_12 3 rfl rfl ?_
    refine n_aload_n C dX4_isOutOfReach_13 0 rfl rfl ?_
    refine n_get (N := 9) C dX4_isOutOfReach_14 iw4_isOutOfReach_X4 0 rfl rfl 0 (by decide) (List.mem_of_getElem? (i := 1) rfl) rfl rfl rfl ?_
    refine n_icmp_ge (t := 57) C dX4_isOutOfReach_17 (by decide) rfl (fun h17 => ?_) (fun h17 => ?_)
    · have hf := ip h17 hf
      refine n_iconst (v := (nI 1)) C dX4_isOutOfReach_57 (by decide) rfl ?_
      obtain rfl := Option.some.inj hf
      exact n_zret C dX4_isOutOfReach_58 (Or.inr rfl)
    · have hf := iq h17 hf
      refine n_iload_n C dX4_isOutOfReach_20 3 rfl rfl ?_
      refine n_iload_n C dX4_isOutOfReach_21 1 rfl rfl ?_
      refine n_icmp_eq (t := 51) C dX4_isOutOfReach_22 (by decide) rfl (fun h22 => ?_) (fun h22 => ?_)
      · have hf := ip h22 hf
        refine n_iinc (v := v3 + (nI 1)) (lv' := [(3, .int (v3 + (nI 1))), (0, .ref (aS 0)), (1, .int x1), (2, .int x2)]) C dX4_isOutOfReach_51 (j := 3) rfl rfl (by decide) rfl rfl ?_
        refine n_goto (t := 12) C dX4_isOutOfReach_54 (by decide) ?_
        exact Wn.sub (lv' := [(0, .ref (aS 0)), (1, .int x1), (2, .int x2), (3, .int (v3 + (nI 1)))]) [1, 2, 3, 0] rfl (ih (v3 + (nI 1)) hf)
      · have hf := iq h22 hf
        refine n_aload_n C dX4_isOutOfReach_25 0 rfl rfl ?_
        refine n_get (N := 9) C dX4_isOutOfReach_26 iw4_isOutOfReach_X4 0 rfl rfl 1 (by decide) (List.mem_of_getElem? (i := 2) rfl) rfl rfl rfl ?_
        refine n_iload_n C dX4_isOutOfReach_29 3 rfl rfl ?_
        obtain ⟨x30, h30, hf⟩ := bi hf
        obtain ⟨h30, e30⟩ := ald_some h30
        refine n_iald C dX4_isOutOfReach_30 1 0 rfl rfl h30 rfl ?_
        rw [← e30]
        refine n_aload_n C dX4_isOutOfReach_31 0 rfl rfl ?_
        refine n_get (N := 9) C dX4_isOutOfReach_32 iw4_isOutOfReach_X4 0 rfl rfl 8 (by decide) (List.mem_of_getElem? (i := 3) rfl) rfl rfl rfl ?_
        refine n_iload_n C dX4_isOutOfReach_35 3 rfl rfl ?_
        obtain ⟨x36, h36, hf⟩ := bi hf
        obtain ⟨h36, e36⟩ := ald_some h36
        refine n_iald C dX4_isOutOfReach_36 8 0 rfl rfl h36 rfl ?_
        rw [← e36]
        refine n_iload_n C dX4_isOutOfReach_37 2 rfl rfl ?_
        refine n_imul C dX4_isOutOfReach_38 rfl ?_
        refine n_iadd C dX4_isOutOfReach_39 rfl ?_
        refine n_aload_n C dX4_isOutOfReach_40 0 rfl rfl ?_
        refine n_get (N := 9) C dX4_isOutOfReach_41 iw4_isOutOfReach_X4 0 rfl rfl 1 (by decide) (List.mem_of_getElem? (i := 2) rfl) rfl rfl rfl ?_
        refine n_iload_n C dX4_isOutOfReach_44 1 rfl rfl ?_
        obtain ⟨x45, h45, hf⟩ := bi hf
        obtain ⟨h45, e45⟩ := ald_some h45
        refine n_iald C dX4_isOutOfReach_45 1 0 rfl rfl h45 rfl ?_
        rw [← e45]
        refine n_icmp_lt (t := 51) C dX4_isOutOfReach_46 (by decide) rfl (fun h46 => ?_) (fun h46 => ?_)
        · have hf := ip h46 hf
          refine n_iinc (v := v3 + (nI 1)) (lv' := [(3, .int (v3 + (nI 1))), (0, .ref (aS 0)), (1, .int x1), (2, .int x2)]) C dX4_isOutOfReach_51 (j := 3) rfl rfl (by decide) rfl rfl ?_
          refine n_goto (t := 12) C dX4_isOutOfReach_54 (by decide) ?_
          exact Wn.sub (lv' := [(0, .ref (aS 0)), (1, .int x1), (2, .int x2), (3, .int (v3 + (nI 1)))]) [1, 2, 3, 0] rfl (ih (v3 + (nI 1)) hf)
        · have hf := iq h46 hf
          refine n_iconst (v := (nI 0)) C dX4_isOutOfReach_49 (by decide) rfl ?_
          obtain rfl := Option.some.inj hf
          exact n_zret C dX4_isOutOfReach_50 (Or.inl rfl)
set_option maxHeartbeats 4000000 in
set_option maxRecDepth 100000 in
theorem c4_isOutOfReach (l : Launch) (D : va_G) (cyI cyO cyJ : ClassId) (aS : Nat → Nat) (n : Nat) (oS : OB) (x1 : Int32) (x2 : Int32) (z : Int32) (hf : f4_isOutOfReach n oS x1 x2 = some z) : Ct l D (tyG cyI cyO cyJ) yX4_isOutOfReach wsX4_isOutOfReach rm4_isOutOfReach 0 0 [.ref (aS 0), .int x1, .int x2] (bX4 cyI aS oS) (bX4 cyI aS oS) (some (.int z)) := by
  refine Ct.of (cc := cX4_isOutOfReach) (nL := 4) (ret := (some .boolean)) (lv := [(0, .ref (aS 0)), (1, .int x1), (2, .int x2)]) (by decide +kernel) rfl rfl (Nat.le_of_ble_eq_true rfl) ?_
  intro p e s m args below meth c A C
  have C : Cx p s m args meth c D (tyG cyI cyO cyJ) A RX4 cX4_isOutOfReach 4 (some .boolean) wsX4_isOutOfReach := C
  unfold f4_isOutOfReach at hf
  refine n_aload_n C dX4_isOutOfReach_0 0 rfl rfl ?_
  refine n_iload_n C dX4_isOutOfReach_1 1 rfl rfl ?_
  obtain ⟨z2, h2, hf⟩ := bi hf
  refine n_callV (As := [.int x1]) (rest := []) (w2 := bX4 cyI aS oS) C dX4_isOutOfReach_2 (c4_hasTeam l D cyI cyO cyJ aS n oS x1 z2 h2) (cwV 1 C.ts gX4_isOutOfReach_X4_hasTeam rfl rfl rfl (by decide +kernel) ⟨Nat.le_of_ble_eq_true rfl, Nat.le_of_ble_eq_true rfl⟩) rfl (q0 := 0) (ci := 4) rfl rfl Frm.self rfl (Nat.le_of_ble_eq_true rfl) ⟨Nat.le_of_ble_eq_true rfl, Nat.le_of_ble_eq_true rfl⟩ rfl ?_
  refine n_if_ne (t := 10) C dX4_isOutOfReach_5 (by decide) rfl (fun h5 => ?_) (fun h5 => ?_)
  · have hf := iq h5 hf
    refine n_iconst (v := (nI 0)) C dX4_isOutOfReach_10 (by decide) rfl ?_
    refine n_istore_n (lv' := [(3, .int (nI 0)), (0, .ref (aS 0)), (1, .int x1), (2, .int x2)]) C dX4_isOutOfReach_11 (by decide) rfl rfl ?_
    exact Wn.sub (lv' := [(0, .ref (aS 0)), (1, .int x1), (2, .int x2), (3, .int (nI 0))]) [1, 2, 3, 0] rfl (t4_isOutOfReach_b12 C n oS x1 x2 n (nI 0) hf)
  · have hf := ip h5 hf
    refine n_iconst (v := (nI 0)) C dX4_isOutOfReach_8 (by decide) rfl ?_
    obtain rfl := Option.some.inj hf
    exact n_zret C dX4_isOutOfReach_9 (Or.inl rfl)
-- X4 shareOfLast 
theorem iw4_shareOfLast_X4 : ∀ w ∈ u_ws RX4 TX4 9, w ∈ wsX4_shareOfLast := by decide +kernel
abbrev rm4_shareOfLast : Room := { frames := 4, cells := 0, slots := 0, locals := 90 }
def f4_shareOfLast (n : Nat) (oS : OB) : Option (UInt64) :=
  (f4_teamAt n oS (nI 0)).bind fun z3 => (f4_property n oS z3 (nI 0)).bind fun z7 => (f4_teamAt n oS ((oS.1 0) - (nI 1))).bind fun z19 => (f4_property n oS z19 (nI 0)).bind fun z23 => (if (0 : Int32) < z7 then (nn (FP.ddiv (FP.i2d z23) (FP.i2d z7))).bind fun _ => some (FP.ddiv (FP.i2d z23) (FP.i2d z7)) else some FP.dconst1)
set_option maxHeartbeats 4000000 in
set_option maxRecDepth 100000 in
theorem c4_shareOfLast (l : Launch) (D : va_G) (cyI cyO cyJ : ClassId) (aS : Nat → Nat) (n : Nat) (oS : OB) (z : UInt64) (hf : f4_shareOfLast n oS = some z) : Ct l D (tyG cyI cyO cyJ) yX4_shareOfLast wsX4_shareOfLast rm4_shareOfLast 0 0 [.ref (aS 0)] (bX4 cyI aS oS) (bX4 cyI aS oS) (some (.double z)) := by
  refine Ct.of (cc := cX4_shareOfLast) (nL := 3) (ret := (some .double)) (lv := [(0, .ref (aS 0))]) (by decide +kernel) rfl rfl (Nat.le_of_ble_eq_true rfl) ?_
  intro p e s m args below meth c A C
  have C : Cx p s m args meth c D (tyG cyI cyO cyJ) A RX4 cX4_shareOfLast 3 (some .double) wsX4_shareOfLast := C
  unfold f4_shareOfLast at hf
  refine n_aload_n C dX4_shareOfLast_0 0 rfl rfl ?_
  refine n_aload_n C dX4_shareOfLast_1 0 rfl rfl ?_
  refine n_iconst (v := (nI 0)) C dX4_shareOfLast_2 (by decide) rfl ?_
  obtain ⟨z3, h3, hf⟩ := bi hf
  refine n_callV (As := [.int (nI 0)]) (rest := [.ref (aS 0)]) (w2 := bX4 cyI aS oS) C dX4_shareOfLast_3 (c4_teamAt l D cyI cyO cyJ aS n oS (nI 0) z3 h3) (cwV 1 C.ts gX4_shareOfLast_X4_teamAt rfl rfl rfl (by decide +kernel) ⟨Nat.le_of_ble_eq_true rfl, Nat.le_of_ble_eq_true rfl⟩) rfl (q0 := 0) (ci := 4) rfl rfl Frm.self rfl (Nat.le_of_ble_eq_true rfl) ⟨Nat.le_of_ble_eq_true rfl, Nat.le_of_ble_eq_true rfl⟩ rfl ?_
  refine n_iconst (v := (nI 0)) C dX4_shareOfLast_6 (by decide) rfl ?_
  obtain ⟨z7, h7, hf⟩ := bi hf
  refine n_callV (As := [.int z3, .int (nI 0)]) (rest := []) (w2 := bX4 cyI aS oS) C dX4_shareOfLast_7 (c4_property l D cyI cyO cyJ aS n oS z3 (nI 0) z7 h7) (cwV 2 C.ts gX4_shareOfLast_X4_property rfl rfl rfl (by decide +kernel) ⟨Nat.le_of_ble_eq_true rfl, Nat.le_of_ble_eq_true rfl⟩) rfl (q0 := 0) (ci := 4) rfl rfl Frm.self rfl (Nat.le_of_ble_eq_true rfl) ⟨Nat.le_of_ble_eq_true rfl, Nat.le_of_ble_eq_true rfl⟩ rfl ?_
  refine n_istore_n (lv' := [(1, .int z7), (0, .ref (aS 0))]) C dX4_shareOfLast_10 (by decide) rfl rfl ?_
  refine n_aload_n C dX4_shareOfLast_11 1 rfl rfl ?_
  refine n_aload_n C dX4_shareOfLast_12 1 rfl rfl ?_
  refine n_aload_n C dX4_shareOfLast_13 1 rfl rfl ?_
  refine n_get (N := 9) C dX4_shareOfLast_14 iw4_shareOfLast_X4 0 rfl rfl 0 (by decide) (List.mem_of_getElem? (i := 1) rfl) rfl rfl rfl ?_
  refine n_iconst (v := (nI 1)) C dX4_shareOfLast_17 (by decide) rfl ?_
  refine n_isub C dX4_shareOfLast_18 rfl ?_
  obtain ⟨z19, h19, hf⟩ := bi hf
  refine n_callV (As := [.int ((oS.1 0) - (nI 1))]) (rest := [.ref (aS 0)]) (w2 := bX4 cyI aS oS) C dX4_shareOfLast_19 (c4_teamAt l D cyI cyO cyJ aS n oS ((oS.1 0) - (nI 1)) z19 h19) (cwV 1 C.ts gX4_shareOfLast_X4_teamAt rfl rfl rfl (by decide +kernel) ⟨Nat.le_of_ble_eq_true rfl, Nat.le_of_ble_eq_true rfl⟩) rfl (q0 := 0) (ci := 4) rfl rfl Frm.self rfl (Nat.le_of_ble_eq_true rfl) ⟨Nat.le_of_ble_eq_true rfl, Nat.le_of_ble_eq_true rfl⟩ rfl ?_
  refine n_iconst (v := (nI 0)) C dX4_shareOfLast_22 (by decide) rfl ?_
  obtain ⟨z23, h23, hf⟩ := bi hf
  refine n_callV (As := [.int z19, .int (nI 0)]) (rest := []) (w2 := bX4 cyI aS oS) C dX4_shareOfLast_23 (c4_property l D cyI cyO cyJ aS n oS z19 (nI 0) z23 h23) (cwV 2 C.ts gX4_shareOfLast_X4_property rfl rfl rfl (by decide +kernel) ⟨Nat.le_of_ble_eq_true rfl, Nat.le_of_ble_eq_true rfl⟩) rfl (q0 := 0) (ci := 4) rfl rfl Frm.self rfl (Nat.le_of_ble_eq_true rfl) ⟨Nat.le_of_ble_eq_true rfl, Nat.le_of_ble_eq_true rfl⟩ rfl ?_
  refine n_istore_n (lv' := [(2, .int z23), (1, .int z7), (0, .ref (aS 0))]) C dX4_shareOfLast_26 (by decide) rfl rfl ?_
  refine n_iload_n C dX4_shareOfLast_27 1 rfl rfl ?_
  refine n_if_gt (t := 35) C dX4_shareOfLast_28 (by decide) rfl (fun h28 => ?_) (fun h28 => ?_)
  · have hf := ip h28 hf
    refine n_iload_n C dX4_shareOfLast_35 0 rfl rfl ?_
    refine n_i2d C dX4_shareOfLast_36 rfl ?_
    refine n_iload_n C dX4_shareOfLast_37 1 rfl rfl ?_
    refine n_i2d C dX4_shareOfLast_38 rfl ?_
    obtain ⟨u39, h39, hf⟩ := bi hf
    refine n_ddiv C dX4_shareOfLast_39 (nn_some h39).1 rfl ?_
    obtain rfl := Option.some.inj hf
    exact n_dret C dX4_shareOfLast_40
  · have hf := iq h28 hf
    refine n_dconst1 C dX4_shareOfLast_31 rfl ?_
    refine n_goto (t := 40) C dX4_shareOfLast_32 (by decide) ?_
    obtain rfl := Option.some.inj hf
    exact n_dret C dX4_shareOfLast_40
