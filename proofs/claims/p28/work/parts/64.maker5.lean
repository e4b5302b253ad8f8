/-! THE FACE IS MADE -/
theorem perm_face {α : Type} (o L S G H B V U : List α) : (o ++ ((((((([] ++ L) ++ S) ++ G) ++ H) ++ B) ++ V) ++ U)).Perm (o ++ (S ++ (G ++ (L ++ (U ++ (V ++ (B ++ H))))))) := by
  classical
  refine List.perm_iff_count.mpr (fun a => ?_)
  simp only [List.count_append, List.count_nil]
  omega
theorem iwX5_init0 : ∀ w ∈ u_ws RX0 TX0 2, w ∈ wsX5_init := by decide +kernel
theorem iwX5_init1 : ∀ w ∈ u_ws RX1 TX1 15, w ∈ wsX5_init := by decide +kernel
theorem iwX5_init2 : ∀ w ∈ u_ws RX2 TX2 8, w ∈ wsX5_init := by decide +kernel
theorem iwX5_init3 : ∀ w ∈ u_ws RX3 TX3 4, w ∈ wsX5_init := by decide +kernel
theorem iwX5_init4 : ∀ w ∈ u_ws RX4 TX4 9, w ∈ wsX5_init := by decide +kernel
theorem iwX5_init5 : ∀ w ∈ u_ws RX5 TX5 7, w ∈ wsX5_init := by decide +kernel
abbrev rmX5_init : Room := { frames := 7, cells := 135, slots := 2562, locals := 170 }
theorem hfX5 : ∀ j, j < 7 → defaultValue (tyX5 j) = vp_V [.null, .null, .null, .null, .null, .null, .null] j := fun j hj => by
  rcases (show j = 0 ∨ j = 1 ∨ j = 2 ∨ j = 3 ∨ j = 4 ∨ j = 5 ∨ j = 6 by omega) with rfl | rfl | rfl | rfl | rfl | rfl | rfl <;> rfl
set_option maxHeartbeats 4000000 in
set_option maxRecDepth 100000 in
theorem cX5_new (l : Launch) (D : va_G) (cyI cyO cyJ : ClassId) (h0 : Nat) (n : Nat) (z : OB) (hz : f1_restart n oS1 (4 : Int32) = some z) : Cn l D (tyG cyI cyO cyJ) yX5_init wsX5_init rmX5_init 135 2562 [.ref h0] [(h0, .inr (5, [.null, .null, .null, .null, .null, .null, .null]))] (fun w' => ∃ (aS aG aL aU aV aB aH : Nat → Nat) (ad : Nat → Nat → Nat), w' = [(h0, .inr (5, [.ref (aL 0), .ref (aS 0), .ref (aG 0), .ref (aH 0), .ref (aB 0), .ref (aV 0), .ref (aU 0)]))] ++ (bX4 cyI aS oZ ++ (bX3 cyI aG oZ ++ (bX1 cyI aL z ++ (bX4 cyI aU oZ ++ (bX1 cyI aV z ++ (bX2 cyI aB oZ ++ ((aH 0, .inr (0, [.int (0 : Int32), .ref (aH 2)])) :: (aH 2, .inl (cyO, 6, .inr (.inr (.inr (.inr (sF ad)))))) :: (bX1 cyI (ad 0) z ++ (bX1 cyI (ad 1) z ++ (bX1 cyI (ad 2) z ++ (bX1 cyI (ad 3) z ++ (bX1 cyI (ad 4) z ++ bX1 cyI (ad 5) z))))))))))))) := by
  refine Cn.of (cc := cX5_init) (nL := 1) (lv := [(0, .ref h0)]) (by decide +kernel) rfl rfl rfl (Nat.le_of_ble_eq_true rfl) ?_
  intro p e s m args below meth c A C CE hin
  have C : Cx p s m args meth c D (tyG cyI cyO cyJ) A RX5 cX5_init 1 none wsX5_init := C
  refine n_aload_n C dX5_init_0 0 rfl rfl ?_
  refine n_objInit C dX5_init_1 (List.mem_of_getElem? (i := 1) rfl) (List.mem_of_getElem? (i := 2) rfl) (List.mem_of_getElem? (i := 3) rfl) (Nat.le_of_ble_eq_true rfl) (Nat.le_of_ble_eq_true rfl) rfl ?_
  refine Wn.cast (w := [(h0, .inr (5, [.null, .null, .null, .null, .null, .null, .null]))] ++ ([] : va_W)) rfl ?_
  refine n_aload_n C dX5_init_4 0 rfl rfl ?_
  refine n_new (ci := 1) (T := TX1) (N := 15) C dX5_init_5 iwX5_init1 tyX1_ok (List.mem_of_getElem? (i := 4) rfl) (List.mem_of_getElem? (i := 5) rfl) (List.mem_of_getElem? (i := 6) rfl) rfl hfX1 (Nat.le_of_ble_eq_true rfl) (Nat.le_of_ble_eq_true rfl) rfl (fun h1 => ?_)
  refine n_dup C dX5_init_8 rfl rfl ?_
  refine n_callIM (rest := [.ref h1, .ref h0]) C CE dX5_init_9 (cX1_new l D cyI cyO cyJ h1 n z hz) (cwI 0 C.ts gX5_init_X1_init rfl rfl rfl (C.ts _ (List.mem_of_getElem? (i := 6) rfl)) (C.ts _ (List.mem_of_getElem? (i := 26) rfl)) (C.ts _ (List.mem_of_getElem? (i := 27) rfl)) rfl (by decide +kernel) ⟨(Nat.le_of_ble_eq_true rfl), (Nat.le_of_ble_eq_true rfl)⟩) List.perm_append_comm rfl (Nat.le_of_ble_eq_true rfl) ⟨(Nat.le_of_ble_eq_true rfl), (Nat.le_of_ble_eq_true rfl)⟩ rfl ?_
  rintro w' ⟨aL, rfl, rfl⟩
  refine n_putF (w2 := bX1 cyI aL z ++ ([(h0, .inr (5, [.ref (aL 0), .null, .null, .null, .null, .null, .null]))] ++ ([] : va_W))) (ty := .object RX1) (N := 7) C hin dX5_init_12 iwX5_init5 tyX5_ok nmX5 13 rfl rfl 0 (by decide) (List.mem_of_getElem? (i := 7) rfl) rfl rfl (by decide +kernel) rfl rfl (Nat.le_of_ble_eq_true rfl) rfl rfl ?_
  refine Wn.perm (w2 := [(h0, .inr (5, [.ref (aL 0), .null, .null, .null, .null, .null, .null]))] ++ (([] : va_W) ++ bX1 cyI aL z)) perm_rot ?_
  refine n_aload_n C dX5_init_15 0 rfl rfl ?_
  refine n_new (ci := 4) (T := TX4) (N := 9) C dX5_init_16 iwX5_init4 tyX4_ok (List.mem_of_getElem? (i := 8) rfl) (List.mem_of_getElem? (i := 9) rfl) (List.mem_of_getElem? (i := 10) rfl) rfl hfX4 (Nat.le_of_ble_eq_true rfl) (Nat.le_of_ble_eq_true rfl) rfl (fun h2 => ?_)
  refine n_dup C dX5_init_19 rfl rfl ?_
  refine n_callIMN (rest := [.ref h2, .ref h0]) C CE dX5_init_20 (cX4_new l D cyI cyO cyJ h2) ⟨va_cnB 0 C.ts gX5_init_X4_init_n18 rfl rfl rfl CE.2.2.2.1 (C.ts _ (List.mem_of_getElem? (i := 10) rfl)) (by decide +kernel) ⟨(Nat.le_of_ble_eq_true rfl), (Nat.le_of_ble_eq_true rfl)⟩, rfl, C.ts _ (List.mem_of_getElem? (i := 62) rfl)⟩ List.perm_append_comm rfl (Nat.le_of_ble_eq_true rfl) ⟨(Nat.le_of_ble_eq_true rfl), (Nat.le_of_ble_eq_true rfl)⟩ rfl ?_
  rintro w' ⟨aS, rfl, rfl⟩
  refine n_putF (w2 := bX4 cyI aS oZ ++ ([(h0, .inr (5, [.ref (aL 0), .ref (aS 0), .null, .null, .null, .null, .null]))] ++ (([] : va_W) ++ bX1 cyI aL z))) (ty := .object RX4) (N := 7) C hin dX5_init_23 iwX5_init5 tyX5_ok nmX5 9 rfl rfl 1 (by decide) (List.mem_of_getElem? (i := 11) rfl) rfl rfl (by decide +kernel) rfl rfl (Nat.le_of_ble_eq_true rfl) rfl rfl ?_
  refine Wn.perm (w2 := [(h0, .inr (5, [.ref (aL 0), .ref (aS 0), .null, .null, .null, .null, .null]))] ++ ((([] : va_W) ++ bX1 cyI aL z) ++ bX4 cyI aS oZ)) perm_rot ?_
  refine n_aload_n C dX5_init_26 0 rfl rfl ?_
  refine n_new (ci := 3) (T := TX3) (N := 4) C dX5_init_27 iwX5_init3 tyX3_ok (List.mem_of_getElem? (i := 12) rfl) (List.mem_of_getElem? (i := 13) rfl) (List.mem_of_getElem? (i := 14) rfl) rfl hfX3 (Nat.le_of_ble_eq_true rfl) (Nat.le_of_ble_eq_true rfl) rfl (fun h3 => ?_)
  refine n_dup C dX5_init_30 rfl rfl ?_
  refine n_callIMN (rest := [.ref h3, .ref h0]) C CE dX5_init_31 (cX3_new l D cyI cyO cyJ h3) ⟨va_cnB 0 C.ts gX5_init_X3_init_n25 rfl rfl rfl CE.2.2.2.2.1 (C.ts _ (List.mem_of_getElem? (i := 14) rfl)) (by decide +kernel) ⟨(Nat.le_of_ble_eq_true rfl), (Nat.le_of_ble_eq_true rfl)⟩, rfl, C.ts _ (List.mem_of_getElem? (i := 73) rfl)⟩ List.perm_append_comm rfl (Nat.le_of_ble_eq_true rfl) ⟨(Nat.le_of_ble_eq_true rfl), (Nat.le_of_ble_eq_true rfl)⟩ rfl ?_
  rintro w' ⟨aG, rfl, rfl⟩
  refine n_putF (w2 := bX3 cyI aG oZ ++ ([(h0, .inr (5, [.ref (aL 0), .ref (aS 0), .ref (aG 0), .null, .null, .null, .null]))] ++ ((([] : va_W) ++ bX1 cyI aL z) ++ bX4 cyI aS oZ))) (ty := .object RX3) (N := 7) C hin dX5_init_34 iwX5_init5 tyX5_ok nmX5 5 rfl rfl 2 (by decide) (List.mem_of_getElem? (i := 15) rfl) rfl rfl (by decide +kernel) rfl rfl (Nat.le_of_ble_eq_true rfl) rfl rfl ?_
  refine Wn.perm (w2 := [(h0, .inr (5, [.ref (aL 0), .ref (aS 0), .ref (aG 0), .null, .null, .null, .null]))] ++ (((([] : va_W) ++ bX1 cyI aL z) ++ bX4 cyI aS oZ) ++ bX3 cyI aG oZ)) perm_rot ?_
  refine n_aload_n C dX5_init_37 0 rfl rfl ?_
  refine n_new (ci := 0) (T := TX0) (N := 2) C dX5_init_38 iwX5_init0 tyX0_ok (List.mem_of_getElem? (i := 16) rfl) (List.mem_of_getElem? (i := 17) rfl) (List.mem_of_getElem? (i := 18) rfl) rfl hfX0 (Nat.le_of_ble_eq_true rfl) (Nat.le_of_ble_eq_true rfl) rfl (fun h4 => ?_)
  refine n_dup C dX5_init_41 rfl rfl ?_
  refine n_callIM (rest := [.ref h4, .ref h0]) C CE dX5_init_42 (cX0_new l D cyI cyO cyJ h4 n z hz) (cwI 0 C.ts gX5_init_X0_init rfl rfl rfl (C.ts _ (List.mem_of_getElem? (i := 18) rfl)) (C.ts _ (List.mem_of_getElem? (i := 80) rfl)) (C.ts _ (List.mem_of_getElem? (i := 81) rfl)) rfl (by decide +kernel) ⟨(Nat.le_of_ble_eq_true rfl), (Nat.le_of_ble_eq_true rfl)⟩) List.perm_append_comm rfl (Nat.le_of_ble_eq_true rfl) ⟨(Nat.le_of_ble_eq_true rfl), (Nat.le_of_ble_eq_true rfl)⟩ rfl ?_
  rintro w' ⟨aH, ad, rfl, rfl⟩
  refine n_putF (w2 := ((aH 0, .inr (0, [.int (0 : Int32), .ref (aH 2)])) :: (aH 2, .inl (cyO, 6, .inr (.inr (.inr (.inr (sF ad)))))) :: (bX1 cyI (ad 0) z ++ (bX1 cyI (ad 1) z ++ (bX1 cyI (ad 2) z ++ (bX1 cyI (ad 3) z ++ (bX1 cyI (ad 4) z ++ bX1 cyI (ad 5) z)))))) ++ ([(h0, .inr (5, [.ref (aL 0), .ref (aS 0), .ref (aG 0), .ref (aH 0), .null, .null, .null]))] ++ (((([] : va_W) ++ bX1 cyI aL z) ++ bX4 cyI aS oZ) ++ bX3 cyI aG oZ))) (ty := .object RX0) (N := 7) C hin dX5_init_45 iwX5_init5 tyX5_ok nmX5 80 rfl rfl 3 (by decide) (List.mem_of_getElem? (i := 19) rfl) rfl rfl (by decide +kernel) rfl rfl (Nat.le_of_ble_eq_true rfl) rfl rfl ?_
  refine Wn.perm (w2 := [(h0, .inr (5, [.ref (aL 0), .ref (aS 0), .ref (aG 0), .ref (aH 0), .null, .null, .null]))] ++ ((((([] : va_W) ++ bX1 cyI aL z) ++ bX4 cyI aS oZ) ++ bX3 cyI aG oZ) ++ ((aH 0, .inr (0, [.int (0 : Int32), .ref (aH 2)])) :: (aH 2, .inl (cyO, 6, .inr (.inr (.inr (.inr (sF ad)))))) :: (bX1 cyI (ad 0) z ++ (bX1 cyI (ad 1) z ++ (bX1 cyI (ad 2) z ++ (bX1 cyI (ad 3) z ++ (bX1 cyI (ad 4) z ++ bX1 cyI (ad 5) z)))))))) perm_rot ?_
  refine n_aload_n C dX5_init_48 0 rfl rfl ?_
  refine n_new (ci := 2) (T := TX2) (N := 8) C dX5_init_49 iwX5_init2 tyX2_ok (List.mem_of_getElem? (i := 20) rfl) (List.mem_of_getElem? (i := 21) rfl) (List.mem_of_getElem? (i := 22) rfl) rfl hfX2 (Nat.le_of_ble_eq_true rfl) (Nat.le_of_ble_eq_true rfl) rfl (fun h5 => ?_)
  refine n_dup C dX5_init_52 rfl rfl ?_
  refine n_callIMN (rest := [.ref h5, .ref h0]) C CE dX5_init_53 (cX2_new l D cyI cyO cyJ h5) ⟨va_cnB 0 C.ts gX5_init_X2_init_n39 rfl rfl rfl CE.2.2.2.2.2 (C.ts _ (List.mem_of_getElem? (i := 22) rfl)) (by decide +kernel) ⟨(Nat.le_of_ble_eq_true rfl), (Nat.le_of_ble_eq_true rfl)⟩, rfl, C.ts _ (List.mem_of_getElem? (i := 87) rfl)⟩ List.perm_append_comm rfl (Nat.le_of_ble_eq_true rfl) ⟨(Nat.le_of_ble_eq_true rfl), (Nat.le_of_ble_eq_true rfl)⟩ rfl ?_
  rintro w' ⟨aB, rfl, rfl⟩
  refine n_putF (w2 := bX2 cyI aB oZ ++ ([(h0, .inr (5, [.ref (aL 0), .ref (aS 0), .ref (aG 0), .ref (aH 0), .ref (aB 0), .null, .null]))] ++ ((((([] : va_W) ++ bX1 cyI aL z) ++ bX4 cyI aS oZ) ++ bX3 cyI aG oZ) ++ ((aH 0, .inr (0, [.int (0 : Int32), .ref (aH 2)])) :: (aH 2, .inl (cyO, 6, .inr (.inr (.inr (.inr (sF ad)))))) :: (bX1 cyI (ad 0) z ++ (bX1 cyI (ad 1) z ++ (bX1 cyI (ad 2) z ++ (bX1 cyI (ad 3) z ++ (bX1 cyI (ad 4) z ++ bX1 cyI (ad 5) z))))))))) (ty := .object RX2) (N := 7) C hin dX5_init_56 iwX5_init5 tyX5_ok nmX5 6 rfl rfl 4 (by decide) (List.mem_of_getElem? (i := 23) rfl) rfl rfl (by decide +kernel) rfl rfl (Nat.le_of_ble_eq_true rfl) rfl rfl ?_
  refine Wn.perm (w2 := [(h0, .inr (5, [.ref (aL 0), .ref (aS 0), .ref (aG 0), .ref (aH 0), .ref (aB 0), .null, .null]))] ++ (((((([] : va_W) ++ bX1 cyI aL z) ++ bX4 cyI aS oZ) ++ bX3 cyI aG oZ) ++ ((aH 0, .inr (0, [.int (0 : Int32), .ref (aH 2)])) :: (aH 2, .inl (cyO, 6, .inr (.inr (.inr (.inr (sF ad)))))) :: (bX1 cyI (ad 0) z ++ (bX1 cyI (ad 1) z ++ (bX1 cyI (ad 2) z ++ (bX1 cyI (ad 3) z ++ (bX1 cyI (ad 4) z ++ bX1 cyI (ad 5) z))))))) ++ bX2 cyI aB oZ)) perm_rot ?_
  refine n_aload_n C dX5_init_59 0 rfl rfl ?_
  refine n_new (ci := 1) (T := TX1) (N := 15) C dX5_init_60 iwX5_init1 tyX1_ok (List.mem_of_getElem? (i := 4) rfl) (List.mem_of_getElem? (i := 5) rfl) (List.mem_of_getElem? (i := 6) rfl) rfl hfX1 (Nat.le_of_ble_eq_true rfl) (Nat.le_of_ble_eq_true rfl) rfl (fun h6 => ?_)
  refine n_dup C dX5_init_63 rfl rfl ?_
  refine n_callIM (rest := [.ref h6, .ref h0]) C CE dX5_init_64 (cX1_new l D cyI cyO cyJ h6 n z hz) (cwI 0 C.ts gX5_init_X1_init rfl rfl rfl (C.ts _ (List.mem_of_getElem? (i := 6) rfl)) (C.ts _ (List.mem_of_getElem? (i := 26) rfl)) (C.ts _ (List.mem_of_getElem? (i := 27) rfl)) rfl (by decide +kernel) ⟨(Nat.le_of_ble_eq_true rfl), (Nat.le_of_ble_eq_true rfl)⟩) List.perm_append_comm rfl (Nat.le_of_ble_eq_true rfl) ⟨(Nat.le_of_ble_eq_true rfl), (Nat.le_of_ble_eq_true rfl)⟩ rfl ?_
  rintro w' ⟨aV, rfl, rfl⟩
  refine n_putF (w2 := bX1 cyI aV z ++ ([(h0, .inr (5, [.ref (aL 0), .ref (aS 0), .ref (aG 0), .ref (aH 0), .ref (aB 0), .ref (aV 0), .null]))] ++ (((((([] : va_W) ++ bX1 cyI aL z) ++ bX4 cyI aS oZ) ++ bX3 cyI aG oZ) ++ ((aH 0, .inr (0, [.int (0 : Int32), .ref (aH 2)])) :: (aH 2, .inl (cyO, 6, .inr (.inr (.inr (.inr (sF ad)))))) :: (bX1 cyI (ad 0) z ++ (bX1 cyI (ad 1) z ++ (bX1 cyI (ad 2) z ++ (bX1 cyI (ad 3) z ++ (bX1 cyI (ad 4) z ++ bX1 cyI (ad 5) z))))))) ++ bX2 cyI aB oZ))) (ty := .object RX1) (N := 7) C hin dX5_init_67 iwX5_init5 tyX5_ok nmX5 13 rfl rfl 5 (by decide) (List.mem_of_getElem? (i := 24) rfl) rfl rfl (by decide +kernel) rfl rfl (Nat.le_of_ble_eq_true rfl) rfl rfl ?_
  refine Wn.perm (w2 := [(h0, .inr (5, [.ref (aL 0), .ref (aS 0), .ref (aG 0), .ref (aH 0), .ref (aB 0), .ref (aV 0), .null]))] ++ ((((((([] : va_W) ++ bX1 cyI aL z) ++ bX4 cyI aS oZ) ++ bX3 cyI aG oZ) ++ ((aH 0, .inr (0, [.int (0 : Int32), .ref (aH 2)])) :: (aH 2, .inl (cyO, 6, .inr (.inr (.inr (.inr (sF ad)))))) :: (bX1 cyI (ad 0) z ++ (bX1 cyI (ad 1) z ++ (bX1 cyI (ad 2) z ++ (bX1 cyI (ad 3) z ++ (bX1 cyI (ad 4) z ++ bX1 cyI (ad 5) z))))))) ++ bX2 cyI aB oZ) ++ bX1 cyI aV z)) perm_rot ?_
  refine n_aload_n C dX5_init_70 0 rfl rfl ?_
  refine n_new (ci := 4) (T := TX4) (N := 9) C dX5_init_71 iwX5_init4 tyX4_ok (List.mem_of_getElem? (i := 8) rfl) (List.mem_of_getElem? (i := 9) rfl) (List.mem_of_getElem? (i := 10) rfl) rfl hfX4 (Nat.le_of_ble_eq_true rfl) (Nat.le_of_ble_eq_true rfl) rfl (fun h7 => ?_)
  refine n_dup C dX5_init_74 rfl rfl ?_
  refine n_callIMN (rest := [.ref h7, .ref h0]) C CE dX5_init_75 (cX4_new l D cyI cyO cyJ h7) ⟨va_cnB 0 C.ts gX5_init_X4_init_n18 rfl rfl rfl CE.2.2.2.1 (C.ts _ (List.mem_of_getElem? (i := 10) rfl)) (by decide +kernel) ⟨(Nat.le_of_ble_eq_true rfl), (Nat.le_of_ble_eq_true rfl)⟩, rfl, C.ts _ (List.mem_of_getElem? (i := 62) rfl)⟩ List.perm_append_comm rfl (Nat.le_of_ble_eq_true rfl) ⟨(Nat.le_of_ble_eq_true rfl), (Nat.le_of_ble_eq_true rfl)⟩ rfl ?_
  rintro w' ⟨aU, rfl, rfl⟩
  refine n_putF (w2 := bX4 cyI aU oZ ++ ([(h0, .inr (5, [.ref (aL 0), .ref (aS 0), .ref (aG 0), .ref (aH 0), .ref (aB 0), .ref (aV 0), .ref (aU 0)]))] ++ ((((((([] : va_W) ++ bX1 cyI aL z) ++ bX4 cyI aS oZ) ++ bX3 cyI aG oZ) ++ ((aH 0, .inr (0, [.int (0 : Int32), .ref (aH 2)])) :: (aH 2, .inl (cyO, 6, .inr (.inr (.inr (.inr (sF ad)))))) :: (bX1 cyI (ad 0) z ++ (bX1 cyI (ad 1) z ++ (bX1 cyI (ad 2) z ++ (bX1 cyI (ad 3) z ++ (bX1 cyI (ad 4) z ++ bX1 cyI (ad 5) z))))))) ++ bX2 cyI aB oZ) ++ bX1 cyI aV z))) (ty := .object RX4) (N := 7) C hin dX5_init_78 iwX5_init5 tyX5_ok nmX5 9 rfl rfl 6 (by decide) (List.mem_of_getElem? (i := 25) rfl) rfl rfl (by decide +kernel) rfl rfl (Nat.le_of_ble_eq_true rfl) rfl rfl ?_
  refine Wn.perm (w2 := [(h0, .inr (5, [.ref (aL 0), .ref (aS 0), .ref (aG 0), .ref (aH 0), .ref (aB 0), .ref (aV 0), .ref (aU 0)]))] ++ (((((((([] : va_W) ++ bX1 cyI aL z) ++ bX4 cyI aS oZ) ++ bX3 cyI aG oZ) ++ ((aH 0, .inr (0, [.int (0 : Int32), .ref (aH 2)])) :: (aH 2, .inl (cyO, 6, .inr (.inr (.inr (.inr (sF ad)))))) :: (bX1 cyI (ad 0) z ++ (bX1 cyI (ad 1) z ++ (bX1 cyI (ad 2) z ++ (bX1 cyI (ad 3) z ++ (bX1 cyI (ad 4) z ++ bX1 cyI (ad 5) z))))))) ++ bX2 cyI aB oZ) ++ bX1 cyI aV z) ++ bX4 cyI aU oZ)) perm_rot ?_
  refine Wn.perm (perm_face _ _ _ _ _ _ _ _) ?_
  exact n_vretM C dX5_init_81 ⟨aS, aG, aL, aU, aV, aB, aH, ad, rfl⟩
