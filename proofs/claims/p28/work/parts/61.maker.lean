/-! CONSTRUCTORS OF ROWS OF INTS -/
def oZ : OB := (fun _ => 0, fun _ _ => 0)

theorem iwX2_init : ∀ w ∈ u_ws RX2 TX2 8, w ∈ wsX2_init := by decide +kernel
abbrev rmX2_init : Room := { frames := 1, cells := 5, slots := 108, locals := 30 }
theorem hfX2 : ∀ j, j < 8 → defaultValue (tyX2 j) = vp_V [.int (0 : Int32), .null, .null, .null, .null, .null, .int (0 : Int32), .int (0 : Int32)] j := fun j hj => by
  rcases (show j = 0 ∨ j = 1 ∨ j = 2 ∨ j = 3 ∨ j = 4 ∨ j = 5 ∨ j = 6 ∨ j = 7 by omega) with rfl | rfl | rfl | rfl | rfl | rfl | rfl | rfl <;> rfl
set_option maxHeartbeats 4000000 in
set_option maxRecDepth 100000 in
theorem cX2_new (l : Launch) (D : va_G) (cyI cyO cyJ : ClassId) (h0 : Nat) : Cn l D (tyG cyI cyO cyJ) yX2_init wsX2_init rmX2_init 5 108 [.ref h0] [(h0, .inr (2, [.int (0 : Int32), .null, .null, .null, .null, .null, .int (0 : Int32), .int (0 : Int32)]))] (fun w' => ∃ a : Nat → Nat, a 0 = h0 ∧ w' = bX2 cyI a oZ) := by
  refine Cn.of (cc := cX2_init) (nL := 1) (lv := [(0, .ref h0)]) (by decide +kernel) rfl rfl rfl (Nat.le_of_ble_eq_true rfl) ?_
  intro p e s m args below meth c A C CE hin
  have C : Cx p s m args meth c D (tyG cyI cyO cyJ) A RX2 cX2_init 1 none wsX2_init := C
  refine n_aload_n C dX2_init_0 0 rfl rfl ?_
  refine n_objInit C dX2_init_1 (List.mem_of_getElem? (i := 1) rfl) (List.mem_of_getElem? (i := 2) rfl) (List.mem_of_getElem? (i := 3) rfl) (Nat.le_of_ble_eq_true rfl) (Nat.le_of_ble_eq_true rfl) rfl ?_
  refine n_aload_n C dX2_init_4 0 rfl rfl ?_
  refine n_bipush (v := (60 : Int32)) C dX2_init_5 (by decide) rfl ?_
  refine n_newa (N := 60) C dX2_init_7 (List.mem_of_getElem? (i := 4) rfl) (by decide) (by decide +kernel) (Nat.le_of_ble_eq_true rfl) (Nat.le_of_ble_eq_true rfl) (Nat.le_of_ble_eq_true rfl) rfl (fun q1 => ?_)
  refine Wn.cast (w := [(h0, .inr (2, [.int (0 : Int32), .null, .null, .null, .null, .null, .int (0 : Int32), .int (0 : Int32)])), (q1, .inl (cyI, 60, .inl (fun _ => 0)))]) rfl ?_
  refine n_putF (w2 := [(h0, .inr (2, [.int (0 : Int32), .ref q1, .null, .null, .null, .null, .int (0 : Int32), .int (0 : Int32)])), (q1, .inl (cyI, 60, .inl (fun _ => 0)))]) (ty := .array .int) (N := 8) C hin dX2_init_9 iwX2_init tyX2_ok nmX2 0 rfl rfl 1 (by decide) (List.mem_of_getElem? (i := 5) rfl) rfl rfl (by decide +kernel) rfl rfl (Nat.le_of_ble_eq_true rfl) rfl rfl ?_
  refine n_aload_n C dX2_init_12 0 rfl rfl ?_
  refine n_bipush (v := (12 : Int32)) C dX2_init_13 (by decide) rfl ?_
  refine n_newa (N := 12) C dX2_init_15 (List.mem_of_getElem? (i := 4) rfl) (by decide) (by decide +kernel) (Nat.le_of_ble_eq_true rfl) (Nat.le_of_ble_eq_true rfl) (Nat.le_of_ble_eq_true rfl) rfl (fun q2 => ?_)
  refine Wn.cast (w := [(h0, .inr (2, [.int (0 : Int32), .ref q1, .null, .null, .null, .null, .int (0 : Int32), .int (0 : Int32)])), (q1, .inl (cyI, 60, .inl (fun _ => 0))), (q2, .inl (cyI, 12, .inl (fun _ => 0)))]) rfl ?_
  refine n_putF (w2 := [(h0, .inr (2, [.int (0 : Int32), .ref q1, .ref q2, .null, .null, .null, .int (0 : Int32), .int (0 : Int32)])), (q1, .inl (cyI, 60, .inl (fun _ => 0))), (q2, .inl (cyI, 12, .inl (fun _ => 0)))]) (ty := .array .int) (N := 8) C hin dX2_init_17 iwX2_init tyX2_ok nmX2 0 rfl rfl 2 (by decide) (List.mem_of_getElem? (i := 6) rfl) rfl rfl (by decide +kernel) rfl rfl (Nat.le_of_ble_eq_true rfl) rfl rfl ?_
  refine n_aload_n C dX2_init_20 0 rfl rfl ?_
  refine n_bipush (v := (12 : Int32)) C dX2_init_21 (by decide) rfl ?_
  refine n_newa (N := 12) C dX2_init_23 (List.mem_of_getElem? (i := 4) rfl) (by decide) (by decide +kernel) (Nat.le_of_ble_eq_true rfl) (Nat.le_of_ble_eq_true rfl) (Nat.le_of_ble_eq_true rfl) rfl (fun q3 => ?_)
  refine Wn.cast (w := [(h0, .inr (2, [.int (0 : Int32), .ref q1, .ref q2, .null, .null, .null, .int (0 : Int32), .int (0 : Int32)])), (q1, .inl (cyI, 60, .inl (fun _ => 0))), (q2, .inl (cyI, 12, .inl (fun _ => 0))), (q3, .inl (cyI, 12, .inl (fun _ => 0)))]) rfl ?_
  refine n_putF (w2 := [(h0, .inr (2, [.int (0 : Int32), .ref q1, .ref q2, .ref q3, .null, .null, .int (0 : Int32), .int (0 : Int32)])), (q1, .inl (cyI, 60, .inl (fun _ => 0))), (q2, .inl (cyI, 12, .inl (fun _ => 0))), (q3, .inl (cyI, 12, .inl (fun _ => 0)))]) (ty := .array .int) (N := 8) C hin dX2_init_25 iwX2_init tyX2_ok nmX2 0 rfl rfl 3 (by decide) (List.mem_of_getElem? (i := 7) rfl) rfl rfl (by decide +kernel) rfl rfl (Nat.le_of_ble_eq_true rfl) rfl rfl ?_
  refine n_aload_n C dX2_init_28 0 rfl rfl ?_
  refine n_bipush (v := (12 : Int32)) C dX2_init_29 (by decide) rfl ?_
  refine n_newa (N := 12) C dX2_init_31 (List.mem_of_getElem? (i := 4) rfl) (by decide) (by decide +kernel) (Nat.le_of_ble_eq_true rfl) (Nat.le_of_ble_eq_true rfl) (Nat.le_of_ble_eq_true rfl) rfl (fun q4 => ?_)
  refine Wn.cast (w := [(h0, .inr (2, [.int (0 : Int32), .ref q1, .ref q2, .ref q3, .null, .null, .int (0 : Int32), .int (0 : Int32)])), (q1, .inl (cyI, 60, .inl (fun _ => 0))), (q2, .inl (cyI, 12, .inl (fun _ => 0))), (q3, .inl (cyI, 12, .inl (fun _ => 0))), (q4, .inl (cyI, 12, .inl (fun _ => 0)))]) rfl ?_
  refine n_putF (w2 := [(h0, .inr (2, [.int (0 : Int32), .ref q1, .ref q2, .ref q3, .ref q4, .null, .int (0 : Int32), .int (0 : Int32)])), (q1, .inl (cyI, 60, .inl (fun _ => 0))), (q2, .inl (cyI, 12, .inl (fun _ => 0))), (q3, .inl (cyI, 12, .inl (fun _ => 0))), (q4, .inl (cyI, 12, .inl (fun _ => 0)))]) (ty := .array .int) (N := 8) C hin dX2_init_33 iwX2_init tyX2_ok nmX2 0 rfl rfl 4 (by decide) (List.mem_of_getElem? (i := 8) rfl) rfl rfl (by decide +kernel) rfl rfl (Nat.le_of_ble_eq_true rfl) rfl rfl ?_
  refine n_aload_n C dX2_init_36 0 rfl rfl ?_
  refine n_bipush (v := (12 : Int32)) C dX2_init_37 (by decide) rfl ?_
  refine n_newa (N := 12) C dX2_init_39 (List.mem_of_getElem? (i := 4) rfl) (by decide) (by decide +kernel) (Nat.le_of_ble_eq_true rfl) (Nat.le_of_ble_eq_true rfl) (Nat.le_of_ble_eq_true rfl) rfl (fun q5 => ?_)
  refine Wn.cast (w := [(h0, .inr (2, [.int (0 : Int32), .ref q1, .ref q2, .ref q3, .ref q4, .null, .int (0 : Int32), .int (0 : Int32)])), (q1, .inl (cyI, 60, .inl (fun _ => 0))), (q2, .inl (cyI, 12, .inl (fun _ => 0))), (q3, .inl (cyI, 12, .inl (fun _ => 0))), (q4, .inl (cyI, 12, .inl (fun _ => 0))), (q5, .inl (cyI, 12, .inl (fun _ => 0)))]) rfl ?_
  refine n_putF (w2 := [(h0, .inr (2, [.int (0 : Int32), .ref q1, .ref q2, .ref q3, .ref q4, .ref q5, .int (0 : Int32), .int (0 : Int32)])), (q1, .inl (cyI, 60, .inl (fun _ => 0))), (q2, .inl (cyI, 12, .inl (fun _ => 0))), (q3, .inl (cyI, 12, .inl (fun _ => 0))), (q4, .inl (cyI, 12, .inl (fun _ => 0))), (q5, .inl (cyI, 12, .inl (fun _ => 0)))]) (ty := .array .int) (N := 8) C hin dX2_init_41 iwX2_init tyX2_ok nmX2 0 rfl rfl 5 (by decide) (List.mem_of_getElem? (i := 9) rfl) rfl rfl (by decide +kernel) rfl rfl (Nat.le_of_ble_eq_true rfl) rfl rfl ?_
  obtain ⟨a, e0, e2, e3, e4, e5, e6⟩ : ∃ a : Nat → Nat, a 0 = h0 ∧ a 2 = q1 ∧ a 3 = q2 ∧ a 4 = q3 ∧ a 5 = q4 ∧ a 6 = q5 := ⟨fun j => if j = 0 then h0 else if j = 2 then q1 else if j = 3 then q2 else if j = 4 then q3 else if j = 5 then q4 else if j = 6 then q5 else 0, rfl, rfl, rfl, rfl, rfl, rfl⟩
  subst e0
  subst e2
  subst e3
  subst e4
  subst e5
  subst e6
  exact n_vretM C dX2_init_44 ⟨a, rfl, rfl⟩

theorem iwX3_init : ∀ w ∈ u_ws RX3 TX3 4, w ∈ wsX3_init := by decide +kernel
abbrev rmX3_init : Room := { frames := 1, cells := 4, slots := 24, locals := 30 }
theorem hfX3 : ∀ j, j < 4 → defaultValue (tyX3 j) = vp_V [.null, .null, .null, .null] j := fun j hj => by
  rcases (show j = 0 ∨ j = 1 ∨ j = 2 ∨ j = 3 by omega) with rfl | rfl | rfl | rfl <;> rfl
set_option maxHeartbeats 4000000 in
set_option maxRecDepth 100000 in
theorem cX3_new (l : Launch) (D : va_G) (cyI cyO cyJ : ClassId) (h0 : Nat) : Cn l D (tyG cyI cyO cyJ) yX3_init wsX3_init rmX3_init 4 24 [.ref h0] [(h0, .inr (3, [.null, .null, .null, .null]))] (fun w' => ∃ a : Nat → Nat, a 0 = h0 ∧ w' = bX3 cyI a oZ) := by
  refine Cn.of (cc := cX3_init) (nL := 1) (lv := [(0, .ref h0)]) (by decide +kernel) rfl rfl rfl (Nat.le_of_ble_eq_true rfl) ?_
  intro p e s m args below meth c A C CE hin
  have C : Cx p s m args meth c D (tyG cyI cyO cyJ) A RX3 cX3_init 1 none wsX3_init := C
  refine n_aload_n C dX3_init_0 0 rfl rfl ?_
  refine n_objInit C dX3_init_1 (List.mem_of_getElem? (i := 1) rfl) (List.mem_of_getElem? (i := 2) rfl) (List.mem_of_getElem? (i := 3) rfl) (Nat.le_of_ble_eq_true rfl) (Nat.le_of_ble_eq_true rfl) rfl ?_
  refine n_aload_n C dX3_init_4 0 rfl rfl ?_
  refine n_bipush (v := (6 : Int32)) C dX3_init_5 (by decide) rfl ?_
  refine n_newa (N := 6) C dX3_init_7 (List.mem_of_getElem? (i := 4) rfl) (by decide) (by decide +kernel) (Nat.le_of_ble_eq_true rfl) (Nat.le_of_ble_eq_true rfl) (Nat.le_of_ble_eq_true rfl) rfl (fun q0 => ?_)
  refine Wn.cast (w := [(h0, .inr (3, [.null, .null, .null, .null])), (q0, .inl (cyI, 6, .inl (fun _ => 0)))]) rfl ?_
  refine n_putF (w2 := [(h0, .inr (3, [.ref q0, .null, .null, .null])), (q0, .inl (cyI, 6, .inl (fun _ => 0)))]) (ty := .array .int) (N := 4) C hin dX3_init_9 iwX3_init tyX3_ok nmX3 0 rfl rfl 0 (by decide) (List.mem_of_getElem? (i := 5) rfl) rfl rfl (by decide +kernel) rfl rfl (Nat.le_of_ble_eq_true rfl) rfl rfl ?_
  refine n_aload_n C dX3_init_12 0 rfl rfl ?_
  refine n_bipush (v := (6 : Int32)) C dX3_init_13 (by decide) rfl ?_
  refine n_newa (N := 6) C dX3_init_15 (List.mem_of_getElem? (i := 4) rfl) (by decide) (by decide +kernel) (Nat.le_of_ble_eq_true rfl) (Nat.le_of_ble_eq_true rfl) (Nat.le_of_ble_eq_true rfl) rfl (fun q1 => ?_)
  refine Wn.cast (w := [(h0, .inr (3, [.ref q0, .null, .null, .null])), (q0, .inl (cyI, 6, .inl (fun _ => 0))), (q1, .inl (cyI, 6, .inl (fun _ => 0)))]) rfl ?_
  refine n_putF (w2 := [(h0, .inr (3, [.ref q0, .ref q1, .null, .null])), (q0, .inl (cyI, 6, .inl (fun _ => 0))), (q1, .inl (cyI, 6, .inl (fun _ => 0)))]) (ty := .array .int) (N := 4) C hin dX3_init_17 iwX3_init tyX3_ok nmX3 0 rfl rfl 1 (by decide) (List.mem_of_getElem? (i := 6) rfl) rfl rfl (by decide +kernel) rfl rfl (Nat.le_of_ble_eq_true rfl) rfl rfl ?_
  refine n_aload_n C dX3_init_20 0 rfl rfl ?_
  refine n_bipush (v := (6 : Int32)) C dX3_init_21 (by decide) rfl ?_
  refine n_newa (N := 6) C dX3_init_23 (List.mem_of_getElem? (i := 4) rfl) (by decide) (by decide +kernel) (Nat.le_of_ble_eq_true rfl) (Nat.le_of_ble_eq_true rfl) (Nat.le_of_ble_eq_true rfl) rfl (fun q2 => ?_)
  refine Wn.cast (w := [(h0, .inr (3, [.ref q0, .ref q1, .null, .null])), (q0, .inl (cyI, 6, .inl (fun _ => 0))), (q1, .inl (cyI, 6, .inl (fun _ => 0))), (q2, .inl (cyI, 6, .inl (fun _ => 0)))]) rfl ?_
  refine n_putF (w2 := [(h0, .inr (3, [.ref q0, .ref q1, .ref q2, .null])), (q0, .inl (cyI, 6, .inl (fun _ => 0))), (q1, .inl (cyI, 6, .inl (fun _ => 0))), (q2, .inl (cyI, 6, .inl (fun _ => 0)))]) (ty := .array .int) (N := 4) C hin dX3_init_25 iwX3_init tyX3_ok nmX3 0 rfl rfl 2 (by decide) (List.mem_of_getElem? (i := 7) rfl) rfl rfl (by decide +kernel) rfl rfl (Nat.le_of_ble_eq_true rfl) rfl rfl ?_
  refine n_aload_n C dX3_init_28 0 rfl rfl ?_
  refine n_bipush (v := (6 : Int32)) C dX3_init_29 (by decide) rfl ?_
  refine n_newa (N := 6) C dX3_init_31 (List.mem_of_getElem? (i := 4) rfl) (by decide) (by decide +kernel) (Nat.le_of_ble_eq_true rfl) (Nat.le_of_ble_eq_true rfl) (Nat.le_of_ble_eq_true rfl) rfl (fun q3 => ?_)
  refine Wn.cast (w := [(h0, .inr (3, [.ref q0, .ref q1, .ref q2, .null])), (q0, .inl (cyI, 6, .inl (fun _ => 0))), (q1, .inl (cyI, 6, .inl (fun _ => 0))), (q2, .inl (cyI, 6, .inl (fun _ => 0))), (q3, .inl (cyI, 6, .inl (fun _ => 0)))]) rfl ?_
  refine n_putF (w2 := [(h0, .inr (3, [.ref q0, .ref q1, .ref q2, .ref q3])), (q0, .inl (cyI, 6, .inl (fun _ => 0))), (q1, .inl (cyI, 6, .inl (fun _ => 0))), (q2, .inl (cyI, 6, .inl (fun _ => 0))), (q3, .inl (cyI, 6, .inl (fun _ => 0)))]) (ty := .array .int) (N := 4) C hin dX3_init_33 iwX3_init tyX3_ok nmX3 0 rfl rfl 3 (by decide) (List.mem_of_getElem? (i := 8) rfl) rfl rfl (by decide +kernel) rfl rfl (Nat.le_of_ble_eq_true rfl) rfl rfl ?_
  obtain ⟨a, e0, e1, e2, e3, e4⟩ : ∃ a : Nat → Nat, a 0 = h0 ∧ a 1 = q0 ∧ a 2 = q1 ∧ a 3 = q2 ∧ a 4 = q3 := ⟨fun j => if j = 0 then h0 else if j = 1 then q0 else if j = 2 then q1 else if j = 3 then q2 else if j = 4 then q3 else 0, rfl, rfl, rfl, rfl, rfl⟩
  subst e0
  subst e1
  subst e2
  subst e3
  subst e4
  exact n_vretM C dX3_init_36 ⟨a, rfl, rfl⟩

theorem iwX4_init : ∀ w ∈ u_ws RX4 TX4 9, w ∈ wsX4_init := by decide +kernel
abbrev rmX4_init : Room := { frames := 1, cells := 8, slots := 64, locals := 30 }
theorem hfX4 : ∀ j, j < 9 → defaultValue (tyX4 j) = vp_V [.int (0 : Int32), .null, .null, .null, .null, .null, .null, .null, .null] j := fun j hj => by
  rcases (show j = 0 ∨ j = 1 ∨ j = 2 ∨ j = 3 ∨ j = 4 ∨ j = 5 ∨ j = 6 ∨ j = 7 ∨ j = 8 by omega) with rfl | rfl | rfl | rfl | rfl | rfl | rfl | rfl | rfl <;> rfl
set_option maxHeartbeats 4000000 in
set_option maxRecDepth 100000 in
theorem cX4_new (l : Launch) (D : va_G) (cyI cyO cyJ : ClassId) (h0 : Nat) : Cn l D (tyG cyI cyO cyJ) yX4_init wsX4_init rmX4_init 8 64 [.ref h0] [(h0, .inr (4, [.int (0 : Int32), .null, .null, .null, .null, .null, .null, .null, .null]))] (fun w' => ∃ a : Nat → Nat, a 0 = h0 ∧ w' = bX4 cyI a oZ) := by
  refine Cn.of (cc := cX4_init) (nL := 1) (lv := [(0, .ref h0)]) (by decide +kernel) rfl rfl rfl (Nat.le_of_ble_eq_true rfl) ?_
  intro p e s m args below meth c A C CE hin
  have C : Cx p s m args meth c D (tyG cyI cyO cyJ) A RX4 cX4_init 1 none wsX4_init := C
  refine n_aload_n C dX4_init_0 0 rfl rfl ?_
  refine n_objInit C dX4_init_1 (List.mem_of_getElem? (i := 1) rfl) (List.mem_of_getElem? (i := 2) rfl) (List.mem_of_getElem? (i := 3) rfl) (Nat.le_of_ble_eq_true rfl) (Nat.le_of_ble_eq_true rfl) rfl ?_
  refine n_aload_n C dX4_init_4 0 rfl rfl ?_
  refine n_bipush (v := (8 : Int32)) C dX4_init_5 (by decide) rfl ?_
  refine n_newa (N := 8) C dX4_init_7 (List.mem_of_getElem? (i := 4) rfl) (by decide) (by decide +kernel) (Nat.le_of_ble_eq_true rfl) (Nat.le_of_ble_eq_true rfl) (Nat.le_of_ble_eq_true rfl) rfl (fun q1 => ?_)
  refine Wn.cast (w := [(h0, .inr (4, [.int (0 : Int32), .null, .null, .null, .null, .null, .null, .null, .null])), (q1, .inl (cyI, 8, .inl (fun _ => 0)))]) rfl ?_
  refine n_putF (w2 := [(h0, .inr (4, [.int (0 : Int32), .ref q1, .null, .null, .null, .null, .null, .null, .null])), (q1, .inl (cyI, 8, .inl (fun _ => 0)))]) (ty := .array .int) (N := 9) C hin dX4_init_9 iwX4_init tyX4_ok nmX4 0 rfl rfl 1 (by decide) (List.mem_of_getElem? (i := 5) rfl) rfl rfl (by decide +kernel) rfl rfl (Nat.le_of_ble_eq_true rfl) rfl rfl ?_
  refine n_aload_n C dX4_init_12 0 rfl rfl ?_
  refine n_bipush (v := (8 : Int32)) C dX4_init_13 (by decide) rfl ?_
  refine n_newa (N := 8) C dX4_init_15 (List.mem_of_getElem? (i := 4) rfl) (by decide) (by decide +kernel) (Nat.le_of_ble_eq_true rfl) (Nat.le_of_ble_eq_true rfl) (Nat.le_of_ble_eq_true rfl) rfl (fun q2 => ?_)
  refine Wn.cast (w := [(h0, .inr (4, [.int (0 : Int32), .ref q1, .null, .null, .null, .null, .null, .null, .null])), (q1, .inl (cyI, 8, .inl (fun _ => 0))), (q2, .inl (cyI, 8, .inl (fun _ => 0)))]) rfl ?_
  refine n_putF (w2 := [(h0, .inr (4, [.int (0 : Int32), .ref q1, .ref q2, .null, .null, .null, .null, .null, .null])), (q1, .inl (cyI, 8, .inl (fun _ => 0))), (q2, .inl (cyI, 8, .inl (fun _ => 0)))]) (ty := .array .int) (N := 9) C hin dX4_init_17 iwX4_init tyX4_ok nmX4 0 rfl rfl 2 (by decide) (List.mem_of_getElem? (i := 6) rfl) rfl rfl (by decide +kernel) rfl rfl (Nat.le_of_ble_eq_true rfl) rfl rfl ?_
  refine n_aload_n C dX4_init_20 0 rfl rfl ?_
  refine n_bipush (v := (8 : Int32)) C dX4_init_21 (by decide) rfl ?_
  refine n_newa (N := 8) C dX4_init_23 (List.mem_of_getElem? (i := 4) rfl) (by decide) (by decide +kernel) (Nat.le_of_ble_eq_true rfl) (Nat.le_of_ble_eq_true rfl) (Nat.le_of_ble_eq_true rfl) rfl (fun q3 => ?_)
  refine Wn.cast (w := [(h0, .inr (4, [.int (0 : Int32), .ref q1, .ref q2, .null, .null, .null, .null, .null, .null])), (q1, .inl (cyI, 8, .inl (fun _ => 0))), (q2, .inl (cyI, 8, .inl (fun _ => 0))), (q3, .inl (cyI, 8, .inl (fun _ => 0)))]) rfl ?_
  refine n_putF (w2 := [(h0, .inr (4, [.int (0 : Int32), .ref q1, .ref q2, .ref q3, .null, .null, .null, .null, .null])), (q1, .inl (cyI, 8, .inl (fun _ => 0))), (q2, .inl (cyI, 8, .inl (fun _ => 0))), (q3, .inl (cyI, 8, .inl (fun _ => 0)))]) (ty := .array .int) (N := 9) C hin dX4_init_25 iwX4_init tyX4_ok nmX4 0 rfl rfl 3 (by decide) (List.mem_of_getElem? (i := 7) rfl) rfl rfl (by decide +kernel) rfl rfl (Nat.le_of_ble_eq_true rfl) rfl rfl ?_
  refine n_aload_n C dX4_init_28 0 rfl rfl ?_
  refine n_bipush (v := (8 : Int32)) C dX4_init_29 (by decide) rfl ?_
  refine n_newa (N := 8) C dX4_init_31 (List.mem_of_getElem? (i := 4) rfl) (by decide) (by decide +kernel) (Nat.le_of_ble_eq_true rfl) (Nat.le_of_ble_eq_true rfl) (Nat.le_of_ble_eq_true rfl) rfl (fun q4 => ?_)
  refine Wn.cast (w := [(h0, .inr (4, [.int (0 : Int32), .ref q1, .ref q2, .ref q3, .null, .null, .null, .null, .null])), (q1, .inl (cyI, 8, .inl (fun _ => 0))), (q2, .inl (cyI, 8, .inl (fun _ => 0))), (q3, .inl (cyI, 8, .inl (fun _ => 0))), (q4, .inl (cyI, 8, .inl (fun _ => 0)))]) rfl ?_
  refine n_putF (w2 := [(h0, .inr (4, [.int (0 : Int32), .ref q1, .ref q2, .ref q3, .ref q4, .null, .null, .null, .null])), (q1, .inl (cyI, 8, .inl (fun _ => 0))), (q2, .inl (cyI, 8, .inl (fun _ => 0))), (q3, .inl (cyI, 8, .inl (fun _ => 0))), (q4, .inl (cyI, 8, .inl (fun _ => 0)))]) (ty := .array .int) (N := 9) C hin dX4_init_33 iwX4_init tyX4_ok nmX4 0 rfl rfl 4 (by decide) (List.mem_of_getElem? (i := 8) rfl) rfl rfl (by decide +kernel) rfl rfl (Nat.le_of_ble_eq_true rfl) rfl rfl ?_
  refine n_aload_n C dX4_init_36 0 rfl rfl ?_
  refine n_bipush (v := (8 : Int32)) C dX4_init_37 (by decide) rfl ?_
  refine n_newa (N := 8) C dX4_init_39 (List.mem_of_getElem? (i := 4) rfl) (by decide) (by decide +kernel) (Nat.le_of_ble_eq_true rfl) (Nat.le_of_ble_eq_true rfl) (Nat.le_of_ble_eq_true rfl) rfl (fun q5 => ?_)
  refine Wn.cast (w := [(h0, .inr (4, [.int (0 : Int32), .ref q1, .ref q2, .ref q3, .ref q4, .null, .null, .null, .null])), (q1, .inl (cyI, 8, .inl (fun _ => 0))), (q2, .inl (cyI, 8, .inl (fun _ => 0))), (q3, .inl (cyI, 8, .inl (fun _ => 0))), (q4, .inl (cyI, 8, .inl (fun _ => 0))), (q5, .inl (cyI, 8, .inl (fun _ => 0)))]) rfl ?_
  refine n_putF (w2 := [(h0, .inr (4, [.int (0 : Int32), .ref q1, .ref q2, .ref q3, .ref q4, .ref q5, .null, .null, .null])), (q1, .inl (cyI, 8, .inl (fun _ => 0))), (q2, .inl (cyI, 8, .inl (fun _ => 0))), (q3, .inl (cyI, 8, .inl (fun _ => 0))), (q4, .inl (cyI, 8, .inl (fun _ => 0))), (q5, .inl (cyI, 8, .inl (fun _ => 0)))]) (ty := .array .int) (N := 9) C hin dX4_init_41 iwX4_init tyX4_ok nmX4 0 rfl rfl 5 (by decide) (List.mem_of_getElem? (i := 9) rfl) rfl rfl (by decide +kernel) rfl rfl (Nat.le_of_ble_eq_true rfl) rfl rfl ?_
  refine n_aload_n C dX4_init_44 0 rfl rfl ?_
  refine n_bipush (v := (8 : Int32)) C dX4_init_45 (by decide) rfl ?_
  refine n_newa (N := 8) C dX4_init_47 (List.mem_of_getElem? (i := 4) rfl) (by decide) (by decide +kernel) (Nat.le_of_ble_eq_true rfl) (Nat.le_of_ble_eq_true rfl) (Nat.le_of_ble_eq_true rfl) rfl (fun q6 => ?_)
  refine Wn.cast (w := [(h0, .inr (4, [.int (0 : Int32), .ref q1, .ref q2, .ref q3, .ref q4, .ref q5, .null, .null, .null])), (q1, .inl (cyI, 8, .inl (fun _ => 0))), (q2, .inl (cyI, 8, .inl (fun _ => 0))), (q3, .inl (cyI, 8, .inl (fun _ => 0))), (q4, .inl (cyI, 8, .inl (fun _ => 0))), (q5, .inl (cyI, 8, .inl (fun _ => 0))), (q6, .inl (cyI, 8, .inl (fun _ => 0)))]) rfl ?_
  refine n_putF (w2 := [(h0, .inr (4, [.int (0 : Int32), .ref q1, .ref q2, .ref q3, .ref q4, .ref q5, .ref q6, .null, .null])), (q1, .inl (cyI, 8, .inl (fun _ => 0))), (q2, .inl (cyI, 8, .inl (fun _ => 0))), (q3, .inl (cyI, 8, .inl (fun _ => 0))), (q4, .inl (cyI, 8, .inl (fun _ => 0))), (q5, .inl (cyI, 8, .inl (fun _ => 0))), (q6, .inl (cyI, 8, .inl (fun _ => 0)))]) (ty := .array .int) (N := 9) C hin dX4_init_49 iwX4_init tyX4_ok nmX4 0 rfl rfl 6 (by decide) (List.mem_of_getElem? (i := 10) rfl) rfl rfl (by decide +kernel) rfl rfl (Nat.le_of_ble_eq_true rfl) rfl rfl ?_
  refine n_aload_n C dX4_init_52 0 rfl rfl ?_
  refine n_bipush (v := (8 : Int32)) C dX4_init_53 (by decide) rfl ?_
  refine n_newa (N := 8) C dX4_init_55 (List.mem_of_getElem? (i := 4) rfl) (by decide) (by decide +kernel) (Nat.le_of_ble_eq_true rfl) (Nat.le_of_ble_eq_true rfl) (Nat.le_of_ble_eq_true rfl) rfl (fun q7 => ?_)
  refine Wn.cast (w := [(h0, .inr (4, [.int (0 : Int32), .ref q1, .ref q2, .ref q3, .ref q4, .ref q5, .ref q6, .null, .null])), (q1, .inl (cyI, 8, .inl (fun _ => 0))), (q2, .inl (cyI, 8, .inl (fun _ => 0))), (q3, .inl (cyI, 8, .inl (fun _ => 0))), (q4, .inl (cyI, 8, .inl (fun _ => 0))), (q5, .inl (cyI, 8, .inl (fun _ => 0))), (q6, .inl (cyI, 8, .inl (fun _ => 0))), (q7, .inl (cyI, 8, .inl (fun _ => 0)))]) rfl ?_
  refine n_putF (w2 := [(h0, .inr (4, [.int (0 : Int32), .ref q1, .ref q2, .ref q3, .ref q4, .ref q5, .ref q6, .ref q7, .null])), (q1, .inl (cyI, 8, .inl (fun _ => 0))), (q2, .inl (cyI, 8, .inl (fun _ => 0))), (q3, .inl (cyI, 8, .inl (fun _ => 0))), (q4, .inl (cyI, 8, .inl (fun _ => 0))), (q5, .inl (cyI, 8, .inl (fun _ => 0))), (q6, .inl (cyI, 8, .inl (fun _ => 0))), (q7, .inl (cyI, 8, .inl (fun _ => 0)))]) (ty := .array .int) (N := 9) C hin dX4_init_57 iwX4_init tyX4_ok nmX4 0 rfl rfl 7 (by decide) (List.mem_of_getElem? (i := 11) rfl) rfl rfl (by decide +kernel) rfl rfl (Nat.le_of_ble_eq_true rfl) rfl rfl ?_
  refine n_aload_n C dX4_init_60 0 rfl rfl ?_
  refine n_bipush (v := (8 : Int32)) C dX4_init_61 (by decide) rfl ?_
  refine n_newa (N := 8) C dX4_init_63 (List.mem_of_getElem? (i := 4) rfl) (by decide) (by decide +kernel) (Nat.le_of_ble_eq_true rfl) (Nat.le_of_ble_eq_true rfl) (Nat.le_of_ble_eq_true rfl) rfl (fun q8 => ?_)
  refine Wn.cast (w := [(h0, .inr (4, [.int (0 : Int32), .ref q1, .ref q2, .ref q3, .ref q4, .ref q5, .ref q6, .ref q7, .null])), (q1, .inl (cyI, 8, .inl (fun _ => 0))), (q2, .inl (cyI, 8, .inl (fun _ => 0))), (q3, .inl (cyI, 8, .inl (fun _ => 0))), (q4, .inl (cyI, 8, .inl (fun _ => 0))), (q5, .inl (cyI, 8, .inl (fun _ => 0))), (q6, .inl (cyI, 8, .inl (fun _ => 0))), (q7, .inl (cyI, 8, .inl (fun _ => 0))), (q8, .inl (cyI, 8, .inl (fun _ => 0)))]) rfl ?_
  refine n_putF (w2 := [(h0, .inr (4, [.int (0 : Int32), .ref q1, .ref q2, .ref q3, .ref q4, .ref q5, .ref q6, .ref q7, .ref q8])), (q1, .inl (cyI, 8, .inl (fun _ => 0))), (q2, .inl (cyI, 8, .inl (fun _ => 0))), (q3, .inl (cyI, 8, .inl (fun _ => 0))), (q4, .inl (cyI, 8, .inl (fun _ => 0))), (q5, .inl (cyI, 8, .inl (fun _ => 0))), (q6, .inl (cyI, 8, .inl (fun _ => 0))), (q7, .inl (cyI, 8, .inl (fun _ => 0))), (q8, .inl (cyI, 8, .inl (fun _ => 0)))]) (ty := .array .int) (N := 9) C hin dX4_init_65 iwX4_init tyX4_ok nmX4 0 rfl rfl 8 (by decide) (List.mem_of_getElem? (i := 12) rfl) rfl rfl (by decide +kernel) rfl rfl (Nat.le_of_ble_eq_true rfl) rfl rfl ?_
  obtain ⟨a, e0, e2, e3, e4, e5, e6, e7, e8, e9⟩ : ∃ a : Nat → Nat, a 0 = h0 ∧ a 2 = q1 ∧ a 3 = q2 ∧ a 4 = q3 ∧ a 5 = q4 ∧ a 6 = q5 ∧ a 7 = q6 ∧ a 8 = q7 ∧ a 9 = q8 := ⟨fun j => if j = 0 then h0 else if j = 2 then q1 else if j = 3 then q2 else if j = 4 then q3 else if j = 5 then q4 else if j = 6 then q5 else if j = 7 then q6 else if j = 8 then q7 else if j = 9 then q8 else 0, rfl, rfl, rfl, rfl, rfl, rfl, rfl, rfl, rfl⟩
  subst e0
  subst e2
  subst e3
  subst e4
  subst e5
  subst e6
  subst e7
  subst e8
  subst e9
  exact n_vretM C dX4_init_68 ⟨a, rfl, rfl⟩
