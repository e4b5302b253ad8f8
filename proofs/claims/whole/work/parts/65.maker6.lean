/-! THE REFERENCE IS MADE -/
def oS6 : OB := gsa oZ 0 (upd (upd (upd (upd (fun _ => 0) (0 : Int32).toNatClampNeg (2 : Int32)) (1 : Int32).toNatClampNeg (1 : Int32)) (2 : Int32).toNatClampNeg (20 : Int32)) (3 : Int32).toNatClampNeg (9 : Int32))
theorem iwX6_init : ∀ w ∈ u_ws RX6 TX6 12, w ∈ wsX6_init := by decide +kernel
abbrev rmX6_init : Room := { frames := 2, cells := 5, slots := 2288, locals := 60 }
theorem hfX6 : ∀ j, j < 12 → defaultValue (tyX6 j) = vp_V [.null, .null, .null, .int (0 : Int32), .null, .int (0 : Int32), .int (0 : Int32), .int (0 : Int32), .int (0 : Int32), .int (0 : Int32), .null, .int (0 : Int32)] j := fun j hj => by
  rcases (show j = 0 ∨ j = 1 ∨ j = 2 ∨ j = 3 ∨ j = 4 ∨ j = 5 ∨ j = 6 ∨ j = 7 ∨ j = 8 ∨ j = 9 ∨ j = 10 ∨ j = 11 by omega) with rfl | rfl | rfl | rfl | rfl | rfl | rfl | rfl | rfl | rfl | rfl | rfl <;> rfl
set_option maxHeartbeats 4000000 in
set_option maxRecDepth 100000 in
theorem cX6_new (l : Launch) (D : va_G) (cyI cyO cyJ : ClassId) (h0 : Nat) (n : Nat) (z : OB) (hz : f6_begins n oS6 (4 : Int32) = some z) : Cn l D (tyG cyI cyO cyJ) yX6_init wsX6_init rmX6_init 5 2288 [.ref h0] [(h0, .inr (6, [.null, .null, .null, .int (0 : Int32), .null, .int (0 : Int32), .int (0 : Int32), .int (0 : Int32), .int (0 : Int32), .int (0 : Int32), .null, .int (0 : Int32)]))] (fun w' => ∃ a : Nat → Nat, a 0 = h0 ∧ w' = bX6 cyI a z) := by
  refine Cn.of (cc := cX6_init) (nL := 1) (lv := [(0, .ref h0)]) (by decide +kernel) rfl rfl rfl (Nat.le_of_ble_eq_true rfl) ?_
  intro p e s m args below meth c A C CE hin
  have C : Cx p s m args meth c D (tyG cyI cyO cyJ) A RX6 cX6_init 1 none wsX6_init := C
  refine n_aload_n C dX6_init_0 0 rfl rfl ?_
  refine n_objInit C dX6_init_1 (List.mem_of_getElem? (i := 1) rfl) (List.mem_of_getElem? (i := 2) rfl) (List.mem_of_getElem? (i := 3) rfl) (Nat.le_of_ble_eq_true rfl) (Nat.le_of_ble_eq_true rfl) rfl ?_
  refine n_aload_n C dX6_init_4 0 rfl rfl ?_
  refine n_sipush (v := (270 : Int32)) C dX6_init_5 (by decide) rfl ?_
  refine n_newa (N := 270) C dX6_init_8 (List.mem_of_getElem? (i := 4) rfl) (by decide) (by decide +kernel) (Nat.le_of_ble_eq_true rfl) (Nat.le_of_ble_eq_true rfl) (Nat.le_of_ble_eq_true rfl) rfl (fun q0 => ?_)
  refine Wn.cast (w := [(h0, .inr (6, [.null, .null, .null, .int (0 : Int32), .null, .int (0 : Int32), .int (0 : Int32), .int (0 : Int32), .int (0 : Int32), .int (0 : Int32), .null, .int (0 : Int32)])), (q0, .inl (cyI, 270, .inl (fun _ => 0)))]) rfl ?_
  refine n_putF (w2 := [(h0, .inr (6, [.ref q0, .null, .null, .int (0 : Int32), .null, .int (0 : Int32), .int (0 : Int32), .int (0 : Int32), .int (0 : Int32), .int (0 : Int32), .null, .int (0 : Int32)])), (q0, .inl (cyI, 270, .inl (fun _ => 0)))]) (ty := .array .int) (N := 12) C hin dX6_init_10 iwX6_init tyX6_ok nmX6 0 rfl rfl 0 (by decide) (List.mem_of_getElem? (i := 5) rfl) rfl rfl (by decide +kernel) rfl rfl (Nat.le_of_ble_eq_true rfl) rfl rfl ?_
  refine n_aload_n C dX6_init_13 0 rfl rfl ?_
  refine n_sipush (v := (270 : Int32)) C dX6_init_14 (by decide) rfl ?_
  refine n_newa (N := 270) C dX6_init_17 (List.mem_of_getElem? (i := 4) rfl) (by decide) (by decide +kernel) (Nat.le_of_ble_eq_true rfl) (Nat.le_of_ble_eq_true rfl) (Nat.le_of_ble_eq_true rfl) rfl (fun q1 => ?_)
  refine Wn.cast (w := [(h0, .inr (6, [.ref q0, .null, .null, .int (0 : Int32), .null, .int (0 : Int32), .int (0 : Int32), .int (0 : Int32), .int (0 : Int32), .int (0 : Int32), .null, .int (0 : Int32)])), (q0, .inl (cyI, 270, .inl (fun _ => 0))), (q1, .inl (cyI, 270, .inl (fun _ => 0)))]) rfl ?_
  refine n_putF (w2 := [(h0, .inr (6, [.ref q0, .ref q1, .null, .int (0 : Int32), .null, .int (0 : Int32), .int (0 : Int32), .int (0 : Int32), .int (0 : Int32), .int (0 : Int32), .null, .int (0 : Int32)])), (q0, .inl (cyI, 270, .inl (fun _ => 0))), (q1, .inl (cyI, 270, .inl (fun _ => 0)))]) (ty := .array .int) (N := 12) C hin dX6_init_19 iwX6_init tyX6_ok nmX6 0 rfl rfl 1 (by decide) (List.mem_of_getElem? (i := 6) rfl) rfl rfl (by decide +kernel) rfl rfl (Nat.le_of_ble_eq_true rfl) rfl rfl ?_
  refine n_aload_n C dX6_init_22 0 rfl rfl ?_
  refine n_sipush (v := (1620 : Int32)) C dX6_init_23 (by decide) rfl ?_
  refine n_newa (N := 1620) C dX6_init_26 (List.mem_of_getElem? (i := 4) rfl) (by decide) (by decide +kernel) (Nat.le_of_ble_eq_true rfl) (Nat.le_of_ble_eq_true rfl) (Nat.le_of_ble_eq_true rfl) rfl (fun q2 => ?_)
  refine Wn.cast (w := [(h0, .inr (6, [.ref q0, .ref q1, .null, .int (0 : Int32), .null, .int (0 : Int32), .int (0 : Int32), .int (0 : Int32), .int (0 : Int32), .int (0 : Int32), .null, .int (0 : Int32)])), (q0, .inl (cyI, 270, .inl (fun _ => 0))), (q1, .inl (cyI, 270, .inl (fun _ => 0))), (q2, .inl (cyI, 1620, .inl (fun _ => 0)))]) rfl ?_
  refine n_putF (w2 := [(h0, .inr (6, [.ref q0, .ref q1, .ref q2, .int (0 : Int32), .null, .int (0 : Int32), .int (0 : Int32), .int (0 : Int32), .int (0 : Int32), .int (0 : Int32), .null, .int (0 : Int32)])), (q0, .inl (cyI, 270, .inl (fun _ => 0))), (q1, .inl (cyI, 270, .inl (fun _ => 0))), (q2, .inl (cyI, 1620, .inl (fun _ => 0)))]) (ty := .array .int) (N := 12) C hin dX6_init_28 iwX6_init tyX6_ok nmX6 0 rfl rfl 2 (by decide) (List.mem_of_getElem? (i := 7) rfl) rfl rfl (by decide +kernel) rfl rfl (Nat.le_of_ble_eq_true rfl) rfl rfl ?_
  refine n_aload_n C dX6_init_31 0 rfl rfl ?_
  refine n_bipush (v := (60 : Int32)) C dX6_init_32 (by decide) rfl ?_
  refine n_newa (N := 60) C dX6_init_34 (List.mem_of_getElem? (i := 4) rfl) (by decide) (by decide +kernel) (Nat.le_of_ble_eq_true rfl) (Nat.le_of_ble_eq_true rfl) (Nat.le_of_ble_eq_true rfl) rfl (fun q4 => ?_)
  refine Wn.cast (w := [(h0, .inr (6, [.ref q0, .ref q1, .ref q2, .int (0 : Int32), .null, .int (0 : Int32), .int (0 : Int32), .int (0 : Int32), .int (0 : Int32), .int (0 : Int32), .null, .int (0 : Int32)])), (q0, .inl (cyI, 270, .inl (fun _ => 0))), (q1, .inl (cyI, 270, .inl (fun _ => 0))), (q2, .inl (cyI, 1620, .inl (fun _ => 0))), (q4, .inl (cyI, 60, .inl (fun _ => 0)))]) rfl ?_
  refine n_putF (w2 := [(h0, .inr (6, [.ref q0, .ref q1, .ref q2, .int (0 : Int32), .ref q4, .int (0 : Int32), .int (0 : Int32), .int (0 : Int32), .int (0 : Int32), .int (0 : Int32), .null, .int (0 : Int32)])), (q0, .inl (cyI, 270, .inl (fun _ => 0))), (q1, .inl (cyI, 270, .inl (fun _ => 0))), (q2, .inl (cyI, 1620, .inl (fun _ => 0))), (q4, .inl (cyI, 60, .inl (fun _ => 0)))]) (ty := .array .int) (N := 12) C hin dX6_init_36 iwX6_init tyX6_ok nmX6 0 rfl rfl 4 (by decide) (List.mem_of_getElem? (i := 8) rfl) rfl rfl (by decide +kernel) rfl rfl (Nat.le_of_ble_eq_true rfl) rfl rfl ?_
  refine n_aload_n C dX6_init_39 0 rfl rfl ?_
  refine n_bipush (v := (68 : Int32)) C dX6_init_40 (by decide) rfl ?_
  refine n_newa (N := 68) C dX6_init_42 (List.mem_of_getElem? (i := 4) rfl) (by decide) (by decide +kernel) (Nat.le_of_ble_eq_true rfl) (Nat.le_of_ble_eq_true rfl) (Nat.le_of_ble_eq_true rfl) rfl (fun q10 => ?_)
  refine Wn.cast (w := [(h0, .inr (6, [.ref q0, .ref q1, .ref q2, .int (0 : Int32), .ref q4, .int (0 : Int32), .int (0 : Int32), .int (0 : Int32), .int (0 : Int32), .int (0 : Int32), .null, .int (0 : Int32)])), (q0, .inl (cyI, 270, .inl (fun _ => 0))), (q1, .inl (cyI, 270, .inl (fun _ => 0))), (q2, .inl (cyI, 1620, .inl (fun _ => 0))), (q4, .inl (cyI, 60, .inl (fun _ => 0))), (q10, .inl (cyI, 68, .inl (fun _ => 0)))]) rfl ?_
  refine n_putF (w2 := [(h0, .inr (6, [.ref q0, .ref q1, .ref q2, .int (0 : Int32), .ref q4, .int (0 : Int32), .int (0 : Int32), .int (0 : Int32), .int (0 : Int32), .int (0 : Int32), .ref q10, .int (0 : Int32)])), (q0, .inl (cyI, 270, .inl (fun _ => 0))), (q1, .inl (cyI, 270, .inl (fun _ => 0))), (q2, .inl (cyI, 1620, .inl (fun _ => 0))), (q4, .inl (cyI, 60, .inl (fun _ => 0))), (q10, .inl (cyI, 68, .inl (fun _ => 0)))]) (ty := .array .int) (N := 12) C hin dX6_init_44 iwX6_init tyX6_ok nmX6 0 rfl rfl 10 (by decide) (List.mem_of_getElem? (i := 9) rfl) rfl rfl (by decide +kernel) rfl rfl (Nat.le_of_ble_eq_true rfl) rfl rfl ?_
  refine n_aload_n C dX6_init_47 0 rfl rfl ?_
  refine n_get (N := 12) C dX6_init_48 iwX6_init 0 rfl rfl 0 (by decide) (List.mem_of_getElem? (i := 5) rfl) rfl rfl rfl ?_
  refine n_iconst (v := (0 : Int32)) C dX6_init_51 (by decide) rfl ?_
  refine n_iconst (v := (2 : Int32)) C dX6_init_52 (by decide) rfl ?_
  refine n_iast (w2 := [(h0, .inr (6, [.ref q0, .ref q1, .ref q2, .int (0 : Int32), .ref q4, .int (0 : Int32), .int (0 : Int32), .int (0 : Int32), .int (0 : Int32), .int (0 : Int32), .ref q10, .int (0 : Int32)])), (q0, .inl (cyI, 270, .inl (upd (fun _ => 0) (0 : Int32).toNatClampNeg (2 : Int32)))), (q1, .inl (cyI, 270, .inl (fun _ => 0))), (q2, .inl (cyI, 1620, .inl (fun _ => 0))), (q4, .inl (cyI, 60, .inl (fun _ => 0))), (q10, .inl (cyI, 68, .inl (fun _ => 0)))]) C dX6_init_53 1 0 rfl rfl (ck_in (by decide)) rfl rfl ?_
  refine n_aload_n C dX6_init_54 0 rfl rfl ?_
  refine n_get (N := 12) C dX6_init_55 iwX6_init 0 rfl rfl 0 (by decide) (List.mem_of_getElem? (i := 5) rfl) rfl rfl rfl ?_
  refine n_iconst (v := (1 : Int32)) C dX6_init_58 (by decide) rfl ?_
  refine n_iconst (v := (1 : Int32)) C dX6_init_59 (by decide) rfl ?_
  refine n_iast (w2 := [(h0, .inr (6, [.ref q0, .ref q1, .ref q2, .int (0 : Int32), .ref q4, .int (0 : Int32), .int (0 : Int32), .int (0 : Int32), .int (0 : Int32), .int (0 : Int32), .ref q10, .int (0 : Int32)])), (q0, .inl (cyI, 270, .inl (upd (upd (fun _ => 0) (0 : Int32).toNatClampNeg (2 : Int32)) (1 : Int32).toNatClampNeg (1 : Int32)))), (q1, .inl (cyI, 270, .inl (fun _ => 0))), (q2, .inl (cyI, 1620, .inl (fun _ => 0))), (q4, .inl (cyI, 60, .inl (fun _ => 0))), (q10, .inl (cyI, 68, .inl (fun _ => 0)))]) C dX6_init_60 1 0 rfl rfl (ck_in (by decide)) rfl rfl ?_
  refine n_aload_n C dX6_init_61 0 rfl rfl ?_
  refine n_get (N := 12) C dX6_init_62 iwX6_init 0 rfl rfl 0 (by decide) (List.mem_of_getElem? (i := 5) rfl) rfl rfl rfl ?_
  refine n_iconst (v := (2 : Int32)) C dX6_init_65 (by decide) rfl ?_
  refine n_bipush (v := (20 : Int32)) C dX6_init_66 (by decide) rfl ?_
  refine n_iast (w2 := [(h0, .inr (6, [.ref q0, .ref q1, .ref q2, .int (0 : Int32), .ref q4, .int (0 : Int32), .int (0 : Int32), .int (0 : Int32), .int (0 : Int32), .int (0 : Int32), .ref q10, .int (0 : Int32)])), (q0, .inl (cyI, 270, .inl (upd (upd (upd (fun _ => 0) (0 : Int32).toNatClampNeg (2 : Int32)) (1 : Int32).toNatClampNeg (1 : Int32)) (2 : Int32).toNatClampNeg (20 : Int32)))), (q1, .inl (cyI, 270, .inl (fun _ => 0))), (q2, .inl (cyI, 1620, .inl (fun _ => 0))), (q4, .inl (cyI, 60, .inl (fun _ => 0))), (q10, .inl (cyI, 68, .inl (fun _ => 0)))]) C dX6_init_68 1 0 rfl rfl (ck_in (by decide)) rfl rfl ?_
  refine n_aload_n C dX6_init_69 0 rfl rfl ?_
  refine n_get (N := 12) C dX6_init_70 iwX6_init 0 rfl rfl 0 (by decide) (List.mem_of_getElem? (i := 5) rfl) rfl rfl rfl ?_
  refine n_iconst (v := (3 : Int32)) C dX6_init_73 (by decide) rfl ?_
  refine n_bipush (v := (9 : Int32)) C dX6_init_74 (by decide) rfl ?_
  refine n_iast (w2 := [(h0, .inr (6, [.ref q0, .ref q1, .ref q2, .int (0 : Int32), .ref q4, .int (0 : Int32), .int (0 : Int32), .int (0 : Int32), .int (0 : Int32), .int (0 : Int32), .ref q10, .int (0 : Int32)])), (q0, .inl (cyI, 270, .inl (upd (upd (upd (upd (fun _ => 0) (0 : Int32).toNatClampNeg (2 : Int32)) (1 : Int32).toNatClampNeg (1 : Int32)) (2 : Int32).toNatClampNeg (20 : Int32)) (3 : Int32).toNatClampNeg (9 : Int32)))), (q1, .inl (cyI, 270, .inl (fun _ => 0))), (q2, .inl (cyI, 1620, .inl (fun _ => 0))), (q4, .inl (cyI, 60, .inl (fun _ => 0))), (q10, .inl (cyI, 68, .inl (fun _ => 0)))]) C dX6_init_76 1 0 rfl rfl (ck_in (by decide)) rfl rfl ?_
  refine n_aload_n C dX6_init_77 0 rfl rfl ?_
  refine n_iconst (v := (4 : Int32)) C dX6_init_78 (by decide) rfl ?_
  obtain ⟨a, e0, e1, e2, e3, e5, e11⟩ : ∃ a : Nat → Nat, a 0 = h0 ∧ a 1 = q0 ∧ a 2 = q1 ∧ a 3 = q2 ∧ a 5 = q4 ∧ a 11 = q10 := ⟨fun j => if j = 0 then h0 else if j = 1 then q0 else if j = 2 then q1 else if j = 3 then q2 else if j = 5 then q4 else if j = 11 then q10 else 0, rfl, rfl, rfl, rfl, rfl, rfl⟩
  subst e0
  subst e1
  subst e2
  subst e3
  subst e5
  subst e11
  refine Wn.cast (w := bX6 cyI a oS6) rfl ?_
  refine n_callV (As := [.int (4 : Int32)]) (rest := []) (w2 := bX6 cyI a z) C dX6_init_79 (c6_begins l D cyI cyO cyJ a n oS6 (4 : Int32) z hz) (cwV 1 C.ts gX6_init_X6_begins rfl rfl rfl (by decide +kernel) ⟨(Nat.le_of_ble_eq_true rfl), (Nat.le_of_ble_eq_true rfl)⟩) rfl (q0 := 0) (ci := 6) rfl rfl Frm.self rfl (Nat.le_of_ble_eq_true rfl) ⟨(Nat.le_of_ble_eq_true rfl), (Nat.le_of_ble_eq_true rfl)⟩ rfl ?_
  exact n_vretM C dX6_init_82 ⟨a, rfl, rfl⟩
