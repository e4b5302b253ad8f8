/-! THE HISTORY AND THE FACE ARE MADE -/
/-- a row of six references -/
def sF (ad : Nat → Nat → Nat) : Nat → Option Nat := va_up (va_up (va_up (va_up (va_up (va_up (fun _ => none) 0 (some (ad 0 0))) 1 (some (ad 1 0))) 2 (some (ad 2 0))) 3 (some (ad 3 0))) 4 (some (ad 4 0))) 5 (some (ad 5 0))
theorem iwX0_init1 : ∀ w ∈ u_ws RX1 TX1 15, w ∈ wsX0_init := by decide +kernel
theorem iwX0_init : ∀ w ∈ u_ws RX0 TX0 2, w ∈ wsX0_init := by decide +kernel
abbrev rmX0_init : Room := { frames := 6, cells := 79, slots := 1704, locals := 140 }
theorem hfX0 : ∀ j, j < 2 → defaultValue (tyX0 j) = vp_V [.int (0 : Int32), .null] j := fun j hj => by
  rcases (show j = 0 ∨ j = 1 by omega) with rfl | rfl <;> rfl
set_option maxHeartbeats 4000000 in
set_option maxRecDepth 100000 in
theorem cX0_new (l : Launch) (D : va_G) (cyI cyO cyJ : ClassId) (h0 : Nat) (n : Nat) (z : OB) (hz : f1_restart n oS1 (4 : Int32) = some z) : Cn l D (tyG cyI cyO cyJ) yX0_init wsX0_init rmX0_init 79 1704 [.ref h0] [(h0, .inr (0, [.int (0 : Int32), .null]))] (fun w' => ∃ (aH : Nat → Nat) (ad : Nat → Nat → Nat), aH 0 = h0 ∧ w' = (aH 0, .inr (0, [.int (0 : Int32), .ref (aH 2)])) :: (aH 2, .inl (cyO, 6, .inr (.inr (.inr (.inr (sF ad)))))) :: (bX1 cyI (ad 0) z ++ (bX1 cyI (ad 1) z ++ (bX1 cyI (ad 2) z ++ (bX1 cyI (ad 3) z ++ (bX1 cyI (ad 4) z ++ bX1 cyI (ad 5) z)))))) := by
  refine Cn.of (cc := cX0_init) (nL := 2) (lv := [(0, .ref h0)]) (by decide +kernel) rfl rfl rfl (Nat.le_of_ble_eq_true rfl) ?_
  intro p e s m args below meth c A C CE hin
  have C : Cx p s m args meth c D (tyG cyI cyO cyJ) A RX0 cX0_init 2 none wsX0_init := C
  refine n_aload_n C dX0_init_0 0 rfl rfl ?_
  refine n_objInit C dX0_init_1 (List.mem_of_getElem? (i := 1) rfl) (List.mem_of_getElem? (i := 2) rfl) (List.mem_of_getElem? (i := 3) rfl) (Nat.le_of_ble_eq_true rfl) (Nat.le_of_ble_eq_true rfl) rfl ?_
  refine n_aload_n C dX0_init_4 0 rfl rfl ?_
  refine n_bipush (v := (6 : Int32)) C dX0_init_5 (by decide) rfl ?_
  refine n_newq (N := 6) C CE dX0_init_7 (List.mem_of_getElem? (i := 4) rfl) (by decide) (by decide +kernel) (Nat.le_of_ble_eq_true rfl) (Nat.le_of_ble_eq_true rfl) (Nat.le_of_ble_eq_true rfl) rfl (fun q2 => ?_)
  refine Wn.cast (w := [(h0, .inr (0, [.int (0 : Int32), .null])), (q2, .inl (cyO, 6, .inr (.inr (.inr (.inr (fun _ => none))))))]) rfl ?_
  refine n_putF (w2 := [(h0, .inr (0, [.int (0 : Int32), .ref q2])), (q2, .inl (cyO, 6, .inr (.inr (.inr (.inr (fun _ => none))))))]) (ty := .array (.object RX1)) (N := 2) C hin dX0_init_10 iwX0_init tyX0_ok nmX0 0 rfl rfl 1 (by decide) (List.mem_of_getElem? (i := 5) rfl) rfl rfl (by decide +kernel) rfl rfl (Nat.le_of_ble_eq_true rfl) rfl rfl ?_
  refine n_iconst (v := (0 : Int32)) C dX0_init_13 (by decide) rfl ?_
  refine n_istore_n (lv' := [(1, .int (0 : Int32)), (0, .ref h0)]) C dX0_init_14 (by decide) rfl rfl ?_
  refine Wn.cast (w := [(h0, .inr (0, [.int (0 : Int32), .ref q2])), (q2, .inl (cyO, 6, .inr (.inr (.inr (.inr (fun _ => none))))))] ++ ([] : va_W)) rfl ?_
  refine n_iload_n C dX0_init_15 0 rfl rfl ?_
  refine n_bipush (v := (6 : Int32)) C dX0_init_16 (by decide) rfl ?_
  refine n_icmp_ge (t := 40) C dX0_init_18 (by decide) rfl (fun h => absurd h (by decide)) (fun _ => ?_)
  refine n_aload_n C dX0_init_21 1 rfl rfl ?_
  refine n_get (N := 2) C dX0_init_22 iwX0_init 0 rfl rfl 1 (by decide) (List.mem_of_getElem? (i := 5) rfl) rfl rfl rfl ?_
  refine n_iload_n C dX0_init_25 0 rfl rfl ?_
  refine n_new (ci := 1) (T := TX1) (N := 15) C dX0_init_26 iwX0_init1 tyX1_ok (List.mem_of_getElem? (i := 4) rfl) (List.mem_of_getElem? (i := 6) rfl) (List.mem_of_getElem? (i := 7) rfl) rfl hfX1 (Nat.le_of_ble_eq_true rfl) (Nat.le_of_ble_eq_true rfl) rfl (fun h0 => ?_)
  refine n_dup C dX0_init_29 rfl rfl ?_
  refine n_callIM (rest := [.ref h0, .int (0 : Int32), .ref q2]) C CE dX0_init_30 (cX1_new l D cyI cyO cyJ h0 n z hz) (cwI 0 C.ts gX0_init_X1_init rfl rfl rfl (C.ts _ (List.mem_of_getElem? (i := 7) rfl)) (C.ts _ (List.mem_of_getElem? (i := 8) rfl)) (C.ts _ (List.mem_of_getElem? (i := 9) rfl)) rfl (by decide +kernel) ⟨(Nat.le_of_ble_eq_true rfl), (Nat.le_of_ble_eq_true rfl)⟩) List.perm_append_comm rfl (Nat.le_of_ble_eq_true rfl) ⟨(Nat.le_of_ble_eq_true rfl), (Nat.le_of_ble_eq_true rfl)⟩ rfl ?_
  rintro w' ⟨a0, rfl, rfl⟩
  refine n_astq2 (w2 := bX1 cyI a0 z ++ ([(h0, .inr (0, [.int (0 : Int32), .ref q2])), (q2, .inl (cyO, 6, .inr (.inr (.inr (.inr (va_up (fun _ => none) 0 (some (a0 0))))))))] ++ ([] : va_W))) (j := 0) C dX0_init_33 14 1 0 1 rfl rfl rfl rfl (ck_in (by decide)) (by decide +kernel) rfl rfl ?_
  refine Wn.perm (w2 := [(h0, .inr (0, [.int (0 : Int32), .ref q2])), (q2, .inl (cyO, 6, .inr (.inr (.inr (.inr (va_up (fun _ => none) 0 (some (a0 0))))))))] ++ (([] : va_W) ++ bX1 cyI a0 z)) perm_rot ?_
  refine n_iinc (j := 0) (lv' := [(1, .int (1 : Int32)), (0, .ref h0)]) C dX0_init_34 rfl (by decide) (by decide) rfl rfl ?_
  refine n_goto (t := 15) C dX0_init_37 (by decide) ?_
  refine n_iload_n C dX0_init_15 0 rfl rfl ?_
  refine n_bipush (v := (6 : Int32)) C dX0_init_16 (by decide) rfl ?_
  refine n_icmp_ge (t := 40) C dX0_init_18 (by decide) rfl (fun h => absurd h (by decide)) (fun _ => ?_)
  refine n_aload_n C dX0_init_21 1 rfl rfl ?_
  refine n_get (N := 2) C dX0_init_22 iwX0_init 0 rfl rfl 1 (by decide) (List.mem_of_getElem? (i := 5) rfl) rfl rfl rfl ?_
  refine n_iload_n C dX0_init_25 0 rfl rfl ?_
  refine n_new (ci := 1) (T := TX1) (N := 15) C dX0_init_26 iwX0_init1 tyX1_ok (List.mem_of_getElem? (i := 4) rfl) (List.mem_of_getElem? (i := 6) rfl) (List.mem_of_getElem? (i := 7) rfl) rfl hfX1 (Nat.le_of_ble_eq_true rfl) (Nat.le_of_ble_eq_true rfl) rfl (fun h1 => ?_)
  refine n_dup C dX0_init_29 rfl rfl ?_
  refine n_callIM (rest := [.ref h1, .int (1 : Int32), .ref q2]) C CE dX0_init_30 (cX1_new l D cyI cyO cyJ h1 n z hz) (cwI 0 C.ts gX0_init_X1_init rfl rfl rfl (C.ts _ (List.mem_of_getElem? (i := 7) rfl)) (C.ts _ (List.mem_of_getElem? (i := 8) rfl)) (C.ts _ (List.mem_of_getElem? (i := 9) rfl)) rfl (by decide +kernel) ⟨(Nat.le_of_ble_eq_true rfl), (Nat.le_of_ble_eq_true rfl)⟩) List.perm_append_comm rfl (Nat.le_of_ble_eq_true rfl) ⟨(Nat.le_of_ble_eq_true rfl), (Nat.le_of_ble_eq_true rfl)⟩ rfl ?_
  rintro w' ⟨a1, rfl, rfl⟩
  refine n_astq2 (w2 := bX1 cyI a1 z ++ ([(h0, .inr (0, [.int (0 : Int32), .ref q2])), (q2, .inl (cyO, 6, .inr (.inr (.inr (.inr (va_up (va_up (fun _ => none) 0 (some (a0 0))) 1 (some (a1 0))))))))] ++ (([] : va_W) ++ bX1 cyI a0 z))) (j := 1) C dX0_init_33 14 1 0 1 rfl rfl rfl rfl (ck_in (by decide)) (by decide +kernel) rfl rfl ?_
  refine Wn.perm (w2 := [(h0, .inr (0, [.int (0 : Int32), .ref q2])), (q2, .inl (cyO, 6, .inr (.inr (.inr (.inr (va_up (va_up (fun _ => none) 0 (some (a0 0))) 1 (some (a1 0))))))))] ++ ((([] : va_W) ++ bX1 cyI a0 z) ++ bX1 cyI a1 z)) perm_rot ?_
  refine n_iinc (j := 0) (lv' := [(1, .int (2 : Int32)), (0, .ref h0)]) C dX0_init_34 rfl (by decide) (by decide) rfl rfl ?_
  refine n_goto (t := 15) C dX0_init_37 (by decide) ?_
  refine n_iload_n C dX0_init_15 0 rfl rfl ?_
  refine n_bipush (v := (6 : Int32)) C dX0_init_16 (by decide) rfl ?_
  refine n_icmp_ge (t := 40) C dX0_init_18 (by decide) rfl (fun h => absurd h (by decide)) (fun _ => ?_)
  refine n_aload_n C dX0_init_21 1 rfl rfl ?_
  refine n_get (N := 2) C dX0_init_22 iwX0_init 0 rfl rfl 1 (by decide) (List.mem_of_getElem? (i := 5) rfl) rfl rfl rfl ?_
  refine n_iload_n C dX0_init_25 0 rfl rfl ?_
  refine n_new (ci := 1) (T := TX1) (N := 15) C dX0_init_26 iwX0_init1 tyX1_ok (List.mem_of_getElem? (i := 4) rfl) (List.mem_of_getElem? (i := 6) rfl) (List.mem_of_getElem? (i := 7) rfl) rfl hfX1 (Nat.le_of_ble_eq_true rfl) (Nat.le_of_ble_eq_true rfl) rfl (fun h2 => ?_)
  refine n_dup C dX0_init_29 rfl rfl ?_
  refine n_callIM (rest := [.ref h2, .int (2 : Int32), .ref q2]) C CE dX0_init_30 (cX1_new l D cyI cyO cyJ h2 n z hz) (cwI 0 C.ts gX0_init_X1_init rfl rfl rfl (C.ts _ (List.mem_of_getElem? (i := 7) rfl)) (C.ts _ (List.mem_of_getElem? (i := 8) rfl)) (C.ts _ (List.mem_of_getElem? (i := 9) rfl)) rfl (by decide +kernel) ⟨(Nat.le_of_ble_eq_true rfl), (Nat.le_of_ble_eq_true rfl)⟩) List.perm_append_comm rfl (Nat.le_of_ble_eq_true rfl) ⟨(Nat.le_of_ble_eq_true rfl), (Nat.le_of_ble_eq_true rfl)⟩ rfl ?_
  rintro w' ⟨a2, rfl, rfl⟩
  refine n_astq2 (w2 := bX1 cyI a2 z ++ ([(h0, .inr (0, [.int (0 : Int32), .ref q2])), (q2, .inl (cyO, 6, .inr (.inr (.inr (.inr (va_up (va_up (va_up (fun _ => none) 0 (some (a0 0))) 1 (some (a1 0))) 2 (some (a2 0))))))))] ++ ((([] : va_W) ++ bX1 cyI a0 z) ++ bX1 cyI a1 z))) (j := 2) C dX0_init_33 14 1 0 1 rfl rfl rfl rfl (ck_in (by decide)) (by decide +kernel) rfl rfl ?_
  refine Wn.perm (w2 := [(h0, .inr (0, [.int (0 : Int32), .ref q2])), (q2, .inl (cyO, 6, .inr (.inr (.inr (.inr (va_up (va_up (va_up (fun _ => none) 0 (some (a0 0))) 1 (some (a1 0))) 2 (some (a2 0))))))))] ++ (((([] : va_W) ++ bX1 cyI a0 z) ++ bX1 cyI a1 z) ++ bX1 cyI a2 z)) perm_rot ?_
  refine n_iinc (j := 0) (lv' := [(1, .int (3 : Int32)), (0, .ref h0)]) C dX0_init_34 rfl (by decide) (by decide) rfl rfl ?_
  refine n_goto (t := 15) C dX0_init_37 (by decide) ?_
  refine n_iload_n C dX0_init_15 0 rfl rfl ?_
  refine n_bipush (v := (6 : Int32)) C dX0_init_16 (by decide) rfl ?_
  refine n_icmp_ge (t := 40) C dX0_init_18 (by decide) rfl (fun h => absurd h (by decide)) (fun _ => ?_)
  refine n_aload_n C dX0_init_21 1 rfl rfl ?_
  refine n_get (N := 2) C dX0_init_22 iwX0_init 0 rfl rfl 1 (by decide) (List.mem_of_getElem? (i := 5) rfl) rfl rfl rfl ?_
  refine n_iload_n C dX0_init_25 0 rfl rfl ?_
  refine n_new (ci := 1) (T := TX1) (N := 15) C dX0_init_26 iwX0_init1 tyX1_ok (List.mem_of_getElem? (i := 4) rfl) (List.mem_of_getElem? (i := 6) rfl) (List.mem_of_getElem? (i := 7) rfl) rfl hfX1 (Nat.le_of_ble_eq_true rfl) (Nat.le_of_ble_eq_true rfl) rfl (fun h3 => ?_)
  refine n_dup C dX0_init_29 rfl rfl ?_
  refine n_callIM (rest := [.ref h3, .int (3 : Int32), .ref q2]) C CE dX0_init_30 (cX1_new l D cyI cyO cyJ h3 n z hz) (cwI 0 C.ts gX0_init_X1_init rfl rfl rfl (C.ts _ (List.mem_of_getElem? (i := 7) rfl)) (C.ts _ (List.mem_of_getElem? (i := 8) rfl)) (C.ts _ (List.mem_of_getElem? (i := 9) rfl)) rfl (by decide +kernel) ⟨(Nat.le_of_ble_eq_true rfl), (Nat.le_of_ble_eq_true rfl)⟩) List.perm_append_comm rfl (Nat.le_of_ble_eq_true rfl) ⟨(Nat.le_of_ble_eq_true rfl), (Nat.le_of_ble_eq_true rfl)⟩ rfl ?_
  rintro w' ⟨a3, rfl, rfl⟩
  refine n_astq2 (w2 := bX1 cyI a3 z ++ ([(h0, .inr (0, [.int (0 : Int32), .ref q2])), (q2, .inl (cyO, 6, .inr (.inr (.inr (.inr (va_up (va_up (va_up (va_up (fun _ => none) 0 (some (a0 0))) 1 (some (a1 0))) 2 (some (a2 0))) 3 (some (a3 0))))))))] ++ (((([] : va_W) ++ bX1 cyI a0 z) ++ bX1 cyI a1 z) ++ bX1 cyI a2 z))) (j := 3) C dX0_init_33 14 1 0 1 rfl rfl rfl rfl (ck_in (by decide)) (by decide +kernel) rfl rfl ?_
  refine Wn.perm (w2 := [(h0, .inr (0, [.int (0 : Int32), .ref q2])), (q2, .inl (cyO, 6, .inr (.inr (.inr (.inr (va_up (va_up (va_up (va_up (fun _ => none) 0 (some (a0 0))) 1 (some (a1 0))) 2 (some (a2 0))) 3 (some (a3 0))))))))] ++ ((((([] : va_W) ++ bX1 cyI a0 z) ++ bX1 cyI a1 z) ++ bX1 cyI a2 z) ++ bX1 cyI a3 z)) perm_rot ?_
  refine n_iinc (j := 0) (lv' := [(1, .int (4 : Int32)), (0, .ref h0)]) C dX0_init_34 rfl (by decide) (by decide) rfl rfl ?_
  refine n_goto (t := 15) C dX0_init_37 (by decide) ?_
  refine n_iload_n C dX0_init_15 0 rfl rfl ?_
  refine n_bipush (v := (6 : Int32)) C dX0_init_16 (by decide) rfl ?_
  refine n_icmp_ge (t := 40) C dX0_init_18 (by decide) rfl (fun h => absurd h (by decide)) (fun _ => ?_)
  refine n_aload_n C dX0_init_21 1 rfl rfl ?_
  refine n_get (N := 2) C dX0_init_22 iwX0_init 0 rfl rfl 1 (by decide) (List.mem_of_getElem? (i := 5) rfl) rfl rfl rfl ?_
  refine n_iload_n C dX0_init_25 0 rfl rfl ?_
  refine n_new (ci := 1) (T := TX1) (N := 15) C dX0_init_26 iwX0_init1 tyX1_ok (List.mem_of_getElem? (i := 4) rfl) (List.mem_of_getElem? (i := 6) rfl) (List.mem_of_getElem? (i := 7) rfl) rfl hfX1 (Nat.le_of_ble_eq_true rfl) (Nat.le_of_ble_eq_true rfl) rfl (fun h4 => ?_)
  refine n_dup C dX0_init_29 rfl rfl ?_
  refine n_callIM (rest := [.ref h4, .int (4 : Int32), .ref q2]) C CE dX0_init_30 (cX1_new l D cyI cyO cyJ h4 n z hz) (cwI 0 C.ts gX0_init_X1_init rfl rfl rfl (C.ts _ (List.mem_of_getElem? (i := 7) rfl)) (C.ts _ (List.mem_of_getElem? (i := 8) rfl)) (C.ts _ (List.mem_of_getElem? (i := 9) rfl)) rfl (by decide +kernel) ⟨(Nat.le_of_ble_eq_true rfl), (Nat.le_of_ble_eq_true rfl)⟩) List.perm_append_comm rfl (Nat.le_of_ble_eq_true rfl) ⟨(Nat.le_of_ble_eq_true rfl), (Nat.le_of_ble_eq_true rfl)⟩ rfl ?_
  rintro w' ⟨a4, rfl, rfl⟩
  refine n_astq2 (w2 := bX1 cyI a4 z ++ ([(h0, .inr (0, [.int (0 : Int32), .ref q2])), (q2, .inl (cyO, 6, .inr (.inr (.inr (.inr (va_up (va_up (va_up (va_up (va_up (fun _ => none) 0 (some (a0 0))) 1 (some (a1 0))) 2 (some (a2 0))) 3 (some (a3 0))) 4 (some (a4 0))))))))] ++ ((((([] : va_W) ++ bX1 cyI a0 z) ++ bX1 cyI a1 z) ++ bX1 cyI a2 z) ++ bX1 cyI a3 z))) (j := 4) C dX0_init_33 14 1 0 1 rfl rfl rfl rfl (ck_in (by decide)) (by decide +kernel) rfl rfl ?_
  refine Wn.perm (w2 := [(h0, .inr (0, [.int (0 : Int32), .ref q2])), (q2, .inl (cyO, 6, .inr (.inr (.inr (.inr (va_up (va_up (va_up (va_up (va_up (fun _ => none) 0 (some (a0 0))) 1 (some (a1 0))) 2 (some (a2 0))) 3 (some (a3 0))) 4 (some (a4 0))))))))] ++ (((((([] : va_W) ++ bX1 cyI a0 z) ++ bX1 cyI a1 z) ++ bX1 cyI a2 z) ++ bX1 cyI a3 z) ++ bX1 cyI a4 z)) perm_rot ?_
  refine n_iinc (j := 0) (lv' := [(1, .int (5 : Int32)), (0, .ref h0)]) C dX0_init_34 rfl (by decide) (by decide) rfl rfl ?_
  refine n_goto (t := 15) C dX0_init_37 (by decide) ?_
  refine n_iload_n C dX0_init_15 0 rfl rfl ?_
  refine n_bipush (v := (6 : Int32)) C dX0_init_16 (by decide) rfl ?_
  refine n_icmp_ge (t := 40) C dX0_init_18 (by decide) rfl (fun h => absurd h (by decide)) (fun _ => ?_)
  refine n_aload_n C dX0_init_21 1 rfl rfl ?_
  refine n_get (N := 2) C dX0_init_22 iwX0_init 0 rfl rfl 1 (by decide) (List.mem_of_getElem? (i := 5) rfl) rfl rfl rfl ?_
  refine n_iload_n C dX0_init_25 0 rfl rfl ?_
  refine n_new (ci := 1) (T := TX1) (N := 15) C dX0_init_26 iwX0_init1 tyX1_ok (List.mem_of_getElem? (i := 4) rfl) (List.mem_of_getElem? (i := 6) rfl) (List.mem_of_getElem? (i := 7) rfl) rfl hfX1 (Nat.le_of_ble_eq_true rfl) (Nat.le_of_ble_eq_true rfl) rfl (fun h5 => ?_)
  refine n_dup C dX0_init_29 rfl rfl ?_
  refine n_callIM (rest := [.ref h5, .int (5 : Int32), .ref q2]) C CE dX0_init_30 (cX1_new l D cyI cyO cyJ h5 n z hz) (cwI 0 C.ts gX0_init_X1_init rfl rfl rfl (C.ts _ (List.mem_of_getElem? (i := 7) rfl)) (C.ts _ (List.mem_of_getElem? (i := 8) rfl)) (C.ts _ (List.mem_of_getElem? (i := 9) rfl)) rfl (by decide +kernel) ⟨(Nat.le_of_ble_eq_true rfl), (Nat.le_of_ble_eq_true rfl)⟩) List.perm_append_comm rfl (Nat.le_of_ble_eq_true rfl) ⟨(Nat.le_of_ble_eq_true rfl), (Nat.le_of_ble_eq_true rfl)⟩ rfl ?_
  rintro w' ⟨a5, rfl, rfl⟩
  refine n_astq2 (w2 := bX1 cyI a5 z ++ ([(h0, .inr (0, [.int (0 : Int32), .ref q2])), (q2, .inl (cyO, 6, .inr (.inr (.inr (.inr (va_up (va_up (va_up (va_up (va_up (va_up (fun _ => none) 0 (some (a0 0))) 1 (some (a1 0))) 2 (some (a2 0))) 3 (some (a3 0))) 4 (some (a4 0))) 5 (some (a5 0))))))))] ++ (((((([] : va_W) ++ bX1 cyI a0 z) ++ bX1 cyI a1 z) ++ bX1 cyI a2 z) ++ bX1 cyI a3 z) ++ bX1 cyI a4 z))) (j := 5) C dX0_init_33 14 1 0 1 rfl rfl rfl rfl (ck_in (by decide)) (by decide +kernel) rfl rfl ?_
  refine Wn.perm (w2 := [(h0, .inr (0, [.int (0 : Int32), .ref q2])), (q2, .inl (cyO, 6, .inr (.inr (.inr (.inr (va_up (va_up (va_up (va_up (va_up (va_up (fun _ => none) 0 (some (a0 0))) 1 (some (a1 0))) 2 (some (a2 0))) 3 (some (a3 0))) 4 (some (a4 0))) 5 (some (a5 0))))))))] ++ ((((((([] : va_W) ++ bX1 cyI a0 z) ++ bX1 cyI a1 z) ++ bX1 cyI a2 z) ++ bX1 cyI a3 z) ++ bX1 cyI a4 z) ++ bX1 cyI a5 z)) perm_rot ?_
  refine n_iinc (j := 0) (lv' := [(1, .int (6 : Int32)), (0, .ref h0)]) C dX0_init_34 rfl (by decide) (by decide) rfl rfl ?_
  refine n_goto (t := 15) C dX0_init_37 (by decide) ?_
  refine n_iload_n C dX0_init_15 0 rfl rfl ?_
  refine n_bipush (v := (6 : Int32)) C dX0_init_16 (by decide) rfl ?_
  refine n_icmp_ge (t := 40) C dX0_init_18 (by decide) rfl (fun _ => ?_) (fun h => absurd (by decide) h)
  obtain ⟨aH, eH0, eH2⟩ : ∃ aH : Nat → Nat, aH 0 = h0 ∧ aH 2 = q2 := ⟨fun j => if j = 0 then h0 else q2, rfl, rfl⟩
  subst eH0
  subst eH2
  obtain ⟨ad, d0, d1, d2, d3, d4, d5⟩ : ∃ ad : Nat → Nat → Nat, ad 0 = a0 ∧ ad 1 = a1 ∧ ad 2 = a2 ∧ ad 3 = a3 ∧ ad 4 = a4 ∧ ad 5 = a5 := ⟨fun j => if j = 0 then a0 else if j = 1 then a1 else if j = 2 then a2 else if j = 3 then a3 else if j = 4 then a4 else a5, rfl, rfl, rfl, rfl, rfl, rfl⟩
  subst d0
  subst d1
  subst d2
  subst d3
  subst d4
  subst d5
  refine n_vretM C dX0_init_40 ⟨aH, ad, rfl, ?_⟩
  simp only [sF, List.nil_append, List.append_assoc, List.cons_append]
