/-- the history: how many, where the leagues lie, what they are, by their places -/
abbrev HS : Type := Int32 × (Nat → Nat → Nat) × (Nat → OB)
abbrev bHS (cyI cyO : ClassId) (a : Nat → Nat) (h : HS) : va_W := (a 0, .inr (0, [.int h.1, .ref (a 2)])) :: (a 2, .inl (cyO, 6, .inr (.inr (.inr (.inr (fun j => some (h.2.1 j 0))))))) :: (bX1 cyI (h.2.1 0) (h.2.2 0) ++ (bX1 cyI (h.2.1 1) (h.2.2 1) ++ (bX1 cyI (h.2.1 2) (h.2.2 2) ++ (bX1 cyI (h.2.1 3) (h.2.2 3) ++ (bX1 cyI (h.2.1 4) (h.2.2 4) ++ bX1 cyI (h.2.1 5) (h.2.2 5))))))
def rotA {α : Type} (f : Nat → α) : Nat → α := fun j => if j < 5 then f (j + 1) else if j = 5 then f 0 else f j
def f0_dropOldest (h : HS) : HS := (5, rotA h.2.1, rotA h.2.2)
def f0_put (n : Nat) (oL : OB) (h : HS) : Option HS := if ck h.1 6 = true then (f1_copyFrom_b n oL (h.2.2 h.1.toNatClampNeg)).bind fun z => some (h.1 + 1, h.2.1, fun i => if i = h.1.toNatClampNeg then z else h.2.2 i) else none
def f0_keep (n : Nat) (oL : OB) (oH : HS) : Option HS := if (6 : Int32) ≤ oH.1 then f0_put n oL (f0_dropOldest oH) else f0_put n oL oH
def f0_restore (n : Nat) (oL : OB) (oH : HS) : Option (OB × HS) := if ck (oH.1 - 1) 6 = true then (f1_copyFrom n oL (oH.2.2 (oH.1 - 1).toNatClampNeg)).bind fun z => some (z, (oH.1 - 1, oH.2)) else none
theorem ck_lt {x : Int32} {k : Nat} (hk : k < 2 ^ 31) (h : ck x k = true) : ∃ j : Nat, j < k ∧ x = nI j := vp_in_of (ck_in h) hk
section HR
variable {p : Program} {l : Launch} {e : Env} {R : Room} {s : State} {m : MethodId} {args : Array Value} {below : List Frame} {meth : Method} {c : Code}
variable {D : va_G} {tys : List (ClassId × FieldType)} {A : Nat → Prop} {nL cells slots : Nat} {Q : State → Prop} {w : va_W} {lv : List (Nat × Value)} {st : List Value}
variable {own : String} {cc : ByteArray} {ret : Option FieldType} {Ts : List Cond} {pc q : Nat}
theorem n_aldq2 (C : Cx p s m args meth c D tys A own cc nL ret Ts) {a n j v : Nat} {cA : ClassId} {CC : String} {f : Nat → Option Nat} {i : Int32} (hdg : decode cc pc = .ok (.aaload, 1)) (q0 t0 : Nat) (ha : w[q0]? = some (a, .inl (cA, n, .inr (.inr (.inr (.inr f)))))) (ht : tys[t0]? = some (cA, .object CC)) (hin : vp_in i n) (hj : i.toNatClampNeg = j) (hv : f j = some v) (hq : pc + 1 = q) (kk : Wn p l e R s m args below meth c D A nL cells slots Q w q lv (.ref v :: st)) : Wn p l e R s m args below meth c D A nL cells slots Q w pc lv (.int i :: .ref a :: st) := by
  refine n_aldq C hdg q0 t0 ha ht hin hq ?_
  rw [hj, hv]
  exact kk
theorem n_astq2 (C : Cx p s m args meth c D tys A own cc nL ret Ts) {a n j v : Nat} {cA : ClassId} {f : Nat → Option Nat} {i : Int32} {r : vw_C} {vs : List Value} {w2 : va_W} (hdg : decode cc pc = .ok (.aastore, 1)) (q0 t0 qk ci : Nat) (ha : w[q0]? = some (a, .inl (cA, n, .inr (.inr (.inr (.inr f)))))) (ht : tys[t0]? = some (cA, .object r.1)) (hv : w[qk]? = some (v, .inr (ci, vs))) (hc : vwCl[ci]? = some r) (hin : vp_in i n) (hj : i.toNatClampNeg = j) (hw : w.set q0 (a, .inl (cA, n, .inr (.inr (.inr (.inr (va_up f j (some v))))))) = w2) (hq : pc + 1 = q) (kk : Wn p l e R s m args below meth c D A nL cells slots Q w2 q lv st) : Wn p l e R s m args below meth c D A nL cells slots Q w pc lv (.ref v :: .int i :: .ref a :: st) := by
  subst hq; subst hw; subst hj
  exact fun H locs ls hP hD hS hl => va_astq C.x C.b C.K hP hD hS q0 t0 qk ci ha ht hv hc hin hdg (fun H1 locs1 hP1 hD1 hS1 => kk H1 locs1 ls hP1 hD1 hS1 hl)
theorem Wn.perm {w2 : va_W} (h : w.Perm w2) (k : Wn p l e R s m args below meth c D A nL cells slots Q w2 pc lv st) : Wn p l e R s m args below meth c D A nL cells slots Q w pc lv st :=
  fun H locs ls hP hD hS hl => k H locs ls (P_perm h hP) (D_perm h hD) hS hl
end HR
theorem iw0_dropOldest_X0 : ∀ w ∈ u_ws RX0 TX0 2, w ∈ wsX0_dropOldest := by decide +kernel
theorem iw0_keep_X0 : ∀ w ∈ u_ws RX0 TX0 2, w ∈ wsX0_keep := by decide +kernel
theorem iw0_restore_X0 : ∀ w ∈ u_ws RX0 TX0 2, w ∈ wsX0_restore := by decide +kernel
abbrev rm0_dropOldest : Room := { frames := 0, cells := 0, slots := 0, locals := 0 }
abbrev rm0_keep : Room := { frames := 2, cells := 0, slots := 0, locals := 47 }
abbrev rm0_restore : Room := { frames := 2, cells := 0, slots := 0, locals := 47 }
theorem drop_eq (adr : Nat → Nat → Nat) : (va_up (va_up (va_up (va_up (va_up (va_up (fun j => some (adr j 0)) 0 (some (adr 1 0))) 1 (some (adr 2 0))) 2 (some (adr 3 0))) 3 (some (adr 4 0))) 4 (some (adr 5 0))) 5 (some (adr 0 0))) = fun j => some (rotA adr j 0) := by
  funext j
  rcases j with _ | _ | _ | _ | _ | _ | j
  all_goals first | rfl | (simp only [va_up, rotA]; rw [if_neg (by omega), if_neg (by omega), if_neg (by omega), if_neg (by omega), if_neg (by omega), if_neg (by omega), if_neg (by omega), if_neg (by omega)])
set_option maxHeartbeats 4000000 in
set_option maxRecDepth 100000 in
theorem c0_dropOldest (l : Launch) (D : va_G) (cyI cyO cyJ : ClassId) (aH : Nat → Nat) (oH : HS) : Ct l D (tyG cyI cyO cyJ) yX0_dropOldest wsX0_dropOldest rm0_dropOldest 0 0 [.ref (aH 0)] (bHS cyI cyO aH oH) (bHS cyI cyO aH (f0_dropOldest oH)) none := by
  obtain ⟨sz, adr, obs⟩ := oH
  refine Ct.of (cc := cX0_dropOldest) (nL := 3) (ret := none) (lv := [(0, .ref (aH 0))]) (by decide +kernel) rfl rfl (Nat.le_of_ble_eq_true rfl) ?_
  intro p e s m args below meth c A C
  have C : Cx p s m args meth c D (tyG cyI cyO cyJ) A RX0 cX0_dropOldest 3 none wsX0_dropOldest := C
  refine n_aload_n C dX0_dropOldest_0 0 rfl rfl ?_
  refine n_get (N := 2) C dX0_dropOldest_1 iw0_dropOldest_X0 0 rfl rfl 1 (by decide) (List.mem_of_getElem? (i := 1) rfl) rfl rfl rfl ?_
  refine n_iconst (v := (0 : Int32)) C dX0_dropOldest_4 (by decide) rfl ?_
  refine n_aldq2 (v := adr 0 0) C dX0_dropOldest_5 1 1 rfl rfl (ck_in (by decide)) (j := 0) (by decide) rfl rfl ?_
  refine n_astore_n (lv' := [(1, .ref (adr 0 0)), (0, .ref (aH 0))]) C dX0_dropOldest_6 (by decide) rfl rfl ?_
  refine n_iconst (v := (1 : Int32)) C dX0_dropOldest_7 (by decide) rfl ?_
  refine n_istore_n (lv' := [(2, .int (1 : Int32)), (1, .ref (adr 0 0)), (0, .ref (aH 0))]) C dX0_dropOldest_8 (by decide) rfl rfl ?_
  refine n_iload_n C dX0_dropOldest_9 0 rfl rfl ?_
  refine n_bipush (v := (6 : Int32)) C dX0_dropOldest_10 (by decide) rfl ?_
  refine n_icmp_ge (t := 35) C dX0_dropOldest_12 (by decide) rfl (fun h => absurd h (by decide)) (fun h => ?_)
  refine n_aload_n C dX0_dropOldest_15 2 rfl rfl ?_
  refine n_get (N := 2) C dX0_dropOldest_16 iw0_dropOldest_X0 0 rfl rfl 1 (by decide) (List.mem_of_getElem? (i := 1) rfl) rfl rfl rfl ?_
  refine n_iload_n C dX0_dropOldest_19 0 rfl rfl ?_
  refine n_iconst (v := (1 : Int32)) C dX0_dropOldest_20 (by decide) rfl ?_
  refine n_isub C dX0_dropOldest_21 rfl ?_
  refine n_aload_n C dX0_dropOldest_22 2 rfl rfl ?_
  refine n_get (N := 2) C dX0_dropOldest_23 iw0_dropOldest_X0 0 rfl rfl 1 (by decide) (List.mem_of_getElem? (i := 1) rfl) rfl rfl rfl ?_
  refine n_iload_n C dX0_dropOldest_26 0 rfl rfl ?_
  refine n_aldq2 (v := adr 1 0) C dX0_dropOldest_27 1 1 rfl rfl (ck_in (by decide)) (j := 1) (by decide) rfl rfl ?_
  refine n_astq2 (r := (RX1, TX1, 15)) (w2 := (aH 0, .inr (0, [.int sz, .ref (aH 2)])) :: (aH 2, .inl (cyO, 6, .inr (.inr (.inr (.inr (va_up (fun j => some (adr j 0)) 0 (some (adr 1 0)))))))) :: (bX1 cyI (adr 0) (obs 0) ++ (bX1 cyI (adr 1) (obs 1) ++ (bX1 cyI (adr 2) (obs 2) ++ (bX1 cyI (adr 3) (obs 3) ++ (bX1 cyI (adr 4) (obs 4) ++ bX1 cyI (adr 5) (obs 5))))))) C dX0_dropOldest_28 1 1 15 1 rfl rfl rfl rfl (ck_in (by decide)) (j := 0) (by decide) rfl rfl ?_
  refine n_iinc (v := (2 : Int32)) (lv' := [(2, .int (2 : Int32)), (1, .ref (adr 0 0)), (0, .ref (aH 0))]) C dX0_dropOldest_29 (j := 0) rfl (by decide) (by decide) rfl rfl ?_
  refine n_goto (t := 9) C dX0_dropOldest_32 (by decide) ?_
  refine n_iload_n C dX0_dropOldest_9 0 rfl rfl ?_
  refine n_bipush (v := (6 : Int32)) C dX0_dropOldest_10 (by decide) rfl ?_
  refine n_icmp_ge (t := 35) C dX0_dropOldest_12 (by decide) rfl (fun h => absurd h (by decide)) (fun h => ?_)
  refine n_aload_n C dX0_dropOldest_15 2 rfl rfl ?_
  refine n_get (N := 2) C dX0_dropOldest_16 iw0_dropOldest_X0 0 rfl rfl 1 (by decide) (List.mem_of_getElem? (i := 1) rfl) rfl rfl rfl ?_
  refine n_iload_n C dX0_dropOldest_19 0 rfl rfl ?_
  refine n_iconst (v := (1 : Int32)) C dX0_dropOldest_20 (by decide) rfl ?_
  refine n_isub C dX0_dropOldest_21 rfl ?_
  refine n_aload_n C dX0_dropOldest_22 2 rfl rfl ?_
  refine n_get (N := 2) C dX0_dropOldest_23 iw0_dropOldest_X0 0 rfl rfl 1 (by decide) (List.mem_of_getElem? (i := 1) rfl) rfl rfl rfl ?_
  refine n_iload_n C dX0_dropOldest_26 0 rfl rfl ?_
  refine n_aldq2 (v := adr 2 0) C dX0_dropOldest_27 1 1 rfl rfl (ck_in (by decide)) (j := 2) (by decide) rfl rfl ?_
  refine n_astq2 (r := (RX1, TX1, 15)) (w2 := (aH 0, .inr (0, [.int sz, .ref (aH 2)])) :: (aH 2, .inl (cyO, 6, .inr (.inr (.inr (.inr (va_up (va_up (fun j => some (adr j 0)) 0 (some (adr 1 0))) 1 (some (adr 2 0)))))))) :: (bX1 cyI (adr 0) (obs 0) ++ (bX1 cyI (adr 1) (obs 1) ++ (bX1 cyI (adr 2) (obs 2) ++ (bX1 cyI (adr 3) (obs 3) ++ (bX1 cyI (adr 4) (obs 4) ++ bX1 cyI (adr 5) (obs 5))))))) C dX0_dropOldest_28 1 1 28 1 rfl rfl rfl rfl (ck_in (by decide)) (j := 1) (by decide) rfl rfl ?_
  refine n_iinc (v := (3 : Int32)) (lv' := [(2, .int (3 : Int32)), (1, .ref (adr 0 0)), (0, .ref (aH 0))]) C dX0_dropOldest_29 (j := 0) rfl (by decide) (by decide) rfl rfl ?_
  refine n_goto (t := 9) C dX0_dropOldest_32 (by decide) ?_
  refine n_iload_n C dX0_dropOldest_9 0 rfl rfl ?_
  refine n_bipush (v := (6 : Int32)) C dX0_dropOldest_10 (by decide) rfl ?_
  refine n_icmp_ge (t := 35) C dX0_dropOldest_12 (by decide) rfl (fun h => absurd h (by decide)) (fun h => ?_)
  refine n_aload_n C dX0_dropOldest_15 2 rfl rfl ?_
  refine n_get (N := 2) C dX0_dropOldest_16 iw0_dropOldest_X0 0 rfl rfl 1 (by decide) (List.mem_of_getElem? (i := 1) rfl) rfl rfl rfl ?_
  refine n_iload_n C dX0_dropOldest_19 0 rfl rfl ?_
  refine n_iconst (v := (1 : Int32)) C dX0_dropOldest_20 (by decide) rfl ?_
  refine n_isub C dX0_dropOldest_21 rfl ?_
  refine n_aload_n C dX0_dropOldest_22 2 rfl rfl ?_
  refine n_get (N := 2) C dX0_dropOldest_23 iw0_dropOldest_X0 0 rfl rfl 1 (by decide) (List.mem_of_getElem? (i := 1) rfl) rfl rfl rfl ?_
  refine n_iload_n C dX0_dropOldest_26 0 rfl rfl ?_
  refine n_aldq2 (v := adr 3 0) C dX0_dropOldest_27 1 1 rfl rfl (ck_in (by decide)) (j := 3) (by decide) rfl rfl ?_
  refine n_astq2 (r := (RX1, TX1, 15)) (w2 := (aH 0, .inr (0, [.int sz, .ref (aH 2)])) :: (aH 2, .inl (cyO, 6, .inr (.inr (.inr (.inr (va_up (va_up (va_up (fun j => some (adr j 0)) 0 (some (adr 1 0))) 1 (some (adr 2 0))) 2 (some (adr 3 0)))))))) :: (bX1 cyI (adr 0) (obs 0) ++ (bX1 cyI (adr 1) (obs 1) ++ (bX1 cyI (adr 2) (obs 2) ++ (bX1 cyI (adr 3) (obs 3) ++ (bX1 cyI (adr 4) (obs 4) ++ bX1 cyI (adr 5) (obs 5))))))) C dX0_dropOldest_28 1 1 41 1 rfl rfl rfl rfl (ck_in (by decide)) (j := 2) (by decide) rfl rfl ?_
  refine n_iinc (v := (4 : Int32)) (lv' := [(2, .int (4 : Int32)), (1, .ref (adr 0 0)), (0, .ref (aH 0))]) C dX0_dropOldest_29 (j := 0) rfl (by decide) (by decide) rfl rfl ?_
  refine n_goto (t := 9) C dX0_dropOldest_32 (by decide) ?_
  refine n_iload_n C dX0_dropOldest_9 0 rfl rfl ?_
  refine n_bipush (v := (6 : Int32)) C dX0_dropOldest_10 (by decide) rfl ?_
  refine n_icmp_ge (t := 35) C dX0_dropOldest_12 (by decide) rfl (fun h => absurd h (by decide)) (fun h => ?_)
  refine n_aload_n C dX0_dropOldest_15 2 rfl rfl ?_
  refine n_get (N := 2) C dX0_dropOldest_16 iw0_dropOldest_X0 0 rfl rfl 1 (by decide) (List.mem_of_getElem? (i := 1) rfl) rfl rfl rfl ?_
  refine n_iload_n C dX0_dropOldest_19 0 rfl rfl ?_
  refine n_iconst (v := (1 : Int32)) C dX0_dropOldest_20 (by decide) rfl ?_
  refine n_isub C dX0_dropOldest_21 rfl ?_
  refine n_aload_n C dX0_dropOldest_22 2 rfl rfl ?_
  refine n_get (N := 2) C dX0_dropOldest_23 iw0_dropOldest_X0 0 rfl rfl 1 (by decide) (List.mem_of_getElem? (i := 1) rfl) rfl rfl rfl ?_
  refine n_iload_n C dX0_dropOldest_26 0 rfl rfl ?_
  refine n_aldq2 (v := adr 4 0) C dX0_dropOldest_27 1 1 rfl rfl (ck_in (by decide)) (j := 4) (by decide) rfl rfl ?_
  refine n_astq2 (r := (RX1, TX1, 15)) (w2 := (aH 0, .inr (0, [.int sz, .ref (aH 2)])) :: (aH 2, .inl (cyO, 6, .inr (.inr (.inr (.inr (va_up (va_up (va_up (va_up (fun j => some (adr j 0)) 0 (some (adr 1 0))) 1 (some (adr 2 0))) 2 (some (adr 3 0))) 3 (some (adr 4 0)))))))) :: (bX1 cyI (adr 0) (obs 0) ++ (bX1 cyI (adr 1) (obs 1) ++ (bX1 cyI (adr 2) (obs 2) ++ (bX1 cyI (adr 3) (obs 3) ++ (bX1 cyI (adr 4) (obs 4) ++ bX1 cyI (adr 5) (obs 5))))))) C dX0_dropOldest_28 1 1 54 1 rfl rfl rfl rfl (ck_in (by decide)) (j := 3) (by decide) rfl rfl ?_
  refine n_iinc (v := (5 : Int32)) (lv' := [(2, .int (5 : Int32)), (1, .ref (adr 0 0)), (0, .ref (aH 0))]) C dX0_dropOldest_29 (j := 0) rfl (by decide) (by decide) rfl rfl ?_
  refine n_goto (t := 9) C dX0_dropOldest_32 (by decide) ?_
  refine n_iload_n C dX0_dropOldest_9 0 rfl rfl ?_
  refine n_bipush (v := (6 : Int32)) C dX0_dropOldest_10 (by decide) rfl ?_
  refine n_icmp_ge (t := 35) C dX0_dropOldest_12 (by decide) rfl (fun h => absurd h (by decide)) (fun h => ?_)
  refine n_aload_n C dX0_dropOldest_15 2 rfl rfl ?_
  refine n_get (N := 2) C dX0_dropOldest_16 iw0_dropOldest_X0 0 rfl rfl 1 (by decide) (List.mem_of_getElem? (i := 1) rfl) rfl rfl rfl ?_
  refine n_iload_n C dX0_dropOldest_19 0 rfl rfl ?_
  refine n_iconst (v := (1 : Int32)) C dX0_dropOldest_20 (by decide) rfl ?_
  refine n_isub C dX0_dropOldest_21 rfl ?_
  refine n_aload_n C dX0_dropOldest_22 2 rfl rfl ?_
  refine n_get (N := 2) C dX0_dropOldest_23 iw0_dropOldest_X0 0 rfl rfl 1 (by decide) (List.mem_of_getElem? (i := 1) rfl) rfl rfl rfl ?_
  refine n_iload_n C dX0_dropOldest_26 0 rfl rfl ?_
  refine n_aldq2 (v := adr 5 0) C dX0_dropOldest_27 1 1 rfl rfl (ck_in (by decide)) (j := 5) (by decide) rfl rfl ?_
  refine n_astq2 (r := (RX1, TX1, 15)) (w2 := (aH 0, .inr (0, [.int sz, .ref (aH 2)])) :: (aH 2, .inl (cyO, 6, .inr (.inr (.inr (.inr (va_up (va_up (va_up (va_up (va_up (fun j => some (adr j 0)) 0 (some (adr 1 0))) 1 (some (adr 2 0))) 2 (some (adr 3 0))) 3 (some (adr 4 0))) 4 (some (adr 5 0)))))))) :: (bX1 cyI (adr 0) (obs 0) ++ (bX1 cyI (adr 1) (obs 1) ++ (bX1 cyI (adr 2) (obs 2) ++ (bX1 cyI (adr 3) (obs 3) ++ (bX1 cyI (adr 4) (obs 4) ++ bX1 cyI (adr 5) (obs 5))))))) C dX0_dropOldest_28 1 1 67 1 rfl rfl rfl rfl (ck_in (by decide)) (j := 4) (by decide) rfl rfl ?_
  refine n_iinc (v := (6 : Int32)) (lv' := [(2, .int (6 : Int32)), (1, .ref (adr 0 0)), (0, .ref (aH 0))]) C dX0_dropOldest_29 (j := 0) rfl (by decide) (by decide) rfl rfl ?_
  refine n_goto (t := 9) C dX0_dropOldest_32 (by decide) ?_
  refine n_iload_n C dX0_dropOldest_9 0 rfl rfl ?_
  refine n_bipush (v := (6 : Int32)) C dX0_dropOldest_10 (by decide) rfl ?_
  refine n_icmp_ge (t := 35) C dX0_dropOldest_12 (by decide) rfl (fun h => ?_) (fun h => absurd (by decide) h)
  refine n_aload_n C dX0_dropOldest_35 2 rfl rfl ?_
  refine n_get (N := 2) C dX0_dropOldest_36 iw0_dropOldest_X0 0 rfl rfl 1 (by decide) (List.mem_of_getElem? (i := 1) rfl) rfl rfl rfl ?_
  refine n_iconst (v := (5 : Int32)) C dX0_dropOldest_39 (by decide) rfl ?_
  refine n_aload_n C dX0_dropOldest_40 1 rfl rfl ?_
  refine n_astq2 (r := (RX1, TX1, 15)) (w2 := (aH 0, .inr (0, [.int sz, .ref (aH 2)])) :: (aH 2, .inl (cyO, 6, .inr (.inr (.inr (.inr (va_up (va_up (va_up (va_up (va_up (va_up (fun j => some (adr j 0)) 0 (some (adr 1 0))) 1 (some (adr 2 0))) 2 (some (adr 3 0))) 3 (some (adr 4 0))) 4 (some (adr 5 0))) 5 (some (adr 0 0)))))))) :: (bX1 cyI (adr 0) (obs 0) ++ (bX1 cyI (adr 1) (obs 1) ++ (bX1 cyI (adr 2) (obs 2) ++ (bX1 cyI (adr 3) (obs 3) ++ (bX1 cyI (adr 4) (obs 4) ++ bX1 cyI (adr 5) (obs 5))))))) C dX0_dropOldest_41 1 1 2 1 rfl rfl rfl rfl (ck_in (by decide)) (j := 5) (by decide) rfl rfl ?_
  refine n_aload_n C dX0_dropOldest_42 2 rfl rfl ?_
  refine n_iconst (v := (5 : Int32)) C dX0_dropOldest_43 (by decide) rfl ?_
  refine n_put (w2 := (aH 0, .inr (0, [.int (5 : Int32), .ref (aH 2)])) :: (aH 2, .inl (cyO, 6, .inr (.inr (.inr (.inr (va_up (va_up (va_up (va_up (va_up (va_up (fun j => some (adr j 0)) 0 (some (adr 1 0))) 1 (some (adr 2 0))) 2 (some (adr 3 0))) 3 (some (adr 4 0))) 4 (some (adr 5 0))) 5 (some (adr 0 0)))))))) :: (bX1 cyI (adr 0) (obs 0) ++ (bX1 cyI (adr 1) (obs 1) ++ (bX1 cyI (adr 2) (obs 2) ++ (bX1 cyI (adr 3) (obs 3) ++ (bX1 cyI (adr 4) (obs 4) ++ bX1 cyI (adr 5) (obs 5))))))) (N := 2) (ty := .int) C dX0_dropOldest_44 iw0_dropOldest_X0 tyX0_ok nmX0 0 rfl rfl 0 (by decide) (List.mem_of_getElem? (i := 2) rfl) rfl rfl (by decide +kernel) rfl rfl (Nat.le_of_ble_eq_true rfl) rfl rfl ?_
  rw [drop_eq adr]
  refine Wn.perm (w2 := bHS cyI cyO aH (f0_dropOldest (sz, adr, obs))) ?_ ?_
  · refine List.Perm.cons _ (List.Perm.cons _ ?_)
    refine (List.perm_append_comm).trans ?_
    rw [List.append_assoc, List.append_assoc, List.append_assoc, List.append_assoc]
    exact List.Perm.refl _
  exact n_vret C dX0_dropOldest_47
set_option maxHeartbeats 4000000 in
set_option maxRecDepth 100000 in
theorem t0_keep_0 {l : Launch} {p : Program} {e : Env} {s : State} {m : MethodId} {args : Array Value} {below : List Frame} {meth : Method} {c : Code} {D : va_G} {A : Nat → Prop} {cyI cyO cyJ : ClassId} {aL aH : Nat → Nat} (C : Cx p s m args meth c D (tyG cyI cyO cyJ) A RX0 cX0_keep 2 none wsX0_keep) (n : Nat) (oL : OB) (adr : Nat → Nat → Nat) (obs : Nat → OB) (z : OB) (hz : f1_copyFrom_b n oL (obs 0) = some z) : Wn p l e rm0_keep s m args below meth c D A 2 0 0 (MQ below (Qr D (tyG cyI cyO cyJ) (bX1 cyI aL oL ++ bHS cyI cyO aH ((0 : Int32) + 1, adr, fun i => if i = 0 then z else obs i)) A none) args s 0 0 A) (bX1 cyI aL oL ++ bHS cyI cyO aH ((0 : Int32), adr, obs)) 13 [(0, .ref (aH 0)), (1, .ref (aL 0))] [] := by
  refine n_aload_n C dX0_keep_13 0 rfl rfl ?_
  refine n_get (N := 2) C dX0_keep_14 iw0_keep_X0 13 rfl rfl 0 (by decide) (List.mem_of_getElem? (i := 1) rfl) rfl rfl rfl ?_
  refine n_if_lt (t := 52) C dX0_keep_17 (by decide) rfl (fun h => absurd h (show ¬ (0 : Int32) < 0 by decide)) (fun h => ?_)
  refine n_aload_n C dX0_keep_20 0 rfl rfl ?_
  refine n_get (N := 2) C dX0_keep_21 iw0_keep_X0 13 rfl rfl 0 (by decide) (List.mem_of_getElem? (i := 1) rfl) rfl rfl rfl ?_
  refine n_bipush (v := (6 : Int32)) C dX0_keep_24 (by decide) rfl ?_
  refine n_icmp_ge (t := 52) C dX0_keep_26 (by decide) rfl (fun h => absurd h (show ¬ (6 : Int32) ≤ (0 : Int32) by decide)) (fun h => ?_)
  refine n_aload_n C dX0_keep_29 0 rfl rfl ?_
  refine n_get (N := 2) C dX0_keep_30 iw0_keep_X0 13 rfl rfl 1 (by decide) (List.mem_of_getElem? (i := 2) rfl) rfl rfl rfl ?_
  refine n_aload_n C dX0_keep_33 0 rfl rfl ?_
  refine n_get (N := 2) C dX0_keep_34 iw0_keep_X0 13 rfl rfl 0 (by decide) (List.mem_of_getElem? (i := 1) rfl) rfl rfl rfl ?_
  refine n_aldq2 (v := adr 0 0) C dX0_keep_37 14 1 rfl rfl (ck_in (show ck (0 : Int32) 6 = true by decide)) (j := 0) (show (0 : Int32).toNatClampNeg = 0 by decide) rfl rfl ?_
  refine n_aload_n C dX0_keep_38 1 rfl rfl ?_
  refine n_callV (As := [.ref (aL 0)]) (rest := []) (w2 := bX1 cyI aL oL ++ bHS cyI cyO aH ((0 : Int32), adr, fun i => if i = 0 then z else obs i)) C dX0_keep_39 (c1_copyFrom_b l D cyI cyO cyJ aL (adr 0) n oL (obs 0) z hz) (cwV 1 C.ts gX0_keep_X1_copyFrom rfl rfl rfl (by decide +kernel) ⟨Nat.le_of_ble_eq_true rfl, Nat.le_of_ble_eq_true rfl⟩) rfl (q0 := 13) (ci := 1) rfl rfl (Frm.take (Frm.skipc (Frm.skipc Frm.here))) rfl (Nat.le_of_ble_eq_true rfl) ⟨Nat.le_refl _, Nat.le_refl _⟩ rfl ?_
  refine n_aload_n C dX0_keep_42 0 rfl rfl ?_
  refine n_dup C dX0_keep_43 rfl rfl ?_
  refine n_get (N := 2) C dX0_keep_44 iw0_keep_X0 13 rfl rfl 0 (by decide) (List.mem_of_getElem? (i := 1) rfl) rfl rfl rfl ?_
  refine n_iconst (v := (1 : Int32)) C dX0_keep_47 (by decide) rfl ?_
  refine n_iadd C dX0_keep_48 rfl ?_
  refine n_put (w2 := bX1 cyI aL oL ++ bHS cyI cyO aH ((0 : Int32) + 1, adr, fun i => if i = 0 then z else obs i)) (N := 2) (ty := .int) C dX0_keep_49 iw0_keep_X0 tyX0_ok nmX0 13 rfl rfl 0 (by decide) (List.mem_of_getElem? (i := 1) rfl) rfl rfl (by decide +kernel) rfl rfl (Nat.le_of_ble_eq_true rfl) rfl rfl ?_
  exact n_vret C dX0_keep_52
set_option maxHeartbeats 4000000 in
set_option maxRecDepth 100000 in
theorem t0_keep_1 {l : Launch} {p : Program} {e : Env} {s : State} {m : MethodId} {args : Array Value} {below : List Frame} {meth : Method} {c : Code} {D : va_G} {A : Nat → Prop} {cyI cyO cyJ : ClassId} {aL aH : Nat → Nat} (C : Cx p s m args meth c D (tyG cyI cyO cyJ) A RX0 cX0_keep 2 none wsX0_keep) (n : Nat) (oL : OB) (adr : Nat → Nat → Nat) (obs : Nat → OB) (z : OB) (hz : f1_copyFrom_b n oL (obs 1) = some z) : Wn p l e rm0_keep s m args below meth c D A 2 0 0 (MQ below (Qr D (tyG cyI cyO cyJ) (bX1 cyI aL oL ++ bHS cyI cyO aH ((1 : Int32) + 1, adr, fun i => if i = 1 then z else obs i)) A none) args s 0 0 A) (bX1 cyI aL oL ++ bHS cyI cyO aH ((1 : Int32), adr, obs)) 13 [(0, .ref (aH 0)), (1, .ref (aL 0))] [] := by
  refine n_aload_n C dX0_keep_13 0 rfl rfl ?_
  refine n_get (N := 2) C dX0_keep_14 iw0_keep_X0 13 rfl rfl 0 (by decide) (List.mem_of_getElem? (i := 1) rfl) rfl rfl rfl ?_
  refine n_if_lt (t := 52) C dX0_keep_17 (by decide) rfl (fun h => absurd h (show ¬ (1 : Int32) < 0 by decide)) (fun h => ?_)
  refine n_aload_n C dX0_keep_20 0 rfl rfl ?_
  refine n_get (N := 2) C dX0_keep_21 iw0_keep_X0 13 rfl rfl 0 (by decide) (List.mem_of_getElem? (i := 1) rfl) rfl rfl rfl ?_
  refine n_bipush (v := (6 : Int32)) C dX0_keep_24 (by decide) rfl ?_
  refine n_icmp_ge (t := 52) C dX0_keep_26 (by decide) rfl (fun h => absurd h (show ¬ (6 : Int32) ≤ (1 : Int32) by decide)) (fun h => ?_)
  refine n_aload_n C dX0_keep_29 0 rfl rfl ?_
  refine n_get (N := 2) C dX0_keep_30 iw0_keep_X0 13 rfl rfl 1 (by decide) (List.mem_of_getElem? (i := 2) rfl) rfl rfl rfl ?_
  refine n_aload_n C dX0_keep_33 0 rfl rfl ?_
  refine n_get (N := 2) C dX0_keep_34 iw0_keep_X0 13 rfl rfl 0 (by decide) (List.mem_of_getElem? (i := 1) rfl) rfl rfl rfl ?_
  refine n_aldq2 (v := adr 1 0) C dX0_keep_37 14 1 rfl rfl (ck_in (show ck (1 : Int32) 6 = true by decide)) (j := 1) (show (1 : Int32).toNatClampNeg = 1 by decide) rfl rfl ?_
  refine n_aload_n C dX0_keep_38 1 rfl rfl ?_
  refine n_callV (As := [.ref (aL 0)]) (rest := []) (w2 := bX1 cyI aL oL ++ bHS cyI cyO aH ((1 : Int32), adr, fun i => if i = 1 then z else obs i)) C dX0_keep_39 (c1_copyFrom_b l D cyI cyO cyJ aL (adr 1) n oL (obs 1) z hz) (cwV 1 C.ts gX0_keep_X1_copyFrom rfl rfl rfl (by decide +kernel) ⟨Nat.le_of_ble_eq_true rfl, Nat.le_of_ble_eq_true rfl⟩) rfl (q0 := 13) (ci := 1) rfl rfl (Frm.take (Frm.skipc (Frm.skipc (Frm.skip Frm.here)))) rfl (Nat.le_of_ble_eq_true rfl) ⟨Nat.le_refl _, Nat.le_refl _⟩ rfl ?_
  refine n_aload_n C dX0_keep_42 0 rfl rfl ?_
  refine n_dup C dX0_keep_43 rfl rfl ?_
  refine n_get (N := 2) C dX0_keep_44 iw0_keep_X0 13 rfl rfl 0 (by decide) (List.mem_of_getElem? (i := 1) rfl) rfl rfl rfl ?_
  refine n_iconst (v := (1 : Int32)) C dX0_keep_47 (by decide) rfl ?_
  refine n_iadd C dX0_keep_48 rfl ?_
  refine n_put (w2 := bX1 cyI aL oL ++ bHS cyI cyO aH ((1 : Int32) + 1, adr, fun i => if i = 1 then z else obs i)) (N := 2) (ty := .int) C dX0_keep_49 iw0_keep_X0 tyX0_ok nmX0 13 rfl rfl 0 (by decide) (List.mem_of_getElem? (i := 1) rfl) rfl rfl (by decide +kernel) rfl rfl (Nat.le_of_ble_eq_true rfl) rfl rfl ?_
  exact n_vret C dX0_keep_52
set_option maxHeartbeats 4000000 in
set_option maxRecDepth 100000 in
theorem t0_keep_2 {l : Launch} {p : Program} {e : Env} {s : State} {m : MethodId} {args : Array Value} {below : List Frame} {meth : Method} {c : Code} {D : va_G} {A : Nat → Prop} {cyI cyO cyJ : ClassId} {aL aH : Nat → Nat} (C : Cx p s m args meth c D (tyG cyI cyO cyJ) A RX0 cX0_keep 2 none wsX0_keep) (n : Nat) (oL : OB) (adr : Nat → Nat → Nat) (obs : Nat → OB) (z : OB) (hz : f1_copyFrom_b n oL (obs 2) = some z) : Wn p l e rm0_keep s m args below meth c D A 2 0 0 (MQ below (Qr D (tyG cyI cyO cyJ) (bX1 cyI aL oL ++ bHS cyI cyO aH ((2 : Int32) + 1, adr, fun i => if i = 2 then z else obs i)) A none) args s 0 0 A) (bX1 cyI aL oL ++ bHS cyI cyO aH ((2 : Int32), adr, obs)) 13 [(0, .ref (aH 0)), (1, .ref (aL 0))] [] := by
  refine n_aload_n C dX0_keep_13 0 rfl rfl ?_
  refine n_get (N := 2) C dX0_keep_14 iw0_keep_X0 13 rfl rfl 0 (by decide) (List.mem_of_getElem? (i := 1) rfl) rfl rfl rfl ?_
  refine n_if_lt (t := 52) C dX0_keep_17 (by decide) rfl (fun h => absurd h (show ¬ (2 : Int32) < 0 by decide)) (fun h => ?_)
  refine n_aload_n C dX0_keep_20 0 rfl rfl ?_
  refine n_get (N := 2) C dX0_keep_21 iw0_keep_X0 13 rfl rfl 0 (by decide) (List.mem_of_getElem? (i := 1) rfl) rfl rfl rfl ?_
  refine n_bipush (v := (6 : Int32)) C dX0_keep_24 (by decide) rfl ?_
  refine n_icmp_ge (t := 52) C dX0_keep_26 (by decide) rfl (fun h => absurd h (show ¬ (6 : Int32) ≤ (2 : Int32) by decide)) (fun h => ?_)
  refine n_aload_n C dX0_keep_29 0 rfl rfl ?_
  refine n_get (N := 2) C dX0_keep_30 iw0_keep_X0 13 rfl rfl 1 (by decide) (List.mem_of_getElem? (i := 2) rfl) rfl rfl rfl ?_
  refine n_aload_n C dX0_keep_33 0 rfl rfl ?_
  refine n_get (N := 2) C dX0_keep_34 iw0_keep_X0 13 rfl rfl 0 (by decide) (List.mem_of_getElem? (i := 1) rfl) rfl rfl rfl ?_
  refine n_aldq2 (v := adr 2 0) C dX0_keep_37 14 1 rfl rfl (ck_in (show ck (2 : Int32) 6 = true by decide)) (j := 2) (show (2 : Int32).toNatClampNeg = 2 by decide) rfl rfl ?_
  refine n_aload_n C dX0_keep_38 1 rfl rfl ?_
  refine n_callV (As := [.ref (aL 0)]) (rest := []) (w2 := bX1 cyI aL oL ++ bHS cyI cyO aH ((2 : Int32), adr, fun i => if i = 2 then z else obs i)) C dX0_keep_39 (c1_copyFrom_b l D cyI cyO cyJ aL (adr 2) n oL (obs 2) z hz) (cwV 1 C.ts gX0_keep_X1_copyFrom rfl rfl rfl (by decide +kernel) ⟨Nat.le_of_ble_eq_true rfl, Nat.le_of_ble_eq_true rfl⟩) rfl (q0 := 13) (ci := 1) rfl rfl (Frm.take (Frm.skipc (Frm.skipc (Frm.skip (Frm.skip Frm.here))))) rfl (Nat.le_of_ble_eq_true rfl) ⟨Nat.le_refl _, Nat.le_refl _⟩ rfl ?_
  refine n_aload_n C dX0_keep_42 0 rfl rfl ?_
  refine n_dup C dX0_keep_43 rfl rfl ?_
  refine n_get (N := 2) C dX0_keep_44 iw0_keep_X0 13 rfl rfl 0 (by decide) (List.mem_of_getElem? (i := 1) rfl) rfl rfl rfl ?_
  refine n_iconst (v := (1 : Int32)) C dX0_keep_47 (by decide) rfl ?_
  refine n_iadd C dX0_keep_48 rfl ?_
  refine n_put (w2 := bX1 cyI aL oL ++ bHS cyI cyO aH ((2 : Int32) + 1, adr, fun i => if i = 2 then z else obs i)) (N := 2) (ty := .int) C dX0_keep_49 iw0_keep_X0 tyX0_ok nmX0 13 rfl rfl 0 (by decide) (List.mem_of_getElem? (i := 1) rfl) rfl rfl (by decide +kernel) rfl rfl (Nat.le_of_ble_eq_true rfl) rfl rfl ?_
  exact n_vret C dX0_keep_52
set_option maxHeartbeats 4000000 in
set_option maxRecDepth 100000 in
theorem t0_keep_3 {l : Launch} {p : Program} {e : Env} {s : State} {m : MethodId} {args : Array Value} {below : List Frame} {meth : Method} {c : Code} {D : va_G} {A : Nat → Prop} {cyI cyO cyJ : ClassId} {aL aH : Nat → Nat} (C : Cx p s m args meth c D (tyG cyI cyO cyJ) A RX0 cX0_keep 2 none wsX0_keep) (n : Nat) (oL : OB) (adr : Nat → Nat → Nat) (obs : Nat → OB) (z : OB) (hz : f1_copyFrom_b n oL (obs 3) = some z) : Wn p l e rm0_keep s m args below meth c D A 2 0 0 (MQ below (Qr D (tyG cyI cyO cyJ) (bX1 cyI aL oL ++ bHS cyI cyO aH ((3 : Int32) + 1, adr, fun i => if i = 3 then z else obs i)) A none) args s 0 0 A) (bX1 cyI aL oL ++ bHS cyI cyO aH ((3 : Int32), adr, obs)) 13 [(0, .ref (aH 0)), (1, .ref (aL 0))] [] := by
  refine n_aload_n C dX0_keep_13 0 rfl rfl ?_
  refine n_get (N := 2) C dX0_keep_14 iw0_keep_X0 13 rfl rfl 0 (by decide) (List.mem_of_getElem? (i := 1) rfl) rfl rfl rfl ?_
  refine n_if_lt (t := 52) C dX0_keep_17 (by decide) rfl (fun h => absurd h (show ¬ (3 : Int32) < 0 by decide)) (fun h => ?_)
  refine n_aload_n C dX0_keep_20 0 rfl rfl ?_
  refine n_get (N := 2) C dX0_keep_21 iw0_keep_X0 13 rfl rfl 0 (by decide) (List.mem_of_getElem? (i := 1) rfl) rfl rfl rfl ?_
  refine n_bipush (v := (6 : Int32)) C dX0_keep_24 (by decide) rfl ?_
  refine n_icmp_ge (t := 52) C dX0_keep_26 (by decide) rfl (fun h => absurd h (show ¬ (6 : Int32) ≤ (3 : Int32) by decide)) (fun h => ?_)
  refine n_aload_n C dX0_keep_29 0 rfl rfl ?_
  refine n_get (N := 2) C dX0_keep_30 iw0_keep_X0 13 rfl rfl 1 (by decide) (List.mem_of_getElem? (i := 2) rfl) rfl rfl rfl ?_
  refine n_aload_n C dX0_keep_33 0 rfl rfl ?_
  refine n_get (N := 2) C dX0_keep_34 iw0_keep_X0 13 rfl rfl 0 (by decide) (List.mem_of_getElem? (i := 1) rfl) rfl rfl rfl ?_
  refine n_aldq2 (v := adr 3 0) C dX0_keep_37 14 1 rfl rfl (ck_in (show ck (3 : Int32) 6 = true by decide)) (j := 3) (show (3 : Int32).toNatClampNeg = 3 by decide) rfl rfl ?_
  refine n_aload_n C dX0_keep_38 1 rfl rfl ?_
  refine n_callV (As := [.ref (aL 0)]) (rest := []) (w2 := bX1 cyI aL oL ++ bHS cyI cyO aH ((3 : Int32), adr, fun i => if i = 3 then z else obs i)) C dX0_keep_39 (c1_copyFrom_b l D cyI cyO cyJ aL (adr 3) n oL (obs 3) z hz) (cwV 1 C.ts gX0_keep_X1_copyFrom rfl rfl rfl (by decide +kernel) ⟨Nat.le_of_ble_eq_true rfl, Nat.le_of_ble_eq_true rfl⟩) rfl (q0 := 13) (ci := 1) rfl rfl (Frm.take (Frm.skipc (Frm.skipc (Frm.skip (Frm.skip (Frm.skip Frm.here)))))) rfl (Nat.le_of_ble_eq_true rfl) ⟨Nat.le_refl _, Nat.le_refl _⟩ rfl ?_
  refine n_aload_n C dX0_keep_42 0 rfl rfl ?_
  refine n_dup C dX0_keep_43 rfl rfl ?_
  refine n_get (N := 2) C dX0_keep_44 iw0_keep_X0 13 rfl rfl 0 (by decide) (List.mem_of_getElem? (i := 1) rfl) rfl rfl rfl ?_
  refine n_iconst (v := (1 : Int32)) C dX0_keep_47 (by decide) rfl ?_
  refine n_iadd C dX0_keep_48 rfl ?_
  refine n_put (w2 := bX1 cyI aL oL ++ bHS cyI cyO aH ((3 : Int32) + 1, adr, fun i => if i = 3 then z else obs i)) (N := 2) (ty := .int) C dX0_keep_49 iw0_keep_X0 tyX0_ok nmX0 13 rfl rfl 0 (by decide) (List.mem_of_getElem? (i := 1) rfl) rfl rfl (by decide +kernel) rfl rfl (Nat.le_of_ble_eq_true rfl) rfl rfl ?_
  exact n_vret C dX0_keep_52
set_option maxHeartbeats 4000000 in
set_option maxRecDepth 100000 in
theorem t0_keep_4 {l : Launch} {p : Program} {e : Env} {s : State} {m : MethodId} {args : Array Value} {below : List Frame} {meth : Method} {c : Code} {D : va_G} {A : Nat → Prop} {cyI cyO cyJ : ClassId} {aL aH : Nat → Nat} (C : Cx p s m args meth c D (tyG cyI cyO cyJ) A RX0 cX0_keep 2 none wsX0_keep) (n : Nat) (oL : OB) (adr : Nat → Nat → Nat) (obs : Nat → OB) (z : OB) (hz : f1_copyFrom_b n oL (obs 4) = some z) : Wn p l e rm0_keep s m args below meth c D A 2 0 0 (MQ below (Qr D (tyG cyI cyO cyJ) (bX1 cyI aL oL ++ bHS cyI cyO aH ((4 : Int32) + 1, adr, fun i => if i = 4 then z else obs i)) A none) args s 0 0 A) (bX1 cyI aL oL ++ bHS cyI cyO aH ((4 : Int32), adr, obs)) 13 [(0, .ref (aH 0)), (1, .ref (aL 0))] [] := by
  refine n_aload_n C dX0_keep_13 0 rfl rfl ?_
  refine n_get (N := 2) C dX0_keep_14 iw0_keep_X0 13 rfl rfl 0 (by decide) (List.mem_of_getElem? (i := 1) rfl) rfl rfl rfl ?_
  refine n_if_lt (t := 52) C dX0_keep_17 (by decide) rfl (fun h => absurd h (show ¬ (4 : Int32) < 0 by decide)) (fun h => ?_)
  refine n_aload_n C dX0_keep_20 0 rfl rfl ?_
  refine n_get (N := 2) C dX0_keep_21 iw0_keep_X0 13 rfl rfl 0 (by decide) (List.mem_of_getElem? (i := 1) rfl) rfl rfl rfl ?_
  refine n_bipush (v := (6 : Int32)) C dX0_keep_24 (by decide) rfl ?_
  refine n_icmp_ge (t := 52) C dX0_keep_26 (by decide) rfl (fun h => absurd h (show ¬ (6 : Int32) ≤ (4 : Int32) by decide)) (fun h => ?_)
  refine n_aload_n C dX0_keep_29 0 rfl rfl ?_
  refine n_get (N := 2) C dX0_keep_30 iw0_keep_X0 13 rfl rfl 1 (by decide) (List.mem_of_getElem? (i := 2) rfl) rfl rfl rfl ?_
  refine n_aload_n C dX0_keep_33 0 rfl rfl ?_
  refine n_get (N := 2) C dX0_keep_34 iw0_keep_X0 13 rfl rfl 0 (by decide) (List.mem_of_getElem? (i := 1) rfl) rfl rfl rfl ?_
  refine n_aldq2 (v := adr 4 0) C dX0_keep_37 14 1 rfl rfl (ck_in (show ck (4 : Int32) 6 = true by decide)) (j := 4) (show (4 : Int32).toNatClampNeg = 4 by decide) rfl rfl ?_
  refine n_aload_n C dX0_keep_38 1 rfl rfl ?_
  refine n_callV (As := [.ref (aL 0)]) (rest := []) (w2 := bX1 cyI aL oL ++ bHS cyI cyO aH ((4 : Int32), adr, fun i => if i = 4 then z else obs i)) C dX0_keep_39 (c1_copyFrom_b l D cyI cyO cyJ aL (adr 4) n oL (obs 4) z hz) (cwV 1 C.ts gX0_keep_X1_copyFrom rfl rfl rfl (by decide +kernel) ⟨Nat.le_of_ble_eq_true rfl, Nat.le_of_ble_eq_true rfl⟩) rfl (q0 := 13) (ci := 1) rfl rfl (Frm.take (Frm.skipc (Frm.skipc (Frm.skip (Frm.skip (Frm.skip (Frm.skip Frm.here))))))) rfl (Nat.le_of_ble_eq_true rfl) ⟨Nat.le_refl _, Nat.le_refl _⟩ rfl ?_
  refine n_aload_n C dX0_keep_42 0 rfl rfl ?_
  refine n_dup C dX0_keep_43 rfl rfl ?_
  refine n_get (N := 2) C dX0_keep_44 iw0_keep_X0 13 rfl rfl 0 (by decide) (List.mem_of_getElem? (i := 1) rfl) rfl rfl rfl ?_
  refine n_iconst (v := (1 : Int32)) C dX0_keep_47 (by decide) rfl ?_
  refine n_iadd C dX0_keep_48 rfl ?_
  refine n_put (w2 := bX1 cyI aL oL ++ bHS cyI cyO aH ((4 : Int32) + 1, adr, fun i => if i = 4 then z else obs i)) (N := 2) (ty := .int) C dX0_keep_49 iw0_keep_X0 tyX0_ok nmX0 13 rfl rfl 0 (by decide) (List.mem_of_getElem? (i := 1) rfl) rfl rfl (by decide +kernel) rfl rfl (Nat.le_of_ble_eq_true rfl) rfl rfl ?_
  exact n_vret C dX0_keep_52
set_option maxHeartbeats 4000000 in
set_option maxRecDepth 100000 in
theorem t0_keep_5 {l : Launch} {p : Program} {e : Env} {s : State} {m : MethodId} {args : Array Value} {below : List Frame} {meth : Method} {c : Code} {D : va_G} {A : Nat → Prop} {cyI cyO cyJ : ClassId} {aL aH : Nat → Nat} (C : Cx p s m args meth c D (tyG cyI cyO cyJ) A RX0 cX0_keep 2 none wsX0_keep) (n : Nat) (oL : OB) (adr : Nat → Nat → Nat) (obs : Nat → OB) (z : OB) (hz : f1_copyFrom_b n oL (obs 5) = some z) : Wn p l e rm0_keep s m args below meth c D A 2 0 0 (MQ below (Qr D (tyG cyI cyO cyJ) (bX1 cyI aL oL ++ bHS cyI cyO aH ((5 : Int32) + 1, adr, fun i => if i = 5 then z else obs i)) A none) args s 0 0 A) (bX1 cyI aL oL ++ bHS cyI cyO aH ((5 : Int32), adr, obs)) 13 [(0, .ref (aH 0)), (1, .ref (aL 0))] [] := by
  refine n_aload_n C dX0_keep_13 0 rfl rfl ?_
  refine n_get (N := 2) C dX0_keep_14 iw0_keep_X0 13 rfl rfl 0 (by decide) (List.mem_of_getElem? (i := 1) rfl) rfl rfl rfl ?_
  refine n_if_lt (t := 52) C dX0_keep_17 (by decide) rfl (fun h => absurd h (show ¬ (5 : Int32) < 0 by decide)) (fun h => ?_)
  refine n_aload_n C dX0_keep_20 0 rfl rfl ?_
  refine n_get (N := 2) C dX0_keep_21 iw0_keep_X0 13 rfl rfl 0 (by decide) (List.mem_of_getElem? (i := 1) rfl) rfl rfl rfl ?_
  refine n_bipush (v := (6 : Int32)) C dX0_keep_24 (by decide) rfl ?_
  refine n_icmp_ge (t := 52) C dX0_keep_26 (by decide) rfl (fun h => absurd h (show ¬ (6 : Int32) ≤ (5 : Int32) by decide)) (fun h => ?_)
  refine n_aload_n C dX0_keep_29 0 rfl rfl ?_
  refine n_get (N := 2) C dX0_keep_30 iw0_keep_X0 13 rfl rfl 1 (by decide) (List.mem_of_getElem? (i := 2) rfl) rfl rfl rfl ?_
  refine n_aload_n C dX0_keep_33 0 rfl rfl ?_
  refine n_get (N := 2) C dX0_keep_34 iw0_keep_X0 13 rfl rfl 0 (by decide) (List.mem_of_getElem? (i := 1) rfl) rfl rfl rfl ?_
  refine n_aldq2 (v := adr 5 0) C dX0_keep_37 14 1 rfl rfl (ck_in (show ck (5 : Int32) 6 = true by decide)) (j := 5) (show (5 : Int32).toNatClampNeg = 5 by decide) rfl rfl ?_
  refine n_aload_n C dX0_keep_38 1 rfl rfl ?_
  refine n_callV (As := [.ref (aL 0)]) (rest := []) (w2 := bX1 cyI aL oL ++ bHS cyI cyO aH ((5 : Int32), adr, fun i => if i = 5 then z else obs i)) C dX0_keep_39 (c1_copyFrom_b l D cyI cyO cyJ aL (adr 5) n oL (obs 5) z hz) (cwV 1 C.ts gX0_keep_X1_copyFrom rfl rfl rfl (by decide +kernel) ⟨Nat.le_of_ble_eq_true rfl, Nat.le_of_ble_eq_true rfl⟩) rfl (q0 := 13) (ci := 1) rfl rfl (Frm.take (Frm.skipc (Frm.skipc (Frm.skip (Frm.skip (Frm.skip (Frm.skip (Frm.skip Frm.self)))))))) rfl (Nat.le_of_ble_eq_true rfl) ⟨Nat.le_refl _, Nat.le_refl _⟩ rfl ?_
  refine n_aload_n C dX0_keep_42 0 rfl rfl ?_
  refine n_dup C dX0_keep_43 rfl rfl ?_
  refine n_get (N := 2) C dX0_keep_44 iw0_keep_X0 13 rfl rfl 0 (by decide) (List.mem_of_getElem? (i := 1) rfl) rfl rfl rfl ?_
  refine n_iconst (v := (1 : Int32)) C dX0_keep_47 (by decide) rfl ?_
  refine n_iadd C dX0_keep_48 rfl ?_
  refine n_put (w2 := bX1 cyI aL oL ++ bHS cyI cyO aH ((5 : Int32) + 1, adr, fun i => if i = 5 then z else obs i)) (N := 2) (ty := .int) C dX0_keep_49 iw0_keep_X0 tyX0_ok nmX0 13 rfl rfl 0 (by decide) (List.mem_of_getElem? (i := 1) rfl) rfl rfl (by decide +kernel) rfl rfl (Nat.le_of_ble_eq_true rfl) rfl rfl ?_
  exact n_vret C dX0_keep_52
theorem f0_put_cases {n : Nat} {oL : OB} {h z : HS} (hf : f0_put n oL h = some z) : ∃ (j : Nat) (y : OB), j < 6 ∧ h.1 = nI j ∧ f1_copyFrom_b n oL (h.2.2 j) = some y ∧ z = (h.1 + 1, h.2.1, fun i => if i = j then y else h.2.2 i) := by
  unfold f0_put at hf
  by_cases hc : ck h.1 6 = true
  · have hf := ip hc hf
    obtain ⟨j, hj, ej⟩ := ck_lt (by decide) hc
    obtain ⟨y, hy, hf⟩ := bi hf
    have ec : (nI j).toNatClampNeg = j := nI_clamp (by omega)
    rw [ej, ec] at hy hf
    exact ⟨j, y, hj, ej, hy, by rw [ej]; exact (Option.some.inj hf).symm⟩
  · have hf := iq hc hf
    cases hf
set_option maxHeartbeats 4000000 in
set_option maxRecDepth 100000 in
theorem t0_keep_13 {l : Launch} {p : Program} {e : Env} {s : State} {m : MethodId} {args : Array Value} {below : List Frame} {meth : Method} {c : Code} {D : va_G} {A : Nat → Prop} {cyI cyO cyJ : ClassId} {aL aH : Nat → Nat} (C : Cx p s m args meth c D (tyG cyI cyO cyJ) A RX0 cX0_keep 2 none wsX0_keep) (n : Nat) (oL : OB) (h z : HS) (hz : f0_put n oL h = some z) : Wn p l e rm0_keep s m args below meth c D A 2 0 0 (MQ below (Qr D (tyG cyI cyO cyJ) (bX1 cyI aL oL ++ bHS cyI cyO aH z) A none) args s 0 0 A) (bX1 cyI aL oL ++ bHS cyI cyO aH h) 13 [(0, .ref (aH 0)), (1, .ref (aL 0))] [] := by
  obtain ⟨j, y, hj, ej, hy, rfl⟩ := f0_put_cases hz
  obtain ⟨sz, adr, obs⟩ := h
  have ej : sz = nI j := ej
  subst ej
  rcases j with _ | _ | _ | _ | _ | _ | j
  · exact t0_keep_0 C n oL adr obs y hy
  · exact t0_keep_1 C n oL adr obs y hy
  · exact t0_keep_2 C n oL adr obs y hy
  · exact t0_keep_3 C n oL adr obs y hy
  · exact t0_keep_4 C n oL adr obs y hy
  · exact t0_keep_5 C n oL adr obs y hy
  · omega
set_option maxHeartbeats 4000000 in
set_option maxRecDepth 100000 in
theorem c0_keep (l : Launch) (D : va_G) (cyI cyO cyJ : ClassId) (aL aH : Nat → Nat) (n : Nat) (oL : OB) (oH : HS) (z : HS) (hf : f0_keep n oL oH = some z) : Ct l D (tyG cyI cyO cyJ) yX0_keep wsX0_keep rm0_keep 0 0 [.ref (aH 0), .ref (aL 0)] (bX1 cyI aL oL ++ bHS cyI cyO aH oH) (bX1 cyI aL oL ++ bHS cyI cyO aH z) none := by
  refine Ct.of (cc := cX0_keep) (nL := 2) (ret := none) (lv := [(0, .ref (aH 0)), (1, .ref (aL 0))]) (by decide +kernel) rfl rfl (Nat.le_of_ble_eq_true rfl) ?_
  intro p e s m args below meth c A C
  have C : Cx p s m args meth c D (tyG cyI cyO cyJ) A RX0 cX0_keep 2 none wsX0_keep := C
  unfold f0_keep at hf
  refine n_aload_n C dX0_keep_0 0 rfl rfl ?_
  refine n_get (N := 2) C dX0_keep_1 iw0_keep_X0 13 rfl rfl 0 (by decide) (List.mem_of_getElem? (i := 1) rfl) rfl rfl rfl ?_
  refine n_bipush (v := (6 : Int32)) C dX0_keep_4 (by decide) rfl ?_
  refine n_icmp_lt (t := 13) C dX0_keep_6 (by decide) rfl (fun h => ?_) (fun h => ?_)
  · have hf := iq (Int32.not_le.mpr h) hf
    exact t0_keep_13 C n oL oH z hf
  · have hf := ip (Int32.not_lt.mp h) hf
    refine n_aload_n C dX0_keep_9 0 rfl rfl ?_
    refine n_callV (As := []) (rest := []) (w2 := bX1 cyI aL oL ++ bHS cyI cyO aH (f0_dropOldest oH)) C dX0_keep_10 (c0_dropOldest l D cyI cyO cyJ aH oH) (cwV 0 C.ts gX0_keep_X0_dropOldest rfl rfl rfl (by decide +kernel) ⟨Nat.le_of_ble_eq_true rfl, Nat.le_of_ble_eq_true rfl⟩) rfl (q0 := 0) (ci := 0) rfl rfl (Frm.skip Frm.self) rfl (Nat.le_of_ble_eq_true rfl) ⟨Nat.le_refl _, Nat.le_refl _⟩ rfl ?_
    exact t0_keep_13 C n oL (f0_dropOldest oH) z hf
set_option maxHeartbeats 4000000 in
set_option maxRecDepth 100000 in
theorem t0_restore_0 {l : Launch} {p : Program} {e : Env} {s : State} {m : MethodId} {args : Array Value} {below : List Frame} {meth : Method} {c : Code} {D : va_G} {A : Nat → Prop} {cyI cyO cyJ : ClassId} {aL aH : Nat → Nat} (C : Cx p s m args meth c D (tyG cyI cyO cyJ) A RX0 cX0_restore 2 none wsX0_restore) (n : Nat) (oL : OB) (adr : Nat → Nat → Nat) (obs : Nat → OB) (z : OB) (hz : f1_copyFrom n oL (obs 0) = some z) : Wn p l e rm0_restore s m args below meth c D A 2 0 0 (MQ below (Qr D (tyG cyI cyO cyJ) (bX1 cyI aL z ++ bHS cyI cyO aH ((1 : Int32) - 1, adr, obs)) A none) args s 0 0 A) (bX1 cyI aL oL ++ bHS cyI cyO aH ((1 : Int32), adr, obs)) 0 [(0, .ref (aH 0)), (1, .ref (aL 0))] [] := by
  refine n_aload_n C dX0_restore_0 0 rfl rfl ?_
  refine n_get (N := 2) C dX0_restore_1 iw0_restore_X0 13 rfl rfl 0 (by decide) (List.mem_of_getElem? (i := 1) rfl) rfl rfl rfl ?_
  refine n_if_le (t := 39) C dX0_restore_4 (by decide) rfl (fun h => absurd h (show ¬ (1 : Int32) ≤ 0 by decide)) (fun h => ?_)
  refine n_aload_n C dX0_restore_7 0 rfl rfl ?_
  refine n_get (N := 2) C dX0_restore_8 iw0_restore_X0 13 rfl rfl 0 (by decide) (List.mem_of_getElem? (i := 1) rfl) rfl rfl rfl ?_
  refine n_bipush (v := (6 : Int32)) C dX0_restore_11 (by decide) rfl ?_
  refine n_icmp_gt (t := 39) C dX0_restore_13 (by decide) rfl (fun h => absurd h (show ¬ (6 : Int32) < (1 : Int32) by decide)) (fun h => ?_)
  refine n_aload_n C dX0_restore_16 0 rfl rfl ?_
  refine n_dup C dX0_restore_17 rfl rfl ?_
  refine n_get (N := 2) C dX0_restore_18 iw0_restore_X0 13 rfl rfl 0 (by decide) (List.mem_of_getElem? (i := 1) rfl) rfl rfl rfl ?_
  refine n_iconst (v := (1 : Int32)) C dX0_restore_21 (by decide) rfl ?_
  refine n_isub C dX0_restore_22 rfl ?_
  refine n_put (w2 := bX1 cyI aL oL ++ bHS cyI cyO aH ((1 : Int32) - 1, adr, obs)) (N := 2) (ty := .int) C dX0_restore_23 iw0_restore_X0 tyX0_ok nmX0 13 rfl rfl 0 (by decide) (List.mem_of_getElem? (i := 1) rfl) rfl rfl (by decide +kernel) rfl rfl (Nat.le_of_ble_eq_true rfl) rfl rfl ?_
  refine n_aload_n C dX0_restore_26 1 rfl rfl ?_
  refine n_aload_n C dX0_restore_27 0 rfl rfl ?_
  refine n_get (N := 2) C dX0_restore_28 iw0_restore_X0 13 rfl rfl 1 (by decide) (List.mem_of_getElem? (i := 2) rfl) rfl rfl rfl ?_
  refine n_aload_n C dX0_restore_31 0 rfl rfl ?_
  refine n_get (N := 2) C dX0_restore_32 iw0_restore_X0 13 rfl rfl 0 (by decide) (List.mem_of_getElem? (i := 1) rfl) rfl rfl rfl ?_
  refine n_aldq2 (v := adr 0 0) C dX0_restore_35 14 1 rfl rfl (ck_in (show ck ((1 : Int32) - 1) 6 = true by decide)) (j := 0) (show ((1 : Int32) - 1).toNatClampNeg = 0 by decide) rfl rfl ?_
  refine n_callV (As := [.ref (adr 0 0)]) (rest := []) (w2 := bX1 cyI aL z ++ bHS cyI cyO aH ((1 : Int32) - 1, adr, obs)) C dX0_restore_36 (c1_copyFrom l D cyI cyO cyJ aL (adr 0) n oL (obs 0) z hz) (cwV 1 C.ts gX0_restore_X1_copyFrom rfl rfl rfl (by decide +kernel) ⟨Nat.le_of_ble_eq_true rfl, Nat.le_of_ble_eq_true rfl⟩) rfl (q0 := 0) (ci := 1) rfl rfl (Frm.take (Frm.skipc (Frm.skipc Frm.here))) rfl (Nat.le_of_ble_eq_true rfl) ⟨Nat.le_refl _, Nat.le_refl _⟩ rfl ?_
  exact n_vret C dX0_restore_39
set_option maxHeartbeats 4000000 in
set_option maxRecDepth 100000 in
theorem t0_restore_1 {l : Launch} {p : Program} {e : Env} {s : State} {m : MethodId} {args : Array Value} {below : List Frame} {meth : Method} {c : Code} {D : va_G} {A : Nat → Prop} {cyI cyO cyJ : ClassId} {aL aH : Nat → Nat} (C : Cx p s m args meth c D (tyG cyI cyO cyJ) A RX0 cX0_restore 2 none wsX0_restore) (n : Nat) (oL : OB) (adr : Nat → Nat → Nat) (obs : Nat → OB) (z : OB) (hz : f1_copyFrom n oL (obs 1) = some z) : Wn p l e rm0_restore s m args below meth c D A 2 0 0 (MQ below (Qr D (tyG cyI cyO cyJ) (bX1 cyI aL z ++ bHS cyI cyO aH ((2 : Int32) - 1, adr, obs)) A none) args s 0 0 A) (bX1 cyI aL oL ++ bHS cyI cyO aH ((2 : Int32), adr, obs)) 0 [(0, .ref (aH 0)), (1, .ref (aL 0))] [] := by
  refine n_aload_n C dX0_restore_0 0 rfl rfl ?_
  refine n_get (N := 2) C dX0_restore_1 iw0_restore_X0 13 rfl rfl 0 (by decide) (List.mem_of_getElem? (i := 1) rfl) rfl rfl rfl ?_
  refine n_if_le (t := 39) C dX0_restore_4 (by decide) rfl (fun h => absurd h (show ¬ (2 : Int32) ≤ 0 by decide)) (fun h => ?_)
  refine n_aload_n C dX0_restore_7 0 rfl rfl ?_
  refine n_get (N := 2) C dX0_restore_8 iw0_restore_X0 13 rfl rfl 0 (by decide) (List.mem_of_getElem? (i := 1) rfl) rfl rfl rfl ?_
  refine n_bipush (v := (6 : Int32)) C dX0_restore_11 (by decide) rfl ?_
  refine n_icmp_gt (t := 39) C dX0_restore_13 (by decide) rfl (fun h => absurd h (show ¬ (6 : Int32) < (2 : Int32) by decide)) (fun h => ?_)
  refine n_aload_n C dX0_restore_16 0 rfl rfl ?_
  refine n_dup C dX0_restore_17 rfl rfl ?_
  refine n_get (N := 2) C dX0_restore_18 iw0_restore_X0 13 rfl rfl 0 (by decide) (List.mem_of_getElem? (i := 1) rfl) rfl rfl rfl ?_
  refine n_iconst (v := (1 : Int32)) C dX0_restore_21 (by decide) rfl ?_
  refine n_isub C dX0_restore_22 rfl ?_
  refine n_put (w2 := bX1 cyI aL oL ++ bHS cyI cyO aH ((2 : Int32) - 1, adr, obs)) (N := 2) (ty := .int) C dX0_restore_23 iw0_restore_X0 tyX0_ok nmX0 13 rfl rfl 0 (by decide) (List.mem_of_getElem? (i := 1) rfl) rfl rfl (by decide +kernel) rfl rfl (Nat.le_of_ble_eq_true rfl) rfl rfl ?_
  refine n_aload_n C dX0_restore_26 1 rfl rfl ?_
  refine n_aload_n C dX0_restore_27 0 rfl rfl ?_
  refine n_get (N := 2) C dX0_restore_28 iw0_restore_X0 13 rfl rfl 1 (by decide) (List.mem_of_getElem? (i := 2) rfl) rfl rfl rfl ?_
  refine n_aload_n C dX0_restore_31 0 rfl rfl ?_
  refine n_get (N := 2) C dX0_restore_32 iw0_restore_X0 13 rfl rfl 0 (by decide) (List.mem_of_getElem? (i := 1) rfl) rfl rfl rfl ?_
  refine n_aldq2 (v := adr 1 0) C dX0_restore_35 14 1 rfl rfl (ck_in (show ck ((2 : Int32) - 1) 6 = true by decide)) (j := 1) (show ((2 : Int32) - 1).toNatClampNeg = 1 by decide) rfl rfl ?_
  refine n_callV (As := [.ref (adr 1 0)]) (rest := []) (w2 := bX1 cyI aL z ++ bHS cyI cyO aH ((2 : Int32) - 1, adr, obs)) C dX0_restore_36 (c1_copyFrom l D cyI cyO cyJ aL (adr 1) n oL (obs 1) z hz) (cwV 1 C.ts gX0_restore_X1_copyFrom rfl rfl rfl (by decide +kernel) ⟨Nat.le_of_ble_eq_true rfl, Nat.le_of_ble_eq_true rfl⟩) rfl (q0 := 0) (ci := 1) rfl rfl (Frm.take (Frm.skipc (Frm.skipc (Frm.skip Frm.here)))) rfl (Nat.le_of_ble_eq_true rfl) ⟨Nat.le_refl _, Nat.le_refl _⟩ rfl ?_
  exact n_vret C dX0_restore_39
set_option maxHeartbeats 4000000 in
set_option maxRecDepth 100000 in
theorem t0_restore_2 {l : Launch} {p : Program} {e : Env} {s : State} {m : MethodId} {args : Array Value} {below : List Frame} {meth : Method} {c : Code} {D : va_G} {A : Nat → Prop} {cyI cyO cyJ : ClassId} {aL aH : Nat → Nat} (C : Cx p s m args meth c D (tyG cyI cyO cyJ) A RX0 cX0_restore 2 none wsX0_restore) (n : Nat) (oL : OB) (adr : Nat → Nat → Nat) (obs : Nat → OB) (z : OB) (hz : f1_copyFrom n oL (obs 2) = some z) : Wn p l e rm0_restore s m args below meth c D A 2 0 0 (MQ below (Qr D (tyG cyI cyO cyJ) (bX1 cyI aL z ++ bHS cyI cyO aH ((3 : Int32) - 1, adr, obs)) A none) args s 0 0 A) (bX1 cyI aL oL ++ bHS cyI cyO aH ((3 : Int32), adr, obs)) 0 [(0, .ref (aH 0)), (1, .ref (aL 0))] [] := by
  refine n_aload_n C dX0_restore_0 0 rfl rfl ?_
  refine n_get (N := 2) C dX0_restore_1 iw0_restore_X0 13 rfl rfl 0 (by decide) (List.mem_of_getElem? (i := 1) rfl) rfl rfl rfl ?_
  refine n_if_le (t := 39) C dX0_restore_4 (by decide) rfl (fun h => absurd h (show ¬ (3 : Int32) ≤ 0 by decide)) (fun h => ?_)
  refine n_aload_n C dX0_restore_7 0 rfl rfl ?_
  refine n_get (N := 2) C dX0_restore_8 iw0_restore_X0 13 rfl rfl 0 (by decide) (List.mem_of_getElem? (i := 1) rfl) rfl rfl rfl ?_
  refine n_bipush (v := (6 : Int32)) C dX0_restore_11 (by decide) rfl ?_
  refine n_icmp_gt (t := 39) C dX0_restore_13 (by decide) rfl (fun h => absurd h (show ¬ (6 : Int32) < (3 : Int32) by decide)) (fun h => ?_)
  refine n_aload_n C dX0_restore_16 0 rfl rfl ?_
  refine n_dup C dX0_restore_17 rfl rfl ?_
  refine n_get (N := 2) C dX0_restore_18 iw0_restore_X0 13 rfl rfl 0 (by decide) (List.mem_of_getElem? (i := 1) rfl) rfl rfl rfl ?_
  refine n_iconst (v := (1 : Int32)) C dX0_restore_21 (by decide) rfl ?_
  refine n_isub C dX0_restore_22 rfl ?_
  refine n_put (w2 := bX1 cyI aL oL ++ bHS cyI cyO aH ((3 : Int32) - 1, adr, obs)) (N := 2) (ty := .int) C dX0_restore_23 iw0_restore_X0 tyX0_ok nmX0 13 rfl rfl 0 (by decide) (List.mem_of_getElem? (i := 1) rfl) rfl rfl (by decide +kernel) rfl rfl (Nat.le_of_ble_eq_true rfl) rfl rfl ?_
  refine n_aload_n C dX0_restore_26 1 rfl rfl ?_
  refine n_aload_n C dX0_restore_27 0 rfl rfl ?_
  refine n_get (N := 2) C dX0_restore_28 iw0_restore_X0 13 rfl rfl 1 (by decide) (List.mem_of_getElem? (i := 2) rfl) rfl rfl rfl ?_
  refine n_aload_n C dX0_restore_31 0 rfl rfl ?_
  refine n_get (N := 2) C dX0_restore_32 iw0_restore_X0 13 rfl rfl 0 (by decide) (List.mem_of_getElem? (i := 1) rfl) rfl rfl rfl ?_
  refine n_aldq2 (v := adr 2 0) C dX0_restore_35 14 1 rfl rfl (ck_in (show ck ((3 : Int32) - 1) 6 = true by decide)) (j := 2) (show ((3 : Int32) - 1).toNatClampNeg = 2 by decide) rfl rfl ?_
  refine n_callV (As := [.ref (adr 2 0)]) (rest := []) (w2 := bX1 cyI aL z ++ bHS cyI cyO aH ((3 : Int32) - 1, adr, obs)) C dX0_restore_36 (c1_copyFrom l D cyI cyO cyJ aL (adr 2) n oL (obs 2) z hz) (cwV 1 C.ts gX0_restore_X1_copyFrom rfl rfl rfl (by decide +kernel) ⟨Nat.le_of_ble_eq_true rfl, Nat.le_of_ble_eq_true rfl⟩) rfl (q0 := 0) (ci := 1) rfl rfl (Frm.take (Frm.skipc (Frm.skipc (Frm.skip (Frm.skip Frm.here))))) rfl (Nat.le_of_ble_eq_true rfl) ⟨Nat.le_refl _, Nat.le_refl _⟩ rfl ?_
  exact n_vret C dX0_restore_39
set_option maxHeartbeats 4000000 in
set_option maxRecDepth 100000 in
theorem t0_restore_3 {l : Launch} {p : Program} {e : Env} {s : State} {m : MethodId} {args : Array Value} {below : List Frame} {meth : Method} {c : Code} {D : va_G} {A : Nat → Prop} {cyI cyO cyJ : ClassId} {aL aH : Nat → Nat} (C : Cx p s m args meth c D (tyG cyI cyO cyJ) A RX0 cX0_restore 2 none wsX0_restore) (n : Nat) (oL : OB) (adr : Nat → Nat → Nat) (obs : Nat → OB) (z : OB) (hz : f1_copyFrom n oL (obs 3) = some z) : Wn p l e rm0_restore s m args below meth c D A 2 0 0 (MQ below (Qr D (tyG cyI cyO cyJ) (bX1 cyI aL z ++ bHS cyI cyO aH ((4 : Int32) - 1, adr, obs)) A none) args s 0 0 A) (bX1 cyI aL oL ++ bHS cyI cyO aH ((4 : Int32), adr, obs)) 0 [(0, .ref (aH 0)), (1, .ref (aL 0))] [] := by
  refine n_aload_n C dX0_restore_0 0 rfl rfl ?_
  refine n_get (N := 2) C dX0_restore_1 iw0_restore_X0 13 rfl rfl 0 (by decide) (List.mem_of_getElem? (i := 1) rfl) rfl rfl rfl ?_
  refine n_if_le (t := 39) C dX0_restore_4 (by decide) rfl (fun h => absurd h (show ¬ (4 : Int32) ≤ 0 by decide)) (fun h => ?_)
  refine n_aload_n C dX0_restore_7 0 rfl rfl ?_
  refine n_get (N := 2) C dX0_restore_8 iw0_restore_X0 13 rfl rfl 0 (by decide) (List.mem_of_getElem? (i := 1) rfl) rfl rfl rfl ?_
  refine n_bipush (v := (6 : Int32)) C dX0_restore_11 (by decide) rfl ?_
  refine n_icmp_gt (t := 39) C dX0_restore_13 (by decide) rfl (fun h => absurd h (show ¬ (6 : Int32) < (4 : Int32) by decide)) (fun h => ?_)
  refine n_aload_n C dX0_restore_16 0 rfl rfl ?_
  refine n_dup C dX0_restore_17 rfl rfl ?_
  refine n_get (N := 2) C dX0_restore_18 iw0_restore_X0 13 rfl rfl 0 (by decide) (List.mem_of_getElem? (i := 1) rfl) rfl rfl rfl ?_
  refine n_iconst (v := (1 : Int32)) C dX0_restore_21 (by decide) rfl ?_
  refine n_isub C dX0_restore_22 rfl ?_
  refine n_put (w2 := bX1 cyI aL oL ++ bHS cyI cyO aH ((4 : Int32) - 1, adr, obs)) (N := 2) (ty := .int) C dX0_restore_23 iw0_restore_X0 tyX0_ok nmX0 13 rfl rfl 0 (by decide) (List.mem_of_getElem? (i := 1) rfl) rfl rfl (by decide +kernel) rfl rfl (Nat.le_of_ble_eq_true rfl) rfl rfl ?_
  refine n_aload_n C dX0_restore_26 1 rfl rfl ?_
  refine n_aload_n C dX0_restore_27 0 rfl rfl ?_
  refine n_get (N := 2) C dX0_restore_28 iw0_restore_X0 13 rfl rfl 1 (by decide) (List.mem_of_getElem? (i := 2) rfl) rfl rfl rfl ?_
  refine n_aload_n C dX0_restore_31 0 rfl rfl ?_
  refine n_get (N := 2) C dX0_restore_32 iw0_restore_X0 13 rfl rfl 0 (by decide) (List.mem_of_getElem? (i := 1) rfl) rfl rfl rfl ?_
  refine n_aldq2 (v := adr 3 0) C dX0_restore_35 14 1 rfl rfl (ck_in (show ck ((4 : Int32) - 1) 6 = true by decide)) (j := 3) (show ((4 : Int32) - 1).toNatClampNeg = 3 by decide) rfl rfl ?_
  refine n_callV (As := [.ref (adr 3 0)]) (rest := []) (w2 := bX1 cyI aL z ++ bHS cyI cyO aH ((4 : Int32) - 1, adr, obs)) C dX0_restore_36 (c1_copyFrom l D cyI cyO cyJ aL (adr 3) n oL (obs 3) z hz) (cwV 1 C.ts gX0_restore_X1_copyFrom rfl rfl rfl (by decide +kernel) ⟨Nat.le_of_ble_eq_true rfl, Nat.le_of_ble_eq_true rfl⟩) rfl (q0 := 0) (ci := 1) rfl rfl (Frm.take (Frm.skipc (Frm.skipc (Frm.skip (Frm.skip (Frm.skip Frm.here)))))) rfl (Nat.le_of_ble_eq_true rfl) ⟨Nat.le_refl _, Nat.le_refl _⟩ rfl ?_
  exact n_vret C dX0_restore_39
set_option maxHeartbeats 4000000 in
set_option maxRecDepth 100000 in
theorem t0_restore_4 {l : Launch} {p : Program} {e : Env} {s : State} {m : MethodId} {args : Array Value} {below : List Frame} {meth : Method} {c : Code} {D : va_G} {A : Nat → Prop} {cyI cyO cyJ : ClassId} {aL aH : Nat → Nat} (C : Cx p s m args meth c D (tyG cyI cyO cyJ) A RX0 cX0_restore 2 none wsX0_restore) (n : Nat) (oL : OB) (adr : Nat → Nat → Nat) (obs : Nat → OB) (z : OB) (hz : f1_copyFrom n oL (obs 4) = some z) : Wn p l e rm0_restore s m args below meth c D A 2 0 0 (MQ below (Qr D (tyG cyI cyO cyJ) (bX1 cyI aL z ++ bHS cyI cyO aH ((5 : Int32) - 1, adr, obs)) A none) args s 0 0 A) (bX1 cyI aL oL ++ bHS cyI cyO aH ((5 : Int32), adr, obs)) 0 [(0, .ref (aH 0)), (1, .ref (aL 0))] [] := by
  refine n_aload_n C dX0_restore_0 0 rfl rfl ?_
  refine n_get (N := 2) C dX0_restore_1 iw0_restore_X0 13 rfl rfl 0 (by decide) (List.mem_of_getElem? (i := 1) rfl) rfl rfl rfl ?_
  refine n_if_le (t := 39) C dX0_restore_4 (by decide) rfl (fun h => absurd h (show ¬ (5 : Int32) ≤ 0 by decide)) (fun h => ?_)
  refine n_aload_n C dX0_restore_7 0 rfl rfl ?_
  refine n_get (N := 2) C dX0_restore_8 iw0_restore_X0 13 rfl rfl 0 (by decide) (List.mem_of_getElem? (i := 1) rfl) rfl rfl rfl ?_
  refine n_bipush (v := (6 : Int32)) C dX0_restore_11 (by decide) rfl ?_
  refine n_icmp_gt (t := 39) C dX0_restore_13 (by decide) rfl (fun h => absurd h (show ¬ (6 : Int32) < (5 : Int32) by decide)) (fun h => ?_)
  refine n_aload_n C dX0_restore_16 0 rfl rfl ?_
  refine n_dup C dX0_restore_17 rfl rfl ?_
  refine n_get (N := 2) C dX0_restore_18 iw0_restore_X0 13 rfl rfl 0 (by decide) (List.mem_of_getElem? (i := 1) rfl) rfl rfl rfl ?_
  refine n_iconst (v := (1 : Int32)) C dX0_restore_21 (by decide) rfl ?_
  refine n_isub C dX0_restore_22 rfl ?_
  refine n_put (w2 := bX1 cyI aL oL ++ bHS cyI cyO aH ((5 : Int32) - 1, adr, obs)) (N := 2) (ty := .int) C dX0_restore_23 iw0_restore_X0 tyX0_ok nmX0 13 rfl rfl 0 (by decide) (List.mem_of_getElem? (i := 1) rfl) rfl rfl (by decide +kernel) rfl rfl (Nat.le_of_ble_eq_true rfl) rfl rfl ?_
  refine n_aload_n C dX0_restore_26 1 rfl rfl ?_
  refine n_aload_n C dX0_restore_27 0 rfl rfl ?_
  refine n_get (N := 2) C dX0_restore_28 iw0_restore_X0 13 rfl rfl 1 (by decide) (List.mem_of_getElem? (i := 2) rfl) rfl rfl rfl ?_
  refine n_aload_n C dX0_restore_31 0 rfl rfl ?_
  refine n_get (N := 2) C dX0_restore_32 iw0_restore_X0 13 rfl rfl 0 (by decide) (List.mem_of_getElem? (i := 1) rfl) rfl rfl rfl ?_
  refine n_aldq2 (v := adr 4 0) C dX0_restore_35 14 1 rfl rfl (ck_in (show ck ((5 : Int32) - 1) 6 = true by decide)) (j := 4) (show ((5 : Int32) - 1).toNatClampNeg = 4 by decide) rfl rfl ?_
  refine n_callV (As := [.ref (adr 4 0)]) (rest := []) (w2 := bX1 cyI aL z ++ bHS cyI cyO aH ((5 : Int32) - 1, adr, obs)) C dX0_restore_36 (c1_copyFrom l D cyI cyO cyJ aL (adr 4) n oL (obs 4) z hz) (cwV 1 C.ts gX0_restore_X1_copyFrom rfl rfl rfl (by decide +kernel) ⟨Nat.le_of_ble_eq_true rfl, Nat.le_of_ble_eq_true rfl⟩) rfl (q0 := 0) (ci := 1) rfl rfl (Frm.take (Frm.skipc (Frm.skipc (Frm.skip (Frm.skip (Frm.skip (Frm.skip Frm.here))))))) rfl (Nat.le_of_ble_eq_true rfl) ⟨Nat.le_refl _, Nat.le_refl _⟩ rfl ?_
  exact n_vret C dX0_restore_39
set_option maxHeartbeats 4000000 in
set_option maxRecDepth 100000 in
theorem t0_restore_5 {l : Launch} {p : Program} {e : Env} {s : State} {m : MethodId} {args : Array Value} {below : List Frame} {meth : Method} {c : Code} {D : va_G} {A : Nat → Prop} {cyI cyO cyJ : ClassId} {aL aH : Nat → Nat} (C : Cx p s m args meth c D (tyG cyI cyO cyJ) A RX0 cX0_restore 2 none wsX0_restore) (n : Nat) (oL : OB) (adr : Nat → Nat → Nat) (obs : Nat → OB) (z : OB) (hz : f1_copyFrom n oL (obs 5) = some z) : Wn p l e rm0_restore s m args below meth c D A 2 0 0 (MQ below (Qr D (tyG cyI cyO cyJ) (bX1 cyI aL z ++ bHS cyI cyO aH ((6 : Int32) - 1, adr, obs)) A none) args s 0 0 A) (bX1 cyI aL oL ++ bHS cyI cyO aH ((6 : Int32), adr, obs)) 0 [(0, .ref (aH 0)), (1, .ref (aL 0))] [] := by
  refine n_aload_n C dX0_restore_0 0 rfl rfl ?_
  refine n_get (N := 2) C dX0_restore_1 iw0_restore_X0 13 rfl rfl 0 (by decide) (List.mem_of_getElem? (i := 1) rfl) rfl rfl rfl ?_
  refine n_if_le (t := 39) C dX0_restore_4 (by decide) rfl (fun h => absurd h (show ¬ (6 : Int32) ≤ 0 by decide)) (fun h => ?_)
  refine n_aload_n C dX0_restore_7 0 rfl rfl ?_
  refine n_get (N := 2) C dX0_restore_8 iw0_restore_X0 13 rfl rfl 0 (by decide) (List.mem_of_getElem? (i := 1) rfl) rfl rfl rfl ?_
  refine n_bipush (v := (6 : Int32)) C dX0_restore_11 (by decide) rfl ?_
  refine n_icmp_gt (t := 39) C dX0_restore_13 (by decide) rfl (fun h => absurd h (show ¬ (6 : Int32) < (6 : Int32) by decide)) (fun h => ?_)
  refine n_aload_n C dX0_restore_16 0 rfl rfl ?_
  refine n_dup C dX0_restore_17 rfl rfl ?_
  refine n_get (N := 2) C dX0_restore_18 iw0_restore_X0 13 rfl rfl 0 (by decide) (List.mem_of_getElem? (i := 1) rfl) rfl rfl rfl ?_
  refine n_iconst (v := (1 : Int32)) C dX0_restore_21 (by decide) rfl ?_
  refine n_isub C dX0_restore_22 rfl ?_
  refine n_put (w2 := bX1 cyI aL oL ++ bHS cyI cyO aH ((6 : Int32) - 1, adr, obs)) (N := 2) (ty := .int) C dX0_restore_23 iw0_restore_X0 tyX0_ok nmX0 13 rfl rfl 0 (by decide) (List.mem_of_getElem? (i := 1) rfl) rfl rfl (by decide +kernel) rfl rfl (Nat.le_of_ble_eq_true rfl) rfl rfl ?_
  refine n_aload_n C dX0_restore_26 1 rfl rfl ?_
  refine n_aload_n C dX0_restore_27 0 rfl rfl ?_
  refine n_get (N := 2) C dX0_restore_28 iw0_restore_X0 13 rfl rfl 1 (by decide) (List.mem_of_getElem? (i := 2) rfl) rfl rfl rfl ?_
  refine n_aload_n C dX0_restore_31 0 rfl rfl ?_
  refine n_get (N := 2) C dX0_restore_32 iw0_restore_X0 13 rfl rfl 0 (by decide) (List.mem_of_getElem? (i := 1) rfl) rfl rfl rfl ?_
  refine n_aldq2 (v := adr 5 0) C dX0_restore_35 14 1 rfl rfl (ck_in (show ck ((6 : Int32) - 1) 6 = true by decide)) (j := 5) (show ((6 : Int32) - 1).toNatClampNeg = 5 by decide) rfl rfl ?_
  refine n_callV (As := [.ref (adr 5 0)]) (rest := []) (w2 := bX1 cyI aL z ++ bHS cyI cyO aH ((6 : Int32) - 1, adr, obs)) C dX0_restore_36 (c1_copyFrom l D cyI cyO cyJ aL (adr 5) n oL (obs 5) z hz) (cwV 1 C.ts gX0_restore_X1_copyFrom rfl rfl rfl (by decide +kernel) ⟨Nat.le_of_ble_eq_true rfl, Nat.le_of_ble_eq_true rfl⟩) rfl (q0 := 0) (ci := 1) rfl rfl (Frm.take (Frm.skipc (Frm.skipc (Frm.skip (Frm.skip (Frm.skip (Frm.skip (Frm.skip Frm.self)))))))) rfl (Nat.le_of_ble_eq_true rfl) ⟨Nat.le_refl _, Nat.le_refl _⟩ rfl ?_
  exact n_vret C dX0_restore_39
theorem f0_restore_cases {n : Nat} {oL : OB} {h : HS} {z : OB × HS} (hf : f0_restore n oL h = some z) : ∃ (j : Nat) (y : OB), j < 6 ∧ h.1 = nI (j + 1) ∧ f1_copyFrom n oL (h.2.2 j) = some y ∧ z = (y, (h.1 - 1, h.2)) := by
  unfold f0_restore at hf
  by_cases hc : ck (h.1 - 1) 6 = true
  · have hf := ip hc hf
    obtain ⟨j, hj, ej⟩ := ck_lt (by decide) hc
    obtain ⟨y, hy, hf⟩ := bi hf
    have ec : (h.1 - 1).toNatClampNeg = j := by rw [ej]; exact nI_clamp (by omega)
    rw [ec] at hy
    refine ⟨j, y, hj, ?_, hy, (Option.some.inj hf).symm⟩
    rw [← nI_1, ← ej, Int32.sub_add_cancel]
  · have hf := iq hc hf
    cases hf
set_option maxHeartbeats 4000000 in
set_option maxRecDepth 100000 in
theorem c0_restore (l : Launch) (D : va_G) (cyI cyO cyJ : ClassId) (aL aH : Nat → Nat) (n : Nat) (oL : OB) (oH : HS) (z : OB × HS) (hf : f0_restore n oL oH = some z) : Ct l D (tyG cyI cyO cyJ) yX0_restore wsX0_restore rm0_restore 0 0 [.ref (aH 0), .ref (aL 0)] (bX1 cyI aL oL ++ bHS cyI cyO aH oH) (bX1 cyI aL z.1 ++ bHS cyI cyO aH z.2) none := by
  refine Ct.of (cc := cX0_restore) (nL := 2) (ret := none) (lv := [(0, .ref (aH 0)), (1, .ref (aL 0))]) (by decide +kernel) rfl rfl (Nat.le_of_ble_eq_true rfl) ?_
  intro p e s m args below meth c A C
  have C : Cx p s m args meth c D (tyG cyI cyO cyJ) A RX0 cX0_restore 2 none wsX0_restore := C
  obtain ⟨j, y, hj, ej, hy, rfl⟩ := f0_restore_cases hf
  obtain ⟨sz, adr, obs⟩ := oH
  have ej : sz = nI (j + 1) := ej
  subst ej
  rcases j with _ | _ | _ | _ | _ | _ | j
  · exact t0_restore_0 C n oL adr obs y hy
  · exact t0_restore_1 C n oL adr obs y hy
  · exact t0_restore_2 C n oL adr obs y hy
  · exact t0_restore_3 C n oL adr obs y hy
  · exact t0_restore_4 C n oL adr obs y hy
  · exact t0_restore_5 C n oL adr obs y hy
  · omega
