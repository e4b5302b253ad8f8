abbrev bX3 (cyI : ClassId) (a : Nat → Nat) (o : OB) : va_W := [(a 0, .inr (3, [.ref (a 1), .ref (a 2), .ref (a 3), .ref (a 4)])), (a 1, .inl (cyI, 6, .inl (o.2 0))), (a 2, .inl (cyI, 6, .inl (o.2 1))), (a 3, .inl (cyI, 6, .inl (o.2 2))), (a 4, .inl (cyI, 6, .inl (o.2 3)))]
-- X3 forgetLoads 
theorem iw3_forgetLoads_X3 : ∀ w ∈ u_ws RX3 TX3 4, w ∈ wsX3_forgetLoads := by decide +kernel
abbrev rm3_forgetLoads : Room := { frames := 0, cells := 0, slots := 0, locals := 0 }
def f3_forgetLoads_b30 (n : Nat) : Nat → Int32 → OB → Option ((OB))
  | 0, _, _ => none
  | k + 1, v1, oG =>
    (if (nI 6) ≤ v1 then some oG else (oast oG 2 6 v1 (nI 0)).bind fun oG_42 => (oast oG_42 3 6 v1 (nI 0)).bind fun oG_49 => (f3_forgetLoads_b30 n k) (v1 + (nI 1)) oG_49)
def f3_forgetLoads_b28 (n : Nat) (oG : OB) : Option ((OB)) :=
  f3_forgetLoads_b30 n n (nI 0) oG
def f3_forgetLoads_b2 (n : Nat) (k28 : OB → Option ((OB))) : Nat → Int32 → OB → Option ((OB))
  | 0, _, _ => none
  | k + 1, v1, oG =>
    (if (nI 6) ≤ v1 then k28 oG else (oast oG 0 6 v1 (nI 0)).bind fun oG_14 => (oast oG_14 1 6 v1 (nI 0)).bind fun oG_21 => (f3_forgetLoads_b2 n k28 k) (v1 + (nI 1)) oG_21)
def f3_forgetLoads (n : Nat) (oG : OB) : Option ((OB)) :=
  f3_forgetLoads_b2 n (fun oG => f3_forgetLoads_b28 n oG) n (nI 0) oG
set_option maxHeartbeats 4000000 in
set_option maxRecDepth 100000 in
theorem t3_forgetLoads_b30 {l : Launch} {p : Program} {e : Env} {s : State} {m : MethodId} {args : Array Value} {below : List Frame} {meth : Method} {c : Code} {D : va_G} {A : Nat → Prop} {cyI cyO cyJ : ClassId} {aG : Nat → Nat} (C : Cx p s m args meth c D (tyG cyI cyO cyJ) A RX3 cX3_forgetLoads 2 none wsX3_forgetLoads) {z : (OB)} (n : Nat) : ∀ (k : Nat) (v1 : Int32) (oG : OB), f3_forgetLoads_b30 n k v1 oG = some z → Wn p l e rm3_forgetLoads s m args below meth c D A 2 0 0 (MQ below (Qr D (tyG cyI cyO cyJ) (bX3 cyI aG z) A none) args s 0 0 A) (bX3 cyI aG oG) 30 [(0, .ref (aG 0)), (1, .int v1)] [] := by
  intro k
  induction k with
  | zero => intro  v1 oG hf; cases hf
  | succ k ih =>
    intro  v1 oG hf
    unfold f3_forgetLoads_b30 at hf
    refine n_iload_n C dX3_forgetLoads_30 1 rfl rfl ?_
    refine n_bipush (v := (nI 6)) C dX3_forgetLoads_31 (by decide) rfl ?_
    refine n_icmp_ge (t := 56) C dX3_forgetLoads_33 (by decide) rfl (fun h33 => ?_) (fun h33 => ?_)
    · have hf := ip h33 hf
      obtain rfl := Option.some.inj hf
      exact n_vret C dX3_forgetLoads_56
    · have hf := iq h33 hf
      refine n_aload_n C dX3_forgetLoads_36 0 rfl rfl ?_
      refine n_get (N := 4) C dX3_forgetLoads_37 iw3_forgetLoads_X3 0 rfl rfl 2 (by decide) (List.mem_of_getElem? (i := 3) rfl) rfl rfl rfl ?_
      refine n_iload_n C dX3_forgetLoads_40 1 rfl rfl ?_
      refine n_iconst (v := (nI 0)) C dX3_forgetLoads_41 (by decide) rfl ?_
      obtain ⟨oG_42, h42, hf⟩ := bi hf
      obtain ⟨h42, e42⟩ := oast_some h42
      refine n_iast (w2 := bX3 cyI aG oG_42) C dX3_forgetLoads_42 3 0 rfl rfl h42 (by subst e42; rfl) rfl ?_
      refine n_aload_n C dX3_forgetLoads_43 0 rfl rfl ?_
      refine n_get (N := 4) C dX3_forgetLoads_44 iw3_forgetLoads_X3 0 rfl rfl 3 (by decide) (List.mem_of_getElem? (i := 4) rfl) rfl rfl rfl ?_
      refine n_iload_n C dX3_forgetLoads_47 1 rfl rfl ?_
      refine n_iconst (v := (nI 0)) C dX3_forgetLoads_48 (by decide) rfl ?_
      obtain ⟨oG_49, h49, hf⟩ := bi hf
      obtain ⟨h49, e49⟩ := oast_some h49
      refine n_iast (w2 := bX3 cyI aG oG_49) C dX3_forgetLoads_49 4 0 rfl rfl h49 (by subst e49; rfl) rfl ?_
      refine n_iinc (v := v1 + (nI 1)) (lv' := [(1, .int (v1 + (nI 1))), (0, .ref (aG 0))]) C dX3_forgetLoads_50 (j := 1) rfl rfl (by decide) rfl rfl ?_
      refine n_goto (t := 30) C dX3_forgetLoads_53 (by decide) ?_
      exact Wn.sub (lv' := [(0, .ref (aG 0)), (1, .int (v1 + (nI 1)))]) [1, 0] rfl (ih (v1 + (nI 1)) oG_49 hf)
set_option maxHeartbeats 4000000 in
set_option maxRecDepth 100000 in
theorem t3_forgetLoads_b28 {l : Launch} {p : Program} {e : Env} {s : State} {m : MethodId} {args : Array Value} {below : List Frame} {meth : Method} {c : Code} {D : va_G} {A : Nat → Prop} {cyI cyO cyJ : ClassId} {aG : Nat → Nat} (C : Cx p s m args meth c D (tyG cyI cyO cyJ) A RX3 cX3_forgetLoads 2 none wsX3_forgetLoads) {z : (OB)} (n : Nat) (oG : OB) (hf : f3_forgetLoads_b28 n oG = some z) : Wn p l e rm3_forgetLoads s m args below meth c D A 2 0 0 (MQ below (Qr D (tyG cyI cyO cyJ) (bX3 cyI aG z) A none) args s 0 0 A) (bX3 cyI aG oG) 28 [(0, .ref (aG 0))] [] := by
  unfold f3_forgetLoads_b28 at hf
  refine n_iconst (v := (nI 0)) C dX3_forgetLoads_28 (by decide) rfl ?_
  refine n_istore_n (lv' := [(1, .int (nI 0)), (0, .ref (aG 0))]) C dX3_forgetLoads_29 (by decide) rfl rfl ?_
  exact Wn.sub (lv' := [(0, .ref (aG 0)), (1, .int (nI 0))]) [1, 0] rfl (t3_forgetLoads_b30 C n n (nI 0) oG hf)
set_option maxHeartbeats 4000000 in
set_option maxRecDepth 100000 in
theorem t3_forgetLoads_b2 {l : Launch} {p : Program} {e : Env} {s : State} {m : MethodId} {args : Array Value} {below : List Frame} {meth : Method} {c : Code} {D : va_G} {A : Nat → Prop} {cyI cyO cyJ : ClassId} {aG : Nat → Nat} (C : Cx p s m args meth c D (tyG cyI cyO cyJ) A RX3 cX3_forgetLoads 2 none wsX3_forgetLoads) {z : (OB)} (n : Nat) {k28 : OB → Option ((OB))} (hk28 : ∀ (oG : OB), k28 oG = some z → Wn p l e rm3_forgetLoads s m args below meth c D A 2 0 0 (MQ below (Qr D (tyG cyI cyO cyJ) (bX3 cyI aG z) A none) args s 0 0 A) (bX3 cyI aG oG) 28 [(0, .ref (aG 0))] []) : ∀ (k : Nat) (v1 : Int32) (oG : OB), f3_forgetLoads_b2 n k28 k v1 oG = some z → Wn p l e rm3_forgetLoads s m args below meth c D A 2 0 0 (MQ below (Qr D (tyG cyI cyO cyJ) (bX3 cyI aG z) A none) args s 0 0 A) (bX3 cyI aG oG) 2 [(0, .ref (aG 0)), (1, .int v1)] [] := by
  intro k
  induction k with
  | zero => intro  v1 oG hf; cases hf
  | succ k ih =>
    intro  v1 oG hf
    unfold f3_forgetLoads_b2 at hf
    refine n_iload_n C dX3_forgetLoads_2 1 rfl rfl ?_
    refine n_bipush (v := (nI 6)) C dX3_forgetLoads_3 (by decide) rfl ?_
    refine n_icmp_ge (t := 28) C dX3_forgetLoads_5 (by decide) rfl (fun h5 => ?_) (fun h5 => ?_)
    · have hf := ip h5 hf
      exact Wn.sub (lv' := [(0, .ref (aG 0))]) [0] rfl (hk28 oG hf)
    · have hf := iq h5 hf
      refine n_aload_n C dX3_forgetLoads_8 0 rfl rfl ?_
      refine n_get (N := 4) C dX3_forgetLoads_9 iw3_forgetLoads_X3 0 rfl rfl 0 (by decide) (List.mem_of_getElem? (i := 1) rfl) rfl rfl rfl ?_
      refine n_iload_n C dX3_forgetLoads_12 1 rfl rfl ?_
      refine n_iconst (v := (nI 0)) C dX3_forgetLoads_13 (by decide) rfl ?_
      obtain ⟨oG_14, h14, hf⟩ := bi hf
      obtain ⟨h14, e14⟩ := oast_some h14
      refine n_iast (w2 := bX3 cyI aG oG_14) C dX3_forgetLoads_14 1 0 rfl rfl h14 (by subst e14; rfl) rfl ?_
      refine n_aload_n C dX3_forgetLoads_15 0 rfl rfl ?_
      refine n_get (N := 4) C dX3_forgetLoads_16 iw3_forgetLoads_X3 0 rfl rfl 1 (by decide) (List.mem_of_getElem? (i := 2) rfl) rfl rfl rfl ?_
      refine n_iload_n C dX3_forgetLoads_19 1 rfl rfl ?_
      refine n_iconst (v := (nI 0)) C dX3_forgetLoads_20 (by decide) rfl ?_
      obtain ⟨oG_21, h21, hf⟩ := bi hf
      obtain ⟨h21, e21⟩ := oast_some h21
      refine n_iast (w2 := bX3 cyI aG oG_21) C dX3_forgetLoads_21 2 0 rfl rfl h21 (by subst e21; rfl) rfl ?_
      refine n_iinc (v := v1 + (nI 1)) (lv' := [(1, .int (v1 + (nI 1))), (0, .ref (aG 0))]) C dX3_forgetLoads_22 (j := 1) rfl rfl (by decide) rfl rfl ?_
      refine n_goto (t := 2) C dX3_forgetLoads_25 (by decide) ?_
      exact Wn.sub (lv' := [(0, .ref (aG 0)), (1, .int (v1 + (nI 1)))]) [1, 0] rfl (ih (v1 + (nI 1)) oG_21 hf)
set_option maxHeartbeats 4000000 in
set_option maxRecDepth 100000 in
theorem c3_forgetLoads (l : Launch) (D : va_G) (cyI cyO cyJ : ClassId) (aG : Nat → Nat) (n : Nat) (oG : OB) (z : (OB)) (hf : f3_forgetLoads n oG = some z) : Ct l D (tyG cyI cyO cyJ) yX3_forgetLoads wsX3_forgetLoads rm3_forgetLoads 0 0 [.ref (aG 0)] (bX3 cyI aG oG) (bX3 cyI aG z) none := by
  refine Ct.of (cc := cX3_forgetLoads) (nL := 2) (ret := none) (lv := [(0, .ref (aG 0))]) (by decide +kernel) rfl rfl (Nat.le_of_ble_eq_true rfl) ?_
  intro p e s m args below meth c A C
  have C : Cx p s m args meth c D (tyG cyI cyO cyJ) A RX3 cX3_forgetLoads 2 none wsX3_forgetLoads := C
  unfold f3_forgetLoads at hf
  refine n_iconst (v := (nI 0)) C dX3_forgetLoads_0 (by decide) rfl ?_
  refine n_istore_n (lv' := [(1, .int (nI 0)), (0, .ref (aG 0))]) C dX3_forgetLoads_1 (by decide) rfl rfl ?_
  exact Wn.sub (lv' := [(0, .ref (aG 0)), (1, .int (nI 0))]) [1, 0] rfl (t3_forgetLoads_b2 C n (fun oG hf => Wn.sub (lv' := [(0, .ref (aG 0))]) [0] rfl (t3_forgetLoads_b28 C n oG hf)) n (nI 0) oG hf)
-- X3 load 
theorem iw3_load_X3 : ∀ w ∈ u_ws RX3 TX3 4, w ∈ wsX3_load := by decide +kernel
abbrev rm3_load : Room := { frames := 0, cells := 0, slots := 0, locals := 0 }
def f3_load (n : Nat) (oG : OB) (x1 : Int32) (x2 : Int32) (x3 : Int32) : Option ((OB)) :=
  (if x1 < (0 : Int32) then some oG else (if (nI 6) ≤ x1 then some oG else (if x2 < (0 : Int32) then some oG else (if x2 < (nI 6) then (ald 6 (oG.2 0) x1).bind fun x27 => (oast oG 0 6 x1 (x27 + (nI 1))).bind fun oG_30 => (ald 6 (oG_30.2 1) x1).bind fun x37 => (oast oG_30 1 6 x1 (x37 ||| ((nI 1) <<< (x3 &&& 31)))).bind fun oG_42 => (ald 6 (oG_42.2 2) x2).bind fun x49 => (oast oG_42 2 6 x2 (x49 + (nI 1))).bind fun oG_52 => (ald 6 (oG_52.2 3) x2).bind fun x59 => (oast oG_52 3 6 x2 (x59 ||| ((nI 1) <<< (x3 &&& 31)))).bind fun oG_64 => some oG_64 else some oG))))
set_option maxHeartbeats 4000000 in
set_option maxRecDepth 100000 in
theorem c3_load (l : Launch) (D : va_G) (cyI cyO cyJ : ClassId) (aG : Nat → Nat) (n : Nat) (oG : OB) (x1 : Int32) (x2 : Int32) (x3 : Int32) (z : (OB)) (hf : f3_load n oG x1 x2 x3 = some z) : Ct l D (tyG cyI cyO cyJ) yX3_load wsX3_load rm3_load 0 0 [.ref (aG 0), .int x1, .int x2, .int x3] (bX3 cyI aG oG) (bX3 cyI aG z) none := by
  refine Ct.of (cc := cX3_load) (nL := 4) (ret := none) (lv := [(0, .ref (aG 0)), (1, .int x1), (2, .int x2), (3, .int x3)]) (by decide +kernel) rfl rfl (Nat.le_of_ble_eq_true rfl) ?_
  intro p e s m args below meth c A C
  have C : Cx p s m args meth c D (tyG cyI cyO cyJ) A RX3 cX3_load 4 none wsX3_load := C
  unfold f3_load at hf
  refine n_iload_n C dX3_load_0 1 rfl rfl ?_
  refine n_if_lt (t := 20) C dX3_load_1 (by decide) rfl (fun h1 => ?_) (fun h1 => ?_)
  · have hf := ip h1 hf
    obtain rfl := Option.some.inj hf
    exact n_vret C dX3_load_20
  · have hf := iq h1 hf
    refine n_iload_n C dX3_load_4 1 rfl rfl ?_
    refine n_bipush (v := (nI 6)) C dX3_load_5 (by decide) rfl ?_
    refine n_icmp_ge (t := 20) C dX3_load_7 (by decide) rfl (fun h7 => ?_) (fun h7 => ?_)
    · have hf := ip h7 hf
      obtain rfl := Option.some.inj hf
      exact n_vret C dX3_load_20
    · have hf := iq h7 hf
      refine n_iload_n C dX3_load_10 2 rfl rfl ?_
      refine n_if_lt (t := 20) C dX3_load_11 (by decide) rfl (fun h11 => ?_) (fun h11 => ?_)
      · have hf := ip h11 hf
        obtain rfl := Option.some.inj hf
        exact n_vret C dX3_load_20
      · have hf := iq h11 hf
        refine n_iload_n C dX3_load_14 2 rfl rfl ?_
        refine n_bipush (v := (nI 6)) C dX3_load_15 (by decide) rfl ?_
        refine n_icmp_lt (t := 21) C dX3_load_17 (by decide) rfl (fun h17 => ?_) (fun h17 => ?_)
        · have hf := ip h17 hf
          refine n_aload_n C dX3_load_21 0 rfl rfl ?_
          refine n_get (N := 4) C dX3_load_22 iw3_load_X3 0 rfl rfl 0 (by decide) (List.mem_of_getElem? (i := 1) rfl) rfl rfl rfl ?_
          refine n_iload_n C dX3_load_25 1 rfl rfl ?_
          refine n_dup2 C dX3_load_26 rfl rfl rfl ?_
          obtain ⟨x27, h27, hf⟩ := bi hf
          obtain ⟨h27, e27⟩ := ald_some h27
          refine n_iald C dX3_load_27 1 0 rfl rfl h27 rfl ?_
          rw [← e27]
          refine n_iconst (v := (nI 1)) C dX3_load_28 (by decide) rfl ?_
          refine n_iadd C dX3_load_29 rfl ?_
          obtain ⟨oG_30, h30, hf⟩ := bi hf
          obtain ⟨h30, e30⟩ := oast_some h30
          refine n_iast (w2 := bX3 cyI aG oG_30) C dX3_load_30 1 0 rfl rfl h30 (by subst e30; rfl) rfl ?_
          refine n_aload_n C dX3_load_31 0 rfl rfl ?_
          refine n_get (N := 4) C dX3_load_32 iw3_load_X3 0 rfl rfl 1 (by decide) (List.mem_of_getElem? (i := 2) rfl) rfl rfl rfl ?_
          refine n_iload_n C dX3_load_35 1 rfl rfl ?_
          refine n_dup2 C dX3_load_36 rfl rfl rfl ?_
          obtain ⟨x37, h37, hf⟩ := bi hf
          obtain ⟨h37, e37⟩ := ald_some h37
          refine n_iald C dX3_load_37 2 0 rfl rfl h37 rfl ?_
          rw [← e37]
          refine n_iconst (v := (nI 1)) C dX3_load_38 (by decide) rfl ?_
          refine n_iload_n C dX3_load_39 3 rfl rfl ?_
          refine n_ishl C dX3_load_40 rfl ?_
          refine n_ior C dX3_load_41 rfl ?_
          obtain ⟨oG_42, h42, hf⟩ := bi hf
          obtain ⟨h42, e42⟩ := oast_some h42
          refine n_iast (w2 := bX3 cyI aG oG_42) C dX3_load_42 2 0 rfl rfl h42 (by subst e42; rfl) rfl ?_
          refine n_aload_n C dX3_load_43 0 rfl rfl ?_
          refine n_get (N := 4) C dX3_load_44 iw3_load_X3 0 rfl rfl 2 (by decide) (List.mem_of_getElem? (i := 3) rfl) rfl rfl rfl ?_
          refine n_iload_n C dX3_load_47 2 rfl rfl ?_
          refine n_dup2 C dX3_load_48 rfl rfl rfl ?_
          obtain ⟨x49, h49, hf⟩ := bi hf
          obtain ⟨h49, e49⟩ := ald_some h49
          refine n_iald C dX3_load_49 3 0 rfl rfl h49 rfl ?_
          rw [← e49]
          refine n_iconst (v := (nI 1)) C dX3_load_50 (by decide) rfl ?_
          refine n_iadd C dX3_load_51 rfl ?_
          obtain ⟨oG_52, h52, hf⟩ := bi hf
          obtain ⟨h52, e52⟩ := oast_some h52
          refine n_iast (w2 := bX3 cyI aG oG_52) C dX3_load_52 3 0 rfl rfl h52 (by subst e52; rfl) rfl ?_
          refine n_aload_n C dX3_load_53 0 rfl rfl ?_
          refine n_get (N := 4) C dX3_load_54 iw3_load_X3 0 rfl rfl 3 (by decide) (List.mem_of_getElem? (i := 4) rfl) rfl rfl rfl ?_
          refine n_iload_n C dX3_load_57 2 rfl rfl ?_
          refine n_dup2 C dX3_load_58 rfl rfl rfl ?_
          obtain ⟨x59, h59, hf⟩ := bi hf
          obtain ⟨h59, e59⟩ := ald_some h59
          refine n_iald C dX3_load_59 4 0 rfl rfl h59 rfl ?_
          rw [← e59]
          refine n_iconst (v := (nI 1)) C dX3_load_60 (by decide) rfl ?_
          refine n_iload_n C dX3_load_61 3 rfl rfl ?_
          refine n_ishl C dX3_load_62 rfl ?_
          refine n_ior C dX3_load_63 rfl ?_
          obtain ⟨oG_64, h64, hf⟩ := bi hf
          obtain ⟨h64, e64⟩ := oast_some h64
          refine n_iast (w2 := bX3 cyI aG oG_64) C dX3_load_64 4 0 rfl rfl h64 (by subst e64; rfl) rfl ?_
          obtain rfl := Option.some.inj hf
          exact n_vret C dX3_load_65
        · have hf := iq h17 hf
          obtain rfl := Option.some.inj hf
          exact n_vret C dX3_load_20
-- X3 freeVenue 
theorem iw3_freeVenue_X1 : ∀ w ∈ u_ws RX1 TX1 15, w ∈ wsX3_freeVenue := by decide +kernel
theorem iw3_freeVenue_X3 : ∀ w ∈ u_ws RX3 TX3 4, w ∈ wsX3_freeVenue := by decide +kernel
abbrev rm3_freeVenue : Room := { frames := 0, cells := 0, slots := 0, locals := 0 }
def f3_freeVenue_b94 (n : Nat) (oG : OB) (oL : OB) (x2 : Int32) (k41 : Int32 → Int32 → Int32 → Int32 → Int32 → Int32 → Option (Int32)) (v3 : Int32) (v4 : Int32) (v5 : Int32) (v6 : Int32) (v7 : Int32) (v8 : Int32) (v9 : Int32) (s0 : Int32) : Option (Int32) :=
  (if v9 = (0 : Int32) then k41 v3 v4 v5 v6 v7 (v8 + (nI 1)) else (if s0 = (0 : Int32) then k41 v3 v4 v5 v6 v7 (v8 + (nI 1)) else (ald 6 (oG.2 0) v8).bind fun x112 => (if v7 ≤ x112 then k41 v3 v4 v5 v6 v7 (v8 + (nI 1)) else (ald 6 (oG.2 0) v8).bind fun x128 => k41 v3 v4 v5 v8 x128 (v8 + (nI 1)))))
def f3_freeVenue_b66 (n : Nat) (oG : OB) (oL : OB) (x2 : Int32) (k41 : Int32 → Int32 → Int32 → Int32 → Int32 → Int32 → Option (Int32)) (v3 : Int32) (v4 : Int32) (v5 : Int32) (v6 : Int32) (v7 : Int32) (v8 : Int32) (s0 : Int32) : Option (Int32) :=
  (ald 6 (oL.2 4) v8).bind fun x74 => (ald 6 (oG.2 1) v8).bind fun x81 => (if ((x74 ||| x81) &&& v5) = (0 : Int32) then f3_freeVenue_b94 n oG oL x2 k41 v3 v4 v5 v6 v7 v8 s0 (nI 1) else f3_freeVenue_b94 n oG oL x2 k41 v3 v4 v5 v6 v7 v8 s0 (nI 0))
def f3_freeVenue_b41 (n : Nat) (oG : OB) (oL : OB) (x2 : Int32) : Nat → Int32 → Int32 → Int32 → Int32 → Int32 → Int32 → Option (Int32)
  | 0, _, _, _, _, _, _ => none
  | k + 1, v3, v4, v5, v6, v7, v8 =>
    (if (nI 6) ≤ v8 then some v6 else (if v8 = v3 then f3_freeVenue_b66 n oG oL x2 (f3_freeVenue_b41 n oG oL x2 k) v3 v4 v5 v6 v7 v8 (nI 0) else (if v8 = v4 then f3_freeVenue_b66 n oG oL x2 (f3_freeVenue_b41 n oG oL x2 k) v3 v4 v5 v6 v7 v8 (nI 0) else f3_freeVenue_b66 n oG oL x2 (f3_freeVenue_b41 n oG oL x2 k) v3 v4 v5 v6 v7 v8 (nI 1))))
def f3_freeVenue (n : Nat) (oG : OB) (oL : OB) (x2 : Int32) : Option (Int32) :=
  (ald 28 (oL.2 7) x2).bind fun x5 => (ald 28 (oL.2 8) x2).bind fun x15 => (ald 28 (oL.2 6) x2).bind fun x27 => f3_freeVenue_b41 n oG oL x2 n (x5 - x5 / (nI 6) * (nI 6)) (x15 - x15 / (nI 6) * (nI 6)) ((nI 1) <<< (x27 &&& 31)) (-1 : Int32) (nI 29) (nI 0)
set_option maxHeartbeats 4000000 in
set_option maxRecDepth 100000 in
theorem t3_freeVenue_b94 {l : Launch} {p : Program} {e : Env} {s : State} {m : MethodId} {args : Array Value} {below : List Frame} {meth : Method} {c : Code} {D : va_G} {A : Nat → Prop} {cyI cyO cyJ : ClassId} {aG : Nat → Nat} {aL : Nat → Nat} (C : Cx p s m args meth c D (tyG cyI cyO cyJ) A RX3 cX3_freeVenue 11 (some .int) wsX3_freeVenue) {z : Int32} (n : Nat) (oG : OB) (oL : OB) (x2 : Int32) {k41 : Int32 → Int32 → Int32 → Int32 → Int32 → Int32 → Option (Int32)} (hk41 : ∀ (v3 : Int32) (v4 : Int32) (v5 : Int32) (v6 : Int32) (v7 : Int32) (v8 : Int32), k41 v3 v4 v5 v6 v7 v8 = some z → Wn p l e rm3_freeVenue s m args below meth c D A 11 0 0 (MQ below (Qr D (tyG cyI cyO cyJ) (bX3 cyI aG oG ++ bX1 cyI aL oL) A (some (.int z))) args s 0 0 A) (bX3 cyI aG oG ++ bX1 cyI aL oL) 41 [(0, .ref (aG 0)), (1, .ref (aL 0)), (3, .int v3), (4, .int v4), (5, .int v5), (6, .int v6), (7, .int v7), (8, .int v8)] []) (v3 : Int32) (v4 : Int32) (v5 : Int32) (v6 : Int32) (v7 : Int32) (v8 : Int32) (v9 : Int32) (s0 : Int32) (hf : f3_freeVenue_b94 n oG oL x2 k41 v3 v4 v5 v6 v7 v8 v9 s0 = some z) : Wn p l e rm3_freeVenue s m args below meth c D A 11 0 0 (MQ below (Qr D (tyG cyI cyO cyJ) (bX3 cyI aG oG ++ bX1 cyI aL oL) A (some (.int z))) args s 0 0 A) (bX3 cyI aG oG ++ bX1 cyI aL oL) 94 [(0, .ref (aG 0)), (1, .ref (aL 0)), (3, .int v3), (4, .int v4), (5, .int v5), (6, .int v6), (7, .int v7), (8, .int v8), (9, .int v9)] [.int s0] := by
  unfold f3_freeVenue_b94 at hf
  refine n_istore (lv' := [(10, .int s0), (0, .ref (aG 0)), (1, .ref (aL 0)), (3, .int v3), (4, .int v4), (5, .int v5), (6, .int v6), (7, .int v7), (8, .int v8), (9, .int v9)]) C dX3_freeVenue_94 (by decide) rfl rfl ?_
  refine n_iload C dX3_freeVenue_96 9 rfl rfl ?_
  refine n_if_eq (t := 131) C dX3_freeVenue_98 (by decide) rfl (fun h98 => ?_) (fun h98 => ?_)
  · have hf := ip h98 hf
    refine n_iinc (v := v8 + (nI 1)) (lv' := [(8, .int (v8 + (nI 1))), (10, .int s0), (0, .ref (aG 0)), (1, .ref (aL 0)), (3, .int v3), (4, .int v4), (5, .int v5), (6, .int v6), (7, .int v7), (9, .int v9)]) C dX3_freeVenue_131 (j := 8) rfl rfl (by decide) rfl rfl ?_
    refine n_goto (t := 41) C dX3_freeVenue_134 (by decide) ?_
    exact Wn.sub (lv' := [(0, .ref (aG 0)), (1, .ref (aL 0)), (3, .int v3), (4, .int v4), (5, .int v5), (6, .int v6), (7, .int v7), (8, .int (v8 + (nI 1)))]) [2, 3, 4, 5, 6, 7, 8, 0] rfl (hk41 v3 v4 v5 v6 v7 (v8 + (nI 1)) hf)
  · have hf := iq h98 hf
    refine n_iload C dX3_freeVenue_101 0 rfl rfl ?_
    refine n_if_eq (t := 131) C dX3_freeVenue_103 (by decide) rfl (fun h103 => ?_) (fun h103 => ?_)
    · have hf := ip h103 hf
      refine n_iinc (v := v8 + (nI 1)) (lv' := [(8, .int (v8 + (nI 1))), (10, .int s0), (0, .ref (aG 0)), (1, .ref (aL 0)), (3, .int v3), (4, .int v4), (5, .int v5), (6, .int v6), (7, .int v7), (9, .int v9)]) C dX3_freeVenue_131 (j := 8) rfl rfl (by decide) rfl rfl ?_
      refine n_goto (t := 41) C dX3_freeVenue_134 (by decide) ?_
      exact Wn.sub (lv' := [(0, .ref (aG 0)), (1, .ref (aL 0)), (3, .int v3), (4, .int v4), (5, .int v5), (6, .int v6), (7, .int v7), (8, .int (v8 + (nI 1)))]) [2, 3, 4, 5, 6, 7, 8, 0] rfl (hk41 v3 v4 v5 v6 v7 (v8 + (nI 1)) hf)
    · have hf := iq h103 hf
      refine n_aload_n C dX3_freeVenue_106 1 rfl rfl ?_
      refine n_get (N := 4) C dX3_freeVenue_107 iw3_freeVenue_X3 0 rfl rfl 0 (by decide) (List.mem_of_getElem? (i := 6) rfl) rfl rfl rfl ?_
      refine n_iload C dX3_freeVenue_110 8 rfl rfl ?_
      obtain ⟨x112, h112, hf⟩ := bi hf
      obtain ⟨h112, e112⟩ := ald_some h112
      refine n_iald C dX3_freeVenue_112 1 0 rfl rfl h112 rfl ?_
      rw [← e112]
      refine n_iload C dX3_freeVenue_113 7 rfl rfl ?_
      refine n_icmp_ge (t := 131) C dX3_freeVenue_115 (by decide) rfl (fun h115 => ?_) (fun h115 => ?_)
      · have hf := ip h115 hf
        refine n_iinc (v := v8 + (nI 1)) (lv' := [(8, .int (v8 + (nI 1))), (10, .int s0), (0, .ref (aG 0)), (1, .ref (aL 0)), (3, .int v3), (4, .int v4), (5, .int v5), (6, .int v6), (7, .int v7), (9, .int v9)]) C dX3_freeVenue_131 (j := 8) rfl rfl (by decide) rfl rfl ?_
        refine n_goto (t := 41) C dX3_freeVenue_134 (by decide) ?_
        exact Wn.sub (lv' := [(0, .ref (aG 0)), (1, .ref (aL 0)), (3, .int v3), (4, .int v4), (5, .int v5), (6, .int v6), (7, .int v7), (8, .int (v8 + (nI 1)))]) [2, 3, 4, 5, 6, 7, 8, 0] rfl (hk41 v3 v4 v5 v6 v7 (v8 + (nI 1)) hf)
      · have hf := iq h115 hf
        refine n_iload C dX3_freeVenue_118 8 rfl rfl ?_
        refine n_istore (lv' := [(6, .int v8), (10, .int s0), (0, .ref (aG 0)), (1, .ref (aL 0)), (3, .int v3), (4, .int v4), (5, .int v5), (7, .int v7), (8, .int v8), (9, .int v9)]) C dX3_freeVenue_120 (by decide) rfl rfl ?_
        refine n_aload_n C dX3_freeVenue_122 2 rfl rfl ?_
        refine n_get (N := 4) C dX3_freeVenue_123 iw3_freeVenue_X3 0 rfl rfl 0 (by decide) (List.mem_of_getElem? (i := 6) rfl) rfl rfl rfl ?_
        refine n_iload C dX3_freeVenue_126 8 rfl rfl ?_
        obtain ⟨x128, h128, hf⟩ := bi hf
        obtain ⟨h128, e128⟩ := ald_some h128
        refine n_iald C dX3_freeVenue_128 1 0 rfl rfl h128 rfl ?_
        rw [← e128]
        refine n_istore (lv' := [(7, .int x128), (6, .int v8), (10, .int s0), (0, .ref (aG 0)), (1, .ref (aL 0)), (3, .int v3), (4, .int v4), (5, .int v5), (8, .int v8), (9, .int v9)]) C dX3_freeVenue_129 (by decide) rfl rfl ?_
        refine n_iinc (v := v8 + (nI 1)) (lv' := [(8, .int (v8 + (nI 1))), (7, .int x128), (6, .int v8), (10, .int s0), (0, .ref (aG 0)), (1, .ref (aL 0)), (3, .int v3), (4, .int v4), (5, .int v5), (9, .int v9)]) C dX3_freeVenue_131 (j := 8) rfl rfl (by decide) rfl rfl ?_
        refine n_goto (t := 41) C dX3_freeVenue_134 (by decide) ?_
        exact Wn.sub (lv' := [(0, .ref (aG 0)), (1, .ref (aL 0)), (3, .int v3), (4, .int v4), (5, .int v5), (6, .int v8), (7, .int x128), (8, .int (v8 + (nI 1)))]) [4, 5, 6, 7, 8, 2, 1, 0] rfl (hk41 v3 v4 v5 v8 x128 (v8 + (nI 1)) hf)
set_option maxHeartbeats 4000000 in
set_option maxRecDepth 100000 in
theorem t3_freeVenue_b66 {l : Launch} {p : Program} {e : Env} {s : State} {m : MethodId} {args : Array Value} {below : List Frame} {meth : Method} {c : Code} {D : va_G} {A : Nat → Prop} {cyI cyO cyJ : ClassId} {aG : Nat → Nat} {aL : Nat → Nat} (C : Cx p s m args meth c D (tyG cyI cyO cyJ) A RX3 cX3_freeVenue 11 (some .int) wsX3_freeVenue) {z : Int32} (n : Nat) (oG : OB) (oL : OB) (x2 : Int32) {k41 : Int32 → Int32 → Int32 → Int32 → Int32 → Int32 → Option (Int32)} (hk41 : ∀ (v3 : Int32) (v4 : Int32) (v5 : Int32) (v6 : Int32) (v7 : Int32) (v8 : Int32), k41 v3 v4 v5 v6 v7 v8 = some z → Wn p l e rm3_freeVenue s m args below meth c D A 11 0 0 (MQ below (Qr D (tyG cyI cyO cyJ) (bX3 cyI aG oG ++ bX1 cyI aL oL) A (some (.int z))) args s 0 0 A) (bX3 cyI aG oG ++ bX1 cyI aL oL) 41 [(0, .ref (aG 0)), (1, .ref (aL 0)), (3, .int v3), (4, .int v4), (5, .int v5), (6, .int v6), (7, .int v7), (8, .int v8)] []) (v3 : Int32) (v4 : Int32) (v5 : Int32) (v6 : Int32) (v7 : Int32) (v8 : Int32) (s0 : Int32) (hf : f3_freeVenue_b66 n oG oL x2 k41 v3 v4 v5 v6 v7 v8 s0 = some z) : Wn p l e rm3_freeVenue s m args below meth c D A 11 0 0 (MQ below (Qr D (tyG cyI cyO cyJ) (bX3 cyI aG oG ++ bX1 cyI aL oL) A (some (.int z))) args s 0 0 A) (bX3 cyI aG oG ++ bX1 cyI aL oL) 66 [(0, .ref (aG 0)), (1, .ref (aL 0)), (3, .int v3), (4, .int v4), (5, .int v5), (6, .int v6), (7, .int v7), (8, .int v8)] [.int s0] := by
  unfold f3_freeVenue_b66 at hf
  refine n_istore (lv' := [(9, .int s0), (0, .ref (aG 0)), (1, .ref (aL 0)), (3, .int v3), (4, .int v4), (5, .int v5), (6, .int v6), (7, .int v7), (8, .int v8)]) C dX3_freeVenue_66 (by decide) rfl rfl ?_
  refine n_aload_n C dX3_freeVenue_68 2 rfl rfl ?_
  refine n_get (N := 15) C dX3_freeVenue_69 iw3_freeVenue_X1 5 rfl rfl 4 (by decide) (List.mem_of_getElem? (i := 4) rfl) rfl rfl rfl ?_
  refine n_iload C dX3_freeVenue_72 8 rfl rfl ?_
  obtain ⟨x74, h74, hf⟩ := bi hf
  obtain ⟨h74, e74⟩ := ald_some h74
  refine n_iald C dX3_freeVenue_74 7 0 rfl rfl h74 rfl ?_
  rw [← e74]
  refine n_aload_n C dX3_freeVenue_75 1 rfl rfl ?_
  refine n_get (N := 4) C dX3_freeVenue_76 iw3_freeVenue_X3 0 rfl rfl 1 (by decide) (List.mem_of_getElem? (i := 5) rfl) rfl rfl rfl ?_
  refine n_iload C dX3_freeVenue_79 8 rfl rfl ?_
  obtain ⟨x81, h81, hf⟩ := bi hf
  obtain ⟨h81, e81⟩ := ald_some h81
  refine n_iald C dX3_freeVenue_81 2 0 rfl rfl h81 rfl ?_
  rw [← e81]
  refine n_ior C dX3_freeVenue_82 rfl ?_
  refine n_iload C dX3_freeVenue_83 5 rfl rfl ?_
  refine n_iand C dX3_freeVenue_85 rfl ?_
  refine n_if_ne (t := 93) C dX3_freeVenue_86 (by decide) rfl (fun h86 => ?_) (fun h86 => ?_)
  · have hf := iq h86 hf
    refine n_iconst (v := (nI 0)) C dX3_freeVenue_93 (by decide) rfl ?_
    exact Wn.sub (lv' := [(0, .ref (aG 0)), (1, .ref (aL 0)), (3, .int v3), (4, .int v4), (5, .int v5), (6, .int v6), (7, .int v7), (8, .int v8), (9, .int s0)]) [1, 2, 3, 4, 5, 6, 7, 8, 0] rfl (t3_freeVenue_b94 C n oG oL x2 hk41 v3 v4 v5 v6 v7 v8 s0 (nI 0) hf)
  · have hf := ip h86 hf
    refine n_iconst (v := (nI 1)) C dX3_freeVenue_89 (by decide) rfl ?_
    refine n_goto (t := 94) C dX3_freeVenue_90 (by decide) ?_
    exact Wn.sub (lv' := [(0, .ref (aG 0)), (1, .ref (aL 0)), (3, .int v3), (4, .int v4), (5, .int v5), (6, .int v6), (7, .int v7), (8, .int v8), (9, .int s0)]) [1, 2, 3, 4, 5, 6, 7, 8, 0] rfl (t3_freeVenue_b94 C n oG oL x2 hk41 v3 v4 v5 v6 v7 v8 s0 (nI 1) hf)
set_option maxHeartbeats 4000000 in
set_option maxRecDepth 100000 in
theorem t3_freeVenue_b41 {l : Launch} {p : Program} {e : Env} {s : State} {m : MethodId} {args : Array Value} {below : List Frame} {meth : Method} {c : Code} {D : va_G} {A : Nat → Prop} {cyI cyO cyJ : ClassId} {aG : Nat → Nat} {aL : Nat → Nat} (C : Cx p s m args meth c D (tyG cyI cyO cyJ) A RX3 cX3_freeVenue 11 (some .int) wsX3_freeVenue) {z : Int32} (n : Nat) (oG : OB) (oL : OB) (x2 : Int32) : ∀ (k : Nat) (v3 : Int32) (v4 : Int32) (v5 : Int32) (v6 : Int32) (v7 : Int32) (v8 : Int32), f3_freeVenue_b41 n oG oL x2 k v3 v4 v5 v6 v7 v8 = some z → Wn p l e rm3_freeVenue s m args below meth c D A 11 0 0 (MQ below (Qr D (tyG cyI cyO cyJ) (bX3 cyI aG oG ++ bX1 cyI aL oL) A (some (.int z))) args s 0 0 A) (bX3 cyI aG oG ++ bX1 cyI aL oL) 41 [(0, .ref (aG 0)), (1, .ref (aL 0)), (3, .int v3), (4, .int v4), (5, .int v5), (6, .int v6), (7, .int v7), (8, .int v8)] [] := by
  intro k
  induction k with
  | zero => intro  v3 v4 v5 v6 v7 v8 hf; cases hf
  | succ k ih =>
    intro  v3 v4 v5 v6 v7 v8 hf
    unfold f3_freeVenue_b41 at hf
    refine n_iload C dX3_freeVenue_41 7 rfl rfl ?_
    refine n_bipush (v := (nI 6)) C dX3_freeVenue_43 (by decide) rfl ?_
    refine n_icmp_ge (t := 137) C dX3_freeVenue_45 (by decide) rfl (fun h45 => ?_) (fun h45 => ?_)
    · have hf := ip h45 hf
      refine n_iload C dX3_freeVenue_137 5 rfl rfl ?_
      obtain rfl := Option.some.inj hf
      exact n_iret C dX3_freeVenue_139
    · have hf := iq h45 hf
      refine n_iload C dX3_freeVenue_48 7 rfl rfl ?_
      refine n_iload_n C dX3_freeVenue_50 2 rfl rfl ?_
      refine n_icmp_eq (t := 65) C dX3_freeVenue_51 (by decide) rfl (fun h51 => ?_) (fun h51 => ?_)
      · have hf := ip h51 hf
        refine n_iconst (v := (nI 0)) C dX3_freeVenue_65 (by decide) rfl ?_
        exact Wn.sub (lv' := [(0, .ref (aG 0)), (1, .ref (aL 0)), (3, .int v3), (4, .int v4), (5, .int v5), (6, .int v6), (7, .int v7), (8, .int v8)]) [0, 1, 2, 3, 4, 5, 6, 7] rfl (t3_freeVenue_b66 C n oG oL x2 ih v3 v4 v5 v6 v7 v8 (nI 0) hf)
      · have hf := iq h51 hf
        refine n_iload C dX3_freeVenue_54 7 rfl rfl ?_
        refine n_iload C dX3_freeVenue_56 3 rfl rfl ?_
        refine n_icmp_eq (t := 65) C dX3_freeVenue_58 (by decide) rfl (fun h58 => ?_) (fun h58 => ?_)
        · have hf := ip h58 hf
          refine n_iconst (v := (nI 0)) C dX3_freeVenue_65 (by decide) rfl ?_
          exact Wn.sub (lv' := [(0, .ref (aG 0)), (1, .ref (aL 0)), (3, .int v3), (4, .int v4), (5, .int v5), (6, .int v6), (7, .int v7), (8, .int v8)]) [0, 1, 2, 3, 4, 5, 6, 7] rfl (t3_freeVenue_b66 C n oG oL x2 ih v3 v4 v5 v6 v7 v8 (nI 0) hf)
        · have hf := iq h58 hf
          refine n_iconst (v := (nI 1)) C dX3_freeVenue_61 (by decide) rfl ?_
          refine n_goto (t := 66) C dX3_freeVenue_62 (by decide) ?_
          exact Wn.sub (lv' := [(0, .ref (aG 0)), (1, .ref (aL 0)), (3, .int v3), (4, .int v4), (5, .int v5), (6, .int v6), (7, .int v7), (8, .int v8)]) [0, 1, 2, 3, 4, 5, 6, 7] rfl (t3_freeVenue_b66 C n oG oL x2 ih v3 v4 v5 v6 v7 v8 (nI 1) hf)
set_option maxHeartbeats 4000000 in
set_option maxRecDepth 100000 in
theorem c3_freeVenue (l : Launch) (D : va_G) (cyI cyO cyJ : ClassId) (aG : Nat → Nat) (aL : Nat → Nat) (n : Nat) (oG : OB) (oL : OB) (x2 : Int32) (z : Int32) (hf : f3_freeVenue n oG oL x2 = some z) : Ct l D (tyG cyI cyO cyJ) yX3_freeVenue wsX3_freeVenue rm3_freeVenue 0 0 [.ref (aG 0), .ref (aL 0), .int x2] (bX3 cyI aG oG ++ bX1 cyI aL oL) (bX3 cyI aG oG ++ bX1 cyI aL oL) (some (.int z)) := by
  refine Ct.of (cc := cX3_freeVenue) (nL := 11) (ret := (some .int)) (lv := [(0, .ref (aG 0)), (1, .ref (aL 0)), (2, .int x2)]) (by decide +kernel) rfl rfl (Nat.le_of_ble_eq_true rfl) ?_
  intro p e s m args below meth c A C
  have C : Cx p s m args meth c D (tyG cyI cyO cyJ) A RX3 cX3_freeVenue 11 (some .int) wsX3_freeVenue := C
  unfold f3_freeVenue at hf
  refine n_aload_n C dX3_freeVenue_0 1 rfl rfl ?_
  refine n_get (N := 15) C dX3_freeVenue_1 iw3_freeVenue_X1 5 rfl rfl 7 (by decide) (List.mem_of_getElem? (i := 1) rfl) rfl rfl rfl ?_
  refine n_iload_n C dX3_freeVenue_4 2 rfl rfl ?_
  obtain ⟨x5, h5, hf⟩ := bi hf
  obtain ⟨h5, e5⟩ := ald_some h5
  refine n_iald C dX3_freeVenue_5 10 0 rfl rfl h5 rfl ?_
  rw [← e5]
  refine n_bipush (v := (nI 6)) C dX3_freeVenue_6 (by decide) rfl ?_
  refine n_irem C dX3_freeVenue_8 (by decide) rfl ?_
  refine n_istore_n (lv' := [(3, .int (x5 - x5 / (nI 6) * (nI 6))), (0, .ref (aG 0)), (1, .ref (aL 0)), (2, .int x2)]) C dX3_freeVenue_9 (by decide) rfl rfl ?_
  refine n_aload_n C dX3_freeVenue_10 2 rfl rfl ?_
  refine n_get (N := 15) C dX3_freeVenue_11 iw3_freeVenue_X1 5 rfl rfl 8 (by decide) (List.mem_of_getElem? (i := 2) rfl) rfl rfl rfl ?_
  refine n_iload_n C dX3_freeVenue_14 3 rfl rfl ?_
  obtain ⟨x15, h15, hf⟩ := bi hf
  obtain ⟨h15, e15⟩ := ald_some h15
  refine n_iald C dX3_freeVenue_15 11 0 rfl rfl h15 rfl ?_
  rw [← e15]
  refine n_bipush (v := (nI 6)) C dX3_freeVenue_16 (by decide) rfl ?_
  refine n_irem C dX3_freeVenue_18 (by decide) rfl ?_
  refine n_istore (lv' := [(4, .int (x15 - x15 / (nI 6) * (nI 6))), (3, .int (x5 - x5 / (nI 6) * (nI 6))), (0, .ref (aG 0)), (1, .ref (aL 0)), (2, .int x2)]) C dX3_freeVenue_19 (by decide) rfl rfl ?_
  refine n_iconst (v := (nI 1)) C dX3_freeVenue_21 (by decide) rfl ?_
  refine n_aload_n C dX3_freeVenue_22 3 rfl rfl ?_
  refine n_get (N := 15) C dX3_freeVenue_23 iw3_freeVenue_X1 5 rfl rfl 6 (by decide) (List.mem_of_getElem? (i := 3) rfl) rfl rfl rfl ?_
  refine n_iload_n C dX3_freeVenue_26 4 rfl rfl ?_
  obtain ⟨x27, h27, hf⟩ := bi hf
  obtain ⟨h27, e27⟩ := ald_some h27
  refine n_iald C dX3_freeVenue_27 9 0 rfl rfl h27 rfl ?_
  rw [← e27]
  refine n_ishl C dX3_freeVenue_28 rfl ?_
  refine n_istore (lv' := [(5, .int ((nI 1) <<< (x27 &&& 31))), (4, .int (x15 - x15 / (nI 6) * (nI 6))), (3, .int (x5 - x5 / (nI 6) * (nI 6))), (0, .ref (aG 0)), (1, .ref (aL 0)), (2, .int x2)]) C dX3_freeVenue_29 (by decide) rfl rfl ?_
  refine n_iconst (v := (-1 : Int32)) C dX3_freeVenue_31 (by decide) rfl ?_
  refine n_istore (lv' := [(6, .int (-1 : Int32)), (5, .int ((nI 1) <<< (x27 &&& 31))), (4, .int (x15 - x15 / (nI 6) * (nI 6))), (3, .int (x5 - x5 / (nI 6) * (nI 6))), (0, .ref (aG 0)), (1, .ref (aL 0)), (2, .int x2)]) C dX3_freeVenue_32 (by decide) rfl rfl ?_
  refine n_bipush (v := (nI 29)) C dX3_freeVenue_34 (by decide) rfl ?_
  refine n_istore (lv' := [(7, .int (nI 29)), (6, .int (-1 : Int32)), (5, .int ((nI 1) <<< (x27 &&& 31))), (4, .int (x15 - x15 / (nI 6) * (nI 6))), (3, .int (x5 - x5 / (nI 6) * (nI 6))), (0, .ref (aG 0)), (1, .ref (aL 0)), (2, .int x2)]) C dX3_freeVenue_36 (by decide) rfl rfl ?_
  refine n_iconst (v := (nI 0)) C dX3_freeVenue_38 (by decide) rfl ?_
  refine n_istore (lv' := [(8, .int (nI 0)), (7, .int (nI 29)), (6, .int (-1 : Int32)), (5, .int ((nI 1) <<< (x27 &&& 31))), (4, .int (x15 - x15 / (nI 6) * (nI 6))), (3, .int (x5 - x5 / (nI 6) * (nI 6))), (0, .ref (aG 0)), (1, .ref (aL 0)), (2, .int x2)]) C dX3_freeVenue_39 (by decide) rfl rfl ?_
  exact Wn.sub (lv' := [(0, .ref (aG 0)), (1, .ref (aL 0)), (3, .int (x5 - x5 / (nI 6) * (nI 6))), (4, .int (x15 - x15 / (nI 6) * (nI 6))), (5, .int ((nI 1) <<< (x27 &&& 31))), (6, .int (-1 : Int32)), (7, .int (nI 29)), (8, .int (nI 0))]) [6, 7, 5, 4, 3, 2, 1, 0] rfl (t3_freeVenue_b41 C n oG oL x2 n (x5 - x5 / (nI 6) * (nI 6)) (x15 - x15 / (nI 6) * (nI 6)) ((nI 1) <<< (x27 &&& 31)) (-1 : Int32) (nI 29) (nI 0) hf)
-- X3 freeSetter 
theorem iw3_freeSetter_X1 : ∀ w ∈ u_ws RX1 TX1 15, w ∈ wsX3_freeSetter := by decide +kernel
theorem iw3_freeSetter_X3 : ∀ w ∈ u_ws RX3 TX3 4, w ∈ wsX3_freeSetter := by decide +kernel
abbrev rm3_freeSetter : Room := { frames := 0, cells := 0, slots := 0, locals := 0 }
def f3_freeSetter_b104 (n : Nat) (oG : OB) (oL : OB) (x2 : Int32) (k23 : Int32 → Int32 → Int32 → Int32 → Option (Int32)) (v3 : Int32) (v4 : Int32) (v5 : Int32) (v6 : Int32) (v8 : Int32) (s0 : Int32) : Option (Int32) :=
  (if v8 = (0 : Int32) then k23 v3 v4 v5 (v6 + (nI 1)) else (if s0 = (0 : Int32) then k23 v3 v4 v5 (v6 + (nI 1)) else (ald 6 (oG.2 2) v6).bind fun x122 => (if v5 ≤ x122 then k23 v3 v4 v5 (v6 + (nI 1)) else (ald 6 (oG.2 2) v6).bind fun x138 => k23 v3 v6 x138 (v6 + (nI 1)))))
def f3_freeSetter_b77 (n : Nat) (oG : OB) (oL : OB) (x2 : Int32) (k23 : Int32 → Int32 → Int32 → Int32 → Option (Int32)) (v3 : Int32) (v4 : Int32) (v5 : Int32) (v6 : Int32) (s0 : Int32) : Option (Int32) :=
  (ald 6 (oL.2 5) v6).bind fun x85 => (ald 6 (oG.2 3) v6).bind fun x92 => (if ((x85 ||| x92) &&& v3) = (0 : Int32) then f3_freeSetter_b104 n oG oL x2 k23 v3 v4 v5 v6 s0 (nI 1) else f3_freeSetter_b104 n oG oL x2 k23 v3 v4 v5 v6 s0 (nI 0))
def f3_freeSetter_b48 (n : Nat) (oG : OB) (oL : OB) (x2 : Int32) (k23 : Int32 → Int32 → Int32 → Int32 → Option (Int32)) (v3 : Int32) (v4 : Int32) (v5 : Int32) (v6 : Int32) (s0 : Int32) : Option (Int32) :=
  (ald 28 (oL.2 7) x2).bind fun x57 => (if s0 = x57 then f3_freeSetter_b77 n oG oL x2 k23 v3 v4 v5 v6 (nI 0) else (ald 28 (oL.2 8) x2).bind fun x68 => (if s0 = x68 then f3_freeSetter_b77 n oG oL x2 k23 v3 v4 v5 v6 (nI 0) else f3_freeSetter_b77 n oG oL x2 k23 v3 v4 v5 v6 (nI 1)))
def f3_freeSetter_b23 (n : Nat) (oG : OB) (oL : OB) (x2 : Int32) : Nat → Int32 → Int32 → Int32 → Int32 → Option (Int32)
  | 0, _, _, _, _ => none
  | k + 1, v3, v4, v5, v6 =>
    (if (nI 6) ≤ v6 then some v4 else (if (oL.1 0) ≤ (0 : Int32) then f3_freeSetter_b48 n oG oL x2 (f3_freeSetter_b23 n oG oL x2 k) v3 v4 v5 v6 (-1 : Int32) else (nz (oL.1 0)).bind fun _ => f3_freeSetter_b48 n oG oL x2 (f3_freeSetter_b23 n oG oL x2 k) v3 v4 v5 v6 (v6 - v6 / (oL.1 0) * (oL.1 0))))
def f3_freeSetter (n : Nat) (oG : OB) (oL : OB) (x2 : Int32) : Option (Int32) :=
  (ald 28 (oL.2 6) x2).bind fun x6 => (ald 4 (oL.2 3) (nI 3)).bind fun x17 => f3_freeSetter_b23 n oG oL x2 n ((nI 1) <<< (x6 &&& 31)) (-1 : Int32) x17 (nI 0)
set_option maxHeartbeats 4000000 in
set_option maxRecDepth 100000 in
theorem t3_freeSetter_b104 {l : Launch} {p : Program} {e : Env} {s : State} {m : MethodId} {args : Array Value} {below : List Frame} {meth : Method} {c : Code} {D : va_G} {A : Nat → Prop} {cyI cyO cyJ : ClassId} {aG : Nat → Nat} {aL : Nat → Nat} (C : Cx p s m args meth c D (tyG cyI cyO cyJ) A RX3 cX3_freeSetter 10 (some .int) wsX3_freeSetter) {z : Int32} (n : Nat) (oG : OB) (oL : OB) (x2 : Int32) {k23 : Int32 → Int32 → Int32 → Int32 → Option (Int32)} (hk23 : ∀ (v3 : Int32) (v4 : Int32) (v5 : Int32) (v6 : Int32), k23 v3 v4 v5 v6 = some z → Wn p l e rm3_freeSetter s m args below meth c D A 10 0 0 (MQ below (Qr D (tyG cyI cyO cyJ) (bX3 cyI aG oG ++ bX1 cyI aL oL) A (some (.int z))) args s 0 0 A) (bX3 cyI aG oG ++ bX1 cyI aL oL) 23 [(0, .ref (aG 0)), (1, .ref (aL 0)), (2, .int x2), (3, .int v3), (4, .int v4), (5, .int v5), (6, .int v6)] []) (v3 : Int32) (v4 : Int32) (v5 : Int32) (v6 : Int32) (v8 : Int32) (s0 : Int32) (hf : f3_freeSetter_b104 n oG oL x2 k23 v3 v4 v5 v6 v8 s0 = some z) : Wn p l e rm3_freeSetter s m args below meth c D A 10 0 0 (MQ below (Qr D (tyG cyI cyO cyJ) (bX3 cyI aG oG ++ bX1 cyI aL oL) A (some (.int z))) args s 0 0 A) (bX3 cyI aG oG ++ bX1 cyI aL oL) 104 [(0, .ref (aG 0)), (1, .ref (aL 0)), (2, .int x2), (3, .int v3), (4, .int v4), (5, .int v5), (6, .int v6), (8, .int v8)] [.int s0] := by
  unfold f3_freeSetter_b104 at hf
  refine n_istore (lv' := [(9, .int s0), (0, .ref (aG 0)), (1, .ref (aL 0)), (2, .int x2), (3, .int v3), (4, .int v4), (5, .int v5), (6, .int v6), (8, .int v8)]) C dX3_freeSetter_104 (by decide) rfl rfl ?_
  refine n_iload C dX3_freeSetter_106 8 rfl rfl ?_
  refine n_if_eq (t := 141) C dX3_freeSetter_108 (by decide) rfl (fun h108 => ?_) (fun h108 => ?_)
  · have hf := ip h108 hf
    refine n_iinc (v := v6 + (nI 1)) (lv' := [(6, .int (v6 + (nI 1))), (9, .int s0), (0, .ref (aG 0)), (1, .ref (aL 0)), (2, .int x2), (3, .int v3), (4, .int v4), (5, .int v5), (8, .int v8)]) C dX3_freeSetter_141 (j := 7) rfl rfl (by decide) rfl rfl ?_
    refine n_goto (t := 23) C dX3_freeSetter_144 (by decide) ?_
    exact Wn.sub (lv' := [(0, .ref (aG 0)), (1, .ref (aL 0)), (2, .int x2), (3, .int v3), (4, .int v4), (5, .int v5), (6, .int (v6 + (nI 1)))]) [2, 3, 4, 5, 6, 7, 0] rfl (hk23 v3 v4 v5 (v6 + (nI 1)) hf)
  · have hf := iq h108 hf
    refine n_iload C dX3_freeSetter_111 0 rfl rfl ?_
    refine n_if_eq (t := 141) C dX3_freeSetter_113 (by decide) rfl (fun h113 => ?_) (fun h113 => ?_)
    · have hf := ip h113 hf
      refine n_iinc (v := v6 + (nI 1)) (lv' := [(6, .int (v6 + (nI 1))), (9, .int s0), (0, .ref (aG 0)), (1, .ref (aL 0)), (2, .int x2), (3, .int v3), (4, .int v4), (5, .int v5), (8, .int v8)]) C dX3_freeSetter_141 (j := 7) rfl rfl (by decide) rfl rfl ?_
      refine n_goto (t := 23) C dX3_freeSetter_144 (by decide) ?_
      exact Wn.sub (lv' := [(0, .ref (aG 0)), (1, .ref (aL 0)), (2, .int x2), (3, .int v3), (4, .int v4), (5, .int v5), (6, .int (v6 + (nI 1)))]) [2, 3, 4, 5, 6, 7, 0] rfl (hk23 v3 v4 v5 (v6 + (nI 1)) hf)
    · have hf := iq h113 hf
      refine n_aload_n C dX3_freeSetter_116 1 rfl rfl ?_
      refine n_get (N := 4) C dX3_freeSetter_117 iw3_freeSetter_X3 0 rfl rfl 2 (by decide) (List.mem_of_getElem? (i := 8) rfl) rfl rfl rfl ?_
      refine n_iload C dX3_freeSetter_120 7 rfl rfl ?_
      obtain ⟨x122, h122, hf⟩ := bi hf
      obtain ⟨h122, e122⟩ := ald_some h122
      refine n_iald C dX3_freeSetter_122 3 0 rfl rfl h122 rfl ?_
      rw [← e122]
      refine n_iload C dX3_freeSetter_123 6 rfl rfl ?_
      refine n_icmp_ge (t := 141) C dX3_freeSetter_125 (by decide) rfl (fun h125 => ?_) (fun h125 => ?_)
      · have hf := ip h125 hf
        refine n_iinc (v := v6 + (nI 1)) (lv' := [(6, .int (v6 + (nI 1))), (9, .int s0), (0, .ref (aG 0)), (1, .ref (aL 0)), (2, .int x2), (3, .int v3), (4, .int v4), (5, .int v5), (8, .int v8)]) C dX3_freeSetter_141 (j := 7) rfl rfl (by decide) rfl rfl ?_
        refine n_goto (t := 23) C dX3_freeSetter_144 (by decide) ?_
        exact Wn.sub (lv' := [(0, .ref (aG 0)), (1, .ref (aL 0)), (2, .int x2), (3, .int v3), (4, .int v4), (5, .int v5), (6, .int (v6 + (nI 1)))]) [2, 3, 4, 5, 6, 7, 0] rfl (hk23 v3 v4 v5 (v6 + (nI 1)) hf)
      · have hf := iq h125 hf
        refine n_iload C dX3_freeSetter_128 7 rfl rfl ?_
        refine n_istore (lv' := [(4, .int v6), (9, .int s0), (0, .ref (aG 0)), (1, .ref (aL 0)), (2, .int x2), (3, .int v3), (5, .int v5), (6, .int v6), (8, .int v8)]) C dX3_freeSetter_130 (by decide) rfl rfl ?_
        refine n_aload_n C dX3_freeSetter_132 2 rfl rfl ?_
        refine n_get (N := 4) C dX3_freeSetter_133 iw3_freeSetter_X3 0 rfl rfl 2 (by decide) (List.mem_of_getElem? (i := 8) rfl) rfl rfl rfl ?_
        refine n_iload C dX3_freeSetter_136 7 rfl rfl ?_
        obtain ⟨x138, h138, hf⟩ := bi hf
        obtain ⟨h138, e138⟩ := ald_some h138
        refine n_iald C dX3_freeSetter_138 3 0 rfl rfl h138 rfl ?_
        rw [← e138]
        refine n_istore (lv' := [(5, .int x138), (4, .int v6), (9, .int s0), (0, .ref (aG 0)), (1, .ref (aL 0)), (2, .int x2), (3, .int v3), (6, .int v6), (8, .int v8)]) C dX3_freeSetter_139 (by decide) rfl rfl ?_
        refine n_iinc (v := v6 + (nI 1)) (lv' := [(6, .int (v6 + (nI 1))), (5, .int x138), (4, .int v6), (9, .int s0), (0, .ref (aG 0)), (1, .ref (aL 0)), (2, .int x2), (3, .int v3), (8, .int v8)]) C dX3_freeSetter_141 (j := 7) rfl rfl (by decide) rfl rfl ?_
        refine n_goto (t := 23) C dX3_freeSetter_144 (by decide) ?_
        exact Wn.sub (lv' := [(0, .ref (aG 0)), (1, .ref (aL 0)), (2, .int x2), (3, .int v3), (4, .int v6), (5, .int x138), (6, .int (v6 + (nI 1)))]) [4, 5, 6, 7, 2, 1, 0] rfl (hk23 v3 v6 x138 (v6 + (nI 1)) hf)
set_option maxHeartbeats 4000000 in
set_option maxRecDepth 100000 in
theorem t3_freeSetter_b77 {l : Launch} {p : Program} {e : Env} {s : State} {m : MethodId} {args : Array Value} {below : List Frame} {meth : Method} {c : Code} {D : va_G} {A : Nat → Prop} {cyI cyO cyJ : ClassId} {aG : Nat → Nat} {aL : Nat → Nat} (C : Cx p s m args meth c D (tyG cyI cyO cyJ) A RX3 cX3_freeSetter 10 (some .int) wsX3_freeSetter) {z : Int32} (n : Nat) (oG : OB) (oL : OB) (x2 : Int32) {k23 : Int32 → Int32 → Int32 → Int32 → Option (Int32)} (hk23 : ∀ (v3 : Int32) (v4 : Int32) (v5 : Int32) (v6 : Int32), k23 v3 v4 v5 v6 = some z → Wn p l e rm3_freeSetter s m args below meth c D A 10 0 0 (MQ below (Qr D (tyG cyI cyO cyJ) (bX3 cyI aG oG ++ bX1 cyI aL oL) A (some (.int z))) args s 0 0 A) (bX3 cyI aG oG ++ bX1 cyI aL oL) 23 [(0, .ref (aG 0)), (1, .ref (aL 0)), (2, .int x2), (3, .int v3), (4, .int v4), (5, .int v5), (6, .int v6)] []) (v3 : Int32) (v4 : Int32) (v5 : Int32) (v6 : Int32) (s0 : Int32) (hf : f3_freeSetter_b77 n oG oL x2 k23 v3 v4 v5 v6 s0 = some z) : Wn p l e rm3_freeSetter s m args below meth c D A 10 0 0 (MQ below (Qr D (tyG cyI cyO cyJ) (bX3 cyI aG oG ++ bX1 cyI aL oL) A (some (.int z))) args s 0 0 A) (bX3 cyI aG oG ++ bX1 cyI aL oL) 77 [(0, .ref (aG 0)), (1, .ref (aL 0)), (2, .int x2), (3, .int v3), (4, .int v4), (5, .int v5), (6, .int v6)] [.int s0] := by
  unfold f3_freeSetter_b77 at hf
  refine n_istore (lv' := [(8, .int s0), (0, .ref (aG 0)), (1, .ref (aL 0)), (2, .int x2), (3, .int v3), (4, .int v4), (5, .int v5), (6, .int v6)]) C dX3_freeSetter_77 (by decide) rfl rfl ?_
  refine n_aload_n C dX3_freeSetter_79 2 rfl rfl ?_
  refine n_get (N := 15) C dX3_freeSetter_80 iw3_freeSetter_X1 5 rfl rfl 5 (by decide) (List.mem_of_getElem? (i := 6) rfl) rfl rfl rfl ?_
  refine n_iload C dX3_freeSetter_83 7 rfl rfl ?_
  obtain ⟨x85, h85, hf⟩ := bi hf
  obtain ⟨h85, e85⟩ := ald_some h85
  refine n_iald C dX3_freeSetter_85 8 0 rfl rfl h85 rfl ?_
  rw [← e85]
  refine n_aload_n C dX3_freeSetter_86 1 rfl rfl ?_
  refine n_get (N := 4) C dX3_freeSetter_87 iw3_freeSetter_X3 0 rfl rfl 3 (by decide) (List.mem_of_getElem? (i := 7) rfl) rfl rfl rfl ?_
  refine n_iload C dX3_freeSetter_90 7 rfl rfl ?_
  obtain ⟨x92, h92, hf⟩ := bi hf
  obtain ⟨h92, e92⟩ := ald_some h92
  refine n_iald C dX3_freeSetter_92 4 0 rfl rfl h92 rfl ?_
  rw [← e92]
  refine n_ior C dX3_freeSetter_93 rfl ?_
  refine n_iload_n C dX3_freeSetter_94 4 rfl rfl ?_
  refine n_iand C dX3_freeSetter_95 rfl ?_
  refine n_if_ne (t := 103) C dX3_freeSetter_96 (by decide) rfl (fun h96 => ?_) (fun h96 => ?_)
  · have hf := iq h96 hf
    refine n_iconst (v := (nI 0)) C dX3_freeSetter_103 (by decide) rfl ?_
    exact Wn.sub (lv' := [(0, .ref (aG 0)), (1, .ref (aL 0)), (2, .int x2), (3, .int v3), (4, .int v4), (5, .int v5), (6, .int v6), (8, .int s0)]) [1, 2, 3, 4, 5, 6, 7, 0] rfl (t3_freeSetter_b104 C n oG oL x2 hk23 v3 v4 v5 v6 s0 (nI 0) hf)
  · have hf := ip h96 hf
    refine n_iconst (v := (nI 1)) C dX3_freeSetter_99 (by decide) rfl ?_
    refine n_goto (t := 104) C dX3_freeSetter_100 (by decide) ?_
    exact Wn.sub (lv' := [(0, .ref (aG 0)), (1, .ref (aL 0)), (2, .int x2), (3, .int v3), (4, .int v4), (5, .int v5), (6, .int v6), (8, .int s0)]) [1, 2, 3, 4, 5, 6, 7, 0] rfl (t3_freeSetter_b104 C n oG oL x2 hk23 v3 v4 v5 v6 s0 (nI 1) hf)
set_option maxHeartbeats 4000000 in
set_option maxRecDepth 100000 in
theorem t3_freeSetter_b48 {l : Launch} {p : Program} {e : Env} {s : State} {m : MethodId} {args : Array Value} {below : List Frame} {meth : Method} {c : Code} {D : va_G} {A : Nat → Prop} {cyI cyO cyJ : ClassId} {aG : Nat → Nat} {aL : Nat → Nat} (C : Cx p s m args meth c D (tyG cyI cyO cyJ) A RX3 cX3_freeSetter 10 (some .int) wsX3_freeSetter) {z : Int32} (n : Nat) (oG : OB) (oL : OB) (x2 : Int32) {k23 : Int32 → Int32 → Int32 → Int32 → Option (Int32)} (hk23 : ∀ (v3 : Int32) (v4 : Int32) (v5 : Int32) (v6 : Int32), k23 v3 v4 v5 v6 = some z → Wn p l e rm3_freeSetter s m args below meth c D A 10 0 0 (MQ below (Qr D (tyG cyI cyO cyJ) (bX3 cyI aG oG ++ bX1 cyI aL oL) A (some (.int z))) args s 0 0 A) (bX3 cyI aG oG ++ bX1 cyI aL oL) 23 [(0, .ref (aG 0)), (1, .ref (aL 0)), (2, .int x2), (3, .int v3), (4, .int v4), (5, .int v5), (6, .int v6)] []) (v3 : Int32) (v4 : Int32) (v5 : Int32) (v6 : Int32) (s0 : Int32) (hf : f3_freeSetter_b48 n oG oL x2 k23 v3 v4 v5 v6 s0 = some z) : Wn p l e rm3_freeSetter s m args below meth c D A 10 0 0 (MQ below (Qr D (tyG cyI cyO cyJ) (bX3 cyI aG oG ++ bX1 cyI aL oL) A (some (.int z))) args s 0 0 A) (bX3 cyI aG oG ++ bX1 cyI aL oL) 48 [(0, .ref (aG 0)), (1, .ref (aL 0)), (2, .int x2), (3, .int v3), (4, .int v4), (5, .int v5), (6, .int v6)] [.int s0] := by
  unfold f3_freeSetter_b48 at hf
  refine n_istore (lv' := [(7, .int s0), (0, .ref (aG 0)), (1, .ref (aL 0)), (2, .int x2), (3, .int v3), (4, .int v4), (5, .int v5), (6, .int v6)]) C dX3_freeSetter_48 (by decide) rfl rfl ?_
  refine n_iload C dX3_freeSetter_50 0 rfl rfl ?_
  refine n_aload_n C dX3_freeSetter_52 2 rfl rfl ?_
  refine n_get (N := 15) C dX3_freeSetter_53 iw3_freeSetter_X1 5 rfl rfl 7 (by decide) (List.mem_of_getElem? (i := 4) rfl) rfl rfl rfl ?_
  refine n_iload_n C dX3_freeSetter_56 3 rfl rfl ?_
  obtain ⟨x57, h57, hf⟩ := bi hf
  obtain ⟨h57, e57⟩ := ald_some h57
  refine n_iald C dX3_freeSetter_57 10 0 rfl rfl h57 rfl ?_
  rw [← e57]
  refine n_icmp_eq (t := 76) C dX3_freeSetter_58 (by decide) rfl (fun h58 => ?_) (fun h58 => ?_)
  · have hf := ip h58 hf
    refine n_iconst (v := (nI 0)) C dX3_freeSetter_76 (by decide) rfl ?_
    exact Wn.sub (lv' := [(0, .ref (aG 0)), (1, .ref (aL 0)), (2, .int x2), (3, .int v3), (4, .int v4), (5, .int v5), (6, .int v6)]) [1, 2, 3, 4, 5, 6, 7] rfl (t3_freeSetter_b77 C n oG oL x2 hk23 v3 v4 v5 v6 (nI 0) hf)
  · have hf := iq h58 hf
    refine n_iload C dX3_freeSetter_61 0 rfl rfl ?_
    refine n_aload_n C dX3_freeSetter_63 2 rfl rfl ?_
    refine n_get (N := 15) C dX3_freeSetter_64 iw3_freeSetter_X1 5 rfl rfl 8 (by decide) (List.mem_of_getElem? (i := 5) rfl) rfl rfl rfl ?_
    refine n_iload_n C dX3_freeSetter_67 3 rfl rfl ?_
    obtain ⟨x68, h68, hf⟩ := bi hf
    obtain ⟨h68, e68⟩ := ald_some h68
    refine n_iald C dX3_freeSetter_68 11 0 rfl rfl h68 rfl ?_
    rw [← e68]
    refine n_icmp_eq (t := 76) C dX3_freeSetter_69 (by decide) rfl (fun h69 => ?_) (fun h69 => ?_)
    · have hf := ip h69 hf
      refine n_iconst (v := (nI 0)) C dX3_freeSetter_76 (by decide) rfl ?_
      exact Wn.sub (lv' := [(0, .ref (aG 0)), (1, .ref (aL 0)), (2, .int x2), (3, .int v3), (4, .int v4), (5, .int v5), (6, .int v6)]) [1, 2, 3, 4, 5, 6, 7] rfl (t3_freeSetter_b77 C n oG oL x2 hk23 v3 v4 v5 v6 (nI 0) hf)
    · have hf := iq h69 hf
      refine n_iconst (v := (nI 1)) C dX3_freeSetter_72 (by decide) rfl ?_
      refine n_goto (t := 77) C dX3_freeSetter_73 (by decide) ?_
      exact Wn.sub (lv' := [(0, .ref (aG 0)), (1, .ref (aL 0)), (2, .int x2), (3, .int v3), (4, .int v4), (5, .int v5), (6, .int v6)]) [1, 2, 3, 4, 5, 6, 7] rfl (t3_freeSetter_b77 C n oG oL x2 hk23 v3 v4 v5 v6 (nI 1) hf)
set_option maxHeartbeats 4000000 in
set_option maxRecDepth 100000 in
theorem t3_freeSetter_b23 {l : Launch} {p : Program} {e : Env} {s : State} {m : MethodId} {args : Array Value} {below : List Frame} {meth : Method} {c : Code} {D : va_G} {A : Nat → Prop} {cyI cyO cyJ : ClassId} {aG : Nat → Nat} {aL : Nat → Nat} (C : Cx p s m args meth c D (tyG cyI cyO cyJ) A RX3 cX3_freeSetter 10 (some .int) wsX3_freeSetter) {z : Int32} (n : Nat) (oG : OB) (oL : OB) (x2 : Int32) : ∀ (k : Nat) (v3 : Int32) (v4 : Int32) (v5 : Int32) (v6 : Int32), f3_freeSetter_b23 n oG oL x2 k v3 v4 v5 v6 = some z → Wn p l e rm3_freeSetter s m args below meth c D A 10 0 0 (MQ below (Qr D (tyG cyI cyO cyJ) (bX3 cyI aG oG ++ bX1 cyI aL oL) A (some (.int z))) args s 0 0 A) (bX3 cyI aG oG ++ bX1 cyI aL oL) 23 [(0, .ref (aG 0)), (1, .ref (aL 0)), (2, .int x2), (3, .int v3), (4, .int v4), (5, .int v5), (6, .int v6)] [] := by
  intro k
  induction k with
  | zero => intro  v3 v4 v5 v6 hf; cases hf
  | succ k ih =>
    intro  v3 v4 v5 v6 hf
    unfold f3_freeSetter_b23 at hf
    refine n_iload C dX3_freeSetter_23 6 rfl rfl ?_
    refine n_bipush (v := (nI 6)) C dX3_freeSetter_25 (by decide) rfl ?_
    refine n_icmp_ge (t := 147) C dX3_freeSetter_27 (by decide) rfl (fun h27 => ?_) (fun h27 => ?_)
    · have hf := ip h27 hf
      refine n_iload C dX3_freeSetter_147 4 rfl rfl ?_
      obtain rfl := Option.some.inj hf
      exact n_iret C dX3_freeSetter_149
    · have hf := iq h27 hf
      refine n_aload_n C dX3_freeSetter_30 1 rfl rfl ?_
      refine n_get (N := 15) C dX3_freeSetter_31 iw3_freeSetter_X1 5 rfl rfl 0 (by decide) (List.mem_of_getElem? (i := 3) rfl) rfl rfl rfl ?_
      refine n_if_le (t := 47) C dX3_freeSetter_34 (by decide) rfl (fun h34 => ?_) (fun h34 => ?_)
      · have hf := ip h34 hf
        refine n_iconst (v := (-1 : Int32)) C dX3_freeSetter_47 (by decide) rfl ?_
        exact Wn.sub (lv' := [(0, .ref (aG 0)), (1, .ref (aL 0)), (2, .int x2), (3, .int v3), (4, .int v4), (5, .int v5), (6, .int v6)]) [0, 1, 2, 3, 4, 5, 6] rfl (t3_freeSetter_b48 C n oG oL x2 ih v3 v4 v5 v6 (-1 : Int32) hf)
      · have hf := iq h34 hf
        refine n_iload C dX3_freeSetter_37 6 rfl rfl ?_
        refine n_aload_n C dX3_freeSetter_39 1 rfl rfl ?_
        refine n_get (N := 15) C dX3_freeSetter_40 iw3_freeSetter_X1 5 rfl rfl 0 (by decide) (List.mem_of_getElem? (i := 3) rfl) rfl rfl rfl ?_
        obtain ⟨u43, h43, hf⟩ := bi hf
        refine n_irem C dX3_freeSetter_43 (nz_some h43) rfl ?_
        refine n_goto (t := 48) C dX3_freeSetter_44 (by decide) ?_
        exact Wn.sub (lv' := [(0, .ref (aG 0)), (1, .ref (aL 0)), (2, .int x2), (3, .int v3), (4, .int v4), (5, .int v5), (6, .int v6)]) [0, 1, 2, 3, 4, 5, 6] rfl (t3_freeSetter_b48 C n oG oL x2 ih v3 v4 v5 v6 (v6 - v6 / (oL.1 0) * (oL.1 0)) hf)
set_option maxHeartbeats 4000000 in
set_option maxRecDepth 100000 in
theorem c3_freeSetter (l : Launch) (D : va_G) (cyI cyO cyJ : ClassId) (aG : Nat → Nat) (aL : Nat → Nat) (n : Nat) (oG : OB) (oL : OB) (x2 : Int32) (z : Int32) (hf : f3_freeSetter n oG oL x2 = some z) : Ct l D (tyG cyI cyO cyJ) yX3_freeSetter wsX3_freeSetter rm3_freeSetter 0 0 [.ref (aG 0), .ref (aL 0), .int x2] (bX3 cyI aG oG ++ bX1 cyI aL oL) (bX3 cyI aG oG ++ bX1 cyI aL oL) (some (.int z)) := by
  refine Ct.of (cc := cX3_freeSetter) (nL := 10) (ret := (some .int)) (lv := [(0, .ref (aG 0)), (1, .ref (aL 0)), (2, .int x2)]) (by decide +kernel) rfl rfl (Nat.le_of_ble_eq_true rfl) ?_
  intro p e s m args below meth c A C
  have C : Cx p s m args meth c D (tyG cyI cyO cyJ) A RX3 cX3_freeSetter 10 (some .int) wsX3_freeSetter := C
  unfold f3_freeSetter at hf
  refine n_iconst (v := (nI 1)) C dX3_freeSetter_0 (by decide) rfl ?_
  refine n_aload_n C dX3_freeSetter_1 1 rfl rfl ?_
  refine n_get (N := 15) C dX3_freeSetter_2 iw3_freeSetter_X1 5 rfl rfl 6 (by decide) (List.mem_of_getElem? (i := 1) rfl) rfl rfl rfl ?_
  refine n_iload_n C dX3_freeSetter_5 2 rfl rfl ?_
  obtain ⟨x6, h6, hf⟩ := bi hf
  obtain ⟨h6, e6⟩ := ald_some h6
  refine n_iald C dX3_freeSetter_6 9 0 rfl rfl h6 rfl ?_
  rw [← e6]
  refine n_ishl C dX3_freeSetter_7 rfl ?_
  refine n_istore_n (lv' := [(3, .int ((nI 1) <<< (x6 &&& 31))), (0, .ref (aG 0)), (1, .ref (aL 0)), (2, .int x2)]) C dX3_freeSetter_8 (by decide) rfl rfl ?_
  refine n_iconst (v := (-1 : Int32)) C dX3_freeSetter_9 (by decide) rfl ?_
  refine n_istore (lv' := [(4, .int (-1 : Int32)), (3, .int ((nI 1) <<< (x6 &&& 31))), (0, .ref (aG 0)), (1, .ref (aL 0)), (2, .int x2)]) C dX3_freeSetter_10 (by decide) rfl rfl ?_
  refine n_aload_n C dX3_freeSetter_12 3 rfl rfl ?_
  refine n_get (N := 15) C dX3_freeSetter_13 iw3_freeSetter_X1 5 rfl rfl 3 (by decide) (List.mem_of_getElem? (i := 2) rfl) rfl rfl rfl ?_
  refine n_iconst (v := (nI 3)) C dX3_freeSetter_16 (by decide) rfl ?_
  obtain ⟨x17, h17, hf⟩ := bi hf
  obtain ⟨h17, e17⟩ := ald_some h17
  refine n_iald C dX3_freeSetter_17 6 0 rfl rfl h17 rfl ?_
  rw [← e17]
  refine n_istore (lv' := [(5, .int x17), (4, .int (-1 : Int32)), (3, .int ((nI 1) <<< (x6 &&& 31))), (0, .ref (aG 0)), (1, .ref (aL 0)), (2, .int x2)]) C dX3_freeSetter_18 (by decide) rfl rfl ?_
  refine n_iconst (v := (nI 0)) C dX3_freeSetter_20 (by decide) rfl ?_
  refine n_istore (lv' := [(6, .int (nI 0)), (5, .int x17), (4, .int (-1 : Int32)), (3, .int ((nI 1) <<< (x6 &&& 31))), (0, .ref (aG 0)), (1, .ref (aL 0)), (2, .int x2)]) C dX3_freeSetter_21 (by decide) rfl rfl ?_
  exact Wn.sub (lv' := [(0, .ref (aG 0)), (1, .ref (aL 0)), (2, .int x2), (3, .int ((nI 1) <<< (x6 &&& 31))), (4, .int (-1 : Int32)), (5, .int x17), (6, .int (nI 0))]) [4, 5, 6, 3, 2, 1, 0] rfl (t3_freeSetter_b23 C n oG oL x2 n ((nI 1) <<< (x6 &&& 31)) (-1 : Int32) x17 (nI 0) hf)
-- X3 assignOne 
theorem iw3_assignOne_X1 : ∀ w ∈ u_ws RX1 TX1 15, w ∈ wsX3_assignOne := by decide +kernel
abbrev rm3_assignOne : Room := { frames := 1, cells := 0, slots := 0, locals := 30 }
def f3_assignOne (n : Nat) (oG : OB) (oL : OB) (x2 : Int32) : Option (Int32 × (OB) × (OB)) :=
  (f3_freeVenue n oG oL x2).bind fun z3 => (if z3 = (-1 : Int32) then (oast oL 11 28 x2 (nI 1)).bind fun oL_18 => some ((nI 0), oG, oL_18) else (f3_freeSetter n oG oL x2).bind fun z24 => (if z24 = (-1 : Int32) then (oast oL 11 28 x2 (nI 2)).bind fun oL_41 => some ((nI 0), oG, oL_41) else (oast oL 9 28 x2 z3).bind fun oL_50 => (oast oL_50 10 28 x2 z24).bind fun oL_58 => (oast oL_58 11 28 x2 (nI 0)).bind fun oL_65 => (ald 28 (oL_65.2 6) x2).bind fun x75 => (f3_load n oG z3 z24 x75).bind fun z76 => some ((nI 1), z76, oL_65)))
set_option maxHeartbeats 4000000 in
set_option maxRecDepth 100000 in
theorem c3_assignOne (l : Launch) (D : va_G) (cyI cyO cyJ : ClassId) (aG : Nat → Nat) (aL : Nat → Nat) (n : Nat) (oG : OB) (oL : OB) (x2 : Int32) (z : Int32 × (OB) × (OB)) (hf : f3_assignOne n oG oL x2 = some z) : Ct l D (tyG cyI cyO cyJ) yX3_assignOne wsX3_assignOne rm3_assignOne 0 0 [.ref (aG 0), .ref (aL 0), .int x2] (bX3 cyI aG oG ++ bX1 cyI aL oL) (bX3 cyI aG z.2.1 ++ bX1 cyI aL z.2.2) (some (.int z.1)) := by
  refine Ct.of (cc := cX3_assignOne) (nL := 5) (ret := (some .boolean)) (lv := [(0, .ref (aG 0)), (1, .ref (aL 0)), (2, .int x2)]) (by decide +kernel) rfl rfl (Nat.le_of_ble_eq_true rfl) ?_
  intro p e s m args below meth c A C
  have C : Cx p s m args meth c D (tyG cyI cyO cyJ) A RX3 cX3_assignOne 5 (some .boolean) wsX3_assignOne := C
  unfold f3_assignOne at hf
  refine n_aload_n C dX3_assignOne_0 0 rfl rfl ?_
  refine n_aload_n C dX3_assignOne_1 1 rfl rfl ?_
  refine n_iload_n C dX3_assignOne_2 2 rfl rfl ?_
  obtain ⟨z3, h3, hf⟩ := bi hf
  refine n_callV (As := [.ref (aL 0), .int x2]) (rest := []) (w2 := bX3 cyI aG oG ++ bX1 cyI aL oL) C dX3_assignOne_3 (c3_freeVenue l D cyI cyO cyJ aG aL n oG oL x2 z3 h3) (cwV 2 C.ts gX3_assignOne_X3_freeVenue rfl rfl rfl (by decide +kernel) ⟨Nat.le_of_ble_eq_true rfl, Nat.le_of_ble_eq_true rfl⟩) rfl (q0 := 0) (ci := 3) rfl rfl Frm.self rfl (Nat.le_of_ble_eq_true rfl) ⟨Nat.le_of_ble_eq_true rfl, Nat.le_of_ble_eq_true rfl⟩ rfl ?_
  refine n_istore_n (lv' := [(3, .int z3), (0, .ref (aG 0)), (1, .ref (aL 0)), (2, .int x2)]) C dX3_assignOne_6 (by decide) rfl rfl ?_
  refine n_iload_n C dX3_assignOne_7 0 rfl rfl ?_
  refine n_iconst (v := (-1 : Int32)) C dX3_assignOne_8 (by decide) rfl ?_
  refine n_icmp_ne (t := 21) C dX3_assignOne_9 (by decide) rfl (fun h9 => ?_) (fun h9 => ?_)
  · have hf := iq h9 hf
    refine n_aload_n C dX3_assignOne_21 1 rfl rfl ?_
    refine n_aload_n C dX3_assignOne_22 2 rfl rfl ?_
    refine n_iload_n C dX3_assignOne_23 3 rfl rfl ?_
    obtain ⟨z24, h24, hf⟩ := bi hf
    refine n_callV (As := [.ref (aL 0), .int x2]) (rest := []) (w2 := bX3 cyI aG oG ++ bX1 cyI aL oL) C dX3_assignOne_24 (c3_freeSetter l D cyI cyO cyJ aG aL n oG oL x2 z24 h24) (cwV 2 C.ts gX3_assignOne_X3_freeSetter rfl rfl rfl (by decide +kernel) ⟨Nat.le_of_ble_eq_true rfl, Nat.le_of_ble_eq_true rfl⟩) rfl (q0 := 0) (ci := 3) rfl rfl Frm.self rfl (Nat.le_of_ble_eq_true rfl) ⟨Nat.le_of_ble_eq_true rfl, Nat.le_of_ble_eq_true rfl⟩ rfl ?_
    refine n_istore (lv' := [(4, .int z24), (3, .int z3), (0, .ref (aG 0)), (1, .ref (aL 0)), (2, .int x2)]) C dX3_assignOne_27 (by decide) rfl rfl ?_
    refine n_iload C dX3_assignOne_29 0 rfl rfl ?_
    refine n_iconst (v := (-1 : Int32)) C dX3_assignOne_31 (by decide) rfl ?_
    refine n_icmp_ne (t := 44) C dX3_assignOne_32 (by decide) rfl (fun h32 => ?_) (fun h32 => ?_)
    · have hf := iq h32 hf
      refine n_aload_n C dX3_assignOne_44 3 rfl rfl ?_
      refine n_get (N := 15) C dX3_assignOne_45 iw3_assignOne_X1 5 rfl rfl 9 (by decide) (List.mem_of_getElem? (i := 2) rfl) rfl rfl rfl ?_
      refine n_iload_n C dX3_assignOne_48 4 rfl rfl ?_
      refine n_iload_n C dX3_assignOne_49 1 rfl rfl ?_
      obtain ⟨oL_50, h50, hf⟩ := bi hf
      obtain ⟨h50, e50⟩ := oast_some h50
      refine n_iast (w2 := bX3 cyI aG oG ++ bX1 cyI aL oL_50) C dX3_assignOne_50 12 0 rfl rfl h50 (by subst e50; rfl) rfl ?_
      refine n_aload_n C dX3_assignOne_51 3 rfl rfl ?_
      refine n_get (N := 15) C dX3_assignOne_52 iw3_assignOne_X1 5 rfl rfl 10 (by decide) (List.mem_of_getElem? (i := 3) rfl) rfl rfl rfl ?_
      refine n_iload_n C dX3_assignOne_55 4 rfl rfl ?_
      refine n_iload C dX3_assignOne_56 0 rfl rfl ?_
      obtain ⟨oL_58, h58, hf⟩ := bi hf
      obtain ⟨h58, e58⟩ := oast_some h58
      refine n_iast (w2 := bX3 cyI aG oG ++ bX1 cyI aL oL_58) C dX3_assignOne_58 13 0 rfl rfl h58 (by subst e58; rfl) rfl ?_
      refine n_aload_n C dX3_assignOne_59 3 rfl rfl ?_
      refine n_get (N := 15) C dX3_assignOne_60 iw3_assignOne_X1 5 rfl rfl 11 (by decide) (List.mem_of_getElem? (i := 1) rfl) rfl rfl rfl ?_
      refine n_iload_n C dX3_assignOne_63 4 rfl rfl ?_
      refine n_iconst (v := (nI 0)) C dX3_assignOne_64 (by decide) rfl ?_
      obtain ⟨oL_65, h65, hf⟩ := bi hf
      obtain ⟨h65, e65⟩ := oast_some h65
      refine n_iast (w2 := bX3 cyI aG oG ++ bX1 cyI aL oL_65) C dX3_assignOne_65 14 0 rfl rfl h65 (by subst e65; rfl) rfl ?_
      refine n_aload_n C dX3_assignOne_66 2 rfl rfl ?_
      refine n_iload_n C dX3_assignOne_67 1 rfl rfl ?_
      refine n_iload C dX3_assignOne_68 0 rfl rfl ?_
      refine n_aload_n C dX3_assignOne_70 3 rfl rfl ?_
      refine n_get (N := 15) C dX3_assignOne_71 iw3_assignOne_X1 5 rfl rfl 6 (by decide) (List.mem_of_getElem? (i := 4) rfl) rfl rfl rfl ?_
      refine n_iload_n C dX3_assignOne_74 4 rfl rfl ?_
      obtain ⟨x75, h75, hf⟩ := bi hf
      obtain ⟨h75, e75⟩ := ald_some h75
      refine n_iald C dX3_assignOne_75 9 0 rfl rfl h75 rfl ?_
      rw [← e75]
      obtain ⟨z76, h76, hf⟩ := bi hf
      refine n_callV (As := [.int z3, .int z24, .int x75]) (rest := []) (w2 := bX3 cyI aG z76 ++ bX1 cyI aL oL_65) C dX3_assignOne_76 (c3_load l D cyI cyO cyJ aG n oG z3 z24 x75 z76 h76) (cwV 3 C.ts gX3_assignOne_X3_load rfl rfl rfl (by decide +kernel) ⟨Nat.le_of_ble_eq_true rfl, Nat.le_of_ble_eq_true rfl⟩) rfl (q0 := 0) (ci := 3) rfl rfl Frm.here rfl (Nat.le_of_ble_eq_true rfl) ⟨Nat.le_of_ble_eq_true rfl, Nat.le_of_ble_eq_true rfl⟩ rfl ?_
      refine n_iconst (v := (nI 1)) C dX3_assignOne_79 (by decide) rfl ?_
      obtain rfl := Option.some.inj hf
      exact n_zret C dX3_assignOne_80 (Or.inr rfl)
    · have hf := ip h32 hf
      refine n_aload_n C dX3_assignOne_35 3 rfl rfl ?_
      refine n_get (N := 15) C dX3_assignOne_36 iw3_assignOne_X1 5 rfl rfl 11 (by decide) (List.mem_of_getElem? (i := 1) rfl) rfl rfl rfl ?_
      refine n_iload_n C dX3_assignOne_39 4 rfl rfl ?_
      refine n_iconst (v := (nI 2)) C dX3_assignOne_40 (by decide) rfl ?_
      obtain ⟨oL_41, h41, hf⟩ := bi hf
      obtain ⟨h41, e41⟩ := oast_some h41
      refine n_iast (w2 := bX3 cyI aG oG ++ bX1 cyI aL oL_41) C dX3_assignOne_41 14 0 rfl rfl h41 (by subst e41; rfl) rfl ?_
      refine n_iconst (v := (nI 0)) C dX3_assignOne_42 (by decide) rfl ?_
      obtain rfl := Option.some.inj hf
      exact n_zret C dX3_assignOne_43 (Or.inl rfl)
  · have hf := ip h9 hf
    refine n_aload_n C dX3_assignOne_12 2 rfl rfl ?_
    refine n_get (N := 15) C dX3_assignOne_13 iw3_assignOne_X1 5 rfl rfl 11 (by decide) (List.mem_of_getElem? (i := 1) rfl) rfl rfl rfl ?_
    refine n_iload_n C dX3_assignOne_16 3 rfl rfl ?_
    refine n_iconst (v := (nI 1)) C dX3_assignOne_17 (by decide) rfl ?_
    obtain ⟨oL_18, h18, hf⟩ := bi hf
    obtain ⟨h18, e18⟩ := oast_some h18
    refine n_iast (w2 := bX3 cyI aG oG ++ bX1 cyI aL oL_18) C dX3_assignOne_18 14 0 rfl rfl h18 (by subst e18; rfl) rfl ?_
    refine n_iconst (v := (nI 0)) C dX3_assignOne_19 (by decide) rfl ?_
    obtain rfl := Option.some.inj hf
    exact n_zret C dX3_assignOne_20 (Or.inl rfl)
-- X3 assign 
theorem iw3_assign_X1 : ∀ w ∈ u_ws RX1 TX1 15, w ∈ wsX3_assign := by decide +kernel
abbrev rm3_assign : Room := { frames := 2, cells := 0, slots := 0, locals := 54 }
def f3_assign_b72 (n : Nat) : Nat → Int32 → Int32 → OB → OB → Option (Int32 × (OB) × (OB))
  | 0, _, _, _, _ => none
  | k + 1, v2, v3, oG, oL =>
    (if (oL.1 2) ≤ v3 then some (v2, oG, oL) else (ald 28 (oL.2 12) v3).bind fun x85 => (if x85 = (0 : Int32) then (f3_assignOne n oG oL v3).bind fun z92 => (if z92.1 = (0 : Int32) then (f3_assign_b72 n k) v2 (v3 + (nI 1)) z92.2.1 z92.2.2 else (f3_assign_b72 n k) (v2 + (nI 1)) (v3 + (nI 1)) z92.2.1 z92.2.2) else (f3_assign_b72 n k) v2 (v3 + (nI 1)) oG oL))
def f3_assign_b68 (n : Nat) (oG : OB) (oL : OB) : Option (Int32 × (OB) × (OB)) :=
  f3_assign_b72 n n (nI 0) (nI 0) oG oL
def f3_assign_b6 (n : Nat) (k68 : OB → OB → Option (Int32 × (OB) × (OB))) : Nat → Int32 → OB → OB → Option (Int32 × (OB) × (OB))
  | 0, _, _, _ => none
  | k + 1, v2, oG, oL =>
    (if (oL.1 2) ≤ v2 then k68 oG oL else (ald 28 (oL.2 12) v2).bind fun x19 => (if x19 = (0 : Int32) then (oast oL 9 28 v2 (-1 : Int32)).bind fun oL_29 => (oast oL_29 10 28 v2 (-1 : Int32)).bind fun oL_36 => (f3_assign_b6 n k68 k) (v2 + (nI 1)) oG oL_36 else (ald 28 (oL.2 9) v2).bind fun x46 => (ald 28 (oL.2 10) v2).bind fun x52 => (ald 28 (oL.2 6) v2).bind fun x58 => (f3_load n oG x46 x52 x58).bind fun z59 => (f3_assign_b6 n k68 k) (v2 + (nI 1)) z59 oL))
def f3_assign (n : Nat) (oG : OB) (oL : OB) : Option (Int32 × (OB) × (OB)) :=
  (f3_forgetLoads n oG).bind fun z1 => f3_assign_b6 n (fun oG oL => f3_assign_b68 n oG oL) n (nI 0) z1 oL
set_option maxHeartbeats 4000000 in
set_option maxRecDepth 100000 in
theorem t3_assign_b72 {l : Launch} {p : Program} {e : Env} {s : State} {m : MethodId} {args : Array Value} {below : List Frame} {meth : Method} {c : Code} {D : va_G} {A : Nat → Prop} {cyI cyO cyJ : ClassId} {aG : Nat → Nat} {aL : Nat → Nat} (C : Cx p s m args meth c D (tyG cyI cyO cyJ) A RX3 cX3_assign 4 (some .int) wsX3_assign) {z : Int32 × (OB) × (OB)} (n : Nat) : ∀ (k : Nat) (v2 : Int32) (v3 : Int32) (oG : OB) (oL : OB), f3_assign_b72 n k v2 v3 oG oL = some z → Wn p l e rm3_assign s m args below meth c D A 4 0 0 (MQ below (Qr D (tyG cyI cyO cyJ) (bX3 cyI aG z.2.1 ++ bX1 cyI aL z.2.2) A (some (.int z.1))) args s 0 0 A) (bX3 cyI aG oG ++ bX1 cyI aL oL) 72 [(0, .ref (aG 0)), (1, .ref (aL 0)), (2, .int v2), (3, .int v3)] [] := by
  intro k
  induction k with
  | zero => intro  v2 v3 oG oL hf; cases hf
  | succ k ih =>
    intro  v2 v3 oG oL hf
    unfold f3_assign_b72 at hf
    refine n_iload_n C dX3_assign_72 3 rfl rfl ?_
    refine n_aload_n C dX3_assign_73 1 rfl rfl ?_
    refine n_get (N := 15) C dX3_assign_74 iw3_assign_X1 5 rfl rfl 2 (by decide) (List.mem_of_getElem? (i := 1) rfl) rfl rfl rfl ?_
    refine n_icmp_ge (t := 107) C dX3_assign_77 (by decide) rfl (fun h77 => ?_) (fun h77 => ?_)
    · have hf := ip h77 hf
      refine n_iload_n C dX3_assign_107 2 rfl rfl ?_
      obtain rfl := Option.some.inj hf
      exact n_iret C dX3_assign_108
    · have hf := iq h77 hf
      refine n_aload_n C dX3_assign_80 1 rfl rfl ?_
      refine n_get (N := 15) C dX3_assign_81 iw3_assign_X1 5 rfl rfl 12 (by decide) (List.mem_of_getElem? (i := 2) rfl) rfl rfl rfl ?_
      refine n_iload_n C dX3_assign_84 3 rfl rfl ?_
      obtain ⟨x85, h85, hf⟩ := bi hf
      obtain ⟨h85, e85⟩ := ald_some h85
      refine n_iald C dX3_assign_85 15 0 rfl rfl h85 rfl ?_
      rw [← e85]
      refine n_if_ne (t := 101) C dX3_assign_86 (by decide) rfl (fun h86 => ?_) (fun h86 => ?_)
      · have hf := iq h86 hf
        refine n_iinc (v := v3 + (nI 1)) (lv' := [(3, .int (v3 + (nI 1))), (0, .ref (aG 0)), (1, .ref (aL 0)), (2, .int v2)]) C dX3_assign_101 (j := 3) rfl rfl (by decide) rfl rfl ?_
        refine n_goto (t := 72) C dX3_assign_104 (by decide) ?_
        exact Wn.sub (lv' := [(0, .ref (aG 0)), (1, .ref (aL 0)), (2, .int v2), (3, .int (v3 + (nI 1)))]) [1, 2, 3, 0] rfl (ih v2 (v3 + (nI 1)) oG oL hf)
      · have hf := ip h86 hf
        refine n_aload_n C dX3_assign_89 0 rfl rfl ?_
        refine n_aload_n C dX3_assign_90 1 rfl rfl ?_
        refine n_iload_n C dX3_assign_91 3 rfl rfl ?_
        obtain ⟨z92, h92, hf⟩ := bi hf
        refine n_callV (As := [.ref (aL 0), .int v3]) (rest := []) (w2 := bX3 cyI aG z92.2.1 ++ bX1 cyI aL z92.2.2) C dX3_assign_92 (c3_assignOne l D cyI cyO cyJ aG aL n oG oL v3 z92 h92) (cwV 2 C.ts gX3_assign_X3_assignOne rfl rfl rfl (by decide +kernel) ⟨Nat.le_of_ble_eq_true rfl, Nat.le_of_ble_eq_true rfl⟩) rfl (q0 := 0) (ci := 3) rfl rfl Frm.self rfl (Nat.le_of_ble_eq_true rfl) ⟨Nat.le_of_ble_eq_true rfl, Nat.le_of_ble_eq_true rfl⟩ rfl ?_
        refine n_if_eq (t := 101) C dX3_assign_95 (by decide) rfl (fun h95 => ?_) (fun h95 => ?_)
        · have hf := ip h95 hf
          refine n_iinc (v := v3 + (nI 1)) (lv' := [(3, .int (v3 + (nI 1))), (0, .ref (aG 0)), (1, .ref (aL 0)), (2, .int v2)]) C dX3_assign_101 (j := 3) rfl rfl (by decide) rfl rfl ?_
          refine n_goto (t := 72) C dX3_assign_104 (by decide) ?_
          exact Wn.sub (lv' := [(0, .ref (aG 0)), (1, .ref (aL 0)), (2, .int v2), (3, .int (v3 + (nI 1)))]) [1, 2, 3, 0] rfl (ih v2 (v3 + (nI 1)) z92.2.1 z92.2.2 hf)
        · have hf := iq h95 hf
          refine n_iinc (v := v2 + (nI 1)) (lv' := [(2, .int (v2 + (nI 1))), (0, .ref (aG 0)), (1, .ref (aL 0)), (3, .int v3)]) C dX3_assign_98 (j := 2) rfl rfl (by decide) rfl rfl ?_
          refine n_iinc (v := v3 + (nI 1)) (lv' := [(3, .int (v3 + (nI 1))), (2, .int (v2 + (nI 1))), (0, .ref (aG 0)), (1, .ref (aL 0))]) C dX3_assign_101 (j := 3) rfl rfl (by decide) rfl rfl ?_
          refine n_goto (t := 72) C dX3_assign_104 (by decide) ?_
          exact Wn.sub (lv' := [(0, .ref (aG 0)), (1, .ref (aL 0)), (2, .int (v2 + (nI 1))), (3, .int (v3 + (nI 1)))]) [2, 3, 1, 0] rfl (ih (v2 + (nI 1)) (v3 + (nI 1)) z92.2.1 z92.2.2 hf)
set_option maxHeartbeats 4000000 in
set_option maxRecDepth 100000 in
theorem t3_assign_b68 {l : Launch} {p : Program} {e : Env} {s : State} {m : MethodId} {args : Array Value} {below : List Frame} {meth : Method} {c : Code} {D : va_G} {A : Nat → Prop} {cyI cyO cyJ : ClassId} {aG : Nat → Nat} {aL : Nat → Nat} (C : Cx p s m args meth c D (tyG cyI cyO cyJ) A RX3 cX3_assign 4 (some .int) wsX3_assign) {z : Int32 × (OB) × (OB)} (n : Nat) (oG : OB) (oL : OB) (hf : f3_assign_b68 n oG oL = some z) : Wn p l e rm3_assign s m args below meth c D A 4 0 0 (MQ below (Qr D (tyG cyI cyO cyJ) (bX3 cyI aG z.2.1 ++ bX1 cyI aL z.2.2) A (some (.int z.1))) args s 0 0 A) (bX3 cyI aG oG ++ bX1 cyI aL oL) 68 [(0, .ref (aG 0)), (1, .ref (aL 0))] [] := by
  unfold f3_assign_b68 at hf
  refine n_iconst (v := (nI 0)) C dX3_assign_68 (by decide) rfl ?_
  refine n_istore_n (lv' := [(2, .int (nI 0)), (0, .ref (aG 0)), (1, .ref (aL 0))]) C dX3_assign_69 (by decide) rfl rfl ?_
  refine n_iconst (v := (nI 0)) C dX3_assign_70 (by decide) rfl ?_
  refine n_istore_n (lv' := [(3, .int (nI 0)), (2, .int (nI 0)), (0, .ref (aG 0)), (1, .ref (aL 0))]) C dX3_assign_71 (by decide) rfl rfl ?_
  exact Wn.sub (lv' := [(0, .ref (aG 0)), (1, .ref (aL 0)), (2, .int (nI 0)), (3, .int (nI 0))]) [2, 3, 1, 0] rfl (t3_assign_b72 C n n (nI 0) (nI 0) oG oL hf)
set_option maxHeartbeats 4000000 in
set_option maxRecDepth 100000 in
theorem t3_assign_b6 {l : Launch} {p : Program} {e : Env} {s : State} {m : MethodId} {args : Array Value} {below : List Frame} {meth : Method} {c : Code} {D : va_G} {A : Nat → Prop} {cyI cyO cyJ : ClassId} {aG : Nat → Nat} {aL : Nat → Nat} (C : Cx p s m args meth c D (tyG cyI cyO cyJ) A RX3 cX3_assign 4 (some .int) wsX3_assign) {z : Int32 × (OB) × (OB)} (n : Nat) {k68 : OB → OB → Option (Int32 × (OB) × (OB))} (hk68 : ∀ (oG : OB) (oL : OB), k68 oG oL = some z → Wn p l e rm3_assign s m args below meth c D A 4 0 0 (MQ below (Qr D (tyG cyI cyO cyJ) (bX3 cyI aG z.2.1 ++ bX1 cyI aL z.2.2) A (some (.int z.1))) args s 0 0 A) (bX3 cyI aG oG ++ bX1 cyI aL oL) 68 [(0, .ref (aG 0)), (1, .ref (aL 0))] []) : ∀ (k : Nat) (v2 : Int32) (oG : OB) (oL : OB), f3_assign_b6 n k68 k v2 oG oL = some z → Wn p l e rm3_assign s m args below meth c D A 4 0 0 (MQ below (Qr D (tyG cyI cyO cyJ) (bX3 cyI aG z.2.1 ++ bX1 cyI aL z.2.2) A (some (.int z.1))) args s 0 0 A) (bX3 cyI aG oG ++ bX1 cyI aL oL) 6 [(0, .ref (aG 0)), (1, .ref (aL 0)), (2, .int v2)] [] := by
  intro k
  induction k with
  | zero => intro  v2 oG oL hf; cases hf
  | succ k ih =>
    intro  v2 oG oL hf
    unfold f3_assign_b6 at hf
    refine n_iload_n C dX3_assign_6 2 rfl rfl ?_
    refine n_aload_n C dX3_assign_7 1 rfl rfl ?_
    refine n_get (N := 15) C dX3_assign_8 iw3_assign_X1 5 rfl rfl 2 (by decide) (List.mem_of_getElem? (i := 1) rfl) rfl rfl rfl ?_
    refine n_icmp_ge (t := 68) C dX3_assign_11 (by decide) rfl (fun h11 => ?_) (fun h11 => ?_)
    · have hf := ip h11 hf
      exact Wn.sub (lv' := [(0, .ref (aG 0)), (1, .ref (aL 0))]) [0, 1] rfl (hk68 oG oL hf)
    · have hf := iq h11 hf
      refine n_aload_n C dX3_assign_14 1 rfl rfl ?_
      refine n_get (N := 15) C dX3_assign_15 iw3_assign_X1 5 rfl rfl 12 (by decide) (List.mem_of_getElem? (i := 2) rfl) rfl rfl rfl ?_
      refine n_iload_n C dX3_assign_18 2 rfl rfl ?_
      obtain ⟨x19, h19, hf⟩ := bi hf
      obtain ⟨h19, e19⟩ := ald_some h19
      refine n_iald C dX3_assign_19 15 0 rfl rfl h19 rfl ?_
      rw [← e19]
      refine n_if_ne (t := 40) C dX3_assign_20 (by decide) rfl (fun h20 => ?_) (fun h20 => ?_)
      · have hf := iq h20 hf
        refine n_aload_n C dX3_assign_40 0 rfl rfl ?_
        refine n_aload_n C dX3_assign_41 1 rfl rfl ?_
        refine n_get (N := 15) C dX3_assign_42 iw3_assign_X1 5 rfl rfl 9 (by decide) (List.mem_of_getElem? (i := 3) rfl) rfl rfl rfl ?_
        refine n_iload_n C dX3_assign_45 2 rfl rfl ?_
        obtain ⟨x46, h46, hf⟩ := bi hf
        obtain ⟨h46, e46⟩ := ald_some h46
        refine n_iald C dX3_assign_46 12 0 rfl rfl h46 rfl ?_
        rw [← e46]
        refine n_aload_n C dX3_assign_47 1 rfl rfl ?_
        refine n_get (N := 15) C dX3_assign_48 iw3_assign_X1 5 rfl rfl 10 (by decide) (List.mem_of_getElem? (i := 4) rfl) rfl rfl rfl ?_
        refine n_iload_n C dX3_assign_51 2 rfl rfl ?_
        obtain ⟨x52, h52, hf⟩ := bi hf
        obtain ⟨h52, e52⟩ := ald_some h52
        refine n_iald C dX3_assign_52 13 0 rfl rfl h52 rfl ?_
        rw [← e52]
        refine n_aload_n C dX3_assign_53 1 rfl rfl ?_
        refine n_get (N := 15) C dX3_assign_54 iw3_assign_X1 5 rfl rfl 6 (by decide) (List.mem_of_getElem? (i := 5) rfl) rfl rfl rfl ?_
        refine n_iload_n C dX3_assign_57 2 rfl rfl ?_
        obtain ⟨x58, h58, hf⟩ := bi hf
        obtain ⟨h58, e58⟩ := ald_some h58
        refine n_iald C dX3_assign_58 9 0 rfl rfl h58 rfl ?_
        rw [← e58]
        obtain ⟨z59, h59, hf⟩ := bi hf
        refine n_callV (As := [.int x46, .int x52, .int x58]) (rest := []) (w2 := bX3 cyI aG z59 ++ bX1 cyI aL oL) C dX3_assign_59 (c3_load l D cyI cyO cyJ aG n oG x46 x52 x58 z59 h59) (cwV 3 C.ts gX3_assign_X3_load rfl rfl rfl (by decide +kernel) ⟨Nat.le_of_ble_eq_true rfl, Nat.le_of_ble_eq_true rfl⟩) rfl (q0 := 0) (ci := 3) rfl rfl Frm.here rfl (Nat.le_of_ble_eq_true rfl) ⟨Nat.le_of_ble_eq_true rfl, Nat.le_of_ble_eq_true rfl⟩ rfl ?_
        refine n_iinc (v := v2 + (nI 1)) (lv' := [(2, .int (v2 + (nI 1))), (0, .ref (aG 0)), (1, .ref (aL 0))]) C dX3_assign_62 (j := 2) rfl rfl (by decide) rfl rfl ?_
        refine n_goto (t := 6) C dX3_assign_65 (by decide) ?_
        exact Wn.sub (lv' := [(0, .ref (aG 0)), (1, .ref (aL 0)), (2, .int (v2 + (nI 1)))]) [1, 2, 0] rfl (ih (v2 + (nI 1)) z59 oL hf)
      · have hf := ip h20 hf
        refine n_aload_n C dX3_assign_23 1 rfl rfl ?_
        refine n_get (N := 15) C dX3_assign_24 iw3_assign_X1 5 rfl rfl 9 (by decide) (List.mem_of_getElem? (i := 3) rfl) rfl rfl rfl ?_
        refine n_iload_n C dX3_assign_27 2 rfl rfl ?_
        refine n_iconst (v := (-1 : Int32)) C dX3_assign_28 (by decide) rfl ?_
        obtain ⟨oL_29, h29, hf⟩ := bi hf
        obtain ⟨h29, e29⟩ := oast_some h29
        refine n_iast (w2 := bX3 cyI aG oG ++ bX1 cyI aL oL_29) C dX3_assign_29 12 0 rfl rfl h29 (by subst e29; rfl) rfl ?_
        refine n_aload_n C dX3_assign_30 1 rfl rfl ?_
        refine n_get (N := 15) C dX3_assign_31 iw3_assign_X1 5 rfl rfl 10 (by decide) (List.mem_of_getElem? (i := 4) rfl) rfl rfl rfl ?_
        refine n_iload_n C dX3_assign_34 2 rfl rfl ?_
        refine n_iconst (v := (-1 : Int32)) C dX3_assign_35 (by decide) rfl ?_
        obtain ⟨oL_36, h36, hf⟩ := bi hf
        obtain ⟨h36, e36⟩ := oast_some h36
        refine n_iast (w2 := bX3 cyI aG oG ++ bX1 cyI aL oL_36) C dX3_assign_36 13 0 rfl rfl h36 (by subst e36; rfl) rfl ?_
        refine n_goto (t := 62) C dX3_assign_37 (by decide) ?_
        refine n_iinc (v := v2 + (nI 1)) (lv' := [(2, .int (v2 + (nI 1))), (0, .ref (aG 0)), (1, .ref (aL 0))]) C dX3_assign_62 (j := 2) rfl rfl (by decide) rfl rfl ?_
        refine n_goto (t := 6) C dX3_assign_65 (by decide) ?_
        exact Wn.sub (lv' := [(0, .ref (aG 0)), (1, .ref (aL 0)), (2, .int (v2 + (nI 1)))]) [1, 2, 0] rfl (ih (v2 + (nI 1)) oG oL_36 hf)
set_option maxHeartbeats 4000000 in
set_option maxRecDepth 100000 in
theorem c3_assign (l : Launch) (D : va_G) (cyI cyO cyJ : ClassId) (aG : Nat → Nat) (aL : Nat → Nat) (n : Nat) (oG : OB) (oL : OB) (z : Int32 × (OB) × (OB)) (hf : f3_assign n oG oL = some z) : Ct l D (tyG cyI cyO cyJ) yX3_assign wsX3_assign rm3_assign 0 0 [.ref (aG 0), .ref (aL 0)] (bX3 cyI aG oG ++ bX1 cyI aL oL) (bX3 cyI aG z.2.1 ++ bX1 cyI aL z.2.2) (some (.int z.1)) := by
  refine Ct.of (cc := cX3_assign) (nL := 4) (ret := (some .int)) (lv := [(0, .ref (aG 0)), (1, .ref (aL 0))]) (by decide +kernel) rfl rfl (Nat.le_of_ble_eq_true rfl) ?_
  intro p e s m args below meth c A C
  have C : Cx p s m args meth c D (tyG cyI cyO cyJ) A RX3 cX3_assign 4 (some .int) wsX3_assign := C
  unfold f3_assign at hf
  refine n_aload_n C dX3_assign_0 0 rfl rfl ?_
  obtain ⟨z1, h1, hf⟩ := bi hf
  refine n_callV (As := []) (rest := []) (w2 := bX3 cyI aG z1 ++ bX1 cyI aL oL) C dX3_assign_1 (c3_forgetLoads l D cyI cyO cyJ aG n oG z1 h1) (cwV 0 C.ts gX3_assign_X3_forgetLoads rfl rfl rfl (by decide +kernel) ⟨Nat.le_of_ble_eq_true rfl, Nat.le_of_ble_eq_true rfl⟩) rfl (q0 := 0) (ci := 3) rfl rfl Frm.here rfl (Nat.le_of_ble_eq_true rfl) ⟨Nat.le_of_ble_eq_true rfl, Nat.le_of_ble_eq_true rfl⟩ rfl ?_
  refine n_iconst (v := (nI 0)) C dX3_assign_4 (by decide) rfl ?_
  refine n_istore_n (lv' := [(2, .int (nI 0)), (0, .ref (aG 0)), (1, .ref (aL 0))]) C dX3_assign_5 (by decide) rfl rfl ?_
  exact Wn.sub (lv' := [(0, .ref (aG 0)), (1, .ref (aL 0)), (2, .int (nI 0))]) [1, 2, 0] rfl (t3_assign_b6 C n (fun oG oL hf => Wn.sub (lv' := [(0, .ref (aG 0)), (1, .ref (aL 0))]) [0, 1] rfl (t3_assign_b68 C n oG oL hf)) n (nI 0) z1 oL hf)
