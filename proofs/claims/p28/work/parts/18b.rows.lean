/-! THE LAW'S OWN CALLS: those that read the script -/
section LSR
variable {p : Program} {l : Launch} {e : Env} {R : Room} {s : State} {m : MethodId} {args : Array Value} {below : List Frame} {meth : Method} {c : Code}
variable {D : va_G} {tys : List (ClassId × FieldType)} {A : Nat → Prop} {nL cells slots : Nat} {Q : State → Prop} {w : va_W} {lv : List (Nat × Value)} {st : List Value}
variable {own : String} {cc : ByteArray} {ret : Option FieldType} {Ts : List Cond} {pc q : Nat}
theorem n_ldc (C : Cx p s m args meth c D tys A own cc nL ret Ts) {index : Nat} {v : Int32} (hdg : decode cc pc = .ok (.ldc index, 2)) (hc : Jvm.Cond.constant own index v ∈ Ts) (hq : pc + 2 = q) (k : Wn p l e R s m args below meth c D A nL cells slots Q w q lv (.int v :: st)) : Wn p l e R s m args below meth c D A nL cells slots Q w pc lv (st) := by subst hq; exact fun H locs ls hP hD hS hl => lv_ldc C.x C.b C.ow (C.ts _ hc) hdg (k H locs ls hP hD hS hl)
theorem n_runE {y : MethodName} {ws : List Cond} {wc wc' w2 : va_W} {r : Option Value} {mc ms : Nat} {rest : List Value} {a : Array Value} (C : Cx p s m args meth c D tys A own cc nL ret Ts)
    (hF : Frm w wc w2 wc')
    (hr : ∀ (H : Heap) (locs : List Loc) (ls : Array Slot), va_P D vwCl wc H → va_D A wc → va_S A s.heap H locs → (∀ q, va_A wc H.size q → A q) → lv_has ls nL lv → va_Run p l e R s m args below meth c H locs cells slots mc ms (F0 m pc ls st) rest (Qr D tys wc' (va_A wc H.size) r a) (va_A wc H.size))
    (hq : pc + 3 = q) (kk : Wn p l e R s m args below meth c D A nL (cells + mc) (slots + ms) Q w2 q lv (r.toList ++ rest)) : Wn p l e R s m args below meth c D A nL cells slots Q w pc lv st := by
  subst hq
  intro H locs ls hP hD hS hl T hT X
  obtain ⟨hPc, hDc⟩ := hF.cut hP hD
  have hFr : ∀ q, va_A wc H.size q → A q := by
    intro q h
    rcases A_mem.mp h with h | h
    · obtain ⟨z, hz, rfl⟩ := List.mem_map.mp h
      exact (D_nd.mp hDc).2 z hz
    · exact C.al q (Nat.le_trans hS.1 h)
  obtain ⟨v, st₀, t, T', L, h0, X', hL, e1, e2, ⟨⟨hv, hP1, hK1, hD1⟩, hz, hk⟩, stp⟩ := hr H locs ls hPc hDc hS hFr hl T hT X
  cases hv
  rw [h0] at hz hk
  have hj := hF.join (H1 := t.heap) hP hD hk hFr hP1 hD1
  have hS1 : va_S A s.heap t.heap (locs ++ L) := ⟨Nat.le_trans hS.1 hz, fun q h1 h2 => by rw [hk q (Nat.lt_of_lt_of_le h1 hS.1) (fun z => h2 (hFr q z))]; exact hS.2.1 q h1 h2, fun q hq => by
    rcases List.mem_append.mp hq with h | h
    · exact hS.2.2 q h
    · exact hFr _ (hL q h)⟩
  obtain ⟨t2, a1, b1⟩ := kk t.heap (locs ++ L) ls hj.1 hj.2 hS1 hl T' e1 X'
  exact ⟨t2, stp t2 a1, b1⟩
/-- one of the law's own methods is called, that catches -/
theorem n_callSW {y : MethodName} {ws : List Cond} {rm : Room} {wc wc' w2 : va_W} {r : Option Value} {n index maxL : Nat} {rest As : List Value} {bytes : ByteArray} {rt : Option FieldType} {hh : List (Nat × Nat × Nat × Nat)} (C : Cx p s m args meth c D tys A own cc nL ret Ts) (CE : ENVL A s)
    (hdg : decode cc pc = .ok (.invokestatic index, 3)) (hM : Cw l D tys y ws rm As wc wc' r) (cw : vx_CSW R s args own index y bytes maxL rt hh ws rm 1 6 n) (hn : As.length = n)
    (hF : Frm w wc w2 wc') (hst : st = As.reverse ++ rest) (hcat : (rest.map fun v => v.category).sum ≤ 8) (hcs : cells + 1 ≤ R.cells ∧ slots + 6 ≤ R.slots)
    (hq : pc + 3 = q) (kk : Wn p l e R s m args below meth c D A nL (cells + 1) (slots + 6) Q w2 q lv (r.toList ++ rest)) : Wn p l e R s m args below meth c D A nL cells slots Q w pc lv st :=
  n_runE (y := y) (ws := ws) (a := As.toArray) C hF (fun H locs ls hP hD hS hFr hl => vx_runSW C.1 (hM H.size) cw
    ⟨blind_pcL, fun U hU hW => ⟨rfl, by rw [hU], by rw [hU]; exact hP, va_K.moved hW.alike C.K, hD.weaken (fun _ _ _ _ => trivial), CE.go hS hFr hW hU⟩⟩ rfl hn hl.1 hst (lv_room hcat) hdg hcs) hq kk
/-- a place of the script -/
theorem n_sld {b L : Nat} {xs : Nat → Int32} (C : Cx p s m args meth c D tys A own cc nL ret Ts) (hX : va_X b L xs s s.heap) (hbl : b < s.heap.size) (hbA : ¬ A b) (hdg : decode cc pc = .ok (.iaload, 1)) {i : Int32} (hin : vp_in i L) (hq : pc + 1 = q)
    (kk : Wn p l e R s m args below meth c D A nL cells slots Q w q lv (.int (xs i.toNatClampNeg) :: st)) : Wn p l e R s m args below meth c D A nL cells slots Q w pc lv (.int i :: .ref b :: st) := by
  subst hq
  exact fun H locs ls hP hD hS hl => va_sld C.x C.b hX hbl hbA hS hin hdg (kk H locs ls hP hD hS hl)
theorem n_slen {b L : Nat} {xs : Nat → Int32} (C : Cx p s m args meth c D tys A own cc nL ret Ts) (hX : va_X b L xs s s.heap) (hbl : b < s.heap.size) (hbA : ¬ A b) (hdg : decode cc pc = .ok (.arraylength, 1)) (hq : pc + 1 = q)
    (kk : Wn p l e R s m args below meth c D A nL cells slots Q w q lv (.int (Int32.ofNat L) :: st)) : Wn p l e R s m args below meth c D A nL cells slots Q w pc lv (.ref b :: st) := by
  subst hq
  exact fun H locs ls hP hD hS hl => va_slen C.x C.b hX hbl hbA hS hdg (kk H locs ls hP hD hS hl)
/-- a contract of a method that reads the script alone -/
def Ck (l : Launch) (D : va_G) (tys : List (ClassId × FieldType)) (y : MethodName) (ws : List Cond) (rm : Room) (b len : Nat) (xs : Nat → Int32) (av : List Value) (r : Option Value) : Prop :=
  ∀ sz : Nat, Met l y ws rm (va_Pc av (fun U => U.heap.size = sz ∧ va_K D vwCl tys U ∧ va_X b len xs U U.heap ∧ b < sz)) (Qr D tys [] (va_A [] sz) r) 0 0 (va_A [] sz)
/-- a contract of a method that has the world, and reads the script -/
def Cs (l : Launch) (D : va_G) (tys : List (ClassId × FieldType)) (y : MethodName) (ws : List Cond) (rm : Room) (b len : Nat) (xs : Nat → Int32) (av : List Value) (w w' : va_W) (r : Option Value) : Prop :=
  ∀ sz : Nat, Met l y ws rm (va_Pc av (fun U => U.heap.size = sz ∧ va_P D vwCl w U.heap ∧ va_K D vwCl tys U ∧ va_D (fun _ => True) w ∧ ENVL (va_A w sz) U ∧ va_X b len xs U U.heap ∧ b < sz ∧ ¬ va_A w sz b)) (Qr D tys w' (va_A w sz) r) 1 6 (va_A w sz)
theorem blind_pcK {b len : Nat} {xs : Nat → Int32} {av : List Value} {sz : Nat} : FrameBlind (va_Pc av (fun U => U.heap.size = sz ∧ va_K D vwCl tys U ∧ va_X b len xs U U.heap ∧ b < sz)) := by
  intro a U g mk h
  obtain ⟨h0, h1, hK, hX, hb⟩ := h
  exact ⟨h0, h1, va_K.moved (u := U) (U := U.calling g mk a) (Vm.Alike.refl U.vm) hK, va_X.moved (u := U) (U := U.calling g mk a) (Vm.Alike.refl U.vm) hX, hb⟩
theorem blind_pcC {b len : Nat} {xs : Nat → Int32} {av : List Value} {sz : Nat} {ww : va_W} {A9 A8 : Nat → Prop} : FrameBlind (va_Pc av (fun U => U.heap.size = sz ∧ va_P D vwCl ww U.heap ∧ va_K D vwCl tys U ∧ va_D (fun _ => True) ww ∧ ENVL A9 U ∧ va_X b len xs U U.heap ∧ b < sz ∧ ¬ A8 b)) := by
  intro a U g mk h
  obtain ⟨h0, h1, hP, hK, hD, hE, hX, hb, hA⟩ := h
  exact ⟨h0, h1, hP, va_K.moved (u := U) (U := U.calling g mk a) (Vm.Alike.refl U.vm) hK, hD, hE.call, va_X.moved (u := U) (U := U.calling g mk a) (Vm.Alike.refl U.vm) hX, hb, hA⟩
theorem X_go {b len : Nat} {xs : Nat → Int32} {H : Heap} {locs : List Loc} {U : State} (hX : va_X b len xs s s.heap) (hbl : b < s.heap.size) (hbA : ¬ A b) (hS : va_S A s.heap H locs) (hW : s.WarmedH U.vm) (hU : U.heap = H) : va_X b len xs U U.heap := by
  rw [hU]
  exact (hX.kept (hS.2.1 b hbl hbA)).moved hW.alike
theorem n_callSK {y : MethodName} {ws : List Cond} {rm : Room} {r : Option Value} {n index maxL b len : Nat} {xs : Nat → Int32} {rest As : List Value} {bytes : ByteArray} {rt : Option FieldType} (C : Cx p s m args meth c D tys A own cc nL ret Ts) (hX : va_X b len xs s s.heap) (hbl : b < s.heap.size) (hbA : ¬ A b)
    (hdg : decode cc pc = .ok (.invokestatic index, 3)) (hM : Ck l D tys y ws rm b len xs As r) (cw : CallB R s args own index y bytes maxL rt ws rm 0 0 n ∧ (Cond.static y).before args s = true) (hn : As.length = n)
    (hst : st = As.reverse ++ rest) (hcat : (rest.map fun v => v.category).sum ≤ 8) (hcs : cells + 0 ≤ R.cells ∧ slots + 0 ≤ R.slots)
    (hq : pc + 3 = q) (kk : Wn p l e R s m args below meth c D A nL cells slots Q w q lv (r.toList ++ rest)) : Wn p l e R s m args below meth c D A nL cells slots Q w pc lv st :=
  n_runE (y := y) (ws := ws) (a := As.toArray) (mc := 0) (ms := 0) C Frm.none (fun H locs ls hP hD hS hFr hl => va_runS C.1 (hM H.size) cw
    ⟨blind_pcK, fun U hU hW => ⟨rfl, by rw [hU], va_K.moved hW.alike C.K, X_go hX hbl hbA hS hW hU, Nat.lt_of_lt_of_le hbl hS.1⟩⟩ rfl hn hl.1 hst (lv_room hcat) hdg hcs) hq kk
theorem n_callSC {y : MethodName} {ws : List Cond} {rm : Room} {wc wc' w2 : va_W} {r : Option Value} {n index maxL b len : Nat} {xs : Nat → Int32} {rest As : List Value} {bytes : ByteArray} {rt : Option FieldType} (C : Cx p s m args meth c D tys A own cc nL ret Ts) (CE : ENVL A s) (hX : va_X b len xs s s.heap) (hbl : b < s.heap.size) (hbA : ¬ A b)
    (hdg : decode cc pc = .ok (.invokestatic index, 3)) (hM : Cs l D tys y ws rm b len xs As wc wc' r) (cw : CallB R s args own index y bytes maxL rt ws rm 1 6 n ∧ (Cond.static y).before args s = true) (hn : As.length = n)
    (hF : Frm w wc w2 wc') (hst : st = As.reverse ++ rest) (hcat : (rest.map fun v => v.category).sum ≤ 8) (hcs : cells + 1 ≤ R.cells ∧ slots + 6 ≤ R.slots)
    (hq : pc + 3 = q) (kk : Wn p l e R s m args below meth c D A nL (cells + 1) (slots + 6) Q w2 q lv (r.toList ++ rest)) : Wn p l e R s m args below meth c D A nL cells slots Q w pc lv st :=
  n_runE (y := y) (ws := ws) (a := As.toArray) C hF (fun H locs ls hP hD hS hFr hl => va_runS C.1 (hM H.size) cw
    ⟨blind_pcC, fun U hU hW => ⟨rfl, by rw [hU], by rw [hU]; exact hP, va_K.moved hW.alike C.K, hD.weaken (fun _ _ _ _ => trivial), CE.go hS hFr hW hU, X_go hX hbl hbA hS hW hU, Nat.lt_of_lt_of_le hbl hS.1, fun h => hbA (hFr b h)⟩⟩ rfl hn hl.1 hst (lv_room hcat) hdg hcs) hq kk
theorem cs_le (h : cells + 1 ≤ R.cells ∧ slots + 6 ≤ R.slots) : cells + 0 ≤ R.cells ∧ slots + 0 ≤ R.slots := ⟨by omega, by omega⟩
end LSR
theorem Cs.of {l : Launch} {D : va_G} {tys : List (ClassId × FieldType)} {y : MethodName} {ws ws' : List Cond} {rm : Room} {b len : Nat} {xs : Nat → Int32} {av : List Value} {w w' : va_W} {r : Option Value} {cc : ByteArray} {nL : Nat} {ret : Option FieldType} {lv : List (Nat × Value)}
    (hy : plainName y.cls = true) (hw : ws = Cond.code y cc nL ret :: ws') (hlv : lv_args 0 av = lv) (hlen : (lg_sl av).length ≤ nL)
    (body : ∀ (p : Program) (e : Env) (s : State) (m : MethodId) (args : Array Value) (below : List Frame) (meth : Method) (c : Code) (A : Nat → Prop), Cx p s m args meth c D tys A y.cls cc nL ret ws → ENVL A s → va_X b len xs s s.heap → b < s.heap.size → ¬ A b → Wn p l e rm s m args below meth c D A nL 0 0 (MQ below (Qr D tys w' A r) args s 1 6 A) w 0 lv []) : Cs l D tys y ws rm b len xs av w w' r := by
  intro sz
  refine Met.ofW (cc := cc) (maxL := nL) (ret := ret) hy hw ?_
  intro p e s m args below meth c s₁ B hml hv
  obtain ⟨rfl, hsz, hP, hK, hD0, hE, hX, hbl, hbA⟩ := hv
  subst hsz
  have hD := hD0.self (sz := s.heap.size)
  have hl := lv_entry av (n := nL) hlen
  rw [hlv] at hl
  rw [lg_entry_eq]
  exact body p e s m av.toArray below meth c (va_A w s.heap.size) ⟨⟨B.exec, B.bytes, hml, findClass_of_methodNamed B.named, atoms_spec (ws := ws) B.pre⟩, hK, fun q h => Or.inr h, B.returns, B.notSynchronized, rfl⟩ hE hX hbl hbA s.heap [] _ hP hD va_S.rf hl
theorem Ck.of {l : Launch} {D : va_G} {tys : List (ClassId × FieldType)} {y : MethodName} {ws ws' : List Cond} {rm : Room} {b len : Nat} {xs : Nat → Int32} {av : List Value} {r : Option Value} {cc : ByteArray} {nL : Nat} {ret : Option FieldType} {lv : List (Nat × Value)}
    (hy : plainName y.cls = true) (hw : ws = Cond.code y cc nL ret :: ws') (hlv : lv_args 0 av = lv) (hlen : (lg_sl av).length ≤ nL)
    (body : ∀ (p : Program) (e : Env) (s : State) (m : MethodId) (args : Array Value) (below : List Frame) (meth : Method) (c : Code) (A : Nat → Prop), Cx p s m args meth c D tys A y.cls cc nL ret ws → va_X b len xs s s.heap → b < s.heap.size → ¬ A b → Wn p l e rm s m args below meth c D A nL 0 0 (MQ below (Qr D tys [] A r) args s 0 0 A) [] 0 lv []) : Ck l D tys y ws rm b len xs av r := by
  intro sz
  refine Met.ofW (cc := cc) (maxL := nL) (ret := ret) hy hw ?_
  intro p e s m args below meth c s₁ B hml hv
  obtain ⟨rfl, hsz, hK, hX, hbl⟩ := hv
  subst hsz
  have hl := lv_entry av (n := nL) hlen
  rw [hlv] at hl
  rw [lg_entry_eq]
  exact body p e s m av.toArray below meth c (va_A [] s.heap.size) ⟨⟨B.exec, B.bytes, hml, findClass_of_methodNamed B.named, atoms_spec (ws := ws) B.pre⟩, hK, fun q h => Or.inr h, B.returns, B.notSynchronized, rfl⟩ hX hbl (fun h => by rcases A_mem.mp h with h | h; exact absurd h List.not_mem_nil; omega) s.heap [] _ (fun k q h => by simp at h) ⟨fun i j p q h => by simp at h, fun k q h => by simp at h⟩ va_S.rf hl
/-- a place of the script, or a number of its own behind its end -/
def fL_cell (len : Nat) (xs : Nat → Int32) (k : Int32) : Option Int32 :=
  if Int32.ofNat len ≤ k then some ((40503 : Int32) * k + (nI 977)) else if ck k len = true then some (xs k.toNatClampNeg) else none
abbrev rmL_cell : Room := { frames := 0, cells := 0, slots := 0, locals := 0 }
theorem kL_cell (l : Launch) (D : va_G) (cyI cyO cyJ : ClassId) (b len : Nat) (xs : Nat → Int32) (k z : Int32) (hf : fL_cell len xs k = some z) : Ck l D (tyG cyI cyO cyJ) yL_cell wsL_cell rmL_cell b len xs [.ref b, .int k] (some (.int z)) := by
  refine Ck.of (cc := cL_cell) (nL := 2) (ret := (some .int)) (lv := [(0, .ref b), (1, .int k)]) (by decide +kernel) rfl rfl (Nat.le_of_ble_eq_true rfl) ?_
  intro p e s m args below meth c A C hX hbl hbA
  have C : Cx p s m args meth c D (tyG cyI cyO cyJ) A RL cL_cell 2 (some .int) wsL_cell := C
  unfold fL_cell at hf
  refine n_iload_n C dL_cell_0 1 rfl rfl ?_
  refine n_aload_n C dL_cell_1 0 rfl rfl ?_
  refine n_slen C hX hbl hbA dL_cell_2 rfl ?_
  refine n_icmp_ge (t := 12) C dL_cell_3 (by decide) rfl (fun h3 => ?_) (fun h3 => ?_)
  · have hf := ip h3 hf
    obtain rfl := Option.some.inj hf
    refine n_ldc (v := (40503 : Int32)) C dL_cell_12 (List.mem_of_getElem? (i := 1) rfl) rfl ?_
    refine n_iload_n C dL_cell_14 1 rfl rfl ?_
    refine n_imul C dL_cell_15 rfl ?_
    refine n_sipush (v := (nI 977)) C dL_cell_16 (by decide) rfl ?_
    refine n_iadd C dL_cell_19 rfl ?_
    exact n_iret C dL_cell_20
  · have hf := iq h3 hf
    split at hf
    · rename_i h4
      obtain rfl := Option.some.inj hf
      refine n_aload_n C dL_cell_6 0 rfl rfl ?_
      refine n_iload_n C dL_cell_7 1 rfl rfl ?_
      refine n_sld C hX hbl hbA dL_cell_8 (ck_in h4) rfl ?_
      refine n_goto (t := 20) C dL_cell_9 (by decide) ?_
      exact n_iret C dL_cell_20
    · cases hf
