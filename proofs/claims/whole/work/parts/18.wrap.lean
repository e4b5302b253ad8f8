/-! THE LAW'S OWN CALLS: a face is called, what it throws is caught and numbered -/
def NCX (U : State) : Prop := va_Nc "java/lang/IllegalArgumentException" "java/lang/IndexOutOfBoundsException" U ∧ va_Nc "java/lang/IllegalStateException" "java/lang/IndexOutOfBoundsException" U ∧ va_Nc "java/lang/IllegalStateException" "java/lang/IllegalArgumentException" U
def ENVL (A : Nat → Prop) (U : State) : Prop := ENV A U ∧ NCX U
theorem NCX.moved {u U : State} (hvm : u.vm.Alike U.vm) (h : NCX u) : NCX U := ⟨h.1.moved hvm, h.2.1.moved hvm, h.2.2.moved hvm⟩
theorem ENVL.go {A B : Nat → Prop} {s U : State} {H : Heap} {locs : List Loc} (h : ENVL A s) (hS : va_S A s.heap H locs) (hAB : ∀ q, B q → A q) (hW : s.WarmedH U.vm) (hU : U.heap = H) : ENVL B U := ⟨h.1.go hS hAB hW hU, h.2.moved hW.alike⟩
theorem ENVL.call {A : Nat → Prop} {U : State} {g : JFrame} {mk : MethodId} {a : Array Value} (h : ENVL A U) : ENVL A (U.calling g mk a) := ⟨h.1.call, h.2.moved (Vm.Alike.refl U.vm)⟩
def Cw (l : Launch) (D : va_G) (tys : List (ClassId × FieldType)) (y : MethodName) (ws : List Cond) (rm : Room) (av : List Value) (w w' : va_W) (r : Option Value) : Prop :=
  ∀ sz : Nat, Met l y ws rm (va_Pc av (fun U => U.heap.size = sz ∧ va_P D vwCl w U.heap ∧ va_K D vwCl tys U ∧ va_D (fun _ => True) w ∧ ENVL (va_A w sz) U)) (Qr D tys w' (va_A w sz) r) 1 6 (va_A w sz)
/-- the number of what was thrown, 0 for an answer -/
def kO (order : List String) : String ⊕ Int32 → Int32
  | .inr _ => 0
  | .inl E => nI (order.idxOf E + 1)
def uO (oO : Nat → Int64) : String ⊕ Int32 → Nat → Int64
  | .inr v => vp_updL oO 0 v.toInt64
  | .inl _ => oO
section WX
variable {p : Program} {l : Launch} {e : Env} {R : Room} {s : State} {m : MethodId} {args : Array Value} {below : List Frame} {meth : Method} {c : Code}
variable {D : va_G} {tys : List (ClassId × FieldType)} {A : Nat → Prop} {nL cells slots : Nat} {Q : State → Prop} {w : va_W} {lv : List (Nat × Value)} {st : List Value}
variable {own : String} {cc : ByteArray} {ret : Option FieldType} {Ts : List Cond} {pc q : Nat}
/-- with q thrown over this place -/
def Wx (p : Program) (l : Launch) (e : Env) (R : Room) (s : State) (m : MethodId) (args : Array Value) (below : List Frame) (meth : Method) (c : Code) (D : va_G) (A : Nat → Prop) (nL cells slots : Nat) (Q : State → Prop) (w : va_W) (pc : Nat) (lv : List (Nat × Value)) (st : List Value) (E : String) : Prop :=
  ∀ (H : Heap) (locs : List Loc) (ls : Array Slot) (q : Addr) (ce : Cell), va_P D vwCl w H → va_D A w → va_S A s.heap H locs → lv_has ls nL lv → H[q]? = some ce → ce.vm = .none → s.vm.findClass E = some ce.cls → vx_W p l e R s m args below meth c H locs cells slots Q (F0 m pc ls st) q
theorem blind_pcV {av : List Value} {sz : Nat} {ww : va_W} {A9 : Nat → Prop} : FrameBlind (va_Pc av (fun U => U.heap.size = sz ∧ va_P D vwCl ww U.heap ∧ va_K D vwCl tys U ∧ va_D (fun _ => True) ww ∧ ENV A9 U)) := by
  intro a U g mk h
  obtain ⟨h0, h1, hP, hK, hD, hE⟩ := h
  exact ⟨h0, h1, hP, va_K.moved (u := U) (U := U.calling g mk a) (Vm.Alike.refl U.vm) hK, hD, hE.call⟩
theorem blind_pcL {av : List Value} {sz : Nat} {ww : va_W} {A9 : Nat → Prop} : FrameBlind (va_Pc av (fun U => U.heap.size = sz ∧ va_P D vwCl ww U.heap ∧ va_K D vwCl tys U ∧ va_D (fun _ => True) ww ∧ ENVL A9 U)) := by
  intro a U g mk h
  obtain ⟨h0, h1, hP, hK, hD, hE⟩ := h
  exact ⟨h0, h1, hP, va_K.moved (u := U) (U := U.calling g mk a) (Vm.Alike.refl U.vm) hK, hD, hE.call⟩
theorem n_callX {y : MethodName} {ws : List Cond} {rm : Room} {wc wc' w2 : va_W} {o : String ⊕ Option Value} {n index maxL : Nat} {rest As : List Value} {b q0 ci N : Nat} {CC : String} {T : u_T} {fs : List Value} {bytes : ByteArray} {rt : Option FieldType} (C : Cx p s m args meth c D tys A own cc nL ret Ts) (CE : ENVL A s)
    (hdg : decode cc pc = .ok (.invokevirtual index, 3)) (hM : Cv l D tys y ws rm (.ref b :: As) wc wc' o) (cw : CallW R s args own CC index y bytes maxL rt ws rm 1 6 n) (hn : As.length = n)
    (he : wc[q0]? = some (b, .inr (ci, fs))) (hc : vwCl[ci]? = some (CC, T, N)) (hF : Frm w wc w2 wc') (hst : st = As.reverse ++ .ref b :: rest) (hcat : (rest.map fun v => v.category).sum ≤ 8) (hcs : cells + 1 ≤ R.cells ∧ slots + 6 ≤ R.slots)
    (kN : ∀ r, o = .inr r → Wn p l e R s m args below meth c D A nL (cells + 1) (slots + 6) Q w2 (pc + 3) lv (r.toList ++ rest))
    (kT : ∀ E, o = .inl E → Wx p l e R s m args below meth c D A nL (cells + 1) (slots + 6) Q w2 pc lv rest E) : Wn p l e R s m args below meth c D A nL cells slots Q w pc lv st := by
  intro H locs ls hP hD hS hl T hT X
  obtain ⟨hPc, hDc⟩ := hF.cut hP hD
  have hFr : ∀ q, va_A wc H.size q → A q := by
    intro q h
    rcases A_mem.mp h with h | h
    · obtain ⟨z, hz, rfl⟩ := List.mem_map.mp h
      exact (D_nd.mp hDc).2 z hz
    · exact C.al q (Nat.le_trans hS.1 h)
  have hr := vx_runV (rest := rest) (As := As) (g := F0 m pc ls st) (locs := locs) (cells := cells) (slots := slots) (below := below) C.1 (hM H.size) cw
    ⟨blind_pcV, va_recv C.K hPc hc he, fun U hU hW => ⟨rfl, by rw [hU], by rw [hU]; exact hPc, va_K.moved hW.alike C.K, hDc.weaken (fun _ _ _ _ => trivial), CE.1.go hS hFr hW hU⟩⟩ rfl hn hl.1 hst (lv_room hcat) hdg hcs T hT X
  have hSt : ∀ (t : State) (L : List Loc), H.size ≤ t.heap.size → (∀ q : Nat, q < H.size → ¬ va_A wc H.size q → t.heap[q]? = H[q]?) → (∀ q ∈ L, va_A wc H.size q.base) → va_S A s.heap t.heap (locs ++ L) := fun t L hz hk hL => ⟨Nat.le_trans hS.1 hz, fun q h1 h2 => by rw [hk q (Nat.lt_of_lt_of_le h1 hS.1) (fun z => h2 (hFr q z))]; exact hS.2.1 q h1 h2, fun q hq => by
    rcases List.mem_append.mp hq with h | h
    · exact hS.2.2 q h
    · exact hFr _ (hL q h)⟩
  rcases hr with ⟨v, st₀, t, T', L, h0, X', hL, e1, e2, hq, stp⟩ | ⟨q, st₀, t, T', L, E, ce, h0, X', hL, e1, e2, hq, hce, hcv, hcl, stp⟩
  · match o, hq with
    | .inr r, hq =>
      obtain ⟨⟨hv, hP1, hK1, hD1⟩, hz, hk⟩ := hq
      cases hv
      rw [h0] at hz hk
      have hj := hF.join (H1 := t.heap) hP hD hk hFr hP1 hD1
      obtain ⟨t2, a1, b1⟩ := kN _ rfl t.heap (locs ++ L) ls hj.1 hj.2 (hSt t L hz hk hL) hl T' e1 X'
      exact ⟨t2, stp t2 a1, b1⟩
    | .inl _, hq => exact hq.elim
  · match o, hq with
    | .inr _, hq => exact hq.elim
    | .inl E', hq =>
      obtain ⟨⟨hv, hP1, hK1, hD1⟩, hz, hk⟩ := hq
      subst hv
      rw [h0] at hz hk
      have hj := hF.join (H1 := t.heap) hP hD hk hFr hP1 hD1
      obtain ⟨t2, a1, b1⟩ := kT _ rfl t.heap (locs ++ L) ls q ce hj.1 hj.2 (hSt t L hz hk hL) hl hce hcv hcl T' e1 X'
      exact ⟨t2, stp.trans a1, b1⟩
theorem n_catch {name E : String} {hp : Nat} (C : Cx p s m args meth c D tys A own cc nL ret Ts) (pre : List ExceptionTableEntry) (x : ExceptionTableEntry) (suf : List ExceptionTableEntry) (hsplit : c.exceptionTable.toList = pre ++ x :: suf)
    (hpass : ∀ z ∈ pre, covers z pc = false ∨ (z.catchType ≠ 0 ∧ ∃ nm : String, (Cond.classLink own z.catchType nm).before args s = true ∧ va_Nc E nm s)) (hx : covers x pc = true) (h0 : x.catchType ≠ 0)
    (hlink : Cond.classLink own x.catchType name ∈ Ts) (hcast : va_Nw (.castable E name) s) (hhp : x.handlerPc = hp)
    (kk : ∀ a : Nat, Wn p l e R s m args below meth c D A nL cells slots Q w hp lv [.ref a]) : Wx p l e R s m args below meth c D A nL cells slots Q w pc lv st E := by
  subst hhp
  exact fun H locs ls q ce hP hD hS hl hce hcv hcl => vx_catch C.ow pre x suf hsplit hpass hx h0 (C.ts _ hlink) (va_Nw.use (A := args) rfl hcast) hce hcv hcl (kk q H locs ls hP hD hS hl)
end WX
theorem Cw.of {l : Launch} {D : va_G} {tys : List (ClassId × FieldType)} {y : MethodName} {ws ws' : List Cond} {rm : Room} {av : List Value} {w w' : va_W} {r : Option Value} {cc : ByteArray} {nL : Nat} {ret : Option FieldType} {hh : List (Nat × Nat × Nat × Nat)} {lv : List (Nat × Value)}
    (hy : plainName y.cls = true) (hw : ws = Cond.codeWith y cc nL ret hh :: ws') (hlv : lv_args 0 av = lv) (hlen : (lg_sl av).length ≤ nL)
    (body : ∀ (p : Program) (e : Env) (s : State) (m : MethodId) (args : Array Value) (below : List Frame) (meth : Method) (c : Code) (A : Nat → Prop), Cx p s m args meth c D tys A y.cls cc nL ret ws → ENVL A s → c.exceptionTable.toList = tableOf hh → Wn p l e rm s m args below meth c D A nL 0 0 (MQ below (Qr D tys w' A r) args s 1 6 A) w 0 lv []) : Cw l D tys y ws rm av w w' r := by
  intro sz
  refine va_MetW (cc := cc) (maxL := nL) (ret := ret) hy hw ?_
  intro p e s m args below meth c s₁ B hml hv
  obtain ⟨rfl, hsz, hP, hK, hD0, hE⟩ := hv
  subst hsz
  have hD := hD0.self (sz := s.heap.size)
  have hl := lv_entry av (n := nL) hlen
  rw [hlv] at hl
  rw [lg_entry_eq]
  have hts := atoms_spec (ws := ws) B.pre
  have htab : c.exceptionTable.toList = tableOf hh   := vx_table (x := y) B (hts _ (by rw [hw]; exact List.mem_cons_self))
  exact body p e s m av.toArray below meth c (va_A w s.heap.size) ⟨⟨B.exec, B.bytes, hml, findClass_of_methodNamed B.named, hts⟩, hK, fun q h => Or.inr h, B.returns, B.notSynchronized, rfl⟩ hE htab s.heap [] _ hP hD va_S.rf hl
-- L begin
abbrev rmL_begin : Room := { frames := 7, cells := 1, slots := 6, locals := 103 }
set_option maxHeartbeats 4000000 in
set_option maxRecDepth 100000 in
theorem kL_begin (l : Launch) (hls : l.stackTraces = false) (D : va_G) (cyI cyO cyJ : ClassId) (aO : Nat) (aX : Nat) (aS : Nat → Nat) (aG : Nat → Nat) (aL : Nat → Nat) (aU : Nat → Nat) (aV : Nat → Nat) (aB : Nat → Nat) (aH : Nat → Nat) (n : Nat) (oO : Nat → Int64) (oS : OB) (oG : OB) (oL : OB) (oU : OB) (oV : OB) (oB : OB) (oH : HS) (x1 : Int32) (z : (String ⊕ Int32) × (OB) × (HS)) (hf : f5_begin n oS oG oL oU oV oB oH x1 = some z) (hk : ∀ E, z.1 = .inl E → E ∈ (["java/lang/IllegalArgumentException"] : List String)) : Cw l D (tyG cyI cyO cyJ) yL_begin wsL_begin rmL_begin [.ref aX, .int x1, .ref aO] ([(aO, .inl (cyJ, 1, .inr (.inl oO)))] ++ ([(aX, .inr (5, [.ref (aL 0), .ref (aS 0), .ref (aG 0), .ref (aH 0), .ref (aB 0), .ref (aV 0), .ref (aU 0)]))] ++ (bX4 cyI aS oS ++ (bX3 cyI aG oG ++ (bX1 cyI aL oL ++ (bX4 cyI aU oU ++ (bX1 cyI aV oV ++ (bX2 cyI aB oB ++ bHS cyI cyO aH oH)))))))) ([(aO, .inl (cyJ, 1, .inr (.inl (uO oO z.1))))] ++ ([(aX, .inr (5, [.ref (aL 0), .ref (aS 0), .ref (aG 0), .ref (aH 0), .ref (aB 0), .ref (aV 0), .ref (aU 0)]))] ++ (bX4 cyI aS oS ++ (bX3 cyI aG oG ++ (bX1 cyI aL z.2.1 ++ (bX4 cyI aU oU ++ (bX1 cyI aV oV ++ (bX2 cyI aB oB ++ bHS cyI cyO aH z.2.2)))))))) (some (.int (kO ["java/lang/IllegalArgumentException"] z.1))) := by
  refine Cw.of (cc := cL_begin) (nL := 4) (ret := some .int) (hh := [(0, 9, 12, 13)]) (lv := [(0, .ref aX), (1, .int x1), (2, .ref aO)]) (by decide +kernel) rfl rfl (Nat.le_of_ble_eq_true rfl) ?_
  intro p e s m args below meth c A C CE htab
  have C : Cx p s m args meth c D (tyG cyI cyO cyJ) A RL cL_begin 4 (some .int) wsL_begin := C
  refine n_aload_n C dL_begin_0 2 rfl rfl ?_
  refine n_iconst (v := (0 : Int32)) C dL_begin_1 (by decide) rfl ?_
  refine n_aload_n C dL_begin_2 0 rfl rfl ?_
  refine n_iload_n C dL_begin_3 1 rfl rfl ?_
  refine n_callX (As := [.int x1]) (rest := [.int (0 : Int32), .ref aO]) (w2 := [(aO, .inl (cyJ, 1, .inr (.inl oO)))] ++ ([(aX, .inr (5, [.ref (aL 0), .ref (aS 0), .ref (aG 0), .ref (aH 0), .ref (aB 0), .ref (aV 0), .ref (aU 0)]))] ++ (bX4 cyI aS oS ++ (bX3 cyI aG oG ++ (bX1 cyI aL z.2.1 ++ (bX4 cyI aU oU ++ (bX1 cyI aV oV ++ (bX2 cyI aB oB ++ bHS cyI cyO aH z.2.2)))))))) C CE dL_begin_4 (c5_begin l hls D cyI cyO cyJ aX aS aG aL aU aV aB aH n oS oG oL oU oV oB oH x1 z hf) (cwV 1 C.ts gL_begin_X5_begin rfl rfl rfl (by decide +kernel) ⟨Nat.le_of_ble_eq_true rfl, Nat.le_of_ble_eq_true rfl⟩) rfl (q0 := 0) (ci := 5) rfl rfl (Frm.skip Frm.self) rfl (Nat.le_of_ble_eq_true rfl) ⟨Nat.le_of_ble_eq_true rfl, Nat.le_of_ble_eq_true rfl⟩ (fun r hr => ?_) (fun E hE => ?_)
  · cases hz : z.1 with
    | inl E => rw [hz] at hr; cases hr
    | inr v =>
      rw [hz] at hr
      obtain rfl := Sum.inr.inj hr
      refine n_i2l C dL_begin_7 rfl ?_
      refine n_last (w2 := [(aO, .inl (cyJ, 1, .inr (.inl (vp_updL oO 0 v.toInt64))))] ++ ([(aX, .inr (5, [.ref (aL 0), .ref (aS 0), .ref (aG 0), .ref (aH 0), .ref (aB 0), .ref (aV 0), .ref (aU 0)]))] ++ (bX4 cyI aS oS ++ (bX3 cyI aG oG ++ (bX1 cyI aL z.2.1 ++ (bX4 cyI aU oU ++ (bX1 cyI aV oV ++ (bX2 cyI aB oB ++ bHS cyI cyO aH z.2.2)))))))) C dL_begin_8 0 2 rfl rfl (ck_in (by decide)) rfl rfl ?_
      refine n_goto (t := 15) C dL_begin_9 (by decide) ?_
      refine n_iconst (v := (0 : Int32)) C dL_begin_15 (by decide) rfl ?_
      exact n_iret C dL_begin_16
  · cases hz : z.1 with
    | inr v => rw [hz] at hE; cases hE
    | inl E9 =>
      have hk := hk E9 hz
      rw [hz] at hE
      obtain rfl := Sum.inl.inj hE
      simp only [List.mem_cons, List.not_mem_nil, or_false] at hk
      subst hk
      · refine n_catch (name := "java/lang/IllegalArgumentException") (hp := 12) C [] ⟨0, 9, 12, 13⟩ [] (by rw [htab]; rfl) (fun z hz9 => nomatch hz9) (by decide) (by decide) (List.mem_of_getElem? (i := 1) rfl) (CE.1.2.2.2.1 _ (by decide +kernel)).2.2.2 rfl (fun a => ?_)
        refine n_astore_n (lv' := [(3, .ref a), (0, .ref aX), (1, .int x1), (2, .ref aO)]) C dL_begin_12 (by decide) rfl rfl ?_
        refine n_iconst (v := (1 : Int32)) C dL_begin_13 (by decide) rfl ?_
        exact n_iret C dL_begin_14
-- L close
abbrev rmL_close : Room := { frames := 7, cells := 1, slots := 6, locals := 105 }
set_option maxHeartbeats 4000000 in
set_option maxRecDepth 100000 in
theorem kL_close (l : Launch) (hls : l.stackTraces = false) (D : va_G) (cyI cyO cyJ : ClassId) (aO : Nat) (aX : Nat) (aS : Nat → Nat) (aG : Nat → Nat) (aL : Nat → Nat) (aU : Nat → Nat) (aV : Nat → Nat) (aB : Nat → Nat) (aH : Nat → Nat) (n : Nat) (oO : Nat → Int64) (oS : OB) (oG : OB) (oL : OB) (oU : OB) (oV : OB) (oB : OB) (oH : HS) (x1 : Int32) (x2 : Int32) (z : (String ⊕ Int32) × (OB) × (HS)) (hf : f5_close n oS oG oL oU oV oB oH x1 x2 = some z) (hk : ∀ E, z.1 = .inl E → E ∈ (["java/lang/IndexOutOfBoundsException", "java/lang/IllegalArgumentException"] : List String)) : Cw l D (tyG cyI cyO cyJ) yL_close wsL_close rmL_close [.ref aX, .int x1, .int x2, .ref aO] ([(aO, .inl (cyJ, 1, .inr (.inl oO)))] ++ ([(aX, .inr (5, [.ref (aL 0), .ref (aS 0), .ref (aG 0), .ref (aH 0), .ref (aB 0), .ref (aV 0), .ref (aU 0)]))] ++ (bX4 cyI aS oS ++ (bX3 cyI aG oG ++ (bX1 cyI aL oL ++ (bX4 cyI aU oU ++ (bX1 cyI aV oV ++ (bX2 cyI aB oB ++ bHS cyI cyO aH oH)))))))) ([(aO, .inl (cyJ, 1, .inr (.inl (uO oO z.1))))] ++ ([(aX, .inr (5, [.ref (aL 0), .ref (aS 0), .ref (aG 0), .ref (aH 0), .ref (aB 0), .ref (aV 0), .ref (aU 0)]))] ++ (bX4 cyI aS oS ++ (bX3 cyI aG oG ++ (bX1 cyI aL z.2.1 ++ (bX4 cyI aU oU ++ (bX1 cyI aV oV ++ (bX2 cyI aB oB ++ bHS cyI cyO aH z.2.2)))))))) (some (.int (kO ["java/lang/IndexOutOfBoundsException", "java/lang/IllegalArgumentException"] z.1))) := by
  refine Cw.of (cc := cL_close) (nL := 5) (ret := some .int) (hh := [(0, 10, 13, 19), (0, 10, 17, 13)]) (lv := [(0, .ref aX), (1, .int x1), (2, .int x2), (3, .ref aO)]) (by decide +kernel) rfl rfl (Nat.le_of_ble_eq_true rfl) ?_
  intro p e s m args below meth c A C CE htab
  have C : Cx p s m args meth c D (tyG cyI cyO cyJ) A RL cL_close 5 (some .int) wsL_close := C
  refine n_aload_n C dL_close_0 3 rfl rfl ?_
  refine n_iconst (v := (0 : Int32)) C dL_close_1 (by decide) rfl ?_
  refine n_aload_n C dL_close_2 0 rfl rfl ?_
  refine n_iload_n C dL_close_3 1 rfl rfl ?_
  refine n_iload_n C dL_close_4 2 rfl rfl ?_
  refine n_callX (As := [.int x1, .int x2]) (rest := [.int (0 : Int32), .ref aO]) (w2 := [(aO, .inl (cyJ, 1, .inr (.inl oO)))] ++ ([(aX, .inr (5, [.ref (aL 0), .ref (aS 0), .ref (aG 0), .ref (aH 0), .ref (aB 0), .ref (aV 0), .ref (aU 0)]))] ++ (bX4 cyI aS oS ++ (bX3 cyI aG oG ++ (bX1 cyI aL z.2.1 ++ (bX4 cyI aU oU ++ (bX1 cyI aV oV ++ (bX2 cyI aB oB ++ bHS cyI cyO aH z.2.2)))))))) C CE dL_close_5 (c5_close l hls D cyI cyO cyJ aX aS aG aL aU aV aB aH n oS oG oL oU oV oB oH x1 x2 z hf) (cwV 2 C.ts gL_close_X5_close rfl rfl rfl (by decide +kernel) ⟨Nat.le_of_ble_eq_true rfl, Nat.le_of_ble_eq_true rfl⟩) rfl (q0 := 0) (ci := 5) rfl rfl (Frm.skip Frm.self) rfl (Nat.le_of_ble_eq_true rfl) ⟨Nat.le_of_ble_eq_true rfl, Nat.le_of_ble_eq_true rfl⟩ (fun r hr => ?_) (fun E hE => ?_)
  · cases hz : z.1 with
    | inl E => rw [hz] at hr; cases hr
    | inr v =>
      rw [hz] at hr
      obtain rfl := Sum.inr.inj hr
      refine n_i2l C dL_close_8 rfl ?_
      refine n_last (w2 := [(aO, .inl (cyJ, 1, .inr (.inl (vp_updL oO 0 v.toInt64))))] ++ ([(aX, .inr (5, [.ref (aL 0), .ref (aS 0), .ref (aG 0), .ref (aH 0), .ref (aB 0), .ref (aV 0), .ref (aU 0)]))] ++ (bX4 cyI aS oS ++ (bX3 cyI aG oG ++ (bX1 cyI aL z.2.1 ++ (bX4 cyI aU oU ++ (bX1 cyI aV oV ++ (bX2 cyI aB oB ++ bHS cyI cyO aH z.2.2)))))))) C dL_close_9 0 2 rfl rfl (ck_in (by decide)) rfl rfl ?_
      refine n_goto (t := 21) C dL_close_10 (by decide) ?_
      refine n_iconst (v := (0 : Int32)) C dL_close_21 (by decide) rfl ?_
      exact n_iret C dL_close_22
  · cases hz : z.1 with
    | inr v => rw [hz] at hE; cases hE
    | inl E9 =>
      have hk := hk E9 hz
      rw [hz] at hE
      obtain rfl := Sum.inl.inj hE
      simp only [List.mem_cons, List.not_mem_nil, or_false] at hk
      rcases hk with rfl | rfl
      · refine n_catch (name := "java/lang/IndexOutOfBoundsException") (hp := 13) C [] ⟨0, 10, 13, 19⟩ [⟨0, 10, 17, 13⟩] (by rw [htab]; rfl) (fun z hz9 => nomatch hz9) (by decide) (by decide) (List.mem_of_getElem? (i := 1) rfl) (CE.1.2.2.2.1 _ (by decide +kernel)).2.2.2 rfl (fun a => ?_)
        refine n_astore (lv' := [(4, .ref a), (0, .ref aX), (1, .int x1), (2, .int x2), (3, .ref aO)]) C dL_close_13 (by decide) rfl rfl ?_
        refine n_iconst (v := (1 : Int32)) C dL_close_15 (by decide) rfl ?_
        exact n_iret C dL_close_16
      · refine n_catch (name := "java/lang/IllegalArgumentException") (hp := 17) C [⟨0, 10, 13, 19⟩] ⟨0, 10, 17, 13⟩ [] (by rw [htab]; rfl) (fun z hz9 => by
          simp only [List.mem_cons, List.not_mem_nil, or_false] at hz9
          subst hz9
          · exact Or.inr ⟨by decide, "java/lang/IndexOutOfBoundsException", C.ts _ (List.mem_of_getElem? (i := 1) rfl), CE.2.1⟩) (by decide) (by decide) (List.mem_of_getElem? (i := 2) rfl) (CE.1.2.2.2.1 _ (by decide +kernel)).2.2.2 rfl (fun a => ?_)
        refine n_astore (lv' := [(4, .ref a), (0, .ref aX), (1, .int x1), (2, .int x2), (3, .ref aO)]) C dL_close_17 (by decide) rfl rfl ?_
        refine n_iconst (v := (2 : Int32)) C dL_close_19 (by decide) rfl ?_
        exact n_iret C dL_close_20
-- L away
abbrev rmL_away : Room := { frames := 7, cells := 1, slots := 6, locals := 105 }
set_option maxHeartbeats 4000000 in
set_option maxRecDepth 100000 in
theorem kL_away (l : Launch) (hls : l.stackTraces = false) (D : va_G) (cyI cyO cyJ : ClassId) (aO : Nat) (aX : Nat) (aS : Nat → Nat) (aG : Nat → Nat) (aL : Nat → Nat) (aU : Nat → Nat) (aV : Nat → Nat) (aB : Nat → Nat) (aH : Nat → Nat) (n : Nat) (oO : Nat → Int64) (oS : OB) (oG : OB) (oL : OB) (oU : OB) (oV : OB) (oB : OB) (oH : HS) (x1 : Int32) (x2 : Int32) (z : (String ⊕ Int32) × (OB) × (HS)) (hf : f5_away n oS oG oL oU oV oB oH x1 x2 = some z) (hk : ∀ E, z.1 = .inl E → E ∈ (["java/lang/IndexOutOfBoundsException", "java/lang/IllegalArgumentException"] : List String)) : Cw l D (tyG cyI cyO cyJ) yL_away wsL_away rmL_away [.ref aX, .int x1, .int x2, .ref aO] ([(aO, .inl (cyJ, 1, .inr (.inl oO)))] ++ ([(aX, .inr (5, [.ref (aL 0), .ref (aS 0), .ref (aG 0), .ref (aH 0), .ref (aB 0), .ref (aV 0), .ref (aU 0)]))] ++ (bX4 cyI aS oS ++ (bX3 cyI aG oG ++ (bX1 cyI aL oL ++ (bX4 cyI aU oU ++ (bX1 cyI aV oV ++ (bX2 cyI aB oB ++ bHS cyI cyO aH oH)))))))) ([(aO, .inl (cyJ, 1, .inr (.inl (uO oO z.1))))] ++ ([(aX, .inr (5, [.ref (aL 0), .ref (aS 0), .ref (aG 0), .ref (aH 0), .ref (aB 0), .ref (aV 0), .ref (aU 0)]))] ++ (bX4 cyI aS oS ++ (bX3 cyI aG oG ++ (bX1 cyI aL z.2.1 ++ (bX4 cyI aU oU ++ (bX1 cyI aV oV ++ (bX2 cyI aB oB ++ bHS cyI cyO aH z.2.2)))))))) (some (.int (kO ["java/lang/IndexOutOfBoundsException", "java/lang/IllegalArgumentException"] z.1))) := by
  refine Cw.of (cc := cL_away) (nL := 5) (ret := some .int) (hh := [(0, 10, 13, 19), (0, 10, 17, 13)]) (lv := [(0, .ref aX), (1, .int x1), (2, .int x2), (3, .ref aO)]) (by decide +kernel) rfl rfl (Nat.le_of_ble_eq_true rfl) ?_
  intro p e s m args below meth c A C CE htab
  have C : Cx p s m args meth c D (tyG cyI cyO cyJ) A RL cL_away 5 (some .int) wsL_away := C
  refine n_aload_n C dL_away_0 3 rfl rfl ?_
  refine n_iconst (v := (0 : Int32)) C dL_away_1 (by decide) rfl ?_
  refine n_aload_n C dL_away_2 0 rfl rfl ?_
  refine n_iload_n C dL_away_3 1 rfl rfl ?_
  refine n_iload_n C dL_away_4 2 rfl rfl ?_
  refine n_callX (As := [.int x1, .int x2]) (rest := [.int (0 : Int32), .ref aO]) (w2 := [(aO, .inl (cyJ, 1, .inr (.inl oO)))] ++ ([(aX, .inr (5, [.ref (aL 0), .ref (aS 0), .ref (aG 0), .ref (aH 0), .ref (aB 0), .ref (aV 0), .ref (aU 0)]))] ++ (bX4 cyI aS oS ++ (bX3 cyI aG oG ++ (bX1 cyI aL z.2.1 ++ (bX4 cyI aU oU ++ (bX1 cyI aV oV ++ (bX2 cyI aB oB ++ bHS cyI cyO aH z.2.2)))))))) C CE dL_away_5 (c5_away l hls D cyI cyO cyJ aX aS aG aL aU aV aB aH n oS oG oL oU oV oB oH x1 x2 z hf) (cwV 2 C.ts gL_away_X5_away rfl rfl rfl (by decide +kernel) ⟨Nat.le_of_ble_eq_true rfl, Nat.le_of_ble_eq_true rfl⟩) rfl (q0 := 0) (ci := 5) rfl rfl (Frm.skip Frm.self) rfl (Nat.le_of_ble_eq_true rfl) ⟨Nat.le_of_ble_eq_true rfl, Nat.le_of_ble_eq_true rfl⟩ (fun r hr => ?_) (fun E hE => ?_)
  · cases hz : z.1 with
    | inl E => rw [hz] at hr; cases hr
    | inr v =>
      rw [hz] at hr
      obtain rfl := Sum.inr.inj hr
      refine n_i2l C dL_away_8 rfl ?_
      refine n_last (w2 := [(aO, .inl (cyJ, 1, .inr (.inl (vp_updL oO 0 v.toInt64))))] ++ ([(aX, .inr (5, [.ref (aL 0), .ref (aS 0), .ref (aG 0), .ref (aH 0), .ref (aB 0), .ref (aV 0), .ref (aU 0)]))] ++ (bX4 cyI aS oS ++ (bX3 cyI aG oG ++ (bX1 cyI aL z.2.1 ++ (bX4 cyI aU oU ++ (bX1 cyI aV oV ++ (bX2 cyI aB oB ++ bHS cyI cyO aH z.2.2)))))))) C dL_away_9 0 2 rfl rfl (ck_in (by decide)) rfl rfl ?_
      refine n_goto (t := 21) C dL_away_10 (by decide) ?_
      refine n_iconst (v := (0 : Int32)) C dL_away_21 (by decide) rfl ?_
      exact n_iret C dL_away_22
  · cases hz : z.1 with
    | inr v => rw [hz] at hE; cases hE
    | inl E9 =>
      have hk := hk E9 hz
      rw [hz] at hE
      obtain rfl := Sum.inl.inj hE
      simp only [List.mem_cons, List.not_mem_nil, or_false] at hk
      rcases hk with rfl | rfl
      · refine n_catch (name := "java/lang/IndexOutOfBoundsException") (hp := 13) C [] ⟨0, 10, 13, 19⟩ [⟨0, 10, 17, 13⟩] (by rw [htab]; rfl) (fun z hz9 => nomatch hz9) (by decide) (by decide) (List.mem_of_getElem? (i := 1) rfl) (CE.1.2.2.2.1 _ (by decide +kernel)).2.2.2 rfl (fun a => ?_)
        refine n_astore (lv' := [(4, .ref a), (0, .ref aX), (1, .int x1), (2, .int x2), (3, .ref aO)]) C dL_away_13 (by decide) rfl rfl ?_
        refine n_iconst (v := (1 : Int32)) C dL_away_15 (by decide) rfl ?_
        exact n_iret C dL_away_16
      · refine n_catch (name := "java/lang/IllegalArgumentException") (hp := 17) C [⟨0, 10, 13, 19⟩] ⟨0, 10, 17, 13⟩ [] (by rw [htab]; rfl) (fun z hz9 => by
          simp only [List.mem_cons, List.not_mem_nil, or_false] at hz9
          subst hz9
          · exact Or.inr ⟨by decide, "java/lang/IndexOutOfBoundsException", C.ts _ (List.mem_of_getElem? (i := 1) rfl), CE.2.1⟩) (by decide) (by decide) (List.mem_of_getElem? (i := 2) rfl) (CE.1.2.2.2.1 _ (by decide +kernel)).2.2.2 rfl (fun a => ?_)
        refine n_astore (lv' := [(4, .ref a), (0, .ref aX), (1, .int x1), (2, .int x2), (3, .ref aO)]) C dL_away_17 (by decide) rfl rfl ?_
        refine n_iconst (v := (2 : Int32)) C dL_away_19 (by decide) rfl ?_
        exact n_iret C dL_away_20
-- L score
abbrev rmL_score : Room := { frames := 7, cells := 1, slots := 6, locals := 136 }
set_option maxHeartbeats 4000000 in
set_option maxRecDepth 100000 in
theorem kL_score (l : Launch) (hls : l.stackTraces = false) (D : va_G) (cyI cyO cyJ : ClassId) (aO : Nat) (aX : Nat) (aS : Nat → Nat) (aG : Nat → Nat) (aL : Nat → Nat) (aU : Nat → Nat) (aV : Nat → Nat) (aB : Nat → Nat) (aH : Nat → Nat) (n : Nat) (oO : Nat → Int64) (oS : OB) (oG : OB) (oL : OB) (oU : OB) (oV : OB) (oB : OB) (oH : HS) (x1 : Int32) (x2 : Int32) (x3 : Int32) (z : (String ⊕ Int32) × (OB) × (OB) × (HS)) (hf : f5_score n oS oG oL oU oV oB oH x1 x2 x3 = some z) (hk : ∀ E, z.1 = .inl E → E ∈ (["java/lang/IndexOutOfBoundsException", "java/lang/IllegalArgumentException", "java/lang/IllegalStateException"] : List String)) : Cw l D (tyG cyI cyO cyJ) yL_score wsL_score rmL_score [.ref aX, .int x1, .int x2, .int x3, .ref aO] ([(aO, .inl (cyJ, 1, .inr (.inl oO)))] ++ ([(aX, .inr (5, [.ref (aL 0), .ref (aS 0), .ref (aG 0), .ref (aH 0), .ref (aB 0), .ref (aV 0), .ref (aU 0)]))] ++ (bX4 cyI aS oS ++ (bX3 cyI aG oG ++ (bX1 cyI aL oL ++ (bX4 cyI aU oU ++ (bX1 cyI aV oV ++ (bX2 cyI aB oB ++ bHS cyI cyO aH oH)))))))) ([(aO, .inl (cyJ, 1, .inr (.inl (uO oO z.1))))] ++ ([(aX, .inr (5, [.ref (aL 0), .ref (aS 0), .ref (aG 0), .ref (aH 0), .ref (aB 0), .ref (aV 0), .ref (aU 0)]))] ++ (bX4 cyI aS z.2.1 ++ (bX3 cyI aG oG ++ (bX1 cyI aL z.2.2.1 ++ (bX4 cyI aU oU ++ (bX1 cyI aV oV ++ (bX2 cyI aB oB ++ bHS cyI cyO aH z.2.2.2)))))))) (some (.int (kO ["java/lang/IndexOutOfBoundsException", "java/lang/IllegalArgumentException", "java/lang/IllegalStateException"] z.1))) := by
  refine Cw.of (cc := cL_score) (nL := 6) (ret := some .int) (hh := [(0, 12, 15, 19), (0, 12, 19, 13), (0, 12, 23, 28)]) (lv := [(0, .ref aX), (1, .int x1), (2, .int x2), (3, .int x3), (4, .ref aO)]) (by decide +kernel) rfl rfl (Nat.le_of_ble_eq_true rfl) ?_
  intro p e s m args below meth c A C CE htab
  have C : Cx p s m args meth c D (tyG cyI cyO cyJ) A RL cL_score 6 (some .int) wsL_score := C
  refine n_aload C dL_score_0 4 rfl rfl ?_
  refine n_iconst (v := (0 : Int32)) C dL_score_2 (by decide) rfl ?_
  refine n_aload_n C dL_score_3 0 rfl rfl ?_
  refine n_iload_n C dL_score_4 1 rfl rfl ?_
  refine n_iload_n C dL_score_5 2 rfl rfl ?_
  refine n_iload_n C dL_score_6 3 rfl rfl ?_
  refine n_callX (As := [.int x1, .int x2, .int x3]) (rest := [.int (0 : Int32), .ref aO]) (w2 := [(aO, .inl (cyJ, 1, .inr (.inl oO)))] ++ ([(aX, .inr (5, [.ref (aL 0), .ref (aS 0), .ref (aG 0), .ref (aH 0), .ref (aB 0), .ref (aV 0), .ref (aU 0)]))] ++ (bX4 cyI aS z.2.1 ++ (bX3 cyI aG oG ++ (bX1 cyI aL z.2.2.1 ++ (bX4 cyI aU oU ++ (bX1 cyI aV oV ++ (bX2 cyI aB oB ++ bHS cyI cyO aH z.2.2.2)))))))) C CE dL_score_7 (c5_score l hls D cyI cyO cyJ aX aS aG aL aU aV aB aH n oS oG oL oU oV oB oH x1 x2 x3 z hf) (cwV 3 C.ts gL_score_X5_score rfl rfl rfl (by decide +kernel) ⟨Nat.le_of_ble_eq_true rfl, Nat.le_of_ble_eq_true rfl⟩) rfl (q0 := 0) (ci := 5) rfl rfl (Frm.skip Frm.self) rfl (Nat.le_of_ble_eq_true rfl) ⟨Nat.le_of_ble_eq_true rfl, Nat.le_of_ble_eq_true rfl⟩ (fun r hr => ?_) (fun E hE => ?_)
  · cases hz : z.1 with
    | inl E => rw [hz] at hr; cases hr
    | inr v =>
      rw [hz] at hr
      obtain rfl := Sum.inr.inj hr
      refine n_i2l C dL_score_10 rfl ?_
      refine n_last (w2 := [(aO, .inl (cyJ, 1, .inr (.inl (vp_updL oO 0 v.toInt64))))] ++ ([(aX, .inr (5, [.ref (aL 0), .ref (aS 0), .ref (aG 0), .ref (aH 0), .ref (aB 0), .ref (aV 0), .ref (aU 0)]))] ++ (bX4 cyI aS z.2.1 ++ (bX3 cyI aG oG ++ (bX1 cyI aL z.2.2.1 ++ (bX4 cyI aU oU ++ (bX1 cyI aV oV ++ (bX2 cyI aB oB ++ bHS cyI cyO aH z.2.2.2)))))))) C dL_score_11 0 2 rfl rfl (ck_in (by decide)) rfl rfl ?_
      refine n_goto (t := 27) C dL_score_12 (by decide) ?_
      refine n_iconst (v := (0 : Int32)) C dL_score_27 (by decide) rfl ?_
      exact n_iret C dL_score_28
  · cases hz : z.1 with
    | inr v => rw [hz] at hE; cases hE
    | inl E9 =>
      have hk := hk E9 hz
      rw [hz] at hE
      obtain rfl := Sum.inl.inj hE
      simp only [List.mem_cons, List.not_mem_nil, or_false] at hk
      rcases hk with rfl | rfl | rfl
      · refine n_catch (name := "java/lang/IndexOutOfBoundsException") (hp := 15) C [] ⟨0, 12, 15, 19⟩ [⟨0, 12, 19, 13⟩, ⟨0, 12, 23, 28⟩] (by rw [htab]; rfl) (fun z hz9 => nomatch hz9) (by decide) (by decide) (List.mem_of_getElem? (i := 1) rfl) (CE.1.2.2.2.1 _ (by decide +kernel)).2.2.2 rfl (fun a => ?_)
        refine n_astore (lv' := [(5, .ref a), (0, .ref aX), (1, .int x1), (2, .int x2), (3, .int x3), (4, .ref aO)]) C dL_score_15 (by decide) rfl rfl ?_
        refine n_iconst (v := (1 : Int32)) C dL_score_17 (by decide) rfl ?_
        exact n_iret C dL_score_18
      · refine n_catch (name := "java/lang/IllegalArgumentException") (hp := 19) C [⟨0, 12, 15, 19⟩] ⟨0, 12, 19, 13⟩ [⟨0, 12, 23, 28⟩] (by rw [htab]; rfl) (fun z hz9 => by
          simp only [List.mem_cons, List.not_mem_nil, or_false] at hz9
          subst hz9
          · exact Or.inr ⟨by decide, "java/lang/IndexOutOfBoundsException", C.ts _ (List.mem_of_getElem? (i := 1) rfl), CE.2.1⟩) (by decide) (by decide) (List.mem_of_getElem? (i := 2) rfl) (CE.1.2.2.2.1 _ (by decide +kernel)).2.2.2 rfl (fun a => ?_)
        refine n_astore (lv' := [(5, .ref a), (0, .ref aX), (1, .int x1), (2, .int x2), (3, .int x3), (4, .ref aO)]) C dL_score_19 (by decide) rfl rfl ?_
        refine n_iconst (v := (2 : Int32)) C dL_score_21 (by decide) rfl ?_
        exact n_iret C dL_score_22
      · refine n_catch (name := "java/lang/IllegalStateException") (hp := 23) C [⟨0, 12, 15, 19⟩, ⟨0, 12, 19, 13⟩] ⟨0, 12, 23, 28⟩ [] (by rw [htab]; rfl) (fun z hz9 => by
          simp only [List.mem_cons, List.not_mem_nil, or_false] at hz9
          rcases hz9 with rfl | rfl
          · exact Or.inr ⟨by decide, "java/lang/IndexOutOfBoundsException", C.ts _ (List.mem_of_getElem? (i := 1) rfl), CE.2.2.1⟩
          · exact Or.inr ⟨by decide, "java/lang/IllegalArgumentException", C.ts _ (List.mem_of_getElem? (i := 2) rfl), CE.2.2.2⟩) (by decide) (by decide) (List.mem_of_getElem? (i := 3) rfl) (CE.1.2.2.2.1 _ (by decide +kernel)).2.2.2 rfl (fun a => ?_)
        refine n_astore (lv' := [(5, .ref a), (0, .ref aX), (1, .int x1), (2, .int x2), (3, .int x3), (4, .ref aO)]) C dL_score_23 (by decide) rfl rfl ?_
        refine n_iconst (v := (3 : Int32)) C dL_score_25 (by decide) rfl ?_
        exact n_iret C dL_score_26
-- L walkover
abbrev rmL_walkover : Room := { frames := 7, cells := 1, slots := 6, locals := 135 }
set_option maxHeartbeats 4000000 in
set_option maxRecDepth 100000 in
theorem kL_walkover (l : Launch) (hls : l.stackTraces = false) (D : va_G) (cyI cyO cyJ : ClassId) (aO : Nat) (aX : Nat) (aS : Nat → Nat) (aG : Nat → Nat) (aL : Nat → Nat) (aU : Nat → Nat) (aV : Nat → Nat) (aB : Nat → Nat) (aH : Nat → Nat) (n : Nat) (oO : Nat → Int64) (oS : OB) (oG : OB) (oL : OB) (oU : OB) (oV : OB) (oB : OB) (oH : HS) (x1 : Int32) (x2 : Int32) (z : (String ⊕ Int32) × (OB) × (OB) × (HS)) (hf : f5_walkover n oS oG oL oU oV oB oH x1 x2 = some z) (hk : ∀ E, z.1 = .inl E → E ∈ (["java/lang/IndexOutOfBoundsException", "java/lang/IllegalStateException"] : List String)) : Cw l D (tyG cyI cyO cyJ) yL_walkover wsL_walkover rmL_walkover [.ref aX, .int x1, .int x2, .ref aO] ([(aO, .inl (cyJ, 1, .inr (.inl oO)))] ++ ([(aX, .inr (5, [.ref (aL 0), .ref (aS 0), .ref (aG 0), .ref (aH 0), .ref (aB 0), .ref (aV 0), .ref (aU 0)]))] ++ (bX4 cyI aS oS ++ (bX3 cyI aG oG ++ (bX1 cyI aL oL ++ (bX4 cyI aU oU ++ (bX1 cyI aV oV ++ (bX2 cyI aB oB ++ bHS cyI cyO aH oH)))))))) ([(aO, .inl (cyJ, 1, .inr (.inl (uO oO z.1))))] ++ ([(aX, .inr (5, [.ref (aL 0), .ref (aS 0), .ref (aG 0), .ref (aH 0), .ref (aB 0), .ref (aV 0), .ref (aU 0)]))] ++ (bX4 cyI aS z.2.1 ++ (bX3 cyI aG oG ++ (bX1 cyI aL z.2.2.1 ++ (bX4 cyI aU oU ++ (bX1 cyI aV oV ++ (bX2 cyI aB oB ++ bHS cyI cyO aH z.2.2.2)))))))) (some (.int (kO ["java/lang/IndexOutOfBoundsException", "java/lang/IllegalStateException"] z.1))) := by
  refine Cw.of (cc := cL_walkover) (nL := 5) (ret := some .int) (hh := [(0, 10, 13, 19), (0, 10, 17, 28)]) (lv := [(0, .ref aX), (1, .int x1), (2, .int x2), (3, .ref aO)]) (by decide +kernel) rfl rfl (Nat.le_of_ble_eq_true rfl) ?_
  intro p e s m args below meth c A C CE htab
  have C : Cx p s m args meth c D (tyG cyI cyO cyJ) A RL cL_walkover 5 (some .int) wsL_walkover := C
  refine n_aload_n C dL_walkover_0 3 rfl rfl ?_
  refine n_iconst (v := (0 : Int32)) C dL_walkover_1 (by decide) rfl ?_
  refine n_aload_n C dL_walkover_2 0 rfl rfl ?_
  refine n_iload_n C dL_walkover_3 1 rfl rfl ?_
  refine n_iload_n C dL_walkover_4 2 rfl rfl ?_
  refine n_callX (As := [.int x1, .int x2]) (rest := [.int (0 : Int32), .ref aO]) (w2 := [(aO, .inl (cyJ, 1, .inr (.inl oO)))] ++ ([(aX, .inr (5, [.ref (aL 0), .ref (aS 0), .ref (aG 0), .ref (aH 0), .ref (aB 0), .ref (aV 0), .ref (aU 0)]))] ++ (bX4 cyI aS z.2.1 ++ (bX3 cyI aG oG ++ (bX1 cyI aL z.2.2.1 ++ (bX4 cyI aU oU ++ (bX1 cyI aV oV ++ (bX2 cyI aB oB ++ bHS cyI cyO aH z.2.2.2)))))))) C CE dL_walkover_5 (c5_walkover l hls D cyI cyO cyJ aX aS aG aL aU aV aB aH n oS oG oL oU oV oB oH x1 x2 z hf) (cwV 2 C.ts gL_walkover_X5_walkover rfl rfl rfl (by decide +kernel) ⟨Nat.le_of_ble_eq_true rfl, Nat.le_of_ble_eq_true rfl⟩) rfl (q0 := 0) (ci := 5) rfl rfl (Frm.skip Frm.self) rfl (Nat.le_of_ble_eq_true rfl) ⟨Nat.le_of_ble_eq_true rfl, Nat.le_of_ble_eq_true rfl⟩ (fun r hr => ?_) (fun E hE => ?_)
  · cases hz : z.1 with
    | inl E => rw [hz] at hr; cases hr
    | inr v =>
      rw [hz] at hr
      obtain rfl := Sum.inr.inj hr
      refine n_i2l C dL_walkover_8 rfl ?_
      refine n_last (w2 := [(aO, .inl (cyJ, 1, .inr (.inl (vp_updL oO 0 v.toInt64))))] ++ ([(aX, .inr (5, [.ref (aL 0), .ref (aS 0), .ref (aG 0), .ref (aH 0), .ref (aB 0), .ref (aV 0), .ref (aU 0)]))] ++ (bX4 cyI aS z.2.1 ++ (bX3 cyI aG oG ++ (bX1 cyI aL z.2.2.1 ++ (bX4 cyI aU oU ++ (bX1 cyI aV oV ++ (bX2 cyI aB oB ++ bHS cyI cyO aH z.2.2.2)))))))) C dL_walkover_9 0 2 rfl rfl (ck_in (by decide)) rfl rfl ?_
      refine n_goto (t := 21) C dL_walkover_10 (by decide) ?_
      refine n_iconst (v := (0 : Int32)) C dL_walkover_21 (by decide) rfl ?_
      exact n_iret C dL_walkover_22
  · cases hz : z.1 with
    | inr v => rw [hz] at hE; cases hE
    | inl E9 =>
      have hk := hk E9 hz
      rw [hz] at hE
      obtain rfl := Sum.inl.inj hE
      simp only [List.mem_cons, List.not_mem_nil, or_false] at hk
      rcases hk with rfl | rfl
      · refine n_catch (name := "java/lang/IndexOutOfBoundsException") (hp := 13) C [] ⟨0, 10, 13, 19⟩ [⟨0, 10, 17, 28⟩] (by rw [htab]; rfl) (fun z hz9 => nomatch hz9) (by decide) (by decide) (List.mem_of_getElem? (i := 1) rfl) (CE.1.2.2.2.1 _ (by decide +kernel)).2.2.2 rfl (fun a => ?_)
        refine n_astore (lv' := [(4, .ref a), (0, .ref aX), (1, .int x1), (2, .int x2), (3, .ref aO)]) C dL_walkover_13 (by decide) rfl rfl ?_
        refine n_iconst (v := (1 : Int32)) C dL_walkover_15 (by decide) rfl ?_
        exact n_iret C dL_walkover_16
      · refine n_catch (name := "java/lang/IllegalStateException") (hp := 17) C [⟨0, 10, 13, 19⟩] ⟨0, 10, 17, 28⟩ [] (by rw [htab]; rfl) (fun z hz9 => by
          simp only [List.mem_cons, List.not_mem_nil, or_false] at hz9
          subst hz9
          · exact Or.inr ⟨by decide, "java/lang/IndexOutOfBoundsException", C.ts _ (List.mem_of_getElem? (i := 1) rfl), CE.2.2.1⟩) (by decide) (by decide) (List.mem_of_getElem? (i := 2) rfl) (CE.1.2.2.2.1 _ (by decide +kernel)).2.2.2 rfl (fun a => ?_)
        refine n_astore (lv' := [(4, .ref a), (0, .ref aX), (1, .int x1), (2, .int x2), (3, .ref aO)]) C dL_walkover_17 (by decide) rfl rfl ?_
        refine n_iconst (v := (2 : Int32)) C dL_walkover_19 (by decide) rfl ?_
        exact n_iret C dL_walkover_20
-- L annul
abbrev rmL_annul : Room := { frames := 7, cells := 1, slots := 6, locals := 104 }
set_option maxHeartbeats 4000000 in
set_option maxRecDepth 100000 in
theorem kL_annul (l : Launch) (hls : l.stackTraces = false) (D : va_G) (cyI cyO cyJ : ClassId) (aO : Nat) (aX : Nat) (aS : Nat → Nat) (aG : Nat → Nat) (aL : Nat → Nat) (aU : Nat → Nat) (aV : Nat → Nat) (aB : Nat → Nat) (aH : Nat → Nat) (n : Nat) (oO : Nat → Int64) (oS : OB) (oG : OB) (oL : OB) (oU : OB) (oV : OB) (oB : OB) (oH : HS) (x1 : Int32) (z : (String ⊕ Int32) × (OB) × (HS)) (hf : f5_annul n oS oG oL oU oV oB oH x1 = some z) (hk : ∀ E, z.1 = .inl E → E ∈ (["java/lang/IndexOutOfBoundsException"] : List String)) : Cw l D (tyG cyI cyO cyJ) yL_annul wsL_annul rmL_annul [.ref aX, .int x1, .ref aO] ([(aO, .inl (cyJ, 1, .inr (.inl oO)))] ++ ([(aX, .inr (5, [.ref (aL 0), .ref (aS 0), .ref (aG 0), .ref (aH 0), .ref (aB 0), .ref (aV 0), .ref (aU 0)]))] ++ (bX4 cyI aS oS ++ (bX3 cyI aG oG ++ (bX1 cyI aL oL ++ (bX4 cyI aU oU ++ (bX1 cyI aV oV ++ (bX2 cyI aB oB ++ bHS cyI cyO aH oH)))))))) ([(aO, .inl (cyJ, 1, .inr (.inl (uO oO z.1))))] ++ ([(aX, .inr (5, [.ref (aL 0), .ref (aS 0), .ref (aG 0), .ref (aH 0), .ref (aB 0), .ref (aV 0), .ref (aU 0)]))] ++ (bX4 cyI aS oS ++ (bX3 cyI aG oG ++ (bX1 cyI aL z.2.1 ++ (bX4 cyI aU oU ++ (bX1 cyI aV oV ++ (bX2 cyI aB oB ++ bHS cyI cyO aH z.2.2)))))))) (some (.int (kO ["java/lang/IndexOutOfBoundsException"] z.1))) := by
  refine Cw.of (cc := cL_annul) (nL := 4) (ret := some .int) (hh := [(0, 9, 12, 19)]) (lv := [(0, .ref aX), (1, .int x1), (2, .ref aO)]) (by decide +kernel) rfl rfl (Nat.le_of_ble_eq_true rfl) ?_
  intro p e s m args below meth c A C CE htab
  have C : Cx p s m args meth c D (tyG cyI cyO cyJ) A RL cL_annul 4 (some .int) wsL_annul := C
  refine n_aload_n C dL_annul_0 2 rfl rfl ?_
  refine n_iconst (v := (0 : Int32)) C dL_annul_1 (by decide) rfl ?_
  refine n_aload_n C dL_annul_2 0 rfl rfl ?_
  refine n_iload_n C dL_annul_3 1 rfl rfl ?_
  refine n_callX (As := [.int x1]) (rest := [.int (0 : Int32), .ref aO]) (w2 := [(aO, .inl (cyJ, 1, .inr (.inl oO)))] ++ ([(aX, .inr (5, [.ref (aL 0), .ref (aS 0), .ref (aG 0), .ref (aH 0), .ref (aB 0), .ref (aV 0), .ref (aU 0)]))] ++ (bX4 cyI aS oS ++ (bX3 cyI aG oG ++ (bX1 cyI aL z.2.1 ++ (bX4 cyI aU oU ++ (bX1 cyI aV oV ++ (bX2 cyI aB oB ++ bHS cyI cyO aH z.2.2)))))))) C CE dL_annul_4 (c5_annul l hls D cyI cyO cyJ aX aS aG aL aU aV aB aH n oS oG oL oU oV oB oH x1 z hf) (cwV 1 C.ts gL_annul_X5_annul rfl rfl rfl (by decide +kernel) ⟨Nat.le_of_ble_eq_true rfl, Nat.le_of_ble_eq_true rfl⟩) rfl (q0 := 0) (ci := 5) rfl rfl (Frm.skip Frm.self) rfl (Nat.le_of_ble_eq_true rfl) ⟨Nat.le_of_ble_eq_true rfl, Nat.le_of_ble_eq_true rfl⟩ (fun r hr => ?_) (fun E hE => ?_)
  · cases hz : z.1 with
    | inl E => rw [hz] at hr; cases hr
    | inr v =>
      rw [hz] at hr
      obtain rfl := Sum.inr.inj hr
      refine n_i2l C dL_annul_7 rfl ?_
      refine n_last (w2 := [(aO, .inl (cyJ, 1, .inr (.inl (vp_updL oO 0 v.toInt64))))] ++ ([(aX, .inr (5, [.ref (aL 0), .ref (aS 0), .ref (aG 0), .ref (aH 0), .ref (aB 0), .ref (aV 0), .ref (aU 0)]))] ++ (bX4 cyI aS oS ++ (bX3 cyI aG oG ++ (bX1 cyI aL z.2.1 ++ (bX4 cyI aU oU ++ (bX1 cyI aV oV ++ (bX2 cyI aB oB ++ bHS cyI cyO aH z.2.2)))))))) C dL_annul_8 0 2 rfl rfl (ck_in (by decide)) rfl rfl ?_
      refine n_goto (t := 15) C dL_annul_9 (by decide) ?_
      refine n_iconst (v := (0 : Int32)) C dL_annul_15 (by decide) rfl ?_
      exact n_iret C dL_annul_16
  · cases hz : z.1 with
    | inr v => rw [hz] at hE; cases hE
    | inl E9 =>
      have hk := hk E9 hz
      rw [hz] at hE
      obtain rfl := Sum.inl.inj hE
      simp only [List.mem_cons, List.not_mem_nil, or_false] at hk
      subst hk
      · refine n_catch (name := "java/lang/IndexOutOfBoundsException") (hp := 12) C [] ⟨0, 9, 12, 19⟩ [] (by rw [htab]; rfl) (fun z hz9 => nomatch hz9) (by decide) (by decide) (List.mem_of_getElem? (i := 1) rfl) (CE.1.2.2.2.1 _ (by decide +kernel)).2.2.2 rfl (fun a => ?_)
        refine n_astore_n (lv' := [(3, .ref a), (0, .ref aX), (1, .int x1), (2, .ref aO)]) C dL_annul_12 (by decide) rfl rfl ?_
        refine n_iconst (v := (1 : Int32)) C dL_annul_13 (by decide) rfl ?_
        exact n_iret C dL_annul_14
-- L set
abbrev rmL_set : Room := { frames := 7, cells := 1, slots := 6, locals := 105 }
set_option maxHeartbeats 4000000 in
set_option maxRecDepth 100000 in
theorem kL_set (l : Launch) (hls : l.stackTraces = false) (D : va_G) (cyI cyO cyJ : ClassId) (aO : Nat) (aX : Nat) (aS : Nat → Nat) (aG : Nat → Nat) (aL : Nat → Nat) (aU : Nat → Nat) (aV : Nat → Nat) (aB : Nat → Nat) (aH : Nat → Nat) (n : Nat) (oO : Nat → Int64) (oS : OB) (oG : OB) (oL : OB) (oU : OB) (oV : OB) (oB : OB) (oH : HS) (x1 : Int32) (x2 : Int32) (z : (String ⊕ Int32) × (OB) × (HS)) (hf : f5_set n oS oG oL oU oV oB oH x1 x2 = some z) (hk : ∀ E, z.1 = .inl E → E ∈ (["java/lang/IndexOutOfBoundsException", "java/lang/IllegalArgumentException"] : List String)) : Cw l D (tyG cyI cyO cyJ) yL_set wsL_set rmL_set [.ref aX, .int x1, .int x2, .ref aO] ([(aO, .inl (cyJ, 1, .inr (.inl oO)))] ++ ([(aX, .inr (5, [.ref (aL 0), .ref (aS 0), .ref (aG 0), .ref (aH 0), .ref (aB 0), .ref (aV 0), .ref (aU 0)]))] ++ (bX4 cyI aS oS ++ (bX3 cyI aG oG ++ (bX1 cyI aL oL ++ (bX4 cyI aU oU ++ (bX1 cyI aV oV ++ (bX2 cyI aB oB ++ bHS cyI cyO aH oH)))))))) ([(aO, .inl (cyJ, 1, .inr (.inl (uO oO z.1))))] ++ ([(aX, .inr (5, [.ref (aL 0), .ref (aS 0), .ref (aG 0), .ref (aH 0), .ref (aB 0), .ref (aV 0), .ref (aU 0)]))] ++ (bX4 cyI aS oS ++ (bX3 cyI aG oG ++ (bX1 cyI aL z.2.1 ++ (bX4 cyI aU oU ++ (bX1 cyI aV oV ++ (bX2 cyI aB oB ++ bHS cyI cyO aH z.2.2)))))))) (some (.int (kO ["java/lang/IndexOutOfBoundsException", "java/lang/IllegalArgumentException"] z.1))) := by
  refine Cw.of (cc := cL_set) (nL := 5) (ret := some .int) (hh := [(0, 10, 13, 19), (0, 10, 17, 13)]) (lv := [(0, .ref aX), (1, .int x1), (2, .int x2), (3, .ref aO)]) (by decide +kernel) rfl rfl (Nat.le_of_ble_eq_true rfl) ?_
  intro p e s m args below meth c A C CE htab
  have C : Cx p s m args meth c D (tyG cyI cyO cyJ) A RL cL_set 5 (some .int) wsL_set := C
  refine n_aload_n C dL_set_0 3 rfl rfl ?_
  refine n_iconst (v := (0 : Int32)) C dL_set_1 (by decide) rfl ?_
  refine n_aload_n C dL_set_2 0 rfl rfl ?_
  refine n_iload_n C dL_set_3 1 rfl rfl ?_
  refine n_iload_n C dL_set_4 2 rfl rfl ?_
  refine n_callX (As := [.int x1, .int x2]) (rest := [.int (0 : Int32), .ref aO]) (w2 := [(aO, .inl (cyJ, 1, .inr (.inl oO)))] ++ ([(aX, .inr (5, [.ref (aL 0), .ref (aS 0), .ref (aG 0), .ref (aH 0), .ref (aB 0), .ref (aV 0), .ref (aU 0)]))] ++ (bX4 cyI aS oS ++ (bX3 cyI aG oG ++ (bX1 cyI aL z.2.1 ++ (bX4 cyI aU oU ++ (bX1 cyI aV oV ++ (bX2 cyI aB oB ++ bHS cyI cyO aH z.2.2)))))))) C CE dL_set_5 (c5_set l hls D cyI cyO cyJ aX aS aG aL aU aV aB aH n oS oG oL oU oV oB oH x1 x2 z hf) (cwV 2 C.ts gL_set_X5_set rfl rfl rfl (by decide +kernel) ⟨Nat.le_of_ble_eq_true rfl, Nat.le_of_ble_eq_true rfl⟩) rfl (q0 := 0) (ci := 5) rfl rfl (Frm.skip Frm.self) rfl (Nat.le_of_ble_eq_true rfl) ⟨Nat.le_of_ble_eq_true rfl, Nat.le_of_ble_eq_true rfl⟩ (fun r hr => ?_) (fun E hE => ?_)
  · cases hz : z.1 with
    | inl E => rw [hz] at hr; cases hr
    | inr v =>
      rw [hz] at hr
      obtain rfl := Sum.inr.inj hr
      refine n_i2l C dL_set_8 rfl ?_
      refine n_last (w2 := [(aO, .inl (cyJ, 1, .inr (.inl (vp_updL oO 0 v.toInt64))))] ++ ([(aX, .inr (5, [.ref (aL 0), .ref (aS 0), .ref (aG 0), .ref (aH 0), .ref (aB 0), .ref (aV 0), .ref (aU 0)]))] ++ (bX4 cyI aS oS ++ (bX3 cyI aG oG ++ (bX1 cyI aL z.2.1 ++ (bX4 cyI aU oU ++ (bX1 cyI aV oV ++ (bX2 cyI aB oB ++ bHS cyI cyO aH z.2.2)))))))) C dL_set_9 0 2 rfl rfl (ck_in (by decide)) rfl rfl ?_
      refine n_goto (t := 21) C dL_set_10 (by decide) ?_
      refine n_iconst (v := (0 : Int32)) C dL_set_21 (by decide) rfl ?_
      exact n_iret C dL_set_22
  · cases hz : z.1 with
    | inr v => rw [hz] at hE; cases hE
    | inl E9 =>
      have hk := hk E9 hz
      rw [hz] at hE
      obtain rfl := Sum.inl.inj hE
      simp only [List.mem_cons, List.not_mem_nil, or_false] at hk
      rcases hk with rfl | rfl
      · refine n_catch (name := "java/lang/IndexOutOfBoundsException") (hp := 13) C [] ⟨0, 10, 13, 19⟩ [⟨0, 10, 17, 13⟩] (by rw [htab]; rfl) (fun z hz9 => nomatch hz9) (by decide) (by decide) (List.mem_of_getElem? (i := 1) rfl) (CE.1.2.2.2.1 _ (by decide +kernel)).2.2.2 rfl (fun a => ?_)
        refine n_astore (lv' := [(4, .ref a), (0, .ref aX), (1, .int x1), (2, .int x2), (3, .ref aO)]) C dL_set_13 (by decide) rfl rfl ?_
        refine n_iconst (v := (1 : Int32)) C dL_set_15 (by decide) rfl ?_
        exact n_iret C dL_set_16
      · refine n_catch (name := "java/lang/IllegalArgumentException") (hp := 17) C [⟨0, 10, 13, 19⟩] ⟨0, 10, 17, 13⟩ [] (by rw [htab]; rfl) (fun z hz9 => by
          simp only [List.mem_cons, List.not_mem_nil, or_false] at hz9
          subst hz9
          · exact Or.inr ⟨by decide, "java/lang/IndexOutOfBoundsException", C.ts _ (List.mem_of_getElem? (i := 1) rfl), CE.2.1⟩) (by decide) (by decide) (List.mem_of_getElem? (i := 2) rfl) (CE.1.2.2.2.1 _ (by decide +kernel)).2.2.2 rfl (fun a => ?_)
        refine n_astore (lv' := [(4, .ref a), (0, .ref aX), (1, .int x1), (2, .int x2), (3, .ref aO)]) C dL_set_17 (by decide) rfl rfl ?_
        refine n_iconst (v := (2 : Int32)) C dL_set_19 (by decide) rfl ?_
        exact n_iret C dL_set_20
-- L append
abbrev rmL_append : Room := { frames := 7, cells := 1, slots := 6, locals := 103 }
set_option maxHeartbeats 4000000 in
set_option maxRecDepth 100000 in
theorem kL_append (l : Launch) (hls : l.stackTraces = false) (D : va_G) (cyI cyO cyJ : ClassId) (aO : Nat) (aX : Nat) (aS : Nat → Nat) (aG : Nat → Nat) (aL : Nat → Nat) (aU : Nat → Nat) (aV : Nat → Nat) (aB : Nat → Nat) (aH : Nat → Nat) (n : Nat) (oO : Nat → Int64) (oS : OB) (oG : OB) (oL : OB) (oU : OB) (oV : OB) (oB : OB) (oH : HS) (x1 : Int32) (z : (String ⊕ Int32) × (OB)) (hf : f5_append n oS oG oL oU oV oB oH x1 = some z) (hk : ∀ E, z.1 = .inl E → E ∈ (["java/lang/IllegalArgumentException", "java/lang/IllegalStateException"] : List String)) : Cw l D (tyG cyI cyO cyJ) yL_append wsL_append rmL_append [.ref aX, .int x1, .ref aO] ([(aO, .inl (cyJ, 1, .inr (.inl oO)))] ++ ([(aX, .inr (5, [.ref (aL 0), .ref (aS 0), .ref (aG 0), .ref (aH 0), .ref (aB 0), .ref (aV 0), .ref (aU 0)]))] ++ (bX4 cyI aS oS ++ (bX3 cyI aG oG ++ (bX1 cyI aL oL ++ (bX4 cyI aU oU ++ (bX1 cyI aV oV ++ (bX2 cyI aB oB ++ bHS cyI cyO aH oH)))))))) ([(aO, .inl (cyJ, 1, .inr (.inl (uO oO z.1))))] ++ ([(aX, .inr (5, [.ref (aL 0), .ref (aS 0), .ref (aG 0), .ref (aH 0), .ref (aB 0), .ref (aV 0), .ref (aU 0)]))] ++ (bX4 cyI aS oS ++ (bX3 cyI aG oG ++ (bX1 cyI aL oL ++ (bX4 cyI aU oU ++ (bX1 cyI aV oV ++ (bX2 cyI aB z.2 ++ bHS cyI cyO aH oH)))))))) (some (.int (kO ["java/lang/IllegalArgumentException", "java/lang/IllegalStateException"] z.1))) := by
  refine Cw.of (cc := cL_append) (nL := 4) (ret := some .int) (hh := [(0, 9, 12, 13), (0, 9, 15, 28)]) (lv := [(0, .ref aX), (1, .int x1), (2, .ref aO)]) (by decide +kernel) rfl rfl (Nat.le_of_ble_eq_true rfl) ?_
  intro p e s m args below meth c A C CE htab
  have C : Cx p s m args meth c D (tyG cyI cyO cyJ) A RL cL_append 4 (some .int) wsL_append := C
  refine n_aload_n C dL_append_0 2 rfl rfl ?_
  refine n_iconst (v := (0 : Int32)) C dL_append_1 (by decide) rfl ?_
  refine n_aload_n C dL_append_2 0 rfl rfl ?_
  refine n_iload_n C dL_append_3 1 rfl rfl ?_
  refine n_callX (As := [.int x1]) (rest := [.int (0 : Int32), .ref aO]) (w2 := [(aO, .inl (cyJ, 1, .inr (.inl oO)))] ++ ([(aX, .inr (5, [.ref (aL 0), .ref (aS 0), .ref (aG 0), .ref (aH 0), .ref (aB 0), .ref (aV 0), .ref (aU 0)]))] ++ (bX4 cyI aS oS ++ (bX3 cyI aG oG ++ (bX1 cyI aL oL ++ (bX4 cyI aU oU ++ (bX1 cyI aV oV ++ (bX2 cyI aB z.2 ++ bHS cyI cyO aH oH)))))))) C CE dL_append_4 (c5_append l hls D cyI cyO cyJ aX aS aG aL aU aV aB aH n oS oG oL oU oV oB oH x1 z hf) (cwV 1 C.ts gL_append_X5_append rfl rfl rfl (by decide +kernel) ⟨Nat.le_of_ble_eq_true rfl, Nat.le_of_ble_eq_true rfl⟩) rfl (q0 := 0) (ci := 5) rfl rfl (Frm.skip Frm.self) rfl (Nat.le_of_ble_eq_true rfl) ⟨Nat.le_of_ble_eq_true rfl, Nat.le_of_ble_eq_true rfl⟩ (fun r hr => ?_) (fun E hE => ?_)
  · cases hz : z.1 with
    | inl E => rw [hz] at hr; cases hr
    | inr v =>
      rw [hz] at hr
      obtain rfl := Sum.inr.inj hr
      refine n_i2l C dL_append_7 rfl ?_
      refine n_last (w2 := [(aO, .inl (cyJ, 1, .inr (.inl (vp_updL oO 0 v.toInt64))))] ++ ([(aX, .inr (5, [.ref (aL 0), .ref (aS 0), .ref (aG 0), .ref (aH 0), .ref (aB 0), .ref (aV 0), .ref (aU 0)]))] ++ (bX4 cyI aS oS ++ (bX3 cyI aG oG ++ (bX1 cyI aL oL ++ (bX4 cyI aU oU ++ (bX1 cyI aV oV ++ (bX2 cyI aB z.2 ++ bHS cyI cyO aH oH)))))))) C dL_append_8 0 2 rfl rfl (ck_in (by decide)) rfl rfl ?_
      refine n_goto (t := 18) C dL_append_9 (by decide) ?_
      refine n_iconst (v := (0 : Int32)) C dL_append_18 (by decide) rfl ?_
      exact n_iret C dL_append_19
  · cases hz : z.1 with
    | inr v => rw [hz] at hE; cases hE
    | inl E9 =>
      have hk := hk E9 hz
      rw [hz] at hE
      obtain rfl := Sum.inl.inj hE
      simp only [List.mem_cons, List.not_mem_nil, or_false] at hk
      rcases hk with rfl | rfl
      · refine n_catch (name := "java/lang/IllegalArgumentException") (hp := 12) C [] ⟨0, 9, 12, 13⟩ [⟨0, 9, 15, 28⟩] (by rw [htab]; rfl) (fun z hz9 => nomatch hz9) (by decide) (by decide) (List.mem_of_getElem? (i := 1) rfl) (CE.1.2.2.2.1 _ (by decide +kernel)).2.2.2 rfl (fun a => ?_)
        refine n_astore_n (lv' := [(3, .ref a), (0, .ref aX), (1, .int x1), (2, .ref aO)]) C dL_append_12 (by decide) rfl rfl ?_
        refine n_iconst (v := (1 : Int32)) C dL_append_13 (by decide) rfl ?_
        exact n_iret C dL_append_14
      · refine n_catch (name := "java/lang/IllegalStateException") (hp := 15) C [⟨0, 9, 12, 13⟩] ⟨0, 9, 15, 28⟩ [] (by rw [htab]; rfl) (fun z hz9 => by
          simp only [List.mem_cons, List.not_mem_nil, or_false] at hz9
          subst hz9
          · exact Or.inr ⟨by decide, "java/lang/IllegalArgumentException", C.ts _ (List.mem_of_getElem? (i := 1) rfl), CE.2.2.2⟩) (by decide) (by decide) (List.mem_of_getElem? (i := 2) rfl) (CE.1.2.2.2.1 _ (by decide +kernel)).2.2.2 rfl (fun a => ?_)
        refine n_astore_n (lv' := [(3, .ref a), (0, .ref aX), (1, .int x1), (2, .ref aO)]) C dL_append_15 (by decide) rfl rfl ?_
        refine n_iconst (v := (2 : Int32)) C dL_append_16 (by decide) rfl ?_
        exact n_iret C dL_append_17
-- L report
abbrev rmL_report : Room := { frames := 7, cells := 1, slots := 6, locals := 108 }
set_option maxHeartbeats 4000000 in
set_option maxRecDepth 100000 in
theorem kL_report (l : Launch) (hls : l.stackTraces = false) (D : va_G) (cyI cyO cyJ : ClassId) (aO : Nat) (aX : Nat) (aS : Nat → Nat) (aG : Nat → Nat) (aL : Nat → Nat) (aU : Nat → Nat) (aV : Nat → Nat) (aB : Nat → Nat) (aH : Nat → Nat) (n : Nat) (oO : Nat → Int64) (oS : OB) (oG : OB) (oL : OB) (oU : OB) (oV : OB) (oB : OB) (oH : HS) (z : (String ⊕ Int32) × (OB) × (OB) × (HS)) (hf : f5_report n oS oG oL oU oV oB oH = some z) (hk : ∀ E, z.1 = .inl E → E ∈ (["java/lang/IllegalArgumentException", "java/lang/IllegalStateException"] : List String)) : Cw l D (tyG cyI cyO cyJ) yL_report wsL_report rmL_report [.ref aX, .ref aO] ([(aO, .inl (cyJ, 1, .inr (.inl oO)))] ++ ([(aX, .inr (5, [.ref (aL 0), .ref (aS 0), .ref (aG 0), .ref (aH 0), .ref (aB 0), .ref (aV 0), .ref (aU 0)]))] ++ (bX4 cyI aS oS ++ (bX3 cyI aG oG ++ (bX1 cyI aL oL ++ (bX4 cyI aU oU ++ (bX1 cyI aV oV ++ (bX2 cyI aB oB ++ bHS cyI cyO aH oH)))))))) ([(aO, .inl (cyJ, 1, .inr (.inl (uO oO z.1))))] ++ ([(aX, .inr (5, [.ref (aL 0), .ref (aS 0), .ref (aG 0), .ref (aH 0), .ref (aB 0), .ref (aV 0), .ref (aU 0)]))] ++ (bX4 cyI aS oS ++ (bX3 cyI aG oG ++ (bX1 cyI aL z.2.1 ++ (bX4 cyI aU oU ++ (bX1 cyI aV oV ++ (bX2 cyI aB z.2.2.1 ++ bHS cyI cyO aH z.2.2.2)))))))) (some (.int (kO ["java/lang/IllegalArgumentException", "java/lang/IllegalStateException"] z.1))) := by
  refine Cw.of (cc := cL_report) (nL := 3) (ret := some .int) (hh := [(0, 8, 11, 13), (0, 8, 14, 28)]) (lv := [(0, .ref aX), (1, .ref aO)]) (by decide +kernel) rfl rfl (Nat.le_of_ble_eq_true rfl) ?_
  intro p e s m args below meth c A C CE htab
  have C : Cx p s m args meth c D (tyG cyI cyO cyJ) A RL cL_report 3 (some .int) wsL_report := C
  refine n_aload_n C dL_report_0 1 rfl rfl ?_
  refine n_iconst (v := (0 : Int32)) C dL_report_1 (by decide) rfl ?_
  refine n_aload_n C dL_report_2 0 rfl rfl ?_
  refine n_callX (As := []) (rest := [.int (0 : Int32), .ref aO]) (w2 := [(aO, .inl (cyJ, 1, .inr (.inl oO)))] ++ ([(aX, .inr (5, [.ref (aL 0), .ref (aS 0), .ref (aG 0), .ref (aH 0), .ref (aB 0), .ref (aV 0), .ref (aU 0)]))] ++ (bX4 cyI aS oS ++ (bX3 cyI aG oG ++ (bX1 cyI aL z.2.1 ++ (bX4 cyI aU oU ++ (bX1 cyI aV oV ++ (bX2 cyI aB z.2.2.1 ++ bHS cyI cyO aH z.2.2.2)))))))) C CE dL_report_3 (c5_report l hls D cyI cyO cyJ aX aS aG aL aU aV aB aH n oS oG oL oU oV oB oH z hf) (cwV 0 C.ts gL_report_X5_report rfl rfl rfl (by decide +kernel) ⟨Nat.le_of_ble_eq_true rfl, Nat.le_of_ble_eq_true rfl⟩) rfl (q0 := 0) (ci := 5) rfl rfl (Frm.skip Frm.self) rfl (Nat.le_of_ble_eq_true rfl) ⟨Nat.le_of_ble_eq_true rfl, Nat.le_of_ble_eq_true rfl⟩ (fun r hr => ?_) (fun E hE => ?_)
  · cases hz : z.1 with
    | inl E => rw [hz] at hr; cases hr
    | inr v =>
      rw [hz] at hr
      obtain rfl := Sum.inr.inj hr
      refine n_i2l C dL_report_6 rfl ?_
      refine n_last (w2 := [(aO, .inl (cyJ, 1, .inr (.inl (vp_updL oO 0 v.toInt64))))] ++ ([(aX, .inr (5, [.ref (aL 0), .ref (aS 0), .ref (aG 0), .ref (aH 0), .ref (aB 0), .ref (aV 0), .ref (aU 0)]))] ++ (bX4 cyI aS oS ++ (bX3 cyI aG oG ++ (bX1 cyI aL z.2.1 ++ (bX4 cyI aU oU ++ (bX1 cyI aV oV ++ (bX2 cyI aB z.2.2.1 ++ bHS cyI cyO aH z.2.2.2)))))))) C dL_report_7 0 2 rfl rfl (ck_in (by decide)) rfl rfl ?_
      refine n_goto (t := 17) C dL_report_8 (by decide) ?_
      refine n_iconst (v := (0 : Int32)) C dL_report_17 (by decide) rfl ?_
      exact n_iret C dL_report_18
  · cases hz : z.1 with
    | inr v => rw [hz] at hE; cases hE
    | inl E9 =>
      have hk := hk E9 hz
      rw [hz] at hE
      obtain rfl := Sum.inl.inj hE
      simp only [List.mem_cons, List.not_mem_nil, or_false] at hk
      rcases hk with rfl | rfl
      · refine n_catch (name := "java/lang/IllegalArgumentException") (hp := 11) C [] ⟨0, 8, 11, 13⟩ [⟨0, 8, 14, 28⟩] (by rw [htab]; rfl) (fun z hz9 => nomatch hz9) (by decide) (by decide) (List.mem_of_getElem? (i := 1) rfl) (CE.1.2.2.2.1 _ (by decide +kernel)).2.2.2 rfl (fun a => ?_)
        refine n_astore_n (lv' := [(2, .ref a), (0, .ref aX), (1, .ref aO)]) C dL_report_11 (by decide) rfl rfl ?_
        refine n_iconst (v := (1 : Int32)) C dL_report_12 (by decide) rfl ?_
        exact n_iret C dL_report_13
      · refine n_catch (name := "java/lang/IllegalStateException") (hp := 14) C [⟨0, 8, 11, 13⟩] ⟨0, 8, 14, 28⟩ [] (by rw [htab]; rfl) (fun z hz9 => by
          simp only [List.mem_cons, List.not_mem_nil, or_false] at hz9
          subst hz9
          · exact Or.inr ⟨by decide, "java/lang/IllegalArgumentException", C.ts _ (List.mem_of_getElem? (i := 1) rfl), CE.2.2.2⟩) (by decide) (by decide) (List.mem_of_getElem? (i := 2) rfl) (CE.1.2.2.2.1 _ (by decide +kernel)).2.2.2 rfl (fun a => ?_)
        refine n_astore_n (lv' := [(2, .ref a), (0, .ref aX), (1, .ref aO)]) C dL_report_14 (by decide) rfl rfl ?_
        refine n_iconst (v := (2 : Int32)) C dL_report_15 (by decide) rfl ?_
        exact n_iret C dL_report_16
-- L undo
abbrev rmL_undo : Room := { frames := 7, cells := 1, slots := 6, locals := 102 }
set_option maxHeartbeats 4000000 in
set_option maxRecDepth 100000 in
theorem kL_undo (l : Launch) (hls : l.stackTraces = false) (D : va_G) (cyI cyO cyJ : ClassId) (aO : Nat) (aX : Nat) (aS : Nat → Nat) (aG : Nat → Nat) (aL : Nat → Nat) (aU : Nat → Nat) (aV : Nat → Nat) (aB : Nat → Nat) (aH : Nat → Nat) (n : Nat) (oO : Nat → Int64) (oS : OB) (oG : OB) (oL : OB) (oU : OB) (oV : OB) (oB : OB) (oH : HS) (z : (String ⊕ Int32) × (OB) × (HS)) (hf : f5_undo n oS oG oL oU oV oB oH = some z) (hk : ∀ E, z.1 = .inl E → E ∈ (["java/lang/IllegalStateException"] : List String)) : Cw l D (tyG cyI cyO cyJ) yL_undo wsL_undo rmL_undo [.ref aX, .ref aO] ([(aO, .inl (cyJ, 1, .inr (.inl oO)))] ++ ([(aX, .inr (5, [.ref (aL 0), .ref (aS 0), .ref (aG 0), .ref (aH 0), .ref (aB 0), .ref (aV 0), .ref (aU 0)]))] ++ (bX4 cyI aS oS ++ (bX3 cyI aG oG ++ (bX1 cyI aL oL ++ (bX4 cyI aU oU ++ (bX1 cyI aV oV ++ (bX2 cyI aB oB ++ bHS cyI cyO aH oH)))))))) ([(aO, .inl (cyJ, 1, .inr (.inl (uO oO z.1))))] ++ ([(aX, .inr (5, [.ref (aL 0), .ref (aS 0), .ref (aG 0), .ref (aH 0), .ref (aB 0), .ref (aV 0), .ref (aU 0)]))] ++ (bX4 cyI aS oS ++ (bX3 cyI aG oG ++ (bX1 cyI aL z.2.1 ++ (bX4 cyI aU oU ++ (bX1 cyI aV oV ++ (bX2 cyI aB oB ++ bHS cyI cyO aH z.2.2)))))))) (some (.int (kO ["java/lang/IllegalStateException"] z.1))) := by
  refine Cw.of (cc := cL_undo) (nL := 3) (ret := some .int) (hh := [(0, 8, 11, 28)]) (lv := [(0, .ref aX), (1, .ref aO)]) (by decide +kernel) rfl rfl (Nat.le_of_ble_eq_true rfl) ?_
  intro p e s m args below meth c A C CE htab
  have C : Cx p s m args meth c D (tyG cyI cyO cyJ) A RL cL_undo 3 (some .int) wsL_undo := C
  refine n_aload_n C dL_undo_0 1 rfl rfl ?_
  refine n_iconst (v := (0 : Int32)) C dL_undo_1 (by decide) rfl ?_
  refine n_aload_n C dL_undo_2 0 rfl rfl ?_
  refine n_callX (As := []) (rest := [.int (0 : Int32), .ref aO]) (w2 := [(aO, .inl (cyJ, 1, .inr (.inl oO)))] ++ ([(aX, .inr (5, [.ref (aL 0), .ref (aS 0), .ref (aG 0), .ref (aH 0), .ref (aB 0), .ref (aV 0), .ref (aU 0)]))] ++ (bX4 cyI aS oS ++ (bX3 cyI aG oG ++ (bX1 cyI aL z.2.1 ++ (bX4 cyI aU oU ++ (bX1 cyI aV oV ++ (bX2 cyI aB oB ++ bHS cyI cyO aH z.2.2)))))))) C CE dL_undo_3 (c5_undo l hls D cyI cyO cyJ aX aS aG aL aU aV aB aH n oS oG oL oU oV oB oH z hf) (cwV 0 C.ts gL_undo_X5_undo rfl rfl rfl (by decide +kernel) ⟨Nat.le_of_ble_eq_true rfl, Nat.le_of_ble_eq_true rfl⟩) rfl (q0 := 0) (ci := 5) rfl rfl (Frm.skip Frm.self) rfl (Nat.le_of_ble_eq_true rfl) ⟨Nat.le_of_ble_eq_true rfl, Nat.le_of_ble_eq_true rfl⟩ (fun r hr => ?_) (fun E hE => ?_)
  · cases hz : z.1 with
    | inl E => rw [hz] at hr; cases hr
    | inr v =>
      rw [hz] at hr
      obtain rfl := Sum.inr.inj hr
      refine n_i2l C dL_undo_6 rfl ?_
      refine n_last (w2 := [(aO, .inl (cyJ, 1, .inr (.inl (vp_updL oO 0 v.toInt64))))] ++ ([(aX, .inr (5, [.ref (aL 0), .ref (aS 0), .ref (aG 0), .ref (aH 0), .ref (aB 0), .ref (aV 0), .ref (aU 0)]))] ++ (bX4 cyI aS oS ++ (bX3 cyI aG oG ++ (bX1 cyI aL z.2.1 ++ (bX4 cyI aU oU ++ (bX1 cyI aV oV ++ (bX2 cyI aB oB ++ bHS cyI cyO aH z.2.2)))))))) C dL_undo_7 0 2 rfl rfl (ck_in (by decide)) rfl rfl ?_
      refine n_goto (t := 14) C dL_undo_8 (by decide) ?_
      refine n_iconst (v := (0 : Int32)) C dL_undo_14 (by decide) rfl ?_
      exact n_iret C dL_undo_15
  · cases hz : z.1 with
    | inr v => rw [hz] at hE; cases hE
    | inl E9 =>
      have hk := hk E9 hz
      rw [hz] at hE
      obtain rfl := Sum.inl.inj hE
      simp only [List.mem_cons, List.not_mem_nil, or_false] at hk
      subst hk
      · refine n_catch (name := "java/lang/IllegalStateException") (hp := 11) C [] ⟨0, 8, 11, 28⟩ [] (by rw [htab]; rfl) (fun z hz9 => nomatch hz9) (by decide) (by decide) (List.mem_of_getElem? (i := 1) rfl) (CE.1.2.2.2.1 _ (by decide +kernel)).2.2.2 rfl (fun a => ?_)
        refine n_astore_n (lv' := [(2, .ref a), (0, .ref aX), (1, .ref aO)]) C dL_undo_11 (by decide) rfl rfl ?_
        refine n_iconst (v := (1 : Int32)) C dL_undo_12 (by decide) rfl ?_
        exact n_iret C dL_undo_13
-- L match
abbrev rmL_match : Room := { frames := 7, cells := 1, slots := 6, locals := 104 }
set_option maxHeartbeats 4000000 in
set_option maxRecDepth 100000 in
theorem kL_match (l : Launch) (hls : l.stackTraces = false) (D : va_G) (cyI cyO cyJ : ClassId) (aO : Nat) (aX : Nat) (aS : Nat → Nat) (aG : Nat → Nat) (aL : Nat → Nat) (aU : Nat → Nat) (aV : Nat → Nat) (aB : Nat → Nat) (aH : Nat → Nat) (n : Nat) (oO : Nat → Int64) (oS : OB) (oG : OB) (oL : OB) (oU : OB) (oV : OB) (oB : OB) (oH : HS) (x1 : Int32) (x2 : Int32) (z : (String ⊕ Int32)) (hf : f5_match n oS oG oL oU oV oB oH x1 x2 = some z) (hk : ∀ E, z = .inl E → E ∈ (["java/lang/IndexOutOfBoundsException", "java/lang/IllegalArgumentException"] : List String)) : Cw l D (tyG cyI cyO cyJ) yL_match wsL_match rmL_match [.ref aX, .int x1, .int x2, .ref aO] ([(aO, .inl (cyJ, 1, .inr (.inl oO)))] ++ ([(aX, .inr (5, [.ref (aL 0), .ref (aS 0), .ref (aG 0), .ref (aH 0), .ref (aB 0), .ref (aV 0), .ref (aU 0)]))] ++ (bX4 cyI aS oS ++ (bX3 cyI aG oG ++ (bX1 cyI aL oL ++ (bX4 cyI aU oU ++ (bX1 cyI aV oV ++ (bX2 cyI aB oB ++ bHS cyI cyO aH oH)))))))) ([(aO, .inl (cyJ, 1, .inr (.inl (uO oO z))))] ++ ([(aX, .inr (5, [.ref (aL 0), .ref (aS 0), .ref (aG 0), .ref (aH 0), .ref (aB 0), .ref (aV 0), .ref (aU 0)]))] ++ (bX4 cyI aS oS ++ (bX3 cyI aG oG ++ (bX1 cyI aL oL ++ (bX4 cyI aU oU ++ (bX1 cyI aV oV ++ (bX2 cyI aB oB ++ bHS cyI cyO aH oH)))))))) (some (.int (kO ["java/lang/IndexOutOfBoundsException", "java/lang/IllegalArgumentException"] z))) := by
  refine Cw.of (cc := cL_match) (nL := 5) (ret := some .int) (hh := [(0, 10, 13, 19), (0, 10, 17, 13)]) (lv := [(0, .ref aX), (1, .int x1), (2, .int x2), (3, .ref aO)]) (by decide +kernel) rfl rfl (Nat.le_of_ble_eq_true rfl) ?_
  intro p e s m args below meth c A C CE htab
  have C : Cx p s m args meth c D (tyG cyI cyO cyJ) A RL cL_match 5 (some .int) wsL_match := C
  refine n_aload_n C dL_match_0 3 rfl rfl ?_
  refine n_iconst (v := (0 : Int32)) C dL_match_1 (by decide) rfl ?_
  refine n_aload_n C dL_match_2 0 rfl rfl ?_
  refine n_iload_n C dL_match_3 1 rfl rfl ?_
  refine n_iload_n C dL_match_4 2 rfl rfl ?_
  refine n_callX (As := [.int x1, .int x2]) (rest := [.int (0 : Int32), .ref aO]) (w2 := [(aO, .inl (cyJ, 1, .inr (.inl oO)))] ++ ([(aX, .inr (5, [.ref (aL 0), .ref (aS 0), .ref (aG 0), .ref (aH 0), .ref (aB 0), .ref (aV 0), .ref (aU 0)]))] ++ (bX4 cyI aS oS ++ (bX3 cyI aG oG ++ (bX1 cyI aL oL ++ (bX4 cyI aU oU ++ (bX1 cyI aV oV ++ (bX2 cyI aB oB ++ bHS cyI cyO aH oH)))))))) C CE dL_match_5 (c5_match l hls D cyI cyO cyJ aX aS aG aL aU aV aB aH n oS oG oL oU oV oB oH x1 x2 z hf) (cwV 2 C.ts gL_match_X5_match rfl rfl rfl (by decide +kernel) ⟨Nat.le_of_ble_eq_true rfl, Nat.le_of_ble_eq_true rfl⟩) rfl (q0 := 0) (ci := 5) rfl rfl (Frm.skip Frm.self) rfl (Nat.le_of_ble_eq_true rfl) ⟨Nat.le_of_ble_eq_true rfl, Nat.le_of_ble_eq_true rfl⟩ (fun r hr => ?_) (fun E hE => ?_)
  · cases hz : z with
    | inl E => rw [hz] at hr; cases hr
    | inr v =>
      rw [hz] at hr
      obtain rfl := Sum.inr.inj hr
      refine n_i2l C dL_match_8 rfl ?_
      refine n_last (w2 := [(aO, .inl (cyJ, 1, .inr (.inl (vp_updL oO 0 v.toInt64))))] ++ ([(aX, .inr (5, [.ref (aL 0), .ref (aS 0), .ref (aG 0), .ref (aH 0), .ref (aB 0), .ref (aV 0), .ref (aU 0)]))] ++ (bX4 cyI aS oS ++ (bX3 cyI aG oG ++ (bX1 cyI aL oL ++ (bX4 cyI aU oU ++ (bX1 cyI aV oV ++ (bX2 cyI aB oB ++ bHS cyI cyO aH oH)))))))) C dL_match_9 0 2 rfl rfl (ck_in (by decide)) rfl rfl ?_
      refine n_goto (t := 21) C dL_match_10 (by decide) ?_
      refine n_iconst (v := (0 : Int32)) C dL_match_21 (by decide) rfl ?_
      exact n_iret C dL_match_22
  · cases hz : z with
    | inr v => rw [hz] at hE; cases hE
    | inl E9 =>
      have hk := hk E9 hz
      rw [hz] at hE
      obtain rfl := Sum.inl.inj hE
      simp only [List.mem_cons, List.not_mem_nil, or_false] at hk
      rcases hk with rfl | rfl
      · refine n_catch (name := "java/lang/IndexOutOfBoundsException") (hp := 13) C [] ⟨0, 10, 13, 19⟩ [⟨0, 10, 17, 13⟩] (by rw [htab]; rfl) (fun z hz9 => nomatch hz9) (by decide) (by decide) (List.mem_of_getElem? (i := 1) rfl) (CE.1.2.2.2.1 _ (by decide +kernel)).2.2.2 rfl (fun a => ?_)
        refine n_astore (lv' := [(4, .ref a), (0, .ref aX), (1, .int x1), (2, .int x2), (3, .ref aO)]) C dL_match_13 (by decide) rfl rfl ?_
        refine n_iconst (v := (1 : Int32)) C dL_match_15 (by decide) rfl ?_
        exact n_iret C dL_match_16
      · refine n_catch (name := "java/lang/IllegalArgumentException") (hp := 17) C [⟨0, 10, 13, 19⟩] ⟨0, 10, 17, 13⟩ [] (by rw [htab]; rfl) (fun z hz9 => by
          simp only [List.mem_cons, List.not_mem_nil, or_false] at hz9
          subst hz9
          · exact Or.inr ⟨by decide, "java/lang/IndexOutOfBoundsException", C.ts _ (List.mem_of_getElem? (i := 1) rfl), CE.2.1⟩) (by decide) (by decide) (List.mem_of_getElem? (i := 2) rfl) (CE.1.2.2.2.1 _ (by decide +kernel)).2.2.2 rfl (fun a => ?_)
        refine n_astore (lv' := [(4, .ref a), (0, .ref aX), (1, .int x1), (2, .int x2), (3, .ref aO)]) C dL_match_17 (by decide) rfl rfl ?_
        refine n_iconst (v := (2 : Int32)) C dL_match_19 (by decide) rfl ?_
        exact n_iret C dL_match_20
-- L team
abbrev rmL_team : Room := { frames := 7, cells := 1, slots := 6, locals := 114 }
set_option maxHeartbeats 4000000 in
set_option maxRecDepth 100000 in
theorem kL_team (l : Launch) (hls : l.stackTraces = false) (D : va_G) (cyI cyO cyJ : ClassId) (aO : Nat) (aX : Nat) (aS : Nat → Nat) (aG : Nat → Nat) (aL : Nat → Nat) (aU : Nat → Nat) (aV : Nat → Nat) (aB : Nat → Nat) (aH : Nat → Nat) (n : Nat) (oO : Nat → Int64) (oS : OB) (oG : OB) (oL : OB) (oU : OB) (oV : OB) (oB : OB) (oH : HS) (x1 : Int32) (x2 : Int32) (z : (String ⊕ Int32) × (OB)) (hf : f5_team n oS oG oL oU oV oB oH x1 x2 = some z) (hk : ∀ E, z.1 = .inl E → E ∈ (["java/lang/IndexOutOfBoundsException", "java/lang/IllegalArgumentException"] : List String)) : Cw l D (tyG cyI cyO cyJ) yL_team wsL_team rmL_team [.ref aX, .int x1, .int x2, .ref aO] ([(aO, .inl (cyJ, 1, .inr (.inl oO)))] ++ ([(aX, .inr (5, [.ref (aL 0), .ref (aS 0), .ref (aG 0), .ref (aH 0), .ref (aB 0), .ref (aV 0), .ref (aU 0)]))] ++ (bX4 cyI aS oS ++ (bX3 cyI aG oG ++ (bX1 cyI aL oL ++ (bX4 cyI aU oU ++ (bX1 cyI aV oV ++ (bX2 cyI aB oB ++ bHS cyI cyO aH oH)))))))) ([(aO, .inl (cyJ, 1, .inr (.inl (uO oO z.1))))] ++ ([(aX, .inr (5, [.ref (aL 0), .ref (aS 0), .ref (aG 0), .ref (aH 0), .ref (aB 0), .ref (aV 0), .ref (aU 0)]))] ++ (bX4 cyI aS z.2 ++ (bX3 cyI aG oG ++ (bX1 cyI aL oL ++ (bX4 cyI aU oU ++ (bX1 cyI aV oV ++ (bX2 cyI aB oB ++ bHS cyI cyO aH oH)))))))) (some (.int (kO ["java/lang/IndexOutOfBoundsException", "java/lang/IllegalArgumentException"] z.1))) := by
  refine Cw.of (cc := cL_team) (nL := 5) (ret := some .int) (hh := [(0, 10, 13, 19), (0, 10, 17, 13)]) (lv := [(0, .ref aX), (1, .int x1), (2, .int x2), (3, .ref aO)]) (by decide +kernel) rfl rfl (Nat.le_of_ble_eq_true rfl) ?_
  intro p e s m args below meth c A C CE htab
  have C : Cx p s m args meth c D (tyG cyI cyO cyJ) A RL cL_team 5 (some .int) wsL_team := C
  refine n_aload_n C dL_team_0 3 rfl rfl ?_
  refine n_iconst (v := (0 : Int32)) C dL_team_1 (by decide) rfl ?_
  refine n_aload_n C dL_team_2 0 rfl rfl ?_
  refine n_iload_n C dL_team_3 1 rfl rfl ?_
  refine n_iload_n C dL_team_4 2 rfl rfl ?_
  refine n_callX (As := [.int x1, .int x2]) (rest := [.int (0 : Int32), .ref aO]) (w2 := [(aO, .inl (cyJ, 1, .inr (.inl oO)))] ++ ([(aX, .inr (5, [.ref (aL 0), .ref (aS 0), .ref (aG 0), .ref (aH 0), .ref (aB 0), .ref (aV 0), .ref (aU 0)]))] ++ (bX4 cyI aS z.2 ++ (bX3 cyI aG oG ++ (bX1 cyI aL oL ++ (bX4 cyI aU oU ++ (bX1 cyI aV oV ++ (bX2 cyI aB oB ++ bHS cyI cyO aH oH)))))))) C CE dL_team_5 (c5_team l hls D cyI cyO cyJ aX aS aG aL aU aV aB aH n oS oG oL oU oV oB oH x1 x2 z hf) (cwV 2 C.ts gL_team_X5_team rfl rfl rfl (by decide +kernel) ⟨Nat.le_of_ble_eq_true rfl, Nat.le_of_ble_eq_true rfl⟩) rfl (q0 := 0) (ci := 5) rfl rfl (Frm.skip Frm.self) rfl (Nat.le_of_ble_eq_true rfl) ⟨Nat.le_of_ble_eq_true rfl, Nat.le_of_ble_eq_true rfl⟩ (fun r hr => ?_) (fun E hE => ?_)
  · cases hz : z.1 with
    | inl E => rw [hz] at hr; cases hr
    | inr v =>
      rw [hz] at hr
      obtain rfl := Sum.inr.inj hr
      refine n_i2l C dL_team_8 rfl ?_
      refine n_last (w2 := [(aO, .inl (cyJ, 1, .inr (.inl (vp_updL oO 0 v.toInt64))))] ++ ([(aX, .inr (5, [.ref (aL 0), .ref (aS 0), .ref (aG 0), .ref (aH 0), .ref (aB 0), .ref (aV 0), .ref (aU 0)]))] ++ (bX4 cyI aS z.2 ++ (bX3 cyI aG oG ++ (bX1 cyI aL oL ++ (bX4 cyI aU oU ++ (bX1 cyI aV oV ++ (bX2 cyI aB oB ++ bHS cyI cyO aH oH)))))))) C dL_team_9 0 2 rfl rfl (ck_in (by decide)) rfl rfl ?_
      refine n_goto (t := 21) C dL_team_10 (by decide) ?_
      refine n_iconst (v := (0 : Int32)) C dL_team_21 (by decide) rfl ?_
      exact n_iret C dL_team_22
  · cases hz : z.1 with
    | inr v => rw [hz] at hE; cases hE
    | inl E9 =>
      have hk := hk E9 hz
      rw [hz] at hE
      obtain rfl := Sum.inl.inj hE
      simp only [List.mem_cons, List.not_mem_nil, or_false] at hk
      rcases hk with rfl | rfl
      · refine n_catch (name := "java/lang/IndexOutOfBoundsException") (hp := 13) C [] ⟨0, 10, 13, 19⟩ [⟨0, 10, 17, 13⟩] (by rw [htab]; rfl) (fun z hz9 => nomatch hz9) (by decide) (by decide) (List.mem_of_getElem? (i := 1) rfl) (CE.1.2.2.2.1 _ (by decide +kernel)).2.2.2 rfl (fun a => ?_)
        refine n_astore (lv' := [(4, .ref a), (0, .ref aX), (1, .int x1), (2, .int x2), (3, .ref aO)]) C dL_team_13 (by decide) rfl rfl ?_
        refine n_iconst (v := (1 : Int32)) C dL_team_15 (by decide) rfl ?_
        exact n_iret C dL_team_16
      · refine n_catch (name := "java/lang/IllegalArgumentException") (hp := 17) C [⟨0, 10, 13, 19⟩] ⟨0, 10, 17, 13⟩ [] (by rw [htab]; rfl) (fun z hz9 => by
          simp only [List.mem_cons, List.not_mem_nil, or_false] at hz9
          subst hz9
          · exact Or.inr ⟨by decide, "java/lang/IndexOutOfBoundsException", C.ts _ (List.mem_of_getElem? (i := 1) rfl), CE.2.1⟩) (by decide) (by decide) (List.mem_of_getElem? (i := 2) rfl) (CE.1.2.2.2.1 _ (by decide +kernel)).2.2.2 rfl (fun a => ?_)
        refine n_astore (lv' := [(4, .ref a), (0, .ref aX), (1, .int x1), (2, .int x2), (3, .ref aO)]) C dL_team_17 (by decide) rfl rfl ?_
        refine n_iconst (v := (2 : Int32)) C dL_team_19 (by decide) rfl ?_
        exact n_iret C dL_team_20
-- L table
abbrev rmL_table : Room := { frames := 7, cells := 1, slots := 6, locals := 113 }
set_option maxHeartbeats 4000000 in
set_option maxRecDepth 100000 in
theorem kL_table (l : Launch) (hls : l.stackTraces = false) (D : va_G) (cyI cyO cyJ : ClassId) (aO : Nat) (aX : Nat) (aS : Nat → Nat) (aG : Nat → Nat) (aL : Nat → Nat) (aU : Nat → Nat) (aV : Nat → Nat) (aB : Nat → Nat) (aH : Nat → Nat) (n : Nat) (oO : Nat → Int64) (oS : OB) (oG : OB) (oL : OB) (oU : OB) (oV : OB) (oB : OB) (oH : HS) (x1 : Int32) (z : (String ⊕ Int32) × (OB)) (hf : f5_table n oS oG oL oU oV oB oH x1 = some z) (hk : ∀ E, z.1 = .inl E → E ∈ (["java/lang/IllegalArgumentException"] : List String)) : Cw l D (tyG cyI cyO cyJ) yL_table wsL_table rmL_table [.ref aX, .int x1, .ref aO] ([(aO, .inl (cyJ, 1, .inr (.inl oO)))] ++ ([(aX, .inr (5, [.ref (aL 0), .ref (aS 0), .ref (aG 0), .ref (aH 0), .ref (aB 0), .ref (aV 0), .ref (aU 0)]))] ++ (bX4 cyI aS oS ++ (bX3 cyI aG oG ++ (bX1 cyI aL oL ++ (bX4 cyI aU oU ++ (bX1 cyI aV oV ++ (bX2 cyI aB oB ++ bHS cyI cyO aH oH)))))))) ([(aO, .inl (cyJ, 1, .inr (.inl (uO oO z.1))))] ++ ([(aX, .inr (5, [.ref (aL 0), .ref (aS 0), .ref (aG 0), .ref (aH 0), .ref (aB 0), .ref (aV 0), .ref (aU 0)]))] ++ (bX4 cyI aS z.2 ++ (bX3 cyI aG oG ++ (bX1 cyI aL oL ++ (bX4 cyI aU oU ++ (bX1 cyI aV oV ++ (bX2 cyI aB oB ++ bHS cyI cyO aH oH)))))))) (some (.int (kO ["java/lang/IllegalArgumentException"] z.1))) := by
  refine Cw.of (cc := cL_table) (nL := 4) (ret := some .int) (hh := [(0, 9, 12, 13)]) (lv := [(0, .ref aX), (1, .int x1), (2, .ref aO)]) (by decide +kernel) rfl rfl (Nat.le_of_ble_eq_true rfl) ?_
  intro p e s m args below meth c A C CE htab
  have C : Cx p s m args meth c D (tyG cyI cyO cyJ) A RL cL_table 4 (some .int) wsL_table := C
  refine n_aload_n C dL_table_0 2 rfl rfl ?_
  refine n_iconst (v := (0 : Int32)) C dL_table_1 (by decide) rfl ?_
  refine n_aload_n C dL_table_2 0 rfl rfl ?_
  refine n_iload_n C dL_table_3 1 rfl rfl ?_
  refine n_callX (As := [.int x1]) (rest := [.int (0 : Int32), .ref aO]) (w2 := [(aO, .inl (cyJ, 1, .inr (.inl oO)))] ++ ([(aX, .inr (5, [.ref (aL 0), .ref (aS 0), .ref (aG 0), .ref (aH 0), .ref (aB 0), .ref (aV 0), .ref (aU 0)]))] ++ (bX4 cyI aS z.2 ++ (bX3 cyI aG oG ++ (bX1 cyI aL oL ++ (bX4 cyI aU oU ++ (bX1 cyI aV oV ++ (bX2 cyI aB oB ++ bHS cyI cyO aH oH)))))))) C CE dL_table_4 (c5_table l hls D cyI cyO cyJ aX aS aG aL aU aV aB aH n oS oG oL oU oV oB oH x1 z hf) (cwV 1 C.ts gL_table_X5_table rfl rfl rfl (by decide +kernel) ⟨Nat.le_of_ble_eq_true rfl, Nat.le_of_ble_eq_true rfl⟩) rfl (q0 := 0) (ci := 5) rfl rfl (Frm.skip Frm.self) rfl (Nat.le_of_ble_eq_true rfl) ⟨Nat.le_of_ble_eq_true rfl, Nat.le_of_ble_eq_true rfl⟩ (fun r hr => ?_) (fun E hE => ?_)
  · cases hz : z.1 with
    | inl E => rw [hz] at hr; cases hr
    | inr v =>
      rw [hz] at hr
      obtain rfl := Sum.inr.inj hr
      refine n_i2l C dL_table_7 rfl ?_
      refine n_last (w2 := [(aO, .inl (cyJ, 1, .inr (.inl (vp_updL oO 0 v.toInt64))))] ++ ([(aX, .inr (5, [.ref (aL 0), .ref (aS 0), .ref (aG 0), .ref (aH 0), .ref (aB 0), .ref (aV 0), .ref (aU 0)]))] ++ (bX4 cyI aS z.2 ++ (bX3 cyI aG oG ++ (bX1 cyI aL oL ++ (bX4 cyI aU oU ++ (bX1 cyI aV oV ++ (bX2 cyI aB oB ++ bHS cyI cyO aH oH)))))))) C dL_table_8 0 2 rfl rfl (ck_in (by decide)) rfl rfl ?_
      refine n_goto (t := 15) C dL_table_9 (by decide) ?_
      refine n_iconst (v := (0 : Int32)) C dL_table_15 (by decide) rfl ?_
      exact n_iret C dL_table_16
  · cases hz : z.1 with
    | inr v => rw [hz] at hE; cases hE
    | inl E9 =>
      have hk := hk E9 hz
      rw [hz] at hE
      obtain rfl := Sum.inl.inj hE
      simp only [List.mem_cons, List.not_mem_nil, or_false] at hk
      subst hk
      · refine n_catch (name := "java/lang/IllegalArgumentException") (hp := 12) C [] ⟨0, 9, 12, 13⟩ [] (by rw [htab]; rfl) (fun z hz9 => nomatch hz9) (by decide) (by decide) (List.mem_of_getElem? (i := 1) rfl) (CE.1.2.2.2.1 _ (by decide +kernel)).2.2.2 rfl (fun a => ?_)
        refine n_astore_n (lv' := [(3, .ref a), (0, .ref aX), (1, .int x1), (2, .ref aO)]) C dL_table_12 (by decide) rfl rfl ?_
        refine n_iconst (v := (1 : Int32)) C dL_table_13 (by decide) rfl ?_
        exact n_iret C dL_table_14
-- L busy
abbrev rmL_busy : Room := { frames := 7, cells := 1, slots := 6, locals := 104 }
set_option maxHeartbeats 4000000 in
set_option maxRecDepth 100000 in
theorem kL_busy (l : Launch) (hls : l.stackTraces = false) (D : va_G) (cyI cyO cyJ : ClassId) (aO : Nat) (aX : Nat) (aS : Nat → Nat) (aG : Nat → Nat) (aL : Nat → Nat) (aU : Nat → Nat) (aV : Nat → Nat) (aB : Nat → Nat) (aH : Nat → Nat) (n : Nat) (oO : Nat → Int64) (oS : OB) (oG : OB) (oL : OB) (oU : OB) (oV : OB) (oB : OB) (oH : HS) (x1 : Int32) (x2 : Int32) (z : (String ⊕ Int32)) (hf : f5_busy n oS oG oL oU oV oB oH x1 x2 = some z) (hk : ∀ E, z = .inl E → E ∈ (["java/lang/IndexOutOfBoundsException", "java/lang/IllegalArgumentException"] : List String)) : Cw l D (tyG cyI cyO cyJ) yL_busy wsL_busy rmL_busy [.ref aX, .int x1, .int x2, .ref aO] ([(aO, .inl (cyJ, 1, .inr (.inl oO)))] ++ ([(aX, .inr (5, [.ref (aL 0), .ref (aS 0), .ref (aG 0), .ref (aH 0), .ref (aB 0), .ref (aV 0), .ref (aU 0)]))] ++ (bX4 cyI aS oS ++ (bX3 cyI aG oG ++ (bX1 cyI aL oL ++ (bX4 cyI aU oU ++ (bX1 cyI aV oV ++ (bX2 cyI aB oB ++ bHS cyI cyO aH oH)))))))) ([(aO, .inl (cyJ, 1, .inr (.inl (uO oO z))))] ++ ([(aX, .inr (5, [.ref (aL 0), .ref (aS 0), .ref (aG 0), .ref (aH 0), .ref (aB 0), .ref (aV 0), .ref (aU 0)]))] ++ (bX4 cyI aS oS ++ (bX3 cyI aG oG ++ (bX1 cyI aL oL ++ (bX4 cyI aU oU ++ (bX1 cyI aV oV ++ (bX2 cyI aB oB ++ bHS cyI cyO aH oH)))))))) (some (.int (kO ["java/lang/IndexOutOfBoundsException", "java/lang/IllegalArgumentException"] z))) := by
  refine Cw.of (cc := cL_busy) (nL := 5) (ret := some .int) (hh := [(0, 10, 13, 19), (0, 10, 17, 13)]) (lv := [(0, .ref aX), (1, .int x1), (2, .int x2), (3, .ref aO)]) (by decide +kernel) rfl rfl (Nat.le_of_ble_eq_true rfl) ?_
  intro p e s m args below meth c A C CE htab
  have C : Cx p s m args meth c D (tyG cyI cyO cyJ) A RL cL_busy 5 (some .int) wsL_busy := C
  refine n_aload_n C dL_busy_0 3 rfl rfl ?_
  refine n_iconst (v := (0 : Int32)) C dL_busy_1 (by decide) rfl ?_
  refine n_aload_n C dL_busy_2 0 rfl rfl ?_
  refine n_iload_n C dL_busy_3 1 rfl rfl ?_
  refine n_iload_n C dL_busy_4 2 rfl rfl ?_
  refine n_callX (As := [.int x1, .int x2]) (rest := [.int (0 : Int32), .ref aO]) (w2 := [(aO, .inl (cyJ, 1, .inr (.inl oO)))] ++ ([(aX, .inr (5, [.ref (aL 0), .ref (aS 0), .ref (aG 0), .ref (aH 0), .ref (aB 0), .ref (aV 0), .ref (aU 0)]))] ++ (bX4 cyI aS oS ++ (bX3 cyI aG oG ++ (bX1 cyI aL oL ++ (bX4 cyI aU oU ++ (bX1 cyI aV oV ++ (bX2 cyI aB oB ++ bHS cyI cyO aH oH)))))))) C CE dL_busy_5 (c5_busy l hls D cyI cyO cyJ aX aS aG aL aU aV aB aH n oS oG oL oU oV oB oH x1 x2 z hf) (cwV 2 C.ts gL_busy_X5_busy rfl rfl rfl (by decide +kernel) ⟨Nat.le_of_ble_eq_true rfl, Nat.le_of_ble_eq_true rfl⟩) rfl (q0 := 0) (ci := 5) rfl rfl (Frm.skip Frm.self) rfl (Nat.le_of_ble_eq_true rfl) ⟨Nat.le_of_ble_eq_true rfl, Nat.le_of_ble_eq_true rfl⟩ (fun r hr => ?_) (fun E hE => ?_)
  · cases hz : z with
    | inl E => rw [hz] at hr; cases hr
    | inr v =>
      rw [hz] at hr
      obtain rfl := Sum.inr.inj hr
      refine n_i2l C dL_busy_8 rfl ?_
      refine n_last (w2 := [(aO, .inl (cyJ, 1, .inr (.inl (vp_updL oO 0 v.toInt64))))] ++ ([(aX, .inr (5, [.ref (aL 0), .ref (aS 0), .ref (aG 0), .ref (aH 0), .ref (aB 0), .ref (aV 0), .ref (aU 0)]))] ++ (bX4 cyI aS oS ++ (bX3 cyI aG oG ++ (bX1 cyI aL oL ++ (bX4 cyI aU oU ++ (bX1 cyI aV oV ++ (bX2 cyI aB oB ++ bHS cyI cyO aH oH)))))))) C dL_busy_9 0 2 rfl rfl (ck_in (by decide)) rfl rfl ?_
      refine n_goto (t := 21) C dL_busy_10 (by decide) ?_
      refine n_iconst (v := (0 : Int32)) C dL_busy_21 (by decide) rfl ?_
      exact n_iret C dL_busy_22
  · cases hz : z with
    | inr v => rw [hz] at hE; cases hE
    | inl E9 =>
      have hk := hk E9 hz
      rw [hz] at hE
      obtain rfl := Sum.inl.inj hE
      simp only [List.mem_cons, List.not_mem_nil, or_false] at hk
      rcases hk with rfl | rfl
      · refine n_catch (name := "java/lang/IndexOutOfBoundsException") (hp := 13) C [] ⟨0, 10, 13, 19⟩ [⟨0, 10, 17, 13⟩] (by rw [htab]; rfl) (fun z hz9 => nomatch hz9) (by decide) (by decide) (List.mem_of_getElem? (i := 1) rfl) (CE.1.2.2.2.1 _ (by decide +kernel)).2.2.2 rfl (fun a => ?_)
        refine n_astore (lv' := [(4, .ref a), (0, .ref aX), (1, .int x1), (2, .int x2), (3, .ref aO)]) C dL_busy_13 (by decide) rfl rfl ?_
        refine n_iconst (v := (1 : Int32)) C dL_busy_15 (by decide) rfl ?_
        exact n_iret C dL_busy_16
      · refine n_catch (name := "java/lang/IllegalArgumentException") (hp := 17) C [⟨0, 10, 13, 19⟩] ⟨0, 10, 17, 13⟩ [] (by rw [htab]; rfl) (fun z hz9 => by
          simp only [List.mem_cons, List.not_mem_nil, or_false] at hz9
          subst hz9
          · exact Or.inr ⟨by decide, "java/lang/IndexOutOfBoundsException", C.ts _ (List.mem_of_getElem? (i := 1) rfl), CE.2.1⟩) (by decide) (by decide) (List.mem_of_getElem? (i := 2) rfl) (CE.1.2.2.2.1 _ (by decide +kernel)).2.2.2 rfl (fun a => ?_)
        refine n_astore (lv' := [(4, .ref a), (0, .ref aX), (1, .int x1), (2, .int x2), (3, .ref aO)]) C dL_busy_17 (by decide) rfl rfl ?_
        refine n_iconst (v := (2 : Int32)) C dL_busy_19 (by decide) rfl ?_
        exact n_iret C dL_busy_20
-- L count
abbrev rmL_count : Room := { frames := 7, cells := 1, slots := 6, locals := 113 }
set_option maxHeartbeats 4000000 in
set_option maxRecDepth 100000 in
theorem kL_count (l : Launch) (hls : l.stackTraces = false) (D : va_G) (cyI cyO cyJ : ClassId) (aO : Nat) (aX : Nat) (aS : Nat → Nat) (aG : Nat → Nat) (aL : Nat → Nat) (aU : Nat → Nat) (aV : Nat → Nat) (aB : Nat → Nat) (aH : Nat → Nat) (n : Nat) (oO : Nat → Int64) (oS : OB) (oG : OB) (oL : OB) (oU : OB) (oV : OB) (oB : OB) (oH : HS) (x1 : Int32) (z : (String ⊕ Int32) × (OB)) (hf : f5_count n oS oG oL oU oV oB oH x1 = some z) (hk : ∀ E, z.1 = .inl E → E ∈ (["java/lang/IllegalArgumentException"] : List String)) : Cw l D (tyG cyI cyO cyJ) yL_count wsL_count rmL_count [.ref aX, .int x1, .ref aO] ([(aO, .inl (cyJ, 1, .inr (.inl oO)))] ++ ([(aX, .inr (5, [.ref (aL 0), .ref (aS 0), .ref (aG 0), .ref (aH 0), .ref (aB 0), .ref (aV 0), .ref (aU 0)]))] ++ (bX4 cyI aS oS ++ (bX3 cyI aG oG ++ (bX1 cyI aL oL ++ (bX4 cyI aU oU ++ (bX1 cyI aV oV ++ (bX2 cyI aB oB ++ bHS cyI cyO aH oH)))))))) ([(aO, .inl (cyJ, 1, .inr (.inl (uO oO z.1))))] ++ ([(aX, .inr (5, [.ref (aL 0), .ref (aS 0), .ref (aG 0), .ref (aH 0), .ref (aB 0), .ref (aV 0), .ref (aU 0)]))] ++ (bX4 cyI aS z.2 ++ (bX3 cyI aG oG ++ (bX1 cyI aL oL ++ (bX4 cyI aU oU ++ (bX1 cyI aV oV ++ (bX2 cyI aB oB ++ bHS cyI cyO aH oH)))))))) (some (.int (kO ["java/lang/IllegalArgumentException"] z.1))) := by
  refine Cw.of (cc := cL_count) (nL := 4) (ret := some .int) (hh := [(0, 9, 12, 13)]) (lv := [(0, .ref aX), (1, .int x1), (2, .ref aO)]) (by decide +kernel) rfl rfl (Nat.le_of_ble_eq_true rfl) ?_
  intro p e s m args below meth c A C CE htab
  have C : Cx p s m args meth c D (tyG cyI cyO cyJ) A RL cL_count 4 (some .int) wsL_count := C
  refine n_aload_n C dL_count_0 2 rfl rfl ?_
  refine n_iconst (v := (0 : Int32)) C dL_count_1 (by decide) rfl ?_
  refine n_aload_n C dL_count_2 0 rfl rfl ?_
  refine n_iload_n C dL_count_3 1 rfl rfl ?_
  refine n_callX (As := [.int x1]) (rest := [.int (0 : Int32), .ref aO]) (w2 := [(aO, .inl (cyJ, 1, .inr (.inl oO)))] ++ ([(aX, .inr (5, [.ref (aL 0), .ref (aS 0), .ref (aG 0), .ref (aH 0), .ref (aB 0), .ref (aV 0), .ref (aU 0)]))] ++ (bX4 cyI aS z.2 ++ (bX3 cyI aG oG ++ (bX1 cyI aL oL ++ (bX4 cyI aU oU ++ (bX1 cyI aV oV ++ (bX2 cyI aB oB ++ bHS cyI cyO aH oH)))))))) C CE dL_count_4 (c5_count l hls D cyI cyO cyJ aX aS aG aL aU aV aB aH n oS oG oL oU oV oB oH x1 z hf) (cwV 1 C.ts gL_count_X5_count rfl rfl rfl (by decide +kernel) ⟨Nat.le_of_ble_eq_true rfl, Nat.le_of_ble_eq_true rfl⟩) rfl (q0 := 0) (ci := 5) rfl rfl (Frm.skip Frm.self) rfl (Nat.le_of_ble_eq_true rfl) ⟨Nat.le_of_ble_eq_true rfl, Nat.le_of_ble_eq_true rfl⟩ (fun r hr => ?_) (fun E hE => ?_)
  · cases hz : z.1 with
    | inl E => rw [hz] at hr; cases hr
    | inr v =>
      rw [hz] at hr
      obtain rfl := Sum.inr.inj hr
      refine n_i2l C dL_count_7 rfl ?_
      refine n_last (w2 := [(aO, .inl (cyJ, 1, .inr (.inl (vp_updL oO 0 v.toInt64))))] ++ ([(aX, .inr (5, [.ref (aL 0), .ref (aS 0), .ref (aG 0), .ref (aH 0), .ref (aB 0), .ref (aV 0), .ref (aU 0)]))] ++ (bX4 cyI aS z.2 ++ (bX3 cyI aG oG ++ (bX1 cyI aL oL ++ (bX4 cyI aU oU ++ (bX1 cyI aV oV ++ (bX2 cyI aB oB ++ bHS cyI cyO aH oH)))))))) C dL_count_8 0 2 rfl rfl (ck_in (by decide)) rfl rfl ?_
      refine n_goto (t := 15) C dL_count_9 (by decide) ?_
      refine n_iconst (v := (0 : Int32)) C dL_count_15 (by decide) rfl ?_
      exact n_iret C dL_count_16
  · cases hz : z.1 with
    | inr v => rw [hz] at hE; cases hE
    | inl E9 =>
      have hk := hk E9 hz
      rw [hz] at hE
      obtain rfl := Sum.inl.inj hE
      simp only [List.mem_cons, List.not_mem_nil, or_false] at hk
      subst hk
      · refine n_catch (name := "java/lang/IllegalArgumentException") (hp := 12) C [] ⟨0, 9, 12, 13⟩ [] (by rw [htab]; rfl) (fun z hz9 => nomatch hz9) (by decide) (by decide) (List.mem_of_getElem? (i := 1) rfl) (CE.1.2.2.2.1 _ (by decide +kernel)).2.2.2 rfl (fun a => ?_)
        refine n_astore_n (lv' := [(3, .ref a), (0, .ref aX), (1, .int x1), (2, .ref aO)]) C dL_count_12 (by decide) rfl rfl ?_
        refine n_iconst (v := (1 : Int32)) C dL_count_13 (by decide) rfl ?_
        exact n_iret C dL_count_14
-- L setting
abbrev rmL_setting : Room := { frames := 7, cells := 1, slots := 6, locals := 103 }
set_option maxHeartbeats 4000000 in
set_option maxRecDepth 100000 in
theorem kL_setting (l : Launch) (hls : l.stackTraces = false) (D : va_G) (cyI cyO cyJ : ClassId) (aO : Nat) (aX : Nat) (aS : Nat → Nat) (aG : Nat → Nat) (aL : Nat → Nat) (aU : Nat → Nat) (aV : Nat → Nat) (aB : Nat → Nat) (aH : Nat → Nat) (n : Nat) (oO : Nat → Int64) (oS : OB) (oG : OB) (oL : OB) (oU : OB) (oV : OB) (oB : OB) (oH : HS) (x1 : Int32) (z : (String ⊕ Int32)) (hf : f5_setting n oS oG oL oU oV oB oH x1 = some z) (hk : ∀ E, z = .inl E → E ∈ (["java/lang/IndexOutOfBoundsException"] : List String)) : Cw l D (tyG cyI cyO cyJ) yL_setting wsL_setting rmL_setting [.ref aX, .int x1, .ref aO] ([(aO, .inl (cyJ, 1, .inr (.inl oO)))] ++ ([(aX, .inr (5, [.ref (aL 0), .ref (aS 0), .ref (aG 0), .ref (aH 0), .ref (aB 0), .ref (aV 0), .ref (aU 0)]))] ++ (bX4 cyI aS oS ++ (bX3 cyI aG oG ++ (bX1 cyI aL oL ++ (bX4 cyI aU oU ++ (bX1 cyI aV oV ++ (bX2 cyI aB oB ++ bHS cyI cyO aH oH)))))))) ([(aO, .inl (cyJ, 1, .inr (.inl (uO oO z))))] ++ ([(aX, .inr (5, [.ref (aL 0), .ref (aS 0), .ref (aG 0), .ref (aH 0), .ref (aB 0), .ref (aV 0), .ref (aU 0)]))] ++ (bX4 cyI aS oS ++ (bX3 cyI aG oG ++ (bX1 cyI aL oL ++ (bX4 cyI aU oU ++ (bX1 cyI aV oV ++ (bX2 cyI aB oB ++ bHS cyI cyO aH oH)))))))) (some (.int (kO ["java/lang/IndexOutOfBoundsException"] z))) := by
  refine Cw.of (cc := cL_setting) (nL := 4) (ret := some .int) (hh := [(0, 9, 12, 19)]) (lv := [(0, .ref aX), (1, .int x1), (2, .ref aO)]) (by decide +kernel) rfl rfl (Nat.le_of_ble_eq_true rfl) ?_
  intro p e s m args below meth c A C CE htab
  have C : Cx p s m args meth c D (tyG cyI cyO cyJ) A RL cL_setting 4 (some .int) wsL_setting := C
  refine n_aload_n C dL_setting_0 2 rfl rfl ?_
  refine n_iconst (v := (0 : Int32)) C dL_setting_1 (by decide) rfl ?_
  refine n_aload_n C dL_setting_2 0 rfl rfl ?_
  refine n_iload_n C dL_setting_3 1 rfl rfl ?_
  refine n_callX (As := [.int x1]) (rest := [.int (0 : Int32), .ref aO]) (w2 := [(aO, .inl (cyJ, 1, .inr (.inl oO)))] ++ ([(aX, .inr (5, [.ref (aL 0), .ref (aS 0), .ref (aG 0), .ref (aH 0), .ref (aB 0), .ref (aV 0), .ref (aU 0)]))] ++ (bX4 cyI aS oS ++ (bX3 cyI aG oG ++ (bX1 cyI aL oL ++ (bX4 cyI aU oU ++ (bX1 cyI aV oV ++ (bX2 cyI aB oB ++ bHS cyI cyO aH oH)))))))) C CE dL_setting_4 (c5_setting l hls D cyI cyO cyJ aX aS aG aL aU aV aB aH n oS oG oL oU oV oB oH x1 z hf) (cwV 1 C.ts gL_setting_X5_setting rfl rfl rfl (by decide +kernel) ⟨Nat.le_of_ble_eq_true rfl, Nat.le_of_ble_eq_true rfl⟩) rfl (q0 := 0) (ci := 5) rfl rfl (Frm.skip Frm.self) rfl (Nat.le_of_ble_eq_true rfl) ⟨Nat.le_of_ble_eq_true rfl, Nat.le_of_ble_eq_true rfl⟩ (fun r hr => ?_) (fun E hE => ?_)
  · cases hz : z with
    | inl E => rw [hz] at hr; cases hr
    | inr v =>
      rw [hz] at hr
      obtain rfl := Sum.inr.inj hr
      refine n_i2l C dL_setting_7 rfl ?_
      refine n_last (w2 := [(aO, .inl (cyJ, 1, .inr (.inl (vp_updL oO 0 v.toInt64))))] ++ ([(aX, .inr (5, [.ref (aL 0), .ref (aS 0), .ref (aG 0), .ref (aH 0), .ref (aB 0), .ref (aV 0), .ref (aU 0)]))] ++ (bX4 cyI aS oS ++ (bX3 cyI aG oG ++ (bX1 cyI aL oL ++ (bX4 cyI aU oU ++ (bX1 cyI aV oV ++ (bX2 cyI aB oB ++ bHS cyI cyO aH oH)))))))) C dL_setting_8 0 2 rfl rfl (ck_in (by decide)) rfl rfl ?_
      refine n_goto (t := 15) C dL_setting_9 (by decide) ?_
      refine n_iconst (v := (0 : Int32)) C dL_setting_15 (by decide) rfl ?_
      exact n_iret C dL_setting_16
  · cases hz : z with
    | inr v => rw [hz] at hE; cases hE
    | inl E9 =>
      have hk := hk E9 hz
      rw [hz] at hE
      obtain rfl := Sum.inl.inj hE
      simp only [List.mem_cons, List.not_mem_nil, or_false] at hk
      subst hk
      · refine n_catch (name := "java/lang/IndexOutOfBoundsException") (hp := 12) C [] ⟨0, 9, 12, 19⟩ [] (by rw [htab]; rfl) (fun z hz9 => nomatch hz9) (by decide) (by decide) (List.mem_of_getElem? (i := 1) rfl) (CE.1.2.2.2.1 _ (by decide +kernel)).2.2.2 rfl (fun a => ?_)
        refine n_astore_n (lv' := [(3, .ref a), (0, .ref aX), (1, .int x1), (2, .ref aO)]) C dL_setting_12 (by decide) rfl rfl ?_
        refine n_iconst (v := (1 : Int32)) C dL_setting_13 (by decide) rfl ?_
        exact n_iret C dL_setting_14
-- L meeting
abbrev rmL_meeting : Room := { frames := 7, cells := 1, slots := 6, locals := 104 }
set_option maxHeartbeats 4000000 in
set_option maxRecDepth 100000 in
theorem kL_meeting (l : Launch) (hls : l.stackTraces = false) (D : va_G) (cyI cyO cyJ : ClassId) (aO : Nat) (aX : Nat) (aS : Nat → Nat) (aG : Nat → Nat) (aL : Nat → Nat) (aU : Nat → Nat) (aV : Nat → Nat) (aB : Nat → Nat) (aH : Nat → Nat) (n : Nat) (oO : Nat → Int64) (oS : OB) (oG : OB) (oL : OB) (oU : OB) (oV : OB) (oB : OB) (oH : HS) (x1 : Int32) (x2 : Int32) (z : (String ⊕ Int32)) (hf : f5_meeting n oS oG oL oU oV oB oH x1 x2 = some z) (hk : ∀ E, z = .inl E → E ∈ (["java/lang/IndexOutOfBoundsException", "java/lang/IllegalArgumentException"] : List String)) : Cw l D (tyG cyI cyO cyJ) yL_meeting wsL_meeting rmL_meeting [.ref aX, .int x1, .int x2, .ref aO] ([(aO, .inl (cyJ, 1, .inr (.inl oO)))] ++ ([(aX, .inr (5, [.ref (aL 0), .ref (aS 0), .ref (aG 0), .ref (aH 0), .ref (aB 0), .ref (aV 0), .ref (aU 0)]))] ++ (bX4 cyI aS oS ++ (bX3 cyI aG oG ++ (bX1 cyI aL oL ++ (bX4 cyI aU oU ++ (bX1 cyI aV oV ++ (bX2 cyI aB oB ++ bHS cyI cyO aH oH)))))))) ([(aO, .inl (cyJ, 1, .inr (.inl (uO oO z))))] ++ ([(aX, .inr (5, [.ref (aL 0), .ref (aS 0), .ref (aG 0), .ref (aH 0), .ref (aB 0), .ref (aV 0), .ref (aU 0)]))] ++ (bX4 cyI aS oS ++ (bX3 cyI aG oG ++ (bX1 cyI aL oL ++ (bX4 cyI aU oU ++ (bX1 cyI aV oV ++ (bX2 cyI aB oB ++ bHS cyI cyO aH oH)))))))) (some (.int (kO ["java/lang/IndexOutOfBoundsException", "java/lang/IllegalArgumentException"] z))) := by
  refine Cw.of (cc := cL_meeting) (nL := 5) (ret := some .int) (hh := [(0, 10, 13, 19), (0, 10, 17, 13)]) (lv := [(0, .ref aX), (1, .int x1), (2, .int x2), (3, .ref aO)]) (by decide +kernel) rfl rfl (Nat.le_of_ble_eq_true rfl) ?_
  intro p e s m args below meth c A C CE htab
  have C : Cx p s m args meth c D (tyG cyI cyO cyJ) A RL cL_meeting 5 (some .int) wsL_meeting := C
  refine n_aload_n C dL_meeting_0 3 rfl rfl ?_
  refine n_iconst (v := (0 : Int32)) C dL_meeting_1 (by decide) rfl ?_
  refine n_aload_n C dL_meeting_2 0 rfl rfl ?_
  refine n_iload_n C dL_meeting_3 1 rfl rfl ?_
  refine n_iload_n C dL_meeting_4 2 rfl rfl ?_
  refine n_callX (As := [.int x1, .int x2]) (rest := [.int (0 : Int32), .ref aO]) (w2 := [(aO, .inl (cyJ, 1, .inr (.inl oO)))] ++ ([(aX, .inr (5, [.ref (aL 0), .ref (aS 0), .ref (aG 0), .ref (aH 0), .ref (aB 0), .ref (aV 0), .ref (aU 0)]))] ++ (bX4 cyI aS oS ++ (bX3 cyI aG oG ++ (bX1 cyI aL oL ++ (bX4 cyI aU oU ++ (bX1 cyI aV oV ++ (bX2 cyI aB oB ++ bHS cyI cyO aH oH)))))))) C CE dL_meeting_5 (c5_meeting l hls D cyI cyO cyJ aX aS aG aL aU aV aB aH n oS oG oL oU oV oB oH x1 x2 z hf) (cwV 2 C.ts gL_meeting_X5_meeting rfl rfl rfl (by decide +kernel) ⟨Nat.le_of_ble_eq_true rfl, Nat.le_of_ble_eq_true rfl⟩) rfl (q0 := 0) (ci := 5) rfl rfl (Frm.skip Frm.self) rfl (Nat.le_of_ble_eq_true rfl) ⟨Nat.le_of_ble_eq_true rfl, Nat.le_of_ble_eq_true rfl⟩ (fun r hr => ?_) (fun E hE => ?_)
  · cases hz : z with
    | inl E => rw [hz] at hr; cases hr
    | inr v =>
      rw [hz] at hr
      obtain rfl := Sum.inr.inj hr
      refine n_i2l C dL_meeting_8 rfl ?_
      refine n_last (w2 := [(aO, .inl (cyJ, 1, .inr (.inl (vp_updL oO 0 v.toInt64))))] ++ ([(aX, .inr (5, [.ref (aL 0), .ref (aS 0), .ref (aG 0), .ref (aH 0), .ref (aB 0), .ref (aV 0), .ref (aU 0)]))] ++ (bX4 cyI aS oS ++ (bX3 cyI aG oG ++ (bX1 cyI aL oL ++ (bX4 cyI aU oU ++ (bX1 cyI aV oV ++ (bX2 cyI aB oB ++ bHS cyI cyO aH oH)))))))) C dL_meeting_9 0 2 rfl rfl (ck_in (by decide)) rfl rfl ?_
      refine n_goto (t := 21) C dL_meeting_10 (by decide) ?_
      refine n_iconst (v := (0 : Int32)) C dL_meeting_21 (by decide) rfl ?_
      exact n_iret C dL_meeting_22
  · cases hz : z with
    | inr v => rw [hz] at hE; cases hE
    | inl E9 =>
      have hk := hk E9 hz
      rw [hz] at hE
      obtain rfl := Sum.inl.inj hE
      simp only [List.mem_cons, List.not_mem_nil, or_false] at hk
      rcases hk with rfl | rfl
      · refine n_catch (name := "java/lang/IndexOutOfBoundsException") (hp := 13) C [] ⟨0, 10, 13, 19⟩ [⟨0, 10, 17, 13⟩] (by rw [htab]; rfl) (fun z hz9 => nomatch hz9) (by decide) (by decide) (List.mem_of_getElem? (i := 1) rfl) (CE.1.2.2.2.1 _ (by decide +kernel)).2.2.2 rfl (fun a => ?_)
        refine n_astore (lv' := [(4, .ref a), (0, .ref aX), (1, .int x1), (2, .int x2), (3, .ref aO)]) C dL_meeting_13 (by decide) rfl rfl ?_
        refine n_iconst (v := (1 : Int32)) C dL_meeting_15 (by decide) rfl ?_
        exact n_iret C dL_meeting_16
      · refine n_catch (name := "java/lang/IllegalArgumentException") (hp := 17) C [⟨0, 10, 13, 19⟩] ⟨0, 10, 17, 13⟩ [] (by rw [htab]; rfl) (fun z hz9 => by
          simp only [List.mem_cons, List.not_mem_nil, or_false] at hz9
          subst hz9
          · exact Or.inr ⟨by decide, "java/lang/IndexOutOfBoundsException", C.ts _ (List.mem_of_getElem? (i := 1) rfl), CE.2.1⟩) (by decide) (by decide) (List.mem_of_getElem? (i := 2) rfl) (CE.1.2.2.2.1 _ (by decide +kernel)).2.2.2 rfl (fun a => ?_)
        refine n_astore (lv' := [(4, .ref a), (0, .ref aX), (1, .int x1), (2, .int x2), (3, .ref aO)]) C dL_meeting_17 (by decide) rfl rfl ?_
        refine n_iconst (v := (2 : Int32)) C dL_meeting_19 (by decide) rfl ?_
        exact n_iret C dL_meeting_20
-- L bestPlace
abbrev rmL_bestPlace : Room := { frames := 7, cells := 1, slots := 6, locals := 134 }
set_option maxHeartbeats 4000000 in
set_option maxRecDepth 100000 in
theorem kL_bestPlace (l : Launch) (hls : l.stackTraces = false) (D : va_G) (cyI cyO cyJ : ClassId) (aO : Nat) (aX : Nat) (aS : Nat → Nat) (aG : Nat → Nat) (aL : Nat → Nat) (aU : Nat → Nat) (aV : Nat → Nat) (aB : Nat → Nat) (aH : Nat → Nat) (n : Nat) (oO : Nat → Int64) (oS : OB) (oG : OB) (oL : OB) (oU : OB) (oV : OB) (oB : OB) (oH : HS) (x1 : Int32) (z : (String ⊕ Int32) × (OB) × (OB)) (hf : f5_bestPlace n oS oG oL oU oV oB oH x1 = some z) (hk : ∀ E, z.1 = .inl E → E ∈ (["java/lang/IndexOutOfBoundsException"] : List String)) : Cw l D (tyG cyI cyO cyJ) yL_bestPlace wsL_bestPlace rmL_bestPlace [.ref aX, .int x1, .ref aO] ([(aO, .inl (cyJ, 1, .inr (.inl oO)))] ++ ([(aX, .inr (5, [.ref (aL 0), .ref (aS 0), .ref (aG 0), .ref (aH 0), .ref (aB 0), .ref (aV 0), .ref (aU 0)]))] ++ (bX4 cyI aS oS ++ (bX3 cyI aG oG ++ (bX1 cyI aL oL ++ (bX4 cyI aU oU ++ (bX1 cyI aV oV ++ (bX2 cyI aB oB ++ bHS cyI cyO aH oH)))))))) ([(aO, .inl (cyJ, 1, .inr (.inl (uO oO z.1))))] ++ ([(aX, .inr (5, [.ref (aL 0), .ref (aS 0), .ref (aG 0), .ref (aH 0), .ref (aB 0), .ref (aV 0), .ref (aU 0)]))] ++ (bX4 cyI aS oS ++ (bX3 cyI aG oG ++ (bX1 cyI aL oL ++ (bX4 cyI aU z.2.1 ++ (bX1 cyI aV z.2.2 ++ (bX2 cyI aB oB ++ bHS cyI cyO aH oH)))))))) (some (.int (kO ["java/lang/IndexOutOfBoundsException"] z.1))) := by
  refine Cw.of (cc := cL_bestPlace) (nL := 4) (ret := some .int) (hh := [(0, 9, 12, 19)]) (lv := [(0, .ref aX), (1, .int x1), (2, .ref aO)]) (by decide +kernel) rfl rfl (Nat.le_of_ble_eq_true rfl) ?_
  intro p e s m args below meth c A C CE htab
  have C : Cx p s m args meth c D (tyG cyI cyO cyJ) A RL cL_bestPlace 4 (some .int) wsL_bestPlace := C
  refine n_aload_n C dL_bestPlace_0 2 rfl rfl ?_
  refine n_iconst (v := (0 : Int32)) C dL_bestPlace_1 (by decide) rfl ?_
  refine n_aload_n C dL_bestPlace_2 0 rfl rfl ?_
  refine n_iload_n C dL_bestPlace_3 1 rfl rfl ?_
  refine n_callX (As := [.int x1]) (rest := [.int (0 : Int32), .ref aO]) (w2 := [(aO, .inl (cyJ, 1, .inr (.inl oO)))] ++ ([(aX, .inr (5, [.ref (aL 0), .ref (aS 0), .ref (aG 0), .ref (aH 0), .ref (aB 0), .ref (aV 0), .ref (aU 0)]))] ++ (bX4 cyI aS oS ++ (bX3 cyI aG oG ++ (bX1 cyI aL oL ++ (bX4 cyI aU z.2.1 ++ (bX1 cyI aV z.2.2 ++ (bX2 cyI aB oB ++ bHS cyI cyO aH oH)))))))) C CE dL_bestPlace_4 (c5_bestPlace l hls D cyI cyO cyJ aX aS aG aL aU aV aB aH n oS oG oL oU oV oB oH x1 z hf) (cwV 1 C.ts gL_bestPlace_X5_bestPlace rfl rfl rfl (by decide +kernel) ⟨Nat.le_of_ble_eq_true rfl, Nat.le_of_ble_eq_true rfl⟩) rfl (q0 := 0) (ci := 5) rfl rfl (Frm.skip Frm.self) rfl (Nat.le_of_ble_eq_true rfl) ⟨Nat.le_of_ble_eq_true rfl, Nat.le_of_ble_eq_true rfl⟩ (fun r hr => ?_) (fun E hE => ?_)
  · cases hz : z.1 with
    | inl E => rw [hz] at hr; cases hr
    | inr v =>
      rw [hz] at hr
      obtain rfl := Sum.inr.inj hr
      refine n_i2l C dL_bestPlace_7 rfl ?_
      refine n_last (w2 := [(aO, .inl (cyJ, 1, .inr (.inl (vp_updL oO 0 v.toInt64))))] ++ ([(aX, .inr (5, [.ref (aL 0), .ref (aS 0), .ref (aG 0), .ref (aH 0), .ref (aB 0), .ref (aV 0), .ref (aU 0)]))] ++ (bX4 cyI aS oS ++ (bX3 cyI aG oG ++ (bX1 cyI aL oL ++ (bX4 cyI aU z.2.1 ++ (bX1 cyI aV z.2.2 ++ (bX2 cyI aB oB ++ bHS cyI cyO aH oH)))))))) C dL_bestPlace_8 0 2 rfl rfl (ck_in (by decide)) rfl rfl ?_
      refine n_goto (t := 15) C dL_bestPlace_9 (by decide) ?_
      refine n_iconst (v := (0 : Int32)) C dL_bestPlace_15 (by decide) rfl ?_
      exact n_iret C dL_bestPlace_16
  · cases hz : z.1 with
    | inr v => rw [hz] at hE; cases hE
    | inl E9 =>
      have hk := hk E9 hz
      rw [hz] at hE
      obtain rfl := Sum.inl.inj hE
      simp only [List.mem_cons, List.not_mem_nil, or_false] at hk
      subst hk
      · refine n_catch (name := "java/lang/IndexOutOfBoundsException") (hp := 12) C [] ⟨0, 9, 12, 19⟩ [] (by rw [htab]; rfl) (fun z hz9 => nomatch hz9) (by decide) (by decide) (List.mem_of_getElem? (i := 1) rfl) (CE.1.2.2.2.1 _ (by decide +kernel)).2.2.2 rfl (fun a => ?_)
        refine n_astore_n (lv' := [(3, .ref a), (0, .ref aX), (1, .int x1), (2, .ref aO)]) C dL_bestPlace_12 (by decide) rfl rfl ?_
        refine n_iconst (v := (1 : Int32)) C dL_bestPlace_13 (by decide) rfl ?_
        exact n_iret C dL_bestPlace_14
-- L isSure
abbrev rmL_isSure : Room := { frames := 7, cells := 1, slots := 6, locals := 113 }
set_option maxHeartbeats 4000000 in
set_option maxRecDepth 100000 in
theorem kL_isSure (l : Launch) (hls : l.stackTraces = false) (D : va_G) (cyI cyO cyJ : ClassId) (aO : Nat) (aX : Nat) (aS : Nat → Nat) (aG : Nat → Nat) (aL : Nat → Nat) (aU : Nat → Nat) (aV : Nat → Nat) (aB : Nat → Nat) (aH : Nat → Nat) (n : Nat) (oO : Nat → Int64) (oS : OB) (oG : OB) (oL : OB) (oU : OB) (oV : OB) (oB : OB) (oH : HS) (x1 : Int32) (z : (String ⊕ Int32) × (OB)) (hf : f5_isSure n oS oG oL oU oV oB oH x1 = some z) (hk : ∀ E, z.1 = .inl E → E ∈ (["java/lang/IndexOutOfBoundsException"] : List String)) : Cw l D (tyG cyI cyO cyJ) yL_isSure wsL_isSure rmL_isSure [.ref aX, .int x1, .ref aO] ([(aO, .inl (cyJ, 1, .inr (.inl oO)))] ++ ([(aX, .inr (5, [.ref (aL 0), .ref (aS 0), .ref (aG 0), .ref (aH 0), .ref (aB 0), .ref (aV 0), .ref (aU 0)]))] ++ (bX4 cyI aS oS ++ (bX3 cyI aG oG ++ (bX1 cyI aL oL ++ (bX4 cyI aU oU ++ (bX1 cyI aV oV ++ (bX2 cyI aB oB ++ bHS cyI cyO aH oH)))))))) ([(aO, .inl (cyJ, 1, .inr (.inl (uO oO z.1))))] ++ ([(aX, .inr (5, [.ref (aL 0), .ref (aS 0), .ref (aG 0), .ref (aH 0), .ref (aB 0), .ref (aV 0), .ref (aU 0)]))] ++ (bX4 cyI aS z.2 ++ (bX3 cyI aG oG ++ (bX1 cyI aL oL ++ (bX4 cyI aU oU ++ (bX1 cyI aV oV ++ (bX2 cyI aB oB ++ bHS cyI cyO aH oH)))))))) (some (.int (kO ["java/lang/IndexOutOfBoundsException"] z.1))) := by
  refine Cw.of (cc := cL_isSure) (nL := 4) (ret := some .int) (hh := [(0, 9, 12, 19)]) (lv := [(0, .ref aX), (1, .int x1), (2, .ref aO)]) (by decide +kernel) rfl rfl (Nat.le_of_ble_eq_true rfl) ?_
  intro p e s m args below meth c A C CE htab
  have C : Cx p s m args meth c D (tyG cyI cyO cyJ) A RL cL_isSure 4 (some .int) wsL_isSure := C
  refine n_aload_n C dL_isSure_0 2 rfl rfl ?_
  refine n_iconst (v := (0 : Int32)) C dL_isSure_1 (by decide) rfl ?_
  refine n_aload_n C dL_isSure_2 0 rfl rfl ?_
  refine n_iload_n C dL_isSure_3 1 rfl rfl ?_
  refine n_callX (As := [.int x1]) (rest := [.int (0 : Int32), .ref aO]) (w2 := [(aO, .inl (cyJ, 1, .inr (.inl oO)))] ++ ([(aX, .inr (5, [.ref (aL 0), .ref (aS 0), .ref (aG 0), .ref (aH 0), .ref (aB 0), .ref (aV 0), .ref (aU 0)]))] ++ (bX4 cyI aS z.2 ++ (bX3 cyI aG oG ++ (bX1 cyI aL oL ++ (bX4 cyI aU oU ++ (bX1 cyI aV oV ++ (bX2 cyI aB oB ++ bHS cyI cyO aH oH)))))))) C CE dL_isSure_4 (c5_isSure l hls D cyI cyO cyJ aX aS aG aL aU aV aB aH n oS oG oL oU oV oB oH x1 z hf) (cwV 1 C.ts gL_isSure_X5_isSure rfl rfl rfl (by decide +kernel) ⟨Nat.le_of_ble_eq_true rfl, Nat.le_of_ble_eq_true rfl⟩) rfl (q0 := 0) (ci := 5) rfl rfl (Frm.skip Frm.self) rfl (Nat.le_of_ble_eq_true rfl) ⟨Nat.le_of_ble_eq_true rfl, Nat.le_of_ble_eq_true rfl⟩ (fun r hr => ?_) (fun E hE => ?_)
  · cases hz : z.1 with
    | inl E => rw [hz] at hr; cases hr
    | inr v =>
      rw [hz] at hr
      obtain rfl := Sum.inr.inj hr
      refine n_i2l C dL_isSure_7 rfl ?_
      refine n_last (w2 := [(aO, .inl (cyJ, 1, .inr (.inl (vp_updL oO 0 v.toInt64))))] ++ ([(aX, .inr (5, [.ref (aL 0), .ref (aS 0), .ref (aG 0), .ref (aH 0), .ref (aB 0), .ref (aV 0), .ref (aU 0)]))] ++ (bX4 cyI aS z.2 ++ (bX3 cyI aG oG ++ (bX1 cyI aL oL ++ (bX4 cyI aU oU ++ (bX1 cyI aV oV ++ (bX2 cyI aB oB ++ bHS cyI cyO aH oH)))))))) C dL_isSure_8 0 2 rfl rfl (ck_in (by decide)) rfl rfl ?_
      refine n_goto (t := 15) C dL_isSure_9 (by decide) ?_
      refine n_iconst (v := (0 : Int32)) C dL_isSure_15 (by decide) rfl ?_
      exact n_iret C dL_isSure_16
  · cases hz : z.1 with
    | inr v => rw [hz] at hE; cases hE
    | inl E9 =>
      have hk := hk E9 hz
      rw [hz] at hE
      obtain rfl := Sum.inl.inj hE
      simp only [List.mem_cons, List.not_mem_nil, or_false] at hk
      subst hk
      · refine n_catch (name := "java/lang/IndexOutOfBoundsException") (hp := 12) C [] ⟨0, 9, 12, 19⟩ [] (by rw [htab]; rfl) (fun z hz9 => nomatch hz9) (by decide) (by decide) (List.mem_of_getElem? (i := 1) rfl) (CE.1.2.2.2.1 _ (by decide +kernel)).2.2.2 rfl (fun a => ?_)
        refine n_astore_n (lv' := [(3, .ref a), (0, .ref aX), (1, .int x1), (2, .ref aO)]) C dL_isSure_12 (by decide) rfl rfl ?_
        refine n_iconst (v := (1 : Int32)) C dL_isSure_13 (by decide) rfl ?_
        exact n_iret C dL_isSure_14
-- L ifMissing
abbrev rmL_ifMissing : Room := { frames := 7, cells := 1, slots := 6, locals := 119 }
set_option maxHeartbeats 4000000 in
set_option maxRecDepth 100000 in
theorem kL_ifMissing (l : Launch) (hls : l.stackTraces = false) (D : va_G) (cyI cyO cyJ : ClassId) (aO : Nat) (aX : Nat) (aS : Nat → Nat) (aG : Nat → Nat) (aL : Nat → Nat) (aU : Nat → Nat) (aV : Nat → Nat) (aB : Nat → Nat) (aH : Nat → Nat) (n : Nat) (oO : Nat → Int64) (oS : OB) (oG : OB) (oL : OB) (oU : OB) (oV : OB) (oB : OB) (oH : HS) (x1 : Int32) (z : (String ⊕ Int32) × (OB) × (OB)) (hf : f5_ifMissing n oS oG oL oU oV oB oH x1 = some z) (hk : ∀ E, z.1 = .inl E → E ∈ (["java/lang/IllegalArgumentException"] : List String)) : Cw l D (tyG cyI cyO cyJ) yL_ifMissing wsL_ifMissing rmL_ifMissing [.ref aX, .int x1, .ref aO] ([(aO, .inl (cyJ, 1, .inr (.inl oO)))] ++ ([(aX, .inr (5, [.ref (aL 0), .ref (aS 0), .ref (aG 0), .ref (aH 0), .ref (aB 0), .ref (aV 0), .ref (aU 0)]))] ++ (bX4 cyI aS oS ++ (bX3 cyI aG oG ++ (bX1 cyI aL oL ++ (bX4 cyI aU oU ++ (bX1 cyI aV oV ++ (bX2 cyI aB oB ++ bHS cyI cyO aH oH)))))))) ([(aO, .inl (cyJ, 1, .inr (.inl (uO oO z.1))))] ++ ([(aX, .inr (5, [.ref (aL 0), .ref (aS 0), .ref (aG 0), .ref (aH 0), .ref (aB 0), .ref (aV 0), .ref (aU 0)]))] ++ (bX4 cyI aS oS ++ (bX3 cyI aG z.2.1 ++ (bX1 cyI aL oL ++ (bX4 cyI aU oU ++ (bX1 cyI aV z.2.2 ++ (bX2 cyI aB oB ++ bHS cyI cyO aH oH)))))))) (some (.int (kO ["java/lang/IllegalArgumentException"] z.1))) := by
  refine Cw.of (cc := cL_ifMissing) (nL := 4) (ret := some .int) (hh := [(0, 9, 12, 13)]) (lv := [(0, .ref aX), (1, .int x1), (2, .ref aO)]) (by decide +kernel) rfl rfl (Nat.le_of_ble_eq_true rfl) ?_
  intro p e s m args below meth c A C CE htab
  have C : Cx p s m args meth c D (tyG cyI cyO cyJ) A RL cL_ifMissing 4 (some .int) wsL_ifMissing := C
  refine n_aload_n C dL_ifMissing_0 2 rfl rfl ?_
  refine n_iconst (v := (0 : Int32)) C dL_ifMissing_1 (by decide) rfl ?_
  refine n_aload_n C dL_ifMissing_2 0 rfl rfl ?_
  refine n_iload_n C dL_ifMissing_3 1 rfl rfl ?_
  refine n_callX (As := [.int x1]) (rest := [.int (0 : Int32), .ref aO]) (w2 := [(aO, .inl (cyJ, 1, .inr (.inl oO)))] ++ ([(aX, .inr (5, [.ref (aL 0), .ref (aS 0), .ref (aG 0), .ref (aH 0), .ref (aB 0), .ref (aV 0), .ref (aU 0)]))] ++ (bX4 cyI aS oS ++ (bX3 cyI aG z.2.1 ++ (bX1 cyI aL oL ++ (bX4 cyI aU oU ++ (bX1 cyI aV z.2.2 ++ (bX2 cyI aB oB ++ bHS cyI cyO aH oH)))))))) C CE dL_ifMissing_4 (c5_ifMissing l hls D cyI cyO cyJ aX aS aG aL aU aV aB aH n oS oG oL oU oV oB oH x1 z hf) (cwV 1 C.ts gL_ifMissing_X5_ifMissing rfl rfl rfl (by decide +kernel) ⟨Nat.le_of_ble_eq_true rfl, Nat.le_of_ble_eq_true rfl⟩) rfl (q0 := 0) (ci := 5) rfl rfl (Frm.skip Frm.self) rfl (Nat.le_of_ble_eq_true rfl) ⟨Nat.le_of_ble_eq_true rfl, Nat.le_of_ble_eq_true rfl⟩ (fun r hr => ?_) (fun E hE => ?_)
  · cases hz : z.1 with
    | inl E => rw [hz] at hr; cases hr
    | inr v =>
      rw [hz] at hr
      obtain rfl := Sum.inr.inj hr
      refine n_i2l C dL_ifMissing_7 rfl ?_
      refine n_last (w2 := [(aO, .inl (cyJ, 1, .inr (.inl (vp_updL oO 0 v.toInt64))))] ++ ([(aX, .inr (5, [.ref (aL 0), .ref (aS 0), .ref (aG 0), .ref (aH 0), .ref (aB 0), .ref (aV 0), .ref (aU 0)]))] ++ (bX4 cyI aS oS ++ (bX3 cyI aG z.2.1 ++ (bX1 cyI aL oL ++ (bX4 cyI aU oU ++ (bX1 cyI aV z.2.2 ++ (bX2 cyI aB oB ++ bHS cyI cyO aH oH)))))))) C dL_ifMissing_8 0 2 rfl rfl (ck_in (by decide)) rfl rfl ?_
      refine n_goto (t := 15) C dL_ifMissing_9 (by decide) ?_
      refine n_iconst (v := (0 : Int32)) C dL_ifMissing_15 (by decide) rfl ?_
      exact n_iret C dL_ifMissing_16
  · cases hz : z.1 with
    | inr v => rw [hz] at hE; cases hE
    | inl E9 =>
      have hk := hk E9 hz
      rw [hz] at hE
      obtain rfl := Sum.inl.inj hE
      simp only [List.mem_cons, List.not_mem_nil, or_false] at hk
      subst hk
      · refine n_catch (name := "java/lang/IllegalArgumentException") (hp := 12) C [] ⟨0, 9, 12, 13⟩ [] (by rw [htab]; rfl) (fun z hz9 => nomatch hz9) (by decide) (by decide) (List.mem_of_getElem? (i := 1) rfl) (CE.1.2.2.2.1 _ (by decide +kernel)).2.2.2 rfl (fun a => ?_)
        refine n_astore_n (lv' := [(3, .ref a), (0, .ref aX), (1, .int x1), (2, .ref aO)]) C dL_ifMissing_12 (by decide) rfl rfl ?_
        refine n_iconst (v := (1 : Int32)) C dL_ifMissing_13 (by decide) rfl ?_
        exact n_iret C dL_ifMissing_14
