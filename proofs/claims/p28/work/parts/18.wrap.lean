/-! THE LAW'S OWN CALLS: a face is called, what it throws is caught and numbered -/
def NCX (_ : State) : Prop := True
def ENVL (A : Nat → Prop) (U : State) : Prop := ENV A U ∧ NCX U
theorem NCX.moved {u U : State} (_ : u.vm.Alike U.vm) (_ : NCX u) : NCX U := trivial
theorem ENVL.go {A B : Nat → Prop} {s U : State} {H : Heap} {locs : List Loc} (h : ENVL A s) (hS : va_S A s.heap H locs) (hAB : ∀ q, B q → A q) (hW : s.WarmedH U.vm) (hU : U.heap = H) : ENVL B U := ⟨h.1.go hS hAB hW hU, h.2.moved hW.alike⟩
theorem ENVL.call {A : Nat → Prop} {U : State} {g : JFrame} {mk : MethodId} {a : Array Value} (h : ENVL A U) : ENVL A (U.calling g mk a) := ⟨h.1.call, h.2.moved (Vm.Alike.refl U.vm)⟩
def Cw (l : Launch) (D : va_G) (tys : List (ClassId × FieldType)) (y : MethodName) (ws : List Cond) (rm : Room) (av : List Value) (w w' : va_W) (r : Option Value) : Prop :=
  ∀ sz : Nat, Met l y ws rm (va_Pc av (fun U => U.heap.size = sz ∧ va_P D vwCl w U.heap ∧ va_K D vwCl tys U ∧ va_D (fun _ => True) w ∧ ENVL (va_A w sz) U)) (Qr D tys w' (va_A w sz) r) 1 6 (va_A w sz)
/-- an answer alone -/
def vi : String ⊕ Int32 → Option Int32
  | .inr v => some v
  | .inl _ => none
theorem vi_some {o : String ⊕ Int32} {v : Int32} (h : vi o = some v) : o = .inr v := by
  cases o with
  | inl E => cases h
  | inr w => exact congrArg Sum.inr (Option.some.inj h)
/-- an answer, or k where the state was wrong -/
def wi (k : Int32) : String ⊕ Int32 → Option Int32
  | .inr v => some v
  | .inl E => if E = "java/lang/IllegalStateException" then some k else none
theorem wi_inr {k v w : Int32} (h : wi k (.inr w) = some v) : w = v := Option.some.inj h
theorem wi_inl {k v : Int32} {E : String} (h : wi k (.inl E) = some v) : E = "java/lang/IllegalStateException" ∧ v = k := by
  change (if E = "java/lang/IllegalStateException" then some k else none) = some v at h
  by_cases c : E = "java/lang/IllegalStateException"
  · rw [if_pos c] at h
    exact ⟨c, (Option.some.inj h).symm⟩
  · rw [if_neg c] at h
    cases h
section WX
variable {p : Program} {l : Launch} {e : Env} {R : Room} {s : State} {m : MethodId} {args : Array Value} {below : List Frame} {meth : Method} {c : Code}
variable {D : va_G} {tys : List (ClassId × FieldType)} {A : Nat → Prop} {nL cells slots : Nat} {Q : State → Prop} {w : va_W} {lv : List (Nat × Value)} {st : List Value}
variable {own : String} {cc : ByteArray} {ret : Option FieldType} {Ts : List Cond} {pc q : Nat}
/-- with q thrown over this place -/
def Wx (p : Program) (l : Launch) (e : Env) (R : Room) (s : State) (m : MethodId) (args : Array Value) (below : List Frame) (meth : Method) (c : Code) (D : va_G) (A : Nat → Prop) (nL cells slots : Nat) (Q : State → Prop) (w : va_W) (pc : Nat) (lv : List (Nat × Value)) (st : List Value) (E : String) : Prop :=
  ∀ (H : Heap) (locs : List Loc) (ls : Array Slot) (q : Addr) (ce : Cell), va_P D vwCl w H → va_D A w → va_S A s.heap H locs → lv_has ls nL lv → H[q]? = some ce → ce.vm = .none → s.vm.findClass E = some ce.cls → vx_W p l e R s m args below meth c H locs cells slots Q (F0 m pc ls st) q
theorem blind_pcV {av : List Value} {sz : Nat} {ww : va_W} {A9 : Nat → Prop} : FrameBlind (va_Pc av (fun U => U.heap.size = sz ∧ va_P D vwCl ww U.heap ∧ va_K D vwCl tys U ∧ va_D (fun _ => True) ww ∧ ENV A9 U)) := by
  intro a U g mk h
  obtain ⟨h0, h1, hP, hK, hD, hE⟩ := h
  exact ⟨h0, h1, hP, va_K.moved (u := U) (U := U.calling g mk a) (Vm.Alike.refl U.vm) hK, hD, hE.call⟩
theorem blind_pcL {av : List Value} {sz : Nat} {ww : va_W} {A9 : Nat → Prop} : FrameBlind (va_Pc av (fun U => U.heap.size = sz ∧ va_P D vwCl ww U.heap ∧ va_K D vwCl tys U ∧ va_D (fun _ => True) ww ∧ ENVL A9 U)) := by
  intro a U g mk h
  obtain ⟨h0, h1, hP, hK, hD, hE⟩ := h
  exact ⟨h0, h1, hP, va_K.moved (u := U) (U := U.calling g mk a) (Vm.Alike.refl U.vm) hK, hD, hE.call⟩
theorem n_callX {y : MethodName} {ws : List Cond} {rm : Room} {wc wc' w2 : va_W} {o : String ⊕ Option Value} {n index maxL : Nat} {rest As : List Value} {b q0 ci N : Nat} {CC : String} {T : u_T} {fs : List Value} {bytes : ByteArray} {rt : Option FieldType} (C : Cx p s m args meth c D tys A own cc nL ret Ts) (CE : ENVL A s)
    (hdg : decode cc pc = .ok (.invokevirtual index, 3)) (hM : Cv l D tys y ws rm (.ref b :: As) wc wc' o) (cw : CallW R s args own CC index y bytes maxL rt ws rm 1 6 n) (hn : As.length = n)
    (he : wc[q0]? = some (b, .inr (ci, fs))) (hc : vwCl[ci]? = some (CC, T, N)) (hF : Frm w wc w2 wc') (hst : st = As.reverse ++ .ref b :: rest) (hcat : (rest.map fun v => v.category).sum ≤ 8) (hcs : cells + 1 ≤ R.cells ∧ slots + 6 ≤ R.slots)
    (kN : ∀ r, o = .inr r → Wn p l e R s m args below meth c D A nL (cells + 1) (slots + 6) Q w2 (pc + 3) lv (r.toList ++ rest))
    (kT : ∀ E, o = .inl E → Wx p l e R s m args below meth c D A nL (cells + 1) (slots + 6) Q w2 pc lv rest E) : Wn p l e R s m args below meth c D A nL cells slots Q w pc lv st := by
  intro H locs ls hP hD hS hl T hT X
  obtain ⟨hPc, hDc⟩ := hF.cut hP hD
  have hFr : ∀ q, va_A wc H.size q → A q := by
    intro q h
    rcases A_mem.mp h with h | h
    · obtain ⟨z, hz, rfl⟩ := List.mem_map.mp h
      exact (D_nd.mp hDc).2 z hz
    · exact C.al q (Nat.le_trans hS.1 h)
  have hr := vx_runV (rest := rest) (As := As) (g := F0 m pc ls st) (locs := locs) (cells := cells) (slots := slots) (below := below) C.1 (hM H.size) cw
    ⟨blind_pcV, va_recv C.K hPc hc he, fun U hU hW => ⟨rfl, by rw [hU], by rw [hU]; exact hPc, va_K.moved hW.alike C.K, hDc.weaken (fun _ _ _ _ => trivial), CE.1.go hS hFr hW hU⟩⟩ rfl hn hl.1 hst (lv_room hcat) hdg hcs T hT X
  have hSt : ∀ (t : State) (L : List Loc), H.size ≤ t.heap.size → (∀ q : Nat, q < H.size → ¬ va_A wc H.size q → t.heap[q]? = H[q]?) → (∀ q ∈ L, va_A wc H.size q.base) → va_S A s.heap t.heap (locs ++ L) := fun t L hz hk hL => ⟨Nat.le_trans hS.1 hz, fun q h1 h2 => by rw [hk q (Nat.lt_of_lt_of_le h1 hS.1) (fun z => h2 (hFr q z))]; exact hS.2.1 q h1 h2, fun q hq => by
    rcases List.mem_append.mp hq with h | h
    · exact hS.2.2 q h
    · exact hFr _ (hL q h)⟩
  rcases hr with ⟨v, st₀, t, T', L, h0, X', hL, e1, e2, hq, stp⟩ | ⟨q, st₀, t, T', L, E, ce, h0, X', hL, e1, e2, hq, hce, hcv, hcl, stp⟩
  · match o, hq with
    | .inr r, hq =>
      obtain ⟨⟨hv, hP1, hK1, hD1⟩, hz, hk⟩ := hq
      cases hv
      rw [h0] at hz hk
      have hj := hF.join (H1 := t.heap) hP hD hk hFr hP1 hD1
      obtain ⟨t2, a1, b1⟩ := kN _ rfl t.heap (locs ++ L) ls hj.1 hj.2 (hSt t L hz hk hL) hl T' e1 X'
      exact ⟨t2, stp t2 a1, b1⟩
    | .inl _, hq => exact hq.elim
  · match o, hq with
    | .inr _, hq => exact hq.elim
    | .inl E', hq =>
      obtain ⟨⟨hv, hP1, hK1, hD1⟩, hz, hk⟩ := hq
      subst hv
      rw [h0] at hz hk
      have hj := hF.join (H1 := t.heap) hP hD hk hFr hP1 hD1
      obtain ⟨t2, a1, b1⟩ := kT _ rfl t.heap (locs ++ L) ls q ce hj.1 hj.2 (hSt t L hz hk hL) hl hce hcv hcl T' e1 X'
      exact ⟨t2, stp.trans a1, b1⟩
theorem n_catch {name E : String} {hp : Nat} (C : Cx p s m args meth c D tys A own cc nL ret Ts) (pre : List ExceptionTableEntry) (x : ExceptionTableEntry) (suf : List ExceptionTableEntry) (hsplit : c.exceptionTable.toList = pre ++ x :: suf)
    (hpass : ∀ z ∈ pre, covers z pc = false ∨ (z.catchType ≠ 0 ∧ ∃ nm : String, (Cond.classLink own z.catchType nm).before args s = true ∧ va_Nc E nm s)) (hx : covers x pc = true) (h0 : x.catchType ≠ 0)
    (hlink : Cond.classLink own x.catchType name ∈ Ts) (hcast : va_Nw (.castable E name) s) (hhp : x.handlerPc = hp)
    (kk : ∀ a : Nat, Wn p l e R s m args below meth c D A nL cells slots Q w hp lv [.ref a]) : Wx p l e R s m args below meth c D A nL cells slots Q w pc lv st E := by
  subst hhp
  exact fun H locs ls q ce hP hD hS hl hce hcv hcl => vx_catch C.ow pre x suf hsplit hpass hx h0 (C.ts _ hlink) (va_Nw.use (A := args) rfl hcast) hce hcv hcl (kk q H locs ls hP hD hS hl)
end WX
theorem Cw.of {l : Launch} {D : va_G} {tys : List (ClassId × FieldType)} {y : MethodName} {ws ws' : List Cond} {rm : Room} {av : List Value} {w w' : va_W} {r : Option Value} {cc : ByteArray} {nL : Nat} {ret : Option FieldType} {hh : List (Nat × Nat × Nat × Nat)} {lv : List (Nat × Value)}
    (hy : plainName y.cls = true) (hw : ws = Cond.codeWith y cc nL ret hh :: ws') (hlv : lv_args 0 av = lv) (hlen : (lg_sl av).length ≤ nL)
    (body : ∀ (p : Program) (e : Env) (s : State) (m : MethodId) (args : Array Value) (below : List Frame) (meth : Method) (c : Code) (A : Nat → Prop), Cx p s m args meth c D tys A y.cls cc nL ret ws → ENVL A s → c.exceptionTable.toList = tableOf hh → Wn p l e rm s m args below meth c D A nL 0 0 (MQ below (Qr D tys w' A r) args s 1 6 A) w 0 lv []) : Cw l D tys y ws rm av w w' r := by
  intro sz
  refine va_MetW (cc := cc) (maxL := nL) (ret := ret) hy hw ?_
  intro p e s m args below meth c s₁ B hml hv
  obtain ⟨rfl, hsz, hP, hK, hD0, hE⟩ := hv
  subst hsz
  have hD := hD0.self (sz := s.heap.size)
  have hl := lv_entry av (n := nL) hlen
  rw [hlv] at hl
  rw [lg_entry_eq]
  have hts := atoms_spec (ws := ws) B.pre
  have htab : c.exceptionTable.toList = tableOf hh   := vx_table (x := y) B (hts _ (by rw [hw]; exact List.mem_cons_self))
  exact body p e s m av.toArray below meth c (va_A w s.heap.size) ⟨⟨B.exec, B.bytes, hml, findClass_of_methodNamed B.named, hts⟩, hK, fun q h => Or.inr h, B.returns, B.notSynchronized, rfl⟩ hE htab s.heap [] _ hP hD va_S.rf hl
-- L score
abbrev rmL_score : Room := { frames := 7, cells := 1, slots := 6, locals := 136 }
set_option maxHeartbeats 4000000 in
set_option maxRecDepth 100000 in
theorem kL_score (l : Launch) (hls : l.stackTraces = false) (D : va_G) (cyI cyO cyJ : ClassId) (aX : Nat) (aS : Nat → Nat) (aG : Nat → Nat) (aL : Nat → Nat) (aU : Nat → Nat) (aV : Nat → Nat) (aB : Nat → Nat) (aH : Nat → Nat) (n : Nat) (oS : OB) (oG : OB) (oL : OB) (oU : OB) (oV : OB) (oB : OB) (oH : HS) (x1 : Int32) (x2 : Int32) (x3 : Int32) (z : (String ⊕ Int32) × (OB) × (OB) × (HS)) (hf : f5_score n oS oG oL oU oV oB oH x1 x2 x3 = some z) (v : Int32) (hv : wi (-333) z.1 = some v) : Cw l D (tyG cyI cyO cyJ) yL_score wsL_score rmL_score [.ref aX, .int x1, .int x2, .int x3] ([(aX, .inr (5, [.ref (aL 0), .ref (aS 0), .ref (aG 0), .ref (aH 0), .ref (aB 0), .ref (aV 0), .ref (aU 0)]))] ++ (bX4 cyI aS oS ++ (bX3 cyI aG oG ++ (bX1 cyI aL oL ++ (bX4 cyI aU oU ++ (bX1 cyI aV oV ++ (bX2 cyI aB oB ++ bHS cyI cyO aH oH))))))) ([(aX, .inr (5, [.ref (aL 0), .ref (aS 0), .ref (aG 0), .ref (aH 0), .ref (aB 0), .ref (aV 0), .ref (aU 0)]))] ++ (bX4 cyI aS z.2.1 ++ (bX3 cyI aG oG ++ (bX1 cyI aL z.2.2.1 ++ (bX4 cyI aU oU ++ (bX1 cyI aV oV ++ (bX2 cyI aB oB ++ bHS cyI cyO aH z.2.2.2))))))) (some (.int v)) := by
  refine Cw.of (cc := cL_score) (nL := 5) (ret := some .int) (hh := [(0, 7, 8, 15)]) (lv := [(0, .ref aX), (1, .int x1), (2, .int x2), (3, .int x3)]) (by decide +kernel) rfl rfl (Nat.le_of_ble_eq_true rfl) ?_
  intro p e s m args below meth c A C CE htab
  have C : Cx p s m args meth c D (tyG cyI cyO cyJ) A RL cL_score 5 (some .int) wsL_score := C
  refine n_aload_n C dL_score_0 0 rfl rfl ?_
  refine n_iload_n C dL_score_1 1 rfl rfl ?_
  refine n_iload_n C dL_score_2 2 rfl rfl ?_
  refine n_iload_n C dL_score_3 3 rfl rfl ?_
  refine n_callX (As := [.int x1, .int x2, .int x3]) (rest := []) (w2 := [(aX, .inr (5, [.ref (aL 0), .ref (aS 0), .ref (aG 0), .ref (aH 0), .ref (aB 0), .ref (aV 0), .ref (aU 0)]))] ++ (bX4 cyI aS z.2.1 ++ (bX3 cyI aG oG ++ (bX1 cyI aL z.2.2.1 ++ (bX4 cyI aU oU ++ (bX1 cyI aV oV ++ (bX2 cyI aB oB ++ bHS cyI cyO aH z.2.2.2))))))) C CE dL_score_4 (c5_score l hls D cyI cyO cyJ aX aS aG aL aU aV aB aH n oS oG oL oU oV oB oH x1 x2 x3 z hf) (cwV 3 C.ts gL_score_X5_score rfl rfl rfl (by decide +kernel) ⟨Nat.le_of_ble_eq_true rfl, Nat.le_of_ble_eq_true rfl⟩) rfl (q0 := 0) (ci := 5) rfl rfl Frm.self rfl (Nat.le_of_ble_eq_true rfl) ⟨Nat.le_of_ble_eq_true rfl, Nat.le_of_ble_eq_true rfl⟩ (fun r hr => ?_) (fun E hE => ?_)
  · cases hz : z.1 with
    | inl E => rw [hz] at hr; cases hr
    | inr v9 =>
      rw [hz] at hr hv
      obtain rfl := Sum.inr.inj hr
      obtain rfl := wi_inr hv
      exact n_iret C dL_score_7
  · cases hz : z.1 with
    | inr v9 => rw [hz] at hE; cases hE
    | inl E9 =>
      rw [hz] at hE hv
      obtain rfl := Sum.inl.inj hE
      obtain ⟨rfl, rfl⟩ := wi_inl hv
      refine n_catch (name := "java/lang/IllegalStateException") (hp := 8) C [] ⟨0, 7, 8, 15⟩ [] (by rw [htab]; rfl) (fun z hz9 => nomatch hz9) (by decide) (by decide) (List.mem_of_getElem? (i := 1) rfl) (CE.1.2.2.2.1 _ (by decide +kernel)).2.2.2 rfl (fun a => ?_)
      refine n_astore (lv' := [(4, .ref a), (0, .ref aX), (1, .int x1), (2, .int x2), (3, .int x3)]) C dL_score_8 (by decide) rfl rfl ?_
      refine n_sipush (v := (-333 : Int32)) C dL_score_10 (by decide) rfl ?_
      exact n_iret C dL_score_13
-- L walkover
abbrev rmL_walkover : Room := { frames := 7, cells := 1, slots := 6, locals := 135 }
set_option maxHeartbeats 4000000 in
set_option maxRecDepth 100000 in
theorem kL_walkover (l : Launch) (hls : l.stackTraces = false) (D : va_G) (cyI cyO cyJ : ClassId) (aX : Nat) (aS : Nat → Nat) (aG : Nat → Nat) (aL : Nat → Nat) (aU : Nat → Nat) (aV : Nat → Nat) (aB : Nat → Nat) (aH : Nat → Nat) (n : Nat) (oS : OB) (oG : OB) (oL : OB) (oU : OB) (oV : OB) (oB : OB) (oH : HS) (x1 : Int32) (x2 : Int32) (z : (String ⊕ Int32) × (OB) × (OB) × (HS)) (hf : f5_walkover n oS oG oL oU oV oB oH x1 x2 = some z) (v : Int32) (hv : wi (-333) z.1 = some v) : Cw l D (tyG cyI cyO cyJ) yL_walkover wsL_walkover rmL_walkover [.ref aX, .int x1, .int x2] ([(aX, .inr (5, [.ref (aL 0), .ref (aS 0), .ref (aG 0), .ref (aH 0), .ref (aB 0), .ref (aV 0), .ref (aU 0)]))] ++ (bX4 cyI aS oS ++ (bX3 cyI aG oG ++ (bX1 cyI aL oL ++ (bX4 cyI aU oU ++ (bX1 cyI aV oV ++ (bX2 cyI aB oB ++ bHS cyI cyO aH oH))))))) ([(aX, .inr (5, [.ref (aL 0), .ref (aS 0), .ref (aG 0), .ref (aH 0), .ref (aB 0), .ref (aV 0), .ref (aU 0)]))] ++ (bX4 cyI aS z.2.1 ++ (bX3 cyI aG oG ++ (bX1 cyI aL z.2.2.1 ++ (bX4 cyI aU oU ++ (bX1 cyI aV oV ++ (bX2 cyI aB oB ++ bHS cyI cyO aH z.2.2.2))))))) (some (.int v)) := by
  refine Cw.of (cc := cL_walkover) (nL := 4) (ret := some .int) (hh := [(0, 6, 7, 15)]) (lv := [(0, .ref aX), (1, .int x1), (2, .int x2)]) (by decide +kernel) rfl rfl (Nat.le_of_ble_eq_true rfl) ?_
  intro p e s m args below meth c A C CE htab
  have C : Cx p s m args meth c D (tyG cyI cyO cyJ) A RL cL_walkover 4 (some .int) wsL_walkover := C
  refine n_aload_n C dL_walkover_0 0 rfl rfl ?_
  refine n_iload_n C dL_walkover_1 1 rfl rfl ?_
  refine n_iload_n C dL_walkover_2 2 rfl rfl ?_
  refine n_callX (As := [.int x1, .int x2]) (rest := []) (w2 := [(aX, .inr (5, [.ref (aL 0), .ref (aS 0), .ref (aG 0), .ref (aH 0), .ref (aB 0), .ref (aV 0), .ref (aU 0)]))] ++ (bX4 cyI aS z.2.1 ++ (bX3 cyI aG oG ++ (bX1 cyI aL z.2.2.1 ++ (bX4 cyI aU oU ++ (bX1 cyI aV oV ++ (bX2 cyI aB oB ++ bHS cyI cyO aH z.2.2.2))))))) C CE dL_walkover_3 (c5_walkover l hls D cyI cyO cyJ aX aS aG aL aU aV aB aH n oS oG oL oU oV oB oH x1 x2 z hf) (cwV 2 C.ts gL_walkover_X5_walkover rfl rfl rfl (by decide +kernel) ⟨Nat.le_of_ble_eq_true rfl, Nat.le_of_ble_eq_true rfl⟩) rfl (q0 := 0) (ci := 5) rfl rfl Frm.self rfl (Nat.le_of_ble_eq_true rfl) ⟨Nat.le_of_ble_eq_true rfl, Nat.le_of_ble_eq_true rfl⟩ (fun r hr => ?_) (fun E hE => ?_)
  · cases hz : z.1 with
    | inl E => rw [hz] at hr; cases hr
    | inr v9 =>
      rw [hz] at hr hv
      obtain rfl := Sum.inr.inj hr
      obtain rfl := wi_inr hv
      exact n_iret C dL_walkover_6
  · cases hz : z.1 with
    | inr v9 => rw [hz] at hE; cases hE
    | inl E9 =>
      rw [hz] at hE hv
      obtain rfl := Sum.inl.inj hE
      obtain ⟨rfl, rfl⟩ := wi_inl hv
      refine n_catch (name := "java/lang/IllegalStateException") (hp := 7) C [] ⟨0, 6, 7, 15⟩ [] (by rw [htab]; rfl) (fun z hz9 => nomatch hz9) (by decide) (by decide) (List.mem_of_getElem? (i := 1) rfl) (CE.1.2.2.2.1 _ (by decide +kernel)).2.2.2 rfl (fun a => ?_)
      refine n_astore_n (lv' := [(3, .ref a), (0, .ref aX), (1, .int x1), (2, .int x2)]) C dL_walkover_7 (by decide) rfl rfl ?_
      refine n_sipush (v := (-333 : Int32)) C dL_walkover_8 (by decide) rfl ?_
      exact n_iret C dL_walkover_11
-- L undo
abbrev rmL_undo : Room := { frames := 7, cells := 1, slots := 6, locals := 102 }
set_option maxHeartbeats 4000000 in
set_option maxRecDepth 100000 in
theorem kL_undo (l : Launch) (hls : l.stackTraces = false) (D : va_G) (cyI cyO cyJ : ClassId) (aX : Nat) (aS : Nat → Nat) (aG : Nat → Nat) (aL : Nat → Nat) (aU : Nat → Nat) (aV : Nat → Nat) (aB : Nat → Nat) (aH : Nat → Nat) (n : Nat) (oS : OB) (oG : OB) (oL : OB) (oU : OB) (oV : OB) (oB : OB) (oH : HS) (z : (String ⊕ Int32) × (OB) × (HS)) (hf : f5_undo n oS oG oL oU oV oB oH = some z) (v : Int32) (hv : wi (-3) z.1 = some v) : Cw l D (tyG cyI cyO cyJ) yL_undo wsL_undo rmL_undo [.ref aX] ([(aX, .inr (5, [.ref (aL 0), .ref (aS 0), .ref (aG 0), .ref (aH 0), .ref (aB 0), .ref (aV 0), .ref (aU 0)]))] ++ (bX4 cyI aS oS ++ (bX3 cyI aG oG ++ (bX1 cyI aL oL ++ (bX4 cyI aU oU ++ (bX1 cyI aV oV ++ (bX2 cyI aB oB ++ bHS cyI cyO aH oH))))))) ([(aX, .inr (5, [.ref (aL 0), .ref (aS 0), .ref (aG 0), .ref (aH 0), .ref (aB 0), .ref (aV 0), .ref (aU 0)]))] ++ (bX4 cyI aS oS ++ (bX3 cyI aG oG ++ (bX1 cyI aL z.2.1 ++ (bX4 cyI aU oU ++ (bX1 cyI aV oV ++ (bX2 cyI aB oB ++ bHS cyI cyO aH z.2.2))))))) (some (.int v)) := by
  refine Cw.of (cc := cL_undo) (nL := 2) (ret := some .int) (hh := [(0, 4, 5, 15)]) (lv := [(0, .ref aX)]) (by decide +kernel) rfl rfl (Nat.le_of_ble_eq_true rfl) ?_
  intro p e s m args below meth c A C CE htab
  have C : Cx p s m args meth c D (tyG cyI cyO cyJ) A RL cL_undo 2 (some .int) wsL_undo := C
  refine n_aload_n C dL_undo_0 0 rfl rfl ?_
  refine n_callX (As := []) (rest := []) (w2 := [(aX, .inr (5, [.ref (aL 0), .ref (aS 0), .ref (aG 0), .ref (aH 0), .ref (aB 0), .ref (aV 0), .ref (aU 0)]))] ++ (bX4 cyI aS oS ++ (bX3 cyI aG oG ++ (bX1 cyI aL z.2.1 ++ (bX4 cyI aU oU ++ (bX1 cyI aV oV ++ (bX2 cyI aB oB ++ bHS cyI cyO aH z.2.2))))))) C CE dL_undo_1 (c5_undo l hls D cyI cyO cyJ aX aS aG aL aU aV aB aH n oS oG oL oU oV oB oH z hf) (cwV 0 C.ts gL_undo_X5_undo rfl rfl rfl (by decide +kernel) ⟨Nat.le_of_ble_eq_true rfl, Nat.le_of_ble_eq_true rfl⟩) rfl (q0 := 0) (ci := 5) rfl rfl Frm.self rfl (Nat.le_of_ble_eq_true rfl) ⟨Nat.le_of_ble_eq_true rfl, Nat.le_of_ble_eq_true rfl⟩ (fun r hr => ?_) (fun E hE => ?_)
  · cases hz : z.1 with
    | inl E => rw [hz] at hr; cases hr
    | inr v9 =>
      rw [hz] at hr hv
      obtain rfl := Sum.inr.inj hr
      obtain rfl := wi_inr hv
      exact n_iret C dL_undo_4
  · cases hz : z.1 with
    | inr v9 => rw [hz] at hE; cases hE
    | inl E9 =>
      rw [hz] at hE hv
      obtain rfl := Sum.inl.inj hE
      obtain ⟨rfl, rfl⟩ := wi_inl hv
      refine n_catch (name := "java/lang/IllegalStateException") (hp := 5) C [] ⟨0, 4, 5, 15⟩ [] (by rw [htab]; rfl) (fun z hz9 => nomatch hz9) (by decide) (by decide) (List.mem_of_getElem? (i := 1) rfl) (CE.1.2.2.2.1 _ (by decide +kernel)).2.2.2 rfl (fun a => ?_)
      refine n_astore_n (lv' := [(1, .ref a), (0, .ref aX)]) C dL_undo_5 (by decide) rfl rfl ?_
      refine n_bipush (v := (-3 : Int32)) C dL_undo_6 (by decide) rfl ?_
      exact n_iret C dL_undo_8
