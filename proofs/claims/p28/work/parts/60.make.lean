/-! CONSTRUCTORS: what is made, at addresses that nobody knows beforehand -/
def sVF : Nat → Int32 := fun j => ([2, 1, 20, 9] : List Int32).getD j 0
/-- what a constructor finds outside its world -/
def ENVM (A : Nat → Prop) (U : State) : Prop := SA4 "VALUES_AT_FIRST" sVF A U ∧ va_Nw (.fieldLinkNest RX1 48 "QuizFixtures" "VALUES_AT_FIRST" "[I" "QuizFixtures") U ∧ va_AO RX1 U ∧ va_Nw (.methodLinkNest RX5 18 yX4_init "QuizFixtures") U ∧ va_Nw (.methodLinkNest RX5 25 yX3_init "QuizFixtures") U ∧ va_Nw (.methodLinkNest RX5 39 yX2_init "QuizFixtures") U
theorem ENVM.go {A B : Nat → Prop} {s U : State} {H : Heap} {locs : List Loc} (h : ENVM A s) (hS : va_S A s.heap H locs) (hAB : ∀ q, B q → A q) (hW : s.WarmedH U.vm) (hU : U.heap = H) : ENVM B U :=
  ⟨h.1.go hS hAB hW.alike hU, va_Nw.warmF hW h.2.1, h.2.2.1.moved hW.alike, va_Nw.warmM hW h.2.2.2.1, va_Nw.warmM hW h.2.2.2.2.1, va_Nw.warmM hW h.2.2.2.2.2⟩
theorem ENVM.call {A : Nat → Prop} {U : State} {g : JFrame} {mk : MethodId} {a : Array Value} (h : ENVM A U) : ENVM A (U.calling g mk a) :=
  h.go (H := U.heap) (locs := []) va_S.rf (fun _ h => h) (State.WarmedH.refl U) rfl
/-- a constructor's end: some world of a kind -/
def Qn (D : va_G) (tys : List (ClassId × FieldType)) (P : va_W → Prop) (A : Nat → Prop) : Array Value → State → Outcome → State → Prop := fun _ st oc t => (oc = .returned none ∧ ∃ w', P w' ∧ va_P D vwCl w' t.heap ∧ va_K D vwCl tys t ∧ va_D A w') ∧ va_F A st t
def Cn (l : Launch) (D : va_G) (tys : List (ClassId × FieldType)) (y : MethodName) (ws : List Cond) (rm : Room) (mc ms : Nat) (av : List Value) (w : va_W) (P : va_W → Prop) : Prop :=
  ∀ sz : Nat, Met l y ws rm (va_Pc av (fun U => U.heap.size = sz ∧ va_P D vwCl w U.heap ∧ va_K D vwCl tys U ∧ va_D (fun _ => True) w ∧ ENVM (va_A w sz) U)) (Qn D tys P (va_A w sz)) mc ms (va_A w sz)
theorem perm_rot {r x y : va_W} : (x ++ (r ++ y)).Perm (r ++ (y ++ x)) := by
  rw [← List.append_assoc r y x]
  exact List.perm_append_comm
section MK
variable {p : Program} {l : Launch} {e : Env} {R : Room} {s : State} {m : MethodId} {args : Array Value} {below : List Frame} {meth : Method} {c : Code}
variable {D : va_G} {tys : List (ClassId × FieldType)} {A : Nat → Prop} {nL cells slots : Nat} {Q : State → Prop} {w : va_W} {lv : List (Nat × Value)} {st : List Value}
variable {own : String} {cc : ByteArray} {ret : Option FieldType} {Ts : List Cond} {pc q : Nat}
theorem n_vretM {P : va_W → Prop} (C : Cx p s m args meth c D tys A own cc nL none Ts) (hdg : decode cc pc = .ok (.return_, 1)) (hPw : P w) : Wn p l e R s m args below meth c D A nL cells slots (MQ below (Qn D tys P A) args s cells slots A) w pc lv [] :=
  fun H locs ls hP hD hS hl => W.vret C.x C.b C.r (fun t ht hW => ⟨⟨rfl, w, hPw, by rw [ht]; exact hP, va_K.moved hW.alike C.K, hD⟩, hS.F ht⟩) hS.2.2 hdg C.k
theorem n_objInit (C : Cx p s m args meth c D tys A own cc nL ret Ts) {index a : Nat} (hdg : decode cc pc = .ok (.invokespecial index, 3)) (hlink : Cond.methodLink own index objectInit ∈ Ts) (hinst : Cond.instanceMethod objectInit ∈ Ts) (hcode : Cond.code objectInit ⟨#[0xb1]⟩ 1 none ∈ Ts) (hfr : 1 ≤ R.frames) (hlo : (st.map fun v => v.category).sum + 12 ≤ R.locals) (hq : pc + 3 = q)
    (kk : Wn p l e R s m args below meth c D A nL cells slots Q w q lv st) : Wn p l e R s m args below meth c D A nL cells slots Q w pc lv (.ref a :: st) := by
  subst hq
  exact fun H locs ls hP hD hS hl => W.objInit C.x C.b C.ow (C.ts _ hlink) (C.ts _ hinst) (C.ts _ hcode) rfl (hl.1.trans C.1.2.2.1.symm) rfl hdg hfr (by show 2 * 0 + _ + 12 ≤ _; omega) (W.eq (g2 := F0 m (pc + 3) ls st) rfl (kk H locs ls hP hD hS hl))
theorem n_new (C : Cx p s m args meth c D tys A own cc nL ret Ts) {CC : String} {T : u_T} {N ci index : Nat} {fs : List Value} {ty : Nat → FieldType} (hdg : decode cc pc = .ok (.new index, 3)) (hin : ∀ w ∈ u_ws CC T N, w ∈ Ts) (hty : ∀ k, k < N → parseFieldDescriptor (T k).2.2.1 = some (ty k)) (hcl : Cond.classLink own index CC ∈ Ts) (hinst : Cond.instantiable CC N ∈ Ts) (hini : Cond.initialized CC ∈ Ts)
    (hc : vwCl[ci]? = some (CC, T, N)) (hfs : ∀ j, j < N → defaultValue (ty j) = vp_V fs j) (hcells : cells + 1 ≤ R.cells) (hslots : slots + N ≤ R.slots) (hq : pc + 3 = q)
    (kk : ∀ a : Nat, Wn p l e R s m args below meth c D A nL (cells + 1) (slots + N) Q (w ++ [(a, .inr (ci, fs))]) q lv (.ref a :: st)) : Wn p l e R s m args below meth c D A nL cells slots Q w pc lv st := by
  subst hq
  exact fun H locs ls hP hD hS hl => va_new C.x C.b C.ts hin ty hty C.ow (C.ts _ hcl) (C.ts _ hinst) (C.ts _ hini) C.K hP hD hS C.al hc hfs hcells hslots hdg (fun a H1 hP1 hD1 hS1 => kk a H1 locs ls hP1 hD1 hS1 hl)
theorem n_putF (C : Cx p s m args meth c D tys A own cc nL ret Ts) (hin2 : meth.name = "<init>") {CC : String} {T : u_T} {N ci index : Nat} {a : Nat} {fs : List Value} {v : Value} {w2 : va_W} {ty : FieldType} {ty0 : Nat → FieldType} (hdg : decode cc pc = .ok (.putfield index, 3)) (hin : ∀ w ∈ u_ws CC T N, w ∈ Ts) (hty : ∀ k, k < N → parseFieldDescriptor (T k).2.2.1 = some (ty0 k)) (hnm : ∀ a, a < N → ∀ b, b < N → a ≠ b → (T a).2.1 ≠ (T b).2.1) (q0 : Nat) (he : w[q0]? = some (a, .inr (ci, fs))) (hc : vwCl[ci]? = some (CC, T, N)) (k : Nat) (hk : k < N) (hlink : Cond.fieldLink own index own (T k).2.1 (T k).2.2.1 ∈ Ts) (hfin : (T k).2.2.2 = true) (hdecl : (T k).1 = own) (hd : parseFieldDescriptor (T k).2.2.1 = some ty) (hn : narrow ty v = v) (hfit : fits ty v = true) (hlen : k < fs.length) (hw : w.set q0 (a, .inr (ci, fs.set k v)) = w2) (hq : pc + 3 = q)
    (kk : Wn p l e R s m args below meth c D A nL cells slots Q w2 q lv st) : Wn p l e R s m args below meth c D A nL cells slots Q w pc lv (v :: .ref a :: st) := by
  subst hq; subst hw
  exact fun H locs ls hP hD hS hl => va_putF C.x C.b C.ts hin ty0 hty hnm C.ow C.K hP hD hS q0 he hc k hk (C.ts _ hlink) (fun x h => by rw [← hdecl]; exact h) hfin hin2 hdecl hd hn hfit hlen hdg (fun H1 locs1 hP1 hD1 hS1 => kk H1 locs1 ls hP1 hD1 hS1 hl)
theorem n_newa {cyI cyO cyJ : ClassId} (C : Cx p s m args meth c D (tyG cyI cyO cyJ) A own cc nL ret Ts) {n : Int32} {N : Nat} (hdg : decode cc pc = .ok (.newarray .int, 2)) (harr : Cond.arrayClass .int ∈ Ts) (hn : ¬ n < 0) (hN : n.toNatClampNeg = N) (hbytes : N * 4 ≤ 536870912) (hcells : cells + 1 ≤ R.cells) (hslots : slots + N ≤ R.slots) (hq : pc + 2 = q)
    (kk : ∀ a : Nat, Wn p l e R s m args below meth c D A nL (cells + 1) (slots + N) Q (w ++ [(a, .inl (cyI, N, .inl (fun _ => 0)))]) q lv (.ref a :: st)) : Wn p l e R s m args below meth c D A nL cells slots Q w pc lv (.int n :: st) := by
  subst hq
  refine fun H locs ls hP hD hS hl => va_newa (atype := .int) (a0 := (N, .inl (fun _ => 0))) C.x C.b (C.ts _ harr) rfl C.K hP hD hS C.al (fun _ => rfl) hn hN hbytes hcells hslots hdg (fun a cA H1 hK1 hP1 hD1 hS1 => ?_)
  have e1 : s.vm.findClass ("[" ++ FieldType.int.toString) = some cA := (hK1.2 2 (cA, .int) rfl).2
  have e2 : s.vm.findClass ("[" ++ FieldType.int.toString) = some cyI := (C.K.2 0 (cyI, .int) rfl).2
  obtain rfl : cA = cyI := Option.some.inj (e1.symm.trans e2)
  exact kk a H1 locs ls hP1 hD1 hS1 hl
theorem n_newq {cyI cyO cyJ : ClassId} (C : Cx p s m args meth c D (tyG cyI cyO cyJ) A own cc nL ret Ts) (CE : ENVM A s) {index : Nat} {n : Int32} {N : Nat} (hdg : decode cc pc = .ok (.anewarray index, 3)) (hcl : Cond.classLink own index RX1 ∈ Ts) (hn : ¬ n < 0) (hN : n.toNatClampNeg = N) (hbytes : N * 4 ≤ 536870912) (hcells : cells + 1 ≤ R.cells) (hslots : slots + N ≤ R.slots) (hq : pc + 3 = q)
    (kk : ∀ a : Nat, Wn p l e R s m args below meth c D A nL (cells + 1) (slots + N) Q (w ++ [(a, .inl (cyO, N, .inr (.inr (.inr (.inr (fun _ => none))))))]) q lv (.ref a :: st)) : Wn p l e R s m args below meth c D A nL cells slots Q w pc lv (.int n :: st) := by
  subst hq
  refine fun H locs ls hP hD hS hl => va_newq C.x C.b C.ow (C.ts _ hcl) CE.2.2.1 C.K hP hD hS C.al hn hN hbytes hcells hslots hdg (fun a cA H1 hK1 hP1 hD1 hS1 => ?_)
  obtain ⟨-, -, -, -, -, e1⟩ := (hK1.2 2 (cA, .object RX1) rfl).2
  obtain ⟨-, -, -, -, -, e2⟩ := (C.K.2 1 (cyO, .object RX1) rfl).2
  obtain rfl : cA = cyO := Option.some.inj (e1.symm.trans e2)
  exact kk a H1 locs ls hP1 hD1 hS1 hl
/-- a constructor is called, on cells that stand first -/
theorem n_runM {y : MethodName} {ws : List Cond} {wc wr : va_W} {P : va_W → Prop} {mc ms : Nat} {rest : List Value} {a : Array Value} (C : Cx p s m args meth c D tys A own cc nL ret Ts)
    (hw : w.Perm (wc ++ wr))
    (hr : ∀ (H : Heap) (locs : List Loc) (ls : Array Slot), va_P D vwCl wc H → va_D A wc → va_S A s.heap H locs → (∀ q, va_A wc H.size q → A q) → lv_has ls nL lv → va_Run p l e R s m args below meth c H locs cells slots mc ms (F0 m pc ls st) rest (Qn D tys P (va_A wc H.size) a) (va_A wc H.size))
    (hq : pc + 3 = q) (kk : ∀ wc', P wc' → Wn p l e R s m args below meth c D A nL (cells + mc) (slots + ms) Q (wc' ++ wr) q lv rest) : Wn p l e R s m args below meth c D A nL cells slots Q w pc lv st := by
  subst hq
  intro H locs ls hP hD hS hl T hT X
  have hF0 : Frm w wc w wc := ⟨wr, hw, hw⟩
  obtain ⟨hPc, hDc⟩ := hF0.cut hP hD
  have hFr : ∀ q, va_A wc H.size q → A q := by
    intro q h
    rcases A_mem.mp h with h | h
    · obtain ⟨z, hz, rfl⟩ := List.mem_map.mp h
      exact (D_nd.mp hDc).2 z hz
    · exact C.al q (Nat.le_trans hS.1 h)
  obtain ⟨v, st₀, t, T', L, h0, X', hL, e1, e2, ⟨⟨hv, w', hPw, hP1, hK1, hD1⟩, hz, hk⟩, stp⟩ := hr H locs ls hPc hDc hS hFr hl T hT X
  cases hv
  rw [h0] at hz hk
  have hF : Frm w wc (w' ++ wr) w' := ⟨wr, hw, List.Perm.refl _⟩
  have hj := hF.join (H1 := t.heap) hP hD hk hFr hP1 hD1
  have hS1 : va_S A s.heap t.heap (locs ++ L) := ⟨Nat.le_trans hS.1 hz, fun q h1 h2 => by rw [hk q (Nat.lt_of_lt_of_le h1 hS.1) (fun z => h2 (hFr q z))]; exact hS.2.1 q h1 h2, fun q hq => by
    rcases List.mem_append.mp hq with h | h
    · exact hS.2.2 q h
    · exact hFr _ (hL q h)⟩
  obtain ⟨t2, a1, b1⟩ := kk w' hPw t.heap (locs ++ L) ls hj.1 hj.2 hS1 hl T' e1 X'
  exact ⟨t2, stp t2 a1, b1⟩
theorem blind_pcM {av : List Value} {sz : Nat} {ww : va_W} {A9 : Nat → Prop} : FrameBlind (va_Pc av (fun U => U.heap.size = sz ∧ va_P D vwCl ww U.heap ∧ va_K D vwCl tys U ∧ va_D (fun _ => True) ww ∧ ENVM A9 U)) := by
  intro a U g mk h
  obtain ⟨h0, h1, hP, hK, hD, hE⟩ := h
  exact ⟨h0, h1, hP, va_K.moved (u := U) (U := U.calling g mk a) (Vm.Alike.refl U.vm) hK, hD, hE.call⟩
theorem n_callIM {y : MethodName} {ws : List Cond} {rm : Room} {wc wr : va_W} {P : va_W → Prop} {mc ms index maxL : Nat} {rest : List Value} {b : Nat} {bytes : ByteArray} (C : Cx p s m args meth c D tys A own cc nL ret Ts) (CE : ENVM A s)
    (hdg : decode cc pc = .ok (.invokespecial index, 3)) (hM : Cn l D tys y ws rm mc ms [.ref b] wc P) (cw : CallB R s args own index y bytes maxL none ws rm mc ms 0 ∧ y.name = "<init>" ∧ (Cond.instanceMethod y).before args s = true)
    (hw : w.Perm (wc ++ wr)) (hst : st = .ref b :: rest) (hcat : (rest.map fun v => v.category).sum ≤ 8) (hcs : cells + mc ≤ R.cells ∧ slots + ms ≤ R.slots)
    (hq : pc + 3 = q) (kk : ∀ wc', P wc' → Wn p l e R s m args below meth c D A nL (cells + mc) (slots + ms) Q (wc' ++ wr) q lv rest) : Wn p l e R s m args below meth c D A nL cells slots Q w pc lv st :=
  n_runM (y := y) (ws := ws) (a := #[Value.ref b]) C hw (fun H locs ls hP hD hS hFr hl => va_runI (As := []) C.1 (hM H.size) cw
    ⟨blind_pcM, fun U hU hW => ⟨rfl, by rw [hU], by rw [hU]; exact hP, va_K.moved hW.alike C.K, hD.weaken (fun _ _ _ _ => trivial), CE.go hS hFr hW hU⟩⟩ rfl rfl hl.1 hst (lv_room hcat) hdg hcs) hq kk
theorem n_callIMN {y : MethodName} {ws : List Cond} {rm : Room} {wc wr : va_W} {P : va_W → Prop} {mc ms index maxL : Nat} {rest : List Value} {b : Nat} {bytes : ByteArray} {host : String} (C : Cx p s m args meth c D tys A own cc nL ret Ts) (CE : ENVM A s)
    (hdg : decode cc pc = .ok (.invokespecial index, 3)) (hM : Cn l D tys y ws rm mc ms [.ref b] wc P) (cw : va_CN R s args own index y host bytes maxL none ws rm mc ms 0 ∧ y.name = "<init>" ∧ (Cond.instanceMethod y).before args s = true)
    (hw : w.Perm (wc ++ wr)) (hst : st = .ref b :: rest) (hcat : (rest.map fun v => v.category).sum ≤ 8) (hcs : cells + mc ≤ R.cells ∧ slots + ms ≤ R.slots)
    (hq : pc + 3 = q) (kk : ∀ wc', P wc' → Wn p l e R s m args below meth c D A nL (cells + mc) (slots + ms) Q (wc' ++ wr) q lv rest) : Wn p l e R s m args below meth c D A nL cells slots Q w pc lv st :=
  n_runM (y := y) (ws := ws) (a := #[Value.ref b]) C hw (fun H locs ls hP hD hS hFr hl => va_runIN (As := []) C.1 (hM H.size) cw
    ⟨blind_pcM, fun U hU hW => ⟨rfl, by rw [hU], by rw [hU]; exact hP, va_K.moved hW.alike C.K, hD.weaken (fun _ _ _ _ => trivial), CE.go hS hFr hW hU⟩⟩ rfl rfl hl.1 hst (lv_room hcat) hdg hcs) hq kk
theorem n_getsN (C : Cx p s m args meth c D tys A own cc nL ret Ts) {CN n d host : String} {v : Value} {index : Nat} (hdg : decode cc pc = .ok (.getstatic index, 3)) (hZ : va_Z CN n d v A s s.heap) (hlink : va_Nw (.fieldLinkNest own index CN n d host) s) (hq : pc + 3 = q) (kk : Wn p l e R s m args below meth c D A nL cells slots Q w q lv (v :: st)) : Wn p l e R s m args below meth c D A nL cells slots Q w pc lv st := by
  subst hq
  exact fun H locs ls hP hD hS hl => va_getsN C.x C.b hZ hS C.ow (va_Nw.use rfl hlink) (fun _ h => h) hdg (kk H locs ls hP hD hS hl)
end MK
theorem Cn.of {l : Launch} {D : va_G} {tys : List (ClassId × FieldType)} {y : MethodName} {ws ws' : List Cond} {rm : Room} {mc ms : Nat} {av : List Value} {w : va_W} {P : va_W → Prop} {cc : ByteArray} {nL : Nat} {lv : List (Nat × Value)}
    (hy : plainName y.cls = true) (hy2 : y.name = "<init>") (hw : ws = Cond.code y cc nL none :: ws') (hlv : lv_args 0 av = lv) (hlen : (lg_sl av).length ≤ nL)
    (body : ∀ (p : Program) (e : Env) (s : State) (m : MethodId) (args : Array Value) (below : List Frame) (meth : Method) (c : Code) (A : Nat → Prop), Cx p s m args meth c D tys A y.cls cc nL none ws → ENVM A s → meth.name = "<init>" → Wn p l e rm s m args below meth c D A nL 0 0 (MQ below (Qn D tys P A) args s mc ms A) w 0 lv []) : Cn l D tys y ws rm mc ms av w P := by
  intro sz
  refine Met.ofW (cc := cc) (maxL := nL) (ret := none) hy hw ?_
  intro p e s m args below meth c s₁ B hml hv
  obtain ⟨rfl, hsz, hP, hK, hD0, hE⟩ := hv
  subst hsz
  have hD := hD0.self (sz := s.heap.size)
  have hl := lv_entry av (n := nL) hlen
  rw [hlv] at hl
  rw [lg_entry_eq]
  exact body p e s m av.toArray below meth c (va_A w s.heap.size) ⟨⟨B.exec, B.bytes, hml, findClass_of_methodNamed B.named, atoms_spec (ws := ws) B.pre⟩, hK, fun q h => Or.inr h, B.returns, B.notSynchronized, rfl⟩ hE ((name_of_methodNamed B.named B.method).1.trans hy2) s.heap [] _ hP hD va_S.rf hl
