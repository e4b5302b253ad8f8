/-! THE FACE: methods that throw; statics of whole numbers -/
def tx5 : List (Nat × String) := [(101, "a score is 0 to 99"), (108, "the match has no venue"), (128, "no such setting"), (136, "the setting can't have this value"), (141, "a character code is 33 to 126"), (146, "the buffer is full"), (159, "the buffer is not complete results"), (164, "a match is not there, or has no venue"), (187, "nothing is saved"), (192, "a match has the properties 0 to 8"), (201, "no such team"), (203, "a team has the properties 0 to 8"), (209, "places are numbered from 0"), (217, "no such round"), (222, "venues and setters are 0 to 11"), (234, "the numbers are 0 to 9"), (239, "a team does not meet itself"), (52, "a league has 3 to 8 teams"), (71, "no such venue"), (78, "rounds are a mask, 0 to 127"), (84, "no such setter"), (96, "no such match")]
def ex5 : List String := ["java/lang/IllegalArgumentException", "java/lang/IndexOutOfBoundsException", "java/lang/IllegalStateException"]
abbrev nx5 : List String := ["java/lang/RuntimeException", "java/lang/Exception"]
def sLV : Nat → Int32 := fun j => ([1, 0, 1, 1] : List Int32).getD j 0
def sGV : Nat → Int32 := fun j => ([5, 3, 50, 28] : List Int32).getD j 0
abbrev bad5 (E : String) : List Cond := [.declares (Bundle.initS "java/lang/RuntimeException"), .declares (Bundle.initS "java/lang/Exception"), .declares (Bundle.initS Bundle.tN), .castable E E]
theorem Nw_warmD {x : MethodName} {s U : State} (hW : s.WarmedH U.vm) (hZ : va_Nw (.declares x) s) : va_Nw (.declares x) U := va_tabs rfl (rfl : (s.setVm U.vm).vm = U.vm) (by rw [Cond.declares_setVm hW.alike]; exact hZ)
def BAD (E : String) (U : State) : Prop := va_Nw (.declares (Bundle.initS "java/lang/RuntimeException")) U ∧ va_Nw (.declares (Bundle.initS "java/lang/Exception")) U ∧ va_Nw (.declares (Bundle.initS Bundle.tN)) U ∧ va_Nw (.castable E E) U
theorem BAD.warm {E : String} {s U : State} (hW : s.WarmedH U.vm) (h : BAD E s) : BAD E U := ⟨Nw_warmD hW h.1, Nw_warmD hW h.2.1, Nw_warmD hW h.2.2.1, va_Nw.warmC hW h.2.2.2⟩
/-- a static array of four ints -/
def SA4 (n : String) (f : Nat → Int32) (A : Nat → Prop) (U : State) : Prop := ∃ t : Nat, va_Z "QuizFixtures" n "[I" (.ref t) A U U.heap ∧ va_T .int t 4 (fun j => .int (f j)) A U U.heap
/-- what a face that throws finds outside its world -/
def ENV (A : Nat → Prop) (U : State) : Prop := vx_Zq Bundle.tN "UNASSIGNED_STACK" Bundle.steD A U U.heap ∧ vx_Zq Bundle.tN "SUPPRESSED_SENTINEL" Bundle.listD A U U.heap ∧ (∀ q ∈ tx5, ∃ sa, vk_R RX5 q.1 q.2 sa U) ∧ (∀ X ∈ ex5, BAD X U) ∧ SA4 "LEAST_VALUES" sLV A U ∧ SA4 "GREATEST_VALUES" sGV A U
theorem SA4.go {n : String} {f : Nat → Int32} {A B : Nat → Prop} {s U : State} {H : Heap} {locs : List Loc} (h : SA4 n f A s) (hS : va_S A s.heap H locs) (hAB : ∀ q, B q → A q) (hvm : s.vm.Alike U.vm) (hU : U.heap = H) : SA4 n f B U := by
  obtain ⟨t, h1, h2⟩ := h
  refine ⟨t, ?_, ?_⟩
  · rw [hU]; exact ((h1.kept hS.2.1).narrow hAB).moved hvm
  · rw [hU]; exact ((h2.kept hS.2.1).narrow hAB).moved hvm
theorem ENV.go {A B : Nat → Prop} {s U : State} {H : Heap} {locs : List Loc} (h : ENV A s) (hS : va_S A s.heap H locs) (hAB : ∀ q, B q → A q) (hW : s.WarmedH U.vm) (hU : U.heap = H) : ENV B U := by
  obtain ⟨h1, h2, h3, h4, h5, h6⟩ := h
  refine ⟨?_, ?_, fun q hq => ?_, fun X hX => (h4 X hX).warm hW, h5.go hS hAB hW.alike hU, h6.go hS hAB hW.alike hU⟩
  · rw [hU]; exact ((h1.kept hS.2.1).narrow hAB).moved hW.alike
  · rw [hU]; exact ((h2.kept hS.2.1).narrow hAB).moved hW.alike
  · obtain ⟨sa, ha⟩ := h3 q hq
    exact ⟨sa, vk_R.warm hW ha⟩
theorem ENV.call {A : Nat → Prop} {U : State} {g : JFrame} {mk : MethodId} {a : Array Value} (h : ENV A U) : ENV A (U.calling g mk a) :=
  h.go (H := U.heap) (locs := []) va_S.rf (fun _ h => h) (State.WarmedH.refl U) rfl
def QV (D : va_G) (tys : List (ClassId × FieldType)) (w' : va_W) (A : Nat → Prop) (o : String ⊕ Option Value) : Array Value → State → Outcome → State → Prop := match o with
  | .inr r => Qr D tys w' A r
  | .inl _ => fun _ _ _ _ => False
def XV (D : va_G) (tys : List (ClassId × FieldType)) (w' : va_W) (A : Nat → Prop) (o : String ⊕ Option Value) : String → State → State → Prop := match o with
  | .inr _ => fun _ _ _ => False
  | .inl E => fun E' st t => (E' = E ∧ va_P D vwCl w' t.heap ∧ va_K D vwCl tys t ∧ va_D A w') ∧ va_F A st t
abbrev oI (o : String ⊕ Int32) : String ⊕ Option Value := Sum.map id (fun v : Int32 => some (Value.int v)) o
def Cv (l : Launch) (D : va_G) (tys : List (ClassId × FieldType)) (y : MethodName) (ws : List Cond) (rm : Room) (av : List Value) (w w' : va_W) (o : String ⊕ Option Value) : Prop :=
  ∀ sz : Nat, vx_Met l y ws rm (va_Pc av (fun U => U.heap.size = sz ∧ va_P D vwCl w U.heap ∧ va_K D vwCl tys U ∧ va_D (fun _ => True) w ∧ ENV (va_A w sz) U)) (QV D tys w' (va_A w sz) o) (XV D tys w' (va_A w sz) o) 1 6 (va_A w sz)
section FV
variable {p : Program} {l : Launch} {e : Env} {R : Room} {s : State} {m : MethodId} {args : Array Value} {below : List Frame} {meth : Method} {c : Code}
variable {D : va_G} {tys : List (ClassId × FieldType)} {A : Nat → Prop} {nL cells slots : Nat} {Q : State → Prop} {w : va_W} {lv : List (Nat × Value)} {st : List Value}
variable {own : String} {cc : ByteArray} {ret : Option FieldType} {Ts : List Cond} {pc q : Nat}
theorem n_gets (C : Cx p s m args meth c D tys A own cc nL ret Ts) {CN n d : String} {v : Value} {index : Nat} (hdg : decode cc pc = .ok (.getstatic index, 3)) (hZ : va_Z CN n d v A s s.heap) (hlink : Cond.fieldLink own index CN n d ∈ Ts) (hq : pc + 3 = q) (kk : Wn p l e R s m args below meth c D A nL cells slots Q w q lv (v :: st)) : Wn p l e R s m args below meth c D A nL cells slots Q w pc lv st := by
  subst hq
  exact fun H locs ls hP hD hS hl => va_gets C.x C.b hZ hS C.ow (C.ts _ hlink) (fun _ h => h) hdg (kk H locs ls hP hD hS hl)
theorem n_sti (C : Cx p s m args meth c D tys A own cc nL ret Ts) {t N : Nat} {f : Nat → Int32} {i : Int32} (hdg : decode cc pc = .ok (.iaload, 1)) (hT : va_T .int t N (fun j => .int (f j)) A s s.heap) (hin : vp_in i N) (hq : pc + 1 = q) (kk : Wn p l e R s m args below meth c D A nL cells slots Q w q lv (.int (f i.toNatClampNeg) :: st)) : Wn p l e R s m args below meth c D A nL cells slots Q w pc lv (.int i :: .ref t :: st) := by
  subst hq
  exact fun H locs ls hP hD hS hl => va_ti C.x C.b hT hS hin rfl hdg (kk H locs ls hP hD hS hl)
theorem Wn.okV {w' : va_W} {r : Option Value} (k : Wn p l e R s m args below meth c D A nL 1 6 (MQ below (Qr D tys w' A r) args s 1 6 A) w pc lv st) : Wn p l e R s m args below meth c D A nL 0 0 (vx_MQ below (QV D tys w' A (.inr r)) (XV D tys w' A (.inr r)) args s 1 6 A) w pc lv st :=
  Wn.widen (Nat.zero_le 1) (Nat.zero_le 6) (fun H locs ls hP hD hS hl => vx_ret (k H locs ls hP hD hS hl))
theorem n_throwS (C : Cx p s m args meth c D tys A RX5 cc nL ret Ts) (CE : ENV A s) (hl : l.stackTraces = false) (ht : ∀ x ∈ c.exceptionTable.toList, False) {E text : String} {ik is ic : Nat}
    (d0 : decode cc pc = .ok (.new ik, 3)) (d3 : decode cc (pc + 3) = .ok (.dup, 1)) (d4 : decode cc (pc + 4) = .ok (.ldc is, 2)) (d6 : decode cc (pc + 6) = .ok (.invokespecial ic, 3)) (d9 : decode cc (pc + 9) = .ok (.athrow, 1))
    (hE : E ∈ ex5) (htx : (is, text) ∈ tx5) (hcls : Bundle.fit E = true) (hk : Cond.classLink RX5 ik E ∈ Ts) (hini : Cond.initialized E ∈ Ts) (hat : ∀ w ∈ (vx_atS RX5 ic E nx5).filter goodWord, w ∈ Ts)
    (hng : (vx_atS RX5 ic E nx5).filter (fun w => !goodWord w) = bad5 E) (hgood : ∀ w ∈ Cond.classLink RX5 ik E :: Cond.initialized E :: vx_atS RX5 ic E nx5, vx_ot w = true)
    (hRf : 5 < R.frames) (hRl : (st.map fun v => v.category).sum + 82 ≤ R.locals) (hRc : 1 ≤ R.cells) (hRs : 6 ≤ R.slots) : Wn p l e R s m args below meth c D A nL 0 0 (vx_MQ below (QV D tys w A (.inl E)) (XV D tys w A (.inl E)) args s 1 6 A) w pc lv st := by
  intro H locs ls hP hD hS hls
  obtain ⟨e1, e2, e3, e4, -⟩ := CE
  obtain ⟨sa, hsa⟩ := e3 _ htx
  refine vx_throwS (names := nx5) C.x C.b hl C.ow hcls (by decide +kernel) (C.ts _ hk) (C.ts _ hini) hsa ?_ hgood e1 e2 hS (hls.1.trans C.1.2.2.1.symm) d0 d3 d4 d6 d9 (fun x hx => (ht x hx).elim) hRf hRl (by omega) (by omega) C.k ?_ hS.2.2 (Nat.le_refl _) (Nat.le_refl _)
  · refine vx_hat (B := bad5 E) (fun w hw => C.ts _ (hat w hw)) (fun w hw => by rw [hng] at hw; exact hw) ?_
    obtain ⟨g1, g2, g3, g4⟩ := e4 E hE
    exact vx_c (va_Nw.use (A := args) rfl g1) (vx_c (va_Nw.use (A := args) rfl g2) (vx_c (va_Nw.use (A := args) rfl g3) (vx_c (va_Nw.use (A := args) rfl g4) vx_n)))
  · intro t hvm hsz hsame
    refine ⟨⟨rfl, hP.kept (fun k q hk => hsame q.1 (hP k q hk).lt), va_K.moved hvm C.K, hD⟩, Nat.le_trans hS.1 hsz, fun q h1 h2 => (hsame q (Nat.lt_of_lt_of_le h1 hS.1)).trans (hS.2.1 q h1 h2)⟩
end FV
theorem Cv.of {l : Launch} {D : va_G} {tys : List (ClassId × FieldType)} {y : MethodName} {ws ws' : List Cond} {rm : Room} {av : List Value} {w w' : va_W} {o : String ⊕ Option Value} {cc : ByteArray} {nL : Nat} {ret : Option FieldType} {lv : List (Nat × Value)}
    (hy : plainName y.cls = true) (hw : ws = Cond.code y cc nL ret :: ws') (hlv : lv_args 0 av = lv) (hlen : (lg_sl av).length ≤ nL)
    (body : ∀ (p : Program) (e : Env) (s : State) (m : MethodId) (args : Array Value) (below : List Frame) (meth : Method) (c : Code) (A : Nat → Prop), Cx p s m args meth c D tys A y.cls cc nL ret ws → ENV A s → (∀ x ∈ c.exceptionTable.toList, False) → Wn p l e rm s m args below meth c D A nL 0 0 (vx_MQ below (QV D tys w' A o) (XV D tys w' A o) args s 1 6 A) w 0 lv []) : Cv l D tys y ws rm av w w' o := by
  intro sz
  refine vx_ofW (cc := cc) (maxL := nL) (ret := ret) hy hw ?_
  intro p e s m args below meth c s₁ B hml ht hv
  obtain ⟨rfl, hsz, hP, hK, hD0, hE⟩ := hv
  subst hsz
  have hD := hD0.self (sz := s.heap.size)
  have hl := lv_entry av (n := nL) hlen
  rw [hlv] at hl
  rw [lg_entry_eq]
  exact body p e s m av.toArray below meth c (va_A w s.heap.size) ⟨⟨B.exec, B.bytes, hml, findClass_of_methodNamed B.named, atoms_spec (ws := ws) B.pre⟩, hK, fun q h => Or.inr h, B.returns, B.notSynchronized, rfl⟩ hE ht s.heap [] _ hP hD va_S.rf hl
theorem ng_st (l : Launch) (h : l.flags = flags0) : l.stackTraces = false := by
  unfold Launch.stackTraces
  rw [h]
  decide +kernel
theorem ng_54 : (vx_atS RX5 54 "java/lang/IllegalArgumentException" nx5).filter (fun w => !goodWord w) = bad5 "java/lang/IllegalArgumentException" := by decide +kernel
theorem ng_73 : (vx_atS RX5 73 "java/lang/IndexOutOfBoundsException" nx5).filter (fun w => !goodWord w) = bad5 "java/lang/IndexOutOfBoundsException" := by decide +kernel
theorem ng_110 : (vx_atS RX5 110 "java/lang/IllegalStateException" nx5).filter (fun w => !goodWord w) = bad5 "java/lang/IllegalStateException" := by decide +kernel
theorem og_54 : ∀ w ∈ Cond.classLink RX5 50 "java/lang/IllegalArgumentException" :: Cond.initialized "java/lang/IllegalArgumentException" :: vx_atS RX5 54 "java/lang/IllegalArgumentException" nx5, vx_ot w = true := by decide +kernel
theorem og_73 : ∀ w ∈ Cond.classLink RX5 69 "java/lang/IndexOutOfBoundsException" :: Cond.initialized "java/lang/IndexOutOfBoundsException" :: vx_atS RX5 73 "java/lang/IndexOutOfBoundsException" nx5, vx_ot w = true := by decide +kernel
theorem og_110 : ∀ w ∈ Cond.classLink RX5 106 "java/lang/IllegalStateException" :: Cond.initialized "java/lang/IllegalStateException" :: vx_atS RX5 110 "java/lang/IllegalStateException" nx5, vx_ot w = true := by decide +kernel
