/-! THE FACE: methods that throw; statics of whole numbers -/
def tx5 : List (Nat × String) := [(101, "a score is 0 to 99"), (108, "the match has no venue"), (128, "no such setting"), (136, "the setting can't have this value"), (187, "nothing is saved"), (192, "a match has the properties 0 to 8"), (201, "no such team"), (203, "a team has the properties 0 to 8"), (209, "places are numbered from 0"), (217, "no such round"), (222, "venues and setters are 0 to 11"), (234, "the numbers are 0 to 9"), (239, "a team does not meet itself"), (52, "a league has 3 to 8 teams"), (71, "no such venue"), (78, "rounds are a mask, 0 to 127"), (84, "no such setter"), (96, "no such match")]
def ex5 : List String := ["java/lang/IllegalArgumentException", "java/lang/IndexOutOfBoundsException", "java/lang/IllegalStateException"]
abbrev nx5 : List String := ["java/lang/RuntimeException", "java/lang/Exception"]
def sLV : Nat → Int32 := fun j => ([1, 0, 1, 1] : List Int32).getD j 0
def sGV : Nat → Int32 := fun j => ([5, 3, 50, 28] : List Int32).getD j 0
abbrev bad5 (E : String) : List Cond := [.declares (Bundle.initS "java/lang/RuntimeException"), .declares (Bundle.initS "java/lang/Exception"), .declares (Bundle.initS Bundle.tN), .castable E E]
theorem Nw_warmD {x : MethodName} {s U : State} (hW : s.WarmedH U.vm) (hZ : va_Nw (.declares x) s) : va_Nw (.declares x) U := va_tabs rfl (rfl : (s.setVm U.vm).vm = U.vm) (by rw [Cond.declares_setVm hW.alike]; exact hZ)
def BAD (E : String) (U : State) : Prop := va_Nw (.declares (Bundle.initS "java/lang/RuntimeException")) U ∧ va_Nw (.declares (Bundle.initS "java/lang/Exception")) U ∧ va_Nw (.declares (Bundle.initS Bundle.tN)) U ∧ va_Nw (.castable E E) U
theorem BAD.warm {E : String} {s U : State} (hW : s.WarmedH U.vm) (h : BAD E s) : BAD E U := ⟨Nw_warmD hW h.1, Nw_warmD hW h.2.1, Nw_warmD hW h.2.2.1, va_Nw.warmC hW h.2.2.2⟩
/-- a static array of four ints -/
def SA4 (n : String) (f : Nat → Int32) (A : Nat → Prop) (U : State) : Prop := ∃ t : Nat, va_Z "QuizFixtures" n "[I" (.ref t) A U U.heap ∧ va_T .int t 4 (fun j => .int (f j)) A U U.heap
/-- what a face that throws finds outside its world -/
def ENV (A : Nat → Prop) (U : State) : Prop := vx_Zq Bundle.tN "UNASSIGNED_STACK" Bundle.steD A U U.heap ∧ vx_Zq Bundle.tN "SUPPRESSED_SENTINEL" Bundle.listD A U U.heap ∧ (∀ q ∈ tx5, ∃ sa, vk_R RX5 q.1 q.2 sa U) ∧ (∀ X ∈ ex5, BAD X U) ∧ SA4 "LEAST_VALUES" sLV A U ∧ SA4 "GREATEST_VALUES" sGV A U
theorem SA4.go {n : String} {f : Nat → Int32} {A B : Nat → Prop} {s U : State} {H : Heap} {locs : List Loc} (h : SA4 n f A s) (hS : va_S A s.heap H locs) (hAB : ∀ q, B q → A q) (hvm : s.vm.Alike U.vm) (hU : U.heap = H) : SA4 n f B U := by
  obtain ⟨t, h1, h2⟩ := h
  refine ⟨t, ?_, ?_⟩
  · rw [hU]; exact ((h1.kept hS.2.1).narrow hAB).moved hvm
  · rw [hU]; exact ((h2.kept hS.2.1).narrow hAB).moved hvm
theorem ENV.go {A B : Nat → Prop} {s U : State} {H : Heap} {locs : List Loc} (h : ENV A s) (hS : va_S A s.heap H locs) (hAB : ∀ q, B q → A q) (hW : s.WarmedH U.vm) (hU : U.heap = H) : ENV B U := by
  obtain ⟨h1, h2, h3, h4, h5, h6⟩ := h
  refine ⟨?_, ?_, fun q hq => ?_, fun X hX => (h4 X hX).warm hW, h5.go hS hAB hW.alike hU, h6.go hS hAB hW.alike hU⟩
  · rw [hU]; exact ((h1.kept hS.2.1).narrow hAB).moved hW.alike
  · rw [hU]; exact ((h2.kept hS.2.1).narrow hAB).moved hW.alike
  · obtain ⟨sa, ha⟩ := h3 q hq
    exact ⟨sa, vk_R.warm hW ha⟩
theorem ENV.call {A : Nat → Prop} {U : State} {g : JFrame} {mk : MethodId} {a : Array Value} (h : ENV A U) : ENV A (U.calling g mk a) :=
  h.go (H := U.heap) (locs := []) va_S.rf (fun _ h => h) (State.WarmedH.refl U) rfl
def QV (D : va_G) (tys : List (ClassId × FieldType)) (w' : va_W) (A : Nat → Prop) (o : String ⊕ Option Value) : Array Value → State → Outcome → State → Prop := match o with
  | .inr r => Qr D tys w' A r
  | .inl _ => fun _ _ _ _ => False
def XV (D : va_G) (tys : List (ClassId × FieldType)) (w' : va_W) (A : Nat → Prop) (o : String ⊕ Option Value) : String → State → State → Prop := match o with
  | .inr _ => fun _ _ _ => False
  | .inl E => fun E' st t => (E' = E ∧ va_P D vwCl w' t.heap ∧ va_K D vwCl tys t ∧ va_D A w') ∧ va_F A st t
abbrev oI (o : String ⊕ Int32) : String ⊕ Option Value := Sum.map id (fun v : Int32 => some (Value.int v)) o
def Cv (l : Launch) (D : va_G) (tys : List (ClassId × FieldType)) (y : MethodName) (ws : List Cond) (rm : Room) (av : List Value) (w w' : va_W) (o : String ⊕ Option Value) : Prop :=
  ∀ sz : Nat, vx_Met l y ws rm (va_Pc av (fun U => U.heap.size = sz ∧ va_P D vwCl w U.heap ∧ va_K D vwCl tys U ∧ va_D (fun _ => True) w ∧ ENV (va_A w sz) U)) (QV D tys w' (va_A w sz) o) (XV D tys w' (va_A w sz) o) 1 6 (va_A w sz)
section FV
variable {p : Program} {l : Launch} {e : Env} {R : Room} {s : State} {m : MethodId} {args : Array Value} {below : List Frame} {meth : Method} {c : Code}
variable {D : va_G} {tys : List (ClassId × FieldType)} {A : Nat → Prop} {nL cells slots : Nat} {Q : State → Prop} {w : va_W} {lv : List (Nat × Value)} {st : List Value}
variable {own : String} {cc : ByteArray} {ret : Option FieldType} {Ts : List Cond} {pc q : Nat}
theorem n_gets (C : Cx p s m args meth c D tys A own cc nL ret Ts) {CN n d : String} {v : Value} {index : Nat} (hdg : decode cc pc = .ok (.getstatic index, 3)) (hZ : va_Z CN n d v A s s.heap) (hlink : Cond.fieldLink own index CN n d ∈ Ts) (hq : pc + 3 = q) (kk : Wn p l e R s m args below meth c D A nL cells slots Q w q lv (v :: st)) : Wn p l e R s m args below meth c D A nL cells slots Q w pc lv st := by
  subst hq
  exact fun H locs ls hP hD hS hl => va_gets C.x C.b hZ hS C.ow (C.ts _ hlink) (fun _ h => h) hdg (kk H locs ls hP hD hS hl)
theorem n_sti (C : Cx p s m args meth c D tys A own cc nL ret Ts) {t N : Nat} {f : Nat → Int32} {i : Int32} (hdg : decode cc pc = .ok (.iaload, 1)) (hT : va_T .int t N (fun j => .int (f j)) A s s.heap) (hin : vp_in i N) (hq : pc + 1 = q) (kk : Wn p l e R s m args below meth c D A nL cells slots Q w q lv (.int (f i.toNatClampNeg) :: st)) : Wn p l e R s m args below meth c D A nL cells slots Q w pc lv (.int i :: .ref t :: st) := by
  subst hq
  exact fun H locs ls hP hD hS hl => va_ti C.x C.b hT hS hin rfl hdg (kk H locs ls hP hD hS hl)
theorem Wn.okV {w' : va_W} {r : Option Value} (k : Wn p l e R s m args below meth c D A nL 1 6 (MQ below (Qr D tys w' A r) args s 1 6 A) w pc lv st) : Wn p l e R s m args below meth c D A nL 0 0 (vx_MQ below (QV D tys w' A (.inr r)) (XV D tys w' A (.inr r)) args s 1 6 A) w pc lv st :=
  Wn.widen (Nat.zero_le 1) (Nat.zero_le 6) (fun H locs ls hP hD hS hl => vx_ret (k H locs ls hP hD hS hl))
theorem n_throwS (C : Cx p s m args meth c D tys A RX5 cc nL ret Ts) (CE : ENV A s) (hl : l.stackTraces = false) (ht : ∀ x ∈ c.exceptionTable.toList, False) {E text : String} {ik is ic : Nat}
    (d0 : decode cc pc = .ok (.new ik, 3)) (d3 : decode cc (pc + 3) = .ok (.dup, 1)) (d4 : decode cc (pc + 4) = .ok (.ldc is, 2)) (d6 : decode cc (pc + 6) = .ok (.invokespecial ic, 3)) (d9 : decode cc (pc + 9) = .ok (.athrow, 1))
    (hE : E ∈ ex5) (htx : (is, text) ∈ tx5) (hcls : Bundle.fit E = true) (hk : Cond.classLink RX5 ik E ∈ Ts) (hini : Cond.initialized E ∈ Ts) (hat : ∀ w ∈ (vx_atS RX5 ic E nx5).filter goodWord, w ∈ Ts)
    (hng : (vx_atS RX5 ic E nx5).filter (fun w => !goodWord w) = bad5 E) (hgood : ∀ w ∈ Cond.classLink RX5 ik E :: Cond.initialized E :: vx_atS RX5 ic E nx5, vx_ot w = true)
    (hRf : 5 < R.frames) (hRl : (st.map fun v => v.category).sum + 82 ≤ R.locals) (hRc : 1 ≤ R.cells) (hRs : 6 ≤ R.slots) : Wn p l e R s m args below meth c D A nL 0 0 (vx_MQ below (QV D tys w A (.inl E)) (XV D tys w A (.inl E)) args s 1 6 A) w pc lv st := by
  intro H locs ls hP hD hS hls
  obtain ⟨e1, e2, e3, e4, -⟩ := CE
  obtain ⟨sa, hsa⟩ := e3 _ htx
  refine vx_throwS (names := nx5) C.x C.b hl C.ow hcls (by decide +kernel) (C.ts _ hk) (C.ts _ hini) hsa ?_ hgood e1 e2 hS (hls.1.trans C.1.2.2.1.symm) d0 d3 d4 d6 d9 (fun x hx => (ht x hx).elim) hRf hRl (by omega) (by omega) C.k ?_ hS.2.2 (Nat.le_refl _) (Nat.le_refl _)
  · refine vx_hat (B := bad5 E) (fun w hw => C.ts _ (hat w hw)) (fun w hw => by rw [hng] at hw; exact hw) ?_
    obtain ⟨g1, g2, g3, g4⟩ := e4 E hE
    exact vx_c (va_Nw.use (A := args) rfl g1) (vx_c (va_Nw.use (A := args) rfl g2) (vx_c (va_Nw.use (A := args) rfl g3) (vx_c (va_Nw.use (A := args) rfl g4) vx_n)))
  · intro t hvm hsz hsame
    refine ⟨⟨rfl, hP.kept (fun k q hk => hsame q.1 (hP k q hk).lt), va_K.moved hvm C.K, hD⟩, Nat.le_trans hS.1 hsz, fun q h1 h2 => (hsame q (Nat.lt_of_lt_of_le h1 hS.1)).trans (hS.2.1 q h1 h2)⟩
end FV
theorem Cv.of {l : Launch} {D : va_G} {tys : List (ClassId × FieldType)} {y : MethodName} {ws ws' : List Cond} {rm : Room} {av : List Value} {w w' : va_W} {o : String ⊕ Option Value} {cc : ByteArray} {nL : Nat} {ret : Option FieldType} {lv : List (Nat × Value)}
    (hy : plainName y.cls = true) (hw : ws = Cond.code y cc nL ret :: ws') (hlv : lv_args 0 av = lv) (hlen : (lg_sl av).length ≤ nL)
    (body : ∀ (p : Program) (e : Env) (s : State) (m : MethodId) (args : Array Value) (below : List Frame) (meth : Method) (c : Code) (A : Nat → Prop), Cx p s m args meth c D tys A y.cls cc nL ret ws → ENV A s → (∀ x ∈ c.exceptionTable.toList, False) → Wn p l e rm s m args below meth c D A nL 0 0 (vx_MQ below (QV D tys w' A o) (XV D tys w' A o) args s 1 6 A) w 0 lv []) : Cv l D tys y ws rm av w w' o := by
  intro sz
  refine vx_ofW (cc := cc) (maxL := nL) (ret := ret) hy hw ?_
  intro p e s m args below meth c s₁ B hml ht hv
  obtain ⟨rfl, hsz, hP, hK, hD0, hE⟩ := hv
  subst hsz
  have hD := hD0.self (sz := s.heap.size)
  have hl := lv_entry av (n := nL) hlen
  rw [hlv] at hl
  rw [lg_entry_eq]
  exact body p e s m av.toArray below meth c (va_A w s.heap.size) ⟨⟨B.exec, B.bytes, hml, findClass_of_methodNamed B.named, atoms_spec (ws := ws) B.pre⟩, hK, fun q h => Or.inr h, B.returns, B.notSynchronized, rfl⟩ hE ht s.heap [] _ hP hD va_S.rf hl
theorem ng_st (l : Launch) (h : l.flags = flags0) : l.stackTraces = false := by
  unfold Launch.stackTraces
  rw [h]
  decide +kernel
theorem ng_54 : (vx_atS RX5 54 "java/lang/IllegalArgumentException" nx5).filter (fun w => !goodWord w) = bad5 "java/lang/IllegalArgumentException" := by decide +kernel
theorem ng_73 : (vx_atS RX5 73 "java/lang/IndexOutOfBoundsException" nx5).filter (fun w => !goodWord w) = bad5 "java/lang/IndexOutOfBoundsException" := by decide +kernel
theorem ng_110 : (vx_atS RX5 110 "java/lang/IllegalStateException" nx5).filter (fun w => !goodWord w) = bad5 "java/lang/IllegalStateException" := by decide +kernel
theorem og_54 : ∀ w ∈ Cond.classLink RX5 50 "java/lang/IllegalArgumentException" :: Cond.initialized "java/lang/IllegalArgumentException" :: vx_atS RX5 54 "java/lang/IllegalArgumentException" nx5, vx_ot w = true := by decide +kernel
theorem og_73 : ∀ w ∈ Cond.classLink RX5 69 "java/lang/IndexOutOfBoundsException" :: Cond.initialized "java/lang/IndexOutOfBoundsException" :: vx_atS RX5 73 "java/lang/IndexOutOfBoundsException" nx5, vx_ot w = true := by decide +kernel
theorem og_110 : ∀ w ∈ Cond.classLink RX5 106 "java/lang/IllegalStateException" :: Cond.initialized "java/lang/IllegalStateException" :: vx_atS RX5 110 "java/lang/IllegalStateException" nx5, vx_ot w = true := by decide +kernel

-- X5 isMask 
abbrev rm5_isMask : Room := { frames := 0, cells := 0, slots := 0, locals := 0 }
def f5_isMask (n : Nat) (x0 : Int32) : Option (Int32) :=
  (if x0 < (0 : Int32) then some (nI 0) else (if (nI 127) < x0 then some (nI 0) else some (nI 1)))
set_option maxHeartbeats 4000000 in
set_option maxRecDepth 100000 in
theorem c5_isMask (l : Launch) (D : va_G) (cyI cyO cyJ : ClassId) (n : Nat) (x0 : Int32) (z : Int32) (hf : f5_isMask n x0 = some z) : Ct l D (tyG cyI cyO cyJ) yX5_isMask wsX5_isMask rm5_isMask 0 0 [.int x0] (([] : va_W)) (([] : va_W)) (some (.int z)) := by
  refine Ct.of (cc := cX5_isMask) (nL := 1) (ret := (some .boolean)) (lv := [(0, .int x0)]) (by decide +kernel) rfl rfl (Nat.le_of_ble_eq_true rfl) ?_
  intro p e s m args below meth c A C
  have C : Cx p s m args meth c D (tyG cyI cyO cyJ) A RX5 cX5_isMask 1 (some .boolean) wsX5_isMask := C
  unfold f5_isMask at hf
  refine n_iload_n C dX5_isMask_0 0 rfl rfl ?_
  refine n_if_lt (t := 14) C dX5_isMask_1 (by decide) rfl (fun h1 => ?_) (fun h1 => ?_)
  · have hf := ip h1 hf
    refine n_iconst (v := (nI 0)) C dX5_isMask_14 (by decide) rfl ?_
    obtain rfl := Option.some.inj hf
    exact n_zret C dX5_isMask_15 (Or.inl rfl)
  · have hf := iq h1 hf
    refine n_iload_n C dX5_isMask_4 0 rfl rfl ?_
    refine n_bipush (v := (nI 127)) C dX5_isMask_5 (by decide) rfl ?_
    refine n_icmp_gt (t := 14) C dX5_isMask_7 (by decide) rfl (fun h7 => ?_) (fun h7 => ?_)
    · have hf := ip h7 hf
      refine n_iconst (v := (nI 0)) C dX5_isMask_14 (by decide) rfl ?_
      obtain rfl := Option.some.inj hf
      exact n_zret C dX5_isMask_15 (Or.inl rfl)
    · have hf := iq h7 hf
      refine n_iconst (v := (nI 1)) C dX5_isMask_10 (by decide) rfl ?_
      refine n_goto (t := 15) C dX5_isMask_11 (by decide) ?_
      obtain rfl := Option.some.inj hf
      exact n_zret C dX5_isMask_15 (Or.inr rfl)
-- X5 isScore 
abbrev rm5_isScore : Room := { frames := 0, cells := 0, slots := 0, locals := 0 }
def f5_isScore (n : Nat) (x0 : Int32) : Option (Int32) :=
  (if x0 < (0 : Int32) then some (nI 0) else (if (nI 99) < x0 then some (nI 0) else some (nI 1)))
set_option maxHeartbeats 4000000 in
set_option maxRecDepth 100000 in
theorem c5_isScore (l : Launch) (D : va_G) (cyI cyO cyJ : ClassId) (n : Nat) (x0 : Int32) (z : Int32) (hf : f5_isScore n x0 = some z) : Ct l D (tyG cyI cyO cyJ) yX5_isScore wsX5_isScore rm5_isScore 0 0 [.int x0] (([] : va_W)) (([] : va_W)) (some (.int z)) := by
  refine Ct.of (cc := cX5_isScore) (nL := 1) (ret := (some .boolean)) (lv := [(0, .int x0)]) (by decide +kernel) rfl rfl (Nat.le_of_ble_eq_true rfl) ?_
  intro p e s m args below meth c A C
  have C : Cx p s m args meth c D (tyG cyI cyO cyJ) A RX5 cX5_isScore 1 (some .boolean) wsX5_isScore := C
  unfold f5_isScore at hf
  refine n_iload_n C dX5_isScore_0 0 rfl rfl ?_
  refine n_if_lt (t := 14) C dX5_isScore_1 (by decide) rfl (fun h1 => ?_) (fun h1 => ?_)
  · have hf := ip h1 hf
    refine n_iconst (v := (nI 0)) C dX5_isScore_14 (by decide) rfl ?_
    obtain rfl := Option.some.inj hf
    exact n_zret C dX5_isScore_15 (Or.inl rfl)
  · have hf := iq h1 hf
    refine n_iload_n C dX5_isScore_4 0 rfl rfl ?_
    refine n_bipush (v := (nI 99)) C dX5_isScore_5 (by decide) rfl ?_
    refine n_icmp_gt (t := 14) C dX5_isScore_7 (by decide) rfl (fun h7 => ?_) (fun h7 => ?_)
    · have hf := ip h7 hf
      refine n_iconst (v := (nI 0)) C dX5_isScore_14 (by decide) rfl ?_
      obtain rfl := Option.some.inj hf
      exact n_zret C dX5_isScore_15 (Or.inl rfl)
    · have hf := iq h7 hf
      refine n_iconst (v := (nI 1)) C dX5_isScore_10 (by decide) rfl ?_
      refine n_goto (t := 15) C dX5_isScore_11 (by decide) ?_
      obtain rfl := Option.some.inj hf
      exact n_zret C dX5_isScore_15 (Or.inr rfl)
-- X5 isVenueOrSetter 
abbrev rm5_isVenueOrSetter : Room := { frames := 0, cells := 0, slots := 0, locals := 0 }
def f5_isVenueOrSetter (n : Nat) (x0 : Int32) : Option (Int32) :=
  (if x0 < (0 : Int32) then some (nI 0) else (if (nI 12) ≤ x0 then some (nI 0) else some (nI 1)))
set_option maxHeartbeats 4000000 in
set_option maxRecDepth 100000 in
theorem c5_isVenueOrSetter (l : Launch) (D : va_G) (cyI cyO cyJ : ClassId) (n : Nat) (x0 : Int32) (z : Int32) (hf : f5_isVenueOrSetter n x0 = some z) : Ct l D (tyG cyI cyO cyJ) yX5_isVenueOrSetter wsX5_isVenueOrSetter rm5_isVenueOrSetter 0 0 [.int x0] (([] : va_W)) (([] : va_W)) (some (.int z)) := by
  refine Ct.of (cc := cX5_isVenueOrSetter) (nL := 1) (ret := (some .boolean)) (lv := [(0, .int x0)]) (by decide +kernel) rfl rfl (Nat.le_of_ble_eq_true rfl) ?_
  intro p e s m args below meth c A C
  have C : Cx p s m args meth c D (tyG cyI cyO cyJ) A RX5 cX5_isVenueOrSetter 1 (some .boolean) wsX5_isVenueOrSetter := C
  unfold f5_isVenueOrSetter at hf
  refine n_iload_n C dX5_isVenueOrSetter_0 0 rfl rfl ?_
  refine n_if_lt (t := 14) C dX5_isVenueOrSetter_1 (by decide) rfl (fun h1 => ?_) (fun h1 => ?_)
  · have hf := ip h1 hf
    refine n_iconst (v := (nI 0)) C dX5_isVenueOrSetter_14 (by decide) rfl ?_
    obtain rfl := Option.some.inj hf
    exact n_zret C dX5_isVenueOrSetter_15 (Or.inl rfl)
  · have hf := iq h1 hf
    refine n_iload_n C dX5_isVenueOrSetter_4 0 rfl rfl ?_
    refine n_bipush (v := (nI 12)) C dX5_isVenueOrSetter_5 (by decide) rfl ?_
    refine n_icmp_ge (t := 14) C dX5_isVenueOrSetter_7 (by decide) rfl (fun h7 => ?_) (fun h7 => ?_)
    · have hf := ip h7 hf
      refine n_iconst (v := (nI 0)) C dX5_isVenueOrSetter_14 (by decide) rfl ?_
      obtain rfl := Option.some.inj hf
      exact n_zret C dX5_isVenueOrSetter_15 (Or.inl rfl)
    · have hf := iq h7 hf
      refine n_iconst (v := (nI 1)) C dX5_isVenueOrSetter_10 (by decide) rfl ?_
      refine n_goto (t := 15) C dX5_isVenueOrSetter_11 (by decide) ?_
      obtain rfl := Option.some.inj hf
      exact n_zret C dX5_isVenueOrSetter_15 (Or.inr rfl)
-- X5 number 
theorem iw5_number_X0 : ∀ w ∈ u_ws RX0 TX0 2, w ∈ wsX5_number := by decide +kernel
theorem iw5_number_X1 : ∀ w ∈ u_ws RX1 TX1 15, w ∈ wsX5_number := by decide +kernel
theorem iw5_number_X5 : ∀ w ∈ u_ws RX5 TX5 7, w ∈ wsX5_number := by decide +kernel
abbrev rm5_number : Room := { frames := 2, cells := 0, slots := 0, locals := 47 }
def f5_number (n : Nat) (oS : OB) (oG : OB) (oL : OB) (oU : OB) (oV : OB) (oB : OB) (oH : HS) (x1 : Int32) : Option (Int32) :=
  (if x1 = (nI 0) then some (oL.1 0) else (if x1 = (nI 1) then some (oL.1 1) else (if x1 = (nI 2) then some (oL.1 2) else (if x1 = (nI 3) then (f1_withVenue n oL).bind fun z80 => some z80 else (if x1 = (nI 4) then (f1_withResult n oL).bind fun z88 => some z88 else (if x1 = (nI 5) then (f1_walkovers n oL).bind fun z96 => some z96 else (if x1 = (nI 6) then (f4_allPoints n oS).bind fun z104 => some z104 else (if x1 = (nI 7) then (f1_mostOften_s n oL (nI 6)).bind fun z121 => some z121 else (if x1 = (nI 8) then (f1_mostOften_v n oL (nI 6)).bind fun z138 => some z138 else some oH.1)))))))))
set_option maxHeartbeats 4000000 in
set_option maxRecDepth 100000 in
theorem c5_number (l : Launch) (D : va_G) (cyI cyO cyJ : ClassId) (aX : Nat) (aS : Nat → Nat) (aG : Nat → Nat) (aL : Nat → Nat) (aU : Nat → Nat) (aV : Nat → Nat) (aB : Nat → Nat) (aH : Nat → Nat) (n : Nat) (oS : OB) (oG : OB) (oL : OB) (oU : OB) (oV : OB) (oB : OB) (oH : HS) (x1 : Int32) (z : Int32) (hf : f5_number n oS oG oL oU oV oB oH x1 = some z) : Ct l D (tyG cyI cyO cyJ) yX5_number wsX5_number rm5_number 0 0 [.ref aX, .int x1] ([(aX, .inr (5, [.ref (aL 0), .ref (aS 0), .ref (aG 0), .ref (aH 0), .ref (aB 0), .ref (aV 0), .ref (aU 0)]))] ++ (bX4 cyI aS oS ++ (bX3 cyI aG oG ++ (bX1 cyI aL oL ++ (bX4 cyI aU oU ++ (bX1 cyI aV oV ++ (bX2 cyI aB oB ++ bHS cyI cyO aH oH))))))) ([(aX, .inr (5, [.ref (aL 0), .ref (aS 0), .ref (aG 0), .ref (aH 0), .ref (aB 0), .ref (aV 0), .ref (aU 0)]))] ++ (bX4 cyI aS oS ++ (bX3 cyI aG oG ++ (bX1 cyI aL oL ++ (bX4 cyI aU oU ++ (bX1 cyI aV oV ++ (bX2 cyI aB oB ++ bHS cyI cyO aH oH))))))) (some (.int z)) := by
  refine Ct.of (cc := cX5_number) (nL := 2) (ret := (some .int)) (lv := [(0, .ref aX), (1, .int x1)]) (by decide +kernel) rfl rfl (Nat.le_of_ble_eq_true rfl) ?_
  intro p e s m args below meth c A C
  have C : Cx p s m args meth c D (tyG cyI cyO cyJ) A RX5 cX5_number 2 (some .int) wsX5_number := C
  unfold f5_number at hf
  refine n_iload_n C dX5_number_0 1 rfl rfl ?_
  by_cases h1_0 : x1 = (nI 0)
  · have hf := ip h1_0 hf
    refine n_tswIn (off := 51) (t := 52) C dX5_number_1 (by rw [h1_0]; decide) (by rw [h1_0]; decide) (by rw [h1_0]; decide) (by decide) ?_
    refine n_aload_n C dX5_number_52 0 rfl rfl ?_
    refine n_get (N := 7) C dX5_number_53 iw5_number_X5 0 rfl rfl 0 (by decide) (List.mem_of_getElem? (i := 1) rfl) rfl rfl rfl ?_
    refine n_get (N := 15) C dX5_number_56 iw5_number_X1 15 rfl rfl 0 (by decide) (List.mem_of_getElem? (i := 2) rfl) rfl rfl rfl ?_
    obtain rfl := Option.some.inj hf
    exact n_iret C dX5_number_59
  have hf := iq h1_0 hf
  by_cases h1_1 : x1 = (nI 1)
  · have hf := ip h1_1 hf
    refine n_tswIn (off := 59) (t := 60) C dX5_number_1 (by rw [h1_1]; decide) (by rw [h1_1]; decide) (by rw [h1_1]; decide) (by decide) ?_
    refine n_aload_n C dX5_number_60 0 rfl rfl ?_
    refine n_get (N := 7) C dX5_number_61 iw5_number_X5 0 rfl rfl 0 (by decide) (List.mem_of_getElem? (i := 1) rfl) rfl rfl rfl ?_
    refine n_get (N := 15) C dX5_number_64 iw5_number_X1 15 rfl rfl 1 (by decide) (List.mem_of_getElem? (i := 3) rfl) rfl rfl rfl ?_
    obtain rfl := Option.some.inj hf
    exact n_iret C dX5_number_67
  have hf := iq h1_1 hf
  by_cases h1_2 : x1 = (nI 2)
  · have hf := ip h1_2 hf
    refine n_tswIn (off := 67) (t := 68) C dX5_number_1 (by rw [h1_2]; decide) (by rw [h1_2]; decide) (by rw [h1_2]; decide) (by decide) ?_
    refine n_aload_n C dX5_number_68 0 rfl rfl ?_
    refine n_get (N := 7) C dX5_number_69 iw5_number_X5 0 rfl rfl 0 (by decide) (List.mem_of_getElem? (i := 1) rfl) rfl rfl rfl ?_
    refine n_get (N := 15) C dX5_number_72 iw5_number_X1 15 rfl rfl 2 (by decide) (List.mem_of_getElem? (i := 4) rfl) rfl rfl rfl ?_
    obtain rfl := Option.some.inj hf
    exact n_iret C dX5_number_75
  have hf := iq h1_2 hf
  by_cases h1_3 : x1 = (nI 3)
  · have hf := ip h1_3 hf
    refine n_tswIn (off := 75) (t := 76) C dX5_number_1 (by rw [h1_3]; decide) (by rw [h1_3]; decide) (by rw [h1_3]; decide) (by decide) ?_
    refine n_aload_n C dX5_number_76 0 rfl rfl ?_
    refine n_get (N := 7) C dX5_number_77 iw5_number_X5 0 rfl rfl 0 (by decide) (List.mem_of_getElem? (i := 1) rfl) rfl rfl rfl ?_
    obtain ⟨z80, h80, hf⟩ := bi hf
    refine n_callV (As := []) (rest := []) (w2 := [(aX, .inr (5, [.ref (aL 0), .ref (aS 0), .ref (aG 0), .ref (aH 0), .ref (aB 0), .ref (aV 0), .ref (aU 0)]))] ++ (bX4 cyI aS oS ++ (bX3 cyI aG oG ++ (bX1 cyI aL oL ++ (bX4 cyI aU oU ++ (bX1 cyI aV oV ++ (bX2 cyI aB oB ++ bHS cyI cyO aH oH))))))) C dX5_number_80 (c1_withVenue l D cyI cyO cyJ aL n oL z80 h80) (cwV 0 C.ts gX5_number_X1_withVenue rfl rfl rfl (by decide +kernel) ⟨Nat.le_of_ble_eq_true rfl, Nat.le_of_ble_eq_true rfl⟩) rfl (q0 := 0) (ci := 1) rfl rfl (Frm.skip (Frm.skip (Frm.skip Frm.here))) rfl (Nat.le_of_ble_eq_true rfl) ⟨Nat.le_of_ble_eq_true rfl, Nat.le_of_ble_eq_true rfl⟩ rfl ?_
    obtain rfl := Option.some.inj hf
    exact n_iret C dX5_number_83
  have hf := iq h1_3 hf
  by_cases h1_4 : x1 = (nI 4)
  · have hf := ip h1_4 hf
    refine n_tswIn (off := 83) (t := 84) C dX5_number_1 (by rw [h1_4]; decide) (by rw [h1_4]; decide) (by rw [h1_4]; decide) (by decide) ?_
    refine n_aload_n C dX5_number_84 0 rfl rfl ?_
    refine n_get (N := 7) C dX5_number_85 iw5_number_X5 0 rfl rfl 0 (by decide) (List.mem_of_getElem? (i := 1) rfl) rfl rfl rfl ?_
    obtain ⟨z88, h88, hf⟩ := bi hf
    refine n_callV (As := []) (rest := []) (w2 := [(aX, .inr (5, [.ref (aL 0), .ref (aS 0), .ref (aG 0), .ref (aH 0), .ref (aB 0), .ref (aV 0), .ref (aU 0)]))] ++ (bX4 cyI aS oS ++ (bX3 cyI aG oG ++ (bX1 cyI aL oL ++ (bX4 cyI aU oU ++ (bX1 cyI aV oV ++ (bX2 cyI aB oB ++ bHS cyI cyO aH oH))))))) C dX5_number_88 (c1_withResult l D cyI cyO cyJ aL n oL z88 h88) (cwV 0 C.ts gX5_number_X1_withResult rfl rfl rfl (by decide +kernel) ⟨Nat.le_of_ble_eq_true rfl, Nat.le_of_ble_eq_true rfl⟩) rfl (q0 := 0) (ci := 1) rfl rfl (Frm.skip (Frm.skip (Frm.skip Frm.here))) rfl (Nat.le_of_ble_eq_true rfl) ⟨Nat.le_of_ble_eq_true rfl, Nat.le_of_ble_eq_true rfl⟩ rfl ?_
    obtain rfl := Option.some.inj hf
    exact n_iret C dX5_number_91
  have hf := iq h1_4 hf
  by_cases h1_5 : x1 = (nI 5)
  · have hf := ip h1_5 hf
    refine n_tswIn (off := 91) (t := 92) C dX5_number_1 (by rw [h1_5]; decide) (by rw [h1_5]; decide) (by rw [h1_5]; decide) (by decide) ?_
    refine n_aload_n C dX5_number_92 0 rfl rfl ?_
    refine n_get (N := 7) C dX5_number_93 iw5_number_X5 0 rfl rfl 0 (by decide) (List.mem_of_getElem? (i := 1) rfl) rfl rfl rfl ?_
    obtain ⟨z96, h96, hf⟩ := bi hf
    refine n_callV (As := []) (rest := []) (w2 := [(aX, .inr (5, [.ref (aL 0), .ref (aS 0), .ref (aG 0), .ref (aH 0), .ref (aB 0), .ref (aV 0), .ref (aU 0)]))] ++ (bX4 cyI aS oS ++ (bX3 cyI aG oG ++ (bX1 cyI aL oL ++ (bX4 cyI aU oU ++ (bX1 cyI aV oV ++ (bX2 cyI aB oB ++ bHS cyI cyO aH oH))))))) C dX5_number_96 (c1_walkovers l D cyI cyO cyJ aL n oL z96 h96) (cwV 0 C.ts gX5_number_X1_walkovers rfl rfl rfl (by decide +kernel) ⟨Nat.le_of_ble_eq_true rfl, Nat.le_of_ble_eq_true rfl⟩) rfl (q0 := 0) (ci := 1) rfl rfl (Frm.skip (Frm.skip (Frm.skip Frm.here))) rfl (Nat.le_of_ble_eq_true rfl) ⟨Nat.le_of_ble_eq_true rfl, Nat.le_of_ble_eq_true rfl⟩ rfl ?_
    obtain rfl := Option.some.inj hf
    exact n_iret C dX5_number_99
  have hf := iq h1_5 hf
  by_cases h1_6 : x1 = (nI 6)
  · have hf := ip h1_6 hf
    refine n_tswIn (off := 99) (t := 100) C dX5_number_1 (by rw [h1_6]; decide) (by rw [h1_6]; decide) (by rw [h1_6]; decide) (by decide) ?_
    refine n_aload_n C dX5_number_100 0 rfl rfl ?_
    refine n_get (N := 7) C dX5_number_101 iw5_number_X5 0 rfl rfl 1 (by decide) (List.mem_of_getElem? (i := 5) rfl) rfl rfl rfl ?_
    obtain ⟨z104, h104, hf⟩ := bi hf
    refine n_callV (As := []) (rest := []) (w2 := [(aX, .inr (5, [.ref (aL 0), .ref (aS 0), .ref (aG 0), .ref (aH 0), .ref (aB 0), .ref (aV 0), .ref (aU 0)]))] ++ (bX4 cyI aS oS ++ (bX3 cyI aG oG ++ (bX1 cyI aL oL ++ (bX4 cyI aU oU ++ (bX1 cyI aV oV ++ (bX2 cyI aB oB ++ bHS cyI cyO aH oH))))))) C dX5_number_104 (c4_allPoints l D cyI cyO cyJ aS n oS z104 h104) (cwV 0 C.ts gX5_number_X4_allPoints rfl rfl rfl (by decide +kernel) ⟨Nat.le_of_ble_eq_true rfl, Nat.le_of_ble_eq_true rfl⟩) rfl (q0 := 0) (ci := 4) rfl rfl (Frm.skip Frm.here) rfl (Nat.le_of_ble_eq_true rfl) ⟨Nat.le_of_ble_eq_true rfl, Nat.le_of_ble_eq_true rfl⟩ rfl ?_
    obtain rfl := Option.some.inj hf
    exact n_iret C dX5_number_107
  have hf := iq h1_6 hf
  by_cases h1_7 : x1 = (nI 7)
  · have hf := ip h1_7 hf
    refine n_tswIn (off := 107) (t := 108) C dX5_number_1 (by rw [h1_7]; decide) (by rw [h1_7]; decide) (by rw [h1_7]; decide) (by decide) ?_
    refine n_aload_n C dX5_number_108 0 rfl rfl ?_
    refine n_get (N := 7) C dX5_number_109 iw5_number_X5 0 rfl rfl 0 (by decide) (List.mem_of_getElem? (i := 1) rfl) rfl rfl rfl ?_
    refine n_aload_n C dX5_number_112 0 rfl rfl ?_
    refine n_get (N := 7) C dX5_number_113 iw5_number_X5 0 rfl rfl 0 (by decide) (List.mem_of_getElem? (i := 1) rfl) rfl rfl rfl ?_
    refine n_get (N := 15) C dX5_number_116 iw5_number_X1 15 rfl rfl 10 (by decide) (List.mem_of_getElem? (i := 6) rfl) rfl rfl rfl ?_
    refine n_bipush (v := (nI 6)) C dX5_number_119 (by decide) rfl ?_
    obtain ⟨z121, h121, hf⟩ := bi hf
    refine n_callV (As := [.ref (aL 11), .int (nI 6)]) (rest := []) (w2 := [(aX, .inr (5, [.ref (aL 0), .ref (aS 0), .ref (aG 0), .ref (aH 0), .ref (aB 0), .ref (aV 0), .ref (aU 0)]))] ++ (bX4 cyI aS oS ++ (bX3 cyI aG oG ++ (bX1 cyI aL oL ++ (bX4 cyI aU oU ++ (bX1 cyI aV oV ++ (bX2 cyI aB oB ++ bHS cyI cyO aH oH))))))) C dX5_number_121 (c1_mostOften_s l D cyI cyO cyJ aL n oL (nI 6) z121 h121) (cwV 2 C.ts gX5_number_X1_mostOften rfl rfl rfl (by decide +kernel) ⟨Nat.le_of_ble_eq_true rfl, Nat.le_of_ble_eq_true rfl⟩) rfl (q0 := 0) (ci := 1) rfl rfl (Frm.skip (Frm.skip (Frm.skip Frm.here))) rfl (Nat.le_of_ble_eq_true rfl) ⟨Nat.le_of_ble_eq_true rfl, Nat.le_of_ble_eq_true rfl⟩ rfl ?_
    obtain rfl := Option.some.inj hf
    exact n_iret C dX5_number_124
  have hf := iq h1_7 hf
  by_cases h1_8 : x1 = (nI 8)
  · have hf := ip h1_8 hf
    refine n_tswIn (off := 124) (t := 125) C dX5_number_1 (by rw [h1_8]; decide) (by rw [h1_8]; decide) (by rw [h1_8]; decide) (by decide) ?_
    refine n_aload_n C dX5_number_125 0 rfl rfl ?_
    refine n_get (N := 7) C dX5_number_126 iw5_number_X5 0 rfl rfl 0 (by decide) (List.mem_of_getElem? (i := 1) rfl) rfl rfl rfl ?_
    refine n_aload_n C dX5_number_129 0 rfl rfl ?_
    refine n_get (N := 7) C dX5_number_130 iw5_number_X5 0 rfl rfl 0 (by decide) (List.mem_of_getElem? (i := 1) rfl) rfl rfl rfl ?_
    refine n_get (N := 15) C dX5_number_133 iw5_number_X1 15 rfl rfl 9 (by decide) (List.mem_of_getElem? (i := 7) rfl) rfl rfl rfl ?_
    refine n_bipush (v := (nI 6)) C dX5_number_136 (by decide) rfl ?_
    obtain ⟨z138, h138, hf⟩ := bi hf
    refine n_callV (As := [.ref (aL 10), .int (nI 6)]) (rest := []) (w2 := [(aX, .inr (5, [.ref (aL 0), .ref (aS 0), .ref (aG 0), .ref (aH 0), .ref (aB 0), .ref (aV 0), .ref (aU 0)]))] ++ (bX4 cyI aS oS ++ (bX3 cyI aG oG ++ (bX1 cyI aL oL ++ (bX4 cyI aU oU ++ (bX1 cyI aV oV ++ (bX2 cyI aB oB ++ bHS cyI cyO aH oH))))))) C dX5_number_138 (c1_mostOften_v l D cyI cyO cyJ aL n oL (nI 6) z138 h138) (cwV 2 C.ts gX5_number_X1_mostOften rfl rfl rfl (by decide +kernel) ⟨Nat.le_of_ble_eq_true rfl, Nat.le_of_ble_eq_true rfl⟩) rfl (q0 := 0) (ci := 1) rfl rfl (Frm.skip (Frm.skip (Frm.skip Frm.here))) rfl (Nat.le_of_ble_eq_true rfl) ⟨Nat.le_of_ble_eq_true rfl, Nat.le_of_ble_eq_true rfl⟩ rfl ?_
    obtain rfl := Option.some.inj hf
    exact n_iret C dX5_number_141
  have hf := iq h1_8 hf
  refine n_tswOut (t := 142) C dX5_number_1 (tsw_out 0 9 (fun i hi => by rcases i with _|_|_|_|_|_|_|_|_|i <;> first | exact h1_0 | exact h1_1 | exact h1_2 | exact h1_3 | exact h1_4 | exact h1_5 | exact h1_6 | exact h1_7 | exact h1_8 | omega)) (by decide) ?_
  refine n_aload_n C dX5_number_142 0 rfl rfl ?_
  refine n_get (N := 7) C dX5_number_143 iw5_number_X5 0 rfl rfl 3 (by decide) (List.mem_of_getElem? (i := 8) rfl) rfl rfl rfl ?_
  refine n_get (N := 2) C dX5_number_146 iw5_number_X0 56 rfl rfl 0 (by decide) (List.mem_of_getElem? (i := 9) rfl) rfl rfl rfl ?_
  obtain rfl := Option.some.inj hf
  exact n_iret C dX5_number_149
-- X5 pointsOf 
theorem iw5_pointsOf_X5 : ∀ w ∈ u_ws RX5 TX5 7, w ∈ wsX5_pointsOf := by decide +kernel
abbrev rm5_pointsOf : Room := { frames := 4, cells := 0, slots := 0, locals := 92 }
def f5_pointsOf (n : Nat) (oS : OB) (oG : OB) (oL : OB) (oU : OB) (oV : OB) (oB : OB) (oH : HS) (x1 : Int32) : Option (Int32 × (OB)) :=
  (f4_countUp n oS oL).bind fun z8 => (f4_property n z8 x1 (nI 0)).bind fun z17 => some (z17, z8)
set_option maxHeartbeats 4000000 in
set_option maxRecDepth 100000 in
theorem c5_pointsOf (l : Launch) (D : va_G) (cyI cyO cyJ : ClassId) (aX : Nat) (aS : Nat → Nat) (aG : Nat → Nat) (aL : Nat → Nat) (aU : Nat → Nat) (aV : Nat → Nat) (aB : Nat → Nat) (aH : Nat → Nat) (n : Nat) (oS : OB) (oG : OB) (oL : OB) (oU : OB) (oV : OB) (oB : OB) (oH : HS) (x1 : Int32) (z : Int32 × (OB)) (hf : f5_pointsOf n oS oG oL oU oV oB oH x1 = some z) : Ct l D (tyG cyI cyO cyJ) yX5_pointsOf wsX5_pointsOf rm5_pointsOf 0 0 [.ref aX, .int x1] ([(aX, .inr (5, [.ref (aL 0), .ref (aS 0), .ref (aG 0), .ref (aH 0), .ref (aB 0), .ref (aV 0), .ref (aU 0)]))] ++ (bX4 cyI aS oS ++ (bX3 cyI aG oG ++ (bX1 cyI aL oL ++ (bX4 cyI aU oU ++ (bX1 cyI aV oV ++ (bX2 cyI aB oB ++ bHS cyI cyO aH oH))))))) ([(aX, .inr (5, [.ref (aL 0), .ref (aS 0), .ref (aG 0), .ref (aH 0), .ref (aB 0), .ref (aV 0), .ref (aU 0)]))] ++ (bX4 cyI aS z.2 ++ (bX3 cyI aG oG ++ (bX1 cyI aL oL ++ (bX4 cyI aU oU ++ (bX1 cyI aV oV ++ (bX2 cyI aB oB ++ bHS cyI cyO aH oH))))))) (some (.int z.1)) := by
  refine Ct.of (cc := cX5_pointsOf) (nL := 2) (ret := (some .int)) (lv := [(0, .ref aX), (1, .int x1)]) (by decide +kernel) rfl rfl (Nat.le_of_ble_eq_true rfl) ?_
  intro p e s m args below meth c A C
  have C : Cx p s m args meth c D (tyG cyI cyO cyJ) A RX5 cX5_pointsOf 2 (some .int) wsX5_pointsOf := C
  unfold f5_pointsOf at hf
  refine n_aload_n C dX5_pointsOf_0 0 rfl rfl ?_
  refine n_get (N := 7) C dX5_pointsOf_1 iw5_pointsOf_X5 0 rfl rfl 1 (by decide) (List.mem_of_getElem? (i := 1) rfl) rfl rfl rfl ?_
  refine n_aload_n C dX5_pointsOf_4 0 rfl rfl ?_
  refine n_get (N := 7) C dX5_pointsOf_5 iw5_pointsOf_X5 0 rfl rfl 0 (by decide) (List.mem_of_getElem? (i := 2) rfl) rfl rfl rfl ?_
  obtain ⟨z8, h8, hf⟩ := bi hf
  refine n_callV (As := [.ref (aL 0)]) (rest := []) (w2 := [(aX, .inr (5, [.ref (aL 0), .ref (aS 0), .ref (aG 0), .ref (aH 0), .ref (aB 0), .ref (aV 0), .ref (aU 0)]))] ++ (bX4 cyI aS z8 ++ (bX3 cyI aG oG ++ (bX1 cyI aL oL ++ (bX4 cyI aU oU ++ (bX1 cyI aV oV ++ (bX2 cyI aB oB ++ bHS cyI cyO aH oH))))))) C dX5_pointsOf_8 (c4_countUp l D cyI cyO cyJ aS aL n oS oL z8 h8) (cwV 1 C.ts gX5_pointsOf_X4_countUp rfl rfl rfl (by decide +kernel) ⟨Nat.le_of_ble_eq_true rfl, Nat.le_of_ble_eq_true rfl⟩) rfl (q0 := 0) (ci := 4) rfl rfl (Frm.skip (Frm.take (Frm.skip Frm.here))) rfl (Nat.le_of_ble_eq_true rfl) ⟨Nat.le_of_ble_eq_true rfl, Nat.le_of_ble_eq_true rfl⟩ rfl ?_
  refine n_aload_n C dX5_pointsOf_11 0 rfl rfl ?_
  refine n_get (N := 7) C dX5_pointsOf_12 iw5_pointsOf_X5 0 rfl rfl 1 (by decide) (List.mem_of_getElem? (i := 1) rfl) rfl rfl rfl ?_
  refine n_iload_n C dX5_pointsOf_15 1 rfl rfl ?_
  refine n_iconst (v := (nI 0)) C dX5_pointsOf_16 (by decide) rfl ?_
  obtain ⟨z17, h17, hf⟩ := bi hf
  refine n_callV (As := [.int x1, .int (nI 0)]) (rest := []) (w2 := [(aX, .inr (5, [.ref (aL 0), .ref (aS 0), .ref (aG 0), .ref (aH 0), .ref (aB 0), .ref (aV 0), .ref (aU 0)]))] ++ (bX4 cyI aS z8 ++ (bX3 cyI aG oG ++ (bX1 cyI aL oL ++ (bX4 cyI aU oU ++ (bX1 cyI aV oV ++ (bX2 cyI aB oB ++ bHS cyI cyO aH oH))))))) C dX5_pointsOf_17 (c4_property l D cyI cyO cyJ aS n z8 x1 (nI 0) z17 h17) (cwV 2 C.ts gX5_pointsOf_X4_property rfl rfl rfl (by decide +kernel) ⟨Nat.le_of_ble_eq_true rfl, Nat.le_of_ble_eq_true rfl⟩) rfl (q0 := 0) (ci := 4) rfl rfl (Frm.skip Frm.here) rfl (Nat.le_of_ble_eq_true rfl) ⟨Nat.le_of_ble_eq_true rfl, Nat.le_of_ble_eq_true rfl⟩ rfl ?_
  obtain rfl := Option.some.inj hf
  exact n_iret C dX5_pointsOf_20
-- X5 placeByWinningAll 
theorem iw5_placeByWinningAll_X5 : ∀ w ∈ u_ws RX5 TX5 7, w ∈ wsX5_placeByWinningAll := by decide +kernel
abbrev rm5_placeByWinningAll : Room := { frames := 4, cells := 0, slots := 0, locals := 92 }
def f5_placeByWinningAll (n : Nat) (oS : OB) (oG : OB) (oL : OB) (oU : OB) (oV : OB) (oB : OB) (oH : HS) (x1 : Int32) : Option (Int32 × (OB) × (OB)) :=
  (f1_copyFrom_b n oL oV).bind fun z8 => (f1_winAll n z8 x1).bind fun z16 => (f4_countUp n oU z16).bind fun z27 => (f4_placeOf n z27 x1).bind fun z35 => some (z35, z27, z16)
set_option maxHeartbeats 4000000 in
set_option maxRecDepth 100000 in
theorem c5_placeByWinningAll (l : Launch) (D : va_G) (cyI cyO cyJ : ClassId) (aX : Nat) (aS : Nat → Nat) (aG : Nat → Nat) (aL : Nat → Nat) (aU : Nat → Nat) (aV : Nat → Nat) (aB : Nat → Nat) (aH : Nat → Nat) (n : Nat) (oS : OB) (oG : OB) (oL : OB) (oU : OB) (oV : OB) (oB : OB) (oH : HS) (x1 : Int32) (z : Int32 × (OB) × (OB)) (hf : f5_placeByWinningAll n oS oG oL oU oV oB oH x1 = some z) : Ct l D (tyG cyI cyO cyJ) yX5_placeByWinningAll wsX5_placeByWinningAll rm5_placeByWinningAll 0 0 [.ref aX, .int x1] ([(aX, .inr (5, [.ref (aL 0), .ref (aS 0), .ref (aG 0), .ref (aH 0), .ref (aB 0), .ref (aV 0), .ref (aU 0)]))] ++ (bX4 cyI aS oS ++ (bX3 cyI aG oG ++ (bX1 cyI aL oL ++ (bX4 cyI aU oU ++ (bX1 cyI aV oV ++ (bX2 cyI aB oB ++ bHS cyI cyO aH oH))))))) ([(aX, .inr (5, [.ref (aL 0), .ref (aS 0), .ref (aG 0), .ref (aH 0), .ref (aB 0), .ref (aV 0), .ref (aU 0)]))] ++ (bX4 cyI aS oS ++ (bX3 cyI aG oG ++ (bX1 cyI aL oL ++ (bX4 cyI aU z.2.1 ++ (bX1 cyI aV z.2.2 ++ (bX2 cyI aB oB ++ bHS cyI cyO aH oH))))))) (some (.int z.1)) := by
  refine Ct.of (cc := cX5_placeByWinningAll) (nL := 2) (ret := (some .int)) (lv := [(0, .ref aX), (1, .int x1)]) (by decide +kernel) rfl rfl (Nat.le_of_ble_eq_true rfl) ?_
  intro p e s m args below meth c A C
  have C : Cx p s m args meth c D (tyG cyI cyO cyJ) A RX5 cX5_placeByWinningAll 2 (some .int) wsX5_placeByWinningAll := C
  unfold f5_placeByWinningAll at hf
  refine n_aload_n C dX5_placeByWinningAll_0 0 rfl rfl ?_
  refine n_get (N := 7) C dX5_placeByWinningAll_1 iw5_placeByWinningAll_X5 0 rfl rfl 5 (by decide) (List.mem_of_getElem? (i := 1) rfl) rfl rfl rfl ?_
  refine n_aload_n C dX5_placeByWinningAll_4 0 rfl rfl ?_
  refine n_get (N := 7) C dX5_placeByWinningAll_5 iw5_placeByWinningAll_X5 0 rfl rfl 0 (by decide) (List.mem_of_getElem? (i := 2) rfl) rfl rfl rfl ?_
  obtain ⟨z8, h8, hf⟩ := bi hf
  refine n_callV (As := [.ref (aL 0)]) (rest := []) (w2 := [(aX, .inr (5, [.ref (aL 0), .ref (aS 0), .ref (aG 0), .ref (aH 0), .ref (aB 0), .ref (aV 0), .ref (aU 0)]))] ++ (bX4 cyI aS oS ++ (bX3 cyI aG oG ++ (bX1 cyI aL oL ++ (bX4 cyI aU oU ++ (bX1 cyI aV z8 ++ (bX2 cyI aB oB ++ bHS cyI cyO aH oH))))))) C dX5_placeByWinningAll_8 (c1_copyFrom_b l D cyI cyO cyJ aL aV n oL oV z8 h8) (cwV 1 C.ts gX5_placeByWinningAll_X1_copyFrom rfl rfl rfl (by decide +kernel) ⟨Nat.le_of_ble_eq_true rfl, Nat.le_of_ble_eq_true rfl⟩) rfl (q0 := 13) (ci := 1) rfl rfl (Frm.skip (Frm.skip (Frm.skip (Frm.take (Frm.skip Frm.here))))) rfl (Nat.le_of_ble_eq_true rfl) ⟨Nat.le_of_ble_eq_true rfl, Nat.le_of_ble_eq_true rfl⟩ rfl ?_
  refine n_aload_n C dX5_placeByWinningAll_11 0 rfl rfl ?_
  refine n_get (N := 7) C dX5_placeByWinningAll_12 iw5_placeByWinningAll_X5 0 rfl rfl 5 (by decide) (List.mem_of_getElem? (i := 1) rfl) rfl rfl rfl ?_
  refine n_iload_n C dX5_placeByWinningAll_15 1 rfl rfl ?_
  obtain ⟨z16, h16, hf⟩ := bi hf
  refine n_callV (As := [.int x1]) (rest := []) (w2 := [(aX, .inr (5, [.ref (aL 0), .ref (aS 0), .ref (aG 0), .ref (aH 0), .ref (aB 0), .ref (aV 0), .ref (aU 0)]))] ++ (bX4 cyI aS oS ++ (bX3 cyI aG oG ++ (bX1 cyI aL oL ++ (bX4 cyI aU oU ++ (bX1 cyI aV z16 ++ (bX2 cyI aB oB ++ bHS cyI cyO aH oH))))))) C dX5_placeByWinningAll_16 (c1_winAll l D cyI cyO cyJ aV n z8 x1 z16 h16) (cwV 1 C.ts gX5_placeByWinningAll_X1_winAll rfl rfl rfl (by decide +kernel) ⟨Nat.le_of_ble_eq_true rfl, Nat.le_of_ble_eq_true rfl⟩) rfl (q0 := 0) (ci := 1) rfl rfl (Frm.skip (Frm.skip (Frm.skip (Frm.skip (Frm.skip Frm.here))))) rfl (Nat.le_of_ble_eq_true rfl) ⟨Nat.le_of_ble_eq_true rfl, Nat.le_of_ble_eq_true rfl⟩ rfl ?_
  refine n_aload_n C dX5_placeByWinningAll_19 0 rfl rfl ?_
  refine n_get (N := 7) C dX5_placeByWinningAll_20 iw5_placeByWinningAll_X5 0 rfl rfl 6 (by decide) (List.mem_of_getElem? (i := 3) rfl) rfl rfl rfl ?_
  refine n_aload_n C dX5_placeByWinningAll_23 0 rfl rfl ?_
  refine n_get (N := 7) C dX5_placeByWinningAll_24 iw5_placeByWinningAll_X5 0 rfl rfl 5 (by decide) (List.mem_of_getElem? (i := 1) rfl) rfl rfl rfl ?_
  obtain ⟨z27, h27, hf⟩ := bi hf
  refine n_callV (As := [.ref (aV 0)]) (rest := []) (w2 := [(aX, .inr (5, [.ref (aL 0), .ref (aS 0), .ref (aG 0), .ref (aH 0), .ref (aB 0), .ref (aV 0), .ref (aU 0)]))] ++ (bX4 cyI aS oS ++ (bX3 cyI aG oG ++ (bX1 cyI aL oL ++ (bX4 cyI aU z27 ++ (bX1 cyI aV z16 ++ (bX2 cyI aB oB ++ bHS cyI cyO aH oH))))))) C dX5_placeByWinningAll_27 (c4_countUp l D cyI cyO cyJ aU aV n oU z16 z27 h27) (cwV 1 C.ts gX5_placeByWinningAll_X4_countUp rfl rfl rfl (by decide +kernel) ⟨Nat.le_of_ble_eq_true rfl, Nat.le_of_ble_eq_true rfl⟩) rfl (q0 := 0) (ci := 4) rfl rfl (Frm.skip (Frm.skip (Frm.skip (Frm.skip (Frm.take Frm.here))))) rfl (Nat.le_of_ble_eq_true rfl) ⟨Nat.le_of_ble_eq_true rfl, Nat.le_of_ble_eq_true rfl⟩ rfl ?_
  refine n_aload_n C dX5_placeByWinningAll_30 0 rfl rfl ?_
  refine n_get (N := 7) C dX5_placeByWinningAll_31 iw5_placeByWinningAll_X5 0 rfl rfl 6 (by decide) (List.mem_of_getElem? (i := 3) rfl) rfl rfl rfl ?_
  refine n_iload_n C dX5_placeByWinningAll_34 1 rfl rfl ?_
  obtain ⟨z35, h35, hf⟩ := bi hf
  refine n_callV (As := [.int x1]) (rest := []) (w2 := [(aX, .inr (5, [.ref (aL 0), .ref (aS 0), .ref (aG 0), .ref (aH 0), .ref (aB 0), .ref (aV 0), .ref (aU 0)]))] ++ (bX4 cyI aS oS ++ (bX3 cyI aG oG ++ (bX1 cyI aL oL ++ (bX4 cyI aU z27 ++ (bX1 cyI aV z16 ++ (bX2 cyI aB oB ++ bHS cyI cyO aH oH))))))) C dX5_placeByWinningAll_35 (c4_placeOf l D cyI cyO cyJ aU n z27 x1 z35 h35) (cwV 1 C.ts gX5_placeByWinningAll_X4_placeOf rfl rfl rfl (by decide +kernel) ⟨Nat.le_of_ble_eq_true rfl, Nat.le_of_ble_eq_true rfl⟩) rfl (q0 := 0) (ci := 4) rfl rfl (Frm.skip (Frm.skip (Frm.skip (Frm.skip Frm.here)))) rfl (Nat.le_of_ble_eq_true rfl) ⟨Nat.le_of_ble_eq_true rfl, Nat.le_of_ble_eq_true rfl⟩ rfl ?_
  obtain rfl := Option.some.inj hf
  exact n_iret C dX5_placeByWinningAll_38
-- X5 assignedWithout 
theorem iw5_assignedWithout_X1 : ∀ w ∈ u_ws RX1 TX1 15, w ∈ wsX5_assignedWithout := by decide +kernel
theorem iw5_assignedWithout_X5 : ∀ w ∈ u_ws RX5 TX5 7, w ∈ wsX5_assignedWithout := by decide +kernel
abbrev rm5_assignedWithout : Room := { frames := 3, cells := 0, slots := 0, locals := 77 }
def f5_assignedWithout_b35 (n : Nat) (oS : OB) (oL : OB) (oU : OB) (oB : OB) (oH : HS) (x1 : Int32) (oG : OB) (oV : OB) : Option (Int32 × (OB) × (OB)) :=
  (if x1 < (nI 6) then (f3_assign n oG oV).bind fun z69 => some (z69.1, z69.2.1, z69.2.2) else (if (nI 12) ≤ x1 then (f3_assign n oG oV).bind fun z69 => some (z69.1, z69.2.1, z69.2.2) else (oast oV 5 6 (x1 - (nI 6)) (nI 127)).bind fun oV_60 => (f3_assign n oG oV_60).bind fun z69 => some (z69.1, z69.2.1, z69.2.2)))
def f5_assignedWithout (n : Nat) (oS : OB) (oG : OB) (oL : OB) (oU : OB) (oV : OB) (oB : OB) (oH : HS) (x1 : Int32) : Option (Int32 × (OB) × (OB)) :=
  (f1_copyFrom_b n oL oV).bind fun z8 => (if x1 < (0 : Int32) then f5_assignedWithout_b35 n oS oL oU oB oH x1 oG z8 else (if (nI 6) ≤ x1 then f5_assignedWithout_b35 n oS oL oU oB oH x1 oG z8 else (oast z8 4 6 x1 (nI 127)).bind fun oV_31 => (f3_assign n oG oV_31).bind fun z69 => some (z69.1, z69.2.1, z69.2.2)))
set_option maxHeartbeats 4000000 in
set_option maxRecDepth 100000 in
theorem t5_assignedWithout_b35 {l : Launch} {p : Program} {e : Env} {s : State} {m : MethodId} {args : Array Value} {below : List Frame} {meth : Method} {c : Code} {D : va_G} {A : Nat → Prop} {cyI cyO cyJ : ClassId} {aX : Nat} {aS : Nat → Nat} {aG : Nat → Nat} {aL : Nat → Nat} {aU : Nat → Nat} {aV : Nat → Nat} {aB : Nat → Nat} {aH : Nat → Nat} (C : Cx p s m args meth c D (tyG cyI cyO cyJ) A RX5 cX5_assignedWithout 2 (some .int) wsX5_assignedWithout) {z : Int32 × (OB) × (OB)} (n : Nat) (oS : OB) (oL : OB) (oU : OB) (oB : OB) (oH : HS) (x1 : Int32) (oG : OB) (oV : OB) (hf : f5_assignedWithout_b35 n oS oL oU oB oH x1 oG oV = some z) : Wn p l e rm5_assignedWithout s m args below meth c D A 2 0 0 (MQ below (Qr D (tyG cyI cyO cyJ) ([(aX, .inr (5, [.ref (aL 0), .ref (aS 0), .ref (aG 0), .ref (aH 0), .ref (aB 0), .ref (aV 0), .ref (aU 0)]))] ++ (bX4 cyI aS oS ++ (bX3 cyI aG z.2.1 ++ (bX1 cyI aL oL ++ (bX4 cyI aU oU ++ (bX1 cyI aV z.2.2 ++ (bX2 cyI aB oB ++ bHS cyI cyO aH oH))))))) A (some (.int z.1))) args s 0 0 A) ([(aX, .inr (5, [.ref (aL 0), .ref (aS 0), .ref (aG 0), .ref (aH 0), .ref (aB 0), .ref (aV 0), .ref (aU 0)]))] ++ (bX4 cyI aS oS ++ (bX3 cyI aG oG ++ (bX1 cyI aL oL ++ (bX4 cyI aU oU ++ (bX1 cyI aV oV ++ (bX2 cyI aB oB ++ bHS cyI cyO aH oH))))))) 35 [(0, .ref aX), (1, .int x1)] [] := by
  unfold f5_assignedWithout_b35 at hf
  refine n_iload_n C dX5_assignedWithout_35 1 rfl rfl ?_
  refine n_bipush (v := (nI 6)) C dX5_assignedWithout_36 (by decide) rfl ?_
  refine n_icmp_lt (t := 61) C dX5_assignedWithout_38 (by decide) rfl (fun h38 => ?_) (fun h38 => ?_)
  · have hf := ip h38 hf
    refine n_aload_n C dX5_assignedWithout_61 0 rfl rfl ?_
    refine n_get (N := 7) C dX5_assignedWithout_62 iw5_assignedWithout_X5 0 rfl rfl 2 (by decide) (List.mem_of_getElem? (i := 5) rfl) rfl rfl rfl ?_
    refine n_aload_n C dX5_assignedWithout_65 0 rfl rfl ?_
    refine n_get (N := 7) C dX5_assignedWithout_66 iw5_assignedWithout_X5 0 rfl rfl 5 (by decide) (List.mem_of_getElem? (i := 1) rfl) rfl rfl rfl ?_
    obtain ⟨z69, h69, hf⟩ := bi hf
    refine n_callV (As := [.ref (aV 0)]) (rest := []) (w2 := [(aX, .inr (5, [.ref (aL 0), .ref (aS 0), .ref (aG 0), .ref (aH 0), .ref (aB 0), .ref (aV 0), .ref (aU 0)]))] ++ (bX4 cyI aS oS ++ (bX3 cyI aG z69.2.1 ++ (bX1 cyI aL oL ++ (bX4 cyI aU oU ++ (bX1 cyI aV z69.2.2 ++ (bX2 cyI aB oB ++ bHS cyI cyO aH oH))))))) C dX5_assignedWithout_69 (c3_assign l D cyI cyO cyJ aG aV n oG oV z69 h69) (cwV 1 C.ts gX5_assignedWithout_X3_assign rfl rfl rfl (by decide +kernel) ⟨Nat.le_of_ble_eq_true rfl, Nat.le_of_ble_eq_true rfl⟩) rfl (q0 := 0) (ci := 3) rfl rfl (Frm.skip (Frm.skip (Frm.take (Frm.skip (Frm.skip Frm.here))))) rfl (Nat.le_of_ble_eq_true rfl) ⟨Nat.le_of_ble_eq_true rfl, Nat.le_of_ble_eq_true rfl⟩ rfl ?_
    obtain rfl := Option.some.inj hf
    exact n_iret C dX5_assignedWithout_72
  · have hf := iq h38 hf
    refine n_iload_n C dX5_assignedWithout_41 1 rfl rfl ?_
    refine n_bipush (v := (nI 12)) C dX5_assignedWithout_42 (by decide) rfl ?_
    refine n_icmp_ge (t := 61) C dX5_assignedWithout_44 (by decide) rfl (fun h44 => ?_) (fun h44 => ?_)
    · have hf := ip h44 hf
      refine n_aload_n C dX5_assignedWithout_61 0 rfl rfl ?_
      refine n_get (N := 7) C dX5_assignedWithout_62 iw5_assignedWithout_X5 0 rfl rfl 2 (by decide) (List.mem_of_getElem? (i := 5) rfl) rfl rfl rfl ?_
      refine n_aload_n C dX5_assignedWithout_65 0 rfl rfl ?_
      refine n_get (N := 7) C dX5_assignedWithout_66 iw5_assignedWithout_X5 0 rfl rfl 5 (by decide) (List.mem_of_getElem? (i := 1) rfl) rfl rfl rfl ?_
      obtain ⟨z69, h69, hf⟩ := bi hf
      refine n_callV (As := [.ref (aV 0)]) (rest := []) (w2 := [(aX, .inr (5, [.ref (aL 0), .ref (aS 0), .ref (aG 0), .ref (aH 0), .ref (aB 0), .ref (aV 0), .ref (aU 0)]))] ++ (bX4 cyI aS oS ++ (bX3 cyI aG z69.2.1 ++ (bX1 cyI aL oL ++ (bX4 cyI aU oU ++ (bX1 cyI aV z69.2.2 ++ (bX2 cyI aB oB ++ bHS cyI cyO aH oH))))))) C dX5_assignedWithout_69 (c3_assign l D cyI cyO cyJ aG aV n oG oV z69 h69) (cwV 1 C.ts gX5_assignedWithout_X3_assign rfl rfl rfl (by decide +kernel) ⟨Nat.le_of_ble_eq_true rfl, Nat.le_of_ble_eq_true rfl⟩) rfl (q0 := 0) (ci := 3) rfl rfl (Frm.skip (Frm.skip (Frm.take (Frm.skip (Frm.skip Frm.here))))) rfl (Nat.le_of_ble_eq_true rfl) ⟨Nat.le_of_ble_eq_true rfl, Nat.le_of_ble_eq_true rfl⟩ rfl ?_
      obtain rfl := Option.some.inj hf
      exact n_iret C dX5_assignedWithout_72
    · have hf := iq h44 hf
      refine n_aload_n C dX5_assignedWithout_47 0 rfl rfl ?_
      refine n_get (N := 7) C dX5_assignedWithout_48 iw5_assignedWithout_X5 0 rfl rfl 5 (by decide) (List.mem_of_getElem? (i := 1) rfl) rfl rfl rfl ?_
      refine n_get (N := 15) C dX5_assignedWithout_51 iw5_assignedWithout_X1 37 rfl rfl 5 (by decide) (List.mem_of_getElem? (i := 4) rfl) rfl rfl rfl ?_
      refine n_iload_n C dX5_assignedWithout_54 1 rfl rfl ?_
      refine n_bipush (v := (nI 6)) C dX5_assignedWithout_55 (by decide) rfl ?_
      refine n_isub C dX5_assignedWithout_57 rfl ?_
      refine n_bipush (v := (nI 127)) C dX5_assignedWithout_58 (by decide) rfl ?_
      obtain ⟨oV_60, h60, hf⟩ := bi hf
      obtain ⟨h60, e60⟩ := oast_some h60
      refine n_iast (w2 := [(aX, .inr (5, [.ref (aL 0), .ref (aS 0), .ref (aG 0), .ref (aH 0), .ref (aB 0), .ref (aV 0), .ref (aU 0)]))] ++ (bX4 cyI aS oS ++ (bX3 cyI aG oG ++ (bX1 cyI aL oL ++ (bX4 cyI aU oU ++ (bX1 cyI aV oV_60 ++ (bX2 cyI aB oB ++ bHS cyI cyO aH oH))))))) C dX5_assignedWithout_60 40 0 rfl rfl h60 (by subst e60; rfl) rfl ?_
      refine n_aload_n C dX5_assignedWithout_61 0 rfl rfl ?_
      refine n_get (N := 7) C dX5_assignedWithout_62 iw5_assignedWithout_X5 0 rfl rfl 2 (by decide) (List.mem_of_getElem? (i := 5) rfl) rfl rfl rfl ?_
      refine n_aload_n C dX5_assignedWithout_65 0 rfl rfl ?_
      refine n_get (N := 7) C dX5_assignedWithout_66 iw5_assignedWithout_X5 0 rfl rfl 5 (by decide) (List.mem_of_getElem? (i := 1) rfl) rfl rfl rfl ?_
      obtain ⟨z69, h69, hf⟩ := bi hf
      refine n_callV (As := [.ref (aV 0)]) (rest := []) (w2 := [(aX, .inr (5, [.ref (aL 0), .ref (aS 0), .ref (aG 0), .ref (aH 0), .ref (aB 0), .ref (aV 0), .ref (aU 0)]))] ++ (bX4 cyI aS oS ++ (bX3 cyI aG z69.2.1 ++ (bX1 cyI aL oL ++ (bX4 cyI aU oU ++ (bX1 cyI aV z69.2.2 ++ (bX2 cyI aB oB ++ bHS cyI cyO aH oH))))))) C dX5_assignedWithout_69 (c3_assign l D cyI cyO cyJ aG aV n oG oV_60 z69 h69) (cwV 1 C.ts gX5_assignedWithout_X3_assign rfl rfl rfl (by decide +kernel) ⟨Nat.le_of_ble_eq_true rfl, Nat.le_of_ble_eq_true rfl⟩) rfl (q0 := 0) (ci := 3) rfl rfl (Frm.skip (Frm.skip (Frm.take (Frm.skip (Frm.skip Frm.here))))) rfl (Nat.le_of_ble_eq_true rfl) ⟨Nat.le_of_ble_eq_true rfl, Nat.le_of_ble_eq_true rfl⟩ rfl ?_
      obtain rfl := Option.some.inj hf
      exact n_iret C dX5_assignedWithout_72
set_option maxHeartbeats 4000000 in
set_option maxRecDepth 100000 in
theorem c5_assignedWithout (l : Launch) (D : va_G) (cyI cyO cyJ : ClassId) (aX : Nat) (aS : Nat → Nat) (aG : Nat → Nat) (aL : Nat → Nat) (aU : Nat → Nat) (aV : Nat → Nat) (aB : Nat → Nat) (aH : Nat → Nat) (n : Nat) (oS : OB) (oG : OB) (oL : OB) (oU : OB) (oV : OB) (oB : OB) (oH : HS) (x1 : Int32) (z : Int32 × (OB) × (OB)) (hf : f5_assignedWithout n oS oG oL oU oV oB oH x1 = some z) : Ct l D (tyG cyI cyO cyJ) yX5_assignedWithout wsX5_assignedWithout rm5_assignedWithout 0 0 [.ref aX, .int x1] ([(aX, .inr (5, [.ref (aL 0), .ref (aS 0), .ref (aG 0), .ref (aH 0), .ref (aB 0), .ref (aV 0), .ref (aU 0)]))] ++ (bX4 cyI aS oS ++ (bX3 cyI aG oG ++ (bX1 cyI aL oL ++ (bX4 cyI aU oU ++ (bX1 cyI aV oV ++ (bX2 cyI aB oB ++ bHS cyI cyO aH oH))))))) ([(aX, .inr (5, [.ref (aL 0), .ref (aS 0), .ref (aG 0), .ref (aH 0), .ref (aB 0), .ref (aV 0), .ref (aU 0)]))] ++ (bX4 cyI aS oS ++ (bX3 cyI aG z.2.1 ++ (bX1 cyI aL oL ++ (bX4 cyI aU oU ++ (bX1 cyI aV z.2.2 ++ (bX2 cyI aB oB ++ bHS cyI cyO aH oH))))))) (some (.int z.1)) := by
  refine Ct.of (cc := cX5_assignedWithout) (nL := 2) (ret := (some .int)) (lv := [(0, .ref aX), (1, .int x1)]) (by decide +kernel) rfl rfl (Nat.le_of_ble_eq_true rfl) ?_
  intro p e s m args below meth c A C
  have C : Cx p s m args meth c D (tyG cyI cyO cyJ) A RX5 cX5_assignedWithout 2 (some .int) wsX5_assignedWithout := C
  unfold f5_assignedWithout at hf
  refine n_aload_n C dX5_assignedWithout_0 0 rfl rfl ?_
  refine n_get (N := 7) C dX5_assignedWithout_1 iw5_assignedWithout_X5 0 rfl rfl 5 (by decide) (List.mem_of_getElem? (i := 1) rfl) rfl rfl rfl ?_
  refine n_aload_n C dX5_assignedWithout_4 0 rfl rfl ?_
  refine n_get (N := 7) C dX5_assignedWithout_5 iw5_assignedWithout_X5 0 rfl rfl 0 (by decide) (List.mem_of_getElem? (i := 2) rfl) rfl rfl rfl ?_
  obtain ⟨z8, h8, hf⟩ := bi hf
  refine n_callV (As := [.ref (aL 0)]) (rest := []) (w2 := [(aX, .inr (5, [.ref (aL 0), .ref (aS 0), .ref (aG 0), .ref (aH 0), .ref (aB 0), .ref (aV 0), .ref (aU 0)]))] ++ (bX4 cyI aS oS ++ (bX3 cyI aG oG ++ (bX1 cyI aL oL ++ (bX4 cyI aU oU ++ (bX1 cyI aV z8 ++ (bX2 cyI aB oB ++ bHS cyI cyO aH oH))))))) C dX5_assignedWithout_8 (c1_copyFrom_b l D cyI cyO cyJ aL aV n oL oV z8 h8) (cwV 1 C.ts gX5_assignedWithout_X1_copyFrom rfl rfl rfl (by decide +kernel) ⟨Nat.le_of_ble_eq_true rfl, Nat.le_of_ble_eq_true rfl⟩) rfl (q0 := 13) (ci := 1) rfl rfl (Frm.skip (Frm.skip (Frm.skip (Frm.take (Frm.skip Frm.here))))) rfl (Nat.le_of_ble_eq_true rfl) ⟨Nat.le_of_ble_eq_true rfl, Nat.le_of_ble_eq_true rfl⟩ rfl ?_
  refine n_iload_n C dX5_assignedWithout_11 1 rfl rfl ?_
  refine n_if_lt (t := 35) C dX5_assignedWithout_12 (by decide) rfl (fun h12 => ?_) (fun h12 => ?_)
  · have hf := ip h12 hf
    exact Wn.sub (lv' := [(0, .ref aX), (1, .int x1)]) [0, 1] rfl (t5_assignedWithout_b35 C n oS oL oU oB oH x1 oG z8 hf)
  · have hf := iq h12 hf
    refine n_iload_n C dX5_assignedWithout_15 1 rfl rfl ?_
    refine n_bipush (v := (nI 6)) C dX5_assignedWithout_16 (by decide) rfl ?_
    refine n_icmp_ge (t := 35) C dX5_assignedWithout_18 (by decide) rfl (fun h18 => ?_) (fun h18 => ?_)
    · have hf := ip h18 hf
      exact Wn.sub (lv' := [(0, .ref aX), (1, .int x1)]) [0, 1] rfl (t5_assignedWithout_b35 C n oS oL oU oB oH x1 oG z8 hf)
    · have hf := iq h18 hf
      refine n_aload_n C dX5_assignedWithout_21 0 rfl rfl ?_
      refine n_get (N := 7) C dX5_assignedWithout_22 iw5_assignedWithout_X5 0 rfl rfl 5 (by decide) (List.mem_of_getElem? (i := 1) rfl) rfl rfl rfl ?_
      refine n_get (N := 15) C dX5_assignedWithout_25 iw5_assignedWithout_X1 37 rfl rfl 4 (by decide) (List.mem_of_getElem? (i := 3) rfl) rfl rfl rfl ?_
      refine n_iload_n C dX5_assignedWithout_28 1 rfl rfl ?_
      refine n_bipush (v := (nI 127)) C dX5_assignedWithout_29 (by decide) rfl ?_
      obtain ⟨oV_31, h31, hf⟩ := bi hf
      obtain ⟨h31, e31⟩ := oast_some h31
      refine n_iast (w2 := [(aX, .inr (5, [.ref (aL 0), .ref (aS 0), .ref (aG 0), .ref (aH 0), .ref (aB 0), .ref (aV 0), .ref (aU 0)]))] ++ (bX4 cyI aS oS ++ (bX3 cyI aG oG ++ (bX1 cyI aL oL ++ (bX4 cyI aU oU ++ (bX1 cyI aV oV_31 ++ (bX2 cyI aB oB ++ bHS cyI cyO aH oH))))))) C dX5_assignedWithout_31 39 0 rfl rfl h31 (by subst e31; rfl) rfl ?_
      refine n_goto (t := 61) C dX5_assignedWithout_32 (by decide) ?_
      refine n_aload_n C dX5_assignedWithout_61 0 rfl rfl ?_
      refine n_get (N := 7) C dX5_assignedWithout_62 iw5_assignedWithout_X5 0 rfl rfl 2 (by decide) (List.mem_of_getElem? (i := 5) rfl) rfl rfl rfl ?_
      refine n_aload_n C dX5_assignedWithout_65 0 rfl rfl ?_
      refine n_get (N := 7) C dX5_assignedWithout_66 iw5_assignedWithout_X5 0 rfl rfl 5 (by decide) (List.mem_of_getElem? (i := 1) rfl) rfl rfl rfl ?_
      obtain ⟨z69, h69, hf⟩ := bi hf
      refine n_callV (As := [.ref (aV 0)]) (rest := []) (w2 := [(aX, .inr (5, [.ref (aL 0), .ref (aS 0), .ref (aG 0), .ref (aH 0), .ref (aB 0), .ref (aV 0), .ref (aU 0)]))] ++ (bX4 cyI aS oS ++ (bX3 cyI aG z69.2.1 ++ (bX1 cyI aL oL ++ (bX4 cyI aU oU ++ (bX1 cyI aV z69.2.2 ++ (bX2 cyI aB oB ++ bHS cyI cyO aH oH))))))) C dX5_assignedWithout_69 (c3_assign l D cyI cyO cyJ aG aV n oG oV_31 z69 h69) (cwV 1 C.ts gX5_assignedWithout_X3_assign rfl rfl rfl (by decide +kernel) ⟨Nat.le_of_ble_eq_true rfl, Nat.le_of_ble_eq_true rfl⟩) rfl (q0 := 0) (ci := 3) rfl rfl (Frm.skip (Frm.skip (Frm.take (Frm.skip (Frm.skip Frm.here))))) rfl (Nat.le_of_ble_eq_true rfl) ⟨Nat.le_of_ble_eq_true rfl, Nat.le_of_ble_eq_true rfl⟩ rfl ?_
      obtain rfl := Option.some.inj hf
      exact n_iret C dX5_assignedWithout_72
-- X5 stage 
theorem iw5_stage_X5 : ∀ w ∈ u_ws RX5 TX5 7, w ∈ wsX5_stage := by decide +kernel
abbrev rm5_stage : Room := { frames := 3, cells := 0, slots := 0, locals := 77 }
def f5_stage (n : Nat) (oS : OB) (oG : OB) (oL : OB) (oU : OB) (oV : OB) (oB : OB) (oH : HS) : Option (Int32 × (OB) × (OB) × (HS)) :=
  (f0_keep n oL oH).bind fun z8 => (f3_assign n oG oL).bind fun z19 => some (z19.1, z19.2.1, z19.2.2, z8)
set_option maxHeartbeats 4000000 in
set_option maxRecDepth 100000 in
theorem c5_stage (l : Launch) (D : va_G) (cyI cyO cyJ : ClassId) (aX : Nat) (aS : Nat → Nat) (aG : Nat → Nat) (aL : Nat → Nat) (aU : Nat → Nat) (aV : Nat → Nat) (aB : Nat → Nat) (aH : Nat → Nat) (n : Nat) (oS : OB) (oG : OB) (oL : OB) (oU : OB) (oV : OB) (oB : OB) (oH : HS) (z : Int32 × (OB) × (OB) × (HS)) (hf : f5_stage n oS oG oL oU oV oB oH = some z) : Ct l D (tyG cyI cyO cyJ) yX5_stage wsX5_stage rm5_stage 0 0 [.ref aX] ([(aX, .inr (5, [.ref (aL 0), .ref (aS 0), .ref (aG 0), .ref (aH 0), .ref (aB 0), .ref (aV 0), .ref (aU 0)]))] ++ (bX4 cyI aS oS ++ (bX3 cyI aG oG ++ (bX1 cyI aL oL ++ (bX4 cyI aU oU ++ (bX1 cyI aV oV ++ (bX2 cyI aB oB ++ bHS cyI cyO aH oH))))))) ([(aX, .inr (5, [.ref (aL 0), .ref (aS 0), .ref (aG 0), .ref (aH 0), .ref (aB 0), .ref (aV 0), .ref (aU 0)]))] ++ (bX4 cyI aS oS ++ (bX3 cyI aG z.2.1 ++ (bX1 cyI aL z.2.2.1 ++ (bX4 cyI aU oU ++ (bX1 cyI aV oV ++ (bX2 cyI aB oB ++ bHS cyI cyO aH z.2.2.2))))))) (some (.int z.1)) := by
  refine Ct.of (cc := cX5_stage) (nL := 1) (ret := (some .int)) (lv := [(0, .ref aX)]) (by decide +kernel) rfl rfl (Nat.le_of_ble_eq_true rfl) ?_
  intro p e s m args below meth c A C
  have C : Cx p s m args meth c D (tyG cyI cyO cyJ) A RX5 cX5_stage 1 (some .int) wsX5_stage := C
  unfold f5_stage at hf
  refine n_aload_n C dX5_stage_0 0 rfl rfl ?_
  refine n_get (N := 7) C dX5_stage_1 iw5_stage_X5 0 rfl rfl 3 (by decide) (List.mem_of_getElem? (i := 1) rfl) rfl rfl rfl ?_
  refine n_aload_n C dX5_stage_4 0 rfl rfl ?_
  refine n_get (N := 7) C dX5_stage_5 iw5_stage_X5 0 rfl rfl 0 (by decide) (List.mem_of_getElem? (i := 2) rfl) rfl rfl rfl ?_
  obtain ⟨z8, h8, hf⟩ := bi hf
  refine n_callV (As := [.ref (aL 0)]) (rest := []) (w2 := [(aX, .inr (5, [.ref (aL 0), .ref (aS 0), .ref (aG 0), .ref (aH 0), .ref (aB 0), .ref (aV 0), .ref (aU 0)]))] ++ (bX4 cyI aS oS ++ (bX3 cyI aG oG ++ (bX1 cyI aL oL ++ (bX4 cyI aU oU ++ (bX1 cyI aV oV ++ (bX2 cyI aB oB ++ bHS cyI cyO aH z8))))))) C dX5_stage_8 (c0_keep l D cyI cyO cyJ aL aH n oL oH z8 h8) (cwV 1 C.ts gX5_stage_X0_keep rfl rfl rfl (by decide +kernel) ⟨Nat.le_of_ble_eq_true rfl, Nat.le_of_ble_eq_true rfl⟩) rfl (q0 := 13) (ci := 0) rfl rfl (Frm.skip (Frm.skip (Frm.skip (Frm.take (Frm.skip (Frm.skip (Frm.skip Frm.self))))))) rfl (Nat.le_of_ble_eq_true rfl) ⟨Nat.le_of_ble_eq_true rfl, Nat.le_of_ble_eq_true rfl⟩ rfl ?_
  refine n_aload_n C dX5_stage_11 0 rfl rfl ?_
  refine n_get (N := 7) C dX5_stage_12 iw5_stage_X5 0 rfl rfl 2 (by decide) (List.mem_of_getElem? (i := 3) rfl) rfl rfl rfl ?_
  refine n_aload_n C dX5_stage_15 0 rfl rfl ?_
  refine n_get (N := 7) C dX5_stage_16 iw5_stage_X5 0 rfl rfl 0 (by decide) (List.mem_of_getElem? (i := 2) rfl) rfl rfl rfl ?_
  obtain ⟨z19, h19, hf⟩ := bi hf
  refine n_callV (As := [.ref (aL 0)]) (rest := []) (w2 := [(aX, .inr (5, [.ref (aL 0), .ref (aS 0), .ref (aG 0), .ref (aH 0), .ref (aB 0), .ref (aV 0), .ref (aU 0)]))] ++ (bX4 cyI aS oS ++ (bX3 cyI aG z19.2.1 ++ (bX1 cyI aL z19.2.2 ++ (bX4 cyI aU oU ++ (bX1 cyI aV oV ++ (bX2 cyI aB oB ++ bHS cyI cyO aH z8))))))) C dX5_stage_19 (c3_assign l D cyI cyO cyJ aG aL n oG oL z19 h19) (cwV 1 C.ts gX5_stage_X3_assign rfl rfl rfl (by decide +kernel) ⟨Nat.le_of_ble_eq_true rfl, Nat.le_of_ble_eq_true rfl⟩) rfl (q0 := 0) (ci := 3) rfl rfl (Frm.skip (Frm.skip (Frm.take Frm.here))) rfl (Nat.le_of_ble_eq_true rfl) ⟨Nat.le_of_ble_eq_true rfl, Nat.le_of_ble_eq_true rfl⟩ rfl ?_
  obtain rfl := Option.some.inj hf
  exact n_iret C dX5_stage_22
-- X5 closeness 
theorem iw5_closeness_X5 : ∀ w ∈ u_ws RX5 TX5 7, w ∈ wsX5_closeness := by decide +kernel
abbrev rm5_closeness : Room := { frames := 5, cells := 0, slots := 0, locals := 112 }
def f5_closeness (n : Nat) (oS : OB) (oG : OB) (oL : OB) (oU : OB) (oV : OB) (oB : OB) (oH : HS) : Option (UInt64 × (OB)) :=
  (f4_countUp n oS oL).bind fun z8 => (f4_shareOfLast n z8).bind fun z15 => some (z15, z8)
set_option maxHeartbeats 4000000 in
set_option maxRecDepth 100000 in
theorem c5_closeness (l : Launch) (D : va_G) (cyI cyO cyJ : ClassId) (aX : Nat) (aS : Nat → Nat) (aG : Nat → Nat) (aL : Nat → Nat) (aU : Nat → Nat) (aV : Nat → Nat) (aB : Nat → Nat) (aH : Nat → Nat) (n : Nat) (oS : OB) (oG : OB) (oL : OB) (oU : OB) (oV : OB) (oB : OB) (oH : HS) (z : UInt64 × (OB)) (hf : f5_closeness n oS oG oL oU oV oB oH = some z) : Ct l D (tyG cyI cyO cyJ) yX5_closeness wsX5_closeness rm5_closeness 0 0 [.ref aX] ([(aX, .inr (5, [.ref (aL 0), .ref (aS 0), .ref (aG 0), .ref (aH 0), .ref (aB 0), .ref (aV 0), .ref (aU 0)]))] ++ (bX4 cyI aS oS ++ (bX3 cyI aG oG ++ (bX1 cyI aL oL ++ (bX4 cyI aU oU ++ (bX1 cyI aV oV ++ (bX2 cyI aB oB ++ bHS cyI cyO aH oH))))))) ([(aX, .inr (5, [.ref (aL 0), .ref (aS 0), .ref (aG 0), .ref (aH 0), .ref (aB 0), .ref (aV 0), .ref (aU 0)]))] ++ (bX4 cyI aS z.2 ++ (bX3 cyI aG oG ++ (bX1 cyI aL oL ++ (bX4 cyI aU oU ++ (bX1 cyI aV oV ++ (bX2 cyI aB oB ++ bHS cyI cyO aH oH))))))) (some (.double z.1)) := by
  refine Ct.of (cc := cX5_closeness) (nL := 1) (ret := (some .double)) (lv := [(0, .ref aX)]) (by decide +kernel) rfl rfl (Nat.le_of_ble_eq_true rfl) ?_
  intro p e s m args below meth c A C
  have C : Cx p s m args meth c D (tyG cyI cyO cyJ) A RX5 cX5_closeness 1 (some .double) wsX5_closeness := C
  unfold f5_closeness at hf
  refine n_aload_n C dX5_closeness_0 0 rfl rfl ?_
  refine n_get (N := 7) C dX5_closeness_1 iw5_closeness_X5 0 rfl rfl 1 (by decide) (List.mem_of_getElem? (i := 1) rfl) rfl rfl rfl ?_
  refine n_aload_n C dX5_closeness_4 0 rfl rfl ?_
  refine n_get (N := 7) C dX5_closeness_5 iw5_closeness_X5 0 rfl rfl 0 (by decide) (List.mem_of_getElem? (i := 2) rfl) rfl rfl rfl ?_
  obtain ⟨z8, h8, hf⟩ := bi hf
  refine n_callV (As := [.ref (aL 0)]) (rest := []) (w2 := [(aX, .inr (5, [.ref (aL 0), .ref (aS 0), .ref (aG 0), .ref (aH 0), .ref (aB 0), .ref (aV 0), .ref (aU 0)]))] ++ (bX4 cyI aS z8 ++ (bX3 cyI aG oG ++ (bX1 cyI aL oL ++ (bX4 cyI aU oU ++ (bX1 cyI aV oV ++ (bX2 cyI aB oB ++ bHS cyI cyO aH oH))))))) C dX5_closeness_8 (c4_countUp l D cyI cyO cyJ aS aL n oS oL z8 h8) (cwV 1 C.ts gX5_closeness_X4_countUp rfl rfl rfl (by decide +kernel) ⟨Nat.le_of_ble_eq_true rfl, Nat.le_of_ble_eq_true rfl⟩) rfl (q0 := 0) (ci := 4) rfl rfl (Frm.skip (Frm.take (Frm.skip Frm.here))) rfl (Nat.le_of_ble_eq_true rfl) ⟨Nat.le_of_ble_eq_true rfl, Nat.le_of_ble_eq_true rfl⟩ rfl ?_
  refine n_aload_n C dX5_closeness_11 0 rfl rfl ?_
  refine n_get (N := 7) C dX5_closeness_12 iw5_closeness_X5 0 rfl rfl 1 (by decide) (List.mem_of_getElem? (i := 1) rfl) rfl rfl rfl ?_
  obtain ⟨z15, h15, hf⟩ := bi hf
  refine n_callV (As := []) (rest := []) (w2 := [(aX, .inr (5, [.ref (aL 0), .ref (aS 0), .ref (aG 0), .ref (aH 0), .ref (aB 0), .ref (aV 0), .ref (aU 0)]))] ++ (bX4 cyI aS z8 ++ (bX3 cyI aG oG ++ (bX1 cyI aL oL ++ (bX4 cyI aU oU ++ (bX1 cyI aV oV ++ (bX2 cyI aB oB ++ bHS cyI cyO aH oH))))))) C dX5_closeness_15 (c4_shareOfLast l D cyI cyO cyJ aS n z8 z15 h15) (cwV 0 C.ts gX5_closeness_X4_shareOfLast rfl rfl rfl (by decide +kernel) ⟨Nat.le_of_ble_eq_true rfl, Nat.le_of_ble_eq_true rfl⟩) rfl (q0 := 0) (ci := 4) rfl rfl (Frm.skip Frm.here) rfl (Nat.le_of_ble_eq_true rfl) ⟨Nat.le_of_ble_eq_true rfl, Nat.le_of_ble_eq_true rfl⟩ rfl ?_
  obtain rfl := Option.some.inj hf
  exact n_dret C dX5_closeness_18
-- X5 begin 
theorem iw5n_begin_X1 : ∀ w ∈ u_ws RX1 TX1 15, w ∈ wsX5_begin := by decide +kernel
theorem iw5n_begin_X5 : ∀ w ∈ u_ws RX5 TX5 7, w ∈ wsX5_begin := by decide +kernel
abbrev rm5n_begin : Room := { frames := 3, cells := 0, slots := 0, locals := 70 }
def f5n_begin (n : Nat) (oS : OB) (oG : OB) (oL : OB) (oU : OB) (oV : OB) (oB : OB) (oH : HS) (x1 : Int32) : Option (Int32 × (OB) × (HS)) :=
  (if x1 < (nI 3) then none else (if x1 ≤ (nI 8) then (f0_keep n oL oH).bind fun z29 => (f1_restart n oL x1).bind fun z37 => some (z37.1 2, z37, z29) else none))
set_option maxHeartbeats 4000000 in
set_option maxRecDepth 100000 in
theorem c5n_begin (l : Launch) (D : va_G) (cyI cyO cyJ : ClassId) (aX : Nat) (aS : Nat → Nat) (aG : Nat → Nat) (aL : Nat → Nat) (aU : Nat → Nat) (aV : Nat → Nat) (aB : Nat → Nat) (aH : Nat → Nat) (n : Nat) (oS : OB) (oG : OB) (oL : OB) (oU : OB) (oV : OB) (oB : OB) (oH : HS) (x1 : Int32) (z : Int32 × (OB) × (HS)) (hf : f5n_begin n oS oG oL oU oV oB oH x1 = some z) : Ct l D (tyG cyI cyO cyJ) yX5_begin wsX5_begin rm5n_begin 0 0 [.ref aX, .int x1] ([(aX, .inr (5, [.ref (aL 0), .ref (aS 0), .ref (aG 0), .ref (aH 0), .ref (aB 0), .ref (aV 0), .ref (aU 0)]))] ++ (bX4 cyI aS oS ++ (bX3 cyI aG oG ++ (bX1 cyI aL oL ++ (bX4 cyI aU oU ++ (bX1 cyI aV oV ++ (bX2 cyI aB oB ++ bHS cyI cyO aH oH))))))) ([(aX, .inr (5, [.ref (aL 0), .ref (aS 0), .ref (aG 0), .ref (aH 0), .ref (aB 0), .ref (aV 0), .ref (aU 0)]))] ++ (bX4 cyI aS oS ++ (bX3 cyI aG oG ++ (bX1 cyI aL z.2.1 ++ (bX4 cyI aU oU ++ (bX1 cyI aV oV ++ (bX2 cyI aB oB ++ bHS cyI cyO aH z.2.2))))))) (some (.int z.1)) := by
  refine Ct.of (cc := cX5_begin) (nL := 2) (ret := (some .int)) (lv := [(0, .ref aX), (1, .int x1)]) (by decide +kernel) rfl rfl (Nat.le_of_ble_eq_true rfl) ?_
  intro p e s m args below meth c A C
  have C : Cx p s m args meth c D (tyG cyI cyO cyJ) A RX5 cX5_begin 2 (some .int) wsX5_begin := C
  unfold f5n_begin at hf
  refine n_iload_n C dX5_begin_0 1 rfl rfl ?_
  refine n_iconst (v := (nI 3)) C dX5_begin_1 (by decide) rfl ?_
  refine n_icmp_lt (t := 11) C dX5_begin_2 (by decide) rfl (fun h2 => ?_) (fun h2 => ?_)
  · have hf := ip h2 hf
    cases hf
  · have hf := iq h2 hf
    refine n_iload_n C dX5_begin_5 1 rfl rfl ?_
    refine n_bipush (v := (nI 8)) C dX5_begin_6 (by decide) rfl ?_
    refine n_icmp_le (t := 21) C dX5_begin_8 (by decide) rfl (fun h8 => ?_) (fun h8 => ?_)
    · have hf := ip h8 hf
      refine n_aload_n C dX5_begin_21 0 rfl rfl ?_
      refine n_get (N := 7) C dX5_begin_22 iw5n_begin_X5 0 rfl rfl 3 (by decide) (List.mem_of_getElem? (i := 3) rfl) rfl rfl rfl ?_
      refine n_aload_n C dX5_begin_25 0 rfl rfl ?_
      refine n_get (N := 7) C dX5_begin_26 iw5n_begin_X5 0 rfl rfl 0 (by decide) (List.mem_of_getElem? (i := 4) rfl) rfl rfl rfl ?_
      obtain ⟨z29, h29, hf⟩ := bi hf
      refine n_callV (As := [.ref (aL 0)]) (rest := []) (w2 := [(aX, .inr (5, [.ref (aL 0), .ref (aS 0), .ref (aG 0), .ref (aH 0), .ref (aB 0), .ref (aV 0), .ref (aU 0)]))] ++ (bX4 cyI aS oS ++ (bX3 cyI aG oG ++ (bX1 cyI aL oL ++ (bX4 cyI aU oU ++ (bX1 cyI aV oV ++ (bX2 cyI aB oB ++ bHS cyI cyO aH z29))))))) C dX5_begin_29 (c0_keep l D cyI cyO cyJ aL aH n oL oH z29 h29) (cwV 1 C.ts gX5_begin_X0_keep rfl rfl rfl (by decide +kernel) ⟨Nat.le_of_ble_eq_true rfl, Nat.le_of_ble_eq_true rfl⟩) rfl (q0 := 13) (ci := 0) rfl rfl (Frm.skip (Frm.skip (Frm.skip (Frm.take (Frm.skip (Frm.skip (Frm.skip Frm.self))))))) rfl (Nat.le_of_ble_eq_true rfl) ⟨Nat.le_of_ble_eq_true rfl, Nat.le_of_ble_eq_true rfl⟩ rfl ?_
      refine n_aload_n C dX5_begin_32 0 rfl rfl ?_
      refine n_get (N := 7) C dX5_begin_33 iw5n_begin_X5 0 rfl rfl 0 (by decide) (List.mem_of_getElem? (i := 4) rfl) rfl rfl rfl ?_
      refine n_iload_n C dX5_begin_36 1 rfl rfl ?_
      obtain ⟨z37, h37, hf⟩ := bi hf
      refine n_callV (As := [.int x1]) (rest := []) (w2 := [(aX, .inr (5, [.ref (aL 0), .ref (aS 0), .ref (aG 0), .ref (aH 0), .ref (aB 0), .ref (aV 0), .ref (aU 0)]))] ++ (bX4 cyI aS oS ++ (bX3 cyI aG oG ++ (bX1 cyI aL z37 ++ (bX4 cyI aU oU ++ (bX1 cyI aV oV ++ (bX2 cyI aB oB ++ bHS cyI cyO aH z29))))))) C dX5_begin_37 (c1_restart l D cyI cyO cyJ aL n oL x1 z37 h37) (cwV 1 C.ts gX5_begin_X1_restart rfl rfl rfl (by decide +kernel) ⟨Nat.le_of_ble_eq_true rfl, Nat.le_of_ble_eq_true rfl⟩) rfl (q0 := 0) (ci := 1) rfl rfl (Frm.skip (Frm.skip (Frm.skip Frm.here))) rfl (Nat.le_of_ble_eq_true rfl) ⟨Nat.le_of_ble_eq_true rfl, Nat.le_of_ble_eq_true rfl⟩ rfl ?_
      refine n_aload_n C dX5_begin_40 0 rfl rfl ?_
      refine n_get (N := 7) C dX5_begin_41 iw5n_begin_X5 0 rfl rfl 0 (by decide) (List.mem_of_getElem? (i := 4) rfl) rfl rfl rfl ?_
      refine n_get (N := 15) C dX5_begin_44 iw5n_begin_X1 15 rfl rfl 2 (by decide) (List.mem_of_getElem? (i := 5) rfl) rfl rfl rfl ?_
      obtain rfl := Option.some.inj hf
      exact n_iret C dX5_begin_47
    · have hf := iq h8 hf
      cases hf
-- X5 close 
theorem iw5n_close_X1 : ∀ w ∈ u_ws RX1 TX1 15, w ∈ wsX5_close := by decide +kernel
theorem iw5n_close_X5 : ∀ w ∈ u_ws RX5 TX5 7, w ∈ wsX5_close := by decide +kernel
abbrev rm5n_close : Room := { frames := 3, cells := 0, slots := 0, locals := 68 }
def f5n_close (n : Nat) (oS : OB) (oG : OB) (oL : OB) (oU : OB) (oV : OB) (oB : OB) (oH : HS) (x1 : Int32) (x2 : Int32) : Option (Int32 × (OB) × (HS)) :=
  (if x1 < (0 : Int32) then none else (if x1 < (nI 6) then (f5_isMask n x2).bind fun z21 => (if z21 = (0 : Int32) then none else (f0_keep n oL oH).bind fun z45 => (ald 6 (oL.2 4) x1).bind fun x56 => (oast oL 4 6 x1 x2).bind fun oL_67 => some (x56, oL_67, z45)) else none))
set_option maxHeartbeats 4000000 in
set_option maxRecDepth 100000 in
theorem c5n_close (l : Launch) (D : va_G) (cyI cyO cyJ : ClassId) (aX : Nat) (aS : Nat → Nat) (aG : Nat → Nat) (aL : Nat → Nat) (aU : Nat → Nat) (aV : Nat → Nat) (aB : Nat → Nat) (aH : Nat → Nat) (n : Nat) (oS : OB) (oG : OB) (oL : OB) (oU : OB) (oV : OB) (oB : OB) (oH : HS) (x1 : Int32) (x2 : Int32) (z : Int32 × (OB) × (HS)) (hf : f5n_close n oS oG oL oU oV oB oH x1 x2 = some z) : Ct l D (tyG cyI cyO cyJ) yX5_close wsX5_close rm5n_close 0 0 [.ref aX, .int x1, .int x2] ([(aX, .inr (5, [.ref (aL 0), .ref (aS 0), .ref (aG 0), .ref (aH 0), .ref (aB 0), .ref (aV 0), .ref (aU 0)]))] ++ (bX4 cyI aS oS ++ (bX3 cyI aG oG ++ (bX1 cyI aL oL ++ (bX4 cyI aU oU ++ (bX1 cyI aV oV ++ (bX2 cyI aB oB ++ bHS cyI cyO aH oH))))))) ([(aX, .inr (5, [.ref (aL 0), .ref (aS 0), .ref (aG 0), .ref (aH 0), .ref (aB 0), .ref (aV 0), .ref (aU 0)]))] ++ (bX4 cyI aS oS ++ (bX3 cyI aG oG ++ (bX1 cyI aL z.2.1 ++ (bX4 cyI aU oU ++ (bX1 cyI aV oV ++ (bX2 cyI aB oB ++ bHS cyI cyO aH z.2.2))))))) (some (.int z.1)) := by
  refine Ct.of (cc := cX5_close) (nL := 4) (ret := (some .int)) (lv := [(0, .ref aX), (1, .int x1), (2, .int x2)]) (by decide +kernel) rfl rfl (Nat.le_of_ble_eq_true rfl) ?_
  intro p e s m args below meth c A C
  have C : Cx p s m args meth c D (tyG cyI cyO cyJ) A RX5 cX5_close 4 (some .int) wsX5_close := C
  unfold f5n_close at hf
  refine n_iload_n C dX5_close_0 1 rfl rfl ?_
  refine n_if_lt (t := 10) C dX5_close_1 (by decide) rfl (fun h1 => ?_) (fun h1 => ?_)
  · have hf := ip h1 hf
    cases hf
  · have hf := iq h1 hf
    refine n_iload_n C dX5_close_4 1 rfl rfl ?_
    refine n_bipush (v := (nI 6)) C dX5_close_5 (by decide) rfl ?_
    refine n_icmp_lt (t := 20) C dX5_close_7 (by decide) rfl (fun h7 => ?_) (fun h7 => ?_)
    · have hf := ip h7 hf
      refine n_iload_n C dX5_close_20 2 rfl rfl ?_
      obtain ⟨z21, h21, hf⟩ := bi hf
      refine n_callS (As := [.int x2]) (rest := []) (w2 := [(aX, .inr (5, [.ref (aL 0), .ref (aS 0), .ref (aG 0), .ref (aH 0), .ref (aB 0), .ref (aV 0), .ref (aU 0)]))] ++ (bX4 cyI aS oS ++ (bX3 cyI aG oG ++ (bX1 cyI aL oL ++ (bX4 cyI aU oU ++ (bX1 cyI aV oV ++ (bX2 cyI aB oB ++ bHS cyI cyO aH oH))))))) C dX5_close_21 (c5_isMask l D cyI cyO cyJ  n x2 z21 h21) (va_cwS 1 C.ts gX5_close_X5_isMask rfl rfl rfl (by decide +kernel) ⟨Nat.le_of_ble_eq_true rfl, Nat.le_of_ble_eq_true rfl⟩) rfl Frm.none rfl (Nat.le_of_ble_eq_true rfl) ⟨Nat.le_of_ble_eq_true rfl, Nat.le_of_ble_eq_true rfl⟩ rfl ?_
      refine n_if_ne (t := 37) C dX5_close_24 (by decide) rfl (fun h24 => ?_) (fun h24 => ?_)
      · have hf := iq h24 hf
        refine n_aload_n C dX5_close_37 0 rfl rfl ?_
        refine n_get (N := 7) C dX5_close_38 iw5n_close_X5 0 rfl rfl 3 (by decide) (List.mem_of_getElem? (i := 5) rfl) rfl rfl rfl ?_
        refine n_aload_n C dX5_close_41 0 rfl rfl ?_
        refine n_get (N := 7) C dX5_close_42 iw5n_close_X5 0 rfl rfl 0 (by decide) (List.mem_of_getElem? (i := 6) rfl) rfl rfl rfl ?_
        obtain ⟨z45, h45, hf⟩ := bi hf
        refine n_callV (As := [.ref (aL 0)]) (rest := []) (w2 := [(aX, .inr (5, [.ref (aL 0), .ref (aS 0), .ref (aG 0), .ref (aH 0), .ref (aB 0), .ref (aV 0), .ref (aU 0)]))] ++ (bX4 cyI aS oS ++ (bX3 cyI aG oG ++ (bX1 cyI aL oL ++ (bX4 cyI aU oU ++ (bX1 cyI aV oV ++ (bX2 cyI aB oB ++ bHS cyI cyO aH z45))))))) C dX5_close_45 (c0_keep l D cyI cyO cyJ aL aH n oL oH z45 h45) (cwV 1 C.ts gX5_close_X0_keep rfl rfl rfl (by decide +kernel) ⟨Nat.le_of_ble_eq_true rfl, Nat.le_of_ble_eq_true rfl⟩) rfl (q0 := 13) (ci := 0) rfl rfl (Frm.skip (Frm.skip (Frm.skip (Frm.take (Frm.skip (Frm.skip (Frm.skip Frm.self))))))) rfl (Nat.le_of_ble_eq_true rfl) ⟨Nat.le_of_ble_eq_true rfl, Nat.le_of_ble_eq_true rfl⟩ rfl ?_
        refine n_aload_n C dX5_close_48 0 rfl rfl ?_
        refine n_get (N := 7) C dX5_close_49 iw5n_close_X5 0 rfl rfl 0 (by decide) (List.mem_of_getElem? (i := 6) rfl) rfl rfl rfl ?_
        refine n_get (N := 15) C dX5_close_52 iw5n_close_X1 15 rfl rfl 4 (by decide) (List.mem_of_getElem? (i := 7) rfl) rfl rfl rfl ?_
        refine n_iload_n C dX5_close_55 1 rfl rfl ?_
        obtain ⟨x56, h56, hf⟩ := bi hf
        obtain ⟨h56, e56⟩ := ald_some h56
        refine n_iald C dX5_close_56 17 0 rfl rfl h56 rfl ?_
        rw [← e56]
        refine n_istore_n (lv' := [(3, .int x56), (0, .ref aX), (1, .int x1), (2, .int x2)]) C dX5_close_57 (by decide) rfl rfl ?_
        refine n_aload_n C dX5_close_58 1 rfl rfl ?_
        refine n_get (N := 7) C dX5_close_59 iw5n_close_X5 0 rfl rfl 0 (by decide) (List.mem_of_getElem? (i := 6) rfl) rfl rfl rfl ?_
        refine n_get (N := 15) C dX5_close_62 iw5n_close_X1 15 rfl rfl 4 (by decide) (List.mem_of_getElem? (i := 7) rfl) rfl rfl rfl ?_
        refine n_iload_n C dX5_close_65 2 rfl rfl ?_
        refine n_iload_n C dX5_close_66 3 rfl rfl ?_
        obtain ⟨oL_67, h67, hf⟩ := bi hf
        obtain ⟨h67, e67⟩ := oast_some h67
        refine n_iast (w2 := [(aX, .inr (5, [.ref (aL 0), .ref (aS 0), .ref (aG 0), .ref (aH 0), .ref (aB 0), .ref (aV 0), .ref (aU 0)]))] ++ (bX4 cyI aS oS ++ (bX3 cyI aG oG ++ (bX1 cyI aL oL_67 ++ (bX4 cyI aU oU ++ (bX1 cyI aV oV ++ (bX2 cyI aB oB ++ bHS cyI cyO aH z45))))))) C dX5_close_67 17 0 rfl rfl h67 (by subst e67; rfl) rfl ?_
        refine n_iload_n C dX5_close_68 0 rfl rfl ?_
        obtain rfl := Option.some.inj hf
        exact n_iret C dX5_close_69
      · have hf := ip h24 hf
        cases hf
    · have hf := iq h7 hf
      cases hf
-- X5 away 
theorem iw5n_away_X1 : ∀ w ∈ u_ws RX1 TX1 15, w ∈ wsX5_away := by decide +kernel
theorem iw5n_away_X5 : ∀ w ∈ u_ws RX5 TX5 7, w ∈ wsX5_away := by decide +kernel
abbrev rm5n_away : Room := { frames := 3, cells := 0, slots := 0, locals := 68 }
def f5n_away (n : Nat) (oS : OB) (oG : OB) (oL : OB) (oU : OB) (oV : OB) (oB : OB) (oH : HS) (x1 : Int32) (x2 : Int32) : Option (Int32 × (OB) × (HS)) :=
  (if x1 < (0 : Int32) then none else (if x1 < (nI 6) then (f5_isMask n x2).bind fun z21 => (if z21 = (0 : Int32) then none else (f0_keep n oL oH).bind fun z45 => (ald 6 (oL.2 5) x1).bind fun x56 => (oast oL 5 6 x1 x2).bind fun oL_67 => some (x56, oL_67, z45)) else none))
set_option maxHeartbeats 4000000 in
set_option maxRecDepth 100000 in
theorem c5n_away (l : Launch) (D : va_G) (cyI cyO cyJ : ClassId) (aX : Nat) (aS : Nat → Nat) (aG : Nat → Nat) (aL : Nat → Nat) (aU : Nat → Nat) (aV : Nat → Nat) (aB : Nat → Nat) (aH : Nat → Nat) (n : Nat) (oS : OB) (oG : OB) (oL : OB) (oU : OB) (oV : OB) (oB : OB) (oH : HS) (x1 : Int32) (x2 : Int32) (z : Int32 × (OB) × (HS)) (hf : f5n_away n oS oG oL oU oV oB oH x1 x2 = some z) : Ct l D (tyG cyI cyO cyJ) yX5_away wsX5_away rm5n_away 0 0 [.ref aX, .int x1, .int x2] ([(aX, .inr (5, [.ref (aL 0), .ref (aS 0), .ref (aG 0), .ref (aH 0), .ref (aB 0), .ref (aV 0), .ref (aU 0)]))] ++ (bX4 cyI aS oS ++ (bX3 cyI aG oG ++ (bX1 cyI aL oL ++ (bX4 cyI aU oU ++ (bX1 cyI aV oV ++ (bX2 cyI aB oB ++ bHS cyI cyO aH oH))))))) ([(aX, .inr (5, [.ref (aL 0), .ref (aS 0), .ref (aG 0), .ref (aH 0), .ref (aB 0), .ref (aV 0), .ref (aU 0)]))] ++ (bX4 cyI aS oS ++ (bX3 cyI aG oG ++ (bX1 cyI aL z.2.1 ++ (bX4 cyI aU oU ++ (bX1 cyI aV oV ++ (bX2 cyI aB oB ++ bHS cyI cyO aH z.2.2))))))) (some (.int z.1)) := by
  refine Ct.of (cc := cX5_away) (nL := 4) (ret := (some .int)) (lv := [(0, .ref aX), (1, .int x1), (2, .int x2)]) (by decide +kernel) rfl rfl (Nat.le_of_ble_eq_true rfl) ?_
  intro p e s m args below meth c A C
  have C : Cx p s m args meth c D (tyG cyI cyO cyJ) A RX5 cX5_away 4 (some .int) wsX5_away := C
  unfold f5n_away at hf
  refine n_iload_n C dX5_away_0 1 rfl rfl ?_
  refine n_if_lt (t := 10) C dX5_away_1 (by decide) rfl (fun h1 => ?_) (fun h1 => ?_)
  · have hf := ip h1 hf
    cases hf
  · have hf := iq h1 hf
    refine n_iload_n C dX5_away_4 1 rfl rfl ?_
    refine n_bipush (v := (nI 6)) C dX5_away_5 (by decide) rfl ?_
    refine n_icmp_lt (t := 20) C dX5_away_7 (by decide) rfl (fun h7 => ?_) (fun h7 => ?_)
    · have hf := ip h7 hf
      refine n_iload_n C dX5_away_20 2 rfl rfl ?_
      obtain ⟨z21, h21, hf⟩ := bi hf
      refine n_callS (As := [.int x2]) (rest := []) (w2 := [(aX, .inr (5, [.ref (aL 0), .ref (aS 0), .ref (aG 0), .ref (aH 0), .ref (aB 0), .ref (aV 0), .ref (aU 0)]))] ++ (bX4 cyI aS oS ++ (bX3 cyI aG oG ++ (bX1 cyI aL oL ++ (bX4 cyI aU oU ++ (bX1 cyI aV oV ++ (bX2 cyI aB oB ++ bHS cyI cyO aH oH))))))) C dX5_away_21 (c5_isMask l D cyI cyO cyJ  n x2 z21 h21) (va_cwS 1 C.ts gX5_away_X5_isMask rfl rfl rfl (by decide +kernel) ⟨Nat.le_of_ble_eq_true rfl, Nat.le_of_ble_eq_true rfl⟩) rfl Frm.none rfl (Nat.le_of_ble_eq_true rfl) ⟨Nat.le_of_ble_eq_true rfl, Nat.le_of_ble_eq_true rfl⟩ rfl ?_
      refine n_if_ne (t := 37) C dX5_away_24 (by decide) rfl (fun h24 => ?_) (fun h24 => ?_)
      · have hf := iq h24 hf
        refine n_aload_n C dX5_away_37 0 rfl rfl ?_
        refine n_get (N := 7) C dX5_away_38 iw5n_away_X5 0 rfl rfl 3 (by decide) (List.mem_of_getElem? (i := 5) rfl) rfl rfl rfl ?_
        refine n_aload_n C dX5_away_41 0 rfl rfl ?_
        refine n_get (N := 7) C dX5_away_42 iw5n_away_X5 0 rfl rfl 0 (by decide) (List.mem_of_getElem? (i := 6) rfl) rfl rfl rfl ?_
        obtain ⟨z45, h45, hf⟩ := bi hf
        refine n_callV (As := [.ref (aL 0)]) (rest := []) (w2 := [(aX, .inr (5, [.ref (aL 0), .ref (aS 0), .ref (aG 0), .ref (aH 0), .ref (aB 0), .ref (aV 0), .ref (aU 0)]))] ++ (bX4 cyI aS oS ++ (bX3 cyI aG oG ++ (bX1 cyI aL oL ++ (bX4 cyI aU oU ++ (bX1 cyI aV oV ++ (bX2 cyI aB oB ++ bHS cyI cyO aH z45))))))) C dX5_away_45 (c0_keep l D cyI cyO cyJ aL aH n oL oH z45 h45) (cwV 1 C.ts gX5_away_X0_keep rfl rfl rfl (by decide +kernel) ⟨Nat.le_of_ble_eq_true rfl, Nat.le_of_ble_eq_true rfl⟩) rfl (q0 := 13) (ci := 0) rfl rfl (Frm.skip (Frm.skip (Frm.skip (Frm.take (Frm.skip (Frm.skip (Frm.skip Frm.self))))))) rfl (Nat.le_of_ble_eq_true rfl) ⟨Nat.le_of_ble_eq_true rfl, Nat.le_of_ble_eq_true rfl⟩ rfl ?_
        refine n_aload_n C dX5_away_48 0 rfl rfl ?_
        refine n_get (N := 7) C dX5_away_49 iw5n_away_X5 0 rfl rfl 0 (by decide) (List.mem_of_getElem? (i := 6) rfl) rfl rfl rfl ?_
        refine n_get (N := 15) C dX5_away_52 iw5n_away_X1 15 rfl rfl 5 (by decide) (List.mem_of_getElem? (i := 7) rfl) rfl rfl rfl ?_
        refine n_iload_n C dX5_away_55 1 rfl rfl ?_
        obtain ⟨x56, h56, hf⟩ := bi hf
        obtain ⟨h56, e56⟩ := ald_some h56
        refine n_iald C dX5_away_56 18 0 rfl rfl h56 rfl ?_
        rw [← e56]
        refine n_istore_n (lv' := [(3, .int x56), (0, .ref aX), (1, .int x1), (2, .int x2)]) C dX5_away_57 (by decide) rfl rfl ?_
        refine n_aload_n C dX5_away_58 1 rfl rfl ?_
        refine n_get (N := 7) C dX5_away_59 iw5n_away_X5 0 rfl rfl 0 (by decide) (List.mem_of_getElem? (i := 6) rfl) rfl rfl rfl ?_
        refine n_get (N := 15) C dX5_away_62 iw5n_away_X1 15 rfl rfl 5 (by decide) (List.mem_of_getElem? (i := 7) rfl) rfl rfl rfl ?_
        refine n_iload_n C dX5_away_65 2 rfl rfl ?_
        refine n_iload_n C dX5_away_66 3 rfl rfl ?_
        obtain ⟨oL_67, h67, hf⟩ := bi hf
        obtain ⟨h67, e67⟩ := oast_some h67
        refine n_iast (w2 := [(aX, .inr (5, [.ref (aL 0), .ref (aS 0), .ref (aG 0), .ref (aH 0), .ref (aB 0), .ref (aV 0), .ref (aU 0)]))] ++ (bX4 cyI aS oS ++ (bX3 cyI aG oG ++ (bX1 cyI aL oL_67 ++ (bX4 cyI aU oU ++ (bX1 cyI aV oV ++ (bX2 cyI aB oB ++ bHS cyI cyO aH z45))))))) C dX5_away_67 18 0 rfl rfl h67 (by subst e67; rfl) rfl ?_
        refine n_iload_n C dX5_away_68 0 rfl rfl ?_
        obtain rfl := Option.some.inj hf
        exact n_iret C dX5_away_69
      · have hf := ip h24 hf
        cases hf
    · have hf := iq h7 hf
      cases hf
-- X5 annul 
theorem iw5n_annul_X1 : ∀ w ∈ u_ws RX1 TX1 15, w ∈ wsX5_annul := by decide +kernel
theorem iw5n_annul_X5 : ∀ w ∈ u_ws RX5 TX5 7, w ∈ wsX5_annul := by decide +kernel
abbrev rm5n_annul : Room := { frames := 3, cells := 0, slots := 0, locals := 68 }
def f5n_annul_b49 (n : Nat) (oS : OB) (oG : OB) (oU : OB) (oV : OB) (oB : OB) (x1 : Int32) (s0 : Int32) (oL : OB) (oH : HS) : Option (Int32 × (OB) × (HS)) :=
  (f1_give n oL x1 (nI 0) (nI 0) (nI 0)).bind fun z58 => (if s0 = (0 : Int32) then some ((nI 0), z58, oH) else some ((nI 1), z58, oH))
def f5n_annul (n : Nat) (oS : OB) (oG : OB) (oL : OB) (oU : OB) (oV : OB) (oB : OB) (oH : HS) (x1 : Int32) : Option (Int32 × (OB) × (HS)) :=
  (f1_hasMatch n oL x1).bind fun z5 => (if z5 = (0 : Int32) then none else (f0_keep n oL oH).bind fun z29 => (ald 28 (oL.2 12) x1).bind fun x40 => (if x40 = (0 : Int32) then f5n_annul_b49 n oS oG oU oV oB x1 (nI 0) oL z29 else f5n_annul_b49 n oS oG oU oV oB x1 (nI 1) oL z29))
set_option maxHeartbeats 4000000 in
set_option maxRecDepth 100000 in
theorem t5n_annul_b49 {l : Launch} {p : Program} {e : Env} {s : State} {m : MethodId} {args : Array Value} {below : List Frame} {meth : Method} {c : Code} {D : va_G} {A : Nat → Prop} {cyI cyO cyJ : ClassId} {aX : Nat} {aS : Nat → Nat} {aG : Nat → Nat} {aL : Nat → Nat} {aU : Nat → Nat} {aV : Nat → Nat} {aB : Nat → Nat} {aH : Nat → Nat} (C : Cx p s m args meth c D (tyG cyI cyO cyJ) A RX5 cX5_annul 3 (some .int) wsX5_annul) {z : Int32 × (OB) × (HS)} (n : Nat) (oS : OB) (oG : OB) (oU : OB) (oV : OB) (oB : OB) (x1 : Int32) (s0 : Int32) (oL : OB) (oH : HS) (hf : f5n_annul_b49 n oS oG oU oV oB x1 s0 oL oH = some z) : Wn p l e rm5n_annul s m args below meth c D A 3 0 0 (MQ below (Qr D (tyG cyI cyO cyJ) ([(aX, .inr (5, [.ref (aL 0), .ref (aS 0), .ref (aG 0), .ref (aH 0), .ref (aB 0), .ref (aV 0), .ref (aU 0)]))] ++ (bX4 cyI aS oS ++ (bX3 cyI aG oG ++ (bX1 cyI aL z.2.1 ++ (bX4 cyI aU oU ++ (bX1 cyI aV oV ++ (bX2 cyI aB oB ++ bHS cyI cyO aH z.2.2))))))) A (some (.int z.1))) args s 0 0 A) ([(aX, .inr (5, [.ref (aL 0), .ref (aS 0), .ref (aG 0), .ref (aH 0), .ref (aB 0), .ref (aV 0), .ref (aU 0)]))] ++ (bX4 cyI aS oS ++ (bX3 cyI aG oG ++ (bX1 cyI aL oL ++ (bX4 cyI aU oU ++ (bX1 cyI aV oV ++ (bX2 cyI aB oB ++ bHS cyI cyO aH oH))))))) 49 [(0, .ref aX), (1, .int x1)] [.int s0] := by
  unfold f5n_annul_b49 at hf
  refine n_istore_n (lv' := [(2, .int s0), (0, .ref aX), (1, .int x1)]) C dX5_annul_49 (by decide) rfl rfl ?_
  refine n_aload_n C dX5_annul_50 1 rfl rfl ?_
  refine n_get (N := 7) C dX5_annul_51 iw5n_annul_X5 0 rfl rfl 0 (by decide) (List.mem_of_getElem? (i := 3) rfl) rfl rfl rfl ?_
  refine n_iload_n C dX5_annul_54 2 rfl rfl ?_
  refine n_iconst (v := (nI 0)) C dX5_annul_55 (by decide) rfl ?_
  refine n_iconst (v := (nI 0)) C dX5_annul_56 (by decide) rfl ?_
  refine n_iconst (v := (nI 0)) C dX5_annul_57 (by decide) rfl ?_
  obtain ⟨z58, h58, hf⟩ := bi hf
  refine n_callV (As := [.int x1, .int (nI 0), .int (nI 0), .int (nI 0)]) (rest := []) (w2 := [(aX, .inr (5, [.ref (aL 0), .ref (aS 0), .ref (aG 0), .ref (aH 0), .ref (aB 0), .ref (aV 0), .ref (aU 0)]))] ++ (bX4 cyI aS oS ++ (bX3 cyI aG oG ++ (bX1 cyI aL z58 ++ (bX4 cyI aU oU ++ (bX1 cyI aV oV ++ (bX2 cyI aB oB ++ bHS cyI cyO aH oH))))))) C dX5_annul_58 (c1_give l D cyI cyO cyJ aL n oL x1 (nI 0) (nI 0) (nI 0) z58 h58) (cwV 4 C.ts gX5_annul_X1_give rfl rfl rfl (by decide +kernel) ⟨Nat.le_of_ble_eq_true rfl, Nat.le_of_ble_eq_true rfl⟩) rfl (q0 := 0) (ci := 1) rfl rfl (Frm.skip (Frm.skip (Frm.skip Frm.here))) rfl (Nat.le_of_ble_eq_true rfl) ⟨Nat.le_of_ble_eq_true rfl, Nat.le_of_ble_eq_true rfl⟩ rfl ?_
  refine n_iload_n C dX5_annul_61 0 rfl rfl ?_
  refine n_if_eq (t := 69) C dX5_annul_62 (by decide) rfl (fun h62 => ?_) (fun h62 => ?_)
  · have hf := ip h62 hf
    refine n_iconst (v := (nI 0)) C dX5_annul_69 (by decide) rfl ?_
    obtain rfl := Option.some.inj hf
    exact n_iret C dX5_annul_70
  · have hf := iq h62 hf
    refine n_iconst (v := (nI 1)) C dX5_annul_65 (by decide) rfl ?_
    refine n_goto (t := 70) C dX5_annul_66 (by decide) ?_
    obtain rfl := Option.some.inj hf
    exact n_iret C dX5_annul_70
set_option maxHeartbeats 4000000 in
set_option maxRecDepth 100000 in
theorem c5n_annul (l : Launch) (D : va_G) (cyI cyO cyJ : ClassId) (aX : Nat) (aS : Nat → Nat) (aG : Nat → Nat) (aL : Nat → Nat) (aU : Nat → Nat) (aV : Nat → Nat) (aB : Nat → Nat) (aH : Nat → Nat) (n : Nat) (oS : OB) (oG : OB) (oL : OB) (oU : OB) (oV : OB) (oB : OB) (oH : HS) (x1 : Int32) (z : Int32 × (OB) × (HS)) (hf : f5n_annul n oS oG oL oU oV oB oH x1 = some z) : Ct l D (tyG cyI cyO cyJ) yX5_annul wsX5_annul rm5n_annul 0 0 [.ref aX, .int x1] ([(aX, .inr (5, [.ref (aL 0), .ref (aS 0), .ref (aG 0), .ref (aH 0), .ref (aB 0), .ref (aV 0), .ref (aU 0)]))] ++ (bX4 cyI aS oS ++ (bX3 cyI aG oG ++ (bX1 cyI aL oL ++ (bX4 cyI aU oU ++ (bX1 cyI aV oV ++ (bX2 cyI aB oB ++ bHS cyI cyO aH oH))))))) ([(aX, .inr (5, [.ref (aL 0), .ref (aS 0), .ref (aG 0), .ref (aH 0), .ref (aB 0), .ref (aV 0), .ref (aU 0)]))] ++ (bX4 cyI aS oS ++ (bX3 cyI aG oG ++ (bX1 cyI aL z.2.1 ++ (bX4 cyI aU oU ++ (bX1 cyI aV oV ++ (bX2 cyI aB oB ++ bHS cyI cyO aH z.2.2))))))) (some (.int z.1)) := by
  refine Ct.of (cc := cX5_annul) (nL := 3) (ret := (some .int)) (lv := [(0, .ref aX), (1, .int x1)]) (by decide +kernel) rfl rfl (Nat.le_of_ble_eq_true rfl) ?_
  intro p e s m args below meth c A C
  have C : Cx p s m args meth c D (tyG cyI cyO cyJ) A RX5 cX5_annul 3 (some .int) wsX5_annul := C
  unfold f5n_annul at hf
  refine n_aload_n C dX5_annul_0 0 rfl rfl ?_
  refine n_get (N := 7) C dX5_annul_1 iw5n_annul_X5 0 rfl rfl 0 (by decide) (List.mem_of_getElem? (i := 3) rfl) rfl rfl rfl ?_
  refine n_iload_n C dX5_annul_4 1 rfl rfl ?_
  obtain ⟨z5, h5, hf⟩ := bi hf
  refine n_callV (As := [.int x1]) (rest := []) (w2 := [(aX, .inr (5, [.ref (aL 0), .ref (aS 0), .ref (aG 0), .ref (aH 0), .ref (aB 0), .ref (aV 0), .ref (aU 0)]))] ++ (bX4 cyI aS oS ++ (bX3 cyI aG oG ++ (bX1 cyI aL oL ++ (bX4 cyI aU oU ++ (bX1 cyI aV oV ++ (bX2 cyI aB oB ++ bHS cyI cyO aH oH))))))) C dX5_annul_5 (c1_hasMatch l D cyI cyO cyJ aL n oL x1 z5 h5) (cwV 1 C.ts gX5_annul_X1_hasMatch rfl rfl rfl (by decide +kernel) ⟨Nat.le_of_ble_eq_true rfl, Nat.le_of_ble_eq_true rfl⟩) rfl (q0 := 0) (ci := 1) rfl rfl (Frm.skip (Frm.skip (Frm.skip Frm.here))) rfl (Nat.le_of_ble_eq_true rfl) ⟨Nat.le_of_ble_eq_true rfl, Nat.le_of_ble_eq_true rfl⟩ rfl ?_
  refine n_if_ne (t := 21) C dX5_annul_8 (by decide) rfl (fun h8 => ?_) (fun h8 => ?_)
  · have hf := iq h8 hf
    refine n_aload_n C dX5_annul_21 0 rfl rfl ?_
    refine n_get (N := 7) C dX5_annul_22 iw5n_annul_X5 0 rfl rfl 3 (by decide) (List.mem_of_getElem? (i := 4) rfl) rfl rfl rfl ?_
    refine n_aload_n C dX5_annul_25 0 rfl rfl ?_
    refine n_get (N := 7) C dX5_annul_26 iw5n_annul_X5 0 rfl rfl 0 (by decide) (List.mem_of_getElem? (i := 3) rfl) rfl rfl rfl ?_
    obtain ⟨z29, h29, hf⟩ := bi hf
    refine n_callV (As := [.ref (aL 0)]) (rest := []) (w2 := [(aX, .inr (5, [.ref (aL 0), .ref (aS 0), .ref (aG 0), .ref (aH 0), .ref (aB 0), .ref (aV 0), .ref (aU 0)]))] ++ (bX4 cyI aS oS ++ (bX3 cyI aG oG ++ (bX1 cyI aL oL ++ (bX4 cyI aU oU ++ (bX1 cyI aV oV ++ (bX2 cyI aB oB ++ bHS cyI cyO aH z29))))))) C dX5_annul_29 (c0_keep l D cyI cyO cyJ aL aH n oL oH z29 h29) (cwV 1 C.ts gX5_annul_X0_keep rfl rfl rfl (by decide +kernel) ⟨Nat.le_of_ble_eq_true rfl, Nat.le_of_ble_eq_true rfl⟩) rfl (q0 := 13) (ci := 0) rfl rfl (Frm.skip (Frm.skip (Frm.skip (Frm.take (Frm.skip (Frm.skip (Frm.skip Frm.self))))))) rfl (Nat.le_of_ble_eq_true rfl) ⟨Nat.le_of_ble_eq_true rfl, Nat.le_of_ble_eq_true rfl⟩ rfl ?_
    refine n_aload_n C dX5_annul_32 0 rfl rfl ?_
    refine n_get (N := 7) C dX5_annul_33 iw5n_annul_X5 0 rfl rfl 0 (by decide) (List.mem_of_getElem? (i := 3) rfl) rfl rfl rfl ?_
    refine n_get (N := 15) C dX5_annul_36 iw5n_annul_X1 15 rfl rfl 12 (by decide) (List.mem_of_getElem? (i := 5) rfl) rfl rfl rfl ?_
    refine n_iload_n C dX5_annul_39 1 rfl rfl ?_
    obtain ⟨x40, h40, hf⟩ := bi hf
    obtain ⟨h40, e40⟩ := ald_some h40
    refine n_iald C dX5_annul_40 25 0 rfl rfl h40 rfl ?_
    rw [← e40]
    refine n_if_eq (t := 48) C dX5_annul_41 (by decide) rfl (fun h41 => ?_) (fun h41 => ?_)
    · have hf := ip h41 hf
      refine n_iconst (v := (nI 0)) C dX5_annul_48 (by decide) rfl ?_
      exact Wn.sub (lv' := [(0, .ref aX), (1, .int x1)]) [0, 1] rfl (t5n_annul_b49 C n oS oG oU oV oB x1 (nI 0) oL z29 hf)
    · have hf := iq h41 hf
      refine n_iconst (v := (nI 1)) C dX5_annul_44 (by decide) rfl ?_
      refine n_goto (t := 49) C dX5_annul_45 (by decide) ?_
      exact Wn.sub (lv' := [(0, .ref aX), (1, .int x1)]) [0, 1] rfl (t5n_annul_b49 C n oS oG oU oV oB x1 (nI 1) oL z29 hf)
  · have hf := ip h8 hf
    cases hf
-- X5 match 
theorem iw5n_match_X5 : ∀ w ∈ u_ws RX5 TX5 7, w ∈ wsX5_match := by decide +kernel
abbrev rm5n_match : Room := { frames := 3, cells := 0, slots := 0, locals := 65 }
def f5n_match (n : Nat) (oS : OB) (oG : OB) (oL : OB) (oU : OB) (oV : OB) (oB : OB) (oH : HS) (x1 : Int32) (x2 : Int32) : Option (Int32) :=
  (f1_hasMatch n oL x1).bind fun z5 => (if z5 = (0 : Int32) then none else (if x2 < (0 : Int32) then none else (if x2 < (nI 9) then (f1_property n oL x1 x2).bind fun z47 => some z47 else none)))
set_option maxHeartbeats 4000000 in
set_option maxRecDepth 100000 in
theorem c5n_match (l : Launch) (D : va_G) (cyI cyO cyJ : ClassId) (aX : Nat) (aS : Nat → Nat) (aG : Nat → Nat) (aL : Nat → Nat) (aU : Nat → Nat) (aV : Nat → Nat) (aB : Nat → Nat) (aH : Nat → Nat) (n : Nat) (oS : OB) (oG : OB) (oL : OB) (oU : OB) (oV : OB) (oB : OB) (oH : HS) (x1 : Int32) (x2 : Int32) (z : Int32) (hf : f5n_match n oS oG oL oU oV oB oH x1 x2 = some z) : Ct l D (tyG cyI cyO cyJ) yX5_match wsX5_match rm5n_match 0 0 [.ref aX, .int x1, .int x2] ([(aX, .inr (5, [.ref (aL 0), .ref (aS 0), .ref (aG 0), .ref (aH 0), .ref (aB 0), .ref (aV 0), .ref (aU 0)]))] ++ (bX4 cyI aS oS ++ (bX3 cyI aG oG ++ (bX1 cyI aL oL ++ (bX4 cyI aU oU ++ (bX1 cyI aV oV ++ (bX2 cyI aB oB ++ bHS cyI cyO aH oH))))))) ([(aX, .inr (5, [.ref (aL 0), .ref (aS 0), .ref (aG 0), .ref (aH 0), .ref (aB 0), .ref (aV 0), .ref (aU 0)]))] ++ (bX4 cyI aS oS ++ (bX3 cyI aG oG ++ (bX1 cyI aL oL ++ (bX4 cyI aU oU ++ (bX1 cyI aV oV ++ (bX2 cyI aB oB ++ bHS cyI cyO aH oH))))))) (some (.int z)) := by
  refine Ct.of (cc := cX5_match) (nL := 3) (ret := (some .int)) (lv := [(0, .ref aX), (1, .int x1), (2, .int x2)]) (by decide +kernel) rfl rfl (Nat.le_of_ble_eq_true rfl) ?_
  intro p e s m args below meth c A C
  have C : Cx p s m args meth c D (tyG cyI cyO cyJ) A RX5 cX5_match 3 (some .int) wsX5_match := C
  unfold f5n_match at hf
  refine n_aload_n C dX5_match_0 0 rfl rfl ?_
  refine n_get (N := 7) C dX5_match_1 iw5n_match_X5 0 rfl rfl 0 (by decide) (List.mem_of_getElem? (i := 5) rfl) rfl rfl rfl ?_
  refine n_iload_n C dX5_match_4 1 rfl rfl ?_
  obtain ⟨z5, h5, hf⟩ := bi hf
  refine n_callV (As := [.int x1]) (rest := []) (w2 := [(aX, .inr (5, [.ref (aL 0), .ref (aS 0), .ref (aG 0), .ref (aH 0), .ref (aB 0), .ref (aV 0), .ref (aU 0)]))] ++ (bX4 cyI aS oS ++ (bX3 cyI aG oG ++ (bX1 cyI aL oL ++ (bX4 cyI aU oU ++ (bX1 cyI aV oV ++ (bX2 cyI aB oB ++ bHS cyI cyO aH oH))))))) C dX5_match_5 (c1_hasMatch l D cyI cyO cyJ aL n oL x1 z5 h5) (cwV 1 C.ts gX5_match_X1_hasMatch rfl rfl rfl (by decide +kernel) ⟨Nat.le_of_ble_eq_true rfl, Nat.le_of_ble_eq_true rfl⟩) rfl (q0 := 0) (ci := 1) rfl rfl (Frm.skip (Frm.skip (Frm.skip Frm.here))) rfl (Nat.le_of_ble_eq_true rfl) ⟨Nat.le_of_ble_eq_true rfl, Nat.le_of_ble_eq_true rfl⟩ rfl ?_
  refine n_if_ne (t := 21) C dX5_match_8 (by decide) rfl (fun h8 => ?_) (fun h8 => ?_)
  · have hf := iq h8 hf
    refine n_iload_n C dX5_match_21 2 rfl rfl ?_
    refine n_if_lt (t := 31) C dX5_match_22 (by decide) rfl (fun h22 => ?_) (fun h22 => ?_)
    · have hf := ip h22 hf
      cases hf
    · have hf := iq h22 hf
      refine n_iload_n C dX5_match_25 2 rfl rfl ?_
      refine n_bipush (v := (nI 9)) C dX5_match_26 (by decide) rfl ?_
      refine n_icmp_lt (t := 41) C dX5_match_28 (by decide) rfl (fun h28 => ?_) (fun h28 => ?_)
      · have hf := ip h28 hf
        refine n_aload_n C dX5_match_41 0 rfl rfl ?_
        refine n_get (N := 7) C dX5_match_42 iw5n_match_X5 0 rfl rfl 0 (by decide) (List.mem_of_getElem? (i := 5) rfl) rfl rfl rfl ?_
        refine n_iload_n C dX5_match_45 1 rfl rfl ?_
        refine n_iload_n C dX5_match_46 2 rfl rfl ?_
        obtain ⟨z47, h47, hf⟩ := bi hf
        refine n_callV (As := [.int x1, .int x2]) (rest := []) (w2 := [(aX, .inr (5, [.ref (aL 0), .ref (aS 0), .ref (aG 0), .ref (aH 0), .ref (aB 0), .ref (aV 0), .ref (aU 0)]))] ++ (bX4 cyI aS oS ++ (bX3 cyI aG oG ++ (bX1 cyI aL oL ++ (bX4 cyI aU oU ++ (bX1 cyI aV oV ++ (bX2 cyI aB oB ++ bHS cyI cyO aH oH))))))) C dX5_match_47 (c1_property l D cyI cyO cyJ aL n oL x1 x2 z47 h47) (cwV 2 C.ts gX5_match_X1_property rfl rfl rfl (by decide +kernel) ⟨Nat.le_of_ble_eq_true rfl, Nat.le_of_ble_eq_true rfl⟩) rfl (q0 := 0) (ci := 1) rfl rfl (Frm.skip (Frm.skip (Frm.skip Frm.here))) rfl (Nat.le_of_ble_eq_true rfl) ⟨Nat.le_of_ble_eq_true rfl, Nat.le_of_ble_eq_true rfl⟩ rfl ?_
        obtain rfl := Option.some.inj hf
        exact n_iret C dX5_match_50
      · have hf := iq h28 hf
        cases hf
  · have hf := ip h8 hf
    cases hf
-- X5 team 
theorem iw5n_team_X5 : ∀ w ∈ u_ws RX5 TX5 7, w ∈ wsX5_team := by decide +kernel
abbrev rm5n_team : Room := { frames := 4, cells := 0, slots := 0, locals := 92 }
def f5n_team (n : Nat) (oS : OB) (oG : OB) (oL : OB) (oU : OB) (oV : OB) (oB : OB) (oH : HS) (x1 : Int32) (x2 : Int32) : Option (Int32 × (OB)) :=
  (f1_hasTeam n oL x1).bind fun z5 => (if z5 = (0 : Int32) then none else (if x2 < (0 : Int32) then none else (if x2 < (nI 9) then (f4_countUp n oS oL).bind fun z49 => (f4_property n z49 x1 x2).bind fun z58 => some (z58, z49) else none)))
set_option maxHeartbeats 4000000 in
set_option maxRecDepth 100000 in
theorem c5n_team (l : Launch) (D : va_G) (cyI cyO cyJ : ClassId) (aX : Nat) (aS : Nat → Nat) (aG : Nat → Nat) (aL : Nat → Nat) (aU : Nat → Nat) (aV : Nat → Nat) (aB : Nat → Nat) (aH : Nat → Nat) (n : Nat) (oS : OB) (oG : OB) (oL : OB) (oU : OB) (oV : OB) (oB : OB) (oH : HS) (x1 : Int32) (x2 : Int32) (z : Int32 × (OB)) (hf : f5n_team n oS oG oL oU oV oB oH x1 x2 = some z) : Ct l D (tyG cyI cyO cyJ) yX5_team wsX5_team rm5n_team 0 0 [.ref aX, .int x1, .int x2] ([(aX, .inr (5, [.ref (aL 0), .ref (aS 0), .ref (aG 0), .ref (aH 0), .ref (aB 0), .ref (aV 0), .ref (aU 0)]))] ++ (bX4 cyI aS oS ++ (bX3 cyI aG oG ++ (bX1 cyI aL oL ++ (bX4 cyI aU oU ++ (bX1 cyI aV oV ++ (bX2 cyI aB oB ++ bHS cyI cyO aH oH))))))) ([(aX, .inr (5, [.ref (aL 0), .ref (aS 0), .ref (aG 0), .ref (aH 0), .ref (aB 0), .ref (aV 0), .ref (aU 0)]))] ++ (bX4 cyI aS z.2 ++ (bX3 cyI aG oG ++ (bX1 cyI aL oL ++ (bX4 cyI aU oU ++ (bX1 cyI aV oV ++ (bX2 cyI aB oB ++ bHS cyI cyO aH oH))))))) (some (.int z.1)) := by
  refine Ct.of (cc := cX5_team) (nL := 3) (ret := (some .int)) (lv := [(0, .ref aX), (1, .int x1), (2, .int x2)]) (by decide +kernel) rfl rfl (Nat.le_of_ble_eq_true rfl) ?_
  intro p e s m args below meth c A C
  have C : Cx p s m args meth c D (tyG cyI cyO cyJ) A RX5 cX5_team 3 (some .int) wsX5_team := C
  unfold f5n_team at hf
  refine n_aload_n C dX5_team_0 0 rfl rfl ?_
  refine n_get (N := 7) C dX5_team_1 iw5n_team_X5 0 rfl rfl 0 (by decide) (List.mem_of_getElem? (i := 5) rfl) rfl rfl rfl ?_
  refine n_iload_n C dX5_team_4 1 rfl rfl ?_
  obtain ⟨z5, h5, hf⟩ := bi hf
  refine n_callV (As := [.int x1]) (rest := []) (w2 := [(aX, .inr (5, [.ref (aL 0), .ref (aS 0), .ref (aG 0), .ref (aH 0), .ref (aB 0), .ref (aV 0), .ref (aU 0)]))] ++ (bX4 cyI aS oS ++ (bX3 cyI aG oG ++ (bX1 cyI aL oL ++ (bX4 cyI aU oU ++ (bX1 cyI aV oV ++ (bX2 cyI aB oB ++ bHS cyI cyO aH oH))))))) C dX5_team_5 (c1_hasTeam l D cyI cyO cyJ aL n oL x1 z5 h5) (cwV 1 C.ts gX5_team_X1_hasTeam rfl rfl rfl (by decide +kernel) ⟨Nat.le_of_ble_eq_true rfl, Nat.le_of_ble_eq_true rfl⟩) rfl (q0 := 0) (ci := 1) rfl rfl (Frm.skip (Frm.skip (Frm.skip Frm.here))) rfl (Nat.le_of_ble_eq_true rfl) ⟨Nat.le_of_ble_eq_true rfl, Nat.le_of_ble_eq_true rfl⟩ rfl ?_
  refine n_if_ne (t := 21) C dX5_team_8 (by decide) rfl (fun h8 => ?_) (fun h8 => ?_)
  · have hf := iq h8 hf
    refine n_iload_n C dX5_team_21 2 rfl rfl ?_
    refine n_if_lt (t := 31) C dX5_team_22 (by decide) rfl (fun h22 => ?_) (fun h22 => ?_)
    · have hf := ip h22 hf
      cases hf
    · have hf := iq h22 hf
      refine n_iload_n C dX5_team_25 2 rfl rfl ?_
      refine n_bipush (v := (nI 9)) C dX5_team_26 (by decide) rfl ?_
      refine n_icmp_lt (t := 41) C dX5_team_28 (by decide) rfl (fun h28 => ?_) (fun h28 => ?_)
      · have hf := ip h28 hf
        refine n_aload_n C dX5_team_41 0 rfl rfl ?_
        refine n_get (N := 7) C dX5_team_42 iw5n_team_X5 0 rfl rfl 1 (by decide) (List.mem_of_getElem? (i := 6) rfl) rfl rfl rfl ?_
        refine n_aload_n C dX5_team_45 0 rfl rfl ?_
        refine n_get (N := 7) C dX5_team_46 iw5n_team_X5 0 rfl rfl 0 (by decide) (List.mem_of_getElem? (i := 5) rfl) rfl rfl rfl ?_
        obtain ⟨z49, h49, hf⟩ := bi hf
        refine n_callV (As := [.ref (aL 0)]) (rest := []) (w2 := [(aX, .inr (5, [.ref (aL 0), .ref (aS 0), .ref (aG 0), .ref (aH 0), .ref (aB 0), .ref (aV 0), .ref (aU 0)]))] ++ (bX4 cyI aS z49 ++ (bX3 cyI aG oG ++ (bX1 cyI aL oL ++ (bX4 cyI aU oU ++ (bX1 cyI aV oV ++ (bX2 cyI aB oB ++ bHS cyI cyO aH oH))))))) C dX5_team_49 (c4_countUp l D cyI cyO cyJ aS aL n oS oL z49 h49) (cwV 1 C.ts gX5_team_X4_countUp rfl rfl rfl (by decide +kernel) ⟨Nat.le_of_ble_eq_true rfl, Nat.le_of_ble_eq_true rfl⟩) rfl (q0 := 0) (ci := 4) rfl rfl (Frm.skip (Frm.take (Frm.skip Frm.here))) rfl (Nat.le_of_ble_eq_true rfl) ⟨Nat.le_of_ble_eq_true rfl, Nat.le_of_ble_eq_true rfl⟩ rfl ?_
        refine n_aload_n C dX5_team_52 0 rfl rfl ?_
        refine n_get (N := 7) C dX5_team_53 iw5n_team_X5 0 rfl rfl 1 (by decide) (List.mem_of_getElem? (i := 6) rfl) rfl rfl rfl ?_
        refine n_iload_n C dX5_team_56 1 rfl rfl ?_
        refine n_iload_n C dX5_team_57 2 rfl rfl ?_
        obtain ⟨z58, h58, hf⟩ := bi hf
        refine n_callV (As := [.int x1, .int x2]) (rest := []) (w2 := [(aX, .inr (5, [.ref (aL 0), .ref (aS 0), .ref (aG 0), .ref (aH 0), .ref (aB 0), .ref (aV 0), .ref (aU 0)]))] ++ (bX4 cyI aS z49 ++ (bX3 cyI aG oG ++ (bX1 cyI aL oL ++ (bX4 cyI aU oU ++ (bX1 cyI aV oV ++ (bX2 cyI aB oB ++ bHS cyI cyO aH oH))))))) C dX5_team_58 (c4_property l D cyI cyO cyJ aS n z49 x1 x2 z58 h58) (cwV 2 C.ts gX5_team_X4_property rfl rfl rfl (by decide +kernel) ⟨Nat.le_of_ble_eq_true rfl, Nat.le_of_ble_eq_true rfl⟩) rfl (q0 := 0) (ci := 4) rfl rfl (Frm.skip Frm.here) rfl (Nat.le_of_ble_eq_true rfl) ⟨Nat.le_of_ble_eq_true rfl, Nat.le_of_ble_eq_true rfl⟩ rfl ?_
        obtain rfl := Option.some.inj hf
        exact n_iret C dX5_team_61
      · have hf := iq h28 hf
        cases hf
  · have hf := ip h8 hf
    cases hf
-- X5 table 
theorem iw5n_table_X5 : ∀ w ∈ u_ws RX5 TX5 7, w ∈ wsX5_table := by decide +kernel
abbrev rm5n_table : Room := { frames := 4, cells := 0, slots := 0, locals := 92 }
def f5n_table (n : Nat) (oS : OB) (oG : OB) (oL : OB) (oU : OB) (oV : OB) (oB : OB) (oH : HS) (x1 : Int32) : Option (Int32 × (OB)) :=
  (if (0 : Int32) ≤ x1 then (f4_countUp n oS oL).bind fun z22 => (f4_teamAt n z22 x1).bind fun z30 => some (z30, z22) else none)
set_option maxHeartbeats 4000000 in
set_option maxRecDepth 100000 in
theorem c5n_table (l : Launch) (D : va_G) (cyI cyO cyJ : ClassId) (aX : Nat) (aS : Nat → Nat) (aG : Nat → Nat) (aL : Nat → Nat) (aU : Nat → Nat) (aV : Nat → Nat) (aB : Nat → Nat) (aH : Nat → Nat) (n : Nat) (oS : OB) (oG : OB) (oL : OB) (oU : OB) (oV : OB) (oB : OB) (oH : HS) (x1 : Int32) (z : Int32 × (OB)) (hf : f5n_table n oS oG oL oU oV oB oH x1 = some z) : Ct l D (tyG cyI cyO cyJ) yX5_table wsX5_table rm5n_table 0 0 [.ref aX, .int x1] ([(aX, .inr (5, [.ref (aL 0), .ref (aS 0), .ref (aG 0), .ref (aH 0), .ref (aB 0), .ref (aV 0), .ref (aU 0)]))] ++ (bX4 cyI aS oS ++ (bX3 cyI aG oG ++ (bX1 cyI aL oL ++ (bX4 cyI aU oU ++ (bX1 cyI aV oV ++ (bX2 cyI aB oB ++ bHS cyI cyO aH oH))))))) ([(aX, .inr (5, [.ref (aL 0), .ref (aS 0), .ref (aG 0), .ref (aH 0), .ref (aB 0), .ref (aV 0), .ref (aU 0)]))] ++ (bX4 cyI aS z.2 ++ (bX3 cyI aG oG ++ (bX1 cyI aL oL ++ (bX4 cyI aU oU ++ (bX1 cyI aV oV ++ (bX2 cyI aB oB ++ bHS cyI cyO aH oH))))))) (some (.int z.1)) := by
  refine Ct.of (cc := cX5_table) (nL := 2) (ret := (some .int)) (lv := [(0, .ref aX), (1, .int x1)]) (by decide +kernel) rfl rfl (Nat.le_of_ble_eq_true rfl) ?_
  intro p e s m args below meth c A C
  have C : Cx p s m args meth c D (tyG cyI cyO cyJ) A RX5 cX5_table 2 (some .int) wsX5_table := C
  unfold f5n_table at hf
  refine n_iload_n C dX5_table_0 1 rfl rfl ?_
  refine n_if_ge (t := 14) C dX5_table_1 (by decide) rfl (fun h1 => ?_) (fun h1 => ?_)
  · have hf := ip h1 hf
    refine n_aload_n C dX5_table_14 0 rfl rfl ?_
    refine n_get (N := 7) C dX5_table_15 iw5n_table_X5 0 rfl rfl 1 (by decide) (List.mem_of_getElem? (i := 3) rfl) rfl rfl rfl ?_
    refine n_aload_n C dX5_table_18 0 rfl rfl ?_
    refine n_get (N := 7) C dX5_table_19 iw5n_table_X5 0 rfl rfl 0 (by decide) (List.mem_of_getElem? (i := 4) rfl) rfl rfl rfl ?_
    obtain ⟨z22, h22, hf⟩ := bi hf
    refine n_callV (As := [.ref (aL 0)]) (rest := []) (w2 := [(aX, .inr (5, [.ref (aL 0), .ref (aS 0), .ref (aG 0), .ref (aH 0), .ref (aB 0), .ref (aV 0), .ref (aU 0)]))] ++ (bX4 cyI aS z22 ++ (bX3 cyI aG oG ++ (bX1 cyI aL oL ++ (bX4 cyI aU oU ++ (bX1 cyI aV oV ++ (bX2 cyI aB oB ++ bHS cyI cyO aH oH))))))) C dX5_table_22 (c4_countUp l D cyI cyO cyJ aS aL n oS oL z22 h22) (cwV 1 C.ts gX5_table_X4_countUp rfl rfl rfl (by decide +kernel) ⟨Nat.le_of_ble_eq_true rfl, Nat.le_of_ble_eq_true rfl⟩) rfl (q0 := 0) (ci := 4) rfl rfl (Frm.skip (Frm.take (Frm.skip Frm.here))) rfl (Nat.le_of_ble_eq_true rfl) ⟨Nat.le_of_ble_eq_true rfl, Nat.le_of_ble_eq_true rfl⟩ rfl ?_
    refine n_aload_n C dX5_table_25 0 rfl rfl ?_
    refine n_get (N := 7) C dX5_table_26 iw5n_table_X5 0 rfl rfl 1 (by decide) (List.mem_of_getElem? (i := 3) rfl) rfl rfl rfl ?_
    refine n_iload_n C dX5_table_29 1 rfl rfl ?_
    obtain ⟨z30, h30, hf⟩ := bi hf
    refine n_callV (As := [.int x1]) (rest := []) (w2 := [(aX, .inr (5, [.ref (aL 0), .ref (aS 0), .ref (aG 0), .ref (aH 0), .ref (aB 0), .ref (aV 0), .ref (aU 0)]))] ++ (bX4 cyI aS z22 ++ (bX3 cyI aG oG ++ (bX1 cyI aL oL ++ (bX4 cyI aU oU ++ (bX1 cyI aV oV ++ (bX2 cyI aB oB ++ bHS cyI cyO aH oH))))))) C dX5_table_30 (c4_teamAt l D cyI cyO cyJ aS n z22 x1 z30 h30) (cwV 1 C.ts gX5_table_X4_teamAt rfl rfl rfl (by decide +kernel) ⟨Nat.le_of_ble_eq_true rfl, Nat.le_of_ble_eq_true rfl⟩) rfl (q0 := 0) (ci := 4) rfl rfl (Frm.skip Frm.here) rfl (Nat.le_of_ble_eq_true rfl) ⟨Nat.le_of_ble_eq_true rfl, Nat.le_of_ble_eq_true rfl⟩ rfl ?_
    obtain rfl := Option.some.inj hf
    exact n_iret C dX5_table_33
  · have hf := iq h1 hf
    cases hf
-- X5 busy 
theorem iw5n_busy_X1 : ∀ w ∈ u_ws RX1 TX1 15, w ∈ wsX5_busy := by decide +kernel
theorem iw5n_busy_X5 : ∀ w ∈ u_ws RX5 TX5 7, w ∈ wsX5_busy := by decide +kernel
abbrev rm5n_busy : Room := { frames := 1, cells := 0, slots := 0, locals := 24 }
def f5n_busy (n : Nat) (oS : OB) (oG : OB) (oL : OB) (oU : OB) (oV : OB) (oB : OB) (oH : HS) (x1 : Int32) (x2 : Int32) : Option (Int32) :=
  (if x1 < (0 : Int32) then none else (if x1 < (oL.1 1) then (f5_isVenueOrSetter n x2).bind fun z26 => (if z26 = (0 : Int32) then none else (if (nI 6) ≤ x2 then (f1_matchInRound_s n oL x1 (x2 - (nI 6))).bind fun z81 => some z81 else (f1_matchInRound_v n oL x1 x2).bind fun z61 => some z61)) else none))
set_option maxHeartbeats 4000000 in
set_option maxRecDepth 100000 in
theorem c5n_busy (l : Launch) (D : va_G) (cyI cyO cyJ : ClassId) (aX : Nat) (aS : Nat → Nat) (aG : Nat → Nat) (aL : Nat → Nat) (aU : Nat → Nat) (aV : Nat → Nat) (aB : Nat → Nat) (aH : Nat → Nat) (n : Nat) (oS : OB) (oG : OB) (oL : OB) (oU : OB) (oV : OB) (oB : OB) (oH : HS) (x1 : Int32) (x2 : Int32) (z : Int32) (hf : f5n_busy n oS oG oL oU oV oB oH x1 x2 = some z) : Ct l D (tyG cyI cyO cyJ) yX5_busy wsX5_busy rm5n_busy 0 0 [.ref aX, .int x1, .int x2] ([(aX, .inr (5, [.ref (aL 0), .ref (aS 0), .ref (aG 0), .ref (aH 0), .ref (aB 0), .ref (aV 0), .ref (aU 0)]))] ++ (bX4 cyI aS oS ++ (bX3 cyI aG oG ++ (bX1 cyI aL oL ++ (bX4 cyI aU oU ++ (bX1 cyI aV oV ++ (bX2 cyI aB oB ++ bHS cyI cyO aH oH))))))) ([(aX, .inr (5, [.ref (aL 0), .ref (aS 0), .ref (aG 0), .ref (aH 0), .ref (aB 0), .ref (aV 0), .ref (aU 0)]))] ++ (bX4 cyI aS oS ++ (bX3 cyI aG oG ++ (bX1 cyI aL oL ++ (bX4 cyI aU oU ++ (bX1 cyI aV oV ++ (bX2 cyI aB oB ++ bHS cyI cyO aH oH))))))) (some (.int z)) := by
  refine Ct.of (cc := cX5_busy) (nL := 3) (ret := (some .int)) (lv := [(0, .ref aX), (1, .int x1), (2, .int x2)]) (by decide +kernel) rfl rfl (Nat.le_of_ble_eq_true rfl) ?_
  intro p e s m args below meth c A C
  have C : Cx p s m args meth c D (tyG cyI cyO cyJ) A RX5 cX5_busy 3 (some .int) wsX5_busy := C
  unfold f5n_busy at hf
  refine n_iload_n C dX5_busy_0 1 rfl rfl ?_
  refine n_if_lt (t := 15) C dX5_busy_1 (by decide) rfl (fun h1 => ?_) (fun h1 => ?_)
  · have hf := ip h1 hf
    cases hf
  · have hf := iq h1 hf
    refine n_iload_n C dX5_busy_4 1 rfl rfl ?_
    refine n_aload_n C dX5_busy_5 0 rfl rfl ?_
    refine n_get (N := 7) C dX5_busy_6 iw5n_busy_X5 0 rfl rfl 0 (by decide) (List.mem_of_getElem? (i := 5) rfl) rfl rfl rfl ?_
    refine n_get (N := 15) C dX5_busy_9 iw5n_busy_X1 15 rfl rfl 1 (by decide) (List.mem_of_getElem? (i := 6) rfl) rfl rfl rfl ?_
    refine n_icmp_lt (t := 25) C dX5_busy_12 (by decide) rfl (fun h12 => ?_) (fun h12 => ?_)
    · have hf := ip h12 hf
      refine n_iload_n C dX5_busy_25 2 rfl rfl ?_
      obtain ⟨z26, h26, hf⟩ := bi hf
      refine n_callS (As := [.int x2]) (rest := []) (w2 := [(aX, .inr (5, [.ref (aL 0), .ref (aS 0), .ref (aG 0), .ref (aH 0), .ref (aB 0), .ref (aV 0), .ref (aU 0)]))] ++ (bX4 cyI aS oS ++ (bX3 cyI aG oG ++ (bX1 cyI aL oL ++ (bX4 cyI aU oU ++ (bX1 cyI aV oV ++ (bX2 cyI aB oB ++ bHS cyI cyO aH oH))))))) C dX5_busy_26 (c5_isVenueOrSetter l D cyI cyO cyJ  n x2 z26 h26) (va_cwS 1 C.ts gX5_busy_X5_isVenueOrSetter rfl rfl rfl (by decide +kernel) ⟨Nat.le_of_ble_eq_true rfl, Nat.le_of_ble_eq_true rfl⟩) rfl Frm.none rfl (Nat.le_of_ble_eq_true rfl) ⟨Nat.le_of_ble_eq_true rfl, Nat.le_of_ble_eq_true rfl⟩ rfl ?_
      refine n_if_ne (t := 42) C dX5_busy_29 (by decide) rfl (fun h29 => ?_) (fun h29 => ?_)
      · have hf := iq h29 hf
        refine n_iload_n C dX5_busy_42 2 rfl rfl ?_
        refine n_bipush (v := (nI 6)) C dX5_busy_43 (by decide) rfl ?_
        refine n_icmp_ge (t := 65) C dX5_busy_45 (by decide) rfl (fun h45 => ?_) (fun h45 => ?_)
        · have hf := ip h45 hf
          refine n_aload_n C dX5_busy_65 0 rfl rfl ?_
          refine n_get (N := 7) C dX5_busy_66 iw5n_busy_X5 0 rfl rfl 0 (by decide) (List.mem_of_getElem? (i := 5) rfl) rfl rfl rfl ?_
          refine n_iload_n C dX5_busy_69 1 rfl rfl ?_
          refine n_aload_n C dX5_busy_70 0 rfl rfl ?_
          refine n_get (N := 7) C dX5_busy_71 iw5n_busy_X5 0 rfl rfl 0 (by decide) (List.mem_of_getElem? (i := 5) rfl) rfl rfl rfl ?_
          refine n_get (N := 15) C dX5_busy_74 iw5n_busy_X1 15 rfl rfl 10 (by decide) (List.mem_of_getElem? (i := 8) rfl) rfl rfl rfl ?_
          refine n_iload_n C dX5_busy_77 2 rfl rfl ?_
          refine n_bipush (v := (nI 6)) C dX5_busy_78 (by decide) rfl ?_
          refine n_isub C dX5_busy_80 rfl ?_
          obtain ⟨z81, h81, hf⟩ := bi hf
          refine n_callV (As := [.int x1, .ref (aL 11), .int (x2 - (nI 6))]) (rest := []) (w2 := [(aX, .inr (5, [.ref (aL 0), .ref (aS 0), .ref (aG 0), .ref (aH 0), .ref (aB 0), .ref (aV 0), .ref (aU 0)]))] ++ (bX4 cyI aS oS ++ (bX3 cyI aG oG ++ (bX1 cyI aL oL ++ (bX4 cyI aU oU ++ (bX1 cyI aV oV ++ (bX2 cyI aB oB ++ bHS cyI cyO aH oH))))))) C dX5_busy_81 (c1_matchInRound_s l D cyI cyO cyJ aL n oL x1 (x2 - (nI 6)) z81 h81) (cwV 3 C.ts gX5_busy_X1_matchInRound rfl rfl rfl (by decide +kernel) ⟨Nat.le_of_ble_eq_true rfl, Nat.le_of_ble_eq_true rfl⟩) rfl (q0 := 0) (ci := 1) rfl rfl (Frm.skip (Frm.skip (Frm.skip Frm.here))) rfl (Nat.le_of_ble_eq_true rfl) ⟨Nat.le_of_ble_eq_true rfl, Nat.le_of_ble_eq_true rfl⟩ rfl ?_
          obtain rfl := Option.some.inj hf
          exact n_iret C dX5_busy_84
        · have hf := iq h45 hf
          refine n_aload_n C dX5_busy_48 0 rfl rfl ?_
          refine n_get (N := 7) C dX5_busy_49 iw5n_busy_X5 0 rfl rfl 0 (by decide) (List.mem_of_getElem? (i := 5) rfl) rfl rfl rfl ?_
          refine n_iload_n C dX5_busy_52 1 rfl rfl ?_
          refine n_aload_n C dX5_busy_53 0 rfl rfl ?_
          refine n_get (N := 7) C dX5_busy_54 iw5n_busy_X5 0 rfl rfl 0 (by decide) (List.mem_of_getElem? (i := 5) rfl) rfl rfl rfl ?_
          refine n_get (N := 15) C dX5_busy_57 iw5n_busy_X1 15 rfl rfl 9 (by decide) (List.mem_of_getElem? (i := 7) rfl) rfl rfl rfl ?_
          refine n_iload_n C dX5_busy_60 2 rfl rfl ?_
          obtain ⟨z61, h61, hf⟩ := bi hf
          refine n_callV (As := [.int x1, .ref (aL 10), .int x2]) (rest := []) (w2 := [(aX, .inr (5, [.ref (aL 0), .ref (aS 0), .ref (aG 0), .ref (aH 0), .ref (aB 0), .ref (aV 0), .ref (aU 0)]))] ++ (bX4 cyI aS oS ++ (bX3 cyI aG oG ++ (bX1 cyI aL oL ++ (bX4 cyI aU oU ++ (bX1 cyI aV oV ++ (bX2 cyI aB oB ++ bHS cyI cyO aH oH))))))) C dX5_busy_61 (c1_matchInRound_v l D cyI cyO cyJ aL n oL x1 x2 z61 h61) (cwV 3 C.ts gX5_busy_X1_matchInRound rfl rfl rfl (by decide +kernel) ⟨Nat.le_of_ble_eq_true rfl, Nat.le_of_ble_eq_true rfl⟩) rfl (q0 := 0) (ci := 1) rfl rfl (Frm.skip (Frm.skip (Frm.skip Frm.here))) rfl (Nat.le_of_ble_eq_true rfl) ⟨Nat.le_of_ble_eq_true rfl, Nat.le_of_ble_eq_true rfl⟩ rfl ?_
          obtain rfl := Option.some.inj hf
          exact n_iret C dX5_busy_64
      · have hf := ip h29 hf
        cases hf
    · have hf := iq h12 hf
      cases hf
-- X5 count 
theorem iw5n_count_X5 : ∀ w ∈ u_ws RX5 TX5 7, w ∈ wsX5_count := by decide +kernel
abbrev rm5n_count : Room := { frames := 4, cells := 0, slots := 0, locals := 92 }
def f5n_count (n : Nat) (oS : OB) (oG : OB) (oL : OB) (oU : OB) (oV : OB) (oB : OB) (oH : HS) (x1 : Int32) : Option (Int32 × (OB)) :=
  (if x1 < (0 : Int32) then none else (if x1 < (nI 10) then (f4_countUp n oS oL).bind fun z28 => (f5_number n z28 oG oL oU oV oB oH x1).bind fun z33 => some (z33, z28) else none))
set_option maxHeartbeats 4000000 in
set_option maxRecDepth 100000 in
theorem c5n_count (l : Launch) (D : va_G) (cyI cyO cyJ : ClassId) (aX : Nat) (aS : Nat → Nat) (aG : Nat → Nat) (aL : Nat → Nat) (aU : Nat → Nat) (aV : Nat → Nat) (aB : Nat → Nat) (aH : Nat → Nat) (n : Nat) (oS : OB) (oG : OB) (oL : OB) (oU : OB) (oV : OB) (oB : OB) (oH : HS) (x1 : Int32) (z : Int32 × (OB)) (hf : f5n_count n oS oG oL oU oV oB oH x1 = some z) : Ct l D (tyG cyI cyO cyJ) yX5_count wsX5_count rm5n_count 0 0 [.ref aX, .int x1] ([(aX, .inr (5, [.ref (aL 0), .ref (aS 0), .ref (aG 0), .ref (aH 0), .ref (aB 0), .ref (aV 0), .ref (aU 0)]))] ++ (bX4 cyI aS oS ++ (bX3 cyI aG oG ++ (bX1 cyI aL oL ++ (bX4 cyI aU oU ++ (bX1 cyI aV oV ++ (bX2 cyI aB oB ++ bHS cyI cyO aH oH))))))) ([(aX, .inr (5, [.ref (aL 0), .ref (aS 0), .ref (aG 0), .ref (aH 0), .ref (aB 0), .ref (aV 0), .ref (aU 0)]))] ++ (bX4 cyI aS z.2 ++ (bX3 cyI aG oG ++ (bX1 cyI aL oL ++ (bX4 cyI aU oU ++ (bX1 cyI aV oV ++ (bX2 cyI aB oB ++ bHS cyI cyO aH oH))))))) (some (.int z.1)) := by
  refine Ct.of (cc := cX5_count) (nL := 2) (ret := (some .int)) (lv := [(0, .ref aX), (1, .int x1)]) (by decide +kernel) rfl rfl (Nat.le_of_ble_eq_true rfl) ?_
  intro p e s m args below meth c A C
  have C : Cx p s m args meth c D (tyG cyI cyO cyJ) A RX5 cX5_count 2 (some .int) wsX5_count := C
  unfold f5n_count at hf
  refine n_iload_n C dX5_count_0 1 rfl rfl ?_
  refine n_if_lt (t := 10) C dX5_count_1 (by decide) rfl (fun h1 => ?_) (fun h1 => ?_)
  · have hf := ip h1 hf
    cases hf
  · have hf := iq h1 hf
    refine n_iload_n C dX5_count_4 1 rfl rfl ?_
    refine n_bipush (v := (nI 10)) C dX5_count_5 (by decide) rfl ?_
    refine n_icmp_lt (t := 20) C dX5_count_7 (by decide) rfl (fun h7 => ?_) (fun h7 => ?_)
    · have hf := ip h7 hf
      refine n_aload_n C dX5_count_20 0 rfl rfl ?_
      refine n_get (N := 7) C dX5_count_21 iw5n_count_X5 0 rfl rfl 1 (by decide) (List.mem_of_getElem? (i := 3) rfl) rfl rfl rfl ?_
      refine n_aload_n C dX5_count_24 0 rfl rfl ?_
      refine n_get (N := 7) C dX5_count_25 iw5n_count_X5 0 rfl rfl 0 (by decide) (List.mem_of_getElem? (i := 4) rfl) rfl rfl rfl ?_
      obtain ⟨z28, h28, hf⟩ := bi hf
      refine n_callV (As := [.ref (aL 0)]) (rest := []) (w2 := [(aX, .inr (5, [.ref (aL 0), .ref (aS 0), .ref (aG 0), .ref (aH 0), .ref (aB 0), .ref (aV 0), .ref (aU 0)]))] ++ (bX4 cyI aS z28 ++ (bX3 cyI aG oG ++ (bX1 cyI aL oL ++ (bX4 cyI aU oU ++ (bX1 cyI aV oV ++ (bX2 cyI aB oB ++ bHS cyI cyO aH oH))))))) C dX5_count_28 (c4_countUp l D cyI cyO cyJ aS aL n oS oL z28 h28) (cwV 1 C.ts gX5_count_X4_countUp rfl rfl rfl (by decide +kernel) ⟨Nat.le_of_ble_eq_true rfl, Nat.le_of_ble_eq_true rfl⟩) rfl (q0 := 0) (ci := 4) rfl rfl (Frm.skip (Frm.take (Frm.skip Frm.here))) rfl (Nat.le_of_ble_eq_true rfl) ⟨Nat.le_of_ble_eq_true rfl, Nat.le_of_ble_eq_true rfl⟩ rfl ?_
      refine n_aload_n C dX5_count_31 0 rfl rfl ?_
      refine n_iload_n C dX5_count_32 1 rfl rfl ?_
      obtain ⟨z33, h33, hf⟩ := bi hf
      refine n_callV (As := [.int x1]) (rest := []) (w2 := [(aX, .inr (5, [.ref (aL 0), .ref (aS 0), .ref (aG 0), .ref (aH 0), .ref (aB 0), .ref (aV 0), .ref (aU 0)]))] ++ (bX4 cyI aS z28 ++ (bX3 cyI aG oG ++ (bX1 cyI aL oL ++ (bX4 cyI aU oU ++ (bX1 cyI aV oV ++ (bX2 cyI aB oB ++ bHS cyI cyO aH oH))))))) C dX5_count_33 (c5_number l D cyI cyO cyJ aX aS aG aL aU aV aB aH n z28 oG oL oU oV oB oH x1 z33 h33) (cwV 1 C.ts gX5_count_X5_number rfl rfl rfl (by decide +kernel) ⟨Nat.le_of_ble_eq_true rfl, Nat.le_of_ble_eq_true rfl⟩) rfl (q0 := 0) (ci := 5) rfl rfl Frm.self rfl (Nat.le_of_ble_eq_true rfl) ⟨Nat.le_of_ble_eq_true rfl, Nat.le_of_ble_eq_true rfl⟩ rfl ?_
      obtain rfl := Option.some.inj hf
      exact n_iret C dX5_count_36
    · have hf := iq h7 hf
      cases hf
-- X5 setting 
theorem iw5n_setting_X1 : ∀ w ∈ u_ws RX1 TX1 15, w ∈ wsX5_setting := by decide +kernel
theorem iw5n_setting_X5 : ∀ w ∈ u_ws RX5 TX5 7, w ∈ wsX5_setting := by decide +kernel
abbrev rm5n_setting : Room := { frames := 0, cells := 0, slots := 0, locals := 0 }
def f5n_setting (n : Nat) (oS : OB) (oG : OB) (oL : OB) (oU : OB) (oV : OB) (oB : OB) (oH : HS) (x1 : Int32) : Option (Int32) :=
  (if x1 < (0 : Int32) then none else (if x1 < (nI 4) then (ald 4 (oL.2 3) x1).bind fun x27 => some x27 else none))
set_option maxHeartbeats 4000000 in
set_option maxRecDepth 100000 in
theorem c5n_setting (l : Launch) (D : va_G) (cyI cyO cyJ : ClassId) (aX : Nat) (aS : Nat → Nat) (aG : Nat → Nat) (aL : Nat → Nat) (aU : Nat → Nat) (aV : Nat → Nat) (aB : Nat → Nat) (aH : Nat → Nat) (n : Nat) (oS : OB) (oG : OB) (oL : OB) (oU : OB) (oV : OB) (oB : OB) (oH : HS) (x1 : Int32) (z : Int32) (hf : f5n_setting n oS oG oL oU oV oB oH x1 = some z) : Ct l D (tyG cyI cyO cyJ) yX5_setting wsX5_setting rm5n_setting 0 0 [.ref aX, .int x1] ([(aX, .inr (5, [.ref (aL 0), .ref (aS 0), .ref (aG 0), .ref (aH 0), .ref (aB 0), .ref (aV 0), .ref (aU 0)]))] ++ (bX4 cyI aS oS ++ (bX3 cyI aG oG ++ (bX1 cyI aL oL ++ (bX4 cyI aU oU ++ (bX1 cyI aV oV ++ (bX2 cyI aB oB ++ bHS cyI cyO aH oH))))))) ([(aX, .inr (5, [.ref (aL 0), .ref (aS 0), .ref (aG 0), .ref (aH 0), .ref (aB 0), .ref (aV 0), .ref (aU 0)]))] ++ (bX4 cyI aS oS ++ (bX3 cyI aG oG ++ (bX1 cyI aL oL ++ (bX4 cyI aU oU ++ (bX1 cyI aV oV ++ (bX2 cyI aB oB ++ bHS cyI cyO aH oH))))))) (some (.int z)) := by
  refine Ct.of (cc := cX5_setting) (nL := 2) (ret := (some .int)) (lv := [(0, .ref aX), (1, .int x1)]) (by decide +kernel) rfl rfl (Nat.le_of_ble_eq_true rfl) ?_
  intro p e s m args below meth c A C
  have C : Cx p s m args meth c D (tyG cyI cyO cyJ) A RX5 cX5_setting 2 (some .int) wsX5_setting := C
  unfold f5n_setting at hf
  refine n_iload_n C dX5_setting_0 1 rfl rfl ?_
  refine n_if_lt (t := 9) C dX5_setting_1 (by decide) rfl (fun h1 => ?_) (fun h1 => ?_)
  · have hf := ip h1 hf
    cases hf
  · have hf := iq h1 hf
    refine n_iload_n C dX5_setting_4 1 rfl rfl ?_
    refine n_iconst (v := (nI 4)) C dX5_setting_5 (by decide) rfl ?_
    refine n_icmp_lt (t := 19) C dX5_setting_6 (by decide) rfl (fun h6 => ?_) (fun h6 => ?_)
    · have hf := ip h6 hf
      refine n_aload_n C dX5_setting_19 0 rfl rfl ?_
      refine n_get (N := 7) C dX5_setting_20 iw5n_setting_X5 0 rfl rfl 0 (by decide) (List.mem_of_getElem? (i := 3) rfl) rfl rfl rfl ?_
      refine n_get (N := 15) C dX5_setting_23 iw5n_setting_X1 15 rfl rfl 3 (by decide) (List.mem_of_getElem? (i := 4) rfl) rfl rfl rfl ?_
      refine n_iload_n C dX5_setting_26 1 rfl rfl ?_
      obtain ⟨x27, h27, hf⟩ := bi hf
      obtain ⟨h27, e27⟩ := ald_some h27
      refine n_iald C dX5_setting_27 16 0 rfl rfl h27 rfl ?_
      rw [← e27]
      obtain rfl := Option.some.inj hf
      exact n_iret C dX5_setting_28
    · have hf := iq h6 hf
      cases hf
-- X5 meeting 
theorem iw5n_meeting_X5 : ∀ w ∈ u_ws RX5 TX5 7, w ∈ wsX5_meeting := by decide +kernel
abbrev rm5n_meeting : Room := { frames := 1, cells := 0, slots := 0, locals := 23 }
def f5n_meeting (n : Nat) (oS : OB) (oG : OB) (oL : OB) (oU : OB) (oV : OB) (oB : OB) (oH : HS) (x1 : Int32) (x2 : Int32) : Option (Int32) :=
  (f1_hasTeam n oL x1).bind fun z5 => (if z5 = (0 : Int32) then none else (f1_hasTeam n oL x2).bind fun z16 => (if z16 = (0 : Int32) then none else (if x1 = x2 then none else (f1_matchOfBoth n oL x1 x2).bind fun z53 => some z53)))
set_option maxHeartbeats 4000000 in
set_option maxRecDepth 100000 in
theorem c5n_meeting (l : Launch) (D : va_G) (cyI cyO cyJ : ClassId) (aX : Nat) (aS : Nat → Nat) (aG : Nat → Nat) (aL : Nat → Nat) (aU : Nat → Nat) (aV : Nat → Nat) (aB : Nat → Nat) (aH : Nat → Nat) (n : Nat) (oS : OB) (oG : OB) (oL : OB) (oU : OB) (oV : OB) (oB : OB) (oH : HS) (x1 : Int32) (x2 : Int32) (z : Int32) (hf : f5n_meeting n oS oG oL oU oV oB oH x1 x2 = some z) : Ct l D (tyG cyI cyO cyJ) yX5_meeting wsX5_meeting rm5n_meeting 0 0 [.ref aX, .int x1, .int x2] ([(aX, .inr (5, [.ref (aL 0), .ref (aS 0), .ref (aG 0), .ref (aH 0), .ref (aB 0), .ref (aV 0), .ref (aU 0)]))] ++ (bX4 cyI aS oS ++ (bX3 cyI aG oG ++ (bX1 cyI aL oL ++ (bX4 cyI aU oU ++ (bX1 cyI aV oV ++ (bX2 cyI aB oB ++ bHS cyI cyO aH oH))))))) ([(aX, .inr (5, [.ref (aL 0), .ref (aS 0), .ref (aG 0), .ref (aH 0), .ref (aB 0), .ref (aV 0), .ref (aU 0)]))] ++ (bX4 cyI aS oS ++ (bX3 cyI aG oG ++ (bX1 cyI aL oL ++ (bX4 cyI aU oU ++ (bX1 cyI aV oV ++ (bX2 cyI aB oB ++ bHS cyI cyO aH oH))))))) (some (.int z)) := by
  refine Ct.of (cc := cX5_meeting) (nL := 3) (ret := (some .int)) (lv := [(0, .ref aX), (1, .int x1), (2, .int x2)]) (by decide +kernel) rfl rfl (Nat.le_of_ble_eq_true rfl) ?_
  intro p e s m args below meth c A C
  have C : Cx p s m args meth c D (tyG cyI cyO cyJ) A RX5 cX5_meeting 3 (some .int) wsX5_meeting := C
  unfold f5n_meeting at hf
  refine n_aload_n C dX5_meeting_0 0 rfl rfl ?_
  refine n_get (N := 7) C dX5_meeting_1 iw5n_meeting_X5 0 rfl rfl 0 (by decide) (List.mem_of_getElem? (i := 5) rfl) rfl rfl rfl ?_
  refine n_iload_n C dX5_meeting_4 1 rfl rfl ?_
  obtain ⟨z5, h5, hf⟩ := bi hf
  refine n_callV (As := [.int x1]) (rest := []) (w2 := [(aX, .inr (5, [.ref (aL 0), .ref (aS 0), .ref (aG 0), .ref (aH 0), .ref (aB 0), .ref (aV 0), .ref (aU 0)]))] ++ (bX4 cyI aS oS ++ (bX3 cyI aG oG ++ (bX1 cyI aL oL ++ (bX4 cyI aU oU ++ (bX1 cyI aV oV ++ (bX2 cyI aB oB ++ bHS cyI cyO aH oH))))))) C dX5_meeting_5 (c1_hasTeam l D cyI cyO cyJ aL n oL x1 z5 h5) (cwV 1 C.ts gX5_meeting_X1_hasTeam rfl rfl rfl (by decide +kernel) ⟨Nat.le_of_ble_eq_true rfl, Nat.le_of_ble_eq_true rfl⟩) rfl (q0 := 0) (ci := 1) rfl rfl (Frm.skip (Frm.skip (Frm.skip Frm.here))) rfl (Nat.le_of_ble_eq_true rfl) ⟨Nat.le_of_ble_eq_true rfl, Nat.le_of_ble_eq_true rfl⟩ rfl ?_
  refine n_if_eq (t := 22) C dX5_meeting_8 (by decide) rfl (fun h8 => ?_) (fun h8 => ?_)
  · have hf := ip h8 hf
    cases hf
  · have hf := iq h8 hf
    refine n_aload_n C dX5_meeting_11 0 rfl rfl ?_
    refine n_get (N := 7) C dX5_meeting_12 iw5n_meeting_X5 0 rfl rfl 0 (by decide) (List.mem_of_getElem? (i := 5) rfl) rfl rfl rfl ?_
    refine n_iload_n C dX5_meeting_15 2 rfl rfl ?_
    obtain ⟨z16, h16, hf⟩ := bi hf
    refine n_callV (As := [.int x2]) (rest := []) (w2 := [(aX, .inr (5, [.ref (aL 0), .ref (aS 0), .ref (aG 0), .ref (aH 0), .ref (aB 0), .ref (aV 0), .ref (aU 0)]))] ++ (bX4 cyI aS oS ++ (bX3 cyI aG oG ++ (bX1 cyI aL oL ++ (bX4 cyI aU oU ++ (bX1 cyI aV oV ++ (bX2 cyI aB oB ++ bHS cyI cyO aH oH))))))) C dX5_meeting_16 (c1_hasTeam l D cyI cyO cyJ aL n oL x2 z16 h16) (cwV 1 C.ts gX5_meeting_X1_hasTeam rfl rfl rfl (by decide +kernel) ⟨Nat.le_of_ble_eq_true rfl, Nat.le_of_ble_eq_true rfl⟩) rfl (q0 := 0) (ci := 1) rfl rfl (Frm.skip (Frm.skip (Frm.skip Frm.here))) rfl (Nat.le_of_ble_eq_true rfl) ⟨Nat.le_of_ble_eq_true rfl, Nat.le_of_ble_eq_true rfl⟩ rfl ?_
    refine n_if_ne (t := 32) C dX5_meeting_19 (by decide) rfl (fun h19 => ?_) (fun h19 => ?_)
    · have hf := iq h19 hf
      refine n_iload_n C dX5_meeting_32 1 rfl rfl ?_
      refine n_iload_n C dX5_meeting_33 2 rfl rfl ?_
      refine n_icmp_ne (t := 47) C dX5_meeting_34 (by decide) rfl (fun h34 => ?_) (fun h34 => ?_)
      · have hf := iq h34 hf
        refine n_aload_n C dX5_meeting_47 0 rfl rfl ?_
        refine n_get (N := 7) C dX5_meeting_48 iw5n_meeting_X5 0 rfl rfl 0 (by decide) (List.mem_of_getElem? (i := 5) rfl) rfl rfl rfl ?_
        refine n_iload_n C dX5_meeting_51 1 rfl rfl ?_
        refine n_iload_n C dX5_meeting_52 2 rfl rfl ?_
        obtain ⟨z53, h53, hf⟩ := bi hf
        refine n_callV (As := [.int x1, .int x2]) (rest := []) (w2 := [(aX, .inr (5, [.ref (aL 0), .ref (aS 0), .ref (aG 0), .ref (aH 0), .ref (aB 0), .ref (aV 0), .ref (aU 0)]))] ++ (bX4 cyI aS oS ++ (bX3 cyI aG oG ++ (bX1 cyI aL oL ++ (bX4 cyI aU oU ++ (bX1 cyI aV oV ++ (bX2 cyI aB oB ++ bHS cyI cyO aH oH))))))) C dX5_meeting_53 (c1_matchOfBoth l D cyI cyO cyJ aL n oL x1 x2 z53 h53) (cwV 2 C.ts gX5_meeting_X1_matchOfBoth rfl rfl rfl (by decide +kernel) ⟨Nat.le_of_ble_eq_true rfl, Nat.le_of_ble_eq_true rfl⟩) rfl (q0 := 0) (ci := 1) rfl rfl (Frm.skip (Frm.skip (Frm.skip Frm.here))) rfl (Nat.le_of_ble_eq_true rfl) ⟨Nat.le_of_ble_eq_true rfl, Nat.le_of_ble_eq_true rfl⟩ rfl ?_
        obtain rfl := Option.some.inj hf
        exact n_iret C dX5_meeting_56
      · have hf := ip h34 hf
        cases hf
    · have hf := ip h19 hf
      cases hf
-- X5 bestPlace 
theorem iw5n_bestPlace_X5 : ∀ w ∈ u_ws RX5 TX5 7, w ∈ wsX5_bestPlace := by decide +kernel
abbrev rm5n_bestPlace : Room := { frames := 5, cells := 0, slots := 0, locals := 113 }
def f5n_bestPlace (n : Nat) (oS : OB) (oG : OB) (oL : OB) (oU : OB) (oV : OB) (oB : OB) (oH : HS) (x1 : Int32) : Option (Int32 × (OB) × (OB)) :=
  (f1_hasTeam n oL x1).bind fun z5 => (if z5 = (0 : Int32) then none else (f5_placeByWinningAll n oS oG oL oU oV oB oH x1).bind fun z23 => some (z23.1, z23.2.1, z23.2.2))
set_option maxHeartbeats 4000000 in
set_option maxRecDepth 100000 in
theorem c5n_bestPlace (l : Launch) (D : va_G) (cyI cyO cyJ : ClassId) (aX : Nat) (aS : Nat → Nat) (aG : Nat → Nat) (aL : Nat → Nat) (aU : Nat → Nat) (aV : Nat → Nat) (aB : Nat → Nat) (aH : Nat → Nat) (n : Nat) (oS : OB) (oG : OB) (oL : OB) (oU : OB) (oV : OB) (oB : OB) (oH : HS) (x1 : Int32) (z : Int32 × (OB) × (OB)) (hf : f5n_bestPlace n oS oG oL oU oV oB oH x1 = some z) : Ct l D (tyG cyI cyO cyJ) yX5_bestPlace wsX5_bestPlace rm5n_bestPlace 0 0 [.ref aX, .int x1] ([(aX, .inr (5, [.ref (aL 0), .ref (aS 0), .ref (aG 0), .ref (aH 0), .ref (aB 0), .ref (aV 0), .ref (aU 0)]))] ++ (bX4 cyI aS oS ++ (bX3 cyI aG oG ++ (bX1 cyI aL oL ++ (bX4 cyI aU oU ++ (bX1 cyI aV oV ++ (bX2 cyI aB oB ++ bHS cyI cyO aH oH))))))) ([(aX, .inr (5, [.ref (aL 0), .ref (aS 0), .ref (aG 0), .ref (aH 0), .ref (aB 0), .ref (aV 0), .ref (aU 0)]))] ++ (bX4 cyI aS oS ++ (bX3 cyI aG oG ++ (bX1 cyI aL oL ++ (bX4 cyI aU z.2.1 ++ (bX1 cyI aV z.2.2 ++ (bX2 cyI aB oB ++ bHS cyI cyO aH oH))))))) (some (.int z.1)) := by
  refine Ct.of (cc := cX5_bestPlace) (nL := 2) (ret := (some .int)) (lv := [(0, .ref aX), (1, .int x1)]) (by decide +kernel) rfl rfl (Nat.le_of_ble_eq_true rfl) ?_
  intro p e s m args below meth c A C
  have C : Cx p s m args meth c D (tyG cyI cyO cyJ) A RX5 cX5_bestPlace 2 (some .int) wsX5_bestPlace := C
  unfold f5n_bestPlace at hf
  refine n_aload_n C dX5_bestPlace_0 0 rfl rfl ?_
  refine n_get (N := 7) C dX5_bestPlace_1 iw5n_bestPlace_X5 0 rfl rfl 0 (by decide) (List.mem_of_getElem? (i := 3) rfl) rfl rfl rfl ?_
  refine n_iload_n C dX5_bestPlace_4 1 rfl rfl ?_
  obtain ⟨z5, h5, hf⟩ := bi hf
  refine n_callV (As := [.int x1]) (rest := []) (w2 := [(aX, .inr (5, [.ref (aL 0), .ref (aS 0), .ref (aG 0), .ref (aH 0), .ref (aB 0), .ref (aV 0), .ref (aU 0)]))] ++ (bX4 cyI aS oS ++ (bX3 cyI aG oG ++ (bX1 cyI aL oL ++ (bX4 cyI aU oU ++ (bX1 cyI aV oV ++ (bX2 cyI aB oB ++ bHS cyI cyO aH oH))))))) C dX5_bestPlace_5 (c1_hasTeam l D cyI cyO cyJ aL n oL x1 z5 h5) (cwV 1 C.ts gX5_bestPlace_X1_hasTeam rfl rfl rfl (by decide +kernel) ⟨Nat.le_of_ble_eq_true rfl, Nat.le_of_ble_eq_true rfl⟩) rfl (q0 := 0) (ci := 1) rfl rfl (Frm.skip (Frm.skip (Frm.skip Frm.here))) rfl (Nat.le_of_ble_eq_true rfl) ⟨Nat.le_of_ble_eq_true rfl, Nat.le_of_ble_eq_true rfl⟩ rfl ?_
  refine n_if_ne (t := 21) C dX5_bestPlace_8 (by decide) rfl (fun h8 => ?_) (fun h8 => ?_)
  · have hf := iq h8 hf
    refine n_aload_n C dX5_bestPlace_21 0 rfl rfl ?_
    refine n_iload_n C dX5_bestPlace_22 1 rfl rfl ?_
    obtain ⟨z23, h23, hf⟩ := bi hf
    refine n_callV (As := [.int x1]) (rest := []) (w2 := [(aX, .inr (5, [.ref (aL 0), .ref (aS 0), .ref (aG 0), .ref (aH 0), .ref (aB 0), .ref (aV 0), .ref (aU 0)]))] ++ (bX4 cyI aS oS ++ (bX3 cyI aG oG ++ (bX1 cyI aL oL ++ (bX4 cyI aU z23.2.1 ++ (bX1 cyI aV z23.2.2 ++ (bX2 cyI aB oB ++ bHS cyI cyO aH oH))))))) C dX5_bestPlace_23 (c5_placeByWinningAll l D cyI cyO cyJ aX aS aG aL aU aV aB aH n oS oG oL oU oV oB oH x1 z23 h23) (cwV 1 C.ts gX5_bestPlace_X5_placeByWinningAll rfl rfl rfl (by decide +kernel) ⟨Nat.le_of_ble_eq_true rfl, Nat.le_of_ble_eq_true rfl⟩) rfl (q0 := 0) (ci := 5) rfl rfl Frm.self rfl (Nat.le_of_ble_eq_true rfl) ⟨Nat.le_of_ble_eq_true rfl, Nat.le_of_ble_eq_true rfl⟩ rfl ?_
    obtain rfl := Option.some.inj hf
    exact n_iret C dX5_bestPlace_26
  · have hf := ip h8 hf
    cases hf
-- X5 isSure 
theorem iw5n_isSure_X1 : ∀ w ∈ u_ws RX1 TX1 15, w ∈ wsX5_isSure := by decide +kernel
theorem iw5n_isSure_X5 : ∀ w ∈ u_ws RX5 TX5 7, w ∈ wsX5_isSure := by decide +kernel
abbrev rm5n_isSure : Room := { frames := 4, cells := 0, slots := 0, locals := 92 }
def f5n_isSure (n : Nat) (oS : OB) (oG : OB) (oL : OB) (oU : OB) (oV : OB) (oB : OB) (oH : HS) (x1 : Int32) : Option (Int32 × (OB)) :=
  (f1_hasTeam n oL x1).bind fun z5 => (if z5 = (0 : Int32) then none else (f4_countUp n oS oL).bind fun z29 => (ald 4 (oL.2 3) (nI 0)).bind fun x45 => (f4_isOutOfReach n z29 x1 x45).bind fun z46 => (if z46 = (0 : Int32) then some ((nI 0), z29) else some ((nI 1), z29)))
set_option maxHeartbeats 4000000 in
set_option maxRecDepth 100000 in
theorem c5n_isSure (l : Launch) (D : va_G) (cyI cyO cyJ : ClassId) (aX : Nat) (aS : Nat → Nat) (aG : Nat → Nat) (aL : Nat → Nat) (aU : Nat → Nat) (aV : Nat → Nat) (aB : Nat → Nat) (aH : Nat → Nat) (n : Nat) (oS : OB) (oG : OB) (oL : OB) (oU : OB) (oV : OB) (oB : OB) (oH : HS) (x1 : Int32) (z : Int32 × (OB)) (hf : f5n_isSure n oS oG oL oU oV oB oH x1 = some z) : Ct l D (tyG cyI cyO cyJ) yX5_isSure wsX5_isSure rm5n_isSure 0 0 [.ref aX, .int x1] ([(aX, .inr (5, [.ref (aL 0), .ref (aS 0), .ref (aG 0), .ref (aH 0), .ref (aB 0), .ref (aV 0), .ref (aU 0)]))] ++ (bX4 cyI aS oS ++ (bX3 cyI aG oG ++ (bX1 cyI aL oL ++ (bX4 cyI aU oU ++ (bX1 cyI aV oV ++ (bX2 cyI aB oB ++ bHS cyI cyO aH oH))))))) ([(aX, .inr (5, [.ref (aL 0), .ref (aS 0), .ref (aG 0), .ref (aH 0), .ref (aB 0), .ref (aV 0), .ref (aU 0)]))] ++ (bX4 cyI aS z.2 ++ (bX3 cyI aG oG ++ (bX1 cyI aL oL ++ (bX4 cyI aU oU ++ (bX1 cyI aV oV ++ (bX2 cyI aB oB ++ bHS cyI cyO aH oH))))))) (some (.int z.1)) := by
  refine Ct.of (cc := cX5_isSure) (nL := 2) (ret := (some .int)) (lv := [(0, .ref aX), (1, .int x1)]) (by decide +kernel) rfl rfl (Nat.le_of_ble_eq_true rfl) ?_
  intro p e s m args below meth c A C
  have C : Cx p s m args meth c D (tyG cyI cyO cyJ) A RX5 cX5_isSure 2 (some .int) wsX5_isSure := C
  unfold f5n_isSure at hf
  refine n_aload_n C dX5_isSure_0 0 rfl rfl ?_
  refine n_get (N := 7) C dX5_isSure_1 iw5n_isSure_X5 0 rfl rfl 0 (by decide) (List.mem_of_getElem? (i := 3) rfl) rfl rfl rfl ?_
  refine n_iload_n C dX5_isSure_4 1 rfl rfl ?_
  obtain ⟨z5, h5, hf⟩ := bi hf
  refine n_callV (As := [.int x1]) (rest := []) (w2 := [(aX, .inr (5, [.ref (aL 0), .ref (aS 0), .ref (aG 0), .ref (aH 0), .ref (aB 0), .ref (aV 0), .ref (aU 0)]))] ++ (bX4 cyI aS oS ++ (bX3 cyI aG oG ++ (bX1 cyI aL oL ++ (bX4 cyI aU oU ++ (bX1 cyI aV oV ++ (bX2 cyI aB oB ++ bHS cyI cyO aH oH))))))) C dX5_isSure_5 (c1_hasTeam l D cyI cyO cyJ aL n oL x1 z5 h5) (cwV 1 C.ts gX5_isSure_X1_hasTeam rfl rfl rfl (by decide +kernel) ⟨Nat.le_of_ble_eq_true rfl, Nat.le_of_ble_eq_true rfl⟩) rfl (q0 := 0) (ci := 1) rfl rfl (Frm.skip (Frm.skip (Frm.skip Frm.here))) rfl (Nat.le_of_ble_eq_true rfl) ⟨Nat.le_of_ble_eq_true rfl, Nat.le_of_ble_eq_true rfl⟩ rfl ?_
  refine n_if_ne (t := 21) C dX5_isSure_8 (by decide) rfl (fun h8 => ?_) (fun h8 => ?_)
  · have hf := iq h8 hf
    refine n_aload_n C dX5_isSure_21 0 rfl rfl ?_
    refine n_get (N := 7) C dX5_isSure_22 iw5n_isSure_X5 0 rfl rfl 1 (by decide) (List.mem_of_getElem? (i := 4) rfl) rfl rfl rfl ?_
    refine n_aload_n C dX5_isSure_25 0 rfl rfl ?_
    refine n_get (N := 7) C dX5_isSure_26 iw5n_isSure_X5 0 rfl rfl 0 (by decide) (List.mem_of_getElem? (i := 3) rfl) rfl rfl rfl ?_
    obtain ⟨z29, h29, hf⟩ := bi hf
    refine n_callV (As := [.ref (aL 0)]) (rest := []) (w2 := [(aX, .inr (5, [.ref (aL 0), .ref (aS 0), .ref (aG 0), .ref (aH 0), .ref (aB 0), .ref (aV 0), .ref (aU 0)]))] ++ (bX4 cyI aS z29 ++ (bX3 cyI aG oG ++ (bX1 cyI aL oL ++ (bX4 cyI aU oU ++ (bX1 cyI aV oV ++ (bX2 cyI aB oB ++ bHS cyI cyO aH oH))))))) C dX5_isSure_29 (c4_countUp l D cyI cyO cyJ aS aL n oS oL z29 h29) (cwV 1 C.ts gX5_isSure_X4_countUp rfl rfl rfl (by decide +kernel) ⟨Nat.le_of_ble_eq_true rfl, Nat.le_of_ble_eq_true rfl⟩) rfl (q0 := 0) (ci := 4) rfl rfl (Frm.skip (Frm.take (Frm.skip Frm.here))) rfl (Nat.le_of_ble_eq_true rfl) ⟨Nat.le_of_ble_eq_true rfl, Nat.le_of_ble_eq_true rfl⟩ rfl ?_
    refine n_aload_n C dX5_isSure_32 0 rfl rfl ?_
    refine n_get (N := 7) C dX5_isSure_33 iw5n_isSure_X5 0 rfl rfl 1 (by decide) (List.mem_of_getElem? (i := 4) rfl) rfl rfl rfl ?_
    refine n_iload_n C dX5_isSure_36 1 rfl rfl ?_
    refine n_aload_n C dX5_isSure_37 0 rfl rfl ?_
    refine n_get (N := 7) C dX5_isSure_38 iw5n_isSure_X5 0 rfl rfl 0 (by decide) (List.mem_of_getElem? (i := 3) rfl) rfl rfl rfl ?_
    refine n_get (N := 15) C dX5_isSure_41 iw5n_isSure_X1 15 rfl rfl 3 (by decide) (List.mem_of_getElem? (i := 5) rfl) rfl rfl rfl ?_
    refine n_iconst (v := (nI 0)) C dX5_isSure_44 (by decide) rfl ?_
    obtain ⟨x45, h45, hf⟩ := bi hf
    obtain ⟨h45, e45⟩ := ald_some h45
    refine n_iald C dX5_isSure_45 16 0 rfl rfl h45 rfl ?_
    rw [← e45]
    obtain ⟨z46, h46, hf⟩ := bi hf
    refine n_callV (As := [.int x1, .int x45]) (rest := []) (w2 := [(aX, .inr (5, [.ref (aL 0), .ref (aS 0), .ref (aG 0), .ref (aH 0), .ref (aB 0), .ref (aV 0), .ref (aU 0)]))] ++ (bX4 cyI aS z29 ++ (bX3 cyI aG oG ++ (bX1 cyI aL oL ++ (bX4 cyI aU oU ++ (bX1 cyI aV oV ++ (bX2 cyI aB oB ++ bHS cyI cyO aH oH))))))) C dX5_isSure_46 (c4_isOutOfReach l D cyI cyO cyJ aS n z29 x1 x45 z46 h46) (cwV 2 C.ts gX5_isSure_X4_isOutOfReach rfl rfl rfl (by decide +kernel) ⟨Nat.le_of_ble_eq_true rfl, Nat.le_of_ble_eq_true rfl⟩) rfl (q0 := 0) (ci := 4) rfl rfl (Frm.skip Frm.here) rfl (Nat.le_of_ble_eq_true rfl) ⟨Nat.le_of_ble_eq_true rfl, Nat.le_of_ble_eq_true rfl⟩ rfl ?_
    refine n_if_eq (t := 56) C dX5_isSure_49 (by decide) rfl (fun h49 => ?_) (fun h49 => ?_)
    · have hf := ip h49 hf
      refine n_iconst (v := (nI 0)) C dX5_isSure_56 (by decide) rfl ?_
      obtain rfl := Option.some.inj hf
      exact n_iret C dX5_isSure_57
    · have hf := iq h49 hf
      refine n_iconst (v := (nI 1)) C dX5_isSure_52 (by decide) rfl ?_
      refine n_goto (t := 57) C dX5_isSure_53 (by decide) ?_
      obtain rfl := Option.some.inj hf
      exact n_iret C dX5_isSure_57
  · have hf := ip h8 hf
    cases hf
-- X5 ifMissing 
abbrev rm5n_ifMissing : Room := { frames := 4, cells := 0, slots := 0, locals := 98 }
def f5n_ifMissing (n : Nat) (oS : OB) (oG : OB) (oL : OB) (oU : OB) (oV : OB) (oB : OB) (oH : HS) (x1 : Int32) : Option (Int32 × (OB) × (OB)) :=
  (f5_isVenueOrSetter n x1).bind fun z1 => (if z1 = (0 : Int32) then none else (f5_assignedWithout n oS oG oL oU oV oB oH x1).bind fun z19 => some (z19.1, z19.2.1, z19.2.2))
set_option maxHeartbeats 4000000 in
set_option maxRecDepth 100000 in
theorem c5n_ifMissing (l : Launch) (D : va_G) (cyI cyO cyJ : ClassId) (aX : Nat) (aS : Nat → Nat) (aG : Nat → Nat) (aL : Nat → Nat) (aU : Nat → Nat) (aV : Nat → Nat) (aB : Nat → Nat) (aH : Nat → Nat) (n : Nat) (oS : OB) (oG : OB) (oL : OB) (oU : OB) (oV : OB) (oB : OB) (oH : HS) (x1 : Int32) (z : Int32 × (OB) × (OB)) (hf : f5n_ifMissing n oS oG oL oU oV oB oH x1 = some z) : Ct l D (tyG cyI cyO cyJ) yX5_ifMissing wsX5_ifMissing rm5n_ifMissing 0 0 [.ref aX, .int x1] ([(aX, .inr (5, [.ref (aL 0), .ref (aS 0), .ref (aG 0), .ref (aH 0), .ref (aB 0), .ref (aV 0), .ref (aU 0)]))] ++ (bX4 cyI aS oS ++ (bX3 cyI aG oG ++ (bX1 cyI aL oL ++ (bX4 cyI aU oU ++ (bX1 cyI aV oV ++ (bX2 cyI aB oB ++ bHS cyI cyO aH oH))))))) ([(aX, .inr (5, [.ref (aL 0), .ref (aS 0), .ref (aG 0), .ref (aH 0), .ref (aB 0), .ref (aV 0), .ref (aU 0)]))] ++ (bX4 cyI aS oS ++ (bX3 cyI aG z.2.1 ++ (bX1 cyI aL oL ++ (bX4 cyI aU oU ++ (bX1 cyI aV z.2.2 ++ (bX2 cyI aB oB ++ bHS cyI cyO aH oH))))))) (some (.int z.1)) := by
  refine Ct.of (cc := cX5_ifMissing) (nL := 2) (ret := (some .int)) (lv := [(0, .ref aX), (1, .int x1)]) (by decide +kernel) rfl rfl (Nat.le_of_ble_eq_true rfl) ?_
  intro p e s m args below meth c A C
  have C : Cx p s m args meth c D (tyG cyI cyO cyJ) A RX5 cX5_ifMissing 2 (some .int) wsX5_ifMissing := C
  unfold f5n_ifMissing at hf
  refine n_iload_n C dX5_ifMissing_0 1 rfl rfl ?_
  obtain ⟨z1, h1, hf⟩ := bi hf
  refine n_callS (As := [.int x1]) (rest := []) (w2 := [(aX, .inr (5, [.ref (aL 0), .ref (aS 0), .ref (aG 0), .ref (aH 0), .ref (aB 0), .ref (aV 0), .ref (aU 0)]))] ++ (bX4 cyI aS oS ++ (bX3 cyI aG oG ++ (bX1 cyI aL oL ++ (bX4 cyI aU oU ++ (bX1 cyI aV oV ++ (bX2 cyI aB oB ++ bHS cyI cyO aH oH))))))) C dX5_ifMissing_1 (c5_isVenueOrSetter l D cyI cyO cyJ  n x1 z1 h1) (va_cwS 1 C.ts gX5_ifMissing_X5_isVenueOrSetter rfl rfl rfl (by decide +kernel) ⟨Nat.le_of_ble_eq_true rfl, Nat.le_of_ble_eq_true rfl⟩) rfl Frm.none rfl (Nat.le_of_ble_eq_true rfl) ⟨Nat.le_of_ble_eq_true rfl, Nat.le_of_ble_eq_true rfl⟩ rfl ?_
  refine n_if_ne (t := 17) C dX5_ifMissing_4 (by decide) rfl (fun h4 => ?_) (fun h4 => ?_)
  · have hf := iq h4 hf
    refine n_aload_n C dX5_ifMissing_17 0 rfl rfl ?_
    refine n_iload_n C dX5_ifMissing_18 1 rfl rfl ?_
    obtain ⟨z19, h19, hf⟩ := bi hf
    refine n_callV (As := [.int x1]) (rest := []) (w2 := [(aX, .inr (5, [.ref (aL 0), .ref (aS 0), .ref (aG 0), .ref (aH 0), .ref (aB 0), .ref (aV 0), .ref (aU 0)]))] ++ (bX4 cyI aS oS ++ (bX3 cyI aG z19.2.1 ++ (bX1 cyI aL oL ++ (bX4 cyI aU oU ++ (bX1 cyI aV z19.2.2 ++ (bX2 cyI aB oB ++ bHS cyI cyO aH oH))))))) C dX5_ifMissing_19 (c5_assignedWithout l D cyI cyO cyJ aX aS aG aL aU aV aB aH n oS oG oL oU oV oB oH x1 z19 h19) (cwV 1 C.ts gX5_ifMissing_X5_assignedWithout rfl rfl rfl (by decide +kernel) ⟨Nat.le_of_ble_eq_true rfl, Nat.le_of_ble_eq_true rfl⟩) rfl (q0 := 0) (ci := 5) rfl rfl Frm.self rfl (Nat.le_of_ble_eq_true rfl) ⟨Nat.le_of_ble_eq_true rfl, Nat.le_of_ble_eq_true rfl⟩ rfl ?_
    obtain rfl := Option.some.inj hf
    exact n_iret C dX5_ifMissing_22
  · have hf := ip h4 hf
    cases hf
-- X5 score 
theorem iw5_score_X1 : ∀ w ∈ u_ws RX1 TX1 15, w ∈ wsX5_score := by decide +kernel
theorem iw5_score_X5 : ∀ w ∈ u_ws RX5 TX5 7, w ∈ wsX5_score := by decide +kernel
abbrev rm5_score : Room := { frames := 6, cells := 1, slots := 6, locals := 113 }
theorem hat5_score_54 : ∀ w ∈ (vx_atS RX5 54 "java/lang/IllegalArgumentException" nx5).filter goodWord, w ∈ wsX5_score := fun w h => List.mem_cons_of_mem _ (List.mem_append_left _ (List.mem_append_right _ h))
theorem hat5_score_73 : ∀ w ∈ (vx_atS RX5 73 "java/lang/IndexOutOfBoundsException" nx5).filter goodWord, w ∈ wsX5_score := fun w h => List.mem_cons_of_mem _ (List.mem_append_left _ (List.mem_append_left _ (List.mem_append_right _ h)))
theorem hat5_score_110 : ∀ w ∈ (vx_atS RX5 110 "java/lang/IllegalStateException" nx5).filter goodWord, w ∈ wsX5_score := fun w h => List.mem_cons_of_mem _ (List.mem_append_right _ h)
def f5_score (n : Nat) (oS : OB) (oG : OB) (oL : OB) (oU : OB) (oV : OB) (oB : OB) (oH : HS) (x1 : Int32) (x2 : Int32) (x3 : Int32) : Option ((String ⊕ Int32) × (OB) × (OB) × (HS)) :=
  (f1_hasMatch n oL x1).bind fun z5 => (if z5 = (0 : Int32) then some ((.inl "java/lang/IndexOutOfBoundsException"), oS, oL, oH) else (f5_isScore n x2).bind fun z22 => (if z22 = (0 : Int32) then some ((.inl "java/lang/IllegalArgumentException"), oS, oL, oH) else (f5_isScore n x3).bind fun z29 => (if z29 = (0 : Int32) then some ((.inl "java/lang/IllegalArgumentException"), oS, oL, oH) else (f1_canHaveResult n oL x1).bind fun z50 => (if z50 = (0 : Int32) then some ((.inl "java/lang/IllegalStateException"), oS, oL, oH) else (f0_keep n oL oH).bind fun z74 => (f1_give n oL x1 (nI 1) x2 x3).bind fun z85 => (ald 28 (z85.2 7) x1).bind fun x97 => (f5_pointsOf n oS oG z85 oU oV oB z74 x97).bind fun z98 => some ((.inr z98.1), z98.2, z85, z74)))))
set_option maxHeartbeats 4000000 in
set_option maxRecDepth 100000 in
theorem c5_score (l : Launch) (hls : l.stackTraces = false) (D : va_G) (cyI cyO cyJ : ClassId) (aX : Nat) (aS : Nat → Nat) (aG : Nat → Nat) (aL : Nat → Nat) (aU : Nat → Nat) (aV : Nat → Nat) (aB : Nat → Nat) (aH : Nat → Nat) (n : Nat) (oS : OB) (oG : OB) (oL : OB) (oU : OB) (oV : OB) (oB : OB) (oH : HS) (x1 : Int32) (x2 : Int32) (x3 : Int32) (z : (String ⊕ Int32) × (OB) × (OB) × (HS)) (hf : f5_score n oS oG oL oU oV oB oH x1 x2 x3 = some z) : Cv l D (tyG cyI cyO cyJ) yX5_score wsX5_score rm5_score [.ref aX, .int x1, .int x2, .int x3] ([(aX, .inr (5, [.ref (aL 0), .ref (aS 0), .ref (aG 0), .ref (aH 0), .ref (aB 0), .ref (aV 0), .ref (aU 0)]))] ++ (bX4 cyI aS oS ++ (bX3 cyI aG oG ++ (bX1 cyI aL oL ++ (bX4 cyI aU oU ++ (bX1 cyI aV oV ++ (bX2 cyI aB oB ++ bHS cyI cyO aH oH))))))) ([(aX, .inr (5, [.ref (aL 0), .ref (aS 0), .ref (aG 0), .ref (aH 0), .ref (aB 0), .ref (aV 0), .ref (aU 0)]))] ++ (bX4 cyI aS z.2.1 ++ (bX3 cyI aG oG ++ (bX1 cyI aL z.2.2.1 ++ (bX4 cyI aU oU ++ (bX1 cyI aV oV ++ (bX2 cyI aB oB ++ bHS cyI cyO aH z.2.2.2))))))) (oI z.1) := by
  refine Cv.of (cc := cX5_score) (nL := 4) (ret := (some .int)) (lv := [(0, .ref aX), (1, .int x1), (2, .int x2), (3, .int x3)]) (by decide +kernel) rfl rfl (Nat.le_of_ble_eq_true rfl) ?_
  intro p e s m args below meth c A C CE hte
  have C : Cx p s m args meth c D (tyG cyI cyO cyJ) A RX5 cX5_score 4 (some .int) wsX5_score := C
  unfold f5_score at hf
  refine n_aload_n C dX5_score_0 0 rfl rfl ?_
  refine n_get (N := 7) C dX5_score_1 iw5_score_X5 0 rfl rfl 0 (by decide) (List.mem_of_getElem? (i := 7) rfl) rfl rfl rfl ?_
  refine n_iload_n C dX5_score_4 1 rfl rfl ?_
  obtain ⟨z5, h5, hf⟩ := bi hf
  refine n_callV (As := [.int x1]) (rest := []) (w2 := [(aX, .inr (5, [.ref (aL 0), .ref (aS 0), .ref (aG 0), .ref (aH 0), .ref (aB 0), .ref (aV 0), .ref (aU 0)]))] ++ (bX4 cyI aS oS ++ (bX3 cyI aG oG ++ (bX1 cyI aL oL ++ (bX4 cyI aU oU ++ (bX1 cyI aV oV ++ (bX2 cyI aB oB ++ bHS cyI cyO aH oH))))))) C dX5_score_5 (c1_hasMatch l D cyI cyO cyJ aL n oL x1 z5 h5) (cwV 1 C.ts gX5_score_X1_hasMatch rfl rfl rfl (by decide +kernel) ⟨Nat.le_of_ble_eq_true rfl, Nat.le_of_ble_eq_true rfl⟩) rfl (q0 := 0) (ci := 1) rfl rfl (Frm.skip (Frm.skip (Frm.skip Frm.here))) rfl (Nat.le_of_ble_eq_true rfl) ⟨Nat.le_of_ble_eq_true rfl, Nat.le_of_ble_eq_true rfl⟩ rfl ?_
  refine n_if_ne (t := 21) C dX5_score_8 (by decide) rfl (fun h8 => ?_) (fun h8 => ?_)
  · have hf := iq h8 hf
    refine n_iload_n C dX5_score_21 2 rfl rfl ?_
    obtain ⟨z22, h22, hf⟩ := bi hf
    refine n_callS (As := [.int x2]) (rest := []) (w2 := [(aX, .inr (5, [.ref (aL 0), .ref (aS 0), .ref (aG 0), .ref (aH 0), .ref (aB 0), .ref (aV 0), .ref (aU 0)]))] ++ (bX4 cyI aS oS ++ (bX3 cyI aG oG ++ (bX1 cyI aL oL ++ (bX4 cyI aU oU ++ (bX1 cyI aV oV ++ (bX2 cyI aB oB ++ bHS cyI cyO aH oH))))))) C dX5_score_22 (c5_isScore l D cyI cyO cyJ  n x2 z22 h22) (va_cwS 1 C.ts gX5_score_X5_isScore rfl rfl rfl (by decide +kernel) ⟨Nat.le_of_ble_eq_true rfl, Nat.le_of_ble_eq_true rfl⟩) rfl Frm.none rfl (Nat.le_of_ble_eq_true rfl) ⟨Nat.le_of_ble_eq_true rfl, Nat.le_of_ble_eq_true rfl⟩ rfl ?_
    refine n_if_eq (t := 35) C dX5_score_25 (by decide) rfl (fun h25 => ?_) (fun h25 => ?_)
    · have hf := ip h25 hf
      obtain rfl := Option.some.inj hf
      exact n_throwS (text := "a score is 0 to 99") C CE hls hte dX5_score_35 dX5_score_38 dX5_score_39 dX5_score_41 dX5_score_44 (by decide +kernel) (by decide +kernel) (by decide +kernel) (List.mem_of_getElem? (i := 3) rfl) (List.mem_of_getElem? (i := 4) rfl) hat5_score_54 ng_54 og_54 (Nat.le_of_ble_eq_true rfl) (Nat.le_of_ble_eq_true rfl) (Nat.le_of_ble_eq_true rfl) (Nat.le_of_ble_eq_true rfl)
    · have hf := iq h25 hf
      refine n_iload_n C dX5_score_28 3 rfl rfl ?_
      obtain ⟨z29, h29, hf⟩ := bi hf
      refine n_callS (As := [.int x3]) (rest := []) (w2 := [(aX, .inr (5, [.ref (aL 0), .ref (aS 0), .ref (aG 0), .ref (aH 0), .ref (aB 0), .ref (aV 0), .ref (aU 0)]))] ++ (bX4 cyI aS oS ++ (bX3 cyI aG oG ++ (bX1 cyI aL oL ++ (bX4 cyI aU oU ++ (bX1 cyI aV oV ++ (bX2 cyI aB oB ++ bHS cyI cyO aH oH))))))) C dX5_score_29 (c5_isScore l D cyI cyO cyJ  n x3 z29 h29) (va_cwS 1 C.ts gX5_score_X5_isScore rfl rfl rfl (by decide +kernel) ⟨Nat.le_of_ble_eq_true rfl, Nat.le_of_ble_eq_true rfl⟩) rfl Frm.none rfl (Nat.le_of_ble_eq_true rfl) ⟨Nat.le_of_ble_eq_true rfl, Nat.le_of_ble_eq_true rfl⟩ rfl ?_
      refine n_if_ne (t := 45) C dX5_score_32 (by decide) rfl (fun h32 => ?_) (fun h32 => ?_)
      · have hf := iq h32 hf
        refine n_aload_n C dX5_score_45 0 rfl rfl ?_
        refine n_get (N := 7) C dX5_score_46 iw5_score_X5 0 rfl rfl 0 (by decide) (List.mem_of_getElem? (i := 7) rfl) rfl rfl rfl ?_
        refine n_iload_n C dX5_score_49 1 rfl rfl ?_
        obtain ⟨z50, h50, hf⟩ := bi hf
        refine n_callV (As := [.int x1]) (rest := []) (w2 := [(aX, .inr (5, [.ref (aL 0), .ref (aS 0), .ref (aG 0), .ref (aH 0), .ref (aB 0), .ref (aV 0), .ref (aU 0)]))] ++ (bX4 cyI aS oS ++ (bX3 cyI aG oG ++ (bX1 cyI aL oL ++ (bX4 cyI aU oU ++ (bX1 cyI aV oV ++ (bX2 cyI aB oB ++ bHS cyI cyO aH oH))))))) C dX5_score_50 (c1_canHaveResult l D cyI cyO cyJ aL n oL x1 z50 h50) (cwV 1 C.ts gX5_score_X1_canHaveResult rfl rfl rfl (by decide +kernel) ⟨Nat.le_of_ble_eq_true rfl, Nat.le_of_ble_eq_true rfl⟩) rfl (q0 := 0) (ci := 1) rfl rfl (Frm.skip (Frm.skip (Frm.skip Frm.here))) rfl (Nat.le_of_ble_eq_true rfl) ⟨Nat.le_of_ble_eq_true rfl, Nat.le_of_ble_eq_true rfl⟩ rfl ?_
        refine n_if_ne (t := 66) C dX5_score_53 (by decide) rfl (fun h53 => ?_) (fun h53 => ?_)
        · have hf := iq h53 hf
          refine n_aload_n C dX5_score_66 0 rfl rfl ?_
          refine n_get (N := 7) C dX5_score_67 iw5_score_X5 0 rfl rfl 3 (by decide) (List.mem_of_getElem? (i := 8) rfl) rfl rfl rfl ?_
          refine n_aload_n C dX5_score_70 0 rfl rfl ?_
          refine n_get (N := 7) C dX5_score_71 iw5_score_X5 0 rfl rfl 0 (by decide) (List.mem_of_getElem? (i := 7) rfl) rfl rfl rfl ?_
          obtain ⟨z74, h74, hf⟩ := bi hf
          refine n_callV (As := [.ref (aL 0)]) (rest := []) (w2 := [(aX, .inr (5, [.ref (aL 0), .ref (aS 0), .ref (aG 0), .ref (aH 0), .ref (aB 0), .ref (aV 0), .ref (aU 0)]))] ++ (bX4 cyI aS oS ++ (bX3 cyI aG oG ++ (bX1 cyI aL oL ++ (bX4 cyI aU oU ++ (bX1 cyI aV oV ++ (bX2 cyI aB oB ++ bHS cyI cyO aH z74))))))) C dX5_score_74 (c0_keep l D cyI cyO cyJ aL aH n oL oH z74 h74) (cwV 1 C.ts gX5_score_X0_keep rfl rfl rfl (by decide +kernel) ⟨Nat.le_of_ble_eq_true rfl, Nat.le_of_ble_eq_true rfl⟩) rfl (q0 := 13) (ci := 0) rfl rfl (Frm.skip (Frm.skip (Frm.skip (Frm.take (Frm.skip (Frm.skip (Frm.skip Frm.self))))))) rfl (Nat.le_of_ble_eq_true rfl) ⟨Nat.le_of_ble_eq_true rfl, Nat.le_of_ble_eq_true rfl⟩ rfl ?_
          refine n_aload_n C dX5_score_77 0 rfl rfl ?_
          refine n_get (N := 7) C dX5_score_78 iw5_score_X5 0 rfl rfl 0 (by decide) (List.mem_of_getElem? (i := 7) rfl) rfl rfl rfl ?_
          refine n_iload_n C dX5_score_81 1 rfl rfl ?_
          refine n_iconst (v := (nI 1)) C dX5_score_82 (by decide) rfl ?_
          refine n_iload_n C dX5_score_83 2 rfl rfl ?_
          refine n_iload_n C dX5_score_84 3 rfl rfl ?_
          obtain ⟨z85, h85, hf⟩ := bi hf
          refine n_callV (As := [.int x1, .int (nI 1), .int x2, .int x3]) (rest := []) (w2 := [(aX, .inr (5, [.ref (aL 0), .ref (aS 0), .ref (aG 0), .ref (aH 0), .ref (aB 0), .ref (aV 0), .ref (aU 0)]))] ++ (bX4 cyI aS oS ++ (bX3 cyI aG oG ++ (bX1 cyI aL z85 ++ (bX4 cyI aU oU ++ (bX1 cyI aV oV ++ (bX2 cyI aB oB ++ bHS cyI cyO aH z74))))))) C dX5_score_85 (c1_give l D cyI cyO cyJ aL n oL x1 (nI 1) x2 x3 z85 h85) (cwV 4 C.ts gX5_score_X1_give rfl rfl rfl (by decide +kernel) ⟨Nat.le_of_ble_eq_true rfl, Nat.le_of_ble_eq_true rfl⟩) rfl (q0 := 0) (ci := 1) rfl rfl (Frm.skip (Frm.skip (Frm.skip Frm.here))) rfl (Nat.le_of_ble_eq_true rfl) ⟨Nat.le_of_ble_eq_true rfl, Nat.le_of_ble_eq_true rfl⟩ rfl ?_
          refine n_aload_n C dX5_score_88 0 rfl rfl ?_
          refine n_aload_n C dX5_score_89 0 rfl rfl ?_
          refine n_get (N := 7) C dX5_score_90 iw5_score_X5 0 rfl rfl 0 (by decide) (List.mem_of_getElem? (i := 7) rfl) rfl rfl rfl ?_
          refine n_get (N := 15) C dX5_score_93 iw5_score_X1 15 rfl rfl 7 (by decide) (List.mem_of_getElem? (i := 9) rfl) rfl rfl rfl ?_
          refine n_iload_n C dX5_score_96 1 rfl rfl ?_
          obtain ⟨x97, h97, hf⟩ := bi hf
          obtain ⟨h97, e97⟩ := ald_some h97
          refine n_iald C dX5_score_97 20 0 rfl rfl h97 rfl ?_
          rw [← e97]
          obtain ⟨z98, h98, hf⟩ := bi hf
          refine n_callV (As := [.int x97]) (rest := []) (w2 := [(aX, .inr (5, [.ref (aL 0), .ref (aS 0), .ref (aG 0), .ref (aH 0), .ref (aB 0), .ref (aV 0), .ref (aU 0)]))] ++ (bX4 cyI aS z98.2 ++ (bX3 cyI aG oG ++ (bX1 cyI aL z85 ++ (bX4 cyI aU oU ++ (bX1 cyI aV oV ++ (bX2 cyI aB oB ++ bHS cyI cyO aH z74))))))) C dX5_score_98 (c5_pointsOf l D cyI cyO cyJ aX aS aG aL aU aV aB aH n oS oG z85 oU oV oB z74 x97 z98 h98) (cwV 1 C.ts gX5_score_X5_pointsOf rfl rfl rfl (by decide +kernel) ⟨Nat.le_of_ble_eq_true rfl, Nat.le_of_ble_eq_true rfl⟩) rfl (q0 := 0) (ci := 5) rfl rfl Frm.self rfl (Nat.le_of_ble_eq_true rfl) ⟨Nat.le_of_ble_eq_true rfl, Nat.le_of_ble_eq_true rfl⟩ rfl ?_
          obtain rfl := Option.some.inj hf
          exact Wn.okV (n_iret C dX5_score_101)
        · have hf := ip h53 hf
          obtain rfl := Option.some.inj hf
          exact n_throwS (text := "the match has no venue") C CE hls hte dX5_score_56 dX5_score_59 dX5_score_60 dX5_score_62 dX5_score_65 (by decide +kernel) (by decide +kernel) (by decide +kernel) (List.mem_of_getElem? (i := 5) rfl) (List.mem_of_getElem? (i := 6) rfl) hat5_score_110 ng_110 og_110 (Nat.le_of_ble_eq_true rfl) (Nat.le_of_ble_eq_true rfl) (Nat.le_of_ble_eq_true rfl) (Nat.le_of_ble_eq_true rfl)
      · have hf := ip h32 hf
        obtain rfl := Option.some.inj hf
        exact n_throwS (text := "a score is 0 to 99") C CE hls hte dX5_score_35 dX5_score_38 dX5_score_39 dX5_score_41 dX5_score_44 (by decide +kernel) (by decide +kernel) (by decide +kernel) (List.mem_of_getElem? (i := 3) rfl) (List.mem_of_getElem? (i := 4) rfl) hat5_score_54 ng_54 og_54 (Nat.le_of_ble_eq_true rfl) (Nat.le_of_ble_eq_true rfl) (Nat.le_of_ble_eq_true rfl) (Nat.le_of_ble_eq_true rfl)
  · have hf := ip h8 hf
    obtain rfl := Option.some.inj hf
    exact n_throwS (text := "no such match") C CE hls hte dX5_score_11 dX5_score_14 dX5_score_15 dX5_score_17 dX5_score_20 (by decide +kernel) (by decide +kernel) (by decide +kernel) (List.mem_of_getElem? (i := 1) rfl) (List.mem_of_getElem? (i := 2) rfl) hat5_score_73 ng_73 og_73 (Nat.le_of_ble_eq_true rfl) (Nat.le_of_ble_eq_true rfl) (Nat.le_of_ble_eq_true rfl) (Nat.le_of_ble_eq_true rfl)
-- X5 walkover 
theorem iw5_walkover_X1 : ∀ w ∈ u_ws RX1 TX1 15, w ∈ wsX5_walkover := by decide +kernel
theorem iw5_walkover_X5 : ∀ w ∈ u_ws RX5 TX5 7, w ∈ wsX5_walkover := by decide +kernel
abbrev rm5_walkover : Room := { frames := 6, cells := 1, slots := 6, locals := 113 }
theorem hat5_walkover_73 : ∀ w ∈ (vx_atS RX5 73 "java/lang/IndexOutOfBoundsException" nx5).filter goodWord, w ∈ wsX5_walkover := fun w h => List.mem_cons_of_mem _ (List.mem_append_left _ (List.mem_append_right _ h))
theorem hat5_walkover_110 : ∀ w ∈ (vx_atS RX5 110 "java/lang/IllegalStateException" nx5).filter goodWord, w ∈ wsX5_walkover := fun w h => List.mem_cons_of_mem _ (List.mem_append_right _ h)
def f5_walkover_b67 (n : Nat) (oG : OB) (oU : OB) (oV : OB) (oB : OB) (x1 : Int32) (x2 : Int32) (s1 : Int32) (s2 : Int32) (oS : OB) (oL : OB) (oH : HS) : Option ((String ⊕ Int32) × (OB) × (OB) × (HS)) :=
  (f1_give n oL s1 s2 (nI 0) (nI 0)).bind fun z69 => (if x2 = (0 : Int32) then (ald 28 (z69.2 7) x1).bind fun x97 => (f5_pointsOf n oS oG z69 oU oV oB oH x97).bind fun z98 => some ((.inr z98.1), z98.2, z69, oH) else (ald 28 (z69.2 8) x1).bind fun x85 => (f5_pointsOf n oS oG z69 oU oV oB oH x85).bind fun z98 => some ((.inr z98.1), z98.2, z69, oH))
def f5_walkover (n : Nat) (oS : OB) (oG : OB) (oL : OB) (oU : OB) (oV : OB) (oB : OB) (oH : HS) (x1 : Int32) (x2 : Int32) : Option ((String ⊕ Int32) × (OB) × (OB) × (HS)) :=
  (f1_hasMatch n oL x1).bind fun z5 => (if z5 = (0 : Int32) then some ((.inl "java/lang/IndexOutOfBoundsException"), oS, oL, oH) else (f1_canHaveResult n oL x1).bind fun z26 => (if z26 = (0 : Int32) then some ((.inl "java/lang/IllegalStateException"), oS, oL, oH) else (f0_keep n oL oH).bind fun z50 => (if x2 = (0 : Int32) then f5_walkover_b67 n oG oU oV oB x1 x2 x1 (nI 2) oS oL z50 else f5_walkover_b67 n oG oU oV oB x1 x2 x1 (nI 3) oS oL z50)))
set_option maxHeartbeats 4000000 in
set_option maxRecDepth 100000 in
theorem t5_walkover_b67 {l : Launch} {p : Program} {e : Env} {s : State} {m : MethodId} {args : Array Value} {below : List Frame} {meth : Method} {c : Code} {D : va_G} {A : Nat → Prop} {cyI cyO cyJ : ClassId} {aX : Nat} {aS : Nat → Nat} {aG : Nat → Nat} {aL : Nat → Nat} {aU : Nat → Nat} {aV : Nat → Nat} {aB : Nat → Nat} {aH : Nat → Nat} (C : Cx p s m args meth c D (tyG cyI cyO cyJ) A RX5 cX5_walkover 3 (some .int) wsX5_walkover) (CE : ENV A s) (hls : l.stackTraces = false) (hte : ∀ x ∈ c.exceptionTable.toList, False) {z : (String ⊕ Int32) × (OB) × (OB) × (HS)} (n : Nat) (oG : OB) (oU : OB) (oV : OB) (oB : OB) (x1 : Int32) (x2 : Int32) (s1 : Int32) (s2 : Int32) (oS : OB) (oL : OB) (oH : HS) (hf : f5_walkover_b67 n oG oU oV oB x1 x2 s1 s2 oS oL oH = some z) : Wn p l e rm5_walkover s m args below meth c D A 3 0 0 (vx_MQ below (QV D (tyG cyI cyO cyJ) ([(aX, .inr (5, [.ref (aL 0), .ref (aS 0), .ref (aG 0), .ref (aH 0), .ref (aB 0), .ref (aV 0), .ref (aU 0)]))] ++ (bX4 cyI aS z.2.1 ++ (bX3 cyI aG oG ++ (bX1 cyI aL z.2.2.1 ++ (bX4 cyI aU oU ++ (bX1 cyI aV oV ++ (bX2 cyI aB oB ++ bHS cyI cyO aH z.2.2.2))))))) A (oI z.1)) (XV D (tyG cyI cyO cyJ) ([(aX, .inr (5, [.ref (aL 0), .ref (aS 0), .ref (aG 0), .ref (aH 0), .ref (aB 0), .ref (aV 0), .ref (aU 0)]))] ++ (bX4 cyI aS z.2.1 ++ (bX3 cyI aG oG ++ (bX1 cyI aL z.2.2.1 ++ (bX4 cyI aU oU ++ (bX1 cyI aV oV ++ (bX2 cyI aB oB ++ bHS cyI cyO aH z.2.2.2))))))) A (oI z.1)) args s 1 6 A) ([(aX, .inr (5, [.ref (aL 0), .ref (aS 0), .ref (aG 0), .ref (aH 0), .ref (aB 0), .ref (aV 0), .ref (aU 0)]))] ++ (bX4 cyI aS oS ++ (bX3 cyI aG oG ++ (bX1 cyI aL oL ++ (bX4 cyI aU oU ++ (bX1 cyI aV oV ++ (bX2 cyI aB oB ++ bHS cyI cyO aH oH))))))) 67 [(0, .ref aX), (1, .int x1), (2, .int x2)] [.int s2, .int s1, .ref (aL 0)] := by
  unfold f5_walkover_b67 at hf
  refine n_iconst (v := (nI 0)) C dX5_walkover_67 (by decide) rfl ?_
  refine n_iconst (v := (nI 0)) C dX5_walkover_68 (by decide) rfl ?_
  obtain ⟨z69, h69, hf⟩ := bi hf
  refine n_callV (As := [.int s1, .int s2, .int (nI 0), .int (nI 0)]) (rest := []) (w2 := [(aX, .inr (5, [.ref (aL 0), .ref (aS 0), .ref (aG 0), .ref (aH 0), .ref (aB 0), .ref (aV 0), .ref (aU 0)]))] ++ (bX4 cyI aS oS ++ (bX3 cyI aG oG ++ (bX1 cyI aL z69 ++ (bX4 cyI aU oU ++ (bX1 cyI aV oV ++ (bX2 cyI aB oB ++ bHS cyI cyO aH oH))))))) C dX5_walkover_69 (c1_give l D cyI cyO cyJ aL n oL s1 s2 (nI 0) (nI 0) z69 h69) (cwV 4 C.ts gX5_walkover_X1_give rfl rfl rfl (by decide +kernel) ⟨Nat.le_of_ble_eq_true rfl, Nat.le_of_ble_eq_true rfl⟩) rfl (q0 := 0) (ci := 1) rfl rfl (Frm.skip (Frm.skip (Frm.skip Frm.here))) rfl (Nat.le_of_ble_eq_true rfl) ⟨Nat.le_of_ble_eq_true rfl, Nat.le_of_ble_eq_true rfl⟩ rfl ?_
  refine n_aload_n C dX5_walkover_72 0 rfl rfl ?_
  refine n_iload_n C dX5_walkover_73 2 rfl rfl ?_
  refine n_if_eq (t := 89) C dX5_walkover_74 (by decide) rfl (fun h74 => ?_) (fun h74 => ?_)
  · have hf := ip h74 hf
    refine n_aload_n C dX5_walkover_89 0 rfl rfl ?_
    refine n_get (N := 7) C dX5_walkover_90 iw5_walkover_X5 0 rfl rfl 0 (by decide) (List.mem_of_getElem? (i := 5) rfl) rfl rfl rfl ?_
    refine n_get (N := 15) C dX5_walkover_93 iw5_walkover_X1 15 rfl rfl 7 (by decide) (List.mem_of_getElem? (i := 8) rfl) rfl rfl rfl ?_
    refine n_iload_n C dX5_walkover_96 1 rfl rfl ?_
    obtain ⟨x97, h97, hf⟩ := bi hf
    obtain ⟨h97, e97⟩ := ald_some h97
    refine n_iald C dX5_walkover_97 20 0 rfl rfl h97 rfl ?_
    rw [← e97]
    obtain ⟨z98, h98, hf⟩ := bi hf
    refine n_callV (As := [.int x97]) (rest := []) (w2 := [(aX, .inr (5, [.ref (aL 0), .ref (aS 0), .ref (aG 0), .ref (aH 0), .ref (aB 0), .ref (aV 0), .ref (aU 0)]))] ++ (bX4 cyI aS z98.2 ++ (bX3 cyI aG oG ++ (bX1 cyI aL z69 ++ (bX4 cyI aU oU ++ (bX1 cyI aV oV ++ (bX2 cyI aB oB ++ bHS cyI cyO aH oH))))))) C dX5_walkover_98 (c5_pointsOf l D cyI cyO cyJ aX aS aG aL aU aV aB aH n oS oG z69 oU oV oB oH x97 z98 h98) (cwV 1 C.ts gX5_walkover_X5_pointsOf rfl rfl rfl (by decide +kernel) ⟨Nat.le_of_ble_eq_true rfl, Nat.le_of_ble_eq_true rfl⟩) rfl (q0 := 0) (ci := 5) rfl rfl Frm.self rfl (Nat.le_of_ble_eq_true rfl) ⟨Nat.le_of_ble_eq_true rfl, Nat.le_of_ble_eq_true rfl⟩ rfl ?_
    obtain rfl := Option.some.inj hf
    exact Wn.okV (n_iret C dX5_walkover_101)
  · have hf := iq h74 hf
    refine n_aload_n C dX5_walkover_77 0 rfl rfl ?_
    refine n_get (N := 7) C dX5_walkover_78 iw5_walkover_X5 0 rfl rfl 0 (by decide) (List.mem_of_getElem? (i := 5) rfl) rfl rfl rfl ?_
    refine n_get (N := 15) C dX5_walkover_81 iw5_walkover_X1 15 rfl rfl 8 (by decide) (List.mem_of_getElem? (i := 7) rfl) rfl rfl rfl ?_
    refine n_iload_n C dX5_walkover_84 1 rfl rfl ?_
    obtain ⟨x85, h85, hf⟩ := bi hf
    obtain ⟨h85, e85⟩ := ald_some h85
    refine n_iald C dX5_walkover_85 21 0 rfl rfl h85 rfl ?_
    rw [← e85]
    refine n_goto (t := 98) C dX5_walkover_86 (by decide) ?_
    obtain ⟨z98, h98, hf⟩ := bi hf
    refine n_callV (As := [.int x85]) (rest := []) (w2 := [(aX, .inr (5, [.ref (aL 0), .ref (aS 0), .ref (aG 0), .ref (aH 0), .ref (aB 0), .ref (aV 0), .ref (aU 0)]))] ++ (bX4 cyI aS z98.2 ++ (bX3 cyI aG oG ++ (bX1 cyI aL z69 ++ (bX4 cyI aU oU ++ (bX1 cyI aV oV ++ (bX2 cyI aB oB ++ bHS cyI cyO aH oH))))))) C dX5_walkover_98 (c5_pointsOf l D cyI cyO cyJ aX aS aG aL aU aV aB aH n oS oG z69 oU oV oB oH x85 z98 h98) (cwV 1 C.ts gX5_walkover_X5_pointsOf rfl rfl rfl (by decide +kernel) ⟨Nat.le_of_ble_eq_true rfl, Nat.le_of_ble_eq_true rfl⟩) rfl (q0 := 0) (ci := 5) rfl rfl Frm.self rfl (Nat.le_of_ble_eq_true rfl) ⟨Nat.le_of_ble_eq_true rfl, Nat.le_of_ble_eq_true rfl⟩ rfl ?_
    obtain rfl := Option.some.inj hf
    exact Wn.okV (n_iret C dX5_walkover_101)
set_option maxHeartbeats 4000000 in
set_option maxRecDepth 100000 in
theorem c5_walkover (l : Launch) (hls : l.stackTraces = false) (D : va_G) (cyI cyO cyJ : ClassId) (aX : Nat) (aS : Nat → Nat) (aG : Nat → Nat) (aL : Nat → Nat) (aU : Nat → Nat) (aV : Nat → Nat) (aB : Nat → Nat) (aH : Nat → Nat) (n : Nat) (oS : OB) (oG : OB) (oL : OB) (oU : OB) (oV : OB) (oB : OB) (oH : HS) (x1 : Int32) (x2 : Int32) (z : (String ⊕ Int32) × (OB) × (OB) × (HS)) (hf : f5_walkover n oS oG oL oU oV oB oH x1 x2 = some z) : Cv l D (tyG cyI cyO cyJ) yX5_walkover wsX5_walkover rm5_walkover [.ref aX, .int x1, .int x2] ([(aX, .inr (5, [.ref (aL 0), .ref (aS 0), .ref (aG 0), .ref (aH 0), .ref (aB 0), .ref (aV 0), .ref (aU 0)]))] ++ (bX4 cyI aS oS ++ (bX3 cyI aG oG ++ (bX1 cyI aL oL ++ (bX4 cyI aU oU ++ (bX1 cyI aV oV ++ (bX2 cyI aB oB ++ bHS cyI cyO aH oH))))))) ([(aX, .inr (5, [.ref (aL 0), .ref (aS 0), .ref (aG 0), .ref (aH 0), .ref (aB 0), .ref (aV 0), .ref (aU 0)]))] ++ (bX4 cyI aS z.2.1 ++ (bX3 cyI aG oG ++ (bX1 cyI aL z.2.2.1 ++ (bX4 cyI aU oU ++ (bX1 cyI aV oV ++ (bX2 cyI aB oB ++ bHS cyI cyO aH z.2.2.2))))))) (oI z.1) := by
  refine Cv.of (cc := cX5_walkover) (nL := 3) (ret := (some .int)) (lv := [(0, .ref aX), (1, .int x1), (2, .int x2)]) (by decide +kernel) rfl rfl (Nat.le_of_ble_eq_true rfl) ?_
  intro p e s m args below meth c A C CE hte
  have C : Cx p s m args meth c D (tyG cyI cyO cyJ) A RX5 cX5_walkover 3 (some .int) wsX5_walkover := C
  unfold f5_walkover at hf
  refine n_aload_n C dX5_walkover_0 0 rfl rfl ?_
  refine n_get (N := 7) C dX5_walkover_1 iw5_walkover_X5 0 rfl rfl 0 (by decide) (List.mem_of_getElem? (i := 5) rfl) rfl rfl rfl ?_
  refine n_iload_n C dX5_walkover_4 1 rfl rfl ?_
  obtain ⟨z5, h5, hf⟩ := bi hf
  refine n_callV (As := [.int x1]) (rest := []) (w2 := [(aX, .inr (5, [.ref (aL 0), .ref (aS 0), .ref (aG 0), .ref (aH 0), .ref (aB 0), .ref (aV 0), .ref (aU 0)]))] ++ (bX4 cyI aS oS ++ (bX3 cyI aG oG ++ (bX1 cyI aL oL ++ (bX4 cyI aU oU ++ (bX1 cyI aV oV ++ (bX2 cyI aB oB ++ bHS cyI cyO aH oH))))))) C dX5_walkover_5 (c1_hasMatch l D cyI cyO cyJ aL n oL x1 z5 h5) (cwV 1 C.ts gX5_walkover_X1_hasMatch rfl rfl rfl (by decide +kernel) ⟨Nat.le_of_ble_eq_true rfl, Nat.le_of_ble_eq_true rfl⟩) rfl (q0 := 0) (ci := 1) rfl rfl (Frm.skip (Frm.skip (Frm.skip Frm.here))) rfl (Nat.le_of_ble_eq_true rfl) ⟨Nat.le_of_ble_eq_true rfl, Nat.le_of_ble_eq_true rfl⟩ rfl ?_
  refine n_if_ne (t := 21) C dX5_walkover_8 (by decide) rfl (fun h8 => ?_) (fun h8 => ?_)
  · have hf := iq h8 hf
    refine n_aload_n C dX5_walkover_21 0 rfl rfl ?_
    refine n_get (N := 7) C dX5_walkover_22 iw5_walkover_X5 0 rfl rfl 0 (by decide) (List.mem_of_getElem? (i := 5) rfl) rfl rfl rfl ?_
    refine n_iload_n C dX5_walkover_25 1 rfl rfl ?_
    obtain ⟨z26, h26, hf⟩ := bi hf
    refine n_callV (As := [.int x1]) (rest := []) (w2 := [(aX, .inr (5, [.ref (aL 0), .ref (aS 0), .ref (aG 0), .ref (aH 0), .ref (aB 0), .ref (aV 0), .ref (aU 0)]))] ++ (bX4 cyI aS oS ++ (bX3 cyI aG oG ++ (bX1 cyI aL oL ++ (bX4 cyI aU oU ++ (bX1 cyI aV oV ++ (bX2 cyI aB oB ++ bHS cyI cyO aH oH))))))) C dX5_walkover_26 (c1_canHaveResult l D cyI cyO cyJ aL n oL x1 z26 h26) (cwV 1 C.ts gX5_walkover_X1_canHaveResult rfl rfl rfl (by decide +kernel) ⟨Nat.le_of_ble_eq_true rfl, Nat.le_of_ble_eq_true rfl⟩) rfl (q0 := 0) (ci := 1) rfl rfl (Frm.skip (Frm.skip (Frm.skip Frm.here))) rfl (Nat.le_of_ble_eq_true rfl) ⟨Nat.le_of_ble_eq_true rfl, Nat.le_of_ble_eq_true rfl⟩ rfl ?_
    refine n_if_ne (t := 42) C dX5_walkover_29 (by decide) rfl (fun h29 => ?_) (fun h29 => ?_)
    · have hf := iq h29 hf
      refine n_aload_n C dX5_walkover_42 0 rfl rfl ?_
      refine n_get (N := 7) C dX5_walkover_43 iw5_walkover_X5 0 rfl rfl 3 (by decide) (List.mem_of_getElem? (i := 6) rfl) rfl rfl rfl ?_
      refine n_aload_n C dX5_walkover_46 0 rfl rfl ?_
      refine n_get (N := 7) C dX5_walkover_47 iw5_walkover_X5 0 rfl rfl 0 (by decide) (List.mem_of_getElem? (i := 5) rfl) rfl rfl rfl ?_
      obtain ⟨z50, h50, hf⟩ := bi hf
      refine n_callV (As := [.ref (aL 0)]) (rest := []) (w2 := [(aX, .inr (5, [.ref (aL 0), .ref (aS 0), .ref (aG 0), .ref (aH 0), .ref (aB 0), .ref (aV 0), .ref (aU 0)]))] ++ (bX4 cyI aS oS ++ (bX3 cyI aG oG ++ (bX1 cyI aL oL ++ (bX4 cyI aU oU ++ (bX1 cyI aV oV ++ (bX2 cyI aB oB ++ bHS cyI cyO aH z50))))))) C dX5_walkover_50 (c0_keep l D cyI cyO cyJ aL aH n oL oH z50 h50) (cwV 1 C.ts gX5_walkover_X0_keep rfl rfl rfl (by decide +kernel) ⟨Nat.le_of_ble_eq_true rfl, Nat.le_of_ble_eq_true rfl⟩) rfl (q0 := 13) (ci := 0) rfl rfl (Frm.skip (Frm.skip (Frm.skip (Frm.take (Frm.skip (Frm.skip (Frm.skip Frm.self))))))) rfl (Nat.le_of_ble_eq_true rfl) ⟨Nat.le_of_ble_eq_true rfl, Nat.le_of_ble_eq_true rfl⟩ rfl ?_
      refine n_aload_n C dX5_walkover_53 0 rfl rfl ?_
      refine n_get (N := 7) C dX5_walkover_54 iw5_walkover_X5 0 rfl rfl 0 (by decide) (List.mem_of_getElem? (i := 5) rfl) rfl rfl rfl ?_
      refine n_iload_n C dX5_walkover_57 1 rfl rfl ?_
      refine n_iload_n C dX5_walkover_58 2 rfl rfl ?_
      refine n_if_eq (t := 66) C dX5_walkover_59 (by decide) rfl (fun h59 => ?_) (fun h59 => ?_)
      · have hf := ip h59 hf
        refine n_iconst (v := (nI 2)) C dX5_walkover_66 (by decide) rfl ?_
        exact Wn.sub (lv' := [(0, .ref aX), (1, .int x1), (2, .int x2)]) [0, 1, 2] rfl (t5_walkover_b67 C CE hls hte n oG oU oV oB x1 x2 x1 (nI 2) oS oL z50 hf)
      · have hf := iq h59 hf
        refine n_iconst (v := (nI 3)) C dX5_walkover_62 (by decide) rfl ?_
        refine n_goto (t := 67) C dX5_walkover_63 (by decide) ?_
        exact Wn.sub (lv' := [(0, .ref aX), (1, .int x1), (2, .int x2)]) [0, 1, 2] rfl (t5_walkover_b67 C CE hls hte n oG oU oV oB x1 x2 x1 (nI 3) oS oL z50 hf)
    · have hf := ip h29 hf
      obtain rfl := Option.some.inj hf
      exact n_throwS (text := "the match has no venue") C CE hls hte dX5_walkover_32 dX5_walkover_35 dX5_walkover_36 dX5_walkover_38 dX5_walkover_41 (by decide +kernel) (by decide +kernel) (by decide +kernel) (List.mem_of_getElem? (i := 3) rfl) (List.mem_of_getElem? (i := 4) rfl) hat5_walkover_110 ng_110 og_110 (Nat.le_of_ble_eq_true rfl) (Nat.le_of_ble_eq_true rfl) (Nat.le_of_ble_eq_true rfl) (Nat.le_of_ble_eq_true rfl)
  · have hf := ip h8 hf
    obtain rfl := Option.some.inj hf
    exact n_throwS (text := "no such match") C CE hls hte dX5_walkover_11 dX5_walkover_14 dX5_walkover_15 dX5_walkover_17 dX5_walkover_20 (by decide +kernel) (by decide +kernel) (by decide +kernel) (List.mem_of_getElem? (i := 1) rfl) (List.mem_of_getElem? (i := 2) rfl) hat5_walkover_73 ng_73 og_73 (Nat.le_of_ble_eq_true rfl) (Nat.le_of_ble_eq_true rfl) (Nat.le_of_ble_eq_true rfl) (Nat.le_of_ble_eq_true rfl)
-- X5 set 
theorem iw5_set_X1 : ∀ w ∈ u_ws RX1 TX1 15, w ∈ wsX5_set := by decide +kernel
theorem iw5_set_X5 : ∀ w ∈ u_ws RX5 TX5 7, w ∈ wsX5_set := by decide +kernel
abbrev rm5_set : Room := { frames := 6, cells := 1, slots := 6, locals := 82 }
theorem hat5_set_54 : ∀ w ∈ (vx_atS RX5 54 "java/lang/IllegalArgumentException" nx5).filter goodWord, w ∈ wsX5_set := fun w h => List.mem_cons_of_mem _ (List.mem_append_right _ h)
theorem hat5_set_73 : ∀ w ∈ (vx_atS RX5 73 "java/lang/IndexOutOfBoundsException" nx5).filter goodWord, w ∈ wsX5_set := fun w h => List.mem_cons_of_mem _ (List.mem_append_left _ (List.mem_append_right _ h))
def f5_set (n : Nat) (oS : OB) (oG : OB) (oL : OB) (oU : OB) (oV : OB) (oB : OB) (oH : HS) (x1 : Int32) (x2 : Int32) : Option ((String ⊕ Int32) × (OB) × (HS)) :=
  (if x1 < (0 : Int32) then some ((.inl "java/lang/IndexOutOfBoundsException"), oL, oH) else (if x1 < (nI 4) then (ald 4 sLV x1).bind fun x24 => (if x2 < x24 then some ((.inl "java/lang/IllegalArgumentException"), oL, oH) else (ald 4 sGV x1).bind fun x33 => (if x2 ≤ x33 then (f0_keep n oL oH).bind fun z55 => (ald 4 (oL.2 3) x1).bind fun x66 => (oast oL 3 4 x1 x2).bind fun oL_77 => some ((.inr x66), oL_77, z55) else some ((.inl "java/lang/IllegalArgumentException"), oL, oH))) else some ((.inl "java/lang/IndexOutOfBoundsException"), oL, oH)))
set_option maxHeartbeats 4000000 in
set_option maxRecDepth 100000 in
theorem c5_set (l : Launch) (hls : l.stackTraces = false) (D : va_G) (cyI cyO cyJ : ClassId) (aX : Nat) (aS : Nat → Nat) (aG : Nat → Nat) (aL : Nat → Nat) (aU : Nat → Nat) (aV : Nat → Nat) (aB : Nat → Nat) (aH : Nat → Nat) (n : Nat) (oS : OB) (oG : OB) (oL : OB) (oU : OB) (oV : OB) (oB : OB) (oH : HS) (x1 : Int32) (x2 : Int32) (z : (String ⊕ Int32) × (OB) × (HS)) (hf : f5_set n oS oG oL oU oV oB oH x1 x2 = some z) : Cv l D (tyG cyI cyO cyJ) yX5_set wsX5_set rm5_set [.ref aX, .int x1, .int x2] ([(aX, .inr (5, [.ref (aL 0), .ref (aS 0), .ref (aG 0), .ref (aH 0), .ref (aB 0), .ref (aV 0), .ref (aU 0)]))] ++ (bX4 cyI aS oS ++ (bX3 cyI aG oG ++ (bX1 cyI aL oL ++ (bX4 cyI aU oU ++ (bX1 cyI aV oV ++ (bX2 cyI aB oB ++ bHS cyI cyO aH oH))))))) ([(aX, .inr (5, [.ref (aL 0), .ref (aS 0), .ref (aG 0), .ref (aH 0), .ref (aB 0), .ref (aV 0), .ref (aU 0)]))] ++ (bX4 cyI aS oS ++ (bX3 cyI aG oG ++ (bX1 cyI aL z.2.1 ++ (bX4 cyI aU oU ++ (bX1 cyI aV oV ++ (bX2 cyI aB oB ++ bHS cyI cyO aH z.2.2))))))) (oI z.1) := by
  refine Cv.of (cc := cX5_set) (nL := 4) (ret := (some .int)) (lv := [(0, .ref aX), (1, .int x1), (2, .int x2)]) (by decide +kernel) rfl rfl (Nat.le_of_ble_eq_true rfl) ?_
  intro p e s m args below meth c A C CE hte
  have C : Cx p s m args meth c D (tyG cyI cyO cyJ) A RX5 cX5_set 4 (some .int) wsX5_set := C
  unfold f5_set at hf
  refine n_iload_n C dX5_set_0 1 rfl rfl ?_
  refine n_if_lt (t := 9) C dX5_set_1 (by decide) rfl (fun h1 => ?_) (fun h1 => ?_)
  · have hf := ip h1 hf
    obtain rfl := Option.some.inj hf
    exact n_throwS (text := "no such setting") C CE hls hte dX5_set_9 dX5_set_12 dX5_set_13 dX5_set_15 dX5_set_18 (by decide +kernel) (by decide +kernel) (by decide +kernel) (List.mem_of_getElem? (i := 1) rfl) (List.mem_of_getElem? (i := 2) rfl) hat5_set_73 ng_73 og_73 (Nat.le_of_ble_eq_true rfl) (Nat.le_of_ble_eq_true rfl) (Nat.le_of_ble_eq_true rfl) (Nat.le_of_ble_eq_true rfl)
  · have hf := iq h1 hf
    refine n_iload_n C dX5_set_4 1 rfl rfl ?_
    refine n_iconst (v := (nI 4)) C dX5_set_5 (by decide) rfl ?_
    refine n_icmp_lt (t := 19) C dX5_set_6 (by decide) rfl (fun h6 => ?_) (fun h6 => ?_)
    · have hf := ip h6 hf
      refine n_iload_n C dX5_set_19 2 rfl rfl ?_
      obtain ⟨t20, hZ20, hT20⟩ := CE.2.2.2.2.1
      refine n_gets C dX5_set_20 hZ20 (List.mem_of_getElem? (i := 5) rfl) rfl ?_
      refine n_iload_n C dX5_set_23 1 rfl rfl ?_
      obtain ⟨x24, h24, hf⟩ := bi hf
      obtain ⟨h24, e24⟩ := ald_some h24
      refine n_sti C dX5_set_24 hT20 h24 rfl ?_
      rw [← e24]
      refine n_icmp_lt (t := 37) C dX5_set_25 (by decide) rfl (fun h25 => ?_) (fun h25 => ?_)
      · have hf := ip h25 hf
        obtain rfl := Option.some.inj hf
        exact n_throwS (text := "the setting can't have this value") C CE hls hte dX5_set_37 dX5_set_40 dX5_set_41 dX5_set_43 dX5_set_46 (by decide +kernel) (by decide +kernel) (by decide +kernel) (List.mem_of_getElem? (i := 3) rfl) (List.mem_of_getElem? (i := 4) rfl) hat5_set_54 ng_54 og_54 (Nat.le_of_ble_eq_true rfl) (Nat.le_of_ble_eq_true rfl) (Nat.le_of_ble_eq_true rfl) (Nat.le_of_ble_eq_true rfl)
      · have hf := iq h25 hf
        refine n_iload_n C dX5_set_28 2 rfl rfl ?_
        obtain ⟨t29, hZ29, hT29⟩ := CE.2.2.2.2.2
        refine n_gets C dX5_set_29 hZ29 (List.mem_of_getElem? (i := 6) rfl) rfl ?_
        refine n_iload_n C dX5_set_32 1 rfl rfl ?_
        obtain ⟨x33, h33, hf⟩ := bi hf
        obtain ⟨h33, e33⟩ := ald_some h33
        refine n_sti C dX5_set_33 hT29 h33 rfl ?_
        rw [← e33]
        refine n_icmp_le (t := 47) C dX5_set_34 (by decide) rfl (fun h34 => ?_) (fun h34 => ?_)
        · have hf := ip h34 hf
          refine n_aload_n C dX5_set_47 0 rfl rfl ?_
          refine n_get (N := 7) C dX5_set_48 iw5_set_X5 0 rfl rfl 3 (by decide) (List.mem_of_getElem? (i := 7) rfl) rfl rfl rfl ?_
          refine n_aload_n C dX5_set_51 0 rfl rfl ?_
          refine n_get (N := 7) C dX5_set_52 iw5_set_X5 0 rfl rfl 0 (by decide) (List.mem_of_getElem? (i := 8) rfl) rfl rfl rfl ?_
          obtain ⟨z55, h55, hf⟩ := bi hf
          refine n_callV (As := [.ref (aL 0)]) (rest := []) (w2 := [(aX, .inr (5, [.ref (aL 0), .ref (aS 0), .ref (aG 0), .ref (aH 0), .ref (aB 0), .ref (aV 0), .ref (aU 0)]))] ++ (bX4 cyI aS oS ++ (bX3 cyI aG oG ++ (bX1 cyI aL oL ++ (bX4 cyI aU oU ++ (bX1 cyI aV oV ++ (bX2 cyI aB oB ++ bHS cyI cyO aH z55))))))) C dX5_set_55 (c0_keep l D cyI cyO cyJ aL aH n oL oH z55 h55) (cwV 1 C.ts gX5_set_X0_keep rfl rfl rfl (by decide +kernel) ⟨Nat.le_of_ble_eq_true rfl, Nat.le_of_ble_eq_true rfl⟩) rfl (q0 := 13) (ci := 0) rfl rfl (Frm.skip (Frm.skip (Frm.skip (Frm.take (Frm.skip (Frm.skip (Frm.skip Frm.self))))))) rfl (Nat.le_of_ble_eq_true rfl) ⟨Nat.le_of_ble_eq_true rfl, Nat.le_of_ble_eq_true rfl⟩ rfl ?_
          refine n_aload_n C dX5_set_58 0 rfl rfl ?_
          refine n_get (N := 7) C dX5_set_59 iw5_set_X5 0 rfl rfl 0 (by decide) (List.mem_of_getElem? (i := 8) rfl) rfl rfl rfl ?_
          refine n_get (N := 15) C dX5_set_62 iw5_set_X1 15 rfl rfl 3 (by decide) (List.mem_of_getElem? (i := 9) rfl) rfl rfl rfl ?_
          refine n_iload_n C dX5_set_65 1 rfl rfl ?_
          obtain ⟨x66, h66, hf⟩ := bi hf
          obtain ⟨h66, e66⟩ := ald_some h66
          refine n_iald C dX5_set_66 16 0 rfl rfl h66 rfl ?_
          rw [← e66]
          refine n_istore_n (lv' := [(3, .int x66), (0, .ref aX), (1, .int x1), (2, .int x2)]) C dX5_set_67 (by decide) rfl rfl ?_
          refine n_aload_n C dX5_set_68 1 rfl rfl ?_
          refine n_get (N := 7) C dX5_set_69 iw5_set_X5 0 rfl rfl 0 (by decide) (List.mem_of_getElem? (i := 8) rfl) rfl rfl rfl ?_
          refine n_get (N := 15) C dX5_set_72 iw5_set_X1 15 rfl rfl 3 (by decide) (List.mem_of_getElem? (i := 9) rfl) rfl rfl rfl ?_
          refine n_iload_n C dX5_set_75 2 rfl rfl ?_
          refine n_iload_n C dX5_set_76 3 rfl rfl ?_
          obtain ⟨oL_77, h77, hf⟩ := bi hf
          obtain ⟨h77, e77⟩ := oast_some h77
          refine n_iast (w2 := [(aX, .inr (5, [.ref (aL 0), .ref (aS 0), .ref (aG 0), .ref (aH 0), .ref (aB 0), .ref (aV 0), .ref (aU 0)]))] ++ (bX4 cyI aS oS ++ (bX3 cyI aG oG ++ (bX1 cyI aL oL_77 ++ (bX4 cyI aU oU ++ (bX1 cyI aV oV ++ (bX2 cyI aB oB ++ bHS cyI cyO aH z55))))))) C dX5_set_77 16 0 rfl rfl h77 (by subst e77; rfl) rfl ?_
          refine n_iload_n C dX5_set_78 0 rfl rfl ?_
          obtain rfl := Option.some.inj hf
          exact Wn.okV (n_iret C dX5_set_79)
        · have hf := iq h34 hf
          obtain rfl := Option.some.inj hf
          exact n_throwS (text := "the setting can't have this value") C CE hls hte dX5_set_37 dX5_set_40 dX5_set_41 dX5_set_43 dX5_set_46 (by decide +kernel) (by decide +kernel) (by decide +kernel) (List.mem_of_getElem? (i := 3) rfl) (List.mem_of_getElem? (i := 4) rfl) hat5_set_54 ng_54 og_54 (Nat.le_of_ble_eq_true rfl) (Nat.le_of_ble_eq_true rfl) (Nat.le_of_ble_eq_true rfl) (Nat.le_of_ble_eq_true rfl)
    · have hf := iq h6 hf
      obtain rfl := Option.some.inj hf
      exact n_throwS (text := "no such setting") C CE hls hte dX5_set_9 dX5_set_12 dX5_set_13 dX5_set_15 dX5_set_18 (by decide +kernel) (by decide +kernel) (by decide +kernel) (List.mem_of_getElem? (i := 1) rfl) (List.mem_of_getElem? (i := 2) rfl) hat5_set_73 ng_73 og_73 (Nat.le_of_ble_eq_true rfl) (Nat.le_of_ble_eq_true rfl) (Nat.le_of_ble_eq_true rfl) (Nat.le_of_ble_eq_true rfl)
-- X5 undo 
theorem iw5_undo_X0 : ∀ w ∈ u_ws RX0 TX0 2, w ∈ wsX5_undo := by decide +kernel
theorem iw5_undo_X5 : ∀ w ∈ u_ws RX5 TX5 7, w ∈ wsX5_undo := by decide +kernel
abbrev rm5_undo : Room := { frames := 6, cells := 1, slots := 6, locals := 82 }
theorem hat5_undo_110 : ∀ w ∈ (vx_atS RX5 110 "java/lang/IllegalStateException" nx5).filter goodWord, w ∈ wsX5_undo := fun w h => List.mem_cons_of_mem _ (List.mem_append_right _ h)
def f5_undo (n : Nat) (oS : OB) (oG : OB) (oL : OB) (oU : OB) (oV : OB) (oB : OB) (oH : HS) : Option ((String ⊕ Int32) × (OB) × (HS)) :=
  (if oH.1 = (0 : Int32) then some ((.inl "java/lang/IllegalStateException"), oL, oH) else (f0_restore n oL oH).bind fun z28 => some ((.inr z28.2.1), z28.1, z28.2))
set_option maxHeartbeats 4000000 in
set_option maxRecDepth 100000 in
theorem c5_undo (l : Launch) (hls : l.stackTraces = false) (D : va_G) (cyI cyO cyJ : ClassId) (aX : Nat) (aS : Nat → Nat) (aG : Nat → Nat) (aL : Nat → Nat) (aU : Nat → Nat) (aV : Nat → Nat) (aB : Nat → Nat) (aH : Nat → Nat) (n : Nat) (oS : OB) (oG : OB) (oL : OB) (oU : OB) (oV : OB) (oB : OB) (oH : HS) (z : (String ⊕ Int32) × (OB) × (HS)) (hf : f5_undo n oS oG oL oU oV oB oH = some z) : Cv l D (tyG cyI cyO cyJ) yX5_undo wsX5_undo rm5_undo [.ref aX] ([(aX, .inr (5, [.ref (aL 0), .ref (aS 0), .ref (aG 0), .ref (aH 0), .ref (aB 0), .ref (aV 0), .ref (aU 0)]))] ++ (bX4 cyI aS oS ++ (bX3 cyI aG oG ++ (bX1 cyI aL oL ++ (bX4 cyI aU oU ++ (bX1 cyI aV oV ++ (bX2 cyI aB oB ++ bHS cyI cyO aH oH))))))) ([(aX, .inr (5, [.ref (aL 0), .ref (aS 0), .ref (aG 0), .ref (aH 0), .ref (aB 0), .ref (aV 0), .ref (aU 0)]))] ++ (bX4 cyI aS oS ++ (bX3 cyI aG oG ++ (bX1 cyI aL z.2.1 ++ (bX4 cyI aU oU ++ (bX1 cyI aV oV ++ (bX2 cyI aB oB ++ bHS cyI cyO aH z.2.2))))))) (oI z.1) := by
  refine Cv.of (cc := cX5_undo) (nL := 1) (ret := (some .int)) (lv := [(0, .ref aX)]) (by decide +kernel) rfl rfl (Nat.le_of_ble_eq_true rfl) ?_
  intro p e s m args below meth c A C CE hte
  have C : Cx p s m args meth c D (tyG cyI cyO cyJ) A RX5 cX5_undo 1 (some .int) wsX5_undo := C
  unfold f5_undo at hf
  refine n_aload_n C dX5_undo_0 0 rfl rfl ?_
  refine n_get (N := 7) C dX5_undo_1 iw5_undo_X5 0 rfl rfl 3 (by decide) (List.mem_of_getElem? (i := 3) rfl) rfl rfl rfl ?_
  refine n_get (N := 2) C dX5_undo_4 iw5_undo_X0 56 rfl rfl 0 (by decide) (List.mem_of_getElem? (i := 4) rfl) rfl rfl rfl ?_
  refine n_if_ne (t := 20) C dX5_undo_7 (by decide) rfl (fun h7 => ?_) (fun h7 => ?_)
  · have hf := iq h7 hf
    refine n_aload_n C dX5_undo_20 0 rfl rfl ?_
    refine n_get (N := 7) C dX5_undo_21 iw5_undo_X5 0 rfl rfl 3 (by decide) (List.mem_of_getElem? (i := 3) rfl) rfl rfl rfl ?_
    refine n_aload_n C dX5_undo_24 0 rfl rfl ?_
    refine n_get (N := 7) C dX5_undo_25 iw5_undo_X5 0 rfl rfl 0 (by decide) (List.mem_of_getElem? (i := 5) rfl) rfl rfl rfl ?_
    obtain ⟨z28, h28, hf⟩ := bi hf
    refine n_callV (As := [.ref (aL 0)]) (rest := []) (w2 := [(aX, .inr (5, [.ref (aL 0), .ref (aS 0), .ref (aG 0), .ref (aH 0), .ref (aB 0), .ref (aV 0), .ref (aU 0)]))] ++ (bX4 cyI aS oS ++ (bX3 cyI aG oG ++ (bX1 cyI aL z28.1 ++ (bX4 cyI aU oU ++ (bX1 cyI aV oV ++ (bX2 cyI aB oB ++ bHS cyI cyO aH z28.2))))))) C dX5_undo_28 (c0_restore l D cyI cyO cyJ aL aH n oL oH z28 h28) (cwV 1 C.ts gX5_undo_X0_restore rfl rfl rfl (by decide +kernel) ⟨Nat.le_of_ble_eq_true rfl, Nat.le_of_ble_eq_true rfl⟩) rfl (q0 := 13) (ci := 0) rfl rfl (Frm.skip (Frm.skip (Frm.skip (Frm.take (Frm.skip (Frm.skip (Frm.skip Frm.self))))))) rfl (Nat.le_of_ble_eq_true rfl) ⟨Nat.le_of_ble_eq_true rfl, Nat.le_of_ble_eq_true rfl⟩ rfl ?_
    refine n_aload_n C dX5_undo_31 0 rfl rfl ?_
    refine n_get (N := 7) C dX5_undo_32 iw5_undo_X5 0 rfl rfl 3 (by decide) (List.mem_of_getElem? (i := 3) rfl) rfl rfl rfl ?_
    refine n_get (N := 2) C dX5_undo_35 iw5_undo_X0 56 rfl rfl 0 (by decide) (List.mem_of_getElem? (i := 4) rfl) rfl rfl rfl ?_
    obtain rfl := Option.some.inj hf
    exact Wn.okV (n_iret C dX5_undo_38)
  · have hf := ip h7 hf
    obtain rfl := Option.some.inj hf
    exact n_throwS (text := "nothing is saved") C CE hls hte dX5_undo_10 dX5_undo_13 dX5_undo_14 dX5_undo_16 dX5_undo_19 (by decide +kernel) (by decide +kernel) (by decide +kernel) (List.mem_of_getElem? (i := 1) rfl) (List.mem_of_getElem? (i := 2) rfl) hat5_undo_110 ng_110 og_110 (Nat.le_of_ble_eq_true rfl) (Nat.le_of_ble_eq_true rfl) (Nat.le_of_ble_eq_true rfl) (Nat.le_of_ble_eq_true rfl)
