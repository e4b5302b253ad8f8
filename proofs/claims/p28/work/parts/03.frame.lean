/-! FRAME: a judgement over a world of cells, its rows, and the form of a contract -/
abbrev vwCl : List vw_C := [(RX0, TX0, 2), (RX1, TX1, 15), (RX2, TX2, 8), (RX3, TX3, 4), (RX4, TX4, 9), (RX5, TX5, 7)]
/-- an object's value: its ints and its rows, by their slots -/
abbrev OB : Type := (Nat → Int32) × (Nat → Nat → Int32)
def gsi (o : OB) (k : Nat) (v : Int32) : OB := (fun j => cond (Nat.beq j k) v (o.1 j), o.2)
def gsa (o : OB) (k : Nat) (f : Nat → Int32) : OB := (o.1, fun j => cond (Nat.beq j k) f (o.2 j))
def ck (i : Int32) (n : Nat) : Bool := decide (¬ i < 0) && decide (i.toNatClampNeg < n)
theorem ck_in {i : Int32} {n : Nat} (h : ck i n = true) : vp_in i n := by
  unfold ck at h
  simp only [Bool.and_eq_true, decide_eq_true_eq] at h
  intro hc
  rcases hc with hc | hc
  · exact h.1 hc
  · exact absurd h.2 (Nat.not_lt.mpr hc)
/-- a row's place is read, where it is in range -/
def ald (n : Nat) (f : Nat → Int32) (i : Int32) : Option Int32 := if ck i n = true then some (f i.toNatClampNeg) else none
def ast (n : Nat) (f : Nat → Int32) (i v : Int32) : Option (Nat → Int32) := if ck i n = true then some (upd f i.toNatClampNeg v) else none
def oast (o : OB) (k n : Nat) (i v : Int32) : Option OB := if ck i n = true then some (gsa o k (upd (o.2 k) i.toNatClampNeg v)) else none
def nz (y : Int32) : Option Unit := if y = 0 then none else some ()
def nn (r : UInt64) : Option UInt64 := if r &&& 0x7fffffffffffffff ≤ 0x7ff0000000000000 then some r else none
def zo (v : Int32) : Option Int32 := if v = 0 ∨ v = 1 then some v else none
theorem ald_some {n : Nat} {f : Nat → Int32} {i x : Int32} (h : ald n f i = some x) : vp_in i n ∧ x = f i.toNatClampNeg := by
  unfold ald at h
  split at h
  · exact ⟨ck_in (by assumption), (Option.some.inj h).symm⟩
  · cases h
theorem ast_some {n : Nat} {f g : Nat → Int32} {i v : Int32} (h : ast n f i v = some g) : vp_in i n ∧ g = upd f i.toNatClampNeg v := by
  unfold ast at h
  split at h
  · exact ⟨ck_in (by assumption), (Option.some.inj h).symm⟩
  · cases h
theorem oast_some {o o' : OB} {k n : Nat} {i v : Int32} (h : oast o k n i v = some o') : vp_in i n ∧ o' = gsa o k (upd (o.2 k) i.toNatClampNeg v) := by
  unfold oast at h
  split at h
  · exact ⟨ck_in (by assumption), (Option.some.inj h).symm⟩
  · cases h
theorem nz_some {y : Int32} {u : Unit} (h : nz y = some u) : ¬ y = 0 := by
  unfold nz at h
  split at h
  · cases h
  · assumption
theorem nn_some {r x : UInt64} (h : nn r = some x) : vf_n64 r ∧ x = r := by
  unfold nn at h
  split at h
  · exact ⟨by assumption, (Option.some.inj h).symm⟩
  · cases h
theorem zo_some {v x : Int32} (h : zo v = some x) : (v = 0 ∨ v = 1) ∧ x = v := by
  unfold zo at h
  split at h
  · exact ⟨by assumption, (Option.some.inj h).symm⟩
  · cases h
theorem zo_nar {v x : Int32} (h : zo v = some x) : narrow .boolean (.int v) = .int v := by rcases (zo_some h).1 with rfl | rfl <;> rfl
theorem zo_fit {v x : Int32} (h : zo v = some x) : fits .boolean (.int v) = true := by rcases (zo_some h).1 with rfl | rfl <;> rfl
theorem bi {α β : Type} {x : Option α} {f : α → Option β} {r : β} (h : x.bind f = some r) : ∃ a, x = some a ∧ f a = some r := Option.bind_eq_some_iff.mp h
theorem ip {c : Prop} [Decidable c] {α : Type} {x y : Option α} {r : α} (h : c) (hf : (if c then x else y) = some r) : x = some r := by rwa [if_pos h] at hf
theorem iq {c : Prop} [Decidable c] {α : Type} {x y : Option α} {r : α} (h : ¬ c) (hf : (if c then x else y) = some r) : y = some r := by rwa [if_neg h] at hf
theorem tsw_out {x : Int32} (lo : Int) (k : Nat) (h : ∀ i : Nat, i < k → ¬ x = Int32.ofInt (lo + i)) : x.toInt < lo ∨ lo + k - 1 < x.toInt := by
  rcases Int.lt_or_le x.toInt lo with h1 | h1
  · exact Or.inl h1
  · rcases Int.lt_or_le (lo + k - 1) x.toInt with h2 | h2
    · exact Or.inr h2
    · exfalso
      refine h (x.toInt - lo).toNat (by omega) ?_
      rw [Int.toNat_of_nonneg (by omega), show lo + (x.toInt - lo) = x.toInt by omega, Int32.ofInt_toInt]
/-- the kinds of rows: ints, leagues, longs -/
abbrev tyG (cyI cyO _cyJ : ClassId) : List (ClassId × FieldType) := [(cyI, .int), (cyO, .object RX1)]
/-- some of a world's cells change, the others stay -/
def Frm (w wc w2 wc' : va_W) : Prop := ∃ wr : va_W, w.Perm (wc ++ wr) ∧ w2.Perm (wc' ++ wr)
theorem Frm.self {w w' : va_W} : Frm w w w' w' := ⟨[], by rw [List.append_nil], by rw [List.append_nil]⟩
theorem Frm.take {x x' w wc w2 wc' : va_W} (h : Frm w wc w2 wc') : Frm (x ++ w) (x ++ wc) (x' ++ w2) (x' ++ wc') := by
  obtain ⟨wr, h1, h2⟩ := h
  exact ⟨wr, by rw [List.append_assoc]; exact List.Perm.append_left x h1, by rw [List.append_assoc]; exact List.Perm.append_left x' h2⟩
theorem Frm.skip {x w wc w2 wc' : va_W} (h : Frm w wc w2 wc') : Frm (x ++ w) wc (x ++ w2) wc' := by
  obtain ⟨wr, h1, h2⟩ := h
  have key : ∀ a b : va_W, (x ++ (a ++ b)).Perm (a ++ (x ++ b)) := fun a b => by
    rw [← List.append_assoc, ← List.append_assoc]
    exact List.Perm.append_right b List.perm_append_comm
  exact ⟨x ++ wr, (List.Perm.append_left x h1).trans (key _ _), (List.Perm.append_left x h2).trans (key _ _)⟩
theorem Frm.here {x x' w : va_W} : Frm (x ++ w) x (x' ++ w) x' := ⟨w, List.Perm.refl _, List.Perm.refl _⟩
theorem Frm.takec {c c' : Nat × va_E} {w wc w2 wc' : va_W} (h : Frm w wc w2 wc') : Frm (c :: w) (c :: wc) (c' :: w2) (c' :: wc') := Frm.take (x := [c]) (x' := [c']) h
theorem Frm.skipc {c : Nat × va_E} {w wc w2 wc' : va_W} (h : Frm w wc w2 wc') : Frm (c :: w) wc (c :: w2) wc' := Frm.skip (x := [c]) h
theorem Frm.none {w : va_W} : Frm w [] w [] := ⟨w, List.Perm.refl _, List.Perm.refl _⟩
theorem P_mem {D : va_G} {ws : va_W} {H : Heap} : va_P D vwCl ws H ↔ ∀ q ∈ ws, va_at D vwCl q H := by
  constructor
  · intro h q hq
    obtain ⟨k, hk⟩ := List.getElem?_of_mem hq
    exact h k q hk
  · intro h k q hk
    exact h q (List.mem_of_getElem? hk)
theorem D_nd {A : Nat → Prop} {ws : va_W} : va_D A ws ↔ (ws.map Prod.fst).Nodup ∧ ∀ q ∈ ws, A q.1 := by
  constructor
  · intro h
    refine ⟨List.pairwise_iff_getElem.mpr fun i j hi hj hij he => ?_, fun q hq => ?_⟩
    · rw [List.length_map] at hi hj
      rw [List.getElem_map, List.getElem_map] at he
      have h1 := h.1 i j ws[i] ws[j] (List.getElem?_eq_getElem hi) (List.getElem?_eq_getElem hj) he
      omega
    · obtain ⟨k, hk⟩ := List.getElem?_of_mem hq
      exact h.2 k q hk
  · rintro ⟨h1, h2⟩
    have key : ∀ (i j : Nat) (p q : Nat × va_E), ws[i]? = some p → ws[j]? = some q → p.1 = q.1 → ¬ i < j := by
      intro i j p q hp hq he hij
      obtain ⟨hi, rfl⟩ := List.getElem?_eq_some_iff.mp hp
      obtain ⟨hj, rfl⟩ := List.getElem?_eq_some_iff.mp hq
      have h3 := List.pairwise_iff_getElem.mp h1 i j (by rw [List.length_map]; exact hi) (by rw [List.length_map]; exact hj) hij
      rw [List.getElem_map, List.getElem_map] at h3
      exact h3 he
    refine ⟨fun i j p q hp hq he => ?_, fun k q hk => h2 q (List.mem_of_getElem? hk)⟩
    have n1 := key i j p q hp hq he
    have n2 := key j i q p hq hp he.symm
    omega
theorem P_perm {D : va_G} {ws ws' : va_W} {H : Heap} (h : ws.Perm ws') (hP : va_P D vwCl ws H) : va_P D vwCl ws' H := P_mem.mpr fun q hq => P_mem.mp hP q (h.mem_iff.mpr hq)
theorem D_perm {A : Nat → Prop} {ws ws' : va_W} (h : ws.Perm ws') (hD : va_D A ws) : va_D A ws' := by
  obtain ⟨h1, h2⟩ := D_nd.mp hD
  exact D_nd.mpr ⟨(h.map Prod.fst).nodup_iff.mp h1, fun q hq => h2 q (h.mem_iff.mpr hq)⟩
/-- which cells may change: only the addresses count -/
theorem A_mem {ws : va_W} {sz q : Nat} : va_A ws sz q ↔ q ∈ ws.map Prod.fst ∨ sz ≤ q := by
  constructor
  · rintro (⟨k, e, h⟩ | h)
    · exact Or.inl (List.mem_map.mpr ⟨(q, e), List.mem_of_getElem? h, rfl⟩)
    · exact Or.inr h
  · rintro (h | h)
    · obtain ⟨p, hp, rfl⟩ := List.mem_map.mp h
      obtain ⟨k, hk⟩ := List.getElem?_of_mem hp
      exact Or.inl ⟨k, p.2, hk⟩
    · exact Or.inr h
/-- the callee's cells out of the caller's -/
theorem Frm.cut {D : va_G} {A : Nat → Prop} {w wc w2 wc' : va_W} {H : Heap} (h : Frm w wc w2 wc') (hP : va_P D vwCl w H) (hD : va_D A w) : va_P D vwCl wc H ∧ va_D A wc := by
  obtain ⟨wr, h1, -⟩ := h
  have hP1 := P_perm h1 hP
  have hD1 := D_nd.mp (D_perm h1 hD)
  rw [List.map_append] at hD1
  exact ⟨P_mem.mpr fun q hq => P_mem.mp hP1 q (List.mem_append_left _ hq), D_nd.mpr ⟨(List.nodup_append.mp hD1.1).1, fun q hq => hD1.2 q (List.mem_append_left _ hq)⟩⟩
/-- and back -/
theorem Frm.join {D : va_G} {A : Nat → Prop} {w wc w2 wc' : va_W} {H H1 : Heap} (h : Frm w wc w2 wc') (hP : va_P D vwCl w H) (hD : va_D A w)
    (hk : ∀ q : Nat, q < H.size → ¬ va_A wc H.size q → H1[q]? = H[q]?) (hF : ∀ q, va_A wc H.size q → A q) (hP1 : va_P D vwCl wc' H1) (hD1 : va_D (va_A wc H.size) wc') : va_P D vwCl w2 H1 ∧ va_D A w2 := by
  obtain ⟨wr, h1, h2⟩ := h
  have hPa := P_perm h1 hP
  have hDa := D_nd.mp (D_perm h1 hD)
  have hDb := D_nd.mp hD1
  rw [List.map_append] at hDa
  obtain ⟨n1, n2, n3⟩ := List.nodup_append.mp hDa.1
  have out : ∀ q ∈ wr, q.1 < H.size ∧ ¬ va_A wc H.size q.1 := by
    intro q hq
    have hl : q.1 < H.size := (P_mem.mp hPa q (List.mem_append_right _ hq)).lt
    refine ⟨hl, fun hA => ?_⟩
    rcases A_mem.mp hA with h | h
    · exact n3 _ h _ (List.mem_map.mpr ⟨q, hq, rfl⟩) rfl
    · omega
  refine ⟨P_perm h2.symm (P_mem.mpr fun q hq => ?_), D_perm h2.symm (D_nd.mpr ⟨?_, fun q hq => ?_⟩)⟩
  · rcases List.mem_append.mp hq with h | h
    · exact P_mem.mp hP1 q h
    · exact (P_mem.mp hPa q (List.mem_append_right _ h)).kept (hk q.1 (out q h).1 (out q h).2)
  · rw [List.map_append]
    refine List.nodup_append.mpr ⟨hDb.1, n2, fun a ha b hb e => ?_⟩
    subst e
    obtain ⟨q, hq, rfl⟩ := List.mem_map.mp hb
    obtain ⟨q', hq', e'⟩ := List.mem_map.mp ha
    exact (out q hq).2 (by rw [← e']; exact hDb.2 q' hq')
  · rcases List.mem_append.mp hq with h | h
    · exact hF _ (hDb.2 q h)
    · exact hDa.2 q (List.mem_append_right _ h)
section FR
variable {p : Program} {l : Launch} {e : Env} {R : Room} {s : State} {m : MethodId} {args : Array Value} {below : List Frame} {meth : Method} {c : Code}
variable {D : va_G} {tys : List (ClassId × FieldType)} {A : Nat → Prop} {nL cells slots : Nat} {Q : State → Prop} {w : va_W} {lv : List (Nat × Value)} {st : List Value}
variable {own : String} {cc : ByteArray} {ret : Option FieldType} {Ts : List Cond} {pc q : Nat}
/-- what stands through a method's whole run -/
def Cx (p : Program) (s : State) (m : MethodId) (args : Array Value) (meth : Method) (c : Code) (D : va_G) (tys : List (ClassId × FieldType)) (A : Nat → Prop) (own : String) (cc : ByteArray) (nL : Nat) (ret : Option FieldType) (Ts : List Cond) : Prop :=
  (p.tables.exec = Jvm.exec ∧ c.code = cc ∧ c.maxLocals = nL ∧ s.vm.findClass own = some m.cls ∧ ∀ w ∈ Ts, w.before args s = true) ∧ va_K D vwCl tys s ∧ (∀ q : Nat, s.heap.size ≤ q → A q) ∧ meth.sig.returnType = ret ∧ meth.locks = false ∧ meth.name = meth.name
/-- from a place of the code, with the world w, the locals lv and the stack st, the method comes to Q -/
def Wn (p : Program) (l : Launch) (e : Env) (R : Room) (s : State) (m : MethodId) (args : Array Value) (below : List Frame) (meth : Method) (c : Code) (D : va_G) (A : Nat → Prop) (nL cells slots : Nat) (Q : State → Prop) (w : va_W) (pc : Nat) (lv : List (Nat × Value)) (st : List Value) : Prop :=
  ∀ (H : Heap) (locs : List Loc) (ls : Array Slot), va_P D vwCl w H → va_D A w → va_S A s.heap H locs → lv_has ls nL lv → W p l e R s m args below meth c H locs cells slots Q (F0 m pc ls st)
theorem Cx.x (C : Cx p s m args meth c D tys A own cc nL ret Ts) : p.tables.exec = Jvm.exec := C.1.1
theorem Cx.b (C : Cx p s m args meth c D tys A own cc nL ret Ts) : c.code = cc := C.1.2.1
theorem Cx.ow (C : Cx p s m args meth c D tys A own cc nL ret Ts) : s.vm.findClass own = some m.cls := C.1.2.2.2.1
theorem Cx.ts (C : Cx p s m args meth c D tys A own cc nL ret Ts) : ∀ w ∈ Ts, w.before args s = true := C.1.2.2.2.2
theorem Cx.K (C : Cx p s m args meth c D tys A own cc nL ret Ts) : va_K D vwCl tys s := C.2.1
theorem Cx.al (C : Cx p s m args meth c D tys A own cc nL ret Ts) : ∀ q : Nat, s.heap.size ≤ q → A q := C.2.2.1
theorem Cx.r (C : Cx p s m args meth c D tys A own cc nL ret Ts) : meth.sig.returnType = ret := C.2.2.2.1
theorem Cx.k (C : Cx p s m args meth c D tys A own cc nL ret Ts) : meth.locks = false := C.2.2.2.2.1
/-- the same with another way to write the world -/
theorem Wn.cast {w2 : va_W} (h : w2 = w) (k : Wn p l e R s m args below meth c D A nL cells slots Q w pc lv st) : Wn p l e R s m args below meth c D A nL cells slots Q w2 pc lv st := h ▸ k
/-- fewer locals -/
theorem Wn.sub {lv' : List (Nat × Value)} (ks : List Nat) (h : lv_pick lv ks = lv') (k : Wn p l e R s m args below meth c D A nL cells slots Q w pc lv' st) : Wn p l e R s m args below meth c D A nL cells slots Q w pc lv st :=
  fun H locs ls hP hD hS hl => k H locs ls hP hD hS (lv_sub hl ks h)
theorem Wn.widen {k n : Nat} (h1 : cells ≤ k) (h2 : slots ≤ n) (kk : Wn p l e R s m args below meth c D A nL k n Q w pc lv st) : Wn p l e R s m args below meth c D A nL cells slots Q w pc lv st :=
  fun H locs ls hP hD hS hl => W.widen h1 h2 (kk H locs ls hP hD hS hl)
theorem n_iconst (C : Cx p s m args meth c D tys A own cc nL ret Ts) {n : Int} {v : Int32} (hdg : decode cc pc = .ok (.iconst n, 1)) (hv : Int32.ofInt n = v) (hq : pc + 1 = q) (k : Wn p l e R s m args below meth c D A nL cells slots Q w q lv (.int v :: st)) : Wn p l e R s m args below meth c D A nL cells slots Q w pc lv (st) := by subst hq; exact fun H locs ls hP hD hS hl => lv_iconst C.x C.b hdg hv (k H locs ls hP hD hS hl)
theorem n_bipush (C : Cx p s m args meth c D tys A own cc nL ret Ts) {n : Int} {v : Int32} (hdg : decode cc pc = .ok (.bipush n, 2)) (hv : (Int8.ofInt n).toInt32 = v) (hq : pc + 2 = q) (k : Wn p l e R s m args below meth c D A nL cells slots Q w q lv (.int v :: st)) : Wn p l e R s m args below meth c D A nL cells slots Q w pc lv (st) := by subst hq; exact fun H locs ls hP hD hS hl => lv_bipush C.x C.b hdg hv (k H locs ls hP hD hS hl)
theorem n_sipush (C : Cx p s m args meth c D tys A own cc nL ret Ts) {n : Int} {v : Int32} (hdg : decode cc pc = .ok (.sipush n, 3)) (hv : (Int16.ofInt n).toInt32 = v) (hq : pc + 3 = q) (k : Wn p l e R s m args below meth c D A nL cells slots Q w q lv (.int v :: st)) : Wn p l e R s m args below meth c D A nL cells slots Q w pc lv (st) := by subst hq; exact fun H locs ls hP hD hS hl => lv_sipush C.x C.b hdg hv (k H locs ls hP hD hS hl)
theorem n_lconst (C : Cx p s m args meth c D tys A own cc nL ret Ts) {n : Fin 2} {v : Int64} (hdg : decode cc pc = .ok (.lconst n, 1)) (hv : Int64.ofNat (n : Nat) = v) (hq : pc + 1 = q) (k : Wn p l e R s m args below meth c D A nL cells slots Q w q lv (.long v :: st)) : Wn p l e R s m args below meth c D A nL cells slots Q w pc lv (st) := by subst hq; exact fun H locs ls hP hD hS hl => lv_lconst C.x C.b hdg hv (k H locs ls hP hD hS hl)
theorem n_dconst0 (C : Cx p s m args meth c D tys A own cc nL ret Ts)  (hdg : decode cc pc = .ok (.dconst 0, 1))  (hq : pc + 1 = q) (k : Wn p l e R s m args below meth c D A nL cells slots Q w q lv (.double FP.dconst0 :: st)) : Wn p l e R s m args below meth c D A nL cells slots Q w pc lv (st) := by subst hq; exact fun H locs ls hP hD hS hl => lv_dconst0 C.x C.b hdg (k H locs ls hP hD hS hl)
theorem n_dconst1 (C : Cx p s m args meth c D tys A own cc nL ret Ts)  (hdg : decode cc pc = .ok (.dconst 1, 1))  (hq : pc + 1 = q) (k : Wn p l e R s m args below meth c D A nL cells slots Q w q lv (.double FP.dconst1 :: st)) : Wn p l e R s m args below meth c D A nL cells slots Q w pc lv (st) := by subst hq; exact fun H locs ls hP hD hS hl => lv_dconst1 C.x C.b hdg (k H locs ls hP hD hS hl)
theorem n_ldc2 (C : Cx p s m args meth c D tys A own cc nL ret Ts) {index : Nat} {v : Int64} (hdg : decode cc pc = .ok (.ldc2_w index, 3)) (hc : Jvm.Cond.constantLong own index v ∈ Ts) (hq : pc + 3 = q) (k : Wn p l e R s m args below meth c D A nL cells slots Q w q lv (.long v :: st)) : Wn p l e R s m args below meth c D A nL cells slots Q w pc lv (st) := by subst hq; exact fun H locs ls hP hD hS hl => lv_ldc2 C.x C.b C.ow (C.ts _ hc) hdg (k H locs ls hP hD hS hl)
theorem n_ldc2d (C : Cx p s m args meth c D tys A own cc nL ret Ts) {index : Nat} {v : UInt64} (hdg : decode cc pc = .ok (.ldc2_w index, 3)) (hc : Jvm.Cond.constantDouble own index v ∈ Ts) (hq : pc + 3 = q) (k : Wn p l e R s m args below meth c D A nL cells slots Q w q lv (.double v :: st)) : Wn p l e R s m args below meth c D A nL cells slots Q w pc lv (st) := by subst hq; exact fun H locs ls hP hD hS hl => lv_ldc2d C.x C.b C.ow (C.ts _ hc) hdg (k H locs ls hP hD hS hl)
theorem n_iload_n (C : Cx p s m args meth c D tys A own cc nL ret Ts) {k : Fin 4} {x : Int32} (hdg : decode cc pc = .ok (.iload_n k, 1)) (j : Nat) (hj : lv[j]? = some ((k : Nat), .int x)) (hq : pc + 1 = q) (kk : Wn p l e R s m args below meth c D A nL cells slots Q w q lv (.int x :: st)) : Wn p l e R s m args below meth c D A nL cells slots Q w pc lv (st) := by subst hq; exact fun H locs ls hP hD hS hl => lv_iload_n C.x C.b hdg rfl (lv_at hl j hj) (kk H locs ls hP hD hS hl)
theorem n_iload (C : Cx p s m args meth c D tys A own cc nL ret Ts) {i : Nat} {x : Int32} (hdg : decode cc pc = .ok (.iload i, 2)) (j : Nat) (hj : lv[j]? = some (i, .int x)) (hq : pc + 2 = q) (kk : Wn p l e R s m args below meth c D A nL cells slots Q w q lv (.int x :: st)) : Wn p l e R s m args below meth c D A nL cells slots Q w pc lv (st) := by subst hq; exact fun H locs ls hP hD hS hl => lv_iload C.x C.b hdg (lv_at hl j hj) (kk H locs ls hP hD hS hl)
theorem n_istore_n (C : Cx p s m args meth c D tys A own cc nL ret Ts) {k : Fin 4} {x : Int32} {lv' : List (Nat × Value)} (hdg : decode cc pc = .ok (.istore_n k, 1)) (hn : (k : Nat) < nL) (hv : ((k : Nat), Value.int x) :: lv.filter (fun q => !(q.1 == (k : Nat)) && !(q.1 + 1 == (k : Nat) && q.2.category == 2)) = lv') (hq : pc + 1 = q) (kk : Wn p l e R s m args below meth c D A nL cells slots Q w q lv' (st)) : Wn p l e R s m args below meth c D A nL cells slots Q w pc lv (.int x :: st) := by subst hq; exact fun H locs ls hP hD hS hl => lv_istore_n C.x C.b hdg rfl hl hn hv (fun ls' hl' => kk H locs ls' hP hD hS hl')
theorem n_istore (C : Cx p s m args meth c D tys A own cc nL ret Ts) {i : Nat} {x : Int32} {lv' : List (Nat × Value)} (hdg : decode cc pc = .ok (.istore i, 2)) (hn : i < nL) (hv : (i, Value.int x) :: lv.filter (fun q => !(q.1 == i) && !(q.1 + 1 == i && q.2.category == 2)) = lv') (hq : pc + 2 = q) (kk : Wn p l e R s m args below meth c D A nL cells slots Q w q lv' (st)) : Wn p l e R s m args below meth c D A nL cells slots Q w pc lv (.int x :: st) := by subst hq; exact fun H locs ls hP hD hS hl => lv_istore C.x C.b hdg hl hn hv (fun ls' hl' => kk H locs ls' hP hD hS hl')
theorem n_lload_n (C : Cx p s m args meth c D tys A own cc nL ret Ts) {k : Fin 4} {x : Int64} (hdg : decode cc pc = .ok (.lload_n k, 1)) (j : Nat) (hj : lv[j]? = some ((k : Nat), .long x)) (hq : pc + 1 = q) (kk : Wn p l e R s m args below meth c D A nL cells slots Q w q lv (.long x :: st)) : Wn p l e R s m args below meth c D A nL cells slots Q w pc lv (st) := by subst hq; exact fun H locs ls hP hD hS hl => lv_lload_n C.x C.b hdg rfl (lv_at hl j hj) (kk H locs ls hP hD hS hl)
theorem n_lload (C : Cx p s m args meth c D tys A own cc nL ret Ts) {i : Nat} {x : Int64} (hdg : decode cc pc = .ok (.lload i, 2)) (j : Nat) (hj : lv[j]? = some (i, .long x)) (hq : pc + 2 = q) (kk : Wn p l e R s m args below meth c D A nL cells slots Q w q lv (.long x :: st)) : Wn p l e R s m args below meth c D A nL cells slots Q w pc lv (st) := by subst hq; exact fun H locs ls hP hD hS hl => lv_lload C.x C.b hdg (lv_at hl j hj) (kk H locs ls hP hD hS hl)
theorem n_lstore_n (C : Cx p s m args meth c D tys A own cc nL ret Ts) {k : Fin 4} {x : Int64} {lv' : List (Nat × Value)} (hdg : decode cc pc = .ok (.lstore_n k, 1)) (hn : (k : Nat) + 1 < nL) (hv : ((k : Nat), Value.long x) :: lv.filter (fun q => !(q.1 == (k : Nat)) && (!(q.1 == (k : Nat) + 1) && !(q.1 + 1 == (k : Nat) && q.2.category == 2))) = lv') (hq : pc + 1 = q) (kk : Wn p l e R s m args below meth c D A nL cells slots Q w q lv' (st)) : Wn p l e R s m args below meth c D A nL cells slots Q w pc lv (.long x :: st) := by subst hq; exact fun H locs ls hP hD hS hl => lv_lstore_n C.x C.b hdg rfl hl hn hv (fun ls' hl' => kk H locs ls' hP hD hS hl')
theorem n_lstore (C : Cx p s m args meth c D tys A own cc nL ret Ts) {i : Nat} {x : Int64} {lv' : List (Nat × Value)} (hdg : decode cc pc = .ok (.lstore i, 2)) (hn : i + 1 < nL) (hv : (i, Value.long x) :: lv.filter (fun q => !(q.1 == i) && (!(q.1 == i + 1) && !(q.1 + 1 == i && q.2.category == 2))) = lv') (hq : pc + 2 = q) (kk : Wn p l e R s m args below meth c D A nL cells slots Q w q lv' (st)) : Wn p l e R s m args below meth c D A nL cells slots Q w pc lv (.long x :: st) := by subst hq; exact fun H locs ls hP hD hS hl => lv_lstore C.x C.b hdg hl hn hv (fun ls' hl' => kk H locs ls' hP hD hS hl')
theorem n_aload_n (C : Cx p s m args meth c D tys A own cc nL ret Ts) {k : Fin 4} {x : Nat} (hdg : decode cc pc = .ok (.aload_n k, 1)) (j : Nat) (hj : lv[j]? = some ((k : Nat), .ref x)) (hq : pc + 1 = q) (kk : Wn p l e R s m args below meth c D A nL cells slots Q w q lv (.ref x :: st)) : Wn p l e R s m args below meth c D A nL cells slots Q w pc lv (st) := by subst hq; exact fun H locs ls hP hD hS hl => lv_aload_n C.x C.b hdg rfl (lv_at hl j hj) (kk H locs ls hP hD hS hl)
theorem n_aload (C : Cx p s m args meth c D tys A own cc nL ret Ts) {i : Nat} {x : Nat} (hdg : decode cc pc = .ok (.aload i, 2)) (j : Nat) (hj : lv[j]? = some (i, .ref x)) (hq : pc + 2 = q) (kk : Wn p l e R s m args below meth c D A nL cells slots Q w q lv (.ref x :: st)) : Wn p l e R s m args below meth c D A nL cells slots Q w pc lv (st) := by subst hq; exact fun H locs ls hP hD hS hl => lv_aload C.x C.b hdg (lv_at hl j hj) (kk H locs ls hP hD hS hl)
theorem n_astore_n (C : Cx p s m args meth c D tys A own cc nL ret Ts) {k : Fin 4} {x : Nat} {lv' : List (Nat × Value)} (hdg : decode cc pc = .ok (.astore_n k, 1)) (hn : (k : Nat) < nL) (hv : ((k : Nat), Value.ref x) :: lv.filter (fun q => !(q.1 == (k : Nat)) && !(q.1 + 1 == (k : Nat) && q.2.category == 2)) = lv') (hq : pc + 1 = q) (kk : Wn p l e R s m args below meth c D A nL cells slots Q w q lv' (st)) : Wn p l e R s m args below meth c D A nL cells slots Q w pc lv (.ref x :: st) := by subst hq; exact fun H locs ls hP hD hS hl => lv_astore_n C.x C.b hdg rfl hl hn hv (fun ls' hl' => kk H locs ls' hP hD hS hl')
theorem n_astore (C : Cx p s m args meth c D tys A own cc nL ret Ts) {i : Nat} {x : Nat} {lv' : List (Nat × Value)} (hdg : decode cc pc = .ok (.astore i, 2)) (hn : i < nL) (hv : (i, Value.ref x) :: lv.filter (fun q => !(q.1 == i) && !(q.1 + 1 == i && q.2.category == 2)) = lv') (hq : pc + 2 = q) (kk : Wn p l e R s m args below meth c D A nL cells slots Q w q lv' (st)) : Wn p l e R s m args below meth c D A nL cells slots Q w pc lv (.ref x :: st) := by subst hq; exact fun H locs ls hP hD hS hl => lv_astore C.x C.b hdg hl hn hv (fun ls' hl' => kk H locs ls' hP hD hS hl')
theorem n_dload_n (C : Cx p s m args meth c D tys A own cc nL ret Ts) {k : Fin 4} {x : UInt64} (hdg : decode cc pc = .ok (.dload_n k, 1)) (j : Nat) (hj : lv[j]? = some ((k : Nat), .double x)) (hq : pc + 1 = q) (kk : Wn p l e R s m args below meth c D A nL cells slots Q w q lv (.double x :: st)) : Wn p l e R s m args below meth c D A nL cells slots Q w pc lv (st) := by subst hq; exact fun H locs ls hP hD hS hl => lv_dload_n C.x C.b hdg rfl (lv_at hl j hj) (kk H locs ls hP hD hS hl)
theorem n_dload (C : Cx p s m args meth c D tys A own cc nL ret Ts) {i : Nat} {x : UInt64} (hdg : decode cc pc = .ok (.dload i, 2)) (j : Nat) (hj : lv[j]? = some (i, .double x)) (hq : pc + 2 = q) (kk : Wn p l e R s m args below meth c D A nL cells slots Q w q lv (.double x :: st)) : Wn p l e R s m args below meth c D A nL cells slots Q w pc lv (st) := by subst hq; exact fun H locs ls hP hD hS hl => lv_dload C.x C.b hdg (lv_at hl j hj) (kk H locs ls hP hD hS hl)
theorem n_dstore_n (C : Cx p s m args meth c D tys A own cc nL ret Ts) {k : Fin 4} {x : UInt64} {lv' : List (Nat × Value)} (hdg : decode cc pc = .ok (.dstore_n k, 1)) (hn : (k : Nat) + 1 < nL) (hv : ((k : Nat), Value.double x) :: lv.filter (fun q => !(q.1 == (k : Nat)) && (!(q.1 == (k : Nat) + 1) && !(q.1 + 1 == (k : Nat) && q.2.category == 2))) = lv') (hq : pc + 1 = q) (kk : Wn p l e R s m args below meth c D A nL cells slots Q w q lv' (st)) : Wn p l e R s m args below meth c D A nL cells slots Q w pc lv (.double x :: st) := by subst hq; exact fun H locs ls hP hD hS hl => lv_dstore_n C.x C.b hdg rfl hl hn hv (fun ls' hl' => kk H locs ls' hP hD hS hl')
theorem n_dstore (C : Cx p s m args meth c D tys A own cc nL ret Ts) {i : Nat} {x : UInt64} {lv' : List (Nat × Value)} (hdg : decode cc pc = .ok (.dstore i, 2)) (hn : i + 1 < nL) (hv : (i, Value.double x) :: lv.filter (fun q => !(q.1 == i) && (!(q.1 == i + 1) && !(q.1 + 1 == i && q.2.category == 2))) = lv') (hq : pc + 2 = q) (kk : Wn p l e R s m args below meth c D A nL cells slots Q w q lv' (st)) : Wn p l e R s m args below meth c D A nL cells slots Q w pc lv (.double x :: st) := by subst hq; exact fun H locs ls hP hD hS hl => lv_dstore C.x C.b hdg hl hn hv (fun ls' hl' => kk H locs ls' hP hD hS hl')
theorem n_iinc (C : Cx p s m args meth c D tys A own cc nL ret Ts) {i j : Nat} {n : Int} {x v : Int32} {lv' : List (Nat × Value)} (hdg : decode cc pc = .ok (.iinc i n, 3)) (hj : lv[j]? = some (i, .int x)) (hv : x + Int32.ofInt n = v) (hn : i < nL) (hl' : (i, Value.int v) :: lv.filter (fun q => !(q.1 == i) && !(q.1 + 1 == i && q.2.category == 2)) = lv') (hq : pc + 3 = q) (kk : Wn p l e R s m args below meth c D A nL cells slots Q w q lv' (st)) : Wn p l e R s m args below meth c D A nL cells slots Q w pc lv (st) := by subst hq; exact fun H locs ls hP hD hS hl => lv_iinc C.x C.b hdg hl hj hv hn hl' (fun ls' h => kk H locs ls' hP hD hS h)
theorem n_iadd (C : Cx p s m args meth c D tys A own cc nL ret Ts) {x y : Int32} (hdg : decode cc pc = .ok (.iadd, 1))  (hq : pc + 1 = q) (k : Wn p l e R s m args below meth c D A nL cells slots Q w q lv (.int (x + y) :: st)) : Wn p l e R s m args below meth c D A nL cells slots Q w pc lv (.int y :: .int x :: st) := by subst hq; exact fun H locs ls hP hD hS hl => lv_iadd C.x C.b hdg (k H locs ls hP hD hS hl)
theorem n_isub (C : Cx p s m args meth c D tys A own cc nL ret Ts) {x y : Int32} (hdg : decode cc pc = .ok (.isub, 1))  (hq : pc + 1 = q) (k : Wn p l e R s m args below meth c D A nL cells slots Q w q lv (.int (x - y) :: st)) : Wn p l e R s m args below meth c D A nL cells slots Q w pc lv (.int y :: .int x :: st) := by subst hq; exact fun H locs ls hP hD hS hl => lv_isub C.x C.b hdg (k H locs ls hP hD hS hl)
theorem n_imul (C : Cx p s m args meth c D tys A own cc nL ret Ts) {x y : Int32} (hdg : decode cc pc = .ok (.imul, 1))  (hq : pc + 1 = q) (k : Wn p l e R s m args below meth c D A nL cells slots Q w q lv (.int (x * y) :: st)) : Wn p l e R s m args below meth c D A nL cells slots Q w pc lv (.int y :: .int x :: st) := by subst hq; exact fun H locs ls hP hD hS hl => lv_imul C.x C.b hdg (k H locs ls hP hD hS hl)
theorem n_iand (C : Cx p s m args meth c D tys A own cc nL ret Ts) {x y : Int32} (hdg : decode cc pc = .ok (.iand, 1))  (hq : pc + 1 = q) (k : Wn p l e R s m args below meth c D A nL cells slots Q w q lv (.int (x &&& y) :: st)) : Wn p l e R s m args below meth c D A nL cells slots Q w pc lv (.int y :: .int x :: st) := by subst hq; exact fun H locs ls hP hD hS hl => lv_iand C.x C.b hdg (k H locs ls hP hD hS hl)
theorem n_ior (C : Cx p s m args meth c D tys A own cc nL ret Ts) {x y : Int32} (hdg : decode cc pc = .ok (.ior, 1))  (hq : pc + 1 = q) (k : Wn p l e R s m args below meth c D A nL cells slots Q w q lv (.int (x ||| y) :: st)) : Wn p l e R s m args below meth c D A nL cells slots Q w pc lv (.int y :: .int x :: st) := by subst hq; exact fun H locs ls hP hD hS hl => lv_ior C.x C.b hdg (k H locs ls hP hD hS hl)
theorem n_ixor (C : Cx p s m args meth c D tys A own cc nL ret Ts) {x y : Int32} (hdg : decode cc pc = .ok (.ixor, 1))  (hq : pc + 1 = q) (k : Wn p l e R s m args below meth c D A nL cells slots Q w q lv (.int (x ^^^ y) :: st)) : Wn p l e R s m args below meth c D A nL cells slots Q w pc lv (.int y :: .int x :: st) := by subst hq; exact fun H locs ls hP hD hS hl => lv_ixor C.x C.b hdg (k H locs ls hP hD hS hl)
theorem n_ishl (C : Cx p s m args meth c D tys A own cc nL ret Ts) {x y : Int32} (hdg : decode cc pc = .ok (.ishl, 1))  (hq : pc + 1 = q) (k : Wn p l e R s m args below meth c D A nL cells slots Q w q lv (.int (x <<< (y &&& 31)) :: st)) : Wn p l e R s m args below meth c D A nL cells slots Q w pc lv (.int y :: .int x :: st) := by subst hq; exact fun H locs ls hP hD hS hl => lv_ishl C.x C.b hdg (k H locs ls hP hD hS hl)
theorem n_ishr (C : Cx p s m args meth c D tys A own cc nL ret Ts) {x y : Int32} (hdg : decode cc pc = .ok (.ishr, 1))  (hq : pc + 1 = q) (k : Wn p l e R s m args below meth c D A nL cells slots Q w q lv (.int (x >>> (y &&& 31)) :: st)) : Wn p l e R s m args below meth c D A nL cells slots Q w pc lv (.int y :: .int x :: st) := by subst hq; exact fun H locs ls hP hD hS hl => lv_ishr C.x C.b hdg (k H locs ls hP hD hS hl)
theorem n_idiv (C : Cx p s m args meth c D tys A own cc nL ret Ts) {x y : Int32} (hdg : decode cc pc = .ok (.idiv, 1)) (hne : ¬ y = 0) (hq : pc + 1 = q) (k : Wn p l e R s m args below meth c D A nL cells slots Q w q lv (.int (x / y) :: st)) : Wn p l e R s m args below meth c D A nL cells slots Q w pc lv (.int y :: .int x :: st) := by subst hq; exact fun H locs ls hP hD hS hl => lv_idiv C.x C.b hdg hne (k H locs ls hP hD hS hl)
theorem n_irem (C : Cx p s m args meth c D tys A own cc nL ret Ts) {x y : Int32} (hdg : decode cc pc = .ok (.irem, 1)) (hne : ¬ y = 0) (hq : pc + 1 = q) (k : Wn p l e R s m args below meth c D A nL cells slots Q w q lv (.int (x - x / y * y) :: st)) : Wn p l e R s m args below meth c D A nL cells slots Q w pc lv (.int y :: .int x :: st) := by subst hq; exact fun H locs ls hP hD hS hl => lv_irem C.x C.b hdg hne (k H locs ls hP hD hS hl)
theorem n_ladd (C : Cx p s m args meth c D tys A own cc nL ret Ts) {x y : Int64} (hdg : decode cc pc = .ok (.ladd, 1))  (hq : pc + 1 = q) (k : Wn p l e R s m args below meth c D A nL cells slots Q w q lv (.long (x + y) :: st)) : Wn p l e R s m args below meth c D A nL cells slots Q w pc lv (.long y :: .long x :: st) := by subst hq; exact fun H locs ls hP hD hS hl => lv_ladd C.x C.b hdg (k H locs ls hP hD hS hl)
theorem n_lsub (C : Cx p s m args meth c D tys A own cc nL ret Ts) {x y : Int64} (hdg : decode cc pc = .ok (.lsub, 1))  (hq : pc + 1 = q) (k : Wn p l e R s m args below meth c D A nL cells slots Q w q lv (.long (x - y) :: st)) : Wn p l e R s m args below meth c D A nL cells slots Q w pc lv (.long y :: .long x :: st) := by subst hq; exact fun H locs ls hP hD hS hl => lv_lsub C.x C.b hdg (k H locs ls hP hD hS hl)
theorem n_lmul (C : Cx p s m args meth c D tys A own cc nL ret Ts) {x y : Int64} (hdg : decode cc pc = .ok (.lmul, 1))  (hq : pc + 1 = q) (k : Wn p l e R s m args below meth c D A nL cells slots Q w q lv (.long (x * y) :: st)) : Wn p l e R s m args below meth c D A nL cells slots Q w pc lv (.long y :: .long x :: st) := by subst hq; exact fun H locs ls hP hD hS hl => lv_lmul C.x C.b hdg (k H locs ls hP hD hS hl)
theorem n_land (C : Cx p s m args meth c D tys A own cc nL ret Ts) {x y : Int64} (hdg : decode cc pc = .ok (.land, 1))  (hq : pc + 1 = q) (k : Wn p l e R s m args below meth c D A nL cells slots Q w q lv (.long (x &&& y) :: st)) : Wn p l e R s m args below meth c D A nL cells slots Q w pc lv (.long y :: .long x :: st) := by subst hq; exact fun H locs ls hP hD hS hl => lv_land C.x C.b hdg (k H locs ls hP hD hS hl)
theorem n_lor (C : Cx p s m args meth c D tys A own cc nL ret Ts) {x y : Int64} (hdg : decode cc pc = .ok (.lor, 1))  (hq : pc + 1 = q) (k : Wn p l e R s m args below meth c D A nL cells slots Q w q lv (.long (x ||| y) :: st)) : Wn p l e R s m args below meth c D A nL cells slots Q w pc lv (.long y :: .long x :: st) := by subst hq; exact fun H locs ls hP hD hS hl => lv_lor C.x C.b hdg (k H locs ls hP hD hS hl)
theorem n_lxor (C : Cx p s m args meth c D tys A own cc nL ret Ts) {x y : Int64} (hdg : decode cc pc = .ok (.lxor, 1))  (hq : pc + 1 = q) (k : Wn p l e R s m args below meth c D A nL cells slots Q w q lv (.long (x ^^^ y) :: st)) : Wn p l e R s m args below meth c D A nL cells slots Q w pc lv (.long y :: .long x :: st) := by subst hq; exact fun H locs ls hP hD hS hl => lv_lxor C.x C.b hdg (k H locs ls hP hD hS hl)
theorem n_ineg (C : Cx p s m args meth c D tys A own cc nL ret Ts) {x : Int32} (hdg : decode cc pc = .ok (.ineg, 1))  (hq : pc + 1 = q) (k : Wn p l e R s m args below meth c D A nL cells slots Q w q lv (.int (-x) :: st)) : Wn p l e R s m args below meth c D A nL cells slots Q w pc lv (.int x :: st) := by subst hq; exact fun H locs ls hP hD hS hl => lv_ineg C.x C.b hdg (k H locs ls hP hD hS hl)
theorem n_lshl (C : Cx p s m args meth c D tys A own cc nL ret Ts) {x : Int64} {y : Int32} (hdg : decode cc pc = .ok (.lshl, 1))  (hq : pc + 1 = q) (k : Wn p l e R s m args below meth c D A nL cells slots Q w q lv (.long (x <<< (y.toInt64 &&& 63)) :: st)) : Wn p l e R s m args below meth c D A nL cells slots Q w pc lv (.int y :: .long x :: st) := by subst hq; exact fun H locs ls hP hD hS hl => lv_lshl C.x C.b hdg rfl (k H locs ls hP hD hS hl)
theorem n_i2l (C : Cx p s m args meth c D tys A own cc nL ret Ts) {x : Int32} (hdg : decode cc pc = .ok (.i2l, 1))  (hq : pc + 1 = q) (k : Wn p l e R s m args below meth c D A nL cells slots Q w q lv (.long x.toInt64 :: st)) : Wn p l e R s m args below meth c D A nL cells slots Q w pc lv (.int x :: st) := by subst hq; exact fun H locs ls hP hD hS hl => lv_i2l C.x C.b hdg rfl (k H locs ls hP hD hS hl)
theorem n_i2d (C : Cx p s m args meth c D tys A own cc nL ret Ts) {x : Int32} (hdg : decode cc pc = .ok (.i2d, 1))  (hq : pc + 1 = q) (k : Wn p l e R s m args below meth c D A nL cells slots Q w q lv (.double (FP.i2d x) :: st)) : Wn p l e R s m args below meth c D A nL cells slots Q w pc lv (.int x :: st) := by subst hq; exact fun H locs ls hP hD hS hl => lv_i2d C.x C.b hdg (k H locs ls hP hD hS hl)
theorem n_d2l (C : Cx p s m args meth c D tys A own cc nL ret Ts) {x : UInt64} (hdg : decode cc pc = .ok (.d2l, 1))  (hq : pc + 1 = q) (k : Wn p l e R s m args below meth c D A nL cells slots Q w q lv (.long (FP.d2l x) :: st)) : Wn p l e R s m args below meth c D A nL cells slots Q w pc lv (.double x :: st) := by subst hq; exact fun H locs ls hP hD hS hl => lv_d2l C.x C.b hdg (k H locs ls hP hD hS hl)
theorem n_l2d (C : Cx p s m args meth c D tys A own cc nL ret Ts) {x : Int64} (hdg : decode cc pc = .ok (.l2d, 1))  (hq : pc + 1 = q) (k : Wn p l e R s m args below meth c D A nL cells slots Q w q lv (.double (FP.l2d x) :: st)) : Wn p l e R s m args below meth c D A nL cells slots Q w pc lv (.long x :: st) := by subst hq; exact fun H locs ls hP hD hS hl => lv_l2d C.x C.b hdg (k H locs ls hP hD hS hl)
theorem n_dneg (C : Cx p s m args meth c D tys A own cc nL ret Ts) {x : UInt64} (hdg : decode cc pc = .ok (.dneg, 1))  (hq : pc + 1 = q) (k : Wn p l e R s m args below meth c D A nL cells slots Q w q lv (.double (FP.dneg x) :: st)) : Wn p l e R s m args below meth c D A nL cells slots Q w pc lv (.double x :: st) := by subst hq; exact fun H locs ls hP hD hS hl => lv_dneg C.x C.b hdg (k H locs ls hP hD hS hl)
theorem n_ddiv (C : Cx p s m args meth c D tys A own cc nL ret Ts) {x y : UInt64} (hdg : decode cc pc = .ok (.ddiv, 1)) (hne : vf_n64 (FP.ddiv x y)) (hq : pc + 1 = q) (k : Wn p l e R s m args below meth c D A nL cells slots Q w q lv (.double (FP.ddiv x y) :: st)) : Wn p l e R s m args below meth c D A nL cells slots Q w pc lv (.double y :: .double x :: st) := by subst hq; exact fun H locs ls hP hD hS hl => lv_ddiv C.x C.b hdg hne (k H locs ls hP hD hS hl)
theorem n_dmul (C : Cx p s m args meth c D tys A own cc nL ret Ts) {x y : UInt64} (hdg : decode cc pc = .ok (.dmul, 1)) (hne : vf_n64 (FP.dmul x y)) (hq : pc + 1 = q) (k : Wn p l e R s m args below meth c D A nL cells slots Q w q lv (.double (FP.dmul x y) :: st)) : Wn p l e R s m args below meth c D A nL cells slots Q w pc lv (.double y :: .double x :: st) := by subst hq; exact fun H locs ls hP hD hS hl => lv_dmul C.x C.b hdg hne (k H locs ls hP hD hS hl)
theorem n_dsub (C : Cx p s m args meth c D tys A own cc nL ret Ts) {x y : UInt64} (hdg : decode cc pc = .ok (.dsub, 1)) (hne : vf_n64 (FP.dsub x y)) (hq : pc + 1 = q) (k : Wn p l e R s m args below meth c D A nL cells slots Q w q lv (.double (FP.dsub x y) :: st)) : Wn p l e R s m args below meth c D A nL cells slots Q w pc lv (.double y :: .double x :: st) := by subst hq; exact fun H locs ls hP hD hS hl => lv_dsub C.x C.b hdg hne (k H locs ls hP hD hS hl)
theorem n_dadd (C : Cx p s m args meth c D tys A own cc nL ret Ts) {x y : UInt64} (hdg : decode cc pc = .ok (.dadd, 1)) (hne : vf_n64 (FP.dadd x y)) (hq : pc + 1 = q) (k : Wn p l e R s m args below meth c D A nL cells slots Q w q lv (.double (FP.dadd x y) :: st)) : Wn p l e R s m args below meth c D A nL cells slots Q w pc lv (.double y :: .double x :: st) := by subst hq; exact fun H locs ls hP hD hS hl => lv_dadd C.x C.b hdg hne (k H locs ls hP hD hS hl)
theorem n_dcmp (C : Cx p s m args meth c D tys A own cc nL ret Ts) {x y : UInt64} {op : CmpOp} (hdg : decode cc pc = .ok (.dcmp op, 1))  (hq : pc + 1 = q) (k : Wn p l e R s m args below meth c D A nL cells slots Q w q lv (.int (Op.cmpValue (FP.dcmp x y) op) :: st)) : Wn p l e R s m args below meth c D A nL cells slots Q w pc lv (.double y :: .double x :: st) := by subst hq; exact fun H locs ls hP hD hS hl => lv_dcmp C.x C.b hdg (k H locs ls hP hD hS hl)
theorem n_dup (C : Cx p s m args meth c D tys A own cc nL ret Ts) {va : Value} (hdg : decode cc pc = .ok (.dup, 1)) (hva : va.category = 1) (hq : pc + 1 = q) (k : Wn p l e R s m args below meth c D A nL cells slots Q w q lv (va :: va :: st)) : Wn p l e R s m args below meth c D A nL cells slots Q w pc lv (va :: st) := by subst hq; exact fun H locs ls hP hD hS hl => lv_dup C.x C.b hdg hva (k H locs ls hP hD hS hl)
theorem n_pop (C : Cx p s m args meth c D tys A own cc nL ret Ts) {va : Value} (hdg : decode cc pc = .ok (.pop, 1)) (hva : va.category = 1) (hq : pc + 1 = q) (k : Wn p l e R s m args below meth c D A nL cells slots Q w q lv (st)) : Wn p l e R s m args below meth c D A nL cells slots Q w pc lv (va :: st) := by subst hq; exact fun H locs ls hP hD hS hl => lv_pop C.x C.b hdg hva (k H locs ls hP hD hS hl)
theorem n_dup2 (C : Cx p s m args meth c D tys A own cc nL ret Ts) {va vb : Value} (hdg : decode cc pc = .ok (.dup2, 1)) (hva : va.category = 1) (hvb : vb.category = 1) (hq : pc + 1 = q) (k : Wn p l e R s m args below meth c D A nL cells slots Q w q lv (va :: vb :: va :: vb :: st)) : Wn p l e R s m args below meth c D A nL cells slots Q w pc lv (va :: vb :: st) := by subst hq; exact fun H locs ls hP hD hS hl => lv_dup2_11 C.x C.b hdg hva hvb (k H locs ls hP hD hS hl)
theorem n_dup2l (C : Cx p s m args meth c D tys A own cc nL ret Ts) {va : Value} (hdg : decode cc pc = .ok (.dup2, 1)) (hva : va.category = 2) (hq : pc + 1 = q) (k : Wn p l e R s m args below meth c D A nL cells slots Q w q lv (va :: va :: st)) : Wn p l e R s m args below meth c D A nL cells slots Q w pc lv (va :: st) := by subst hq; exact fun H locs ls hP hD hS hl => lv_dup2_2 C.x C.b hdg hva (k H locs ls hP hD hS hl)
theorem n_lcmp (C : Cx p s m args meth c D tys A own cc nL ret Ts) {x y : Int64} (hdg : decode cc pc = .ok (.lcmp, 1))  (hq : pc + 1 = q) (k : Wn p l e R s m args below meth c D A nL cells slots Q w q lv (.int (lg_cmp x y) :: st)) : Wn p l e R s m args below meth c D A nL cells slots Q w pc lv (.long y :: .long x :: st) := by subst hq; exact fun H locs ls hP hD hS hl => W.lcmp C.x C.b hdg (k H locs ls hP hD hS hl)
theorem n_if_eq (C : Cx p s m args meth c D tys A own cc nL ret Ts) {x : Int32} {off : Int} {t : Nat} (hdg : decode cc pc = .ok (.ifCond .eq off, 3)) (ht : (pc : Int) + off = (t : Int)) (hq : pc + 3 = q) (kt : x = 0 → Wn p l e R s m args below meth c D A nL cells slots Q w t lv (st)) (kf : ¬ x = 0 → Wn p l e R s m args below meth c D A nL cells slots Q w q lv (st)) : Wn p l e R s m args below meth c D A nL cells slots Q w pc lv (.int x :: st) := by subst hq; exact fun H locs ls hP hD hS hl => lv_if_eq C.x C.b hdg ht (fun h => kt h H locs ls hP hD hS hl) (fun h => kf h H locs ls hP hD hS hl)
theorem n_icmp_eq (C : Cx p s m args meth c D tys A own cc nL ret Ts) {x y : Int32} {off : Int} {t : Nat} (hdg : decode cc pc = .ok (.if_icmp .eq off, 3)) (ht : (pc : Int) + off = (t : Int)) (hq : pc + 3 = q) (kt : x = y → Wn p l e R s m args below meth c D A nL cells slots Q w t lv (st)) (kf : ¬ x = y → Wn p l e R s m args below meth c D A nL cells slots Q w q lv (st)) : Wn p l e R s m args below meth c D A nL cells slots Q w pc lv (.int y :: .int x :: st) := by subst hq; exact fun H locs ls hP hD hS hl => lv_icmp_eq C.x C.b hdg ht (fun h => kt h H locs ls hP hD hS hl) (fun h => kf h H locs ls hP hD hS hl)
theorem n_if_ne (C : Cx p s m args meth c D tys A own cc nL ret Ts) {x : Int32} {off : Int} {t : Nat} (hdg : decode cc pc = .ok (.ifCond .ne off, 3)) (ht : (pc : Int) + off = (t : Int)) (hq : pc + 3 = q) (kt : ¬ x = 0 → Wn p l e R s m args below meth c D A nL cells slots Q w t lv (st)) (kf : x = 0 → Wn p l e R s m args below meth c D A nL cells slots Q w q lv (st)) : Wn p l e R s m args below meth c D A nL cells slots Q w pc lv (.int x :: st) := by subst hq; exact fun H locs ls hP hD hS hl => lv_if_ne C.x C.b hdg ht (fun h => kt h H locs ls hP hD hS hl) (fun h => kf h H locs ls hP hD hS hl)
theorem n_icmp_ne (C : Cx p s m args meth c D tys A own cc nL ret Ts) {x y : Int32} {off : Int} {t : Nat} (hdg : decode cc pc = .ok (.if_icmp .ne off, 3)) (ht : (pc : Int) + off = (t : Int)) (hq : pc + 3 = q) (kt : ¬ x = y → Wn p l e R s m args below meth c D A nL cells slots Q w t lv (st)) (kf : x = y → Wn p l e R s m args below meth c D A nL cells slots Q w q lv (st)) : Wn p l e R s m args below meth c D A nL cells slots Q w pc lv (.int y :: .int x :: st) := by subst hq; exact fun H locs ls hP hD hS hl => lv_icmp_ne C.x C.b hdg ht (fun h => kt h H locs ls hP hD hS hl) (fun h => kf h H locs ls hP hD hS hl)
theorem n_if_lt (C : Cx p s m args meth c D tys A own cc nL ret Ts) {x : Int32} {off : Int} {t : Nat} (hdg : decode cc pc = .ok (.ifCond .lt off, 3)) (ht : (pc : Int) + off = (t : Int)) (hq : pc + 3 = q) (kt : x < 0 → Wn p l e R s m args below meth c D A nL cells slots Q w t lv (st)) (kf : ¬ x < 0 → Wn p l e R s m args below meth c D A nL cells slots Q w q lv (st)) : Wn p l e R s m args below meth c D A nL cells slots Q w pc lv (.int x :: st) := by subst hq; exact fun H locs ls hP hD hS hl => lv_if_lt C.x C.b hdg ht (fun h => kt h H locs ls hP hD hS hl) (fun h => kf h H locs ls hP hD hS hl)
theorem n_icmp_lt (C : Cx p s m args meth c D tys A own cc nL ret Ts) {x y : Int32} {off : Int} {t : Nat} (hdg : decode cc pc = .ok (.if_icmp .lt off, 3)) (ht : (pc : Int) + off = (t : Int)) (hq : pc + 3 = q) (kt : x < y → Wn p l e R s m args below meth c D A nL cells slots Q w t lv (st)) (kf : ¬ x < y → Wn p l e R s m args below meth c D A nL cells slots Q w q lv (st)) : Wn p l e R s m args below meth c D A nL cells slots Q w pc lv (.int y :: .int x :: st) := by subst hq; exact fun H locs ls hP hD hS hl => lv_icmp_lt C.x C.b hdg ht (fun h => kt h H locs ls hP hD hS hl) (fun h => kf h H locs ls hP hD hS hl)
theorem n_if_ge (C : Cx p s m args meth c D tys A own cc nL ret Ts) {x : Int32} {off : Int} {t : Nat} (hdg : decode cc pc = .ok (.ifCond .ge off, 3)) (ht : (pc : Int) + off = (t : Int)) (hq : pc + 3 = q) (kt : 0 ≤ x → Wn p l e R s m args below meth c D A nL cells slots Q w t lv (st)) (kf : ¬ 0 ≤ x → Wn p l e R s m args below meth c D A nL cells slots Q w q lv (st)) : Wn p l e R s m args below meth c D A nL cells slots Q w pc lv (.int x :: st) := by subst hq; exact fun H locs ls hP hD hS hl => lv_if_ge C.x C.b hdg ht (fun h => kt h H locs ls hP hD hS hl) (fun h => kf h H locs ls hP hD hS hl)
theorem n_icmp_ge (C : Cx p s m args meth c D tys A own cc nL ret Ts) {x y : Int32} {off : Int} {t : Nat} (hdg : decode cc pc = .ok (.if_icmp .ge off, 3)) (ht : (pc : Int) + off = (t : Int)) (hq : pc + 3 = q) (kt : y ≤ x → Wn p l e R s m args below meth c D A nL cells slots Q w t lv (st)) (kf : ¬ y ≤ x → Wn p l e R s m args below meth c D A nL cells slots Q w q lv (st)) : Wn p l e R s m args below meth c D A nL cells slots Q w pc lv (.int y :: .int x :: st) := by subst hq; exact fun H locs ls hP hD hS hl => lv_icmp_ge C.x C.b hdg ht (fun h => kt h H locs ls hP hD hS hl) (fun h => kf h H locs ls hP hD hS hl)
theorem n_if_gt (C : Cx p s m args meth c D tys A own cc nL ret Ts) {x : Int32} {off : Int} {t : Nat} (hdg : decode cc pc = .ok (.ifCond .gt off, 3)) (ht : (pc : Int) + off = (t : Int)) (hq : pc + 3 = q) (kt : 0 < x → Wn p l e R s m args below meth c D A nL cells slots Q w t lv (st)) (kf : ¬ 0 < x → Wn p l e R s m args below meth c D A nL cells slots Q w q lv (st)) : Wn p l e R s m args below meth c D A nL cells slots Q w pc lv (.int x :: st) := by subst hq; exact fun H locs ls hP hD hS hl => lv_if_gt C.x C.b hdg ht (fun h => kt h H locs ls hP hD hS hl) (fun h => kf h H locs ls hP hD hS hl)
theorem n_icmp_gt (C : Cx p s m args meth c D tys A own cc nL ret Ts) {x y : Int32} {off : Int} {t : Nat} (hdg : decode cc pc = .ok (.if_icmp .gt off, 3)) (ht : (pc : Int) + off = (t : Int)) (hq : pc + 3 = q) (kt : y < x → Wn p l e R s m args below meth c D A nL cells slots Q w t lv (st)) (kf : ¬ y < x → Wn p l e R s m args below meth c D A nL cells slots Q w q lv (st)) : Wn p l e R s m args below meth c D A nL cells slots Q w pc lv (.int y :: .int x :: st) := by subst hq; exact fun H locs ls hP hD hS hl => lv_icmp_gt C.x C.b hdg ht (fun h => kt h H locs ls hP hD hS hl) (fun h => kf h H locs ls hP hD hS hl)
theorem n_if_le (C : Cx p s m args meth c D tys A own cc nL ret Ts) {x : Int32} {off : Int} {t : Nat} (hdg : decode cc pc = .ok (.ifCond .le off, 3)) (ht : (pc : Int) + off = (t : Int)) (hq : pc + 3 = q) (kt : x ≤ 0 → Wn p l e R s m args below meth c D A nL cells slots Q w t lv (st)) (kf : ¬ x ≤ 0 → Wn p l e R s m args below meth c D A nL cells slots Q w q lv (st)) : Wn p l e R s m args below meth c D A nL cells slots Q w pc lv (.int x :: st) := by subst hq; exact fun H locs ls hP hD hS hl => lv_if_le C.x C.b hdg ht (fun h => kt h H locs ls hP hD hS hl) (fun h => kf h H locs ls hP hD hS hl)
theorem n_icmp_le (C : Cx p s m args meth c D tys A own cc nL ret Ts) {x y : Int32} {off : Int} {t : Nat} (hdg : decode cc pc = .ok (.if_icmp .le off, 3)) (ht : (pc : Int) + off = (t : Int)) (hq : pc + 3 = q) (kt : x ≤ y → Wn p l e R s m args below meth c D A nL cells slots Q w t lv (st)) (kf : ¬ x ≤ y → Wn p l e R s m args below meth c D A nL cells slots Q w q lv (st)) : Wn p l e R s m args below meth c D A nL cells slots Q w pc lv (.int y :: .int x :: st) := by subst hq; exact fun H locs ls hP hD hS hl => lv_icmp_le C.x C.b hdg ht (fun h => kt h H locs ls hP hD hS hl) (fun h => kf h H locs ls hP hD hS hl)
theorem n_goto (C : Cx p s m args meth c D tys A own cc nL ret Ts) {off : Int} {t : Nat} (hdg : decode cc pc = .ok (.goto off, 3)) (ht : (pc : Int) + off = (t : Int)) (k : Wn p l e R s m args below meth c D A nL cells slots Q w t lv (st)) : Wn p l e R s m args below meth c D A nL cells slots Q w pc lv (st) := fun H locs ls hP hD hS hl => lv_goto C.x C.b hdg ht (k H locs ls hP hD hS hl)
theorem n_get (C : Cx p s m args meth c D tys A own cc nL ret Ts) {ref CC : String} {T : u_T} {N ci index : Nat} {a : Nat} {fs : List Value} {v : Value} (hdg : decode cc pc = .ok (.getfield index, 3)) (hin : ∀ w ∈ u_ws CC T N, w ∈ Ts) (q0 : Nat) (he : w[q0]? = some (a, .inr (ci, fs))) (hc : vwCl[ci]? = some (CC, T, N)) (k : Nat) (hk : k < N) (hlink : Cond.fieldLink own index ref (T k).2.1 (T k).2.2.1 ∈ Ts) (href : (T k).1 = ref) (hv : fs[k]? = some v) (hq : pc + 3 = q) (kk : Wn p l e R s m args below meth c D A nL cells slots Q w q lv (v :: st)) : Wn p l e R s m args below meth c D A nL cells slots Q w pc lv (.ref a :: st) := by subst hq; exact fun H locs ls hP hD hS hl => va_get C.x C.b C.ts hin C.ow C.K hP q0 he hc k hk (C.ts _ hlink) (fun x h => by rw [← href]; exact h) hv hdg (kk H locs ls hP hD hS hl)
theorem n_put (C : Cx p s m args meth c D tys A own cc nL ret Ts) {ref CC : String} {T : u_T} {N ci index : Nat} {a : Nat} {fs : List Value} {v : Value} {w2 : va_W} {ty : FieldType} {ty0 : Nat → FieldType} (hdg : decode cc pc = .ok (.putfield index, 3)) (hin : ∀ w ∈ u_ws CC T N, w ∈ Ts) (hty : ∀ k, k < N → parseFieldDescriptor (T k).2.2.1 = some (ty0 k)) (hnm : ∀ a, a < N → ∀ b, b < N → a ≠ b → (T a).2.1 ≠ (T b).2.1) (q0 : Nat) (he : w[q0]? = some (a, .inr (ci, fs))) (hc : vwCl[ci]? = some (CC, T, N)) (k : Nat) (hk : k < N) (hlink : Cond.fieldLink own index ref (T k).2.1 (T k).2.2.1 ∈ Ts) (href : (T k).1 = ref) (hfin : (T k).2.2.2 = false) (hd : parseFieldDescriptor (T k).2.2.1 = some ty) (hn : narrow ty v = v) (hfit : fits ty v = true) (hlen : k < fs.length) (hw : w.set q0 (a, .inr (ci, fs.set k v)) = w2) (hq : pc + 3 = q) (kk : Wn p l e R s m args below meth c D A nL cells slots Q w2 q lv (st)) : Wn p l e R s m args below meth c D A nL cells slots Q w pc lv (v :: .ref a :: st) := by subst hq; subst hw; exact fun H locs ls hP hD hS hl => va_put C.x C.b C.ts hin ty0 hty hnm C.ow C.K hP hD hS q0 he hc k hk (C.ts _ hlink) (fun x h => by rw [← href]; exact h) hfin hd hn hfit hlen hdg (fun H1 locs1 hP1 hD1 hS1 => kk H1 locs1 ls hP1 hD1 hS1 hl)
theorem n_iald (C : Cx p s m args meth c D tys A own cc nL ret Ts) {a n : Nat} {cA : ClassId} {f : Nat → Int32} {i : Int32} (hdg : decode cc pc = .ok (.iaload, 1)) (q0 t0 : Nat) (ha : w[q0]? = some (a, .inl (cA, n, .inl f))) (ht : tys[t0]? = some (cA, .int)) (hin : vp_in i n) (hq : pc + 1 = q) (kk : Wn p l e R s m args below meth c D A nL cells slots Q w q lv (.int (f i.toNatClampNeg) :: st)) : Wn p l e R s m args below meth c D A nL cells slots Q w pc lv (.int i :: .ref a :: st) := by subst hq; exact fun H locs ls hP hD hS hl => va_iald C.x C.b C.K hP q0 t0 ha ht hin hdg (kk H locs ls hP hD hS hl)
theorem n_iast (C : Cx p s m args meth c D tys A own cc nL ret Ts) {a n : Nat} {cA : ClassId} {f : Nat → Int32} {i x : Int32} {w2 : va_W} (hdg : decode cc pc = .ok (.iastore, 1)) (q0 t0 : Nat) (ha : w[q0]? = some (a, .inl (cA, n, .inl f))) (ht : tys[t0]? = some (cA, .int)) (hin : vp_in i n) (hw : w.set q0 (a, .inl (cA, n, .inl (upd f i.toNatClampNeg x))) = w2) (hq : pc + 1 = q) (kk : Wn p l e R s m args below meth c D A nL cells slots Q w2 q lv (st)) : Wn p l e R s m args below meth c D A nL cells slots Q w pc lv (.int x :: .int i :: .ref a :: st) := by subst hq; subst hw; exact fun H locs ls hP hD hS hl => va_iast C.x C.b C.K hP hD hS q0 t0 ha ht hin hdg (fun H1 locs1 hP1 hD1 hS1 => kk H1 locs1 ls hP1 hD1 hS1 hl)
theorem n_lald (C : Cx p s m args meth c D tys A own cc nL ret Ts) {a n : Nat} {cA : ClassId} {f : Nat → Int64} {i : Int32} (hdg : decode cc pc = .ok (.laload, 1)) (q0 t0 : Nat) (ha : w[q0]? = some (a, .inl (cA, n, .inr (.inl f)))) (ht : tys[t0]? = some (cA, .long)) (hin : vp_in i n) (hq : pc + 1 = q) (kk : Wn p l e R s m args below meth c D A nL cells slots Q w q lv (.long (f i.toNatClampNeg) :: st)) : Wn p l e R s m args below meth c D A nL cells slots Q w pc lv (.int i :: .ref a :: st) := by subst hq; exact fun H locs ls hP hD hS hl => va_lald C.x C.b C.K hP q0 t0 ha ht hin hdg (kk H locs ls hP hD hS hl)
theorem n_last (C : Cx p s m args meth c D tys A own cc nL ret Ts) {a n : Nat} {cA : ClassId} {f : Nat → Int64} {i : Int32} {x : Int64} {w2 : va_W} (hdg : decode cc pc = .ok (.lastore, 1)) (q0 t0 : Nat) (ha : w[q0]? = some (a, .inl (cA, n, .inr (.inl f)))) (ht : tys[t0]? = some (cA, .long)) (hin : vp_in i n) (hw : w.set q0 (a, .inl (cA, n, .inr (.inl (vp_updL f i.toNatClampNeg x)))) = w2) (hq : pc + 1 = q) (kk : Wn p l e R s m args below meth c D A nL cells slots Q w2 q lv (st)) : Wn p l e R s m args below meth c D A nL cells slots Q w pc lv (.long x :: .int i :: .ref a :: st) := by subst hq; subst hw; exact fun H locs ls hP hD hS hl => va_last C.x C.b C.K hP hD hS q0 t0 ha ht hin hdg (fun H1 locs1 hP1 hD1 hS1 => kk H1 locs1 ls hP1 hD1 hS1 hl)
theorem n_aldq (C : Cx p s m args meth c D tys A own cc nL ret Ts) {a n : Nat} {cA : ClassId} {CC : String} {f : Nat → Option Nat} {i : Int32} (hdg : decode cc pc = .ok (.aaload, 1)) (q0 t0 : Nat) (ha : w[q0]? = some (a, .inl (cA, n, .inr (.inr (.inr (.inr f)))))) (ht : tys[t0]? = some (cA, .object CC)) (hin : vp_in i n) (hq : pc + 1 = q) (kk : Wn p l e R s m args below meth c D A nL cells slots Q w q lv (va_rf (f i.toNatClampNeg) :: st)) : Wn p l e R s m args below meth c D A nL cells slots Q w pc lv (.int i :: .ref a :: st) := by subst hq; exact fun H locs ls hP hD hS hl => va_aldq C.x C.b C.K hP q0 t0 ha ht hin hdg (kk H locs ls hP hD hS hl)
theorem n_alen (C : Cx p s m args meth c D tys A own cc nL ret Ts) {a : Nat} {cA : ClassId} {x : vp_A} {ty : FieldType} {v : Int32} (hdg : decode cc pc = .ok (.arraylength, 1)) (q0 t0 : Nat) (ha : w[q0]? = some (a, .inl (cA, x))) (ht : tys[t0]? = some (cA, ty)) (hv : Int32.ofNat x.1 = v) (hq : pc + 1 = q) (kk : Wn p l e R s m args below meth c D A nL cells slots Q w q lv (.int v :: st)) : Wn p l e R s m args below meth c D A nL cells slots Q w pc lv (.ref a :: st) := by subst hq; exact fun H locs ls hP hD hS hl => va_alen C.x C.b C.K hP q0 t0 ha ht hv hdg (kk H locs ls hP hD hS hl)
theorem n_tswIn (C : Cx p s m args meth c D tys A own cc nL ret Ts) {dflt lo hi : Int} {offs : Array Int} {len : Nat} {x : Int32} {off : Int} {t : Nat} (hdg : decode cc pc = .ok (.tableswitch dflt lo hi offs, len)) (h1 : ¬ x.toInt < lo) (h2 : ¬ hi < x.toInt) (ho : offs[(x.toInt - lo).toNat]? = some off) (ht : (pc : Int) + off = (t : Int)) (k : Wn p l e R s m args below meth c D A nL cells slots Q w t lv (st)) : Wn p l e R s m args below meth c D A nL cells slots Q w pc lv (.int x :: st) := fun H locs ls hP hD hS hl => lv_tableIn C.x C.b hdg h1 h2 ho ht (k H locs ls hP hD hS hl)
theorem n_tswOut (C : Cx p s m args meth c D tys A own cc nL ret Ts) {dflt lo hi : Int} {offs : Array Int} {len : Nat} {x : Int32} {t : Nat} (hdg : decode cc pc = .ok (.tableswitch dflt lo hi offs, len)) (h : x.toInt < lo ∨ hi < x.toInt) (ht : (pc : Int) + dflt = (t : Int)) (k : Wn p l e R s m args below meth c D A nL cells slots Q w t lv (st)) : Wn p l e R s m args below meth c D A nL cells slots Q w pc lv (.int x :: st) := fun H locs ls hP hD hS hl => lv_tableOut C.x C.b hdg h ht (k H locs ls hP hD hS hl)
theorem n_mmax (C : Cx p s m args meth c D tys A own cc nL ret Ts) {index : Nat} {x y : Int32} (hdg : decode cc pc = .ok (.invokestatic index, 3)) (hlink : Cond.methodLink own index Lib.Math.max.name ∈ Ts) (hstat : Cond.static Lib.Math.max.name ∈ Ts) (hini : Cond.initialized "java/lang/Math" ∈ Ts) (hcode : Cond.code Lib.Math.max.name Lib.Math.max.code 2 (some .int) ∈ Ts) (hfr : 1 ≤ R.frames) (hlo : (st.map fun v => v.category).sum + 13 ≤ R.locals) (hcs : cells ≤ R.cells ∧ slots ≤ R.slots) (hq : pc + 3 = q) (kk : Wn p l e R s m args below meth c D A nL cells slots Q w q lv (.int (if x < y then y else x) :: st)) : Wn p l e R s m args below meth c D A nL cells slots Q w pc lv (.int y :: .int x :: st) := by subst hq; exact fun H locs ls hP hD hS hl => va_mmax C.x C.b (C.1.2.2.1.trans hl.1.symm) C.ow (C.ts _ hlink) (C.ts _ hstat) (C.ts _ hini) (C.ts _ hcode) hfr hlo hcs.1 hcs.2 hdg (kk H locs ls hP hD hS hl)
theorem n_mmin (C : Cx p s m args meth c D tys A own cc nL ret Ts) {index : Nat} {x y : Int32} (hdg : decode cc pc = .ok (.invokestatic index, 3)) (hlink : Cond.methodLink own index Lib.Math.min.name ∈ Ts) (hstat : Cond.static Lib.Math.min.name ∈ Ts) (hini : Cond.initialized "java/lang/Math" ∈ Ts) (hcode : Cond.code Lib.Math.min.name Lib.Math.min.code 2 (some .int) ∈ Ts) (hfr : 1 ≤ R.frames) (hlo : (st.map fun v => v.category).sum + 13 ≤ R.locals) (hcs : cells ≤ R.cells ∧ slots ≤ R.slots) (hq : pc + 3 = q) (kk : Wn p l e R s m args below meth c D A nL cells slots Q w q lv (.int (if y < x then y else x) :: st)) : Wn p l e R s m args below meth c D A nL cells slots Q w pc lv (.int y :: .int x :: st) := by subst hq; exact fun H locs ls hP hD hS hl => va_mmin C.x C.b (C.1.2.2.1.trans hl.1.symm) C.ow (C.ts _ hlink) (C.ts _ hstat) (C.ts _ hini) (C.ts _ hcode) hfr hlo hcs.1 hcs.2 hdg (kk H locs ls hP hD hS hl)
theorem n_raw (C : Cx p s m args meth c D tys A own cc nL ret Ts) {index : Nat} {x : UInt64} (hdg : decode cc pc = .ok (.invokestatic index, 3)) (hlink : Cond.methodLink own index ⟨"java/lang/Double", "doubleToRawLongBits", "(D)J"⟩ ∈ Ts) (hnat : Cond.native ⟨"java/lang/Double", "doubleToRawLongBits", "(D)J"⟩ ∈ Ts) (hstat : Cond.static ⟨"java/lang/Double", "doubleToRawLongBits", "(D)J"⟩ ∈ Ts) (hini : Cond.initialized "java/lang/Double" ∈ Ts) (hfr : 1 ≤ R.frames) (hlo : (st.map fun v => v.category).sum + 15 ≤ R.locals) (hq : pc + 3 = q) (kk : Wn p l e R s m args below meth c D A nL cells slots Q w q lv (.long x.toInt64 :: st)) : Wn p l e R s m args below meth c D A nL cells slots Q w pc lv (.double x :: st) := by subst hq; exact fun H locs ls hP hD hS hl => vn_d2l C.x C.b (C.1.2.2.1.trans hl.1.symm) C.ow (C.ts _ hlink) (C.ts _ hnat) (C.ts _ hstat) (C.ts _ hini) hfr hlo hdg (kk H locs ls hP hD hS hl)
theorem n_copyi (C : Cx p s m args meth c D tys A own cc nL ret Ts) {index : Nat} {q0 q1 t0 : Nat} {a a0 : Nat} {c0 : ClassId} {n0 n1 : Nat} {f g : Nat → Int32} {sp dp n : Int32} {w2 : va_W} (hdg : decode cc pc = .ok (.invokestatic index, 3)) (hlink : Cond.methodLink own index arraycopyName ∈ Ts) (hnat : Cond.native arraycopyName ∈ Ts) (hstat : Cond.static arraycopyName ∈ Ts) (hini : Cond.initialized "java/lang/System" ∈ Ts) (ha0 : w[q0]? = some (a0, .inl (c0, n0, .inl f))) (ha1 : w[q1]? = some (a, .inl (c0, n1, .inl g))) (ht0 : tys[t0]? = some (c0, .int)) (h1 : ¬ sp < 0) (h2 : ¬ dp < 0) (h3 : ¬ n < 0) (h4 : sp.toNatClampNeg + n.toNatClampNeg ≤ n0) (h5 : dp.toNatClampNeg + n.toNatClampNeg ≤ n1) (hfr : 1 ≤ R.frames) (hlo : (st.map fun v => v.category).sum + (nativeFrameWords "java/lang/System" "arraycopy" 5 + 11) ≤ R.locals) (hw : w.set q1 (a, .inl (c0, n1, .inl (va_cpy f g sp.toNatClampNeg dp.toNatClampNeg n.toNatClampNeg))) = w2) (hq : pc + 3 = q) (kk : Wn p l e R s m args below meth c D A nL cells slots Q w2 q lv (st)) : Wn p l e R s m args below meth c D A nL cells slots Q w pc lv (.int n :: .int dp :: .ref a :: .int sp :: .ref a0 :: st) := by subst hq; subst hw; exact fun H locs ls hP hD hS hl => va_copyi C.x C.b (C.1.2.2.1.trans hl.1.symm) C.ow (C.ts _ hlink) (C.ts _ hnat) (C.ts _ hstat) (C.ts _ hini) C.K hP hD hS q0 q1 t0 t0 ha0 ha1 ht0 ht0 rfl h1 h2 h3 h4 h5 (fun _ _ => rfl) hfr hlo hdg (fun H1 locs1 hP1 hD1 hS1 => kk H1 locs1 ls hP1 hD1 hS1 hl)
/-- a method's end: what it answers, and the world then -/
def Qr (D : va_G) (tys : List (ClassId × FieldType)) (w' : va_W) (A : Nat → Prop) (r : Option Value) : Array Value → State → Outcome → State → Prop := fun _ st oc t => (oc = .returned r ∧ va_P D vwCl w' t.heap ∧ va_K D vwCl tys t ∧ va_D A w') ∧ va_F A st t
/-- a contract: from the world w and the arguments av the method answers r, and leaves the world w' -/
def Ct (l : Launch) (D : va_G) (tys : List (ClassId × FieldType)) (y : MethodName) (ws : List Cond) (rm : Room) (mc ms : Nat) (av : List Value) (w w' : va_W) (r : Option Value) : Prop :=
  ∀ sz : Nat, Met l y ws rm (va_Pc av (fun U => U.heap.size = sz ∧ va_P D vwCl w U.heap ∧ va_K D vwCl tys U ∧ va_D (fun _ => True) w)) (Qr D tys w' (va_A w sz) r) mc ms (va_A w sz)
theorem n_end {H : Heap} {locs : List Loc} {r : Option Value} (C : Cx p s m args meth c D tys A own cc nL ret Ts) (hP : va_P D vwCl w H) (hD : va_D A w) (hS : va_S A s.heap H locs) (t : State) (ht : t.heap = H) (hW : s.WarmedH t.vm) : Qr D tys w A r args s (.returned r) t :=
  ⟨⟨rfl, by rw [ht]; exact hP, va_K.moved hW.alike C.K, hD⟩, hS.F ht⟩
theorem n_iret (C : Cx p s m args meth c D tys A own cc nL (some .int) Ts) {v : Int32} (hdg : decode cc pc = .ok (.ireturn, 1)) : Wn p l e R s m args below meth c D A nL cells slots (MQ below (Qr D tys w A (some (.int v))) args s cells slots A) w pc lv [.int v] :=
  fun H locs ls hP hD hS hl => W.iret C.x C.b C.r (n_end C hP hD hS) hS.2.2 hdg C.k
theorem n_zret (C : Cx p s m args meth c D tys A own cc nL (some .boolean) Ts) {v : Int32} (hdg : decode cc pc = .ok (.ireturn, 1)) (hv : v = 0 ∨ v = 1) : Wn p l e R s m args below meth c D A nL cells slots (MQ below (Qr D tys w A (some (.int v))) args s cells slots A) w pc lv [.int v] :=
  fun H locs ls hP hD hS hl => W.zret C.x C.b C.r (by rcases hv with rfl | rfl <;> rfl) (n_end C hP hD hS) hS.2.2 hdg C.k
theorem n_vret (C : Cx p s m args meth c D tys A own cc nL none Ts) (hdg : decode cc pc = .ok (.return_, 1)) : Wn p l e R s m args below meth c D A nL cells slots (MQ below (Qr D tys w A none) args s cells slots A) w pc lv [] :=
  fun H locs ls hP hD hS hl => W.vret C.x C.b C.r (n_end C hP hD hS) hS.2.2 hdg C.k
theorem n_lret (C : Cx p s m args meth c D tys A own cc nL (some .long) Ts) {v : Int64} (hdg : decode cc pc = .ok (.lreturn, 1)) : Wn p l e R s m args below meth c D A nL cells slots (MQ below (Qr D tys w A (some (.long v))) args s cells slots A) w pc lv [.long v] :=
  fun H locs ls hP hD hS hl => W.lret C.x C.b C.r (n_end C hP hD hS) hS.2.2 hdg C.k
theorem n_dret (C : Cx p s m args meth c D tys A own cc nL (some .double) Ts) {v : UInt64} (hdg : decode cc pc = .ok (.dreturn, 1)) : Wn p l e R s m args below meth c D A nL cells slots (MQ below (Qr D tys w A (some (.double v))) args s cells slots A) w pc lv [.double v] :=
  fun H locs ls hP hD hS hl => W.dret C.x C.b C.r (n_end C hP hD hS) hS.2.2 hdg C.k
theorem blind_pc {av : List Value} {sz : Nat} {ww : va_W} : FrameBlind (va_Pc av (fun U => U.heap.size = sz ∧ va_P D vwCl ww U.heap ∧ va_K D vwCl tys U ∧ va_D (fun _ => True) ww)) := by
  intro a U g mk h
  obtain ⟨h0, h1, hP, hK, hD⟩ := h
  exact ⟨h0, h1, hP, va_K.moved (u := U) (U := U.calling g mk a) (Vm.Alike.refl U.vm) hK, hD⟩
/-- a call, once the machine's part is had: the caller goes on in the world with the callee's cells changed -/
theorem n_run {y : MethodName} {ws : List Cond} {wc wc' w2 : va_W} {r : Option Value} {mc ms : Nat} {rest : List Value} {a : Array Value} (C : Cx p s m args meth c D tys A own cc nL ret Ts)
    (hF : Frm w wc w2 wc')
    (hr : ∀ (H : Heap) (locs : List Loc) (ls : Array Slot), va_P D vwCl wc H → va_D A wc → lv_has ls nL lv → va_Run p l e R s m args below meth c H locs cells slots mc ms (F0 m pc ls st) rest (Qr D tys wc' (va_A wc H.size) r a) (va_A wc H.size))
    (hq : pc + 3 = q) (kk : Wn p l e R s m args below meth c D A nL (cells + mc) (slots + ms) Q w2 q lv (r.toList ++ rest)) : Wn p l e R s m args below meth c D A nL cells slots Q w pc lv st := by
  subst hq
  intro H locs ls hP hD hS hl T hT X
  obtain ⟨hPc, hDc⟩ := hF.cut hP hD
  have hFr : ∀ q, va_A wc H.size q → A q := by
    intro q h
    rcases A_mem.mp h with h | h
    · obtain ⟨z, hz, rfl⟩ := List.mem_map.mp h
      exact (D_nd.mp hDc).2 z hz
    · exact C.al q (Nat.le_trans hS.1 h)
  obtain ⟨v, st₀, t, T', L, h0, X', hL, e1, e2, ⟨⟨hv, hP1, hK1, hD1⟩, hz, hk⟩, stp⟩ := hr H locs ls hPc hDc hl T hT X
  cases hv
  rw [h0] at hz hk
  have hj := hF.join (H1 := t.heap) hP hD hk hFr hP1 hD1
  have hS1 : va_S A s.heap t.heap (locs ++ L) := ⟨Nat.le_trans hS.1 hz, fun q h1 h2 => by rw [hk q (Nat.lt_of_lt_of_le h1 hS.1) (fun z => h2 (hFr q z))]; exact hS.2.1 q h1 h2, fun q hq => by
    rcases List.mem_append.mp hq with h | h
    · exact hS.2.2 q h
    · exact hFr _ (hL q h)⟩
  obtain ⟨t2, a1, b1⟩ := kk t.heap (locs ++ L) ls hj.1 hj.2 hS1 hl T' e1 X'
  exact ⟨t2, stp t2 a1, b1⟩
theorem n_callV {y : MethodName} {ws : List Cond} {rm : Room} {wc wc' w2 : va_W} {r : Option Value} {mc ms n index maxL : Nat} {rest As : List Value} {b q0 ci N : Nat} {CC : String} {T : u_T} {fs : List Value} {bytes : ByteArray} {rt : Option FieldType} (C : Cx p s m args meth c D tys A own cc nL ret Ts)
    (hdg : decode cc pc = .ok (.invokevirtual index, 3)) (hM : Ct l D tys y ws rm mc ms (.ref b :: As) wc wc' r) (cw : CallW R s args own CC index y bytes maxL rt ws rm mc ms n) (hn : As.length = n)
    (he : wc[q0]? = some (b, .inr (ci, fs))) (hc : vwCl[ci]? = some (CC, T, N)) (hF : Frm w wc w2 wc') (hst : st = As.reverse ++ .ref b :: rest) (hcat : (rest.map fun v => v.category).sum ≤ 8) (hcs : cells + mc ≤ R.cells ∧ slots + ms ≤ R.slots)
    (hq : pc + 3 = q) (kk : Wn p l e R s m args below meth c D A nL (cells + mc) (slots + ms) Q w2 q lv (r.toList ++ rest)) : Wn p l e R s m args below meth c D A nL cells slots Q w pc lv st :=
  n_run (y := y) (ws := ws) (a := (Value.ref b :: As).toArray) C hF (fun H locs ls hP hD hl => va_runV C.1 (hM H.size) cw
    ⟨blind_pc, va_recv C.K hP hc he, fun U hU hW => ⟨rfl, by rw [hU], by rw [hU]; exact hP, va_K.moved hW.alike C.K, hD.weaken (fun _ _ _ _ => trivial)⟩⟩ rfl hn hl.1 hst (lv_room hcat) hdg hcs) hq kk
theorem n_callS {y : MethodName} {ws : List Cond} {rm : Room} {wc wc' w2 : va_W} {r : Option Value} {mc ms n index maxL : Nat} {rest As : List Value} {bytes : ByteArray} {rt : Option FieldType} (C : Cx p s m args meth c D tys A own cc nL ret Ts)
    (hdg : decode cc pc = .ok (.invokestatic index, 3)) (hM : Ct l D tys y ws rm mc ms As wc wc' r) (cw : CallB R s args own index y bytes maxL rt ws rm mc ms n ∧ (Cond.static y).before args s = true) (hn : As.length = n)
    (hF : Frm w wc w2 wc') (hst : st = As.reverse ++ rest) (hcat : (rest.map fun v => v.category).sum ≤ 8) (hcs : cells + mc ≤ R.cells ∧ slots + ms ≤ R.slots)
    (hq : pc + 3 = q) (kk : Wn p l e R s m args below meth c D A nL (cells + mc) (slots + ms) Q w2 q lv (r.toList ++ rest)) : Wn p l e R s m args below meth c D A nL cells slots Q w pc lv st :=
  n_run (y := y) (ws := ws) (a := As.toArray) C hF (fun H locs ls hP hD hl => va_runS C.1 (hM H.size) cw
    ⟨blind_pc, fun U hU hW => ⟨rfl, by rw [hU], by rw [hU]; exact hP, va_K.moved hW.alike C.K, hD.weaken (fun _ _ _ _ => trivial)⟩⟩ rfl hn hl.1 hst (lv_room hcat) hdg hcs) hq kk
theorem n_callI {y : MethodName} {ws : List Cond} {rm : Room} {wc wc' w2 : va_W} {r : Option Value} {mc ms n index maxL : Nat} {rest As : List Value} {b : Nat} {bytes : ByteArray} (C : Cx p s m args meth c D tys A own cc nL ret Ts)
    (hdg : decode cc pc = .ok (.invokespecial index, 3)) (hM : Ct l D tys y ws rm mc ms (.ref b :: As) wc wc' r) (cw : CallB R s args own index y bytes maxL none ws rm mc ms n ∧ y.name = "<init>" ∧ (Cond.instanceMethod y).before args s = true) (hn : As.length = n)
    (hF : Frm w wc w2 wc') (hst : st = As.reverse ++ .ref b :: rest) (hcat : (rest.map fun v => v.category).sum ≤ 8) (hcs : cells + mc ≤ R.cells ∧ slots + ms ≤ R.slots)
    (hq : pc + 3 = q) (kk : Wn p l e R s m args below meth c D A nL (cells + mc) (slots + ms) Q w2 q lv (r.toList ++ rest)) : Wn p l e R s m args below meth c D A nL cells slots Q w pc lv st :=
  n_run (y := y) (ws := ws) (a := (Value.ref b :: As).toArray) C hF (fun H locs ls hP hD hl => va_runI C.1 (hM H.size) cw
    ⟨blind_pc, fun U hU hW => ⟨rfl, by rw [hU], by rw [hU]; exact hP, va_K.moved hW.alike C.K, hD.weaken (fun _ _ _ _ => trivial)⟩⟩ rfl hn hl.1 hst (lv_room hcat) hdg hcs) hq kk
end FR
/-- a contract out of the walk of a body -/
theorem Ct.of {l : Launch} {D : va_G} {tys : List (ClassId × FieldType)} {y : MethodName} {ws ws' : List Cond} {rm : Room} {mc ms : Nat} {av : List Value} {w w' : va_W} {r : Option Value} {cc : ByteArray} {nL : Nat} {ret : Option FieldType} {lv : List (Nat × Value)}
    (hy : plainName y.cls = true) (hw : ws = Cond.code y cc nL ret :: ws') (hlv : lv_args 0 av = lv) (hlen : (lg_sl av).length ≤ nL)
    (body : ∀ (p : Program) (e : Env) (s : State) (m : MethodId) (args : Array Value) (below : List Frame) (meth : Method) (c : Code) (A : Nat → Prop), Cx p s m args meth c D tys A y.cls cc nL ret ws → Wn p l e rm s m args below meth c D A nL 0 0 (MQ below (Qr D tys w' A r) args s mc ms A) w 0 lv []) : Ct l D tys y ws rm mc ms av w w' r := by
  intro sz
  refine Met.ofW (cc := cc) (maxL := nL) (ret := ret) hy hw ?_
  intro p e s m args below meth c s₁ B hml hv
  obtain ⟨rfl, hsz, hP, hK, hD0⟩ := hv
  subst hsz
  have hD := hD0.self (sz := s.heap.size)
  have hl := lv_entry av (n := nL) hlen
  rw [hlv] at hl
  rw [lg_entry_eq]
  exact body p e s m av.toArray below meth c (va_A w s.heap.size) ⟨⟨B.exec, B.bytes, hml, findClass_of_methodNamed B.named, atoms_spec (ws := ws) B.pre⟩, hK, fun q h => Or.inr h, B.returns, B.notSynchronized, rfl⟩ s.heap [] _ hP hD va_S.rf hl
