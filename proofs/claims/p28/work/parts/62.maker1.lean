/-! A LEAGUE IS MADE: its settings come out of a static row -/
section CT
variable {p : Program} {l : Launch} {e : Env} {R : Room} {s : State} {m : MethodId} {args : Array Value} {below : List Frame} {meth : Method} {c : Code}
variable {D : va_G} {tys : List (ClassId × FieldType)} {A : Nat → Prop} {nL cells slots : Nat} {Q : State → Prop} {w : va_W} {lv : List (Nat × Value)} {st : List Value}
variable {own : String} {cc : ByteArray} {ret : Option FieldType} {Ts : List Cond} {pc q : Nat}
theorem n_copyT (C : Cx p s m args meth c D tys A own cc nL ret Ts) {index : Nat} {q1 t0 : Nat} {a t N : Nat} {c1 : ClassId} {n1 : Nat} {f g : Nat → Int32} {sp dp n : Int32} {w2 : va_W} (hdg : decode cc pc = .ok (.invokestatic index, 3)) (hlink : Cond.methodLink own index arraycopyName ∈ Ts) (hnat : Cond.native arraycopyName ∈ Ts) (hstat : Cond.static arraycopyName ∈ Ts) (hini : Cond.initialized "java/lang/System" ∈ Ts)
    (hT : va_T .int t N (fun j => .int (f j)) A s s.heap) (ha1 : w[q1]? = some (a, .inl (c1, n1, .inl g))) (ht0 : tys[t0]? = some (c1, .int)) (h1 : ¬ sp < 0) (h2 : ¬ dp < 0) (h3 : ¬ n < 0) (h4 : sp.toNatClampNeg + n.toNatClampNeg ≤ N) (h5 : dp.toNatClampNeg + n.toNatClampNeg ≤ n1) (hfr : 1 ≤ R.frames) (hlo : (st.map fun v => v.category).sum + (nativeFrameWords "java/lang/System" "arraycopy" 5 + 11) ≤ R.locals)
    (hw : w.set q1 (a, .inl (c1, n1, .inl (va_cpy f g sp.toNatClampNeg dp.toNatClampNeg n.toNatClampNeg))) = w2) (hq : pc + 3 = q) (kk : Wn p l e R s m args below meth c D A nL cells slots Q w2 q lv st) : Wn p l e R s m args below meth c D A nL cells slots Q w pc lv (.int n :: .int dp :: .ref a :: .int sp :: .ref t :: st) := by
  subst hq; subst hw
  intro H locs ls hP hD hS hl T hTH X
  have nn : ∀ z : Int32, ¬ z < 0 → z.toInt = (z.toNatClampNeg : Int) := by
    intro z hz
    have hz0 : (0 : Int) ≤ z.toInt := by
      have := Int32.not_lt.mp hz
      simpa using Int32.le_iff_toInt_le.mp this
    show z.toInt = ((z.toInt.toNat : Nat) : Int)
    omega
  obtain ⟨scr, g1, g2, g3, g4, -, g6, g7⟩ := hT
  have hc0 : H[t]? = some scr := by rw [hS.2.1 t (Array.getElem?_eq_some_iff.mp g1).1 g7]; exact g1
  have hc1 : H[a]? = some (vp_cell c1 (n1, .inl g)) := hP q1 _ ha1
  obtain ⟨g8, k0, hk0, cm0, hkk0⟩ := g2
  obtain ⟨-, k1, hk1, cm1, hkk1⟩ := (C.K.2 t0 _ ht0).1 n1 (fun j => .int (g j))
  obtain ⟨vm', X', step⟩ := X.arraycopy C.x C.ow (C.ts _ hlink) (C.ts _ hnat) (C.ts _ hstat) (C.ts _ hini) (src := t) (dst := a) (cs := scr) (cd := vp_cell c1 (n1, .inl g)) (srcPos := sp) (destPos := dp) (n := n) (by rw [hTH]; exact hc0) (by rw [hTH]; exact hc1)
    g8 (fun _ h => by cases h) g3 (fun h => by cases h) hk0 hk1 hkk0 hkk1 (by simp [refKind]) h1 h2 h3
    (by rw [nn sp h1, nn n h3]; omega)
    (by rw [nn dp h2, nn n h3]; show ¬ _ > ((arrV c1 n1 (fun j => .int (g j))).slots.size : Int); rw [arrV_size]; omega)
    (fun vm₁ _ i hi => by
      have e : scr.slots.getD (sp.toNatClampNeg + i) .null = .int (f (sp.toNatClampNeg + i)) := by
        rw [Array.getD_eq_getD_getElem?, g6 _ (by omega)]
        rfl
      refine ⟨?_, ?_⟩
      · rw [e]
        rfl
      · rw [e]
        exact trivial)
    (g := F0 m pc ls (.int n :: .int dp :: .ref a :: .int sp :: .ref t :: st)) rfl (hl.1.trans C.1.2.2.1.symm) (rest := st) rfl (by rw [C.b]; exact hdg) hfr (by show 2 * 0 + _ + _ ≤ _; omega)
  have e1 : copied scr (vp_cell c1 (n1, .inl g)) sp dp n = vp_cell c1 (n1, .inl (va_cpy f g sp.toNatClampNeg dp.toNatClampNeg n.toNatClampNeg)) := va_copiedX (fun z => .int z) scr c1 f g g6 h4
  rw [e1] at X' step
  have hla : a < H.size := (Array.getElem?_eq_some_iff.mp hc1).1
  have hheap : ((T.setVm vm').setCell a (vp_cell c1 (n1, .inl (va_cpy f g sp.toNatClampNeg dp.toNatClampNeg n.toNatClampNeg)))).heap = H.setIfInBounds a (vp_cell c1 (n1, .inl (va_cpy f g sp.toNatClampNeg dp.toNatClampNeg n.toNatClampNeg))) := by rw [← hTH]; rfl
  have oq : ∀ q : Nat, q ≠ a → (H.setIfInBounds a (vp_cell c1 (n1, .inl (va_cpy f g sp.toNatClampNeg dp.toNatClampNeg n.toNatClampNeg))))[q]? = H[q]? := fun q hq => by simp [Array.getElem?_setIfInBounds, Ne.symm hq]
  obtain ⟨t2, a1, b1⟩ := kk _ _ ls (hP.set hD ha1 (show (H.setIfInBounds a _)[a]? = some _ by simp [Array.getElem?_setIfInBounds, hla]) oq) (hD.set ha1) ⟨by simp; exact hS.1, fun q g1 g2 => by
      rw [oq q (fun e => g2 (by rw [e]; exact hD.2 q1 _ ha1))]
      exact hS.2.1 q g1 g2, fun q hq => by
      rcases List.mem_append.mp hq with h | h
      · exact hS.2.2 q h
      · obtain ⟨z, -, hz⟩ := List.mem_map.mp h
        rw [← hz]
        exact hD.2 q1 _ ha1⟩ hl _ hheap X'
  exact ⟨t2, step t2 a1, b1⟩
end CT
def oS1 : OB := gsa oZ 3 (va_cpy sVF (fun _ => 0) (0 : Int32).toNatClampNeg (0 : Int32).toNatClampNeg (4 : Int32).toNatClampNeg)
theorem iwX1_init : ∀ w ∈ u_ws RX1 TX1 15, w ∈ wsX1_init := by decide +kernel
abbrev rmX1_init : Room := { frames := 5, cells := 12, slots := 268, locals := 120 }
theorem hfX1 : ∀ j, j < 15 → defaultValue (tyX1 j) = vp_V [.int (0 : Int32), .int (0 : Int32), .int (0 : Int32), .null, .null, .null, .null, .null, .null, .null, .null, .null, .null, .null, .null] j := fun j hj => by
  rcases (show j = 0 ∨ j = 1 ∨ j = 2 ∨ j = 3 ∨ j = 4 ∨ j = 5 ∨ j = 6 ∨ j = 7 ∨ j = 8 ∨ j = 9 ∨ j = 10 ∨ j = 11 ∨ j = 12 ∨ j = 13 ∨ j = 14 by omega) with rfl | rfl | rfl | rfl | rfl | rfl | rfl | rfl | rfl | rfl | rfl | rfl | rfl | rfl | rfl <;> rfl
set_option maxHeartbeats 4000000 in
set_option maxRecDepth 100000 in
theorem cX1_new (l : Launch) (D : va_G) (cyI cyO cyJ : ClassId) (h0 : Nat) (n : Nat) (z : OB) (hz : f1_restart n oS1 (4 : Int32) = some z) : Cn l D (tyG cyI cyO cyJ) yX1_init wsX1_init rmX1_init 12 268 [.ref h0] [(h0, .inr (1, [.int (0 : Int32), .int (0 : Int32), .int (0 : Int32), .null, .null, .null, .null, .null, .null, .null, .null, .null, .null, .null, .null]))] (fun w' => ∃ a : Nat → Nat, a 0 = h0 ∧ w' = bX1 cyI a z) := by
  refine Cn.of (cc := cX1_init) (nL := 1) (lv := [(0, .ref h0)]) (by decide +kernel) rfl rfl rfl (Nat.le_of_ble_eq_true rfl) ?_
  intro p e s m args below meth c A C CE hin
  have C : Cx p s m args meth c D (tyG cyI cyO cyJ) A RX1 cX1_init 1 none wsX1_init := C
  refine n_aload_n C dX1_init_0 0 rfl rfl ?_
  refine n_objInit C dX1_init_1 (List.mem_of_getElem? (i := 1) rfl) (List.mem_of_getElem? (i := 2) rfl) (List.mem_of_getElem? (i := 3) rfl) (Nat.le_of_ble_eq_true rfl) (Nat.le_of_ble_eq_true rfl) rfl ?_
  refine n_aload_n C dX1_init_4 0 rfl rfl ?_
  refine n_iconst (v := (4 : Int32)) C dX1_init_5 (by decide) rfl ?_
  refine n_newa (N := 4) C dX1_init_6 (List.mem_of_getElem? (i := 4) rfl) (by decide) (by decide +kernel) (Nat.le_of_ble_eq_true rfl) (Nat.le_of_ble_eq_true rfl) (Nat.le_of_ble_eq_true rfl) rfl (fun q3 => ?_)
  refine Wn.cast (w := [(h0, .inr (1, [.int (0 : Int32), .int (0 : Int32), .int (0 : Int32), .null, .null, .null, .null, .null, .null, .null, .null, .null, .null, .null, .null])), (q3, .inl (cyI, 4, .inl (fun _ => 0)))]) rfl ?_
  refine n_putF (w2 := [(h0, .inr (1, [.int (0 : Int32), .int (0 : Int32), .int (0 : Int32), .ref q3, .null, .null, .null, .null, .null, .null, .null, .null, .null, .null, .null])), (q3, .inl (cyI, 4, .inl (fun _ => 0)))]) (ty := .array .int) (N := 15) C hin dX1_init_8 iwX1_init tyX1_ok nmX1 0 rfl rfl 3 (by decide) (List.mem_of_getElem? (i := 5) rfl) rfl rfl (by decide +kernel) rfl rfl (Nat.le_of_ble_eq_true rfl) rfl rfl ?_
  refine n_aload_n C dX1_init_11 0 rfl rfl ?_
  refine n_bipush (v := (6 : Int32)) C dX1_init_12 (by decide) rfl ?_
  refine n_newa (N := 6) C dX1_init_14 (List.mem_of_getElem? (i := 4) rfl) (by decide) (by decide +kernel) (Nat.le_of_ble_eq_true rfl) (Nat.le_of_ble_eq_true rfl) (Nat.le_of_ble_eq_true rfl) rfl (fun q4 => ?_)
  refine Wn.cast (w := [(h0, .inr (1, [.int (0 : Int32), .int (0 : Int32), .int (0 : Int32), .ref q3, .null, .null, .null, .null, .null, .null, .null, .null, .null, .null, .null])), (q3, .inl (cyI, 4, .inl (fun _ => 0))), (q4, .inl (cyI, 6, .inl (fun _ => 0)))]) rfl ?_
  refine n_putF (w2 := [(h0, .inr (1, [.int (0 : Int32), .int (0 : Int32), .int (0 : Int32), .ref q3, .ref q4, .null, .null, .null, .null, .null, .null, .null, .null, .null, .null])), (q3, .inl (cyI, 4, .inl (fun _ => 0))), (q4, .inl (cyI, 6, .inl (fun _ => 0)))]) (ty := .array .int) (N := 15) C hin dX1_init_16 iwX1_init tyX1_ok nmX1 0 rfl rfl 4 (by decide) (List.mem_of_getElem? (i := 6) rfl) rfl rfl (by decide +kernel) rfl rfl (Nat.le_of_ble_eq_true rfl) rfl rfl ?_
  refine n_aload_n C dX1_init_19 0 rfl rfl ?_
  refine n_bipush (v := (6 : Int32)) C dX1_init_20 (by decide) rfl ?_
  refine n_newa (N := 6) C dX1_init_22 (List.mem_of_getElem? (i := 4) rfl) (by decide) (by decide +kernel) (Nat.le_of_ble_eq_true rfl) (Nat.le_of_ble_eq_true rfl) (Nat.le_of_ble_eq_true rfl) rfl (fun q5 => ?_)
  refine Wn.cast (w := [(h0, .inr (1, [.int (0 : Int32), .int (0 : Int32), .int (0 : Int32), .ref q3, .ref q4, .null, .null, .null, .null, .null, .null, .null, .null, .null, .null])), (q3, .inl (cyI, 4, .inl (fun _ => 0))), (q4, .inl (cyI, 6, .inl (fun _ => 0))), (q5, .inl (cyI, 6, .inl (fun _ => 0)))]) rfl ?_
  refine n_putF (w2 := [(h0, .inr (1, [.int (0 : Int32), .int (0 : Int32), .int (0 : Int32), .ref q3, .ref q4, .ref q5, .null, .null, .null, .null, .null, .null, .null, .null, .null])), (q3, .inl (cyI, 4, .inl (fun _ => 0))), (q4, .inl (cyI, 6, .inl (fun _ => 0))), (q5, .inl (cyI, 6, .inl (fun _ => 0)))]) (ty := .array .int) (N := 15) C hin dX1_init_24 iwX1_init tyX1_ok nmX1 0 rfl rfl 5 (by decide) (List.mem_of_getElem? (i := 7) rfl) rfl rfl (by decide +kernel) rfl rfl (Nat.le_of_ble_eq_true rfl) rfl rfl ?_
  refine n_aload_n C dX1_init_27 0 rfl rfl ?_
  refine n_bipush (v := (28 : Int32)) C dX1_init_28 (by decide) rfl ?_
  refine n_newa (N := 28) C dX1_init_30 (List.mem_of_getElem? (i := 4) rfl) (by decide) (by decide +kernel) (Nat.le_of_ble_eq_true rfl) (Nat.le_of_ble_eq_true rfl) (Nat.le_of_ble_eq_true rfl) rfl (fun q6 => ?_)
  refine Wn.cast (w := [(h0, .inr (1, [.int (0 : Int32), .int (0 : Int32), .int (0 : Int32), .ref q3, .ref q4, .ref q5, .null, .null, .null, .null, .null, .null, .null, .null, .null])), (q3, .inl (cyI, 4, .inl (fun _ => 0))), (q4, .inl (cyI, 6, .inl (fun _ => 0))), (q5, .inl (cyI, 6, .inl (fun _ => 0))), (q6, .inl (cyI, 28, .inl (fun _ => 0)))]) rfl ?_
  refine n_putF (w2 := [(h0, .inr (1, [.int (0 : Int32), .int (0 : Int32), .int (0 : Int32), .ref q3, .ref q4, .ref q5, .ref q6, .null, .null, .null, .null, .null, .null, .null, .null])), (q3, .inl (cyI, 4, .inl (fun _ => 0))), (q4, .inl (cyI, 6, .inl (fun _ => 0))), (q5, .inl (cyI, 6, .inl (fun _ => 0))), (q6, .inl (cyI, 28, .inl (fun _ => 0)))]) (ty := .array .int) (N := 15) C hin dX1_init_32 iwX1_init tyX1_ok nmX1 0 rfl rfl 6 (by decide) (List.mem_of_getElem? (i := 8) rfl) rfl rfl (by decide +kernel) rfl rfl (Nat.le_of_ble_eq_true rfl) rfl rfl ?_
  refine n_aload_n C dX1_init_35 0 rfl rfl ?_
  refine n_bipush (v := (28 : Int32)) C dX1_init_36 (by decide) rfl ?_
  refine n_newa (N := 28) C dX1_init_38 (List.mem_of_getElem? (i := 4) rfl) (by decide) (by decide +kernel) (Nat.le_of_ble_eq_true rfl) (Nat.le_of_ble_eq_true rfl) (Nat.le_of_ble_eq_true rfl) rfl (fun q7 => ?_)
  refine Wn.cast (w := [(h0, .inr (1, [.int (0 : Int32), .int (0 : Int32), .int (0 : Int32), .ref q3, .ref q4, .ref q5, .ref q6, .null, .null, .null, .null, .null, .null, .null, .null])), (q3, .inl (cyI, 4, .inl (fun _ => 0))), (q4, .inl (cyI, 6, .inl (fun _ => 0))), (q5, .inl (cyI, 6, .inl (fun _ => 0))), (q6, .inl (cyI, 28, .inl (fun _ => 0))), (q7, .inl (cyI, 28, .inl (fun _ => 0)))]) rfl ?_
  refine n_putF (w2 := [(h0, .inr (1, [.int (0 : Int32), .int (0 : Int32), .int (0 : Int32), .ref q3, .ref q4, .ref q5, .ref q6, .ref q7, .null, .null, .null, .null, .null, .null, .null])), (q3, .inl (cyI, 4, .inl (fun _ => 0))), (q4, .inl (cyI, 6, .inl (fun _ => 0))), (q5, .inl (cyI, 6, .inl (fun _ => 0))), (q6, .inl (cyI, 28, .inl (fun _ => 0))), (q7, .inl (cyI, 28, .inl (fun _ => 0)))]) (ty := .array .int) (N := 15) C hin dX1_init_40 iwX1_init tyX1_ok nmX1 0 rfl rfl 7 (by decide) (List.mem_of_getElem? (i := 9) rfl) rfl rfl (by decide +kernel) rfl rfl (Nat.le_of_ble_eq_true rfl) rfl rfl ?_
  refine n_aload_n C dX1_init_43 0 rfl rfl ?_
  refine n_bipush (v := (28 : Int32)) C dX1_init_44 (by decide) rfl ?_
  refine n_newa (N := 28) C dX1_init_46 (List.mem_of_getElem? (i := 4) rfl) (by decide) (by decide +kernel) (Nat.le_of_ble_eq_true rfl) (Nat.le_of_ble_eq_true rfl) (Nat.le_of_ble_eq_true rfl) rfl (fun q8 => ?_)
  refine Wn.cast (w := [(h0, .inr (1, [.int (0 : Int32), .int (0 : Int32), .int (0 : Int32), .ref q3, .ref q4, .ref q5, .ref q6, .ref q7, .null, .null, .null, .null, .null, .null, .null])), (q3, .inl (cyI, 4, .inl (fun _ => 0))), (q4, .inl (cyI, 6, .inl (fun _ => 0))), (q5, .inl (cyI, 6, .inl (fun _ => 0))), (q6, .inl (cyI, 28, .inl (fun _ => 0))), (q7, .inl (cyI, 28, .inl (fun _ => 0))), (q8, .inl (cyI, 28, .inl (fun _ => 0)))]) rfl ?_
  refine n_putF (w2 := [(h0, .inr (1, [.int (0 : Int32), .int (0 : Int32), .int (0 : Int32), .ref q3, .ref q4, .ref q5, .ref q6, .ref q7, .ref q8, .null, .null, .null, .null, .null, .null])), (q3, .inl (cyI, 4, .inl (fun _ => 0))), (q4, .inl (cyI, 6, .inl (fun _ => 0))), (q5, .inl (cyI, 6, .inl (fun _ => 0))), (q6, .inl (cyI, 28, .inl (fun _ => 0))), (q7, .inl (cyI, 28, .inl (fun _ => 0))), (q8, .inl (cyI, 28, .inl (fun _ => 0)))]) (ty := .array .int) (N := 15) C hin dX1_init_48 iwX1_init tyX1_ok nmX1 0 rfl rfl 8 (by decide) (List.mem_of_getElem? (i := 10) rfl) rfl rfl (by decide +kernel) rfl rfl (Nat.le_of_ble_eq_true rfl) rfl rfl ?_
  refine n_aload_n C dX1_init_51 0 rfl rfl ?_
  refine n_bipush (v := (28 : Int32)) C dX1_init_52 (by decide) rfl ?_
  refine n_newa (N := 28) C dX1_init_54 (List.mem_of_getElem? (i := 4) rfl) (by decide) (by decide +kernel) (Nat.le_of_ble_eq_true rfl) (Nat.le_of_ble_eq_true rfl) (Nat.le_of_ble_eq_true rfl) rfl (fun q9 => ?_)
  refine Wn.cast (w := [(h0, .inr (1, [.int (0 : Int32), .int (0 : Int32), .int (0 : Int32), .ref q3, .ref q4, .ref q5, .ref q6, .ref q7, .ref q8, .null, .null, .null, .null, .null, .null])), (q3, .inl (cyI, 4, .inl (fun _ => 0))), (q4, .inl (cyI, 6, .inl (fun _ => 0))), (q5, .inl (cyI, 6, .inl (fun _ => 0))), (q6, .inl (cyI, 28, .inl (fun _ => 0))), (q7, .inl (cyI, 28, .inl (fun _ => 0))), (q8, .inl (cyI, 28, .inl (fun _ => 0))), (q9, .inl (cyI, 28, .inl (fun _ => 0)))]) rfl ?_
  refine n_putF (w2 := [(h0, .inr (1, [.int (0 : Int32), .int (0 : Int32), .int (0 : Int32), .ref q3, .ref q4, .ref q5, .ref q6, .ref q7, .ref q8, .ref q9, .null, .null, .null, .null, .null])), (q3, .inl (cyI, 4, .inl (fun _ => 0))), (q4, .inl (cyI, 6, .inl (fun _ => 0))), (q5, .inl (cyI, 6, .inl (fun _ => 0))), (q6, .inl (cyI, 28, .inl (fun _ => 0))), (q7, .inl (cyI, 28, .inl (fun _ => 0))), (q8, .inl (cyI, 28, .inl (fun _ => 0))), (q9, .inl (cyI, 28, .inl (fun _ => 0)))]) (ty := .array .int) (N := 15) C hin dX1_init_56 iwX1_init tyX1_ok nmX1 0 rfl rfl 9 (by decide) (List.mem_of_getElem? (i := 11) rfl) rfl rfl (by decide +kernel) rfl rfl (Nat.le_of_ble_eq_true rfl) rfl rfl ?_
  refine n_aload_n C dX1_init_59 0 rfl rfl ?_
  refine n_bipush (v := (28 : Int32)) C dX1_init_60 (by decide) rfl ?_
  refine n_newa (N := 28) C dX1_init_62 (List.mem_of_getElem? (i := 4) rfl) (by decide) (by decide +kernel) (Nat.le_of_ble_eq_true rfl) (Nat.le_of_ble_eq_true rfl) (Nat.le_of_ble_eq_true rfl) rfl (fun q10 => ?_)
  refine Wn.cast (w := [(h0, .inr (1, [.int (0 : Int32), .int (0 : Int32), .int (0 : Int32), .ref q3, .ref q4, .ref q5, .ref q6, .ref q7, .ref q8, .ref q9, .null, .null, .null, .null, .null])), (q3, .inl (cyI, 4, .inl (fun _ => 0))), (q4, .inl (cyI, 6, .inl (fun _ => 0))), (q5, .inl (cyI, 6, .inl (fun _ => 0))), (q6, .inl (cyI, 28, .inl (fun _ => 0))), (q7, .inl (cyI, 28, .inl (fun _ => 0))), (q8, .inl (cyI, 28, .inl (fun _ => 0))), (q9, .inl (cyI, 28, .inl (fun _ => 0))), (q10, .inl (cyI, 28, .inl (fun _ => 0)))]) rfl ?_
  refine n_putF (w2 := [(h0, .inr (1, [.int (0 : Int32), .int (0 : Int32), .int (0 : Int32), .ref q3, .ref q4, .ref q5, .ref q6, .ref q7, .ref q8, .ref q9, .ref q10, .null, .null, .null, .null])), (q3, .inl (cyI, 4, .inl (fun _ => 0))), (q4, .inl (cyI, 6, .inl (fun _ => 0))), (q5, .inl (cyI, 6, .inl (fun _ => 0))), (q6, .inl (cyI, 28, .inl (fun _ => 0))), (q7, .inl (cyI, 28, .inl (fun _ => 0))), (q8, .inl (cyI, 28, .inl (fun _ => 0))), (q9, .inl (cyI, 28, .inl (fun _ => 0))), (q10, .inl (cyI, 28, .inl (fun _ => 0)))]) (ty := .array .int) (N := 15) C hin dX1_init_64 iwX1_init tyX1_ok nmX1 0 rfl rfl 10 (by decide) (List.mem_of_getElem? (i := 12) rfl) rfl rfl (by decide +kernel) rfl rfl (Nat.le_of_ble_eq_true rfl) rfl rfl ?_
  refine n_aload_n C dX1_init_67 0 rfl rfl ?_
  refine n_bipush (v := (28 : Int32)) C dX1_init_68 (by decide) rfl ?_
  refine n_newa (N := 28) C dX1_init_70 (List.mem_of_getElem? (i := 4) rfl) (by decide) (by decide +kernel) (Nat.le_of_ble_eq_true rfl) (Nat.le_of_ble_eq_true rfl) (Nat.le_of_ble_eq_true rfl) rfl (fun q11 => ?_)
  refine Wn.cast (w := [(h0, .inr (1, [.int (0 : Int32), .int (0 : Int32), .int (0 : Int32), .ref q3, .ref q4, .ref q5, .ref q6, .ref q7, .ref q8, .ref q9, .ref q10, .null, .null, .null, .null])), (q3, .inl (cyI, 4, .inl (fun _ => 0))), (q4, .inl (cyI, 6, .inl (fun _ => 0))), (q5, .inl (cyI, 6, .inl (fun _ => 0))), (q6, .inl (cyI, 28, .inl (fun _ => 0))), (q7, .inl (cyI, 28, .inl (fun _ => 0))), (q8, .inl (cyI, 28, .inl (fun _ => 0))), (q9, .inl (cyI, 28, .inl (fun _ => 0))), (q10, .inl (cyI, 28, .inl (fun _ => 0))), (q11, .inl (cyI, 28, .inl (fun _ => 0)))]) rfl ?_
  refine n_putF (w2 := [(h0, .inr (1, [.int (0 : Int32), .int (0 : Int32), .int (0 : Int32), .ref q3, .ref q4, .ref q5, .ref q6, .ref q7, .ref q8, .ref q9, .ref q10, .ref q11, .null, .null, .null])), (q3, .inl (cyI, 4, .inl (fun _ => 0))), (q4, .inl (cyI, 6, .inl (fun _ => 0))), (q5, .inl (cyI, 6, .inl (fun _ => 0))), (q6, .inl (cyI, 28, .inl (fun _ => 0))), (q7, .inl (cyI, 28, .inl (fun _ => 0))), (q8, .inl (cyI, 28, .inl (fun _ => 0))), (q9, .inl (cyI, 28, .inl (fun _ => 0))), (q10, .inl (cyI, 28, .inl (fun _ => 0))), (q11, .inl (cyI, 28, .inl (fun _ => 0)))]) (ty := .array .int) (N := 15) C hin dX1_init_72 iwX1_init tyX1_ok nmX1 0 rfl rfl 11 (by decide) (List.mem_of_getElem? (i := 13) rfl) rfl rfl (by decide +kernel) rfl rfl (Nat.le_of_ble_eq_true rfl) rfl rfl ?_
  refine n_aload_n C dX1_init_75 0 rfl rfl ?_
  refine n_bipush (v := (28 : Int32)) C dX1_init_76 (by decide) rfl ?_
  refine n_newa (N := 28) C dX1_init_78 (List.mem_of_getElem? (i := 4) rfl) (by decide) (by decide +kernel) (Nat.le_of_ble_eq_true rfl) (Nat.le_of_ble_eq_true rfl) (Nat.le_of_ble_eq_true rfl) rfl (fun q12 => ?_)
  refine Wn.cast (w := [(h0, .inr (1, [.int (0 : Int32), .int (0 : Int32), .int (0 : Int32), .ref q3, .ref q4, .ref q5, .ref q6, .ref q7, .ref q8, .ref q9, .ref q10, .ref q11, .null, .null, .null])), (q3, .inl (cyI, 4, .inl (fun _ => 0))), (q4, .inl (cyI, 6, .inl (fun _ => 0))), (q5, .inl (cyI, 6, .inl (fun _ => 0))), (q6, .inl (cyI, 28, .inl (fun _ => 0))), (q7, .inl (cyI, 28, .inl (fun _ => 0))), (q8, .inl (cyI, 28, .inl (fun _ => 0))), (q9, .inl (cyI, 28, .inl (fun _ => 0))), (q10, .inl (cyI, 28, .inl (fun _ => 0))), (q11, .inl (cyI, 28, .inl (fun _ => 0))), (q12, .inl (cyI, 28, .inl (fun _ => 0)))]) rfl ?_
  refine n_putF (w2 := [(h0, .inr (1, [.int (0 : Int32), .int (0 : Int32), .int (0 : Int32), .ref q3, .ref q4, .ref q5, .ref q6, .ref q7, .ref q8, .ref q9, .ref q10, .ref q11, .ref q12, .null, .null])), (q3, .inl (cyI, 4, .inl (fun _ => 0))), (q4, .inl (cyI, 6, .inl (fun _ => 0))), (q5, .inl (cyI, 6, .inl (fun _ => 0))), (q6, .inl (cyI, 28, .inl (fun _ => 0))), (q7, .inl (cyI, 28, .inl (fun _ => 0))), (q8, .inl (cyI, 28, .inl (fun _ => 0))), (q9, .inl (cyI, 28, .inl (fun _ => 0))), (q10, .inl (cyI, 28, .inl (fun _ => 0))), (q11, .inl (cyI, 28, .inl (fun _ => 0))), (q12, .inl (cyI, 28, .inl (fun _ => 0)))]) (ty := .array .int) (N := 15) C hin dX1_init_80 iwX1_init tyX1_ok nmX1 0 rfl rfl 12 (by decide) (List.mem_of_getElem? (i := 14) rfl) rfl rfl (by decide +kernel) rfl rfl (Nat.le_of_ble_eq_true rfl) rfl rfl ?_
  refine n_aload_n C dX1_init_83 0 rfl rfl ?_
  refine n_bipush (v := (28 : Int32)) C dX1_init_84 (by decide) rfl ?_
  refine n_newa (N := 28) C dX1_init_86 (List.mem_of_getElem? (i := 4) rfl) (by decide) (by decide +kernel) (Nat.le_of_ble_eq_true rfl) (Nat.le_of_ble_eq_true rfl) (Nat.le_of_ble_eq_true rfl) rfl (fun q13 => ?_)
  refine Wn.cast (w := [(h0, .inr (1, [.int (0 : Int32), .int (0 : Int32), .int (0 : Int32), .ref q3, .ref q4, .ref q5, .ref q6, .ref q7, .ref q8, .ref q9, .ref q10, .ref q11, .ref q12, .null, .null])), (q3, .inl (cyI, 4, .inl (fun _ => 0))), (q4, .inl (cyI, 6, .inl (fun _ => 0))), (q5, .inl (cyI, 6, .inl (fun _ => 0))), (q6, .inl (cyI, 28, .inl (fun _ => 0))), (q7, .inl (cyI, 28, .inl (fun _ => 0))), (q8, .inl (cyI, 28, .inl (fun _ => 0))), (q9, .inl (cyI, 28, .inl (fun _ => 0))), (q10, .inl (cyI, 28, .inl (fun _ => 0))), (q11, .inl (cyI, 28, .inl (fun _ => 0))), (q12, .inl (cyI, 28, .inl (fun _ => 0))), (q13, .inl (cyI, 28, .inl (fun _ => 0)))]) rfl ?_
  refine n_putF (w2 := [(h0, .inr (1, [.int (0 : Int32), .int (0 : Int32), .int (0 : Int32), .ref q3, .ref q4, .ref q5, .ref q6, .ref q7, .ref q8, .ref q9, .ref q10, .ref q11, .ref q12, .ref q13, .null])), (q3, .inl (cyI, 4, .inl (fun _ => 0))), (q4, .inl (cyI, 6, .inl (fun _ => 0))), (q5, .inl (cyI, 6, .inl (fun _ => 0))), (q6, .inl (cyI, 28, .inl (fun _ => 0))), (q7, .inl (cyI, 28, .inl (fun _ => 0))), (q8, .inl (cyI, 28, .inl (fun _ => 0))), (q9, .inl (cyI, 28, .inl (fun _ => 0))), (q10, .inl (cyI, 28, .inl (fun _ => 0))), (q11, .inl (cyI, 28, .inl (fun _ => 0))), (q12, .inl (cyI, 28, .inl (fun _ => 0))), (q13, .inl (cyI, 28, .inl (fun _ => 0)))]) (ty := .array .int) (N := 15) C hin dX1_init_88 iwX1_init tyX1_ok nmX1 0 rfl rfl 13 (by decide) (List.mem_of_getElem? (i := 15) rfl) rfl rfl (by decide +kernel) rfl rfl (Nat.le_of_ble_eq_true rfl) rfl rfl ?_
  refine n_aload_n C dX1_init_91 0 rfl rfl ?_
  refine n_bipush (v := (28 : Int32)) C dX1_init_92 (by decide) rfl ?_
  refine n_newa (N := 28) C dX1_init_94 (List.mem_of_getElem? (i := 4) rfl) (by decide) (by decide +kernel) (Nat.le_of_ble_eq_true rfl) (Nat.le_of_ble_eq_true rfl) (Nat.le_of_ble_eq_true rfl) rfl (fun q14 => ?_)
  refine Wn.cast (w := [(h0, .inr (1, [.int (0 : Int32), .int (0 : Int32), .int (0 : Int32), .ref q3, .ref q4, .ref q5, .ref q6, .ref q7, .ref q8, .ref q9, .ref q10, .ref q11, .ref q12, .ref q13, .null])), (q3, .inl (cyI, 4, .inl (fun _ => 0))), (q4, .inl (cyI, 6, .inl (fun _ => 0))), (q5, .inl (cyI, 6, .inl (fun _ => 0))), (q6, .inl (cyI, 28, .inl (fun _ => 0))), (q7, .inl (cyI, 28, .inl (fun _ => 0))), (q8, .inl (cyI, 28, .inl (fun _ => 0))), (q9, .inl (cyI, 28, .inl (fun _ => 0))), (q10, .inl (cyI, 28, .inl (fun _ => 0))), (q11, .inl (cyI, 28, .inl (fun _ => 0))), (q12, .inl (cyI, 28, .inl (fun _ => 0))), (q13, .inl (cyI, 28, .inl (fun _ => 0))), (q14, .inl (cyI, 28, .inl (fun _ => 0)))]) rfl ?_
  refine n_putF (w2 := [(h0, .inr (1, [.int (0 : Int32), .int (0 : Int32), .int (0 : Int32), .ref q3, .ref q4, .ref q5, .ref q6, .ref q7, .ref q8, .ref q9, .ref q10, .ref q11, .ref q12, .ref q13, .ref q14])), (q3, .inl (cyI, 4, .inl (fun _ => 0))), (q4, .inl (cyI, 6, .inl (fun _ => 0))), (q5, .inl (cyI, 6, .inl (fun _ => 0))), (q6, .inl (cyI, 28, .inl (fun _ => 0))), (q7, .inl (cyI, 28, .inl (fun _ => 0))), (q8, .inl (cyI, 28, .inl (fun _ => 0))), (q9, .inl (cyI, 28, .inl (fun _ => 0))), (q10, .inl (cyI, 28, .inl (fun _ => 0))), (q11, .inl (cyI, 28, .inl (fun _ => 0))), (q12, .inl (cyI, 28, .inl (fun _ => 0))), (q13, .inl (cyI, 28, .inl (fun _ => 0))), (q14, .inl (cyI, 28, .inl (fun _ => 0)))]) (ty := .array .int) (N := 15) C hin dX1_init_96 iwX1_init tyX1_ok nmX1 0 rfl rfl 14 (by decide) (List.mem_of_getElem? (i := 16) rfl) rfl rfl (by decide +kernel) rfl rfl (Nat.le_of_ble_eq_true rfl) rfl rfl ?_
  obtain ⟨tv, hZ, hT⟩ := CE.1
  refine n_getsN C dX1_init_99 hZ CE.2.1 rfl ?_
  refine n_iconst (v := (0 : Int32)) C dX1_init_102 (by decide) rfl ?_
  refine n_aload_n C dX1_init_103 0 rfl rfl ?_
  refine n_get (N := 15) C dX1_init_104 iwX1_init 0 rfl rfl 3 (by decide) (List.mem_of_getElem? (i := 5) rfl) rfl rfl rfl ?_
  refine n_iconst (v := (0 : Int32)) C dX1_init_107 (by decide) rfl ?_
  refine n_iconst (v := (4 : Int32)) C dX1_init_108 (by decide) rfl ?_
  refine n_copyT (w2 := [(h0, .inr (1, [.int (0 : Int32), .int (0 : Int32), .int (0 : Int32), .ref q3, .ref q4, .ref q5, .ref q6, .ref q7, .ref q8, .ref q9, .ref q10, .ref q11, .ref q12, .ref q13, .ref q14])), (q3, .inl (cyI, 4, .inl (va_cpy sVF (fun _ => 0) (0 : Int32).toNatClampNeg (0 : Int32).toNatClampNeg (4 : Int32).toNatClampNeg))), (q4, .inl (cyI, 6, .inl (fun _ => 0))), (q5, .inl (cyI, 6, .inl (fun _ => 0))), (q6, .inl (cyI, 28, .inl (fun _ => 0))), (q7, .inl (cyI, 28, .inl (fun _ => 0))), (q8, .inl (cyI, 28, .inl (fun _ => 0))), (q9, .inl (cyI, 28, .inl (fun _ => 0))), (q10, .inl (cyI, 28, .inl (fun _ => 0))), (q11, .inl (cyI, 28, .inl (fun _ => 0))), (q12, .inl (cyI, 28, .inl (fun _ => 0))), (q13, .inl (cyI, 28, .inl (fun _ => 0))), (q14, .inl (cyI, 28, .inl (fun _ => 0)))]) C dX1_init_109 (List.mem_of_getElem? (i := 17) rfl) (List.mem_of_getElem? (i := 18) rfl) (List.mem_of_getElem? (i := 19) rfl) (List.mem_of_getElem? (i := 20) rfl) hT (q1 := 1) (t0 := 0) rfl rfl (by decide) (by decide) (by decide) (by decide +kernel) (by decide +kernel) (Nat.le_of_ble_eq_true rfl) (by decide +kernel) rfl rfl ?_
  refine n_aload_n C dX1_init_112 0 rfl rfl ?_
  refine n_iconst (v := (4 : Int32)) C dX1_init_113 (by decide) rfl ?_
  obtain ⟨a, e0, e4, e5, e6, e7, e8, e9, e10, e11, e12, e13, e14, e15⟩ : ∃ a : Nat → Nat, a 0 = h0 ∧ a 4 = q3 ∧ a 5 = q4 ∧ a 6 = q5 ∧ a 7 = q6 ∧ a 8 = q7 ∧ a 9 = q8 ∧ a 10 = q9 ∧ a 11 = q10 ∧ a 12 = q11 ∧ a 13 = q12 ∧ a 14 = q13 ∧ a 15 = q14 := ⟨fun j => if j = 0 then h0 else if j = 4 then q3 else if j = 5 then q4 else if j = 6 then q5 else if j = 7 then q6 else if j = 8 then q7 else if j = 9 then q8 else if j = 10 then q9 else if j = 11 then q10 else if j = 12 then q11 else if j = 13 then q12 else if j = 14 then q13 else if j = 15 then q14 else 0, rfl, rfl, rfl, rfl, rfl, rfl, rfl, rfl, rfl, rfl, rfl, rfl, rfl⟩
  subst e0
  subst e4
  subst e5
  subst e6
  subst e7
  subst e8
  subst e9
  subst e10
  subst e11
  subst e12
  subst e13
  subst e14
  subst e15
  refine Wn.cast (w := bX1 cyI a oS1) rfl ?_
  refine n_callV (As := [.int (4 : Int32)]) (rest := []) (w2 := bX1 cyI a z) C dX1_init_114 (c1_restart l D cyI cyO cyJ a n oS1 (4 : Int32) z hz) (cwV 1 C.ts gX1_init_X1_restart rfl rfl rfl (by decide +kernel) ⟨(Nat.le_of_ble_eq_true rfl), (Nat.le_of_ble_eq_true rfl)⟩) rfl (q0 := 0) (ci := 1) rfl rfl Frm.self rfl (Nat.le_of_ble_eq_true rfl) ⟨(Nat.le_of_ble_eq_true rfl), (Nat.le_of_ble_eq_true rfl)⟩ rfl ?_
  exact n_vretM C dX1_init_117 ⟨a, rfl, rfl⟩
