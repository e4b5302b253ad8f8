/-! THE LAW: its own rows -/
/-- all that the law holds: the reference, the answer's row, the class -/
abbrev lwW (cyI cyO cyJ : ClassId) (aM : Nat → Nat) (aO aX : Nat) (aS aG aL aU aV aB aH : Nat → Nat) (M : OB) (oO : Nat → Int64) (S G L U V B : OB) (X : HS) : va_W := bX6 cyI aM M ++ ([(aO, .inl (cyJ, 1, .inr (.inl oO)))] ++ ([(aX, .inr (5, [.ref (aL 0), .ref (aS 0), .ref (aG 0), .ref (aH 0), .ref (aB 0), .ref (aV 0), .ref (aU 0)]))] ++ (bX4 cyI aS S ++ (bX3 cyI aG G ++ (bX1 cyI aL L ++ (bX4 cyI aU U ++ (bX1 cyI aV V ++ (bX2 cyI aB B ++ bHS cyI cyO aH X))))))))
section LWR
variable {p : Program} {l : Launch} {e : Env} {R : Room} {s : State} {m : MethodId} {args : Array Value} {below : List Frame} {meth : Method} {c : Code}
variable {D : va_G} {tys : List (ClassId × FieldType)} {A : Nat → Prop} {nL cells slots : Nat} {Q : State → Prop} {w : va_W} {lv : List (Nat × Value)} {st : List Value}
variable {own : String} {cc : ByteArray} {ret : Option FieldType} {Ts : List Cond} {pc q : Nat}
theorem n_runE {y : MethodName} {ws : List Cond} {wc wc' w2 : va_W} {r : Option Value} {mc ms : Nat} {rest : List Value} {a : Array Value} (C : Cx p s m args meth c D tys A own cc nL ret Ts)
    (hF : Frm w wc w2 wc')
    (hr : ∀ (H : Heap) (locs : List Loc) (ls : Array Slot), va_P D vwCl wc H → va_D A wc → va_S A s.heap H locs → (∀ q, va_A wc H.size q → A q) → lv_has ls nL lv → va_Run p l e R s m args below meth c H locs cells slots mc ms (F0 m pc ls st) rest (Qr D tys wc' (va_A wc H.size) r a) (va_A wc H.size))
    (hq : pc + 3 = q) (kk : Wn p l e R s m args below meth c D A nL (cells + mc) (slots + ms) Q w2 q lv (r.toList ++ rest)) : Wn p l e R s m args below meth c D A nL cells slots Q w pc lv st := by
  subst hq
  intro H locs ls hP hD hS hl T hT X
  obtain ⟨hPc, hDc⟩ := hF.cut hP hD
  have hFr : ∀ q, va_A wc H.size q → A q := by
    intro q h
    rcases A_mem.mp h with h | h
    · obtain ⟨z, hz, rfl⟩ := List.mem_map.mp h
      exact (D_nd.mp hDc).2 z hz
    · exact C.al q (Nat.le_trans hS.1 h)
  obtain ⟨v, st₀, t, T', L, h0, X', hL, e1, e2, ⟨⟨hv, hP1, hK1, hD1⟩, hz, hk⟩, stp⟩ := hr H locs ls hPc hDc hS hFr hl T hT X
  cases hv
  rw [h0] at hz hk
  have hj := hF.join (H1 := t.heap) hP hD hk hFr hP1 hD1
  have hS1 : va_S A s.heap t.heap (locs ++ L) := ⟨Nat.le_trans hS.1 hz, fun q h1 h2 => by rw [hk q (Nat.lt_of_lt_of_le h1 hS.1) (fun z => h2 (hFr q z))]; exact hS.2.1 q h1 h2, fun q hq => by
    rcases List.mem_append.mp hq with h | h
    · exact hS.2.2 q h
    · exact hFr _ (hL q h)⟩
  obtain ⟨t2, a1, b1⟩ := kk t.heap (locs ++ L) ls hj.1 hj.2 hS1 hl T' e1 X'
  exact ⟨t2, stp t2 a1, b1⟩
/-- one of the law's own methods is called, that catches -/
theorem n_callSW {y : MethodName} {ws : List Cond} {rm : Room} {wc wc' w2 : va_W} {r : Option Value} {n index maxL : Nat} {rest As : List Value} {bytes : ByteArray} {rt : Option FieldType} {hh : List (Nat × Nat × Nat × Nat)} (C : Cx p s m args meth c D tys A own cc nL ret Ts) (CE : ENVL A s)
    (hdg : decode cc pc = .ok (.invokestatic index, 3)) (hM : Cw l D tys y ws rm As wc wc' r) (cw : vx_CSW R s args own index y bytes maxL rt hh ws rm 1 6 n) (hn : As.length = n)
    (hF : Frm w wc w2 wc') (hst : st = As.reverse ++ rest) (hcat : (rest.map fun v => v.category).sum ≤ 8) (hcs : cells + 1 ≤ R.cells ∧ slots + 6 ≤ R.slots)
    (hq : pc + 3 = q) (kk : Wn p l e R s m args below meth c D A nL (cells + 1) (slots + 6) Q w2 q lv (r.toList ++ rest)) : Wn p l e R s m args below meth c D A nL cells slots Q w pc lv st :=
  n_runE (y := y) (ws := ws) (a := As.toArray) C hF (fun H locs ls hP hD hS hFr hl => vx_runSW C.1 (hM H.size) cw
    ⟨blind_pcL, fun U hU hW => ⟨rfl, by rw [hU], by rw [hU]; exact hP, va_K.moved hW.alike C.K, hD.weaken (fun _ _ _ _ => trivial), CE.go hS hFr hW hU⟩⟩ rfl hn hl.1 hst (lv_room hcat) hdg hcs) hq kk
/-- a place of the script -/
theorem n_sld {b L : Nat} {xs : Nat → Int32} (C : Cx p s m args meth c D tys A own cc nL ret Ts) (hX : va_X b L xs s s.heap) (hbl : b < s.heap.size) (hbA : ¬ A b) (hdg : decode cc pc = .ok (.iaload, 1)) {i : Int32} (hin : vp_in i L) (hq : pc + 1 = q)
    (kk : Wn p l e R s m args below meth c D A nL cells slots Q w q lv (.int (xs i.toNatClampNeg) :: st)) : Wn p l e R s m args below meth c D A nL cells slots Q w pc lv (.int i :: .ref b :: st) := by
  subst hq
  exact fun H locs ls hP hD hS hl => va_sld C.x C.b hX hbl hbA hS hin hdg (kk H locs ls hP hD hS hl)
theorem n_slen {b L : Nat} {xs : Nat → Int32} (C : Cx p s m args meth c D tys A own cc nL ret Ts) (hX : va_X b L xs s s.heap) (hbl : b < s.heap.size) (hbA : ¬ A b) (hdg : decode cc pc = .ok (.arraylength, 1)) (hq : pc + 1 = q)
    (kk : Wn p l e R s m args below meth c D A nL cells slots Q w q lv (.int (Int32.ofNat L) :: st)) : Wn p l e R s m args below meth c D A nL cells slots Q w pc lv (.ref b :: st) := by
  subst hq
  exact fun H locs ls hP hD hS hl => va_slen C.x C.b hX hbl hbA hS hdg (kk H locs ls hP hD hS hl)
end LWR
theorem lw_vin {i k L : Nat} (h : i + k < L) (hL : L ≤ 2048) : vp_in (nI i + nI k) L := by
  rw [nI_add]
  exact nI_in h (by omega)
theorem kO_zero {order : List String} {zr : String ⊕ Int32} (h : kO order zr = 0) (hl : order.length < 100) (hm : ∀ E, zr = .inl E → E ∈ order) : ∃ r, zr = .inr r := by
  cases zr with
  | inr r => exact ⟨r, rfl⟩
  | inl E =>
    exfalso
    have h1 := List.idxOf_lt_length_of_mem (hm E rfl)
    have h2 : nI (order.idxOf E + 1) = nI 0 := h
    have h3 := (nI_inj (by omega) (by omega)).mp h2
    omega
/-- the answer's row, where the class has answered -/
theorem ag_out {order : List String} {zr : String ⊕ Int32} {w th : Int32} {oO : Nat → Int64} (A : AG order zr w th) (hl : order.length < 100) (h : kO order zr = 0) : uO oO zr (nI 0).toNatClampNeg = w.toInt64 := by
  obtain ⟨r, rfl⟩ := kO_zero h hl A.1
  show vp_updL oO 0 r.toInt64 0 = _
  rw [pk_uLs, A.2.2 r rfl]
theorem lg_same (x : Int64) : lg_cmp x x = 0 := by
  unfold lg_cmp
  simp
