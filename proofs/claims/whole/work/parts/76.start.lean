/-! THE LAW: from its entry -/
theorem perm_lawa {α : Type} (m o x S G L U V B h c r : List α) : ((m ++ ((x ++ (S ++ (G ++ (L ++ (U ++ (V ++ (B ++ (h ++ (c ++ r))))))))) ++ [])) ++ o).Perm (c ++ (m ++ (o ++ (x ++ (S ++ (G ++ (L ++ (U ++ (V ++ (B ++ (h ++ r))))))))))) := by
  classical
  refine List.perm_iff_count.mpr (fun a => ?_)
  simp only [List.count_append, List.count_nil]
  omega
theorem perm_lawb {α : Type} (m o x S G L U V B h c r : List α) : (c ++ (m ++ (o ++ (x ++ (S ++ (G ++ (L ++ (U ++ (V ++ (B ++ (h ++ r))))))))))).Perm (m ++ (o ++ (x ++ (S ++ (G ++ (L ++ (U ++ (V ++ (B ++ (h ++ (c ++ r))))))))))) := by
  classical
  refine List.perm_iff_count.mpr (fun a => ?_)
  simp only [List.count_append]
  omega
theorem first2 : ∃ z zM, f1_restart 3000 oS1 (4 : Int32) = some z ∧ f6_begins 3000 oS6 (4 : Int32) = some zM ∧ ∀ ad : Nat → Nat → Nat, AL z oZ ((0 : Int32), ad, fun _ => z) zM := by
  obtain ⟨z, zM, e1, e2, -⟩ := first_ (fun _ _ => 0)
  refine ⟨z, zM, e1, e2, fun ad => ?_⟩
  obtain ⟨z', zM', e3, e4, A⟩ := first_ ad
  cases Option.some.inj (e1.symm.trans e3)
  cases Option.some.inj (e2.symm.trans e4)
  exact A
theorem six_eq (cyO : ClassId) (ad : Nat → Nat → Nat) : vp_cell cyO (6, .inr (.inr (.inr (.inr (sF ad))))) = vp_cell cyO (6, .inr (.inr (.inr (.inr (fun j => some (ad j 0)))))) := by
  have e : (fun j : Fin 6 => va_rf (sF ad j.val)) = (fun j : Fin 6 => va_rf (some (ad j.val 0))) := by
    funext j
    rcases j with ⟨j, hj⟩
    rcases (show j = 0 ∨ j = 1 ∨ j = 2 ∨ j = 3 ∨ j = 4 ∨ j = 5 by omega) with rfl | rfl | rfl | rfl | rfl | rfl <;> rfl
  show ({ cls := cyO, slots := Array.ofFn (n := 6) fun j => va_rf (sF ad j.val), vm := .none } : Cell) = { cls := cyO, slots := Array.ofFn (n := 6) fun j => va_rf (some (ad j.val 0)), vm := .none }
  rw [e]
section LAWS
variable {p : Program} {l : Launch} {e : Env} {R : Room} {s : State} {m : MethodId} {args : Array Value} {below : List Frame} {meth : Method} {c : Code}
variable {D : va_G} {A : Nat → Prop} {nL cells slots : Nat} {Q : State → Prop} {lv : List (Nat × Value)} {st : List Value} {pc : Nat}
theorem Wn.cell {q : Nat} {a1 a2 : ClassId × vp_A} {post : va_W} (h : vp_cell a1.1 a1.2 = vp_cell a2.1 a2.2) (k : Wn p l e R s m args below meth c D A nL cells slots Q ((q, .inl a2) :: post) pc lv st) : Wn p l e R s m args below meth c D A nL cells slots Q ((q, .inl a1) :: post) pc lv st := by
  intro H locs ls hP hD hS hl
  have h1 : H[q]? = some (vp_cell a1.1 a1.2) := P_mem.mp hP (q, .inl a1) List.mem_cons_self
  obtain ⟨d1, d2⟩ := D_nd.mp hD
  refine k H locs ls (P_mem.mpr fun z hz => ?_) (D_nd.mpr ⟨d1, fun z hz => ?_⟩) hS hl
  · rcases List.mem_cons.mp hz with rfl | hz
    · show H[q]? = some (vp_cell a2.1 a2.2)
      rw [h1, h]
    · exact P_mem.mp hP z (List.mem_cons_of_mem _ hz)
  · rcases List.mem_cons.mp hz with rfl | hz
    · exact d2 (q, .inl a1) List.mem_cons_self
    · exact d2 z (List.mem_cons_of_mem _ hz)
end LAWS
set_option maxHeartbeats 4000000 in
set_option maxRecDepth 100000 in
/-- from the entry, for every script of at most 2048 ints, the law comes to its end with true -/
theorem whole_start {p : Program} {e : Env} {s : State} {m : MethodId} {below : List Frame} {meth : Method} {c : Code} (l : Launch) (hflags : l.flags = flags0) {b L : Nat} {xs : Nat → Int32} (hL : L ≤ 2048) (C0 : lw_At p s m meth c b L xs) : W p l e room_1 s m #[Value.ref b] below meth c s.heap [] 0 0 (lw_Z below #[Value.ref b] s) (entryFrame m ([Value.ref b] : List Value).toArray 9) := by
  obtain ⟨hx, hb, hr, hml, hown, hts, hX, hbl, hlocks, hgv⟩ := C0
  have hs : ∀ c ∈ flatC lw_G, c.before #[Value.ref b] s = true := flat_of_before _ hgv
  obtain ⟨D, cyI, cyO, cyJ, hK⟩ := law_K hts
  have CE := law_env hts hs
  have CM := law_envm hts hs
  have hls := ng_st l hflags
  have C : Cx p s m #[Value.ref b] meth c D (tyG cyI cyO cyJ) (fun q => s.heap.size ≤ q) RL cL_law 9 (some .boolean) lw_tbl := ⟨⟨hx, hb, hml, hown, hts⟩, hK, fun _ h => h, hr, hlocks, rfl⟩
  obtain ⟨z, zM, ez, eM, AF⟩ := first2
  have hl := lv_entry ([.ref b]) (n := 9) (Nat.le_of_ble_eq_true rfl)
  rw [lg_entry_eq]
  have go : Wn p l e room_1 s m #[Value.ref b] below meth c D (fun q => s.heap.size ≤ q) 9 0 0 (lw_Z below #[Value.ref b] s) [] 0 [(0, .ref b)] [] := by
    refine n_new (ci := 5) (T := TX5) (N := 7) C dL_law_0 (fun w h => (inT_5 w h).1) tyX5_ok (List.mem_of_getElem? (i := 70) (by decide +kernel)) (List.mem_of_getElem? (i := 71) (by decide +kernel)) (List.mem_of_getElem? (i := 54) (by decide +kernel)) rfl hfX5 (Nat.le_of_ble_eq_true rfl) (Nat.le_of_ble_eq_true rfl) rfl (fun h1 => ?_)
    refine n_dup C dL_law_3 rfl rfl ?_
    refine n_callIM (rest := [.ref h1]) (wr := []) C CM dL_law_4 (cX5_new l D cyI cyO cyJ h1 3000 z ez) (cwI 0 C.ts gT_X5_init rfl rfl rfl (C.ts _ (List.mem_of_getElem? (i := 54) (by decide +kernel))) (C.ts _ (List.mem_of_getElem? (i := 72) (by decide +kernel))) (C.ts _ (List.mem_of_getElem? (i := 73) (by decide +kernel))) rfl (by decide +kernel) ⟨(Nat.le_of_ble_eq_true rfl), (Nat.le_of_ble_eq_true rfl)⟩) List.perm_append_comm rfl (Nat.le_of_ble_eq_true rfl) ⟨(Nat.le_of_ble_eq_true rfl), (Nat.le_of_ble_eq_true rfl)⟩ rfl ?_
    rintro w' ⟨aS, aG, aL, aU, aV, aB, aH, ad, rfl⟩
    refine n_astore_n (lv' := [(1, .ref h1), (0, .ref b)]) C dL_law_7 (by decide) rfl rfl ?_
    refine n_new (ci := 6) (T := TX6) (N := 12) C dL_law_8 (fun w h => (inT_6 w h).1) tyX6_ok (List.mem_of_getElem? (i := 842) (by decide +kernel)) (List.mem_of_getElem? (i := 843) (by decide +kernel)) (List.mem_of_getElem? (i := 61) (by decide +kernel)) rfl hfX6 (Nat.le_of_ble_eq_true rfl) (Nat.le_of_ble_eq_true rfl) rfl (fun h2 => ?_)
    refine n_dup C dL_law_11 rfl rfl ?_
    refine n_callIM (rest := [.ref h2]) C CM dL_law_12 (cX6_new l D cyI cyO cyJ h2 3000 zM eM) (cwI 0 C.ts gT_X6_init rfl rfl rfl (C.ts _ (List.mem_of_getElem? (i := 61) (by decide +kernel))) (C.ts _ (List.mem_of_getElem? (i := 844) (by decide +kernel))) (C.ts _ (List.mem_of_getElem? (i := 845) (by decide +kernel))) rfl (by decide +kernel) ⟨(Nat.le_of_ble_eq_true rfl), (Nat.le_of_ble_eq_true rfl)⟩) List.perm_append_comm rfl (Nat.le_of_ble_eq_true rfl) ⟨(Nat.le_of_ble_eq_true rfl), (Nat.le_of_ble_eq_true rfl)⟩ rfl ?_
    rintro w' ⟨aM, rfl, rfl⟩
    refine n_astore_n (lv' := [(2, .ref (aM 0)), (1, .ref h1), (0, .ref b)]) C dL_law_15 (by decide) rfl rfl ?_
    refine n_iconst (v := nI 1) C dL_law_16 (by decide) rfl ?_
    refine n_newj (N := 1) C dL_law_17 (List.mem_of_getElem? (i := 1155) (by decide +kernel)) (by decide) (by decide +kernel) (Nat.le_of_ble_eq_true rfl) (Nat.le_of_ble_eq_true rfl) (Nat.le_of_ble_eq_true rfl) rfl (fun aO => ?_)
    refine n_astore_n (lv' := [(3, .ref aO), (2, .ref (aM 0)), (1, .ref h1), (0, .ref b)]) C dL_law_19 (by decide) rfl rfl ?_
    refine n_iconst (v := nI 0) C dL_law_20 (by decide) rfl ?_
    refine n_istore (lv' := [(4, .int (nI 0)), (3, .ref aO), (2, .ref (aM 0)), (1, .ref h1), (0, .ref b)]) C dL_law_21 (by decide) rfl rfl ?_
    refine Wn.perm (perm_lawa (bX6 cyI aM zM) [(aO, .inl (cyJ, 1, .inr (.inl (fun _ => 0))))] [(h1, .inr (5, [.ref (aL 0), .ref (aS 0), .ref (aG 0), .ref (aH 0), .ref (aB 0), .ref (aV 0), .ref (aU 0)]))] (bX4 cyI aS oZ) (bX3 cyI aG oZ) (bX1 cyI aL z) (bX4 cyI aU oZ) (bX1 cyI aV z) (bX2 cyI aB oZ) [(aH 0, .inr (0, [.int (0 : Int32), .ref (aH 2)]))] [(aH 2, .inl (cyO, 6, .inr (.inr (.inr (.inr (sF ad))))))] (bX1 cyI (ad 0) z ++ (bX1 cyI (ad 1) z ++ (bX1 cyI (ad 2) z ++ (bX1 cyI (ad 3) z ++ (bX1 cyI (ad 4) z ++ bX1 cyI (ad 5) z)))))) ?_
    refine Wn.cell (a2 := (cyO, 6, .inr (.inr (.inr (.inr (fun j => some (ad j 0))))))) (six_eq cyO ad) ?_
    refine Wn.perm (perm_lawb (bX6 cyI aM zM) [(aO, .inl (cyJ, 1, .inr (.inl (fun _ => 0))))] [(h1, .inr (5, [.ref (aL 0), .ref (aS 0), .ref (aG 0), .ref (aH 0), .ref (aB 0), .ref (aV 0), .ref (aU 0)]))] (bX4 cyI aS oZ) (bX3 cyI aG oZ) (bX1 cyI aL z) (bX4 cyI aU oZ) (bX1 cyI aV z) (bX2 cyI aB oZ) [(aH 0, .inr (0, [.int (0 : Int32), .ref (aH 2)]))] [(aH 2, .inl (cyO, 6, .inr (.inr (.inr (.inr (fun j => some (ad j 0)))))))] (bX1 cyI (ad 0) z ++ (bX1 cyI (ad 1) z ++ (bX1 cyI (ad 2) z ++ (bX1 cyI (ad 3) z ++ (bX1 cyI (ad 4) z ++ bX1 cyI (ad 5) z)))))) ?_
    exact lw_loop C CE hls hX hbl hL (L + 4) 0 _ _ zM oZ oZ z oZ z oZ (fun _ => 0) ((0 : Int32), ad, fun _ => z) (by omega) (by omega) (by omega) (by omega) (AF ad)
  exact go s.heap [] _ (fun k q h => by simp at h) ⟨fun i j p q h => by simp at h, fun k q h => by simp at h⟩ va_S.rf hl
