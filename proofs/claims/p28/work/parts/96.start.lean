/-! THE LAW: from its entry -/
theorem perm_lawa {α : Type} (x S G L U V B h c r : List α) : ((x ++ (S ++ (G ++ (L ++ (U ++ (V ++ (B ++ (h ++ (c ++ r))))))))) ++ []).Perm (c ++ (x ++ (S ++ (G ++ (L ++ (U ++ (V ++ (B ++ (h ++ r))))))))) := by
  classical
  refine List.perm_iff_count.mpr (fun a => ?_)
  simp only [List.count_append, List.count_nil]
  omega
theorem perm_lawb {α : Type} (x S G L U V B h c r : List α) : (c ++ (x ++ (S ++ (G ++ (L ++ (U ++ (V ++ (B ++ (h ++ r))))))))).Perm (x ++ (S ++ (G ++ (L ++ (U ++ (V ++ (B ++ (h ++ (c ++ r))))))))) := by
  classical
  refine List.perm_iff_count.mpr (fun a => ?_)
  simp only [List.count_append]
  omega
theorem six_eq (cyO : ClassId) (ad : Nat → Nat → Nat) : vp_cell cyO (6, .inr (.inr (.inr (.inr (sF ad))))) = vp_cell cyO (6, .inr (.inr (.inr (.inr (fun j => some (ad j 0)))))) := by
  have e : (fun j : Fin 6 => va_rf (sF ad j.val)) = (fun j : Fin 6 => va_rf (some (ad j.val 0))) := by
    funext j
    rcases j with ⟨j, hj⟩
    rcases (show j = 0 ∨ j = 1 ∨ j = 2 ∨ j = 3 ∨ j = 4 ∨ j = 5 by omega) with rfl | rfl | rfl | rfl | rfl | rfl <;> rfl
  show ({ cls := cyO, slots := Array.ofFn (n := 6) fun j => va_rf (sF ad j.val), vm := .none } : Cell) = { cls := cyO, slots := Array.ofFn (n := 6) fun j => va_rf (some (ad j.val 0)), vm := .none }
  rw [e]
section LAWS
variable {p : Program} {l : Launch} {e : Env} {R : Room} {s : State} {m : MethodId} {args : Array Value} {below : List Frame} {meth : Method} {c : Code}
variable {D : va_G} {A : Nat → Prop} {nL cells slots : Nat} {Q : State → Prop} {lv : List (Nat × Value)} {st : List Value} {pc : Nat}
theorem Wn.cell {q : Nat} {a1 a2 : ClassId × vp_A} {post : va_W} (h : vp_cell a1.1 a1.2 = vp_cell a2.1 a2.2) (k : Wn p l e R s m args below meth c D A nL cells slots Q ((q, .inl a2) :: post) pc lv st) : Wn p l e R s m args below meth c D A nL cells slots Q ((q, .inl a1) :: post) pc lv st := by
  intro H locs ls hP hD hS hl
  have h1 : H[q]? = some (vp_cell a1.1 a1.2) := P_mem.mp hP (q, .inl a1) List.mem_cons_self
  obtain ⟨d1, d2⟩ := D_nd.mp hD
  refine k H locs ls (P_mem.mpr fun z hz => ?_) (D_nd.mpr ⟨d1, fun z hz => ?_⟩) hS hl
  · rcases List.mem_cons.mp hz with rfl | hz
    · show H[q]? = some (vp_cell a2.1 a2.2)
      rw [h1, h]
    · exact P_mem.mp hP z (List.mem_cons_of_mem _ hz)
  · rcases List.mem_cons.mp hz with rfl | hz
    · exact d2 (q, .inl a1) List.mem_cons_self
    · exact d2 z (List.mem_cons_of_mem _ hz)
end LAWS
set_option maxHeartbeats 4000000 in
set_option maxRecDepth 100000 in
/-- from the entry, for every script of at most 260 ints, the law comes to its end with true -/
theorem whole_start {p : Program} {e : Env} {s : State} {m : MethodId} {below : List Frame} {meth : Method} {c : Code} (l : Launch) (hflags : l.flags = flags0) {b L : Nat} {xs : Nat → Int32} (hL : L ≤ 260) (C0 : lw_At p s m meth c b L xs) : W p l e room_1 s m #[Value.ref b] below meth c s.heap [] 0 0 (lw_Z below #[Value.ref b] s) (entryFrame m ([Value.ref b] : List Value).toArray 13) := by
  obtain ⟨hx, hb, hr, hml, hown, hts, hX, hbl, hlocks, hgv⟩ := C0
  have hs : ∀ c ∈ flatC lw_G, c.before #[Value.ref b] s = true := flat_of_before _ hgv
  obtain ⟨D, cyI, cyO, cyJ, hK⟩ := law_K hts
  have CE := law_env hts hs
  have CM := law_envm hts hs
  have hls := ng_st l hflags
  have C : Cx p s m #[Value.ref b] meth c D (tyG cyI cyO cyJ) (fun q => s.heap.size ≤ q) RL cL_law 13 (some .boolean) lw_tbl := ⟨⟨hx, hb, hml, hown, hts⟩, hK, fun _ h => h, hr, hlocks, rfl⟩
  obtain ⟨z, ez, hz⟩ := first_
  have hbA : ¬ (fun q => s.heap.size ≤ q) b := Nat.not_le.mpr hbl
  have hl := lv_entry ([.ref b]) (n := 13) (Nat.le_of_ble_eq_true rfl)
  rw [lg_entry_eq]
  have go : Wn p l e room_1 s m #[Value.ref b] below meth c D (fun q => s.heap.size ≤ q) 13 0 0 (lw_Z below #[Value.ref b] s) [] 0 [(0, .ref b)] [] := by
    refine n_new (ci := 5) (T := TX5) (N := 7) C dL_law_0 (fun w h => (inT_5 w h).1) tyX5_ok (List.mem_of_getElem? (i := 32) (by decide +kernel)) (List.mem_of_getElem? (i := 33) (by decide +kernel)) (List.mem_of_getElem? (i := 18) (by decide +kernel)) rfl hfX5 (Nat.le_of_ble_eq_true rfl) (Nat.le_of_ble_eq_true rfl) rfl (fun h1 => ?_)
    refine n_dup C dL_law_3 rfl rfl ?_
    refine n_callIM (rest := [.ref h1]) (wr := []) C CM dL_law_4 (cX5_new l D cyI cyO cyJ h1 3000 z ez) (cwI 0 C.ts gT_X5_init rfl rfl rfl (C.ts _ (List.mem_of_getElem? (i := 18) (by decide +kernel))) (C.ts _ (List.mem_of_getElem? (i := 34) (by decide +kernel))) (C.ts _ (List.mem_of_getElem? (i := 35) (by decide +kernel))) rfl (by decide +kernel) ⟨(Nat.le_of_ble_eq_true rfl), (Nat.le_of_ble_eq_true rfl)⟩) List.perm_append_comm rfl (Nat.le_of_ble_eq_true rfl) ⟨(Nat.le_of_ble_eq_true rfl), (Nat.le_of_ble_eq_true rfl)⟩ rfl ?_
    rintro w' ⟨aS, aG, aL, aU, aV, aB, aH, ad, rfl⟩
    refine n_astore_n (lv' := [(1, .ref h1), (0, .ref b)]) C dL_law_7 (by decide) rfl rfl ?_
    refine n_iconst (v := nI 1) C dL_law_8 (by decide) rfl ?_
    refine n_istore_n (lv' := [(2, .int (nI 1)), (1, .ref h1), (0, .ref b)]) C dL_law_9 (by decide) rfl rfl ?_
    refine Wn.perm (perm_lawa [(h1, .inr (5, [.ref (aL 0), .ref (aS 0), .ref (aG 0), .ref (aH 0), .ref (aB 0), .ref (aV 0), .ref (aU 0)]))] (bX4 cyI aS oZ) (bX3 cyI aG oZ) (bX1 cyI aL z) (bX4 cyI aU oZ) (bX1 cyI aV z) (bX2 cyI aB oZ) [(aH 0, .inr (0, [.int (0 : Int32), .ref (aH 2)]))] [(aH 2, .inl (cyO, 6, .inr (.inr (.inr (.inr (sF ad))))))] (bX1 cyI (ad 0) z ++ (bX1 cyI (ad 1) z ++ (bX1 cyI (ad 2) z ++ (bX1 cyI (ad 3) z ++ (bX1 cyI (ad 4) z ++ bX1 cyI (ad 5) z)))))) ?_
    refine Wn.cell (a2 := (cyO, 6, .inr (.inr (.inr (.inr (fun j => some (ad j 0))))))) (six_eq cyO ad) ?_
    refine Wn.perm (perm_lawb [(h1, .inr (5, [.ref (aL 0), .ref (aS 0), .ref (aG 0), .ref (aH 0), .ref (aB 0), .ref (aV 0), .ref (aU 0)]))] (bX4 cyI aS oZ) (bX3 cyI aG oZ) (bX1 cyI aL z) (bX4 cyI aU oZ) (bX1 cyI aV z) (bX2 cyI aB oZ) [(aH 0, .inr (0, [.int (0 : Int32), .ref (aH 2)]))] [(aH 2, .inl (cyO, 6, .inr (.inr (.inr (.inr (fun j => some (ad j 0)))))))] (bX1 cyI (ad 0) z ++ (bX1 cyI (ad 1) z ++ (bX1 cyI (ad 2) z ++ (bX1 cyI (ad 3) z ++ (bX1 cyI (ad 4) z ++ bX1 cyI (ad 5) z)))))) ?_
    have k28 : ∀ N : Nat, N ≤ 40 → ∀ cells slots, cells ≤ 500000 → slots ≤ 6000000 → Wn p l e room_1 s m #[Value.ref b] below meth c D (fun q => s.heap.size ≤ q) 13 cells slots (lw_Z below #[Value.ref b] s) (lwW cyI cyO h1 aS aG aL aU aV aB aH oZ oZ z oZ z oZ ((0 : Int32), ad, fun _ => z)) 28 [(2, .int (nI 1)), (1, .ref h1), (0, .ref b)] [.int (nI N)] := by
      intro N hN cells slots hc hs
      refine n_istore_n (lv' := [(3, .int (nI N)), (2, .int (nI 1)), (1, .ref h1), (0, .ref b)]) C dL_law_28 (by decide) rfl rfl ?_
      refine n_iconst (v := nI 0) C dL_law_29 (by decide) rfl ?_
      refine n_istore (lv' := [(4, .int (nI 0)), (3, .int (nI N)), (2, .int (nI 1)), (1, .ref h1), (0, .ref b)]) C dL_law_30 (by decide) rfl rfl ?_
      exact lw_loop C CE hls hX hbl (by omega) hN N 0 _ _ oZ oZ z oZ z oZ ((0 : Int32), ad, fun _ => z) (by omega) (by omega) (by omega) (by omega) hz (first_P ad z)
    have e3 : Int32.ofNat L / nI 3 = nI (L / 3) := pk_div (a := L) (d := 3) (by omega) (by omega) (by omega)
    refine n_aload_n C dL_law_10 2 rfl rfl ?_
    refine n_slen C hX hbl hbA dL_law_11 rfl ?_
    refine n_iconst (v := nI 3) C dL_law_12 (by decide) rfl ?_
    refine n_idiv C dL_law_13 (by decide) rfl ?_
    rw [e3]
    refine n_bipush (v := nI 40) C dL_law_14 (by decide) rfl ?_
    refine n_icmp_le (t := 24) C dL_law_16 (by decide) rfl (fun h => ?_) (fun h => ?_)
    · rw [nI_le' (by omega) (by omega)] at h
      refine n_aload_n C dL_law_24 2 rfl rfl ?_
      refine n_slen C hX hbl hbA dL_law_25 rfl ?_
      refine n_iconst (v := nI 3) C dL_law_26 (by decide) rfl ?_
      refine n_idiv C dL_law_27 (by decide) rfl ?_
      rw [e3]
      exact k28 _ h _ _ (Nat.le_of_ble_eq_true rfl) (Nat.le_of_ble_eq_true rfl)
    · refine n_bipush (v := nI 40) C dL_law_19 (by decide) rfl ?_
      refine n_goto (t := 28) C dL_law_21 (by decide) ?_
      exact k28 40 (Nat.le_refl _) _ _ (Nat.le_of_ble_eq_true rfl) (Nat.le_of_ble_eq_true rfl)
  exact go s.heap [] _ (fun k q h => by simp at h) ⟨fun i j p q h => by simp at h, fun k q h => by simp at h⟩ va_S.rf hl
