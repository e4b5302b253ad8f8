/-! THE LAW: to its end -/
section LAWE
variable {p : Program} {l : Launch} {e : Env} {s : State} {m : MethodId} {below : List Frame} {meth : Method} {c : Code}
variable {D : va_G} {cyI cyO cyJ : ClassId} {b len : Nat} {xs : Nat → Int32}
variable {aM : Nat → Nat} {aO aX : Nat} {aS aG aL aU aV aB aH : Nat → Nat}

theorem lw_end {w : va_W} {cells slots : Nat} {lv : List (Nat × Value)} (C : Cx p s m #[Value.ref b] meth c D (tyG cyI cyO cyJ) (fun q => s.heap.size ≤ q) RL cL_law 9 (some .boolean) lw_tbl) (hc : cells ≤ 601024) (hs : slots ≤ 7293034) : Wn p l e room_1 s m #[Value.ref b] below meth c D (fun q => s.heap.size ≤ q) 9 cells slots (lw_Z below #[Value.ref b] s) (w) 1485 lv [.int (nI 1)] :=
  fun H locs ls hP hD hS hl => W.widen hc hs (va_forget (fun q hq => hS.2.2 q hq) (lw_ret (d0 := s.drawn) (Drawn.sameBut.refl s.drawn lw_cs) C.x C.b C.r C.k dL_law_1485))
set_option maxHeartbeats 2000000 in
theorem lw_loop (C : Cx p s m #[Value.ref b] meth c D (tyG cyI cyO cyJ) (fun q => s.heap.size ≤ q) RL cL_law 9 (some .boolean) lw_tbl) (CE : ENVL (fun q => s.heap.size ≤ q) s) (hls : l.stackTraces = false) (hX : va_X b len xs s s.heap) (hbl : b < s.heap.size) (hlen : len ≤ 2048) :
    ∀ (k i cells slots : Nat) (M S G Lg U V B : OB) (oO : Nat → Int64) (X : HS), len + 4 ≤ i + k → i ≤ len + 4 → cells + k ≤ 600000 → slots + 6 * k ≤ 7000000 → AL Lg B X M → Wn p l e room_1 s m #[Value.ref b] below meth c D (fun q => s.heap.size ≤ q) 9 cells slots (lw_Z below #[Value.ref b] s) (lwW cyI cyO cyJ aM aO aX aS aG aL aU aV aB aH M oO S G Lg U V B X) 23 [(4, .int (nI i)), (3, .ref aO), (2, .ref (aM 0)), (1, .ref aX), (0, .ref b)] [] := by
  intro k
  induction k with
  | zero =>
    intro i cells slots M S G Lg U V B oO X h1 h2 h3 h4 AA
    refine n_iload C dL_law_23 0 rfl rfl ?_
    refine n_aload_n C dL_law_25 4 rfl rfl ?_
    refine n_slen C hX hbl (Nat.not_le.mpr hbl) dL_law_26 rfl ?_
    refine n_iconst (v := nI 4) C dL_law_27 (by decide) rfl ?_
    refine n_isub C dL_law_28 rfl ?_
    refine n_icmp_gt (t := 1484) C dL_law_29 (by decide) rfl (fun _ => ?_) (fun h => ?_)
    · refine n_iconst (v := nI 1) C dL_law_1484 (by decide) rfl ?_
      exact lw_end C (by omega) (by omega)
    · have := lw_gt hlen (by omega) h
      omega
  | succ k ih =>
    intro i cells slots M S G Lg U V B oO X h1 h2 h3 h4 AA
    refine n_iload C dL_law_23 0 rfl rfl ?_
    refine n_aload_n C dL_law_25 4 rfl rfl ?_
    refine n_slen C hX hbl (Nat.not_le.mpr hbl) dL_law_26 rfl ?_
    refine n_iconst (v := nI 4) C dL_law_27 (by decide) rfl ?_
    refine n_isub C dL_law_28 rfl ?_
    refine n_icmp_gt (t := 1484) C dL_law_29 (by decide) rfl (fun _ => ?_) (fun h => ?_)
    · refine n_iconst (v := nI 1) C dL_law_1484 (by decide) rfl ?_
      exact lw_end C (by omega) (by omega)
    · have hi := lw_gt hlen (by omega) h
      refine lw_turn C CE hls hX hbl (Nat.not_le.mpr hbl) hlen hi ⟨show cells + 1 ≤ 601024 by omega, show slots + 6 ≤ 7293034 by omega⟩ AA ?_
      intro M' oO' S' G' L' U' V' B' X' c' s' AA' hc' hs'
      refine n_iinc (j := 0) (v := nI (i + 4)) (lv' := [(4, .int (nI (i + 4))), (3, .ref aO), (2, .ref (aM 0)), (1, .ref aX), (0, .ref b)]) C dL_law_1478 rfl (by rw [show Int32.ofInt 4 = nI 4 by decide]; exact nI_add i 4) (by decide) rfl rfl ?_
      refine n_goto (t := 23) C dL_law_1481 (by decide) ?_
      exact ih (i + 4) c' s' M' S' G' L' U' V' B' oO' X' (by omega) (by omega) (by omega) (by omega) AA'
end LAWE
