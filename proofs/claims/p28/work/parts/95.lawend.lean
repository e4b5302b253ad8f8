/-! THE LAW: its loop, to its end -/
/-- all that the law holds -/
abbrev lwW (cyI cyO : ClassId) (aX : Nat) (aS aG aL aU aV aB aH : Nat → Nat) (S G L U V B : OB) (X : HS) : va_W := [(aX, .inr (5, [.ref (aL 0), .ref (aS 0), .ref (aG 0), .ref (aH 0), .ref (aB 0), .ref (aV 0), .ref (aU 0)]))] ++ (bX4 cyI aS S ++ (bX3 cyI aG G ++ (bX1 cyI aL L ++ (bX4 cyI aU U ++ (bX1 cyI aV V ++ (bX2 cyI aB B ++ bHS cyI cyO aH X))))))
section LAWE
variable {p : Program} {l : Launch} {e : Env} {s : State} {m : MethodId} {below : List Frame} {meth : Method} {c : Code}
variable {D : va_G} {cyI cyO cyJ : ClassId} {b len : Nat} {xs : Nat → Int32}
variable {aX : Nat} {aS aG aL aU aV aB aH : Nat → Nat}
theorem lw_end {w : va_W} {cells slots : Nat} {lv : List (Nat × Value)} (C : Cx p s m #[Value.ref b] meth c D (tyG cyI cyO cyJ) (fun q => s.heap.size ≤ q) RL cL_law 13 (some .boolean) lw_tbl) (hc : cells ≤ 600130) (hs : slots ≤ 7301080) : Wn p l e room_1 s m #[Value.ref b] below meth c D (fun q => s.heap.size ≤ q) 13 cells slots (lw_Z below #[Value.ref b] s) w 362 lv [.int (nI 1)] :=
  fun H locs ls hP hD hS hl => W.widen hc hs (va_forget (fun q hq => hS.2.2 q hq) (lw_ret (d0 := s.drawn) (Drawn.sameBut.refl s.drawn lw_cs) C.x C.b C.r C.k dL_law_362))
set_option maxHeartbeats 2000000 in
theorem lw_last (C : Cx p s m #[Value.ref b] meth c D (tyG cyI cyO cyJ) (fun q => s.heap.size ≤ q) RL cL_law 13 (some .boolean) lw_tbl) (CE : ENVL (fun q => s.heap.size ≤ q) s) (hls : l.stackTraces = false) (hX : va_X b len xs s s.heap) (hbl : b < s.heap.size) (hlen : len < 2147483648) {cells slots : Nat} (hc : cells + 1 ≤ 600130) (hs : slots + 6 ≤ 7301080) {S G L U V B : OB} {X : HS} (hL : LX L) (hPX : PX X) : Wn p l e room_1 s m #[Value.ref b] below meth c D (fun q => s.heap.size ≤ q) 13 cells slots (lw_Z below #[Value.ref b] s) (lwW cyI cyO aX aS aG aL aU aV aB aH S G L U V B X) 312 [(0, .ref b), (1, .ref aX), (2, .int (nI 1))] [] := by
  obtain ⟨S', G', V', e1⟩ := last_ (S := S) (G := G) (L := L) (U := U) (V := V) (B := B) (X := X) hL hPX (xs := xs) hlen (K := fun v a b c => some (v, a, b, c))
  refine tL_law_e_b312 C CE hls hX hbl (Nat.not_le.mpr hbl) ⟨hc, hs⟩ (z := (nI 1, S', G', V')) 3000 L U B X (nI 1) (k362 := fun v a b c => some (v, a, b, c)) ?_ S G V e1
  intro s0 oS oG oV h
  obtain ⟨rfl, -⟩ := Prod.mk.inj (Option.some.inj h)
  exact lw_end C (by omega) (by omega)
set_option maxHeartbeats 2000000 in
theorem lw_loop (C : Cx p s m #[Value.ref b] meth c D (tyG cyI cyO cyJ) (fun q => s.heap.size ≤ q) RL cL_law 13 (some .boolean) lw_tbl) (CE : ENVL (fun q => s.heap.size ≤ q) s) (hls : l.stackTraces = false) (hX : va_X b len xs s s.heap) (hbl : b < s.heap.size) (hlen : len < 2147483648) {N : Nat} (hN : N ≤ 40) :
    ∀ (k i cells slots : Nat) (S G L U V B : OB) (X : HS), N ≤ i + k → i ≤ N → cells + k ≤ 600000 → slots + 6 * k ≤ 7000000 → LX L → PX X → Wn p l e room_1 s m #[Value.ref b] below meth c D (fun q => s.heap.size ≤ q) 13 cells slots (lw_Z below #[Value.ref b] s) (lwW cyI cyO aX aS aG aL aU aV aB aH S G L U V B X) 32 [(4, .int (nI i)), (3, .int (nI N)), (2, .int (nI 1)), (1, .ref aX), (0, .ref b)] [] := by
  intro k
  induction k with
  | zero =>
    intro i cells slots S G L U V B X h1 h2 h3 h4 hL hPX
    refine n_iload C dL_law_32 0 rfl rfl ?_
    refine n_iload_n C dL_law_34 1 rfl rfl ?_
    refine n_icmp_ge (t := 312) C dL_law_35 (by decide) rfl (fun _ => ?_) (fun h => ?_)
    · exact Wn.sub (lv' := [(0, .ref b), (1, .ref aX), (2, .int (nI 1))]) [4, 3, 2] rfl (lw_last C CE hls hX hbl hlen (by omega) (by omega) hL hPX)
    · rw [nI_le' (by omega) (by omega)] at h
      omega
  | succ k ih =>
    intro i cells slots S G L U V B X h1 h2 h3 h4 hL hPX
    refine n_iload C dL_law_32 0 rfl rfl ?_
    refine n_iload_n C dL_law_34 1 rfl rfl ?_
    refine n_icmp_ge (t := 312) C dL_law_35 (by decide) rfl (fun _ => ?_) (fun h => ?_)
    · exact Wn.sub (lv' := [(0, .ref b), (1, .ref aX), (2, .int (nI 1))]) [4, 3, 2] rfl (lw_last C CE hls hX hbl hlen (by omega) (by omega) hL hPX)
    · rw [nI_le' (by omega) (by omega)] at h
      refine n_iload_n C dL_law_38 2 rfl rfl ?_
      refine n_if_eq (t := 312) C dL_law_39 (by decide) rfl (fun h => absurd h (by decide)) (fun _ => ?_)
      obtain ⟨S', G', L', U', V', X', hL', hPX', e1⟩ := turn_ (S := S) (G := G) (L := L) (U := U) (V := V) (B := B) (X := X) hL hPX (len := len) (xs := xs) (x3 := nI N) (i := i) (by omega) hlen (K := fun v a b c d f g => some (v, a, b, c, d, f, g))
      refine Wn.sub (lv' := [(0, .ref b), (1, .ref aX), (3, .int (nI N)), (4, .int (nI i))]) [4, 3, 1, 0] rfl ?_
      refine tL_law_t_b42 C CE hls hX hbl (Nat.not_le.mpr hbl) ⟨show cells + 1 ≤ 600130 by omega, show slots + 6 ≤ 7301080 by omega⟩ (z := (nI 1, S', G', L', U', V', X')) 3000 B (nI N) (nI i) (k306 := fun v a b c d f g => some (v, a, b, c, d, f, g)) ?_ S G L U V X e1
      intro v2 oS oG oL oU oV oH h5
      obtain ⟨f1, g1⟩ := Prod.mk.inj (Option.some.inj h5)
      obtain ⟨f2, g2⟩ := Prod.mk.inj g1
      obtain ⟨f3, g3⟩ := Prod.mk.inj g2
      obtain ⟨f4, g4⟩ := Prod.mk.inj g3
      obtain ⟨f5, g5⟩ := Prod.mk.inj g4
      obtain ⟨f6, f7⟩ := Prod.mk.inj g5
      subst f1; subst f2; subst f3; subst f4; subst f5; subst f6; subst f7
      refine n_iinc (j := 4) (v := nI (i + 1)) (lv' := [(4, .int (nI (i + 1))), (0, .ref b), (1, .ref aX), (2, .int (nI 1)), (3, .int (nI N))]) C dL_law_306 rfl (by rw [show Int32.ofInt 1 = nI 1 by decide]; exact nI_add i 1) (by decide) rfl rfl ?_
      refine n_goto (t := 32) C dL_law_309 (by decide) ?_
      exact Wn.sub (lv' := [(4, .int (nI (i + 1))), (3, .int (nI N)), (2, .int (nI 1)), (1, .ref aX), (0, .ref b)]) [0, 4, 3, 2, 1] rfl (ih (i + 1) (cells + 1) (slots + 6) _ _ _ _ _ _ _ (by omega) (by omega) (by omega) (by omega) hL' hPX')
end LAWE
