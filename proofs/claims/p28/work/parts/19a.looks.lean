/-! THE LAW: its looks -/
-- L low 
abbrev rmL_low : Room := { frames := 0, cells := 0, slots := 0, locals := 0 }
def fL_low (n : Nat) (x0 : Int32) (x1 : Int32) : Option (Int32) :=
  (nz x1).bind fun _ => some ((x0 &&& (2147483647 : Int32)) - (x0 &&& (2147483647 : Int32)) / x1 * x1)
set_option maxHeartbeats 4000000 in
set_option maxRecDepth 100000 in
theorem kL_low (l : Launch) (D : va_G) (cyI cyO cyJ : ClassId) (n : Nat) (x0 : Int32) (x1 : Int32) (z : Int32) (hf : fL_low n x0 x1 = some z) : Ct l D (tyG cyI cyO cyJ) yL_low wsL_low rmL_low 0 0 [.int x0, .int x1] (([] : va_W)) (([] : va_W)) (some (.int z)) := by
  refine Ct.of (cc := cL_low) (nL := 2) (ret := (some .int)) (lv := [(0, .int x0), (1, .int x1)]) (by decide +kernel) rfl rfl (Nat.le_of_ble_eq_true rfl) ?_
  intro p e s m args below meth c A C
  have C : Cx p s m args meth c D (tyG cyI cyO cyJ) A RL cL_low 2 (some .int) wsL_low := C
  unfold fL_low at hf
  refine n_iload_n C dL_low_0 0 rfl rfl ?_
  refine n_ldc (v := (2147483647 : Int32)) C dL_low_1 (List.mem_of_getElem? (i := 1) rfl) rfl ?_
  refine n_iand C dL_low_3 rfl ?_
  refine n_iload_n C dL_low_4 1 rfl rfl ?_
  obtain ⟨u5, h5, hf⟩ := bi hf
  refine n_irem C dL_low_5 (nz_some h5) rfl ?_
  obtain rfl := Option.some.inj hf
  exact n_iret C dL_low_6
-- L matches 
abbrev rmL_matches : Room := { frames := 5, cells := 0, slots := 0, locals := 113 }
def fL_matches_b429 (n : Nat) (oG : OB) (oL : OB) (oU : OB) (oV : OB) (oB : OB) (oH : HS) (v1 : Int32) (v2 : Int32) (v3 : Int32) (v4 : Int32) (oS : OB) : Option (Int32 × (OB)) :=
  (if v4 = (0 : Int32) then some ((nI 0), oS) else (f5n_count n oS oG oL oU oV oB oH (nI 3)).bind fun z437 => (if v1 = z437.1 then (f5n_count n z437.2 oG oL oU oV oB oH (nI 4)).bind fun z446 => (if v2 = z446.1 then (f5n_count n z446.2 oG oL oU oV oB oH (nI 5)).bind fun z455 => (if v3 = z455.1 then some ((nI 1), z455.2) else some ((nI 0), z455.2)) else some ((nI 0), z446.2)) else some ((nI 0), z437.2)))
def fL_matches_b407 (n : Nat) (oG : OB) (oL : OB) (oU : OB) (oV : OB) (oB : OB) (oH : HS) (k12 : Int32 → Int32 → Int32 → Int32 → Int32 → OB → Option (Int32 × (OB))) (k429 : Int32 → Int32 → Int32 → Int32 → OB → Option (Int32 × (OB))) (v1 : Int32) (v3 : Int32) (v4 : Int32) (v5 : Int32) (v10 : Int32) (s0 : Int32) (s1 : Int32) (oS : OB) : Option (Int32 × (OB)) :=
  (if v10 ≤ (nI 1) then k12 v1 (s0 + s1) (v3 + (nI 0)) v4 (v5 + (nI 1)) oS else k12 v1 (s0 + s1) (v3 + (nI 1)) v4 (v5 + (nI 1)) oS)
def fL_matches_b380 (n : Nat) (oG : OB) (oL : OB) (oU : OB) (oV : OB) (oB : OB) (oH : HS) (k12 : Int32 → Int32 → Int32 → Int32 → Int32 → OB → Option (Int32 × (OB))) (k429 : Int32 → Int32 → Int32 → Int32 → OB → Option (Int32 × (OB))) (v1 : Int32) (v2 : Int32) (v3 : Int32) (v5 : Int32) (v6 : Int32) (v10 : Int32) (s0 : Int32) (oS : OB) : Option (Int32 × (OB)) :=
  (if v6 = (-1 : Int32) then (if v10 = (0 : Int32) then fL_matches_b407 n oG oL oU oV oB oH k12 k429 (v1 + (nI 0)) v3 s0 v5 v10 v2 (nI 0) oS else fL_matches_b407 n oG oL oU oV oB oH k12 k429 (v1 + (nI 0)) v3 s0 v5 v10 v2 (nI 1) oS) else (if v10 = (0 : Int32) then fL_matches_b407 n oG oL oU oV oB oH k12 k429 (v1 + (nI 1)) v3 s0 v5 v10 v2 (nI 0) oS else fL_matches_b407 n oG oL oU oV oB oH k12 k429 (v1 + (nI 1)) v3 s0 v5 v10 v2 (nI 1) oS))
def fL_matches_b364 (n : Nat) (oG : OB) (oL : OB) (oU : OB) (oV : OB) (oB : OB) (oH : HS) (k12 : Int32 → Int32 → Int32 → Int32 → Int32 → OB → Option (Int32 × (OB))) (k429 : Int32 → Int32 → Int32 → Int32 → OB → Option (Int32 × (OB))) (v1 : Int32) (v2 : Int32) (v3 : Int32) (v5 : Int32) (v6 : Int32) (v10 : Int32) (s1 : Int32) (s2 : Int32) (oS : OB) : Option (Int32 × (OB)) :=
  (f5n_match n oS oG oL oU oV oB oH s1 s2).bind fun z364 => (f5n_setting n oS oG oL oU oV oB oH (nI 2)).bind fun z369 => (if z364 = z369 then fL_matches_b380 n oG oL oU oV oB oH k12 k429 v1 v2 v3 v5 v6 v10 (nI 1) oS else fL_matches_b380 n oG oL oU oV oB oH k12 k429 v1 v2 v3 v5 v6 v10 (nI 0) oS)
def fL_matches_b342 (n : Nat) (oG : OB) (oL : OB) (oU : OB) (oV : OB) (oB : OB) (oH : HS) (k12 : Int32 → Int32 → Int32 → Int32 → Int32 → OB → Option (Int32 × (OB))) (k429 : Int32 → Int32 → Int32 → Int32 → OB → Option (Int32 × (OB))) (v1 : Int32) (v2 : Int32) (v3 : Int32) (v5 : Int32) (v6 : Int32) (v10 : Int32) (s1 : Int32) (s2 : Int32) (oS : OB) : Option (Int32 × (OB)) :=
  (f5n_match n oS oG oL oU oV oB oH s1 s2).bind fun z342 => (if z342 = (0 : Int32) then (if v10 = (nI 2) then fL_matches_b364 n oG oL oU oV oB oH k12 k429 v1 v2 v3 v5 v6 v10 v5 (nI 7) oS else fL_matches_b364 n oG oL oU oV oB oH k12 k429 v1 v2 v3 v5 v6 v10 v5 (nI 6) oS) else fL_matches_b380 n oG oL oU oV oB oH k12 k429 v1 v2 v3 v5 v6 v10 (nI 0) oS)
def fL_matches_b313 (n : Nat) (oG : OB) (oL : OB) (oU : OB) (oV : OB) (oB : OB) (oH : HS) (k12 : Int32 → Int32 → Int32 → Int32 → Int32 → OB → Option (Int32 × (OB))) (k429 : Int32 → Int32 → Int32 → Int32 → OB → Option (Int32 × (OB))) (v1 : Int32) (v2 : Int32) (v3 : Int32) (v5 : Int32) (v6 : Int32) (v10 : Int32) (s0 : Int32) (oS : OB) : Option (Int32 × (OB)) :=
  (if s0 = (0 : Int32) then fL_matches_b380 n oG oL oU oV oB oH k12 k429 v1 v2 v3 v5 v6 v10 (nI 0) oS else (if v10 < (nI 2) then fL_matches_b380 n oG oL oU oV oB oH k12 k429 v1 v2 v3 v5 v6 v10 (nI 1) oS else (if v10 = (nI 2) then fL_matches_b342 n oG oL oU oV oB oH k12 k429 v1 v2 v3 v5 v6 v10 v5 (nI 6) oS else fL_matches_b342 n oG oL oU oV oB oH k12 k429 v1 v2 v3 v5 v6 v10 v5 (nI 7) oS)))
def fL_matches_b216 (n : Nat) (oG : OB) (oL : OB) (oU : OB) (oV : OB) (oB : OB) (oH : HS) (k12 : Int32 → Int32 → Int32 → Int32 → Int32 → OB → Option (Int32 × (OB))) (k429 : Int32 → Int32 → Int32 → Int32 → OB → Option (Int32 × (OB))) (v1 : Int32) (v2 : Int32) (v3 : Int32) (v5 : Int32) (v6 : Int32) (v7 : Int32) (v8 : Int32) (v9 : Int32) (v10 : Int32) (v11 : Int32) (s0 : Int32) (oS : OB) : Option (Int32 × (OB)) :=
  (if s0 = (0 : Int32) then fL_matches_b313 n oG oL oU oV oB oH k12 k429 v1 v2 v3 v5 v6 v10 (nI 0) oS else (if v6 = (-1 : Int32) then fL_matches_b313 n oG oL oU oV oB oH k12 k429 v1 v2 v3 v5 v6 v10 (nI 1) oS else (if v6 = (v8 - v8 / (nI 6) * (nI 6)) then fL_matches_b313 n oG oL oU oV oB oH k12 k429 v1 v2 v3 v5 v6 v10 (nI 0) oS else (if v6 = (v9 - v9 / (nI 6) * (nI 6)) then fL_matches_b313 n oG oL oU oV oB oH k12 k429 v1 v2 v3 v5 v6 v10 (nI 0) oS else (nz v11).bind fun _ => (if (v7 - v7 / v11 * v11) = v8 then fL_matches_b313 n oG oL oU oV oB oH k12 k429 v1 v2 v3 v5 v6 v10 (nI 0) oS else (nz v11).bind fun _ => (if (v7 - v7 / v11 * v11) = v9 then fL_matches_b313 n oG oL oU oV oB oH k12 k429 v1 v2 v3 v5 v6 v10 (nI 0) oS else (f5n_match n oS oG oL oU oV oB oH v5 (nI 0)).bind fun z274 => (f5n_busy n oS oG oL oU oV oB oH z274 v6).bind fun z279 => (if z279 = v5 then (f5n_match n oS oG oL oU oV oB oH v5 (nI 0)).bind fun z292 => (f5n_busy n oS oG oL oU oV oB oH z292 ((nI 6) + v7)).bind fun z300 => (if z300 = v5 then fL_matches_b313 n oG oL oU oV oB oH k12 k429 v1 v2 v3 v5 v6 v10 (nI 1) oS else fL_matches_b313 n oG oL oU oV oB oH k12 k429 v1 v2 v3 v5 v6 v10 (nI 0) oS) else fL_matches_b313 n oG oL oU oV oB oH k12 k429 v1 v2 v3 v5 v6 v10 (nI 0) oS)))))))
def fL_matches_b192 (n : Nat) (oG : OB) (oL : OB) (oU : OB) (oV : OB) (oB : OB) (oH : HS) (k12 : Int32 → Int32 → Int32 → Int32 → Int32 → OB → Option (Int32 × (OB))) (k429 : Int32 → Int32 → Int32 → Int32 → OB → Option (Int32 × (OB))) (v1 : Int32) (v2 : Int32) (v3 : Int32) (v5 : Int32) (v6 : Int32) (v7 : Int32) (v8 : Int32) (v9 : Int32) (v10 : Int32) (v11 : Int32) (s0 : Int32) (s1 : Int32) (oS : OB) : Option (Int32 × (OB)) :=
  (if s0 = s1 then (if v6 = (-1 : Int32) then fL_matches_b216 n oG oL oU oV oB oH k12 k429 v1 v2 v3 v5 v6 v7 v8 v9 v10 v11 (nI 1) oS else (f5n_match n oS oG oL oU oV oB oH v5 (nI 5)).bind fun z205 => (if z205 = (0 : Int32) then fL_matches_b216 n oG oL oU oV oB oH k12 k429 v1 v2 v3 v5 v6 v7 v8 v9 v10 v11 (nI 1) oS else fL_matches_b216 n oG oL oU oV oB oH k12 k429 v1 v2 v3 v5 v6 v7 v8 v9 v10 v11 (nI 0) oS)) else fL_matches_b216 n oG oL oU oV oB oH k12 k429 v1 v2 v3 v5 v6 v7 v8 v9 v10 v11 (nI 0) oS)
def fL_matches_b175 (n : Nat) (oG : OB) (oL : OB) (oU : OB) (oV : OB) (oB : OB) (oH : HS) (k12 : Int32 → Int32 → Int32 → Int32 → Int32 → OB → Option (Int32 × (OB))) (k429 : Int32 → Int32 → Int32 → Int32 → OB → Option (Int32 × (OB))) (v1 : Int32) (v2 : Int32) (v3 : Int32) (v5 : Int32) (v6 : Int32) (v7 : Int32) (v8 : Int32) (v9 : Int32) (v10 : Int32) (v11 : Int32) (s0 : Int32) (oS : OB) : Option (Int32 × (OB)) :=
  (f5n_match n oS oG oL oU oV oB oH v5 (nI 7)).bind fun z180 => (if z180 = (-1 : Int32) then fL_matches_b192 n oG oL oU oV oB oH k12 k429 v1 v2 v3 v5 v6 v7 v8 v9 v10 v11 s0 (nI 1) oS else fL_matches_b192 n oG oL oU oV oB oH k12 k429 v1 v2 v3 v5 v6 v7 v8 v9 v10 v11 s0 (nI 0) oS)
def fL_matches_b145 (n : Nat) (oG : OB) (oL : OB) (oU : OB) (oV : OB) (oB : OB) (oH : HS) (k12 : Int32 → Int32 → Int32 → Int32 → Int32 → OB → Option (Int32 × (OB))) (k429 : Int32 → Int32 → Int32 → Int32 → OB → Option (Int32 × (OB))) (v1 : Int32) (v2 : Int32) (v3 : Int32) (v5 : Int32) (v6 : Int32) (v7 : Int32) (v8 : Int32) (v9 : Int32) (v10 : Int32) (v11 : Int32) (s0 : Int32) (oS : OB) : Option (Int32 × (OB)) :=
  (f5n_match n oS oG oL oU oV oB oH v5 (nI 6)).bind fun z150 => (if z150 = (-1 : Int32) then (if s0 = (nI 1) then (if v10 = (0 : Int32) then fL_matches_b175 n oG oL oU oV oB oH k12 k429 v1 v2 v3 v5 v6 v7 v8 v9 v10 v11 (nI 1) oS else fL_matches_b175 n oG oL oU oV oB oH k12 k429 v1 v2 v3 v5 v6 v7 v8 v9 v10 v11 (nI 0) oS) else fL_matches_b216 n oG oL oU oV oB oH k12 k429 v1 v2 v3 v5 v6 v7 v8 v9 v10 v11 (nI 0) oS) else (if s0 = (nI 0) then (if v10 = (0 : Int32) then fL_matches_b175 n oG oL oU oV oB oH k12 k429 v1 v2 v3 v5 v6 v7 v8 v9 v10 v11 (nI 1) oS else fL_matches_b175 n oG oL oU oV oB oH k12 k429 v1 v2 v3 v5 v6 v7 v8 v9 v10 v11 (nI 0) oS) else fL_matches_b216 n oG oL oU oV oB oH k12 k429 v1 v2 v3 v5 v6 v7 v8 v9 v10 v11 (nI 0) oS))
def fL_matches_b122 (n : Nat) (oG : OB) (oL : OB) (oU : OB) (oV : OB) (oB : OB) (oH : HS) (k12 : Int32 → Int32 → Int32 → Int32 → Int32 → OB → Option (Int32 × (OB))) (k429 : Int32 → Int32 → Int32 → Int32 → OB → Option (Int32 × (OB))) (v1 : Int32) (v2 : Int32) (v3 : Int32) (v5 : Int32) (v6 : Int32) (v7 : Int32) (v8 : Int32) (v9 : Int32) (v10 : Int32) (v11 : Int32) (s0 : Int32) (s1 : Int32) (oS : OB) : Option (Int32 × (OB)) :=
  (if s0 = s1 then (if v10 = (0 : Int32) then (if v10 = (0 : Int32) then fL_matches_b145 n oG oL oU oV oB oH k12 k429 v1 v2 v3 v5 v6 v7 v8 v9 v10 v11 (nI 1) oS else fL_matches_b145 n oG oL oU oV oB oH k12 k429 v1 v2 v3 v5 v6 v7 v8 v9 v10 v11 (nI 0) oS) else (if v6 < (0 : Int32) then fL_matches_b216 n oG oL oU oV oB oH k12 k429 v1 v2 v3 v5 v6 v7 v8 v9 v10 v11 (nI 0) oS else (if v10 = (0 : Int32) then fL_matches_b145 n oG oL oU oV oB oH k12 k429 v1 v2 v3 v5 v6 v7 v8 v9 v10 v11 (nI 1) oS else fL_matches_b145 n oG oL oU oV oB oH k12 k429 v1 v2 v3 v5 v6 v7 v8 v9 v10 v11 (nI 0) oS))) else fL_matches_b216 n oG oL oU oV oB oH k12 k429 v1 v2 v3 v5 v6 v7 v8 v9 v10 v11 (nI 0) oS)
def fL_matches_b12 (n : Nat) (oG : OB) (oL : OB) (oU : OB) (oV : OB) (oB : OB) (oH : HS) (k429 : Int32 → Int32 → Int32 → Int32 → OB → Option (Int32 × (OB))) : Nat → Int32 → Int32 → Int32 → Int32 → Int32 → OB → Option (Int32 × (OB))
  | 0, _, _, _, _, _, _ => none
  | k + 1, v1, v2, v3, v4, v5, oS =>
    (f5n_count n oS oG oL oU oV oB oH (nI 2)).bind fun z16 => (if z16.1 ≤ v5 then k429 v1 v2 v3 v4 z16.2 else (if v4 = (0 : Int32) then k429 v1 v2 v3 v4 z16.2 else (f5n_match n z16.2 oG oL oU oV oB oH v5 (nI 3)).bind fun z31 => (f5n_match n z16.2 oG oL oU oV oB oH v5 (nI 4)).bind fun z40 => (f5n_match n z16.2 oG oL oU oV oB oH v5 (nI 1)).bind fun z49 => (f5n_match n z16.2 oG oL oU oV oB oH v5 (nI 2)).bind fun z58 => (f5n_match n z16.2 oG oL oU oV oB oH v5 (nI 8)).bind fun z68 => (f5n_count n z16.2 oG oL oU oV oB oH (nI 0)).bind fun z75 => (if z49 = z58 then fL_matches_b216 n oG oL oU oV oB oH (fL_matches_b12 n oG oL oU oV oB oH k429 k) k429 v1 v2 v3 v5 z31 z40 z49 z58 z68 z75.1 (nI 0) z75.2 else (f5n_meeting n z75.2 oG oL oU oV oB oH z49 z58).bind fun z92 => (if z92 = v5 then (if z31 = (-1 : Int32) then (if z40 = (-1 : Int32) then fL_matches_b122 n oG oL oU oV oB oH (fL_matches_b12 n oG oL oU oV oB oH k429 k) k429 v1 v2 v3 v5 z31 z40 z49 z58 z68 z75.1 (nI 1) (nI 1) z75.2 else fL_matches_b122 n oG oL oU oV oB oH (fL_matches_b12 n oG oL oU oV oB oH k429 k) k429 v1 v2 v3 v5 z31 z40 z49 z58 z68 z75.1 (nI 1) (nI 0) z75.2) else (if z40 = (-1 : Int32) then fL_matches_b122 n oG oL oU oV oB oH (fL_matches_b12 n oG oL oU oV oB oH k429 k) k429 v1 v2 v3 v5 z31 z40 z49 z58 z68 z75.1 (nI 0) (nI 1) z75.2 else fL_matches_b122 n oG oL oU oV oB oH (fL_matches_b12 n oG oL oU oV oB oH k429 k) k429 v1 v2 v3 v5 z31 z40 z49 z58 z68 z75.1 (nI 0) (nI 0) z75.2)) else fL_matches_b216 n oG oL oU oV oB oH (fL_matches_b12 n oG oL oU oV oB oH k429 k) k429 v1 v2 v3 v5 z31 z40 z49 z58 z68 z75.1 (nI 0) z75.2))))
def fL_matches (n : Nat) (oS : OB) (oG : OB) (oL : OB) (oU : OB) (oV : OB) (oB : OB) (oH : HS) : Option (Int32 × (OB)) :=
  fL_matches_b12 n oG oL oU oV oB oH (fun v1 v2 v3 v4 oS => fL_matches_b429 n oG oL oU oV oB oH v1 v2 v3 v4 oS) n (nI 0) (nI 0) (nI 0) (nI 1) (nI 0) oS
set_option maxHeartbeats 4000000 in
set_option maxRecDepth 100000 in
theorem tL_matches_b429 {l : Launch} {p : Program} {e : Env} {s : State} {m : MethodId} {args : Array Value} {below : List Frame} {meth : Method} {c : Code} {D : va_G} {A : Nat → Prop} {cyI cyO cyJ : ClassId} {aX : Nat} {aS : Nat → Nat} {aG : Nat → Nat} {aL : Nat → Nat} {aU : Nat → Nat} {aV : Nat → Nat} {aB : Nat → Nat} {aH : Nat → Nat} (C : Cx p s m args meth c D (tyG cyI cyO cyJ) A RL cL_matches 12 (some .boolean) wsL_matches) {z : Int32 × (OB)} (n : Nat) (oG : OB) (oL : OB) (oU : OB) (oV : OB) (oB : OB) (oH : HS) (v1 : Int32) (v2 : Int32) (v3 : Int32) (v4 : Int32) (oS : OB) (hf : fL_matches_b429 n oG oL oU oV oB oH v1 v2 v3 v4 oS = some z) : Wn p l e rmL_matches s m args below meth c D A 12 0 0 (MQ below (Qr D (tyG cyI cyO cyJ) ([(aX, .inr (5, [.ref (aL 0), .ref (aS 0), .ref (aG 0), .ref (aH 0), .ref (aB 0), .ref (aV 0), .ref (aU 0)]))] ++ (bX4 cyI aS z.2 ++ (bX3 cyI aG oG ++ (bX1 cyI aL oL ++ (bX4 cyI aU oU ++ (bX1 cyI aV oV ++ (bX2 cyI aB oB ++ bHS cyI cyO aH oH))))))) A (some (.int z.1))) args s 0 0 A) ([(aX, .inr (5, [.ref (aL 0), .ref (aS 0), .ref (aG 0), .ref (aH 0), .ref (aB 0), .ref (aV 0), .ref (aU 0)]))] ++ (bX4 cyI aS oS ++ (bX3 cyI aG oG ++ (bX1 cyI aL oL ++ (bX4 cyI aU oU ++ (bX1 cyI aV oV ++ (bX2 cyI aB oB ++ bHS cyI cyO aH oH))))))) 429 [(0, .ref aX), (1, .int v1), (2, .int v2), (3, .int v3), (4, .int v4)] [] := by
  unfold fL_matches_b429 at hf
  refine n_iload C dL_matches_429 4 rfl rfl ?_
  refine n_if_eq (t := 465) C dL_matches_431 (by decide) rfl (fun h431 => ?_) (fun h431 => ?_)
  · have hf := ip h431 hf
    refine n_iconst (v := (nI 0)) C dL_matches_465 (by decide) rfl ?_
    obtain rfl := Option.some.inj hf
    exact n_zret C dL_matches_466 (Or.inl rfl)
  · have hf := iq h431 hf
    refine n_iload_n C dL_matches_434 1 rfl rfl ?_
    refine n_aload_n C dL_matches_435 0 rfl rfl ?_
    refine n_iconst (v := (nI 3)) C dL_matches_436 (by decide) rfl ?_
    obtain ⟨z437, h437, hf⟩ := bi hf
    refine n_callV (As := [.int (nI 3)]) (rest := [.int v1]) (w2 := [(aX, .inr (5, [.ref (aL 0), .ref (aS 0), .ref (aG 0), .ref (aH 0), .ref (aB 0), .ref (aV 0), .ref (aU 0)]))] ++ (bX4 cyI aS z437.2 ++ (bX3 cyI aG oG ++ (bX1 cyI aL oL ++ (bX4 cyI aU oU ++ (bX1 cyI aV oV ++ (bX2 cyI aB oB ++ bHS cyI cyO aH oH))))))) C dL_matches_437 (c5n_count l D cyI cyO cyJ aX aS aG aL aU aV aB aH n oS oG oL oU oV oB oH (nI 3) z437 h437) (cwV 1 C.ts gL_matches_X5_count rfl rfl rfl (by decide +kernel) ⟨Nat.le_of_ble_eq_true rfl, Nat.le_of_ble_eq_true rfl⟩) rfl (q0 := 0) (ci := 5) rfl rfl Frm.self rfl (Nat.le_of_ble_eq_true rfl) ⟨Nat.le_of_ble_eq_true rfl, Nat.le_of_ble_eq_true rfl⟩ rfl ?_
    refine n_icmp_ne (t := 465) C dL_matches_440 (by decide) rfl (fun h440 => ?_) (fun h440 => ?_)
    · have hf := iq h440 hf
      refine n_iconst (v := (nI 0)) C dL_matches_465 (by decide) rfl ?_
      obtain rfl := Option.some.inj hf
      exact n_zret C dL_matches_466 (Or.inl rfl)
    · have hf := ip h440 hf
      refine n_iload_n C dL_matches_443 2 rfl rfl ?_
      refine n_aload_n C dL_matches_444 0 rfl rfl ?_
      refine n_iconst (v := (nI 4)) C dL_matches_445 (by decide) rfl ?_
      obtain ⟨z446, h446, hf⟩ := bi hf
      refine n_callV (As := [.int (nI 4)]) (rest := [.int v2]) (w2 := [(aX, .inr (5, [.ref (aL 0), .ref (aS 0), .ref (aG 0), .ref (aH 0), .ref (aB 0), .ref (aV 0), .ref (aU 0)]))] ++ (bX4 cyI aS z446.2 ++ (bX3 cyI aG oG ++ (bX1 cyI aL oL ++ (bX4 cyI aU oU ++ (bX1 cyI aV oV ++ (bX2 cyI aB oB ++ bHS cyI cyO aH oH))))))) C dL_matches_446 (c5n_count l D cyI cyO cyJ aX aS aG aL aU aV aB aH n z437.2 oG oL oU oV oB oH (nI 4) z446 h446) (cwV 1 C.ts gL_matches_X5_count rfl rfl rfl (by decide +kernel) ⟨Nat.le_of_ble_eq_true rfl, Nat.le_of_ble_eq_true rfl⟩) rfl (q0 := 0) (ci := 5) rfl rfl Frm.self rfl (Nat.le_of_ble_eq_true rfl) ⟨Nat.le_of_ble_eq_true rfl, Nat.le_of_ble_eq_true rfl⟩ rfl ?_
      refine n_icmp_ne (t := 465) C dL_matches_449 (by decide) rfl (fun h449 => ?_) (fun h449 => ?_)
      · have hf := iq h449 hf
        refine n_iconst (v := (nI 0)) C dL_matches_465 (by decide) rfl ?_
        obtain rfl := Option.some.inj hf
        exact n_zret C dL_matches_466 (Or.inl rfl)
      · have hf := ip h449 hf
        refine n_iload_n C dL_matches_452 3 rfl rfl ?_
        refine n_aload_n C dL_matches_453 0 rfl rfl ?_
        refine n_iconst (v := (nI 5)) C dL_matches_454 (by decide) rfl ?_
        obtain ⟨z455, h455, hf⟩ := bi hf
        refine n_callV (As := [.int (nI 5)]) (rest := [.int v3]) (w2 := [(aX, .inr (5, [.ref (aL 0), .ref (aS 0), .ref (aG 0), .ref (aH 0), .ref (aB 0), .ref (aV 0), .ref (aU 0)]))] ++ (bX4 cyI aS z455.2 ++ (bX3 cyI aG oG ++ (bX1 cyI aL oL ++ (bX4 cyI aU oU ++ (bX1 cyI aV oV ++ (bX2 cyI aB oB ++ bHS cyI cyO aH oH))))))) C dL_matches_455 (c5n_count l D cyI cyO cyJ aX aS aG aL aU aV aB aH n z446.2 oG oL oU oV oB oH (nI 5) z455 h455) (cwV 1 C.ts gL_matches_X5_count rfl rfl rfl (by decide +kernel) ⟨Nat.le_of_ble_eq_true rfl, Nat.le_of_ble_eq_true rfl⟩) rfl (q0 := 0) (ci := 5) rfl rfl Frm.self rfl (Nat.le_of_ble_eq_true rfl) ⟨Nat.le_of_ble_eq_true rfl, Nat.le_of_ble_eq_true rfl⟩ rfl ?_
        refine n_icmp_ne (t := 465) C dL_matches_458 (by decide) rfl (fun h458 => ?_) (fun h458 => ?_)
        · have hf := iq h458 hf
          refine n_iconst (v := (nI 0)) C dL_matches_465 (by decide) rfl ?_
          obtain rfl := Option.some.inj hf
          exact n_zret C dL_matches_466 (Or.inl rfl)
        · have hf := ip h458 hf
          refine n_iconst (v := (nI 1)) C dL_matches_461 (by decide) rfl ?_
          refine n_goto (t := 466) C dL_matches_462 (by decide) ?_
          obtain rfl := Option.some.inj hf
          exact n_zret C dL_matches_466 (Or.inr rfl)
set_option maxHeartbeats 4000000 in
set_option maxRecDepth 100000 in
theorem tL_matches_b407 {l : Launch} {p : Program} {e : Env} {s : State} {m : MethodId} {args : Array Value} {below : List Frame} {meth : Method} {c : Code} {D : va_G} {A : Nat → Prop} {cyI cyO cyJ : ClassId} {aX : Nat} {aS : Nat → Nat} {aG : Nat → Nat} {aL : Nat → Nat} {aU : Nat → Nat} {aV : Nat → Nat} {aB : Nat → Nat} {aH : Nat → Nat} (C : Cx p s m args meth c D (tyG cyI cyO cyJ) A RL cL_matches 12 (some .boolean) wsL_matches) {z : Int32 × (OB)} (n : Nat) (oG : OB) (oL : OB) (oU : OB) (oV : OB) (oB : OB) (oH : HS) {k12 : Int32 → Int32 → Int32 → Int32 → Int32 → OB → Option (Int32 × (OB))} {k429 : Int32 → Int32 → Int32 → Int32 → OB → Option (Int32 × (OB))} (hk12 : ∀ (v1 : Int32) (v2 : Int32) (v3 : Int32) (v4 : Int32) (v5 : Int32) (oS : OB), k12 v1 v2 v3 v4 v5 oS = some z → Wn p l e rmL_matches s m args below meth c D A 12 0 0 (MQ below (Qr D (tyG cyI cyO cyJ) ([(aX, .inr (5, [.ref (aL 0), .ref (aS 0), .ref (aG 0), .ref (aH 0), .ref (aB 0), .ref (aV 0), .ref (aU 0)]))] ++ (bX4 cyI aS z.2 ++ (bX3 cyI aG oG ++ (bX1 cyI aL oL ++ (bX4 cyI aU oU ++ (bX1 cyI aV oV ++ (bX2 cyI aB oB ++ bHS cyI cyO aH oH))))))) A (some (.int z.1))) args s 0 0 A) ([(aX, .inr (5, [.ref (aL 0), .ref (aS 0), .ref (aG 0), .ref (aH 0), .ref (aB 0), .ref (aV 0), .ref (aU 0)]))] ++ (bX4 cyI aS oS ++ (bX3 cyI aG oG ++ (bX1 cyI aL oL ++ (bX4 cyI aU oU ++ (bX1 cyI aV oV ++ (bX2 cyI aB oB ++ bHS cyI cyO aH oH))))))) 12 [(0, .ref aX), (1, .int v1), (2, .int v2), (3, .int v3), (4, .int v4), (5, .int v5)] []) (hk429 : ∀ (v1 : Int32) (v2 : Int32) (v3 : Int32) (v4 : Int32) (oS : OB), k429 v1 v2 v3 v4 oS = some z → Wn p l e rmL_matches s m args below meth c D A 12 0 0 (MQ below (Qr D (tyG cyI cyO cyJ) ([(aX, .inr (5, [.ref (aL 0), .ref (aS 0), .ref (aG 0), .ref (aH 0), .ref (aB 0), .ref (aV 0), .ref (aU 0)]))] ++ (bX4 cyI aS z.2 ++ (bX3 cyI aG oG ++ (bX1 cyI aL oL ++ (bX4 cyI aU oU ++ (bX1 cyI aV oV ++ (bX2 cyI aB oB ++ bHS cyI cyO aH oH))))))) A (some (.int z.1))) args s 0 0 A) ([(aX, .inr (5, [.ref (aL 0), .ref (aS 0), .ref (aG 0), .ref (aH 0), .ref (aB 0), .ref (aV 0), .ref (aU 0)]))] ++ (bX4 cyI aS oS ++ (bX3 cyI aG oG ++ (bX1 cyI aL oL ++ (bX4 cyI aU oU ++ (bX1 cyI aV oV ++ (bX2 cyI aB oB ++ bHS cyI cyO aH oH))))))) 429 [(0, .ref aX), (1, .int v1), (2, .int v2), (3, .int v3), (4, .int v4)] []) (v1 : Int32) (v3 : Int32) (v4 : Int32) (v5 : Int32) (v10 : Int32) (s0 : Int32) (s1 : Int32) (oS : OB) (hf : fL_matches_b407 n oG oL oU oV oB oH k12 k429 v1 v3 v4 v5 v10 s0 s1 oS = some z) : Wn p l e rmL_matches s m args below meth c D A 12 0 0 (MQ below (Qr D (tyG cyI cyO cyJ) ([(aX, .inr (5, [.ref (aL 0), .ref (aS 0), .ref (aG 0), .ref (aH 0), .ref (aB 0), .ref (aV 0), .ref (aU 0)]))] ++ (bX4 cyI aS z.2 ++ (bX3 cyI aG oG ++ (bX1 cyI aL oL ++ (bX4 cyI aU oU ++ (bX1 cyI aV oV ++ (bX2 cyI aB oB ++ bHS cyI cyO aH oH))))))) A (some (.int z.1))) args s 0 0 A) ([(aX, .inr (5, [.ref (aL 0), .ref (aS 0), .ref (aG 0), .ref (aH 0), .ref (aB 0), .ref (aV 0), .ref (aU 0)]))] ++ (bX4 cyI aS oS ++ (bX3 cyI aG oG ++ (bX1 cyI aL oL ++ (bX4 cyI aU oU ++ (bX1 cyI aV oV ++ (bX2 cyI aB oB ++ bHS cyI cyO aH oH))))))) 407 [(0, .ref aX), (1, .int v1), (3, .int v3), (4, .int v4), (5, .int v5), (10, .int v10)] [.int s1, .int s0] := by
  unfold fL_matches_b407 at hf
  refine n_iadd C dL_matches_407 rfl ?_
  refine n_istore_n (lv' := [(2, .int (s0 + s1)), (0, .ref aX), (1, .int v1), (3, .int v3), (4, .int v4), (5, .int v5), (10, .int v10)]) C dL_matches_408 (by decide) rfl rfl ?_
  refine n_iload_n C dL_matches_409 3 rfl rfl ?_
  refine n_iload C dL_matches_410 6 rfl rfl ?_
  refine n_iconst (v := (nI 1)) C dL_matches_412 (by decide) rfl ?_
  refine n_icmp_le (t := 420) C dL_matches_413 (by decide) rfl (fun h413 => ?_) (fun h413 => ?_)
  · have hf := ip h413 hf
    refine n_iconst (v := (nI 0)) C dL_matches_420 (by decide) rfl ?_
    refine n_iadd C dL_matches_421 rfl ?_
    refine n_istore_n (lv' := [(3, .int (v3 + (nI 0))), (2, .int (s0 + s1)), (0, .ref aX), (1, .int v1), (4, .int v4), (5, .int v5), (10, .int v10)]) C dL_matches_422 (by decide) rfl rfl ?_
    refine n_iinc (v := v5 + (nI 1)) (lv' := [(5, .int (v5 + (nI 1))), (3, .int (v3 + (nI 0))), (2, .int (s0 + s1)), (0, .ref aX), (1, .int v1), (4, .int v4), (10, .int v10)]) C dL_matches_423 (j := 5) rfl rfl (by decide) rfl rfl ?_
    refine n_goto (t := 12) C dL_matches_426 (by decide) ?_
    exact Wn.sub (lv' := [(0, .ref aX), (1, .int v1), (2, .int (s0 + s1)), (3, .int (v3 + (nI 0))), (4, .int v4), (5, .int (v5 + (nI 1)))]) [3, 4, 2, 1, 5, 0] rfl (hk12 v1 (s0 + s1) (v3 + (nI 0)) v4 (v5 + (nI 1)) oS hf)
  · have hf := iq h413 hf
    refine n_iconst (v := (nI 1)) C dL_matches_416 (by decide) rfl ?_
    refine n_goto (t := 421) C dL_matches_417 (by decide) ?_
    refine n_iadd C dL_matches_421 rfl ?_
    refine n_istore_n (lv' := [(3, .int (v3 + (nI 1))), (2, .int (s0 + s1)), (0, .ref aX), (1, .int v1), (4, .int v4), (5, .int v5), (10, .int v10)]) C dL_matches_422 (by decide) rfl rfl ?_
    refine n_iinc (v := v5 + (nI 1)) (lv' := [(5, .int (v5 + (nI 1))), (3, .int (v3 + (nI 1))), (2, .int (s0 + s1)), (0, .ref aX), (1, .int v1), (4, .int v4), (10, .int v10)]) C dL_matches_423 (j := 5) rfl rfl (by decide) rfl rfl ?_
    refine n_goto (t := 12) C dL_matches_426 (by decide) ?_
    exact Wn.sub (lv' := [(0, .ref aX), (1, .int v1), (2, .int (s0 + s1)), (3, .int (v3 + (nI 1))), (4, .int v4), (5, .int (v5 + (nI 1)))]) [3, 4, 2, 1, 5, 0] rfl (hk12 v1 (s0 + s1) (v3 + (nI 1)) v4 (v5 + (nI 1)) oS hf)
set_option maxHeartbeats 4000000 in
set_option maxRecDepth 100000 in
theorem tL_matches_b380 {l : Launch} {p : Program} {e : Env} {s : State} {m : MethodId} {args : Array Value} {below : List Frame} {meth : Method} {c : Code} {D : va_G} {A : Nat → Prop} {cyI cyO cyJ : ClassId} {aX : Nat} {aS : Nat → Nat} {aG : Nat → Nat} {aL : Nat → Nat} {aU : Nat → Nat} {aV : Nat → Nat} {aB : Nat → Nat} {aH : Nat → Nat} (C : Cx p s m args meth c D (tyG cyI cyO cyJ) A RL cL_matches 12 (some .boolean) wsL_matches) {z : Int32 × (OB)} (n : Nat) (oG : OB) (oL : OB) (oU : OB) (oV : OB) (oB : OB) (oH : HS) {k12 : Int32 → Int32 → Int32 → Int32 → Int32 → OB → Option (Int32 × (OB))} {k429 : Int32 → Int32 → Int32 → Int32 → OB → Option (Int32 × (OB))} (hk12 : ∀ (v1 : Int32) (v2 : Int32) (v3 : Int32) (v4 : Int32) (v5 : Int32) (oS : OB), k12 v1 v2 v3 v4 v5 oS = some z → Wn p l e rmL_matches s m args below meth c D A 12 0 0 (MQ below (Qr D (tyG cyI cyO cyJ) ([(aX, .inr (5, [.ref (aL 0), .ref (aS 0), .ref (aG 0), .ref (aH 0), .ref (aB 0), .ref (aV 0), .ref (aU 0)]))] ++ (bX4 cyI aS z.2 ++ (bX3 cyI aG oG ++ (bX1 cyI aL oL ++ (bX4 cyI aU oU ++ (bX1 cyI aV oV ++ (bX2 cyI aB oB ++ bHS cyI cyO aH oH))))))) A (some (.int z.1))) args s 0 0 A) ([(aX, .inr (5, [.ref (aL 0), .ref (aS 0), .ref (aG 0), .ref (aH 0), .ref (aB 0), .ref (aV 0), .ref (aU 0)]))] ++ (bX4 cyI aS oS ++ (bX3 cyI aG oG ++ (bX1 cyI aL oL ++ (bX4 cyI aU oU ++ (bX1 cyI aV oV ++ (bX2 cyI aB oB ++ bHS cyI cyO aH oH))))))) 12 [(0, .ref aX), (1, .int v1), (2, .int v2), (3, .int v3), (4, .int v4), (5, .int v5)] []) (hk429 : ∀ (v1 : Int32) (v2 : Int32) (v3 : Int32) (v4 : Int32) (oS : OB), k429 v1 v2 v3 v4 oS = some z → Wn p l e rmL_matches s m args below meth c D A 12 0 0 (MQ below (Qr D (tyG cyI cyO cyJ) ([(aX, .inr (5, [.ref (aL 0), .ref (aS 0), .ref (aG 0), .ref (aH 0), .ref (aB 0), .ref (aV 0), .ref (aU 0)]))] ++ (bX4 cyI aS z.2 ++ (bX3 cyI aG oG ++ (bX1 cyI aL oL ++ (bX4 cyI aU oU ++ (bX1 cyI aV oV ++ (bX2 cyI aB oB ++ bHS cyI cyO aH oH))))))) A (some (.int z.1))) args s 0 0 A) ([(aX, .inr (5, [.ref (aL 0), .ref (aS 0), .ref (aG 0), .ref (aH 0), .ref (aB 0), .ref (aV 0), .ref (aU 0)]))] ++ (bX4 cyI aS oS ++ (bX3 cyI aG oG ++ (bX1 cyI aL oL ++ (bX4 cyI aU oU ++ (bX1 cyI aV oV ++ (bX2 cyI aB oB ++ bHS cyI cyO aH oH))))))) 429 [(0, .ref aX), (1, .int v1), (2, .int v2), (3, .int v3), (4, .int v4)] []) (v1 : Int32) (v2 : Int32) (v3 : Int32) (v5 : Int32) (v6 : Int32) (v10 : Int32) (s0 : Int32) (oS : OB) (hf : fL_matches_b380 n oG oL oU oV oB oH k12 k429 v1 v2 v3 v5 v6 v10 s0 oS = some z) : Wn p l e rmL_matches s m args below meth c D A 12 0 0 (MQ below (Qr D (tyG cyI cyO cyJ) ([(aX, .inr (5, [.ref (aL 0), .ref (aS 0), .ref (aG 0), .ref (aH 0), .ref (aB 0), .ref (aV 0), .ref (aU 0)]))] ++ (bX4 cyI aS z.2 ++ (bX3 cyI aG oG ++ (bX1 cyI aL oL ++ (bX4 cyI aU oU ++ (bX1 cyI aV oV ++ (bX2 cyI aB oB ++ bHS cyI cyO aH oH))))))) A (some (.int z.1))) args s 0 0 A) ([(aX, .inr (5, [.ref (aL 0), .ref (aS 0), .ref (aG 0), .ref (aH 0), .ref (aB 0), .ref (aV 0), .ref (aU 0)]))] ++ (bX4 cyI aS oS ++ (bX3 cyI aG oG ++ (bX1 cyI aL oL ++ (bX4 cyI aU oU ++ (bX1 cyI aV oV ++ (bX2 cyI aB oB ++ bHS cyI cyO aH oH))))))) 380 [(0, .ref aX), (1, .int v1), (2, .int v2), (3, .int v3), (5, .int v5), (6, .int v6), (10, .int v10)] [.int s0] := by
  unfold fL_matches_b380 at hf
  refine n_istore (lv' := [(4, .int s0), (0, .ref aX), (1, .int v1), (2, .int v2), (3, .int v3), (5, .int v5), (6, .int v6), (10, .int v10)]) C dL_matches_380 (by decide) rfl rfl ?_
  refine n_iload_n C dL_matches_382 2 rfl rfl ?_
  refine n_iload C dL_matches_383 6 rfl rfl ?_
  refine n_iconst (v := (-1 : Int32)) C dL_matches_385 (by decide) rfl ?_
  refine n_icmp_ne (t := 393) C dL_matches_386 (by decide) rfl (fun h386 => ?_) (fun h386 => ?_)
  · have hf := iq h386 hf
    refine n_iconst (v := (nI 1)) C dL_matches_393 (by decide) rfl ?_
    refine n_iadd C dL_matches_394 rfl ?_
    refine n_istore_n (lv' := [(1, .int (v1 + (nI 1))), (4, .int s0), (0, .ref aX), (2, .int v2), (3, .int v3), (5, .int v5), (6, .int v6), (10, .int v10)]) C dL_matches_395 (by decide) rfl rfl ?_
    refine n_iload_n C dL_matches_396 3 rfl rfl ?_
    refine n_iload C dL_matches_397 7 rfl rfl ?_
    refine n_if_ne (t := 406) C dL_matches_399 (by decide) rfl (fun h399 => ?_) (fun h399 => ?_)
    · have hf := iq h399 hf
      refine n_iconst (v := (nI 1)) C dL_matches_406 (by decide) rfl ?_
      exact Wn.sub (lv' := [(0, .ref aX), (1, .int (v1 + (nI 1))), (3, .int v3), (4, .int s0), (5, .int v5), (10, .int v10)]) [2, 0, 4, 1, 5, 7] rfl (tL_matches_b407 C n oG oL oU oV oB oH hk12 hk429 (v1 + (nI 1)) v3 s0 v5 v10 v2 (nI 1) oS hf)
    · have hf := ip h399 hf
      refine n_iconst (v := (nI 0)) C dL_matches_402 (by decide) rfl ?_
      refine n_goto (t := 407) C dL_matches_403 (by decide) ?_
      exact Wn.sub (lv' := [(0, .ref aX), (1, .int (v1 + (nI 1))), (3, .int v3), (4, .int s0), (5, .int v5), (10, .int v10)]) [2, 0, 4, 1, 5, 7] rfl (tL_matches_b407 C n oG oL oU oV oB oH hk12 hk429 (v1 + (nI 1)) v3 s0 v5 v10 v2 (nI 0) oS hf)
  · have hf := ip h386 hf
    refine n_iconst (v := (nI 0)) C dL_matches_389 (by decide) rfl ?_
    refine n_goto (t := 394) C dL_matches_390 (by decide) ?_
    refine n_iadd C dL_matches_394 rfl ?_
    refine n_istore_n (lv' := [(1, .int (v1 + (nI 0))), (4, .int s0), (0, .ref aX), (2, .int v2), (3, .int v3), (5, .int v5), (6, .int v6), (10, .int v10)]) C dL_matches_395 (by decide) rfl rfl ?_
    refine n_iload_n C dL_matches_396 3 rfl rfl ?_
    refine n_iload C dL_matches_397 7 rfl rfl ?_
    refine n_if_ne (t := 406) C dL_matches_399 (by decide) rfl (fun h399 => ?_) (fun h399 => ?_)
    · have hf := iq h399 hf
      refine n_iconst (v := (nI 1)) C dL_matches_406 (by decide) rfl ?_
      exact Wn.sub (lv' := [(0, .ref aX), (1, .int (v1 + (nI 0))), (3, .int v3), (4, .int s0), (5, .int v5), (10, .int v10)]) [2, 0, 4, 1, 5, 7] rfl (tL_matches_b407 C n oG oL oU oV oB oH hk12 hk429 (v1 + (nI 0)) v3 s0 v5 v10 v2 (nI 1) oS hf)
    · have hf := ip h399 hf
      refine n_iconst (v := (nI 0)) C dL_matches_402 (by decide) rfl ?_
      refine n_goto (t := 407) C dL_matches_403 (by decide) ?_
      exact Wn.sub (lv' := [(0, .ref aX), (1, .int (v1 + (nI 0))), (3, .int v3), (4, .int s0), (5, .int v5), (10, .int v10)]) [2, 0, 4, 1, 5, 7] rfl (tL_matches_b407 C n oG oL oU oV oB oH hk12 hk429 (v1 + (nI 0)) v3 s0 v5 v10 v2 (nI 0) oS hf)
set_option maxHeartbeats 4000000 in
set_option maxRecDepth 100000 in
theorem tL_matches_b364 {l : Launch} {p : Program} {e : Env} {s : State} {m : MethodId} {args : Array Value} {below : List Frame} {meth : Method} {c : Code} {D : va_G} {A : Nat → Prop} {cyI cyO cyJ : ClassId} {aX : Nat} {aS : Nat → Nat} {aG : Nat → Nat} {aL : Nat → Nat} {aU : Nat → Nat} {aV : Nat → Nat} {aB : Nat → Nat} {aH : Nat → Nat} (C : Cx p s m args meth c D (tyG cyI cyO cyJ) A RL cL_matches 12 (some .boolean) wsL_matches) {z : Int32 × (OB)} (n : Nat) (oG : OB) (oL : OB) (oU : OB) (oV : OB) (oB : OB) (oH : HS) {k12 : Int32 → Int32 → Int32 → Int32 → Int32 → OB → Option (Int32 × (OB))} {k429 : Int32 → Int32 → Int32 → Int32 → OB → Option (Int32 × (OB))} (hk12 : ∀ (v1 : Int32) (v2 : Int32) (v3 : Int32) (v4 : Int32) (v5 : Int32) (oS : OB), k12 v1 v2 v3 v4 v5 oS = some z → Wn p l e rmL_matches s m args below meth c D A 12 0 0 (MQ below (Qr D (tyG cyI cyO cyJ) ([(aX, .inr (5, [.ref (aL 0), .ref (aS 0), .ref (aG 0), .ref (aH 0), .ref (aB 0), .ref (aV 0), .ref (aU 0)]))] ++ (bX4 cyI aS z.2 ++ (bX3 cyI aG oG ++ (bX1 cyI aL oL ++ (bX4 cyI aU oU ++ (bX1 cyI aV oV ++ (bX2 cyI aB oB ++ bHS cyI cyO aH oH))))))) A (some (.int z.1))) args s 0 0 A) ([(aX, .inr (5, [.ref (aL 0), .ref (aS 0), .ref (aG 0), .ref (aH 0), .ref (aB 0), .ref (aV 0), .ref (aU 0)]))] ++ (bX4 cyI aS oS ++ (bX3 cyI aG oG ++ (bX1 cyI aL oL ++ (bX4 cyI aU oU ++ (bX1 cyI aV oV ++ (bX2 cyI aB oB ++ bHS cyI cyO aH oH))))))) 12 [(0, .ref aX), (1, .int v1), (2, .int v2), (3, .int v3), (4, .int v4), (5, .int v5)] []) (hk429 : ∀ (v1 : Int32) (v2 : Int32) (v3 : Int32) (v4 : Int32) (oS : OB), k429 v1 v2 v3 v4 oS = some z → Wn p l e rmL_matches s m args below meth c D A 12 0 0 (MQ below (Qr D (tyG cyI cyO cyJ) ([(aX, .inr (5, [.ref (aL 0), .ref (aS 0), .ref (aG 0), .ref (aH 0), .ref (aB 0), .ref (aV 0), .ref (aU 0)]))] ++ (bX4 cyI aS z.2 ++ (bX3 cyI aG oG ++ (bX1 cyI aL oL ++ (bX4 cyI aU oU ++ (bX1 cyI aV oV ++ (bX2 cyI aB oB ++ bHS cyI cyO aH oH))))))) A (some (.int z.1))) args s 0 0 A) ([(aX, .inr (5, [.ref (aL 0), .ref (aS 0), .ref (aG 0), .ref (aH 0), .ref (aB 0), .ref (aV 0), .ref (aU 0)]))] ++ (bX4 cyI aS oS ++ (bX3 cyI aG oG ++ (bX1 cyI aL oL ++ (bX4 cyI aU oU ++ (bX1 cyI aV oV ++ (bX2 cyI aB oB ++ bHS cyI cyO aH oH))))))) 429 [(0, .ref aX), (1, .int v1), (2, .int v2), (3, .int v3), (4, .int v4)] []) (v1 : Int32) (v2 : Int32) (v3 : Int32) (v5 : Int32) (v6 : Int32) (v10 : Int32) (s1 : Int32) (s2 : Int32) (oS : OB) (hf : fL_matches_b364 n oG oL oU oV oB oH k12 k429 v1 v2 v3 v5 v6 v10 s1 s2 oS = some z) : Wn p l e rmL_matches s m args below meth c D A 12 0 0 (MQ below (Qr D (tyG cyI cyO cyJ) ([(aX, .inr (5, [.ref (aL 0), .ref (aS 0), .ref (aG 0), .ref (aH 0), .ref (aB 0), .ref (aV 0), .ref (aU 0)]))] ++ (bX4 cyI aS z.2 ++ (bX3 cyI aG oG ++ (bX1 cyI aL oL ++ (bX4 cyI aU oU ++ (bX1 cyI aV oV ++ (bX2 cyI aB oB ++ bHS cyI cyO aH oH))))))) A (some (.int z.1))) args s 0 0 A) ([(aX, .inr (5, [.ref (aL 0), .ref (aS 0), .ref (aG 0), .ref (aH 0), .ref (aB 0), .ref (aV 0), .ref (aU 0)]))] ++ (bX4 cyI aS oS ++ (bX3 cyI aG oG ++ (bX1 cyI aL oL ++ (bX4 cyI aU oU ++ (bX1 cyI aV oV ++ (bX2 cyI aB oB ++ bHS cyI cyO aH oH))))))) 364 [(0, .ref aX), (1, .int v1), (2, .int v2), (3, .int v3), (5, .int v5), (6, .int v6), (10, .int v10)] [.int s2, .int s1, .ref aX] := by
  unfold fL_matches_b364 at hf
  obtain ⟨z364, h364, hf⟩ := bi hf
  refine n_callV (As := [.int s1, .int s2]) (rest := []) (w2 := [(aX, .inr (5, [.ref (aL 0), .ref (aS 0), .ref (aG 0), .ref (aH 0), .ref (aB 0), .ref (aV 0), .ref (aU 0)]))] ++ (bX4 cyI aS oS ++ (bX3 cyI aG oG ++ (bX1 cyI aL oL ++ (bX4 cyI aU oU ++ (bX1 cyI aV oV ++ (bX2 cyI aB oB ++ bHS cyI cyO aH oH))))))) C dL_matches_364 (c5n_match l D cyI cyO cyJ aX aS aG aL aU aV aB aH n oS oG oL oU oV oB oH s1 s2 z364 h364) (cwV 2 C.ts gL_matches_X5_match rfl rfl rfl (by decide +kernel) ⟨Nat.le_of_ble_eq_true rfl, Nat.le_of_ble_eq_true rfl⟩) rfl (q0 := 0) (ci := 5) rfl rfl Frm.self rfl (Nat.le_of_ble_eq_true rfl) ⟨Nat.le_of_ble_eq_true rfl, Nat.le_of_ble_eq_true rfl⟩ rfl ?_
  refine n_aload_n C dL_matches_367 0 rfl rfl ?_
  refine n_iconst (v := (nI 2)) C dL_matches_368 (by decide) rfl ?_
  obtain ⟨z369, h369, hf⟩ := bi hf
  refine n_callV (As := [.int (nI 2)]) (rest := [.int z364]) (w2 := [(aX, .inr (5, [.ref (aL 0), .ref (aS 0), .ref (aG 0), .ref (aH 0), .ref (aB 0), .ref (aV 0), .ref (aU 0)]))] ++ (bX4 cyI aS oS ++ (bX3 cyI aG oG ++ (bX1 cyI aL oL ++ (bX4 cyI aU oU ++ (bX1 cyI aV oV ++ (bX2 cyI aB oB ++ bHS cyI cyO aH oH))))))) C dL_matches_369 (c5n_setting l D cyI cyO cyJ aX aS aG aL aU aV aB aH n oS oG oL oU oV oB oH (nI 2) z369 h369) (cwV 1 C.ts gL_matches_X5_setting rfl rfl rfl (by decide +kernel) ⟨Nat.le_of_ble_eq_true rfl, Nat.le_of_ble_eq_true rfl⟩) rfl (q0 := 0) (ci := 5) rfl rfl Frm.self rfl (Nat.le_of_ble_eq_true rfl) ⟨Nat.le_of_ble_eq_true rfl, Nat.le_of_ble_eq_true rfl⟩ rfl ?_
  refine n_icmp_ne (t := 379) C dL_matches_372 (by decide) rfl (fun h372 => ?_) (fun h372 => ?_)
  · have hf := iq h372 hf
    refine n_iconst (v := (nI 0)) C dL_matches_379 (by decide) rfl ?_
    exact Wn.sub (lv' := [(0, .ref aX), (1, .int v1), (2, .int v2), (3, .int v3), (5, .int v5), (6, .int v6), (10, .int v10)]) [0, 1, 2, 3, 4, 5, 6] rfl (tL_matches_b380 C n oG oL oU oV oB oH hk12 hk429 v1 v2 v3 v5 v6 v10 (nI 0) oS hf)
  · have hf := ip h372 hf
    refine n_iconst (v := (nI 1)) C dL_matches_375 (by decide) rfl ?_
    refine n_goto (t := 380) C dL_matches_376 (by decide) ?_
    exact Wn.sub (lv' := [(0, .ref aX), (1, .int v1), (2, .int v2), (3, .int v3), (5, .int v5), (6, .int v6), (10, .int v10)]) [0, 1, 2, 3, 4, 5, 6] rfl (tL_matches_b380 C n oG oL oU oV oB oH hk12 hk429 v1 v2 v3 v5 v6 v10 (nI 1) oS hf)
set_option maxHeartbeats 4000000 in
set_option maxRecDepth 100000 in
theorem tL_matches_b342 {l : Launch} {p : Program} {e : Env} {s : State} {m : MethodId} {args : Array Value} {below : List Frame} {meth : Method} {c : Code} {D : va_G} {A : Nat → Prop} {cyI cyO cyJ : ClassId} {aX : Nat} {aS : Nat → Nat} {aG : Nat → Nat} {aL : Nat → Nat} {aU : Nat → Nat} {aV : Nat → Nat} {aB : Nat → Nat} {aH : Nat → Nat} (C : Cx p s m args meth c D (tyG cyI cyO cyJ) A RL cL_matches 12 (some .boolean) wsL_matches) {z : Int32 × (OB)} (n : Nat) (oG : OB) (oL : OB) (oU : OB) (oV : OB) (oB : OB) (oH : HS) {k12 : Int32 → Int32 → Int32 → Int32 → Int32 → OB → Option (Int32 × (OB))} {k429 : Int32 → Int32 → Int32 → Int32 → OB → Option (Int32 × (OB))} (hk12 : ∀ (v1 : Int32) (v2 : Int32) (v3 : Int32) (v4 : Int32) (v5 : Int32) (oS : OB), k12 v1 v2 v3 v4 v5 oS = some z → Wn p l e rmL_matches s m args below meth c D A 12 0 0 (MQ below (Qr D (tyG cyI cyO cyJ) ([(aX, .inr (5, [.ref (aL 0), .ref (aS 0), .ref (aG 0), .ref (aH 0), .ref (aB 0), .ref (aV 0), .ref (aU 0)]))] ++ (bX4 cyI aS z.2 ++ (bX3 cyI aG oG ++ (bX1 cyI aL oL ++ (bX4 cyI aU oU ++ (bX1 cyI aV oV ++ (bX2 cyI aB oB ++ bHS cyI cyO aH oH))))))) A (some (.int z.1))) args s 0 0 A) ([(aX, .inr (5, [.ref (aL 0), .ref (aS 0), .ref (aG 0), .ref (aH 0), .ref (aB 0), .ref (aV 0), .ref (aU 0)]))] ++ (bX4 cyI aS oS ++ (bX3 cyI aG oG ++ (bX1 cyI aL oL ++ (bX4 cyI aU oU ++ (bX1 cyI aV oV ++ (bX2 cyI aB oB ++ bHS cyI cyO aH oH))))))) 12 [(0, .ref aX), (1, .int v1), (2, .int v2), (3, .int v3), (4, .int v4), (5, .int v5)] []) (hk429 : ∀ (v1 : Int32) (v2 : Int32) (v3 : Int32) (v4 : Int32) (oS : OB), k429 v1 v2 v3 v4 oS = some z → Wn p l e rmL_matches s m args below meth c D A 12 0 0 (MQ below (Qr D (tyG cyI cyO cyJ) ([(aX, .inr (5, [.ref (aL 0), .ref (aS 0), .ref (aG 0), .ref (aH 0), .ref (aB 0), .ref (aV 0), .ref (aU 0)]))] ++ (bX4 cyI aS z.2 ++ (bX3 cyI aG oG ++ (bX1 cyI aL oL ++ (bX4 cyI aU oU ++ (bX1 cyI aV oV ++ (bX2 cyI aB oB ++ bHS cyI cyO aH oH))))))) A (some (.int z.1))) args s 0 0 A) ([(aX, .inr (5, [.ref (aL 0), .ref (aS 0), .ref (aG 0), .ref (aH 0), .ref (aB 0), .ref (aV 0), .ref (aU 0)]))] ++ (bX4 cyI aS oS ++ (bX3 cyI aG oG ++ (bX1 cyI aL oL ++ (bX4 cyI aU oU ++ (bX1 cyI aV oV ++ (bX2 cyI aB oB ++ bHS cyI cyO aH oH))))))) 429 [(0, .ref aX), (1, .int v1), (2, .int v2), (3, .int v3), (4, .int v4)] []) (v1 : Int32) (v2 : Int32) (v3 : Int32) (v5 : Int32) (v6 : Int32) (v10 : Int32) (s1 : Int32) (s2 : Int32) (oS : OB) (hf : fL_matches_b342 n oG oL oU oV oB oH k12 k429 v1 v2 v3 v5 v6 v10 s1 s2 oS = some z) : Wn p l e rmL_matches s m args below meth c D A 12 0 0 (MQ below (Qr D (tyG cyI cyO cyJ) ([(aX, .inr (5, [.ref (aL 0), .ref (aS 0), .ref (aG 0), .ref (aH 0), .ref (aB 0), .ref (aV 0), .ref (aU 0)]))] ++ (bX4 cyI aS z.2 ++ (bX3 cyI aG oG ++ (bX1 cyI aL oL ++ (bX4 cyI aU oU ++ (bX1 cyI aV oV ++ (bX2 cyI aB oB ++ bHS cyI cyO aH oH))))))) A (some (.int z.1))) args s 0 0 A) ([(aX, .inr (5, [.ref (aL 0), .ref (aS 0), .ref (aG 0), .ref (aH 0), .ref (aB 0), .ref (aV 0), .ref (aU 0)]))] ++ (bX4 cyI aS oS ++ (bX3 cyI aG oG ++ (bX1 cyI aL oL ++ (bX4 cyI aU oU ++ (bX1 cyI aV oV ++ (bX2 cyI aB oB ++ bHS cyI cyO aH oH))))))) 342 [(0, .ref aX), (1, .int v1), (2, .int v2), (3, .int v3), (5, .int v5), (6, .int v6), (10, .int v10)] [.int s2, .int s1, .ref aX] := by
  unfold fL_matches_b342 at hf
  obtain ⟨z342, h342, hf⟩ := bi hf
  refine n_callV (As := [.int s1, .int s2]) (rest := []) (w2 := [(aX, .inr (5, [.ref (aL 0), .ref (aS 0), .ref (aG 0), .ref (aH 0), .ref (aB 0), .ref (aV 0), .ref (aU 0)]))] ++ (bX4 cyI aS oS ++ (bX3 cyI aG oG ++ (bX1 cyI aL oL ++ (bX4 cyI aU oU ++ (bX1 cyI aV oV ++ (bX2 cyI aB oB ++ bHS cyI cyO aH oH))))))) C dL_matches_342 (c5n_match l D cyI cyO cyJ aX aS aG aL aU aV aB aH n oS oG oL oU oV oB oH s1 s2 z342 h342) (cwV 2 C.ts gL_matches_X5_match rfl rfl rfl (by decide +kernel) ⟨Nat.le_of_ble_eq_true rfl, Nat.le_of_ble_eq_true rfl⟩) rfl (q0 := 0) (ci := 5) rfl rfl Frm.self rfl (Nat.le_of_ble_eq_true rfl) ⟨Nat.le_of_ble_eq_true rfl, Nat.le_of_ble_eq_true rfl⟩ rfl ?_
  refine n_if_ne (t := 379) C dL_matches_345 (by decide) rfl (fun h345 => ?_) (fun h345 => ?_)
  · have hf := iq h345 hf
    refine n_iconst (v := (nI 0)) C dL_matches_379 (by decide) rfl ?_
    exact Wn.sub (lv' := [(0, .ref aX), (1, .int v1), (2, .int v2), (3, .int v3), (5, .int v5), (6, .int v6), (10, .int v10)]) [0, 1, 2, 3, 4, 5, 6] rfl (tL_matches_b380 C n oG oL oU oV oB oH hk12 hk429 v1 v2 v3 v5 v6 v10 (nI 0) oS hf)
  · have hf := ip h345 hf
    refine n_aload_n C dL_matches_348 0 rfl rfl ?_
    refine n_iload C dL_matches_349 4 rfl rfl ?_
    refine n_iload C dL_matches_351 6 rfl rfl ?_
    refine n_iconst (v := (nI 2)) C dL_matches_353 (by decide) rfl ?_
    refine n_icmp_ne (t := 362) C dL_matches_354 (by decide) rfl (fun h354 => ?_) (fun h354 => ?_)
    · have hf := iq h354 hf
      refine n_bipush (v := (nI 6)) C dL_matches_362 (by decide) rfl ?_
      exact Wn.sub (lv' := [(0, .ref aX), (1, .int v1), (2, .int v2), (3, .int v3), (5, .int v5), (6, .int v6), (10, .int v10)]) [0, 1, 2, 3, 4, 5, 6] rfl (tL_matches_b364 C n oG oL oU oV oB oH hk12 hk429 v1 v2 v3 v5 v6 v10 v5 (nI 6) oS hf)
    · have hf := ip h354 hf
      refine n_bipush (v := (nI 7)) C dL_matches_357 (by decide) rfl ?_
      refine n_goto (t := 364) C dL_matches_359 (by decide) ?_
      exact Wn.sub (lv' := [(0, .ref aX), (1, .int v1), (2, .int v2), (3, .int v3), (5, .int v5), (6, .int v6), (10, .int v10)]) [0, 1, 2, 3, 4, 5, 6] rfl (tL_matches_b364 C n oG oL oU oV oB oH hk12 hk429 v1 v2 v3 v5 v6 v10 v5 (nI 7) oS hf)
set_option maxHeartbeats 4000000 in
set_option maxRecDepth 100000 in
theorem tL_matches_b313 {l : Launch} {p : Program} {e : Env} {s : State} {m : MethodId} {args : Array Value} {below : List Frame} {meth : Method} {c : Code} {D : va_G} {A : Nat → Prop} {cyI cyO cyJ : ClassId} {aX : Nat} {aS : Nat → Nat} {aG : Nat → Nat} {aL : Nat → Nat} {aU : Nat → Nat} {aV : Nat → Nat} {aB : Nat → Nat} {aH : Nat → Nat} (C : Cx p s m args meth c D (tyG cyI cyO cyJ) A RL cL_matches 12 (some .boolean) wsL_matches) {z : Int32 × (OB)} (n : Nat) (oG : OB) (oL : OB) (oU : OB) (oV : OB) (oB : OB) (oH : HS) {k12 : Int32 → Int32 → Int32 → Int32 → Int32 → OB → Option (Int32 × (OB))} {k429 : Int32 → Int32 → Int32 → Int32 → OB → Option (Int32 × (OB))} (hk12 : ∀ (v1 : Int32) (v2 : Int32) (v3 : Int32) (v4 : Int32) (v5 : Int32) (oS : OB), k12 v1 v2 v3 v4 v5 oS = some z → Wn p l e rmL_matches s m args below meth c D A 12 0 0 (MQ below (Qr D (tyG cyI cyO cyJ) ([(aX, .inr (5, [.ref (aL 0), .ref (aS 0), .ref (aG 0), .ref (aH 0), .ref (aB 0), .ref (aV 0), .ref (aU 0)]))] ++ (bX4 cyI aS z.2 ++ (bX3 cyI aG oG ++ (bX1 cyI aL oL ++ (bX4 cyI aU oU ++ (bX1 cyI aV oV ++ (bX2 cyI aB oB ++ bHS cyI cyO aH oH))))))) A (some (.int z.1))) args s 0 0 A) ([(aX, .inr (5, [.ref (aL 0), .ref (aS 0), .ref (aG 0), .ref (aH 0), .ref (aB 0), .ref (aV 0), .ref (aU 0)]))] ++ (bX4 cyI aS oS ++ (bX3 cyI aG oG ++ (bX1 cyI aL oL ++ (bX4 cyI aU oU ++ (bX1 cyI aV oV ++ (bX2 cyI aB oB ++ bHS cyI cyO aH oH))))))) 12 [(0, .ref aX), (1, .int v1), (2, .int v2), (3, .int v3), (4, .int v4), (5, .int v5)] []) (hk429 : ∀ (v1 : Int32) (v2 : Int32) (v3 : Int32) (v4 : Int32) (oS : OB), k429 v1 v2 v3 v4 oS = some z → Wn p l e rmL_matches s m args below meth c D A 12 0 0 (MQ below (Qr D (tyG cyI cyO cyJ) ([(aX, .inr (5, [.ref (aL 0), .ref (aS 0), .ref (aG 0), .ref (aH 0), .ref (aB 0), .ref (aV 0), .ref (aU 0)]))] ++ (bX4 cyI aS z.2 ++ (bX3 cyI aG oG ++ (bX1 cyI aL oL ++ (bX4 cyI aU oU ++ (bX1 cyI aV oV ++ (bX2 cyI aB oB ++ bHS cyI cyO aH oH))))))) A (some (.int z.1))) args s 0 0 A) ([(aX, .inr (5, [.ref (aL 0), .ref (aS 0), .ref (aG 0), .ref (aH 0), .ref (aB 0), .ref (aV 0), .ref (aU 0)]))] ++ (bX4 cyI aS oS ++ (bX3 cyI aG oG ++ (bX1 cyI aL oL ++ (bX4 cyI aU oU ++ (bX1 cyI aV oV ++ (bX2 cyI aB oB ++ bHS cyI cyO aH oH))))))) 429 [(0, .ref aX), (1, .int v1), (2, .int v2), (3, .int v3), (4, .int v4)] []) (v1 : Int32) (v2 : Int32) (v3 : Int32) (v5 : Int32) (v6 : Int32) (v10 : Int32) (s0 : Int32) (oS : OB) (hf : fL_matches_b313 n oG oL oU oV oB oH k12 k429 v1 v2 v3 v5 v6 v10 s0 oS = some z) : Wn p l e rmL_matches s m args below meth c D A 12 0 0 (MQ below (Qr D (tyG cyI cyO cyJ) ([(aX, .inr (5, [.ref (aL 0), .ref (aS 0), .ref (aG 0), .ref (aH 0), .ref (aB 0), .ref (aV 0), .ref (aU 0)]))] ++ (bX4 cyI aS z.2 ++ (bX3 cyI aG oG ++ (bX1 cyI aL oL ++ (bX4 cyI aU oU ++ (bX1 cyI aV oV ++ (bX2 cyI aB oB ++ bHS cyI cyO aH oH))))))) A (some (.int z.1))) args s 0 0 A) ([(aX, .inr (5, [.ref (aL 0), .ref (aS 0), .ref (aG 0), .ref (aH 0), .ref (aB 0), .ref (aV 0), .ref (aU 0)]))] ++ (bX4 cyI aS oS ++ (bX3 cyI aG oG ++ (bX1 cyI aL oL ++ (bX4 cyI aU oU ++ (bX1 cyI aV oV ++ (bX2 cyI aB oB ++ bHS cyI cyO aH oH))))))) 313 [(0, .ref aX), (1, .int v1), (2, .int v2), (3, .int v3), (5, .int v5), (6, .int v6), (10, .int v10)] [.int s0] := by
  unfold fL_matches_b313 at hf
  refine n_istore (lv' := [(4, .int s0), (0, .ref aX), (1, .int v1), (2, .int v2), (3, .int v3), (5, .int v5), (6, .int v6), (10, .int v10)]) C dL_matches_313 (by decide) rfl rfl ?_
  refine n_iload C dL_matches_315 0 rfl rfl ?_
  refine n_if_eq (t := 379) C dL_matches_317 (by decide) rfl (fun h317 => ?_) (fun h317 => ?_)
  · have hf := ip h317 hf
    refine n_iconst (v := (nI 0)) C dL_matches_379 (by decide) rfl ?_
    exact Wn.sub (lv' := [(0, .ref aX), (1, .int v1), (2, .int v2), (3, .int v3), (5, .int v5), (6, .int v6), (10, .int v10)]) [1, 2, 3, 4, 5, 6, 7] rfl (tL_matches_b380 C n oG oL oU oV oB oH hk12 hk429 v1 v2 v3 v5 v6 v10 (nI 0) oS hf)
  · have hf := iq h317 hf
    refine n_iload C dL_matches_320 7 rfl rfl ?_
    refine n_iconst (v := (nI 2)) C dL_matches_322 (by decide) rfl ?_
    refine n_icmp_lt (t := 375) C dL_matches_323 (by decide) rfl (fun h323 => ?_) (fun h323 => ?_)
    · have hf := ip h323 hf
      refine n_iconst (v := (nI 1)) C dL_matches_375 (by decide) rfl ?_
      refine n_goto (t := 380) C dL_matches_376 (by decide) ?_
      exact Wn.sub (lv' := [(0, .ref aX), (1, .int v1), (2, .int v2), (3, .int v3), (5, .int v5), (6, .int v6), (10, .int v10)]) [1, 2, 3, 4, 5, 6, 7] rfl (tL_matches_b380 C n oG oL oU oV oB oH hk12 hk429 v1 v2 v3 v5 v6 v10 (nI 1) oS hf)
    · have hf := iq h323 hf
      refine n_aload_n C dL_matches_326 1 rfl rfl ?_
      refine n_iload C dL_matches_327 5 rfl rfl ?_
      refine n_iload C dL_matches_329 7 rfl rfl ?_
      refine n_iconst (v := (nI 2)) C dL_matches_331 (by decide) rfl ?_
      refine n_icmp_ne (t := 340) C dL_matches_332 (by decide) rfl (fun h332 => ?_) (fun h332 => ?_)
      · have hf := iq h332 hf
        refine n_bipush (v := (nI 7)) C dL_matches_340 (by decide) rfl ?_
        exact Wn.sub (lv' := [(0, .ref aX), (1, .int v1), (2, .int v2), (3, .int v3), (5, .int v5), (6, .int v6), (10, .int v10)]) [1, 2, 3, 4, 5, 6, 7] rfl (tL_matches_b342 C n oG oL oU oV oB oH hk12 hk429 v1 v2 v3 v5 v6 v10 v5 (nI 7) oS hf)
      · have hf := ip h332 hf
        refine n_bipush (v := (nI 6)) C dL_matches_335 (by decide) rfl ?_
        refine n_goto (t := 342) C dL_matches_337 (by decide) ?_
        exact Wn.sub (lv' := [(0, .ref aX), (1, .int v1), (2, .int v2), (3, .int v3), (5, .int v5), (6, .int v6), (10, .int v10)]) [1, 2, 3, 4, 5, 6, 7] rfl (tL_matches_b342 C n oG oL oU oV oB oH hk12 hk429 v1 v2 v3 v5 v6 v10 v5 (nI 6) oS hf)
set_option maxHeartbeats 4000000 in
set_option maxRecDepth 100000 in
theorem tL_matches_b216 {l : Launch} {p : Program} {e : Env} {s : State} {m : MethodId} {args : Array Value} {below : List Frame} {meth : Method} {c : Code} {D : va_G} {A : Nat → Prop} {cyI cyO cyJ : ClassId} {aX : Nat} {aS : Nat → Nat} {aG : Nat → Nat} {aL : Nat → Nat} {aU : Nat → Nat} {aV : Nat → Nat} {aB : Nat → Nat} {aH : Nat → Nat} (C : Cx p s m args meth c D (tyG cyI cyO cyJ) A RL cL_matches 12 (some .boolean) wsL_matches) {z : Int32 × (OB)} (n : Nat) (oG : OB) (oL : OB) (oU : OB) (oV : OB) (oB : OB) (oH : HS) {k12 : Int32 → Int32 → Int32 → Int32 → Int32 → OB → Option (Int32 × (OB))} {k429 : Int32 → Int32 → Int32 → Int32 → OB → Option (Int32 × (OB))} (hk12 : ∀ (v1 : Int32) (v2 : Int32) (v3 : Int32) (v4 : Int32) (v5 : Int32) (oS : OB), k12 v1 v2 v3 v4 v5 oS = some z → Wn p l e rmL_matches s m args below meth c D A 12 0 0 (MQ below (Qr D (tyG cyI cyO cyJ) ([(aX, .inr (5, [.ref (aL 0), .ref (aS 0), .ref (aG 0), .ref (aH 0), .ref (aB 0), .ref (aV 0), .ref (aU 0)]))] ++ (bX4 cyI aS z.2 ++ (bX3 cyI aG oG ++ (bX1 cyI aL oL ++ (bX4 cyI aU oU ++ (bX1 cyI aV oV ++ (bX2 cyI aB oB ++ bHS cyI cyO aH oH))))))) A (some (.int z.1))) args s 0 0 A) ([(aX, .inr (5, [.ref (aL 0), .ref (aS 0), .ref (aG 0), .ref (aH 0), .ref (aB 0), .ref (aV 0), .ref (aU 0)]))] ++ (bX4 cyI aS oS ++ (bX3 cyI aG oG ++ (bX1 cyI aL oL ++ (bX4 cyI aU oU ++ (bX1 cyI aV oV ++ (bX2 cyI aB oB ++ bHS cyI cyO aH oH))))))) 12 [(0, .ref aX), (1, .int v1), (2, .int v2), (3, .int v3), (4, .int v4), (5, .int v5)] []) (hk429 : ∀ (v1 : Int32) (v2 : Int32) (v3 : Int32) (v4 : Int32) (oS : OB), k429 v1 v2 v3 v4 oS = some z → Wn p l e rmL_matches s m args below meth c D A 12 0 0 (MQ below (Qr D (tyG cyI cyO cyJ) ([(aX, .inr (5, [.ref (aL 0), .ref (aS 0), .ref (aG 0), .ref (aH 0), .ref (aB 0), .ref (aV 0), .ref (aU 0)]))] ++ (bX4 cyI aS z.2 ++ (bX3 cyI aG oG ++ (bX1 cyI aL oL ++ (bX4 cyI aU oU ++ (bX1 cyI aV oV ++ (bX2 cyI aB oB ++ bHS cyI cyO aH oH))))))) A (some (.int z.1))) args s 0 0 A) ([(aX, .inr (5, [.ref (aL 0), .ref (aS 0), .ref (aG 0), .ref (aH 0), .ref (aB 0), .ref (aV 0), .ref (aU 0)]))] ++ (bX4 cyI aS oS ++ (bX3 cyI aG oG ++ (bX1 cyI aL oL ++ (bX4 cyI aU oU ++ (bX1 cyI aV oV ++ (bX2 cyI aB oB ++ bHS cyI cyO aH oH))))))) 429 [(0, .ref aX), (1, .int v1), (2, .int v2), (3, .int v3), (4, .int v4)] []) (v1 : Int32) (v2 : Int32) (v3 : Int32) (v5 : Int32) (v6 : Int32) (v7 : Int32) (v8 : Int32) (v9 : Int32) (v10 : Int32) (v11 : Int32) (s0 : Int32) (oS : OB) (hf : fL_matches_b216 n oG oL oU oV oB oH k12 k429 v1 v2 v3 v5 v6 v7 v8 v9 v10 v11 s0 oS = some z) : Wn p l e rmL_matches s m args below meth c D A 12 0 0 (MQ below (Qr D (tyG cyI cyO cyJ) ([(aX, .inr (5, [.ref (aL 0), .ref (aS 0), .ref (aG 0), .ref (aH 0), .ref (aB 0), .ref (aV 0), .ref (aU 0)]))] ++ (bX4 cyI aS z.2 ++ (bX3 cyI aG oG ++ (bX1 cyI aL oL ++ (bX4 cyI aU oU ++ (bX1 cyI aV oV ++ (bX2 cyI aB oB ++ bHS cyI cyO aH oH))))))) A (some (.int z.1))) args s 0 0 A) ([(aX, .inr (5, [.ref (aL 0), .ref (aS 0), .ref (aG 0), .ref (aH 0), .ref (aB 0), .ref (aV 0), .ref (aU 0)]))] ++ (bX4 cyI aS oS ++ (bX3 cyI aG oG ++ (bX1 cyI aL oL ++ (bX4 cyI aU oU ++ (bX1 cyI aV oV ++ (bX2 cyI aB oB ++ bHS cyI cyO aH oH))))))) 216 [(0, .ref aX), (1, .int v1), (2, .int v2), (3, .int v3), (5, .int v5), (6, .int v6), (7, .int v7), (8, .int v8), (9, .int v9), (10, .int v10), (11, .int v11)] [.int s0] := by
  unfold fL_matches_b216 at hf
  refine n_istore (lv' := [(4, .int s0), (0, .ref aX), (1, .int v1), (2, .int v2), (3, .int v3), (5, .int v5), (6, .int v6), (7, .int v7), (8, .int v8), (9, .int v9), (10, .int v10), (11, .int v11)]) C dL_matches_216 (by decide) rfl rfl ?_
  refine n_iload C dL_matches_218 0 rfl rfl ?_
  refine n_if_eq (t := 312) C dL_matches_220 (by decide) rfl (fun h220 => ?_) (fun h220 => ?_)
  · have hf := ip h220 hf
    refine n_iconst (v := (nI 0)) C dL_matches_312 (by decide) rfl ?_
    exact Wn.sub (lv' := [(0, .ref aX), (1, .int v1), (2, .int v2), (3, .int v3), (5, .int v5), (6, .int v6), (10, .int v10)]) [1, 2, 3, 4, 5, 6, 10] rfl (tL_matches_b313 C n oG oL oU oV oB oH hk12 hk429 v1 v2 v3 v5 v6 v10 (nI 0) oS hf)
  · have hf := iq h220 hf
    refine n_iload C dL_matches_223 6 rfl rfl ?_
    refine n_iconst (v := (-1 : Int32)) C dL_matches_225 (by decide) rfl ?_
    refine n_icmp_eq (t := 308) C dL_matches_226 (by decide) rfl (fun h226 => ?_) (fun h226 => ?_)
    · have hf := ip h226 hf
      refine n_iconst (v := (nI 1)) C dL_matches_308 (by decide) rfl ?_
      refine n_goto (t := 313) C dL_matches_309 (by decide) ?_
      exact Wn.sub (lv' := [(0, .ref aX), (1, .int v1), (2, .int v2), (3, .int v3), (5, .int v5), (6, .int v6), (10, .int v10)]) [1, 2, 3, 4, 5, 6, 10] rfl (tL_matches_b313 C n oG oL oU oV oB oH hk12 hk429 v1 v2 v3 v5 v6 v10 (nI 1) oS hf)
    · have hf := iq h226 hf
      refine n_iload C dL_matches_229 6 rfl rfl ?_
      refine n_iload C dL_matches_231 8 rfl rfl ?_
      refine n_bipush (v := (nI 6)) C dL_matches_233 (by decide) rfl ?_
      refine n_irem C dL_matches_235 (by decide) rfl ?_
      refine n_icmp_eq (t := 312) C dL_matches_236 (by decide) rfl (fun h236 => ?_) (fun h236 => ?_)
      · have hf := ip h236 hf
        refine n_iconst (v := (nI 0)) C dL_matches_312 (by decide) rfl ?_
        exact Wn.sub (lv' := [(0, .ref aX), (1, .int v1), (2, .int v2), (3, .int v3), (5, .int v5), (6, .int v6), (10, .int v10)]) [1, 2, 3, 4, 5, 6, 10] rfl (tL_matches_b313 C n oG oL oU oV oB oH hk12 hk429 v1 v2 v3 v5 v6 v10 (nI 0) oS hf)
      · have hf := iq h236 hf
        refine n_iload C dL_matches_239 6 rfl rfl ?_
        refine n_iload C dL_matches_241 9 rfl rfl ?_
        refine n_bipush (v := (nI 6)) C dL_matches_243 (by decide) rfl ?_
        refine n_irem C dL_matches_245 (by decide) rfl ?_
        refine n_icmp_eq (t := 312) C dL_matches_246 (by decide) rfl (fun h246 => ?_) (fun h246 => ?_)
        · have hf := ip h246 hf
          refine n_iconst (v := (nI 0)) C dL_matches_312 (by decide) rfl ?_
          exact Wn.sub (lv' := [(0, .ref aX), (1, .int v1), (2, .int v2), (3, .int v3), (5, .int v5), (6, .int v6), (10, .int v10)]) [1, 2, 3, 4, 5, 6, 10] rfl (tL_matches_b313 C n oG oL oU oV oB oH hk12 hk429 v1 v2 v3 v5 v6 v10 (nI 0) oS hf)
        · have hf := iq h246 hf
          refine n_iload C dL_matches_249 7 rfl rfl ?_
          refine n_iload C dL_matches_251 11 rfl rfl ?_
          obtain ⟨u253, h253, hf⟩ := bi hf
          refine n_irem C dL_matches_253 (nz_some h253) rfl ?_
          refine n_iload C dL_matches_254 8 rfl rfl ?_
          refine n_icmp_eq (t := 312) C dL_matches_256 (by decide) rfl (fun h256 => ?_) (fun h256 => ?_)
          · have hf := ip h256 hf
            refine n_iconst (v := (nI 0)) C dL_matches_312 (by decide) rfl ?_
            exact Wn.sub (lv' := [(0, .ref aX), (1, .int v1), (2, .int v2), (3, .int v3), (5, .int v5), (6, .int v6), (10, .int v10)]) [1, 2, 3, 4, 5, 6, 10] rfl (tL_matches_b313 C n oG oL oU oV oB oH hk12 hk429 v1 v2 v3 v5 v6 v10 (nI 0) oS hf)
          · have hf := iq h256 hf
            refine n_iload C dL_matches_259 7 rfl rfl ?_
            refine n_iload C dL_matches_261 11 rfl rfl ?_
            obtain ⟨u263, h263, hf⟩ := bi hf
            refine n_irem C dL_matches_263 (nz_some h263) rfl ?_
            refine n_iload C dL_matches_264 9 rfl rfl ?_
            refine n_icmp_eq (t := 312) C dL_matches_266 (by decide) rfl (fun h266 => ?_) (fun h266 => ?_)
            · have hf := ip h266 hf
              refine n_iconst (v := (nI 0)) C dL_matches_312 (by decide) rfl ?_
              exact Wn.sub (lv' := [(0, .ref aX), (1, .int v1), (2, .int v2), (3, .int v3), (5, .int v5), (6, .int v6), (10, .int v10)]) [1, 2, 3, 4, 5, 6, 10] rfl (tL_matches_b313 C n oG oL oU oV oB oH hk12 hk429 v1 v2 v3 v5 v6 v10 (nI 0) oS hf)
            · have hf := iq h266 hf
              refine n_aload_n C dL_matches_269 1 rfl rfl ?_
              refine n_aload_n C dL_matches_270 1 rfl rfl ?_
              refine n_iload C dL_matches_271 5 rfl rfl ?_
              refine n_iconst (v := (nI 0)) C dL_matches_273 (by decide) rfl ?_
              obtain ⟨z274, h274, hf⟩ := bi hf
              refine n_callV (As := [.int v5, .int (nI 0)]) (rest := [.ref aX]) (w2 := [(aX, .inr (5, [.ref (aL 0), .ref (aS 0), .ref (aG 0), .ref (aH 0), .ref (aB 0), .ref (aV 0), .ref (aU 0)]))] ++ (bX4 cyI aS oS ++ (bX3 cyI aG oG ++ (bX1 cyI aL oL ++ (bX4 cyI aU oU ++ (bX1 cyI aV oV ++ (bX2 cyI aB oB ++ bHS cyI cyO aH oH))))))) C dL_matches_274 (c5n_match l D cyI cyO cyJ aX aS aG aL aU aV aB aH n oS oG oL oU oV oB oH v5 (nI 0) z274 h274) (cwV 2 C.ts gL_matches_X5_match rfl rfl rfl (by decide +kernel) ⟨Nat.le_of_ble_eq_true rfl, Nat.le_of_ble_eq_true rfl⟩) rfl (q0 := 0) (ci := 5) rfl rfl Frm.self rfl (Nat.le_of_ble_eq_true rfl) ⟨Nat.le_of_ble_eq_true rfl, Nat.le_of_ble_eq_true rfl⟩ rfl ?_
              refine n_iload C dL_matches_277 6 rfl rfl ?_
              obtain ⟨z279, h279, hf⟩ := bi hf
              refine n_callV (As := [.int z274, .int v6]) (rest := []) (w2 := [(aX, .inr (5, [.ref (aL 0), .ref (aS 0), .ref (aG 0), .ref (aH 0), .ref (aB 0), .ref (aV 0), .ref (aU 0)]))] ++ (bX4 cyI aS oS ++ (bX3 cyI aG oG ++ (bX1 cyI aL oL ++ (bX4 cyI aU oU ++ (bX1 cyI aV oV ++ (bX2 cyI aB oB ++ bHS cyI cyO aH oH))))))) C dL_matches_279 (c5n_busy l D cyI cyO cyJ aX aS aG aL aU aV aB aH n oS oG oL oU oV oB oH z274 v6 z279 h279) (cwV 2 C.ts gL_matches_X5_busy rfl rfl rfl (by decide +kernel) ⟨Nat.le_of_ble_eq_true rfl, Nat.le_of_ble_eq_true rfl⟩) rfl (q0 := 0) (ci := 5) rfl rfl Frm.self rfl (Nat.le_of_ble_eq_true rfl) ⟨Nat.le_of_ble_eq_true rfl, Nat.le_of_ble_eq_true rfl⟩ rfl ?_
              refine n_iload C dL_matches_282 5 rfl rfl ?_
              refine n_icmp_ne (t := 312) C dL_matches_284 (by decide) rfl (fun h284 => ?_) (fun h284 => ?_)
              · have hf := iq h284 hf
                refine n_iconst (v := (nI 0)) C dL_matches_312 (by decide) rfl ?_
                exact Wn.sub (lv' := [(0, .ref aX), (1, .int v1), (2, .int v2), (3, .int v3), (5, .int v5), (6, .int v6), (10, .int v10)]) [1, 2, 3, 4, 5, 6, 10] rfl (tL_matches_b313 C n oG oL oU oV oB oH hk12 hk429 v1 v2 v3 v5 v6 v10 (nI 0) oS hf)
              · have hf := ip h284 hf
                refine n_aload_n C dL_matches_287 1 rfl rfl ?_
                refine n_aload_n C dL_matches_288 1 rfl rfl ?_
                refine n_iload C dL_matches_289 5 rfl rfl ?_
                refine n_iconst (v := (nI 0)) C dL_matches_291 (by decide) rfl ?_
                obtain ⟨z292, h292, hf⟩ := bi hf
                refine n_callV (As := [.int v5, .int (nI 0)]) (rest := [.ref aX]) (w2 := [(aX, .inr (5, [.ref (aL 0), .ref (aS 0), .ref (aG 0), .ref (aH 0), .ref (aB 0), .ref (aV 0), .ref (aU 0)]))] ++ (bX4 cyI aS oS ++ (bX3 cyI aG oG ++ (bX1 cyI aL oL ++ (bX4 cyI aU oU ++ (bX1 cyI aV oV ++ (bX2 cyI aB oB ++ bHS cyI cyO aH oH))))))) C dL_matches_292 (c5n_match l D cyI cyO cyJ aX aS aG aL aU aV aB aH n oS oG oL oU oV oB oH v5 (nI 0) z292 h292) (cwV 2 C.ts gL_matches_X5_match rfl rfl rfl (by decide +kernel) ⟨Nat.le_of_ble_eq_true rfl, Nat.le_of_ble_eq_true rfl⟩) rfl (q0 := 0) (ci := 5) rfl rfl Frm.self rfl (Nat.le_of_ble_eq_true rfl) ⟨Nat.le_of_ble_eq_true rfl, Nat.le_of_ble_eq_true rfl⟩ rfl ?_
                refine n_bipush (v := (nI 6)) C dL_matches_295 (by decide) rfl ?_
                refine n_iload C dL_matches_297 7 rfl rfl ?_
                refine n_iadd C dL_matches_299 rfl ?_
                obtain ⟨z300, h300, hf⟩ := bi hf
                refine n_callV (As := [.int z292, .int ((nI 6) + v7)]) (rest := []) (w2 := [(aX, .inr (5, [.ref (aL 0), .ref (aS 0), .ref (aG 0), .ref (aH 0), .ref (aB 0), .ref (aV 0), .ref (aU 0)]))] ++ (bX4 cyI aS oS ++ (bX3 cyI aG oG ++ (bX1 cyI aL oL ++ (bX4 cyI aU oU ++ (bX1 cyI aV oV ++ (bX2 cyI aB oB ++ bHS cyI cyO aH oH))))))) C dL_matches_300 (c5n_busy l D cyI cyO cyJ aX aS aG aL aU aV aB aH n oS oG oL oU oV oB oH z292 ((nI 6) + v7) z300 h300) (cwV 2 C.ts gL_matches_X5_busy rfl rfl rfl (by decide +kernel) ⟨Nat.le_of_ble_eq_true rfl, Nat.le_of_ble_eq_true rfl⟩) rfl (q0 := 0) (ci := 5) rfl rfl Frm.self rfl (Nat.le_of_ble_eq_true rfl) ⟨Nat.le_of_ble_eq_true rfl, Nat.le_of_ble_eq_true rfl⟩ rfl ?_
                refine n_iload C dL_matches_303 5 rfl rfl ?_
                refine n_icmp_ne (t := 312) C dL_matches_305 (by decide) rfl (fun h305 => ?_) (fun h305 => ?_)
                · have hf := iq h305 hf
                  refine n_iconst (v := (nI 0)) C dL_matches_312 (by decide) rfl ?_
                  exact Wn.sub (lv' := [(0, .ref aX), (1, .int v1), (2, .int v2), (3, .int v3), (5, .int v5), (6, .int v6), (10, .int v10)]) [1, 2, 3, 4, 5, 6, 10] rfl (tL_matches_b313 C n oG oL oU oV oB oH hk12 hk429 v1 v2 v3 v5 v6 v10 (nI 0) oS hf)
                · have hf := ip h305 hf
                  refine n_iconst (v := (nI 1)) C dL_matches_308 (by decide) rfl ?_
                  refine n_goto (t := 313) C dL_matches_309 (by decide) ?_
                  exact Wn.sub (lv' := [(0, .ref aX), (1, .int v1), (2, .int v2), (3, .int v3), (5, .int v5), (6, .int v6), (10, .int v10)]) [1, 2, 3, 4, 5, 6, 10] rfl (tL_matches_b313 C n oG oL oU oV oB oH hk12 hk429 v1 v2 v3 v5 v6 v10 (nI 1) oS hf)
set_option maxHeartbeats 4000000 in
set_option maxRecDepth 100000 in
theorem tL_matches_b192 {l : Launch} {p : Program} {e : Env} {s : State} {m : MethodId} {args : Array Value} {below : List Frame} {meth : Method} {c : Code} {D : va_G} {A : Nat → Prop} {cyI cyO cyJ : ClassId} {aX : Nat} {aS : Nat → Nat} {aG : Nat → Nat} {aL : Nat → Nat} {aU : Nat → Nat} {aV : Nat → Nat} {aB : Nat → Nat} {aH : Nat → Nat} (C : Cx p s m args meth c D (tyG cyI cyO cyJ) A RL cL_matches 12 (some .boolean) wsL_matches) {z : Int32 × (OB)} (n : Nat) (oG : OB) (oL : OB) (oU : OB) (oV : OB) (oB : OB) (oH : HS) {k12 : Int32 → Int32 → Int32 → Int32 → Int32 → OB → Option (Int32 × (OB))} {k429 : Int32 → Int32 → Int32 → Int32 → OB → Option (Int32 × (OB))} (hk12 : ∀ (v1 : Int32) (v2 : Int32) (v3 : Int32) (v4 : Int32) (v5 : Int32) (oS : OB), k12 v1 v2 v3 v4 v5 oS = some z → Wn p l e rmL_matches s m args below meth c D A 12 0 0 (MQ below (Qr D (tyG cyI cyO cyJ) ([(aX, .inr (5, [.ref (aL 0), .ref (aS 0), .ref (aG 0), .ref (aH 0), .ref (aB 0), .ref (aV 0), .ref (aU 0)]))] ++ (bX4 cyI aS z.2 ++ (bX3 cyI aG oG ++ (bX1 cyI aL oL ++ (bX4 cyI aU oU ++ (bX1 cyI aV oV ++ (bX2 cyI aB oB ++ bHS cyI cyO aH oH))))))) A (some (.int z.1))) args s 0 0 A) ([(aX, .inr (5, [.ref (aL 0), .ref (aS 0), .ref (aG 0), .ref (aH 0), .ref (aB 0), .ref (aV 0), .ref (aU 0)]))] ++ (bX4 cyI aS oS ++ (bX3 cyI aG oG ++ (bX1 cyI aL oL ++ (bX4 cyI aU oU ++ (bX1 cyI aV oV ++ (bX2 cyI aB oB ++ bHS cyI cyO aH oH))))))) 12 [(0, .ref aX), (1, .int v1), (2, .int v2), (3, .int v3), (4, .int v4), (5, .int v5)] []) (hk429 : ∀ (v1 : Int32) (v2 : Int32) (v3 : Int32) (v4 : Int32) (oS : OB), k429 v1 v2 v3 v4 oS = some z → Wn p l e rmL_matches s m args below meth c D A 12 0 0 (MQ below (Qr D (tyG cyI cyO cyJ) ([(aX, .inr (5, [.ref (aL 0), .ref (aS 0), .ref (aG 0), .ref (aH 0), .ref (aB 0), .ref (aV 0), .ref (aU 0)]))] ++ (bX4 cyI aS z.2 ++ (bX3 cyI aG oG ++ (bX1 cyI aL oL ++ (bX4 cyI aU oU ++ (bX1 cyI aV oV ++ (bX2 cyI aB oB ++ bHS cyI cyO aH oH))))))) A (some (.int z.1))) args s 0 0 A) ([(aX, .inr (5, [.ref (aL 0), .ref (aS 0), .ref (aG 0), .ref (aH 0), .ref (aB 0), .ref (aV 0), .ref (aU 0)]))] ++ (bX4 cyI aS oS ++ (bX3 cyI aG oG ++ (bX1 cyI aL oL ++ (bX4 cyI aU oU ++ (bX1 cyI aV oV ++ (bX2 cyI aB oB ++ bHS cyI cyO aH oH))))))) 429 [(0, .ref aX), (1, .int v1), (2, .int v2), (3, .int v3), (4, .int v4)] []) (v1 : Int32) (v2 : Int32) (v3 : Int32) (v5 : Int32) (v6 : Int32) (v7 : Int32) (v8 : Int32) (v9 : Int32) (v10 : Int32) (v11 : Int32) (s0 : Int32) (s1 : Int32) (oS : OB) (hf : fL_matches_b192 n oG oL oU oV oB oH k12 k429 v1 v2 v3 v5 v6 v7 v8 v9 v10 v11 s0 s1 oS = some z) : Wn p l e rmL_matches s m args below meth c D A 12 0 0 (MQ below (Qr D (tyG cyI cyO cyJ) ([(aX, .inr (5, [.ref (aL 0), .ref (aS 0), .ref (aG 0), .ref (aH 0), .ref (aB 0), .ref (aV 0), .ref (aU 0)]))] ++ (bX4 cyI aS z.2 ++ (bX3 cyI aG oG ++ (bX1 cyI aL oL ++ (bX4 cyI aU oU ++ (bX1 cyI aV oV ++ (bX2 cyI aB oB ++ bHS cyI cyO aH oH))))))) A (some (.int z.1))) args s 0 0 A) ([(aX, .inr (5, [.ref (aL 0), .ref (aS 0), .ref (aG 0), .ref (aH 0), .ref (aB 0), .ref (aV 0), .ref (aU 0)]))] ++ (bX4 cyI aS oS ++ (bX3 cyI aG oG ++ (bX1 cyI aL oL ++ (bX4 cyI aU oU ++ (bX1 cyI aV oV ++ (bX2 cyI aB oB ++ bHS cyI cyO aH oH))))))) 192 [(0, .ref aX), (1, .int v1), (2, .int v2), (3, .int v3), (5, .int v5), (6, .int v6), (7, .int v7), (8, .int v8), (9, .int v9), (10, .int v10), (11, .int v11)] [.int s1, .int s0] := by
  unfold fL_matches_b192 at hf
  refine n_icmp_ne (t := 215) C dL_matches_192 (by decide) rfl (fun h192 => ?_) (fun h192 => ?_)
  · have hf := iq h192 hf
    refine n_iconst (v := (nI 0)) C dL_matches_215 (by decide) rfl ?_
    exact Wn.sub (lv' := [(0, .ref aX), (1, .int v1), (2, .int v2), (3, .int v3), (5, .int v5), (6, .int v6), (7, .int v7), (8, .int v8), (9, .int v9), (10, .int v10), (11, .int v11)]) [0, 1, 2, 3, 4, 5, 6, 7, 8, 9, 10] rfl (tL_matches_b216 C n oG oL oU oV oB oH hk12 hk429 v1 v2 v3 v5 v6 v7 v8 v9 v10 v11 (nI 0) oS hf)
  · have hf := ip h192 hf
    refine n_iload C dL_matches_195 5 rfl rfl ?_
    refine n_iconst (v := (-1 : Int32)) C dL_matches_197 (by decide) rfl ?_
    refine n_icmp_eq (t := 211) C dL_matches_198 (by decide) rfl (fun h198 => ?_) (fun h198 => ?_)
    · have hf := ip h198 hf
      refine n_iconst (v := (nI 1)) C dL_matches_211 (by decide) rfl ?_
      refine n_goto (t := 216) C dL_matches_212 (by decide) ?_
      exact Wn.sub (lv' := [(0, .ref aX), (1, .int v1), (2, .int v2), (3, .int v3), (5, .int v5), (6, .int v6), (7, .int v7), (8, .int v8), (9, .int v9), (10, .int v10), (11, .int v11)]) [0, 1, 2, 3, 4, 5, 6, 7, 8, 9, 10] rfl (tL_matches_b216 C n oG oL oU oV oB oH hk12 hk429 v1 v2 v3 v5 v6 v7 v8 v9 v10 v11 (nI 1) oS hf)
    · have hf := iq h198 hf
      refine n_aload_n C dL_matches_201 0 rfl rfl ?_
      refine n_iload C dL_matches_202 4 rfl rfl ?_
      refine n_iconst (v := (nI 5)) C dL_matches_204 (by decide) rfl ?_
      obtain ⟨z205, h205, hf⟩ := bi hf
      refine n_callV (As := [.int v5, .int (nI 5)]) (rest := []) (w2 := [(aX, .inr (5, [.ref (aL 0), .ref (aS 0), .ref (aG 0), .ref (aH 0), .ref (aB 0), .ref (aV 0), .ref (aU 0)]))] ++ (bX4 cyI aS oS ++ (bX3 cyI aG oG ++ (bX1 cyI aL oL ++ (bX4 cyI aU oU ++ (bX1 cyI aV oV ++ (bX2 cyI aB oB ++ bHS cyI cyO aH oH))))))) C dL_matches_205 (c5n_match l D cyI cyO cyJ aX aS aG aL aU aV aB aH n oS oG oL oU oV oB oH v5 (nI 5) z205 h205) (cwV 2 C.ts gL_matches_X5_match rfl rfl rfl (by decide +kernel) ⟨Nat.le_of_ble_eq_true rfl, Nat.le_of_ble_eq_true rfl⟩) rfl (q0 := 0) (ci := 5) rfl rfl Frm.self rfl (Nat.le_of_ble_eq_true rfl) ⟨Nat.le_of_ble_eq_true rfl, Nat.le_of_ble_eq_true rfl⟩ rfl ?_
      refine n_if_ne (t := 215) C dL_matches_208 (by decide) rfl (fun h208 => ?_) (fun h208 => ?_)
      · have hf := iq h208 hf
        refine n_iconst (v := (nI 0)) C dL_matches_215 (by decide) rfl ?_
        exact Wn.sub (lv' := [(0, .ref aX), (1, .int v1), (2, .int v2), (3, .int v3), (5, .int v5), (6, .int v6), (7, .int v7), (8, .int v8), (9, .int v9), (10, .int v10), (11, .int v11)]) [0, 1, 2, 3, 4, 5, 6, 7, 8, 9, 10] rfl (tL_matches_b216 C n oG oL oU oV oB oH hk12 hk429 v1 v2 v3 v5 v6 v7 v8 v9 v10 v11 (nI 0) oS hf)
      · have hf := ip h208 hf
        refine n_iconst (v := (nI 1)) C dL_matches_211 (by decide) rfl ?_
        refine n_goto (t := 216) C dL_matches_212 (by decide) ?_
        exact Wn.sub (lv' := [(0, .ref aX), (1, .int v1), (2, .int v2), (3, .int v3), (5, .int v5), (6, .int v6), (7, .int v7), (8, .int v8), (9, .int v9), (10, .int v10), (11, .int v11)]) [0, 1, 2, 3, 4, 5, 6, 7, 8, 9, 10] rfl (tL_matches_b216 C n oG oL oU oV oB oH hk12 hk429 v1 v2 v3 v5 v6 v7 v8 v9 v10 v11 (nI 1) oS hf)
set_option maxHeartbeats 4000000 in
set_option maxRecDepth 100000 in
theorem tL_matches_b175 {l : Launch} {p : Program} {e : Env} {s : State} {m : MethodId} {args : Array Value} {below : List Frame} {meth : Method} {c : Code} {D : va_G} {A : Nat → Prop} {cyI cyO cyJ : ClassId} {aX : Nat} {aS : Nat → Nat} {aG : Nat → Nat} {aL : Nat → Nat} {aU : Nat → Nat} {aV : Nat → Nat} {aB : Nat → Nat} {aH : Nat → Nat} (C : Cx p s m args meth c D (tyG cyI cyO cyJ) A RL cL_matches 12 (some .boolean) wsL_matches) {z : Int32 × (OB)} (n : Nat) (oG : OB) (oL : OB) (oU : OB) (oV : OB) (oB : OB) (oH : HS) {k12 : Int32 → Int32 → Int32 → Int32 → Int32 → OB → Option (Int32 × (OB))} {k429 : Int32 → Int32 → Int32 → Int32 → OB → Option (Int32 × (OB))} (hk12 : ∀ (v1 : Int32) (v2 : Int32) (v3 : Int32) (v4 : Int32) (v5 : Int32) (oS : OB), k12 v1 v2 v3 v4 v5 oS = some z → Wn p l e rmL_matches s m args below meth c D A 12 0 0 (MQ below (Qr D (tyG cyI cyO cyJ) ([(aX, .inr (5, [.ref (aL 0), .ref (aS 0), .ref (aG 0), .ref (aH 0), .ref (aB 0), .ref (aV 0), .ref (aU 0)]))] ++ (bX4 cyI aS z.2 ++ (bX3 cyI aG oG ++ (bX1 cyI aL oL ++ (bX4 cyI aU oU ++ (bX1 cyI aV oV ++ (bX2 cyI aB oB ++ bHS cyI cyO aH oH))))))) A (some (.int z.1))) args s 0 0 A) ([(aX, .inr (5, [.ref (aL 0), .ref (aS 0), .ref (aG 0), .ref (aH 0), .ref (aB 0), .ref (aV 0), .ref (aU 0)]))] ++ (bX4 cyI aS oS ++ (bX3 cyI aG oG ++ (bX1 cyI aL oL ++ (bX4 cyI aU oU ++ (bX1 cyI aV oV ++ (bX2 cyI aB oB ++ bHS cyI cyO aH oH))))))) 12 [(0, .ref aX), (1, .int v1), (2, .int v2), (3, .int v3), (4, .int v4), (5, .int v5)] []) (hk429 : ∀ (v1 : Int32) (v2 : Int32) (v3 : Int32) (v4 : Int32) (oS : OB), k429 v1 v2 v3 v4 oS = some z → Wn p l e rmL_matches s m args below meth c D A 12 0 0 (MQ below (Qr D (tyG cyI cyO cyJ) ([(aX, .inr (5, [.ref (aL 0), .ref (aS 0), .ref (aG 0), .ref (aH 0), .ref (aB 0), .ref (aV 0), .ref (aU 0)]))] ++ (bX4 cyI aS z.2 ++ (bX3 cyI aG oG ++ (bX1 cyI aL oL ++ (bX4 cyI aU oU ++ (bX1 cyI aV oV ++ (bX2 cyI aB oB ++ bHS cyI cyO aH oH))))))) A (some (.int z.1))) args s 0 0 A) ([(aX, .inr (5, [.ref (aL 0), .ref (aS 0), .ref (aG 0), .ref (aH 0), .ref (aB 0), .ref (aV 0), .ref (aU 0)]))] ++ (bX4 cyI aS oS ++ (bX3 cyI aG oG ++ (bX1 cyI aL oL ++ (bX4 cyI aU oU ++ (bX1 cyI aV oV ++ (bX2 cyI aB oB ++ bHS cyI cyO aH oH))))))) 429 [(0, .ref aX), (1, .int v1), (2, .int v2), (3, .int v3), (4, .int v4)] []) (v1 : Int32) (v2 : Int32) (v3 : Int32) (v5 : Int32) (v6 : Int32) (v7 : Int32) (v8 : Int32) (v9 : Int32) (v10 : Int32) (v11 : Int32) (s0 : Int32) (oS : OB) (hf : fL_matches_b175 n oG oL oU oV oB oH k12 k429 v1 v2 v3 v5 v6 v7 v8 v9 v10 v11 s0 oS = some z) : Wn p l e rmL_matches s m args below meth c D A 12 0 0 (MQ below (Qr D (tyG cyI cyO cyJ) ([(aX, .inr (5, [.ref (aL 0), .ref (aS 0), .ref (aG 0), .ref (aH 0), .ref (aB 0), .ref (aV 0), .ref (aU 0)]))] ++ (bX4 cyI aS z.2 ++ (bX3 cyI aG oG ++ (bX1 cyI aL oL ++ (bX4 cyI aU oU ++ (bX1 cyI aV oV ++ (bX2 cyI aB oB ++ bHS cyI cyO aH oH))))))) A (some (.int z.1))) args s 0 0 A) ([(aX, .inr (5, [.ref (aL 0), .ref (aS 0), .ref (aG 0), .ref (aH 0), .ref (aB 0), .ref (aV 0), .ref (aU 0)]))] ++ (bX4 cyI aS oS ++ (bX3 cyI aG oG ++ (bX1 cyI aL oL ++ (bX4 cyI aU oU ++ (bX1 cyI aV oV ++ (bX2 cyI aB oB ++ bHS cyI cyO aH oH))))))) 175 [(0, .ref aX), (1, .int v1), (2, .int v2), (3, .int v3), (5, .int v5), (6, .int v6), (7, .int v7), (8, .int v8), (9, .int v9), (10, .int v10), (11, .int v11)] [.int s0] := by
  unfold fL_matches_b175 at hf
  refine n_aload_n C dL_matches_175 0 rfl rfl ?_
  refine n_iload C dL_matches_176 4 rfl rfl ?_
  refine n_bipush (v := (nI 7)) C dL_matches_178 (by decide) rfl ?_
  obtain ⟨z180, h180, hf⟩ := bi hf
  refine n_callV (As := [.int v5, .int (nI 7)]) (rest := [.int s0]) (w2 := [(aX, .inr (5, [.ref (aL 0), .ref (aS 0), .ref (aG 0), .ref (aH 0), .ref (aB 0), .ref (aV 0), .ref (aU 0)]))] ++ (bX4 cyI aS oS ++ (bX3 cyI aG oG ++ (bX1 cyI aL oL ++ (bX4 cyI aU oU ++ (bX1 cyI aV oV ++ (bX2 cyI aB oB ++ bHS cyI cyO aH oH))))))) C dL_matches_180 (c5n_match l D cyI cyO cyJ aX aS aG aL aU aV aB aH n oS oG oL oU oV oB oH v5 (nI 7) z180 h180) (cwV 2 C.ts gL_matches_X5_match rfl rfl rfl (by decide +kernel) ⟨Nat.le_of_ble_eq_true rfl, Nat.le_of_ble_eq_true rfl⟩) rfl (q0 := 0) (ci := 5) rfl rfl Frm.self rfl (Nat.le_of_ble_eq_true rfl) ⟨Nat.le_of_ble_eq_true rfl, Nat.le_of_ble_eq_true rfl⟩ rfl ?_
  refine n_iconst (v := (-1 : Int32)) C dL_matches_183 (by decide) rfl ?_
  refine n_icmp_ne (t := 191) C dL_matches_184 (by decide) rfl (fun h184 => ?_) (fun h184 => ?_)
  · have hf := iq h184 hf
    refine n_iconst (v := (nI 0)) C dL_matches_191 (by decide) rfl ?_
    exact Wn.sub (lv' := [(0, .ref aX), (1, .int v1), (2, .int v2), (3, .int v3), (5, .int v5), (6, .int v6), (7, .int v7), (8, .int v8), (9, .int v9), (10, .int v10), (11, .int v11)]) [0, 1, 2, 3, 4, 5, 6, 7, 8, 9, 10] rfl (tL_matches_b192 C n oG oL oU oV oB oH hk12 hk429 v1 v2 v3 v5 v6 v7 v8 v9 v10 v11 s0 (nI 0) oS hf)
  · have hf := ip h184 hf
    refine n_iconst (v := (nI 1)) C dL_matches_187 (by decide) rfl ?_
    refine n_goto (t := 192) C dL_matches_188 (by decide) ?_
    exact Wn.sub (lv' := [(0, .ref aX), (1, .int v1), (2, .int v2), (3, .int v3), (5, .int v5), (6, .int v6), (7, .int v7), (8, .int v8), (9, .int v9), (10, .int v10), (11, .int v11)]) [0, 1, 2, 3, 4, 5, 6, 7, 8, 9, 10] rfl (tL_matches_b192 C n oG oL oU oV oB oH hk12 hk429 v1 v2 v3 v5 v6 v7 v8 v9 v10 v11 s0 (nI 1) oS hf)
set_option maxHeartbeats 4000000 in
set_option maxRecDepth 100000 in
theorem tL_matches_b145 {l : Launch} {p : Program} {e : Env} {s : State} {m : MethodId} {args : Array Value} {below : List Frame} {meth : Method} {c : Code} {D : va_G} {A : Nat → Prop} {cyI cyO cyJ : ClassId} {aX : Nat} {aS : Nat → Nat} {aG : Nat → Nat} {aL : Nat → Nat} {aU : Nat → Nat} {aV : Nat → Nat} {aB : Nat → Nat} {aH : Nat → Nat} (C : Cx p s m args meth c D (tyG cyI cyO cyJ) A RL cL_matches 12 (some .boolean) wsL_matches) {z : Int32 × (OB)} (n : Nat) (oG : OB) (oL : OB) (oU : OB) (oV : OB) (oB : OB) (oH : HS) {k12 : Int32 → Int32 → Int32 → Int32 → Int32 → OB → Option (Int32 × (OB))} {k429 : Int32 → Int32 → Int32 → Int32 → OB → Option (Int32 × (OB))} (hk12 : ∀ (v1 : Int32) (v2 : Int32) (v3 : Int32) (v4 : Int32) (v5 : Int32) (oS : OB), k12 v1 v2 v3 v4 v5 oS = some z → Wn p l e rmL_matches s m args below meth c D A 12 0 0 (MQ below (Qr D (tyG cyI cyO cyJ) ([(aX, .inr (5, [.ref (aL 0), .ref (aS 0), .ref (aG 0), .ref (aH 0), .ref (aB 0), .ref (aV 0), .ref (aU 0)]))] ++ (bX4 cyI aS z.2 ++ (bX3 cyI aG oG ++ (bX1 cyI aL oL ++ (bX4 cyI aU oU ++ (bX1 cyI aV oV ++ (bX2 cyI aB oB ++ bHS cyI cyO aH oH))))))) A (some (.int z.1))) args s 0 0 A) ([(aX, .inr (5, [.ref (aL 0), .ref (aS 0), .ref (aG 0), .ref (aH 0), .ref (aB 0), .ref (aV 0), .ref (aU 0)]))] ++ (bX4 cyI aS oS ++ (bX3 cyI aG oG ++ (bX1 cyI aL oL ++ (bX4 cyI aU oU ++ (bX1 cyI aV oV ++ (bX2 cyI aB oB ++ bHS cyI cyO aH oH))))))) 12 [(0, .ref aX), (1, .int v1), (2, .int v2), (3, .int v3), (4, .int v4), (5, .int v5)] []) (hk429 : ∀ (v1 : Int32) (v2 : Int32) (v3 : Int32) (v4 : Int32) (oS : OB), k429 v1 v2 v3 v4 oS = some z → Wn p l e rmL_matches s m args below meth c D A 12 0 0 (MQ below (Qr D (tyG cyI cyO cyJ) ([(aX, .inr (5, [.ref (aL 0), .ref (aS 0), .ref (aG 0), .ref (aH 0), .ref (aB 0), .ref (aV 0), .ref (aU 0)]))] ++ (bX4 cyI aS z.2 ++ (bX3 cyI aG oG ++ (bX1 cyI aL oL ++ (bX4 cyI aU oU ++ (bX1 cyI aV oV ++ (bX2 cyI aB oB ++ bHS cyI cyO aH oH))))))) A (some (.int z.1))) args s 0 0 A) ([(aX, .inr (5, [.ref (aL 0), .ref (aS 0), .ref (aG 0), .ref (aH 0), .ref (aB 0), .ref (aV 0), .ref (aU 0)]))] ++ (bX4 cyI aS oS ++ (bX3 cyI aG oG ++ (bX1 cyI aL oL ++ (bX4 cyI aU oU ++ (bX1 cyI aV oV ++ (bX2 cyI aB oB ++ bHS cyI cyO aH oH))))))) 429 [(0, .ref aX), (1, .int v1), (2, .int v2), (3, .int v3), (4, .int v4)] []) (v1 : Int32) (v2 : Int32) (v3 : Int32) (v5 : Int32) (v6 : Int32) (v7 : Int32) (v8 : Int32) (v9 : Int32) (v10 : Int32) (v11 : Int32) (s0 : Int32) (oS : OB) (hf : fL_matches_b145 n oG oL oU oV oB oH k12 k429 v1 v2 v3 v5 v6 v7 v8 v9 v10 v11 s0 oS = some z) : Wn p l e rmL_matches s m args below meth c D A 12 0 0 (MQ below (Qr D (tyG cyI cyO cyJ) ([(aX, .inr (5, [.ref (aL 0), .ref (aS 0), .ref (aG 0), .ref (aH 0), .ref (aB 0), .ref (aV 0), .ref (aU 0)]))] ++ (bX4 cyI aS z.2 ++ (bX3 cyI aG oG ++ (bX1 cyI aL oL ++ (bX4 cyI aU oU ++ (bX1 cyI aV oV ++ (bX2 cyI aB oB ++ bHS cyI cyO aH oH))))))) A (some (.int z.1))) args s 0 0 A) ([(aX, .inr (5, [.ref (aL 0), .ref (aS 0), .ref (aG 0), .ref (aH 0), .ref (aB 0), .ref (aV 0), .ref (aU 0)]))] ++ (bX4 cyI aS oS ++ (bX3 cyI aG oG ++ (bX1 cyI aL oL ++ (bX4 cyI aU oU ++ (bX1 cyI aV oV ++ (bX2 cyI aB oB ++ bHS cyI cyO aH oH))))))) 145 [(0, .ref aX), (1, .int v1), (2, .int v2), (3, .int v3), (5, .int v5), (6, .int v6), (7, .int v7), (8, .int v8), (9, .int v9), (10, .int v10), (11, .int v11)] [.int s0] := by
  unfold fL_matches_b145 at hf
  refine n_aload_n C dL_matches_145 0 rfl rfl ?_
  refine n_iload C dL_matches_146 4 rfl rfl ?_
  refine n_bipush (v := (nI 6)) C dL_matches_148 (by decide) rfl ?_
  obtain ⟨z150, h150, hf⟩ := bi hf
  refine n_callV (As := [.int v5, .int (nI 6)]) (rest := [.int s0]) (w2 := [(aX, .inr (5, [.ref (aL 0), .ref (aS 0), .ref (aG 0), .ref (aH 0), .ref (aB 0), .ref (aV 0), .ref (aU 0)]))] ++ (bX4 cyI aS oS ++ (bX3 cyI aG oG ++ (bX1 cyI aL oL ++ (bX4 cyI aU oU ++ (bX1 cyI aV oV ++ (bX2 cyI aB oB ++ bHS cyI cyO aH oH))))))) C dL_matches_150 (c5n_match l D cyI cyO cyJ aX aS aG aL aU aV aB aH n oS oG oL oU oV oB oH v5 (nI 6) z150 h150) (cwV 2 C.ts gL_matches_X5_match rfl rfl rfl (by decide +kernel) ⟨Nat.le_of_ble_eq_true rfl, Nat.le_of_ble_eq_true rfl⟩) rfl (q0 := 0) (ci := 5) rfl rfl Frm.self rfl (Nat.le_of_ble_eq_true rfl) ⟨Nat.le_of_ble_eq_true rfl, Nat.le_of_ble_eq_true rfl⟩ rfl ?_
  refine n_iconst (v := (-1 : Int32)) C dL_matches_153 (by decide) rfl ?_
  refine n_icmp_ne (t := 161) C dL_matches_154 (by decide) rfl (fun h154 => ?_) (fun h154 => ?_)
  · have hf := iq h154 hf
    refine n_iconst (v := (nI 0)) C dL_matches_161 (by decide) rfl ?_
    refine n_icmp_ne (t := 215) C dL_matches_162 (by decide) rfl (fun h162 => ?_) (fun h162 => ?_)
    · have hf := iq h162 hf
      refine n_iconst (v := (nI 0)) C dL_matches_215 (by decide) rfl ?_
      exact Wn.sub (lv' := [(0, .ref aX), (1, .int v1), (2, .int v2), (3, .int v3), (5, .int v5), (6, .int v6), (7, .int v7), (8, .int v8), (9, .int v9), (10, .int v10), (11, .int v11)]) [0, 1, 2, 3, 4, 5, 6, 7, 8, 9, 10] rfl (tL_matches_b216 C n oG oL oU oV oB oH hk12 hk429 v1 v2 v3 v5 v6 v7 v8 v9 v10 v11 (nI 0) oS hf)
    · have hf := ip h162 hf
      refine n_iload C dL_matches_165 9 rfl rfl ?_
      refine n_if_ne (t := 174) C dL_matches_167 (by decide) rfl (fun h167 => ?_) (fun h167 => ?_)
      · have hf := iq h167 hf
        refine n_iconst (v := (nI 0)) C dL_matches_174 (by decide) rfl ?_
        exact Wn.sub (lv' := [(0, .ref aX), (1, .int v1), (2, .int v2), (3, .int v3), (5, .int v5), (6, .int v6), (7, .int v7), (8, .int v8), (9, .int v9), (10, .int v10), (11, .int v11)]) [0, 1, 2, 3, 4, 5, 6, 7, 8, 9, 10] rfl (tL_matches_b175 C n oG oL oU oV oB oH hk12 hk429 v1 v2 v3 v5 v6 v7 v8 v9 v10 v11 (nI 0) oS hf)
      · have hf := ip h167 hf
        refine n_iconst (v := (nI 1)) C dL_matches_170 (by decide) rfl ?_
        refine n_goto (t := 175) C dL_matches_171 (by decide) ?_
        exact Wn.sub (lv' := [(0, .ref aX), (1, .int v1), (2, .int v2), (3, .int v3), (5, .int v5), (6, .int v6), (7, .int v7), (8, .int v8), (9, .int v9), (10, .int v10), (11, .int v11)]) [0, 1, 2, 3, 4, 5, 6, 7, 8, 9, 10] rfl (tL_matches_b175 C n oG oL oU oV oB oH hk12 hk429 v1 v2 v3 v5 v6 v7 v8 v9 v10 v11 (nI 1) oS hf)
  · have hf := ip h154 hf
    refine n_iconst (v := (nI 1)) C dL_matches_157 (by decide) rfl ?_
    refine n_goto (t := 162) C dL_matches_158 (by decide) ?_
    refine n_icmp_ne (t := 215) C dL_matches_162 (by decide) rfl (fun h162 => ?_) (fun h162 => ?_)
    · have hf := iq h162 hf
      refine n_iconst (v := (nI 0)) C dL_matches_215 (by decide) rfl ?_
      exact Wn.sub (lv' := [(0, .ref aX), (1, .int v1), (2, .int v2), (3, .int v3), (5, .int v5), (6, .int v6), (7, .int v7), (8, .int v8), (9, .int v9), (10, .int v10), (11, .int v11)]) [0, 1, 2, 3, 4, 5, 6, 7, 8, 9, 10] rfl (tL_matches_b216 C n oG oL oU oV oB oH hk12 hk429 v1 v2 v3 v5 v6 v7 v8 v9 v10 v11 (nI 0) oS hf)
    · have hf := ip h162 hf
      refine n_iload C dL_matches_165 9 rfl rfl ?_
      refine n_if_ne (t := 174) C dL_matches_167 (by decide) rfl (fun h167 => ?_) (fun h167 => ?_)
      · have hf := iq h167 hf
        refine n_iconst (v := (nI 0)) C dL_matches_174 (by decide) rfl ?_
        exact Wn.sub (lv' := [(0, .ref aX), (1, .int v1), (2, .int v2), (3, .int v3), (5, .int v5), (6, .int v6), (7, .int v7), (8, .int v8), (9, .int v9), (10, .int v10), (11, .int v11)]) [0, 1, 2, 3, 4, 5, 6, 7, 8, 9, 10] rfl (tL_matches_b175 C n oG oL oU oV oB oH hk12 hk429 v1 v2 v3 v5 v6 v7 v8 v9 v10 v11 (nI 0) oS hf)
      · have hf := ip h167 hf
        refine n_iconst (v := (nI 1)) C dL_matches_170 (by decide) rfl ?_
        refine n_goto (t := 175) C dL_matches_171 (by decide) ?_
        exact Wn.sub (lv' := [(0, .ref aX), (1, .int v1), (2, .int v2), (3, .int v3), (5, .int v5), (6, .int v6), (7, .int v7), (8, .int v8), (9, .int v9), (10, .int v10), (11, .int v11)]) [0, 1, 2, 3, 4, 5, 6, 7, 8, 9, 10] rfl (tL_matches_b175 C n oG oL oU oV oB oH hk12 hk429 v1 v2 v3 v5 v6 v7 v8 v9 v10 v11 (nI 1) oS hf)
set_option maxHeartbeats 4000000 in
set_option maxRecDepth 100000 in
theorem tL_matches_b122 {l : Launch} {p : Program} {e : Env} {s : State} {m : MethodId} {args : Array Value} {below : List Frame} {meth : Method} {c : Code} {D : va_G} {A : Nat → Prop} {cyI cyO cyJ : ClassId} {aX : Nat} {aS : Nat → Nat} {aG : Nat → Nat} {aL : Nat → Nat} {aU : Nat → Nat} {aV : Nat → Nat} {aB : Nat → Nat} {aH : Nat → Nat} (C : Cx p s m args meth c D (tyG cyI cyO cyJ) A RL cL_matches 12 (some .boolean) wsL_matches) {z : Int32 × (OB)} (n : Nat) (oG : OB) (oL : OB) (oU : OB) (oV : OB) (oB : OB) (oH : HS) {k12 : Int32 → Int32 → Int32 → Int32 → Int32 → OB → Option (Int32 × (OB))} {k429 : Int32 → Int32 → Int32 → Int32 → OB → Option (Int32 × (OB))} (hk12 : ∀ (v1 : Int32) (v2 : Int32) (v3 : Int32) (v4 : Int32) (v5 : Int32) (oS : OB), k12 v1 v2 v3 v4 v5 oS = some z → Wn p l e rmL_matches s m args below meth c D A 12 0 0 (MQ below (Qr D (tyG cyI cyO cyJ) ([(aX, .inr (5, [.ref (aL 0), .ref (aS 0), .ref (aG 0), .ref (aH 0), .ref (aB 0), .ref (aV 0), .ref (aU 0)]))] ++ (bX4 cyI aS z.2 ++ (bX3 cyI aG oG ++ (bX1 cyI aL oL ++ (bX4 cyI aU oU ++ (bX1 cyI aV oV ++ (bX2 cyI aB oB ++ bHS cyI cyO aH oH))))))) A (some (.int z.1))) args s 0 0 A) ([(aX, .inr (5, [.ref (aL 0), .ref (aS 0), .ref (aG 0), .ref (aH 0), .ref (aB 0), .ref (aV 0), .ref (aU 0)]))] ++ (bX4 cyI aS oS ++ (bX3 cyI aG oG ++ (bX1 cyI aL oL ++ (bX4 cyI aU oU ++ (bX1 cyI aV oV ++ (bX2 cyI aB oB ++ bHS cyI cyO aH oH))))))) 12 [(0, .ref aX), (1, .int v1), (2, .int v2), (3, .int v3), (4, .int v4), (5, .int v5)] []) (hk429 : ∀ (v1 : Int32) (v2 : Int32) (v3 : Int32) (v4 : Int32) (oS : OB), k429 v1 v2 v3 v4 oS = some z → Wn p l e rmL_matches s m args below meth c D A 12 0 0 (MQ below (Qr D (tyG cyI cyO cyJ) ([(aX, .inr (5, [.ref (aL 0), .ref (aS 0), .ref (aG 0), .ref (aH 0), .ref (aB 0), .ref (aV 0), .ref (aU 0)]))] ++ (bX4 cyI aS z.2 ++ (bX3 cyI aG oG ++ (bX1 cyI aL oL ++ (bX4 cyI aU oU ++ (bX1 cyI aV oV ++ (bX2 cyI aB oB ++ bHS cyI cyO aH oH))))))) A (some (.int z.1))) args s 0 0 A) ([(aX, .inr (5, [.ref (aL 0), .ref (aS 0), .ref (aG 0), .ref (aH 0), .ref (aB 0), .ref (aV 0), .ref (aU 0)]))] ++ (bX4 cyI aS oS ++ (bX3 cyI aG oG ++ (bX1 cyI aL oL ++ (bX4 cyI aU oU ++ (bX1 cyI aV oV ++ (bX2 cyI aB oB ++ bHS cyI cyO aH oH))))))) 429 [(0, .ref aX), (1, .int v1), (2, .int v2), (3, .int v3), (4, .int v4)] []) (v1 : Int32) (v2 : Int32) (v3 : Int32) (v5 : Int32) (v6 : Int32) (v7 : Int32) (v8 : Int32) (v9 : Int32) (v10 : Int32) (v11 : Int32) (s0 : Int32) (s1 : Int32) (oS : OB) (hf : fL_matches_b122 n oG oL oU oV oB oH k12 k429 v1 v2 v3 v5 v6 v7 v8 v9 v10 v11 s0 s1 oS = some z) : Wn p l e rmL_matches s m args below meth c D A 12 0 0 (MQ below (Qr D (tyG cyI cyO cyJ) ([(aX, .inr (5, [.ref (aL 0), .ref (aS 0), .ref (aG 0), .ref (aH 0), .ref (aB 0), .ref (aV 0), .ref (aU 0)]))] ++ (bX4 cyI aS z.2 ++ (bX3 cyI aG oG ++ (bX1 cyI aL oL ++ (bX4 cyI aU oU ++ (bX1 cyI aV oV ++ (bX2 cyI aB oB ++ bHS cyI cyO aH oH))))))) A (some (.int z.1))) args s 0 0 A) ([(aX, .inr (5, [.ref (aL 0), .ref (aS 0), .ref (aG 0), .ref (aH 0), .ref (aB 0), .ref (aV 0), .ref (aU 0)]))] ++ (bX4 cyI aS oS ++ (bX3 cyI aG oG ++ (bX1 cyI aL oL ++ (bX4 cyI aU oU ++ (bX1 cyI aV oV ++ (bX2 cyI aB oB ++ bHS cyI cyO aH oH))))))) 122 [(0, .ref aX), (1, .int v1), (2, .int v2), (3, .int v3), (5, .int v5), (6, .int v6), (7, .int v7), (8, .int v8), (9, .int v9), (10, .int v10), (11, .int v11)] [.int s1, .int s0] := by
  unfold fL_matches_b122 at hf
  refine n_icmp_ne (t := 215) C dL_matches_122 (by decide) rfl (fun h122 => ?_) (fun h122 => ?_)
  · have hf := iq h122 hf
    refine n_iconst (v := (nI 0)) C dL_matches_215 (by decide) rfl ?_
    exact Wn.sub (lv' := [(0, .ref aX), (1, .int v1), (2, .int v2), (3, .int v3), (5, .int v5), (6, .int v6), (7, .int v7), (8, .int v8), (9, .int v9), (10, .int v10), (11, .int v11)]) [0, 1, 2, 3, 4, 5, 6, 7, 8, 9, 10] rfl (tL_matches_b216 C n oG oL oU oV oB oH hk12 hk429 v1 v2 v3 v5 v6 v7 v8 v9 v10 v11 (nI 0) oS hf)
  · have hf := ip h122 hf
    refine n_iload C dL_matches_125 9 rfl rfl ?_
    refine n_if_eq (t := 135) C dL_matches_127 (by decide) rfl (fun h127 => ?_) (fun h127 => ?_)
    · have hf := ip h127 hf
      refine n_iload C dL_matches_135 9 rfl rfl ?_
      refine n_if_ne (t := 144) C dL_matches_137 (by decide) rfl (fun h137 => ?_) (fun h137 => ?_)
      · have hf := iq h137 hf
        refine n_iconst (v := (nI 0)) C dL_matches_144 (by decide) rfl ?_
        exact Wn.sub (lv' := [(0, .ref aX), (1, .int v1), (2, .int v2), (3, .int v3), (5, .int v5), (6, .int v6), (7, .int v7), (8, .int v8), (9, .int v9), (10, .int v10), (11, .int v11)]) [0, 1, 2, 3, 4, 5, 6, 7, 8, 9, 10] rfl (tL_matches_b145 C n oG oL oU oV oB oH hk12 hk429 v1 v2 v3 v5 v6 v7 v8 v9 v10 v11 (nI 0) oS hf)
      · have hf := ip h137 hf
        refine n_iconst (v := (nI 1)) C dL_matches_140 (by decide) rfl ?_
        refine n_goto (t := 145) C dL_matches_141 (by decide) ?_
        exact Wn.sub (lv' := [(0, .ref aX), (1, .int v1), (2, .int v2), (3, .int v3), (5, .int v5), (6, .int v6), (7, .int v7), (8, .int v8), (9, .int v9), (10, .int v10), (11, .int v11)]) [0, 1, 2, 3, 4, 5, 6, 7, 8, 9, 10] rfl (tL_matches_b145 C n oG oL oU oV oB oH hk12 hk429 v1 v2 v3 v5 v6 v7 v8 v9 v10 v11 (nI 1) oS hf)
    · have hf := iq h127 hf
      refine n_iload C dL_matches_130 5 rfl rfl ?_
      refine n_if_lt (t := 215) C dL_matches_132 (by decide) rfl (fun h132 => ?_) (fun h132 => ?_)
      · have hf := ip h132 hf
        refine n_iconst (v := (nI 0)) C dL_matches_215 (by decide) rfl ?_
        exact Wn.sub (lv' := [(0, .ref aX), (1, .int v1), (2, .int v2), (3, .int v3), (5, .int v5), (6, .int v6), (7, .int v7), (8, .int v8), (9, .int v9), (10, .int v10), (11, .int v11)]) [0, 1, 2, 3, 4, 5, 6, 7, 8, 9, 10] rfl (tL_matches_b216 C n oG oL oU oV oB oH hk12 hk429 v1 v2 v3 v5 v6 v7 v8 v9 v10 v11 (nI 0) oS hf)
      · have hf := iq h132 hf
        refine n_iload C dL_matches_135 9 rfl rfl ?_
        refine n_if_ne (t := 144) C dL_matches_137 (by decide) rfl (fun h137 => ?_) (fun h137 => ?_)
        · have hf := iq h137 hf
          refine n_iconst (v := (nI 0)) C dL_matches_144 (by decide) rfl ?_
          exact Wn.sub (lv' := [(0, .ref aX), (1, .int v1), (2, .int v2), (3, .int v3), (5, .int v5), (6, .int v6), (7, .int v7), (8, .int v8), (9, .int v9), (10, .int v10), (11, .int v11)]) [0, 1, 2, 3, 4, 5, 6, 7, 8, 9, 10] rfl (tL_matches_b145 C n oG oL oU oV oB oH hk12 hk429 v1 v2 v3 v5 v6 v7 v8 v9 v10 v11 (nI 0) oS hf)
        · have hf := ip h137 hf
          refine n_iconst (v := (nI 1)) C dL_matches_140 (by decide) rfl ?_
          refine n_goto (t := 145) C dL_matches_141 (by decide) ?_
          exact Wn.sub (lv' := [(0, .ref aX), (1, .int v1), (2, .int v2), (3, .int v3), (5, .int v5), (6, .int v6), (7, .int v7), (8, .int v8), (9, .int v9), (10, .int v10), (11, .int v11)]) [0, 1, 2, 3, 4, 5, 6, 7, 8, 9, 10] rfl (tL_matches_b145 C n oG oL oU oV oB oH hk12 hk429 v1 v2 v3 v5 v6 v7 v8 v9 v10 v11 (nI 1) oS hf)
set_option maxHeartbeats 4000000 in
set_option maxRecDepth 100000 in
theorem tL_matches_b12 {l : Launch} {p : Program} {e : Env} {s : State} {m : MethodId} {args : Array Value} {below : List Frame} {meth : Method} {c : Code} {D : va_G} {A : Nat → Prop} {cyI cyO cyJ : ClassId} {aX : Nat} {aS : Nat → Nat} {aG : Nat → Nat} {aL : Nat → Nat} {aU : Nat → Nat} {aV : Nat → Nat} {aB : Nat → Nat} {aH : Nat → Nat} (C : Cx p s m args meth c D (tyG cyI cyO cyJ) A RL cL_matches 12 (some .boolean) wsL_matches) {z : Int32 × (OB)} (n : Nat) (oG : OB) (oL : OB) (oU : OB) (oV : OB) (oB : OB) (oH : HS) {k429 : Int32 → Int32 → Int32 → Int32 → OB → Option (Int32 × (OB))} (hk429 : ∀ (v1 : Int32) (v2 : Int32) (v3 : Int32) (v4 : Int32) (oS : OB), k429 v1 v2 v3 v4 oS = some z → Wn p l e rmL_matches s m args below meth c D A 12 0 0 (MQ below (Qr D (tyG cyI cyO cyJ) ([(aX, .inr (5, [.ref (aL 0), .ref (aS 0), .ref (aG 0), .ref (aH 0), .ref (aB 0), .ref (aV 0), .ref (aU 0)]))] ++ (bX4 cyI aS z.2 ++ (bX3 cyI aG oG ++ (bX1 cyI aL oL ++ (bX4 cyI aU oU ++ (bX1 cyI aV oV ++ (bX2 cyI aB oB ++ bHS cyI cyO aH oH))))))) A (some (.int z.1))) args s 0 0 A) ([(aX, .inr (5, [.ref (aL 0), .ref (aS 0), .ref (aG 0), .ref (aH 0), .ref (aB 0), .ref (aV 0), .ref (aU 0)]))] ++ (bX4 cyI aS oS ++ (bX3 cyI aG oG ++ (bX1 cyI aL oL ++ (bX4 cyI aU oU ++ (bX1 cyI aV oV ++ (bX2 cyI aB oB ++ bHS cyI cyO aH oH))))))) 429 [(0, .ref aX), (1, .int v1), (2, .int v2), (3, .int v3), (4, .int v4)] []) : ∀ (k : Nat) (v1 : Int32) (v2 : Int32) (v3 : Int32) (v4 : Int32) (v5 : Int32) (oS : OB), fL_matches_b12 n oG oL oU oV oB oH k429 k v1 v2 v3 v4 v5 oS = some z → Wn p l e rmL_matches s m args below meth c D A 12 0 0 (MQ below (Qr D (tyG cyI cyO cyJ) ([(aX, .inr (5, [.ref (aL 0), .ref (aS 0), .ref (aG 0), .ref (aH 0), .ref (aB 0), .ref (aV 0), .ref (aU 0)]))] ++ (bX4 cyI aS z.2 ++ (bX3 cyI aG oG ++ (bX1 cyI aL oL ++ (bX4 cyI aU oU ++ (bX1 cyI aV oV ++ (bX2 cyI aB oB ++ bHS cyI cyO aH oH))))))) A (some (.int z.1))) args s 0 0 A) ([(aX, .inr (5, [.ref (aL 0), .ref (aS 0), .ref (aG 0), .ref (aH 0), .ref (aB 0), .ref (aV 0), .ref (aU 0)]))] ++ (bX4 cyI aS oS ++ (bX3 cyI aG oG ++ (bX1 cyI aL oL ++ (bX4 cyI aU oU ++ (bX1 cyI aV oV ++ (bX2 cyI aB oB ++ bHS cyI cyO aH oH))))))) 12 [(0, .ref aX), (1, .int v1), (2, .int v2), (3, .int v3), (4, .int v4), (5, .int v5)] [] := by
  intro k
  induction k with
  | zero => intro  v1 v2 v3 v4 v5 oS hf; cases hf
  | succ k ih =>
    intro  v1 v2 v3 v4 v5 oS hf
    unfold fL_matches_b12 at hf
    refine n_iload C dL_matches_12 5 rfl rfl ?_
    refine n_aload_n C dL_matches_14 0 rfl rfl ?_
    refine n_iconst (v := (nI 2)) C dL_matches_15 (by decide) rfl ?_
    obtain ⟨z16, h16, hf⟩ := bi hf
    refine n_callV (As := [.int (nI 2)]) (rest := [.int v5]) (w2 := [(aX, .inr (5, [.ref (aL 0), .ref (aS 0), .ref (aG 0), .ref (aH 0), .ref (aB 0), .ref (aV 0), .ref (aU 0)]))] ++ (bX4 cyI aS z16.2 ++ (bX3 cyI aG oG ++ (bX1 cyI aL oL ++ (bX4 cyI aU oU ++ (bX1 cyI aV oV ++ (bX2 cyI aB oB ++ bHS cyI cyO aH oH))))))) C dL_matches_16 (c5n_count l D cyI cyO cyJ aX aS aG aL aU aV aB aH n oS oG oL oU oV oB oH (nI 2) z16 h16) (cwV 1 C.ts gL_matches_X5_count rfl rfl rfl (by decide +kernel) ⟨Nat.le_of_ble_eq_true rfl, Nat.le_of_ble_eq_true rfl⟩) rfl (q0 := 0) (ci := 5) rfl rfl Frm.self rfl (Nat.le_of_ble_eq_true rfl) ⟨Nat.le_of_ble_eq_true rfl, Nat.le_of_ble_eq_true rfl⟩ rfl ?_
    refine n_icmp_ge (t := 429) C dL_matches_19 (by decide) rfl (fun h19 => ?_) (fun h19 => ?_)
    · have hf := ip h19 hf
      exact Wn.sub (lv' := [(0, .ref aX), (1, .int v1), (2, .int v2), (3, .int v3), (4, .int v4)]) [0, 1, 2, 3, 4] rfl (hk429 v1 v2 v3 v4 z16.2 hf)
    · have hf := iq h19 hf
      refine n_iload C dL_matches_22 4 rfl rfl ?_
      refine n_if_eq (t := 429) C dL_matches_24 (by decide) rfl (fun h24 => ?_) (fun h24 => ?_)
      · have hf := ip h24 hf
        exact Wn.sub (lv' := [(0, .ref aX), (1, .int v1), (2, .int v2), (3, .int v3), (4, .int v4)]) [0, 1, 2, 3, 4] rfl (hk429 v1 v2 v3 v4 z16.2 hf)
      · have hf := iq h24 hf
        refine n_aload_n C dL_matches_27 0 rfl rfl ?_
        refine n_iload C dL_matches_28 5 rfl rfl ?_
        refine n_iconst (v := (nI 3)) C dL_matches_30 (by decide) rfl ?_
        obtain ⟨z31, h31, hf⟩ := bi hf
        refine n_callV (As := [.int v5, .int (nI 3)]) (rest := []) (w2 := [(aX, .inr (5, [.ref (aL 0), .ref (aS 0), .ref (aG 0), .ref (aH 0), .ref (aB 0), .ref (aV 0), .ref (aU 0)]))] ++ (bX4 cyI aS z16.2 ++ (bX3 cyI aG oG ++ (bX1 cyI aL oL ++ (bX4 cyI aU oU ++ (bX1 cyI aV oV ++ (bX2 cyI aB oB ++ bHS cyI cyO aH oH))))))) C dL_matches_31 (c5n_match l D cyI cyO cyJ aX aS aG aL aU aV aB aH n z16.2 oG oL oU oV oB oH v5 (nI 3) z31 h31) (cwV 2 C.ts gL_matches_X5_match rfl rfl rfl (by decide +kernel) ⟨Nat.le_of_ble_eq_true rfl, Nat.le_of_ble_eq_true rfl⟩) rfl (q0 := 0) (ci := 5) rfl rfl Frm.self rfl (Nat.le_of_ble_eq_true rfl) ⟨Nat.le_of_ble_eq_true rfl, Nat.le_of_ble_eq_true rfl⟩ rfl ?_
        refine n_istore (lv' := [(6, .int z31), (0, .ref aX), (1, .int v1), (2, .int v2), (3, .int v3), (4, .int v4), (5, .int v5)]) C dL_matches_34 (by decide) rfl rfl ?_
        refine n_aload_n C dL_matches_36 1 rfl rfl ?_
        refine n_iload C dL_matches_37 6 rfl rfl ?_
        refine n_iconst (v := (nI 4)) C dL_matches_39 (by decide) rfl ?_
        obtain ⟨z40, h40, hf⟩ := bi hf
        refine n_callV (As := [.int v5, .int (nI 4)]) (rest := []) (w2 := [(aX, .inr (5, [.ref (aL 0), .ref (aS 0), .ref (aG 0), .ref (aH 0), .ref (aB 0), .ref (aV 0), .ref (aU 0)]))] ++ (bX4 cyI aS z16.2 ++ (bX3 cyI aG oG ++ (bX1 cyI aL oL ++ (bX4 cyI aU oU ++ (bX1 cyI aV oV ++ (bX2 cyI aB oB ++ bHS cyI cyO aH oH))))))) C dL_matches_40 (c5n_match l D cyI cyO cyJ aX aS aG aL aU aV aB aH n z16.2 oG oL oU oV oB oH v5 (nI 4) z40 h40) (cwV 2 C.ts gL_matches_X5_match rfl rfl rfl (by decide +kernel) ⟨Nat.le_of_ble_eq_true rfl, Nat.le_of_ble_eq_true rfl⟩) rfl (q0 := 0) (ci := 5) rfl rfl Frm.self rfl (Nat.le_of_ble_eq_true rfl) ⟨Nat.le_of_ble_eq_true rfl, Nat.le_of_ble_eq_true rfl⟩ rfl ?_
        refine n_istore (lv' := [(7, .int z40), (6, .int z31), (0, .ref aX), (1, .int v1), (2, .int v2), (3, .int v3), (4, .int v4), (5, .int v5)]) C dL_matches_43 (by decide) rfl rfl ?_
        refine n_aload_n C dL_matches_45 2 rfl rfl ?_
        refine n_iload C dL_matches_46 7 rfl rfl ?_
        refine n_iconst (v := (nI 1)) C dL_matches_48 (by decide) rfl ?_
        obtain ⟨z49, h49, hf⟩ := bi hf
        refine n_callV (As := [.int v5, .int (nI 1)]) (rest := []) (w2 := [(aX, .inr (5, [.ref (aL 0), .ref (aS 0), .ref (aG 0), .ref (aH 0), .ref (aB 0), .ref (aV 0), .ref (aU 0)]))] ++ (bX4 cyI aS z16.2 ++ (bX3 cyI aG oG ++ (bX1 cyI aL oL ++ (bX4 cyI aU oU ++ (bX1 cyI aV oV ++ (bX2 cyI aB oB ++ bHS cyI cyO aH oH))))))) C dL_matches_49 (c5n_match l D cyI cyO cyJ aX aS aG aL aU aV aB aH n z16.2 oG oL oU oV oB oH v5 (nI 1) z49 h49) (cwV 2 C.ts gL_matches_X5_match rfl rfl rfl (by decide +kernel) ⟨Nat.le_of_ble_eq_true rfl, Nat.le_of_ble_eq_true rfl⟩) rfl (q0 := 0) (ci := 5) rfl rfl Frm.self rfl (Nat.le_of_ble_eq_true rfl) ⟨Nat.le_of_ble_eq_true rfl, Nat.le_of_ble_eq_true rfl⟩ rfl ?_
        refine n_istore (lv' := [(8, .int z49), (7, .int z40), (6, .int z31), (0, .ref aX), (1, .int v1), (2, .int v2), (3, .int v3), (4, .int v4), (5, .int v5)]) C dL_matches_52 (by decide) rfl rfl ?_
        refine n_aload_n C dL_matches_54 3 rfl rfl ?_
        refine n_iload C dL_matches_55 8 rfl rfl ?_
        refine n_iconst (v := (nI 2)) C dL_matches_57 (by decide) rfl ?_
        obtain ⟨z58, h58, hf⟩ := bi hf
        refine n_callV (As := [.int v5, .int (nI 2)]) (rest := []) (w2 := [(aX, .inr (5, [.ref (aL 0), .ref (aS 0), .ref (aG 0), .ref (aH 0), .ref (aB 0), .ref (aV 0), .ref (aU 0)]))] ++ (bX4 cyI aS z16.2 ++ (bX3 cyI aG oG ++ (bX1 cyI aL oL ++ (bX4 cyI aU oU ++ (bX1 cyI aV oV ++ (bX2 cyI aB oB ++ bHS cyI cyO aH oH))))))) C dL_matches_58 (c5n_match l D cyI cyO cyJ aX aS aG aL aU aV aB aH n z16.2 oG oL oU oV oB oH v5 (nI 2) z58 h58) (cwV 2 C.ts gL_matches_X5_match rfl rfl rfl (by decide +kernel) ⟨Nat.le_of_ble_eq_true rfl, Nat.le_of_ble_eq_true rfl⟩) rfl (q0 := 0) (ci := 5) rfl rfl Frm.self rfl (Nat.le_of_ble_eq_true rfl) ⟨Nat.le_of_ble_eq_true rfl, Nat.le_of_ble_eq_true rfl⟩ rfl ?_
        refine n_istore (lv' := [(9, .int z58), (8, .int z49), (7, .int z40), (6, .int z31), (0, .ref aX), (1, .int v1), (2, .int v2), (3, .int v3), (4, .int v4), (5, .int v5)]) C dL_matches_61 (by decide) rfl rfl ?_
        refine n_aload_n C dL_matches_63 4 rfl rfl ?_
        refine n_iload C dL_matches_64 9 rfl rfl ?_
        refine n_bipush (v := (nI 8)) C dL_matches_66 (by decide) rfl ?_
        obtain ⟨z68, h68, hf⟩ := bi hf
        refine n_callV (As := [.int v5, .int (nI 8)]) (rest := []) (w2 := [(aX, .inr (5, [.ref (aL 0), .ref (aS 0), .ref (aG 0), .ref (aH 0), .ref (aB 0), .ref (aV 0), .ref (aU 0)]))] ++ (bX4 cyI aS z16.2 ++ (bX3 cyI aG oG ++ (bX1 cyI aL oL ++ (bX4 cyI aU oU ++ (bX1 cyI aV oV ++ (bX2 cyI aB oB ++ bHS cyI cyO aH oH))))))) C dL_matches_68 (c5n_match l D cyI cyO cyJ aX aS aG aL aU aV aB aH n z16.2 oG oL oU oV oB oH v5 (nI 8) z68 h68) (cwV 2 C.ts gL_matches_X5_match rfl rfl rfl (by decide +kernel) ⟨Nat.le_of_ble_eq_true rfl, Nat.le_of_ble_eq_true rfl⟩) rfl (q0 := 0) (ci := 5) rfl rfl Frm.self rfl (Nat.le_of_ble_eq_true rfl) ⟨Nat.le_of_ble_eq_true rfl, Nat.le_of_ble_eq_true rfl⟩ rfl ?_
        refine n_istore (lv' := [(10, .int z68), (9, .int z58), (8, .int z49), (7, .int z40), (6, .int z31), (0, .ref aX), (1, .int v1), (2, .int v2), (3, .int v3), (4, .int v4), (5, .int v5)]) C dL_matches_71 (by decide) rfl rfl ?_
        refine n_aload_n C dL_matches_73 5 rfl rfl ?_
        refine n_iconst (v := (nI 0)) C dL_matches_74 (by decide) rfl ?_
        obtain ⟨z75, h75, hf⟩ := bi hf
        refine n_callV (As := [.int (nI 0)]) (rest := []) (w2 := [(aX, .inr (5, [.ref (aL 0), .ref (aS 0), .ref (aG 0), .ref (aH 0), .ref (aB 0), .ref (aV 0), .ref (aU 0)]))] ++ (bX4 cyI aS z75.2 ++ (bX3 cyI aG oG ++ (bX1 cyI aL oL ++ (bX4 cyI aU oU ++ (bX1 cyI aV oV ++ (bX2 cyI aB oB ++ bHS cyI cyO aH oH))))))) C dL_matches_75 (c5n_count l D cyI cyO cyJ aX aS aG aL aU aV aB aH n z16.2 oG oL oU oV oB oH (nI 0) z75 h75) (cwV 1 C.ts gL_matches_X5_count rfl rfl rfl (by decide +kernel) ⟨Nat.le_of_ble_eq_true rfl, Nat.le_of_ble_eq_true rfl⟩) rfl (q0 := 0) (ci := 5) rfl rfl Frm.self rfl (Nat.le_of_ble_eq_true rfl) ⟨Nat.le_of_ble_eq_true rfl, Nat.le_of_ble_eq_true rfl⟩ rfl ?_
        refine n_istore (lv' := [(11, .int z75.1), (10, .int z68), (9, .int z58), (8, .int z49), (7, .int z40), (6, .int z31), (0, .ref aX), (1, .int v1), (2, .int v2), (3, .int v3), (4, .int v4), (5, .int v5)]) C dL_matches_78 (by decide) rfl rfl ?_
        refine n_iload C dL_matches_80 3 rfl rfl ?_
        refine n_iload C dL_matches_82 2 rfl rfl ?_
        refine n_icmp_eq (t := 215) C dL_matches_84 (by decide) rfl (fun h84 => ?_) (fun h84 => ?_)
        · have hf := ip h84 hf
          refine n_iconst (v := (nI 0)) C dL_matches_215 (by decide) rfl ?_
          exact Wn.sub (lv' := [(0, .ref aX), (1, .int v1), (2, .int v2), (3, .int v3), (5, .int v5), (6, .int z31), (7, .int z40), (8, .int z49), (9, .int z58), (10, .int z68), (11, .int z75.1)]) [6, 7, 8, 9, 11, 5, 4, 3, 2, 1, 0] rfl (tL_matches_b216 C n oG oL oU oV oB oH ih hk429 v1 v2 v3 v5 z31 z40 z49 z58 z68 z75.1 (nI 0) z75.2 hf)
        · have hf := iq h84 hf
          refine n_aload_n C dL_matches_87 6 rfl rfl ?_
          refine n_iload C dL_matches_88 3 rfl rfl ?_
          refine n_iload C dL_matches_90 2 rfl rfl ?_
          obtain ⟨z92, h92, hf⟩ := bi hf
          refine n_callV (As := [.int z49, .int z58]) (rest := []) (w2 := [(aX, .inr (5, [.ref (aL 0), .ref (aS 0), .ref (aG 0), .ref (aH 0), .ref (aB 0), .ref (aV 0), .ref (aU 0)]))] ++ (bX4 cyI aS z75.2 ++ (bX3 cyI aG oG ++ (bX1 cyI aL oL ++ (bX4 cyI aU oU ++ (bX1 cyI aV oV ++ (bX2 cyI aB oB ++ bHS cyI cyO aH oH))))))) C dL_matches_92 (c5n_meeting l D cyI cyO cyJ aX aS aG aL aU aV aB aH n z75.2 oG oL oU oV oB oH z49 z58 z92 h92) (cwV 2 C.ts gL_matches_X5_meeting rfl rfl rfl (by decide +kernel) ⟨Nat.le_of_ble_eq_true rfl, Nat.le_of_ble_eq_true rfl⟩) rfl (q0 := 0) (ci := 5) rfl rfl Frm.self rfl (Nat.le_of_ble_eq_true rfl) ⟨Nat.le_of_ble_eq_true rfl, Nat.le_of_ble_eq_true rfl⟩ rfl ?_
          refine n_iload C dL_matches_95 11 rfl rfl ?_
          refine n_icmp_ne (t := 215) C dL_matches_97 (by decide) rfl (fun h97 => ?_) (fun h97 => ?_)
          · have hf := iq h97 hf
            refine n_iconst (v := (nI 0)) C dL_matches_215 (by decide) rfl ?_
            exact Wn.sub (lv' := [(0, .ref aX), (1, .int v1), (2, .int v2), (3, .int v3), (5, .int v5), (6, .int z31), (7, .int z40), (8, .int z49), (9, .int z58), (10, .int z68), (11, .int z75.1)]) [6, 7, 8, 9, 11, 5, 4, 3, 2, 1, 0] rfl (tL_matches_b216 C n oG oL oU oV oB oH ih hk429 v1 v2 v3 v5 z31 z40 z49 z58 z68 z75.1 (nI 0) z75.2 hf)
          · have hf := ip h97 hf
            refine n_iload C dL_matches_100 5 rfl rfl ?_
            refine n_iconst (v := (-1 : Int32)) C dL_matches_102 (by decide) rfl ?_
            refine n_icmp_ne (t := 110) C dL_matches_103 (by decide) rfl (fun h103 => ?_) (fun h103 => ?_)
            · have hf := iq h103 hf
              refine n_iconst (v := (nI 0)) C dL_matches_110 (by decide) rfl ?_
              refine n_iload C dL_matches_111 4 rfl rfl ?_
              refine n_iconst (v := (-1 : Int32)) C dL_matches_113 (by decide) rfl ?_
              refine n_icmp_ne (t := 121) C dL_matches_114 (by decide) rfl (fun h114 => ?_) (fun h114 => ?_)
              · have hf := iq h114 hf
                refine n_iconst (v := (nI 0)) C dL_matches_121 (by decide) rfl ?_
                exact Wn.sub (lv' := [(0, .ref aX), (1, .int v1), (2, .int v2), (3, .int v3), (5, .int v5), (6, .int z31), (7, .int z40), (8, .int z49), (9, .int z58), (10, .int z68), (11, .int z75.1)]) [6, 7, 8, 9, 11, 5, 4, 3, 2, 1, 0] rfl (tL_matches_b122 C n oG oL oU oV oB oH ih hk429 v1 v2 v3 v5 z31 z40 z49 z58 z68 z75.1 (nI 0) (nI 0) z75.2 hf)
              · have hf := ip h114 hf
                refine n_iconst (v := (nI 1)) C dL_matches_117 (by decide) rfl ?_
                refine n_goto (t := 122) C dL_matches_118 (by decide) ?_
                exact Wn.sub (lv' := [(0, .ref aX), (1, .int v1), (2, .int v2), (3, .int v3), (5, .int v5), (6, .int z31), (7, .int z40), (8, .int z49), (9, .int z58), (10, .int z68), (11, .int z75.1)]) [6, 7, 8, 9, 11, 5, 4, 3, 2, 1, 0] rfl (tL_matches_b122 C n oG oL oU oV oB oH ih hk429 v1 v2 v3 v5 z31 z40 z49 z58 z68 z75.1 (nI 0) (nI 1) z75.2 hf)
            · have hf := ip h103 hf
              refine n_iconst (v := (nI 1)) C dL_matches_106 (by decide) rfl ?_
              refine n_goto (t := 111) C dL_matches_107 (by decide) ?_
              refine n_iload C dL_matches_111 4 rfl rfl ?_
              refine n_iconst (v := (-1 : Int32)) C dL_matches_113 (by decide) rfl ?_
              refine n_icmp_ne (t := 121) C dL_matches_114 (by decide) rfl (fun h114 => ?_) (fun h114 => ?_)
              · have hf := iq h114 hf
                refine n_iconst (v := (nI 0)) C dL_matches_121 (by decide) rfl ?_
                exact Wn.sub (lv' := [(0, .ref aX), (1, .int v1), (2, .int v2), (3, .int v3), (5, .int v5), (6, .int z31), (7, .int z40), (8, .int z49), (9, .int z58), (10, .int z68), (11, .int z75.1)]) [6, 7, 8, 9, 11, 5, 4, 3, 2, 1, 0] rfl (tL_matches_b122 C n oG oL oU oV oB oH ih hk429 v1 v2 v3 v5 z31 z40 z49 z58 z68 z75.1 (nI 1) (nI 0) z75.2 hf)
              · have hf := ip h114 hf
                refine n_iconst (v := (nI 1)) C dL_matches_117 (by decide) rfl ?_
                refine n_goto (t := 122) C dL_matches_118 (by decide) ?_
                exact Wn.sub (lv' := [(0, .ref aX), (1, .int v1), (2, .int v2), (3, .int v3), (5, .int v5), (6, .int z31), (7, .int z40), (8, .int z49), (9, .int z58), (10, .int z68), (11, .int z75.1)]) [6, 7, 8, 9, 11, 5, 4, 3, 2, 1, 0] rfl (tL_matches_b122 C n oG oL oU oV oB oH ih hk429 v1 v2 v3 v5 z31 z40 z49 z58 z68 z75.1 (nI 1) (nI 1) z75.2 hf)
set_option maxHeartbeats 4000000 in
set_option maxRecDepth 100000 in
theorem kL_matches (l : Launch) (D : va_G) (cyI cyO cyJ : ClassId) (aX : Nat) (aS : Nat → Nat) (aG : Nat → Nat) (aL : Nat → Nat) (aU : Nat → Nat) (aV : Nat → Nat) (aB : Nat → Nat) (aH : Nat → Nat) (n : Nat) (oS : OB) (oG : OB) (oL : OB) (oU : OB) (oV : OB) (oB : OB) (oH : HS) (z : Int32 × (OB)) (hf : fL_matches n oS oG oL oU oV oB oH = some z) : Ct l D (tyG cyI cyO cyJ) yL_matches wsL_matches rmL_matches 0 0 [.ref aX] ([(aX, .inr (5, [.ref (aL 0), .ref (aS 0), .ref (aG 0), .ref (aH 0), .ref (aB 0), .ref (aV 0), .ref (aU 0)]))] ++ (bX4 cyI aS oS ++ (bX3 cyI aG oG ++ (bX1 cyI aL oL ++ (bX4 cyI aU oU ++ (bX1 cyI aV oV ++ (bX2 cyI aB oB ++ bHS cyI cyO aH oH))))))) ([(aX, .inr (5, [.ref (aL 0), .ref (aS 0), .ref (aG 0), .ref (aH 0), .ref (aB 0), .ref (aV 0), .ref (aU 0)]))] ++ (bX4 cyI aS z.2 ++ (bX3 cyI aG oG ++ (bX1 cyI aL oL ++ (bX4 cyI aU oU ++ (bX1 cyI aV oV ++ (bX2 cyI aB oB ++ bHS cyI cyO aH oH))))))) (some (.int z.1)) := by
  refine Ct.of (cc := cL_matches) (nL := 12) (ret := (some .boolean)) (lv := [(0, .ref aX)]) (by decide +kernel) rfl rfl (Nat.le_of_ble_eq_true rfl) ?_
  intro p e s m args below meth c A C
  have C : Cx p s m args meth c D (tyG cyI cyO cyJ) A RL cL_matches 12 (some .boolean) wsL_matches := C
  unfold fL_matches at hf
  refine n_iconst (v := (nI 0)) C dL_matches_0 (by decide) rfl ?_
  refine n_istore_n (lv' := [(1, .int (nI 0)), (0, .ref aX)]) C dL_matches_1 (by decide) rfl rfl ?_
  refine n_iconst (v := (nI 0)) C dL_matches_2 (by decide) rfl ?_
  refine n_istore_n (lv' := [(2, .int (nI 0)), (1, .int (nI 0)), (0, .ref aX)]) C dL_matches_3 (by decide) rfl rfl ?_
  refine n_iconst (v := (nI 0)) C dL_matches_4 (by decide) rfl ?_
  refine n_istore_n (lv' := [(3, .int (nI 0)), (2, .int (nI 0)), (1, .int (nI 0)), (0, .ref aX)]) C dL_matches_5 (by decide) rfl rfl ?_
  refine n_iconst (v := (nI 1)) C dL_matches_6 (by decide) rfl ?_
  refine n_istore (lv' := [(4, .int (nI 1)), (3, .int (nI 0)), (2, .int (nI 0)), (1, .int (nI 0)), (0, .ref aX)]) C dL_matches_7 (by decide) rfl rfl ?_
  refine n_iconst (v := (nI 0)) C dL_matches_9 (by decide) rfl ?_
  refine n_istore (lv' := [(5, .int (nI 0)), (4, .int (nI 1)), (3, .int (nI 0)), (2, .int (nI 0)), (1, .int (nI 0)), (0, .ref aX)]) C dL_matches_10 (by decide) rfl rfl ?_
  exact Wn.sub (lv' := [(0, .ref aX), (1, .int (nI 0)), (2, .int (nI 0)), (3, .int (nI 0)), (4, .int (nI 1)), (5, .int (nI 0))]) [5, 4, 3, 2, 1, 0] rfl (tL_matches_b12 C n oG oL oU oV oB oH (fun v1 v2 v3 v4 oS hf => Wn.sub (lv' := [(0, .ref aX), (1, .int v1), (2, .int v2), (3, .int v3), (4, .int v4)]) [0, 1, 2, 3, 4] rfl (tL_matches_b429 C n oG oL oU oV oB oH v1 v2 v3 v4 oS hf)) n (nI 0) (nI 0) (nI 0) (nI 1) (nI 0) oS hf)
-- L teams 
abbrev rmL_teams : Room := { frames := 6, cells := 0, slots := 0, locals := 134 }
def fL_teams_b319 (n : Nat) (oG : OB) (oL : OB) (oB : OB) (oH : HS) (v1 : Int32) (v2 : Int32) (v3 : Int32) (v4 : Int32) (v5 : Int32) (v6 : Int32) (v7 : Int32) (v8 : Int32) (v9 : Int32) (oS : OB) (oU : OB) (oV : OB) : Option (Int32 × (OB) × (OB) × (OB)) :=
  (if v9 = (0 : Int32) then some ((nI 0), oS, oU, oV) else (if v2 = (((nI 1) <<< (v1 &&& 31)) - (nI 1)) then (if v3 = v4 then (f5n_count n oS oG oL oU oV oB oH (nI 6)).bind fun z344 => (if v5 = z344.1 then (f5n_count n z344.2 oG oL oU oV oB oH (nI 4)).bind fun z355 => (if v6 = ((nI 2) * z355.1) then (f5n_count n z355.2 oG oL oU oV oB oH (nI 5)).bind fun z366 => (if v7 = z366.1 then (if (nI 2) ≤ v8 then some ((nI 0), z366.2, oU, oV) else (f5_closeness n z366.2 oG oL oU oV oB oH).bind fun z379 => (if (0 : Int32) < (Op.cmpValue (FP.dcmp z379.1 FP.dconst1) .g) then some ((nI 0), z379.2, oU, oV) else some ((nI 1), z379.2, oU, oV))) else some ((nI 0), z366.2, oU, oV)) else some ((nI 0), z355.2, oU, oV)) else some ((nI 0), z344.2, oU, oV)) else some ((nI 0), oS, oU, oV)) else some ((nI 0), oS, oU, oV)))
def fL_teams_b268 (n : Nat) (oG : OB) (oL : OB) (oB : OB) (oH : HS) (k319 : Int32 → Int32 → Int32 → Int32 → Int32 → Int32 → Int32 → Int32 → Int32 → OB → OB → OB → Option (Int32 × (OB) × (OB) × (OB))) : Nat → Int32 → Int32 → Int32 → Int32 → Int32 → Int32 → Int32 → Int32 → Int32 → Int32 → OB → OB → OB → Option (Int32 × (OB) × (OB) × (OB))
  | 0, _, _, _, _, _, _, _, _, _, _, _, _, _ => none
  | k + 1, v1, v2, v3, v4, v5, v6, v7, v8, v9, v10, oS, oU, oV =>
    (if v1 ≤ v10 then k319 v1 v2 v3 v4 v5 v6 v7 v8 v9 oS oU oV else (if v9 = (0 : Int32) then k319 v1 v2 v3 v4 v5 v6 v7 v8 v9 oS oU oV else (f5n_table n oS oG oL oU oV oB oH (v10 - (nI 1))).bind fun z285 => (f5n_team n z285.2 oG oL oU oV oB oH z285.1 (nI 0)).bind fun z289 => (f5n_table n z289.2 oG oL oU oV oB oH v10).bind fun z296 => (f5n_team n z296.2 oG oL oU oV oB oH z296.1 (nI 0)).bind fun z300 => (if z289.1 < z300.1 then (fL_teams_b268 n oG oL oB oH k319 k) v1 v2 v3 v4 v5 v6 v7 v8 (nI 0) (v10 + (nI 1)) z300.2 oU oV else (fL_teams_b268 n oG oL oB oH k319 k) v1 v2 v3 v4 v5 v6 v7 v8 (nI 1) (v10 + (nI 1)) z300.2 oU oV)))
def fL_teams_b265 (n : Nat) (oG : OB) (oL : OB) (oB : OB) (oH : HS) (v1 : Int32) (v2 : Int32) (v3 : Int32) (v4 : Int32) (v5 : Int32) (v6 : Int32) (v7 : Int32) (v8 : Int32) (v9 : Int32) (oS : OB) (oU : OB) (oV : OB) : Option (Int32 × (OB) × (OB) × (OB)) :=
  fL_teams_b268 n oG oL oB oH (fun v1 v2 v3 v4 v5 v6 v7 v8 v9 oS oU oV => fL_teams_b319 n oG oL oB oH v1 v2 v3 v4 v5 v6 v7 v8 v9 oS oU oV) n v1 v2 v3 v4 v5 v6 v7 v8 v9 (nI 1) oS oU oV
def fL_teams_b31 (n : Nat) (oG : OB) (oL : OB) (oB : OB) (oH : HS) (k265 : Int32 → Int32 → Int32 → Int32 → Int32 → Int32 → Int32 → Int32 → Int32 → OB → OB → OB → Option (Int32 × (OB) × (OB) × (OB))) : Nat → Int32 → Int32 → Int32 → Int32 → Int32 → Int32 → Int32 → Int32 → Int32 → Int32 → OB → OB → OB → Option (Int32 × (OB) × (OB) × (OB))
  | 0, _, _, _, _, _, _, _, _, _, _, _, _, _ => none
  | k + 1, v1, v2, v3, v4, v5, v6, v7, v8, v9, v10, oS, oU, oV =>
    (if v1 ≤ v10 then k265 v1 v2 v3 v4 v5 v6 v7 v8 v9 oS oU oV else (if v9 = (0 : Int32) then k265 v1 v2 v3 v4 v5 v6 v7 v8 v9 oS oU oV else (f5n_team n oS oG oL oU oV oB oH v10 (nI 7)).bind fun z49 => (f5n_team n z49.2 oG oL oU oV oB oH v10 (nI 4)).bind fun z60 => (f5n_team n z60.2 oG oL oU oV oB oH v10 (nI 5)).bind fun z71 => (f5n_team n z71.2 oG oL oU oV oB oH v10 (nI 0)).bind fun z83 => (f5n_team n z83.2 oG oL oU oV oB oH v10 (nI 1)).bind fun z95 => (f5n_team n z95.2 oG oL oU oV oB oH v10 (nI 6)).bind fun z108 => (f5n_isSure n z108.2 oG oL oU oV oB oH v10).bind fun z119 => (f5n_team n z119.2 oG oL oU oV oB oH v10 (nI 1)).bind fun z129 => (f5n_team n z129.2 oG oL oU oV oB oH v10 (nI 8)).bind fun z137 => (if (z129.1 + z137.1) = (v1 - (nI 1)) then (f5n_team n z137.2 oG oL oU oV oB oH v10 (nI 7)).bind fun z153 => (f5n_table n z153.2 oG oL oU oV oB oH z153.1).bind fun z156 => (if z156.1 = v10 then (f5n_bestPlace n z156.2 oG oL oU oV oB oH v10).bind fun z167 => (f5n_team n z156.2 oG oL z167.2.1 z167.2.2 oB oH v10 (nI 7)).bind fun z175 => (if z175.1 < z167.1 then (fL_teams_b31 n oG oL oB oH k265 k) v1 (v2 ||| ((nI 1) <<< (z49.1 &&& 31))) (v3 + z60.1) (v4 + z71.1) (v5 + z83.1) (v6 + z95.1) (v7 + z108.1) (v8 + z119.1) (nI 0) (v10 + (nI 1)) z175.2 z167.2.1 z167.2.2 else (f5n_team n z175.2 oG oL z167.2.1 z167.2.2 oB oH v10 (nI 2)).bind fun z185 => (f5n_team n z185.2 oG oL z167.2.1 z167.2.2 oB oH v10 (nI 3)).bind fun z192 => (f5n_team n z192.2 oG oL z167.2.1 z167.2.2 oB oH v10 (nI 1)).bind fun z200 => (if z200.1 < (z185.1 + z192.1) then (fL_teams_b31 n oG oL oB oH k265 k) v1 (v2 ||| ((nI 1) <<< (z49.1 &&& 31))) (v3 + z60.1) (v4 + z71.1) (v5 + z83.1) (v6 + z95.1) (v7 + z108.1) (v8 + z119.1) (nI 0) (v10 + (nI 1)) z200.2 z167.2.1 z167.2.2 else (f5n_team n z200.2 oG oL z167.2.1 z167.2.2 oB oH v10 (nI 0)).bind fun z210 => (f5n_setting n z210.2 oG oL z167.2.1 z167.2.2 oB oH (nI 0)).bind fun z215 => (f5n_team n z210.2 oG oL z167.2.1 z167.2.2 oB oH v10 (nI 2)).bind fun z222 => (f5n_setting n z222.2 oG oL z167.2.1 z167.2.2 oB oH (nI 1)).bind fun z228 => (f5n_team n z222.2 oG oL z167.2.1 z167.2.2 oB oH v10 (nI 3)).bind fun z235 => (f5n_team n z235.2 oG oL z167.2.1 z167.2.2 oB oH v10 (nI 6)).bind fun z245 => (if z210.1 = (((z215 * z222.1) + (z228 * z235.1)) - z245.1) then (fL_teams_b31 n oG oL oB oH k265 k) v1 (v2 ||| ((nI 1) <<< (z49.1 &&& 31))) (v3 + z60.1) (v4 + z71.1) (v5 + z83.1) (v6 + z95.1) (v7 + z108.1) (v8 + z119.1) (nI 1) (v10 + (nI 1)) z245.2 z167.2.1 z167.2.2 else (fL_teams_b31 n oG oL oB oH k265 k) v1 (v2 ||| ((nI 1) <<< (z49.1 &&& 31))) (v3 + z60.1) (v4 + z71.1) (v5 + z83.1) (v6 + z95.1) (v7 + z108.1) (v8 + z119.1) (nI 0) (v10 + (nI 1)) z245.2 z167.2.1 z167.2.2))) else (fL_teams_b31 n oG oL oB oH k265 k) v1 (v2 ||| ((nI 1) <<< (z49.1 &&& 31))) (v3 + z60.1) (v4 + z71.1) (v5 + z83.1) (v6 + z95.1) (v7 + z108.1) (v8 + z119.1) (nI 0) (v10 + (nI 1)) z156.2 oU oV) else (fL_teams_b31 n oG oL oB oH k265 k) v1 (v2 ||| ((nI 1) <<< (z49.1 &&& 31))) (v3 + z60.1) (v4 + z71.1) (v5 + z83.1) (v6 + z95.1) (v7 + z108.1) (v8 + z119.1) (nI 0) (v10 + (nI 1)) z137.2 oU oV)))
def fL_teams (n : Nat) (oS : OB) (oG : OB) (oL : OB) (oU : OB) (oV : OB) (oB : OB) (oH : HS) : Option (Int32 × (OB) × (OB) × (OB)) :=
  (f5n_count n oS oG oL oU oV oB oH (nI 0)).bind fun z2 => fL_teams_b31 n oG oL oB oH (fun v1 v2 v3 v4 v5 v6 v7 v8 v9 oS oU oV => fL_teams_b265 n oG oL oB oH v1 v2 v3 v4 v5 v6 v7 v8 v9 oS oU oV) n z2.1 (nI 0) (nI 0) (nI 0) (nI 0) (nI 0) (nI 0) (nI 0) (nI 1) (nI 0) z2.2 oU oV
set_option maxHeartbeats 4000000 in
set_option maxRecDepth 100000 in
theorem tL_teams_b319 {l : Launch} {p : Program} {e : Env} {s : State} {m : MethodId} {args : Array Value} {below : List Frame} {meth : Method} {c : Code} {D : va_G} {A : Nat → Prop} {cyI cyO cyJ : ClassId} {aX : Nat} {aS : Nat → Nat} {aG : Nat → Nat} {aL : Nat → Nat} {aU : Nat → Nat} {aV : Nat → Nat} {aB : Nat → Nat} {aH : Nat → Nat} (C : Cx p s m args meth c D (tyG cyI cyO cyJ) A RL cL_teams 11 (some .boolean) wsL_teams) {z : Int32 × (OB) × (OB) × (OB)} (n : Nat) (oG : OB) (oL : OB) (oB : OB) (oH : HS) (v1 : Int32) (v2 : Int32) (v3 : Int32) (v4 : Int32) (v5 : Int32) (v6 : Int32) (v7 : Int32) (v8 : Int32) (v9 : Int32) (oS : OB) (oU : OB) (oV : OB) (hf : fL_teams_b319 n oG oL oB oH v1 v2 v3 v4 v5 v6 v7 v8 v9 oS oU oV = some z) : Wn p l e rmL_teams s m args below meth c D A 11 0 0 (MQ below (Qr D (tyG cyI cyO cyJ) ([(aX, .inr (5, [.ref (aL 0), .ref (aS 0), .ref (aG 0), .ref (aH 0), .ref (aB 0), .ref (aV 0), .ref (aU 0)]))] ++ (bX4 cyI aS z.2.1 ++ (bX3 cyI aG oG ++ (bX1 cyI aL oL ++ (bX4 cyI aU z.2.2.1 ++ (bX1 cyI aV z.2.2.2 ++ (bX2 cyI aB oB ++ bHS cyI cyO aH oH))))))) A (some (.int z.1))) args s 0 0 A) ([(aX, .inr (5, [.ref (aL 0), .ref (aS 0), .ref (aG 0), .ref (aH 0), .ref (aB 0), .ref (aV 0), .ref (aU 0)]))] ++ (bX4 cyI aS oS ++ (bX3 cyI aG oG ++ (bX1 cyI aL oL ++ (bX4 cyI aU oU ++ (bX1 cyI aV oV ++ (bX2 cyI aB oB ++ bHS cyI cyO aH oH))))))) 319 [(0, .ref aX), (1, .int v1), (2, .int v2), (3, .int v3), (4, .int v4), (5, .int v5), (6, .int v6), (7, .int v7), (8, .int v8), (9, .int v9)] [] := by
  unfold fL_teams_b319 at hf
  refine n_iload C dL_teams_319 9 rfl rfl ?_
  refine n_if_eq (t := 391) C dL_teams_321 (by decide) rfl (fun h321 => ?_) (fun h321 => ?_)
  · have hf := ip h321 hf
    refine n_iconst (v := (nI 0)) C dL_teams_391 (by decide) rfl ?_
    obtain rfl := Option.some.inj hf
    exact n_zret C dL_teams_392 (Or.inl rfl)
  · have hf := iq h321 hf
    refine n_iload_n C dL_teams_324 2 rfl rfl ?_
    refine n_iconst (v := (nI 1)) C dL_teams_325 (by decide) rfl ?_
    refine n_iload_n C dL_teams_326 1 rfl rfl ?_
    refine n_ishl C dL_teams_327 rfl ?_
    refine n_iconst (v := (nI 1)) C dL_teams_328 (by decide) rfl ?_
    refine n_isub C dL_teams_329 rfl ?_
    refine n_icmp_ne (t := 391) C dL_teams_330 (by decide) rfl (fun h330 => ?_) (fun h330 => ?_)
    · have hf := iq h330 hf
      refine n_iconst (v := (nI 0)) C dL_teams_391 (by decide) rfl ?_
      obtain rfl := Option.some.inj hf
      exact n_zret C dL_teams_392 (Or.inl rfl)
    · have hf := ip h330 hf
      refine n_iload_n C dL_teams_333 3 rfl rfl ?_
      refine n_iload C dL_teams_334 4 rfl rfl ?_
      refine n_icmp_ne (t := 391) C dL_teams_336 (by decide) rfl (fun h336 => ?_) (fun h336 => ?_)
      · have hf := iq h336 hf
        refine n_iconst (v := (nI 0)) C dL_teams_391 (by decide) rfl ?_
        obtain rfl := Option.some.inj hf
        exact n_zret C dL_teams_392 (Or.inl rfl)
      · have hf := ip h336 hf
        refine n_iload C dL_teams_339 5 rfl rfl ?_
        refine n_aload_n C dL_teams_341 0 rfl rfl ?_
        refine n_bipush (v := (nI 6)) C dL_teams_342 (by decide) rfl ?_
        obtain ⟨z344, h344, hf⟩ := bi hf
        refine n_callV (As := [.int (nI 6)]) (rest := [.int v5]) (w2 := [(aX, .inr (5, [.ref (aL 0), .ref (aS 0), .ref (aG 0), .ref (aH 0), .ref (aB 0), .ref (aV 0), .ref (aU 0)]))] ++ (bX4 cyI aS z344.2 ++ (bX3 cyI aG oG ++ (bX1 cyI aL oL ++ (bX4 cyI aU oU ++ (bX1 cyI aV oV ++ (bX2 cyI aB oB ++ bHS cyI cyO aH oH))))))) C dL_teams_344 (c5n_count l D cyI cyO cyJ aX aS aG aL aU aV aB aH n oS oG oL oU oV oB oH (nI 6) z344 h344) (cwV 1 C.ts gL_teams_X5_count rfl rfl rfl (by decide +kernel) ⟨Nat.le_of_ble_eq_true rfl, Nat.le_of_ble_eq_true rfl⟩) rfl (q0 := 0) (ci := 5) rfl rfl Frm.self rfl (Nat.le_of_ble_eq_true rfl) ⟨Nat.le_of_ble_eq_true rfl, Nat.le_of_ble_eq_true rfl⟩ rfl ?_
        refine n_icmp_ne (t := 391) C dL_teams_347 (by decide) rfl (fun h347 => ?_) (fun h347 => ?_)
        · have hf := iq h347 hf
          refine n_iconst (v := (nI 0)) C dL_teams_391 (by decide) rfl ?_
          obtain rfl := Option.some.inj hf
          exact n_zret C dL_teams_392 (Or.inl rfl)
        · have hf := ip h347 hf
          refine n_iload C dL_teams_350 6 rfl rfl ?_
          refine n_iconst (v := (nI 2)) C dL_teams_352 (by decide) rfl ?_
          refine n_aload_n C dL_teams_353 0 rfl rfl ?_
          refine n_iconst (v := (nI 4)) C dL_teams_354 (by decide) rfl ?_
          obtain ⟨z355, h355, hf⟩ := bi hf
          refine n_callV (As := [.int (nI 4)]) (rest := [.int (nI 2), .int v6]) (w2 := [(aX, .inr (5, [.ref (aL 0), .ref (aS 0), .ref (aG 0), .ref (aH 0), .ref (aB 0), .ref (aV 0), .ref (aU 0)]))] ++ (bX4 cyI aS z355.2 ++ (bX3 cyI aG oG ++ (bX1 cyI aL oL ++ (bX4 cyI aU oU ++ (bX1 cyI aV oV ++ (bX2 cyI aB oB ++ bHS cyI cyO aH oH))))))) C dL_teams_355 (c5n_count l D cyI cyO cyJ aX aS aG aL aU aV aB aH n z344.2 oG oL oU oV oB oH (nI 4) z355 h355) (cwV 1 C.ts gL_teams_X5_count rfl rfl rfl (by decide +kernel) ⟨Nat.le_of_ble_eq_true rfl, Nat.le_of_ble_eq_true rfl⟩) rfl (q0 := 0) (ci := 5) rfl rfl Frm.self rfl (Nat.le_of_ble_eq_true rfl) ⟨Nat.le_of_ble_eq_true rfl, Nat.le_of_ble_eq_true rfl⟩ rfl ?_
          refine n_imul C dL_teams_358 rfl ?_
          refine n_icmp_ne (t := 391) C dL_teams_359 (by decide) rfl (fun h359 => ?_) (fun h359 => ?_)
          · have hf := iq h359 hf
            refine n_iconst (v := (nI 0)) C dL_teams_391 (by decide) rfl ?_
            obtain rfl := Option.some.inj hf
            exact n_zret C dL_teams_392 (Or.inl rfl)
          · have hf := ip h359 hf
            refine n_iload C dL_teams_362 7 rfl rfl ?_
            refine n_aload_n C dL_teams_364 0 rfl rfl ?_
            refine n_iconst (v := (nI 5)) C dL_teams_365 (by decide) rfl ?_
            obtain ⟨z366, h366, hf⟩ := bi hf
            refine n_callV (As := [.int (nI 5)]) (rest := [.int v7]) (w2 := [(aX, .inr (5, [.ref (aL 0), .ref (aS 0), .ref (aG 0), .ref (aH 0), .ref (aB 0), .ref (aV 0), .ref (aU 0)]))] ++ (bX4 cyI aS z366.2 ++ (bX3 cyI aG oG ++ (bX1 cyI aL oL ++ (bX4 cyI aU oU ++ (bX1 cyI aV oV ++ (bX2 cyI aB oB ++ bHS cyI cyO aH oH))))))) C dL_teams_366 (c5n_count l D cyI cyO cyJ aX aS aG aL aU aV aB aH n z355.2 oG oL oU oV oB oH (nI 5) z366 h366) (cwV 1 C.ts gL_teams_X5_count rfl rfl rfl (by decide +kernel) ⟨Nat.le_of_ble_eq_true rfl, Nat.le_of_ble_eq_true rfl⟩) rfl (q0 := 0) (ci := 5) rfl rfl Frm.self rfl (Nat.le_of_ble_eq_true rfl) ⟨Nat.le_of_ble_eq_true rfl, Nat.le_of_ble_eq_true rfl⟩ rfl ?_
            refine n_icmp_ne (t := 391) C dL_teams_369 (by decide) rfl (fun h369 => ?_) (fun h369 => ?_)
            · have hf := iq h369 hf
              refine n_iconst (v := (nI 0)) C dL_teams_391 (by decide) rfl ?_
              obtain rfl := Option.some.inj hf
              exact n_zret C dL_teams_392 (Or.inl rfl)
            · have hf := ip h369 hf
              refine n_iload C dL_teams_372 8 rfl rfl ?_
              refine n_iconst (v := (nI 2)) C dL_teams_374 (by decide) rfl ?_
              refine n_icmp_ge (t := 391) C dL_teams_375 (by decide) rfl (fun h375 => ?_) (fun h375 => ?_)
              · have hf := ip h375 hf
                refine n_iconst (v := (nI 0)) C dL_teams_391 (by decide) rfl ?_
                obtain rfl := Option.some.inj hf
                exact n_zret C dL_teams_392 (Or.inl rfl)
              · have hf := iq h375 hf
                refine n_aload_n C dL_teams_378 0 rfl rfl ?_
                obtain ⟨z379, h379, hf⟩ := bi hf
                refine n_callV (As := []) (rest := []) (w2 := [(aX, .inr (5, [.ref (aL 0), .ref (aS 0), .ref (aG 0), .ref (aH 0), .ref (aB 0), .ref (aV 0), .ref (aU 0)]))] ++ (bX4 cyI aS z379.2 ++ (bX3 cyI aG oG ++ (bX1 cyI aL oL ++ (bX4 cyI aU oU ++ (bX1 cyI aV oV ++ (bX2 cyI aB oB ++ bHS cyI cyO aH oH))))))) C dL_teams_379 (c5_closeness l D cyI cyO cyJ aX aS aG aL aU aV aB aH n z366.2 oG oL oU oV oB oH z379 h379) (cwV 0 C.ts gL_teams_X5_closeness rfl rfl rfl (by decide +kernel) ⟨Nat.le_of_ble_eq_true rfl, Nat.le_of_ble_eq_true rfl⟩) rfl (q0 := 0) (ci := 5) rfl rfl Frm.self rfl (Nat.le_of_ble_eq_true rfl) ⟨Nat.le_of_ble_eq_true rfl, Nat.le_of_ble_eq_true rfl⟩ rfl ?_
                refine n_dconst1 C dL_teams_382 rfl ?_
                refine n_dcmp C dL_teams_383 rfl ?_
                refine n_if_gt (t := 391) C dL_teams_384 (by decide) rfl (fun h384 => ?_) (fun h384 => ?_)
                · have hf := ip h384 hf
                  refine n_iconst (v := (nI 0)) C dL_teams_391 (by decide) rfl ?_
                  obtain rfl := Option.some.inj hf
                  exact n_zret C dL_teams_392 (Or.inl rfl)
                · have hf := iq h384 hf
                  refine n_iconst (v := (nI 1)) C dL_teams_387 (by decide) rfl ?_
                  refine n_goto (t := 392) C dL_teams_388 (by decide) ?_
                  obtain rfl := Option.some.inj hf
                  exact n_zret C dL_teams_392 (Or.inr rfl)
set_option maxHeartbeats 4000000 in
set_option maxRecDepth 100000 in
theorem tL_teams_b268 {l : Launch} {p : Program} {e : Env} {s : State} {m : MethodId} {args : Array Value} {below : List Frame} {meth : Method} {c : Code} {D : va_G} {A : Nat → Prop} {cyI cyO cyJ : ClassId} {aX : Nat} {aS : Nat → Nat} {aG : Nat → Nat} {aL : Nat → Nat} {aU : Nat → Nat} {aV : Nat → Nat} {aB : Nat → Nat} {aH : Nat → Nat} (C : Cx p s m args meth c D (tyG cyI cyO cyJ) A RL cL_teams 11 (some .boolean) wsL_teams) {z : Int32 × (OB) × (OB) × (OB)} (n : Nat) (oG : OB) (oL : OB) (oB : OB) (oH : HS) {k319 : Int32 → Int32 → Int32 → Int32 → Int32 → Int32 → Int32 → Int32 → Int32 → OB → OB → OB → Option (Int32 × (OB) × (OB) × (OB))} (hk319 : ∀ (v1 : Int32) (v2 : Int32) (v3 : Int32) (v4 : Int32) (v5 : Int32) (v6 : Int32) (v7 : Int32) (v8 : Int32) (v9 : Int32) (oS : OB) (oU : OB) (oV : OB), k319 v1 v2 v3 v4 v5 v6 v7 v8 v9 oS oU oV = some z → Wn p l e rmL_teams s m args below meth c D A 11 0 0 (MQ below (Qr D (tyG cyI cyO cyJ) ([(aX, .inr (5, [.ref (aL 0), .ref (aS 0), .ref (aG 0), .ref (aH 0), .ref (aB 0), .ref (aV 0), .ref (aU 0)]))] ++ (bX4 cyI aS z.2.1 ++ (bX3 cyI aG oG ++ (bX1 cyI aL oL ++ (bX4 cyI aU z.2.2.1 ++ (bX1 cyI aV z.2.2.2 ++ (bX2 cyI aB oB ++ bHS cyI cyO aH oH))))))) A (some (.int z.1))) args s 0 0 A) ([(aX, .inr (5, [.ref (aL 0), .ref (aS 0), .ref (aG 0), .ref (aH 0), .ref (aB 0), .ref (aV 0), .ref (aU 0)]))] ++ (bX4 cyI aS oS ++ (bX3 cyI aG oG ++ (bX1 cyI aL oL ++ (bX4 cyI aU oU ++ (bX1 cyI aV oV ++ (bX2 cyI aB oB ++ bHS cyI cyO aH oH))))))) 319 [(0, .ref aX), (1, .int v1), (2, .int v2), (3, .int v3), (4, .int v4), (5, .int v5), (6, .int v6), (7, .int v7), (8, .int v8), (9, .int v9)] []) : ∀ (k : Nat) (v1 : Int32) (v2 : Int32) (v3 : Int32) (v4 : Int32) (v5 : Int32) (v6 : Int32) (v7 : Int32) (v8 : Int32) (v9 : Int32) (v10 : Int32) (oS : OB) (oU : OB) (oV : OB), fL_teams_b268 n oG oL oB oH k319 k v1 v2 v3 v4 v5 v6 v7 v8 v9 v10 oS oU oV = some z → Wn p l e rmL_teams s m args below meth c D A 11 0 0 (MQ below (Qr D (tyG cyI cyO cyJ) ([(aX, .inr (5, [.ref (aL 0), .ref (aS 0), .ref (aG 0), .ref (aH 0), .ref (aB 0), .ref (aV 0), .ref (aU 0)]))] ++ (bX4 cyI aS z.2.1 ++ (bX3 cyI aG oG ++ (bX1 cyI aL oL ++ (bX4 cyI aU z.2.2.1 ++ (bX1 cyI aV z.2.2.2 ++ (bX2 cyI aB oB ++ bHS cyI cyO aH oH))))))) A (some (.int z.1))) args s 0 0 A) ([(aX, .inr (5, [.ref (aL 0), .ref (aS 0), .ref (aG 0), .ref (aH 0), .ref (aB 0), .ref (aV 0), .ref (aU 0)]))] ++ (bX4 cyI aS oS ++ (bX3 cyI aG oG ++ (bX1 cyI aL oL ++ (bX4 cyI aU oU ++ (bX1 cyI aV oV ++ (bX2 cyI aB oB ++ bHS cyI cyO aH oH))))))) 268 [(0, .ref aX), (1, .int v1), (2, .int v2), (3, .int v3), (4, .int v4), (5, .int v5), (6, .int v6), (7, .int v7), (8, .int v8), (9, .int v9), (10, .int v10)] [] := by
  intro k
  induction k with
  | zero => intro  v1 v2 v3 v4 v5 v6 v7 v8 v9 v10 oS oU oV hf; cases hf
  | succ k ih =>
    intro  v1 v2 v3 v4 v5 v6 v7 v8 v9 v10 oS oU oV hf
    unfold fL_teams_b268 at hf
    refine n_iload C dL_teams_268 10 rfl rfl ?_
    refine n_iload_n C dL_teams_270 1 rfl rfl ?_
    refine n_icmp_ge (t := 319) C dL_teams_271 (by decide) rfl (fun h271 => ?_) (fun h271 => ?_)
    · have hf := ip h271 hf
      exact Wn.sub (lv' := [(0, .ref aX), (1, .int v1), (2, .int v2), (3, .int v3), (4, .int v4), (5, .int v5), (6, .int v6), (7, .int v7), (8, .int v8), (9, .int v9)]) [0, 1, 2, 3, 4, 5, 6, 7, 8, 9] rfl (hk319 v1 v2 v3 v4 v5 v6 v7 v8 v9 oS oU oV hf)
    · have hf := iq h271 hf
      refine n_iload C dL_teams_274 9 rfl rfl ?_
      refine n_if_eq (t := 319) C dL_teams_276 (by decide) rfl (fun h276 => ?_) (fun h276 => ?_)
      · have hf := ip h276 hf
        exact Wn.sub (lv' := [(0, .ref aX), (1, .int v1), (2, .int v2), (3, .int v3), (4, .int v4), (5, .int v5), (6, .int v6), (7, .int v7), (8, .int v8), (9, .int v9)]) [0, 1, 2, 3, 4, 5, 6, 7, 8, 9] rfl (hk319 v1 v2 v3 v4 v5 v6 v7 v8 v9 oS oU oV hf)
      · have hf := iq h276 hf
        refine n_aload_n C dL_teams_279 0 rfl rfl ?_
        refine n_aload_n C dL_teams_280 0 rfl rfl ?_
        refine n_iload C dL_teams_281 10 rfl rfl ?_
        refine n_iconst (v := (nI 1)) C dL_teams_283 (by decide) rfl ?_
        refine n_isub C dL_teams_284 rfl ?_
        obtain ⟨z285, h285, hf⟩ := bi hf
        refine n_callV (As := [.int (v10 - (nI 1))]) (rest := [.ref aX]) (w2 := [(aX, .inr (5, [.ref (aL 0), .ref (aS 0), .ref (aG 0), .ref (aH 0), .ref (aB 0), .ref (aV 0), .ref (aU 0)]))] ++ (bX4 cyI aS z285.2 ++ (bX3 cyI aG oG ++ (bX1 cyI aL oL ++ (bX4 cyI aU oU ++ (bX1 cyI aV oV ++ (bX2 cyI aB oB ++ bHS cyI cyO aH oH))))))) C dL_teams_285 (c5n_table l D cyI cyO cyJ aX aS aG aL aU aV aB aH n oS oG oL oU oV oB oH (v10 - (nI 1)) z285 h285) (cwV 1 C.ts gL_teams_X5_table rfl rfl rfl (by decide +kernel) ⟨Nat.le_of_ble_eq_true rfl, Nat.le_of_ble_eq_true rfl⟩) rfl (q0 := 0) (ci := 5) rfl rfl Frm.self rfl (Nat.le_of_ble_eq_true rfl) ⟨Nat.le_of_ble_eq_true rfl, Nat.le_of_ble_eq_true rfl⟩ rfl ?_
        refine n_iconst (v := (nI 0)) C dL_teams_288 (by decide) rfl ?_
        obtain ⟨z289, h289, hf⟩ := bi hf
        refine n_callV (As := [.int z285.1, .int (nI 0)]) (rest := []) (w2 := [(aX, .inr (5, [.ref (aL 0), .ref (aS 0), .ref (aG 0), .ref (aH 0), .ref (aB 0), .ref (aV 0), .ref (aU 0)]))] ++ (bX4 cyI aS z289.2 ++ (bX3 cyI aG oG ++ (bX1 cyI aL oL ++ (bX4 cyI aU oU ++ (bX1 cyI aV oV ++ (bX2 cyI aB oB ++ bHS cyI cyO aH oH))))))) C dL_teams_289 (c5n_team l D cyI cyO cyJ aX aS aG aL aU aV aB aH n z285.2 oG oL oU oV oB oH z285.1 (nI 0) z289 h289) (cwV 2 C.ts gL_teams_X5_team rfl rfl rfl (by decide +kernel) ⟨Nat.le_of_ble_eq_true rfl, Nat.le_of_ble_eq_true rfl⟩) rfl (q0 := 0) (ci := 5) rfl rfl Frm.self rfl (Nat.le_of_ble_eq_true rfl) ⟨Nat.le_of_ble_eq_true rfl, Nat.le_of_ble_eq_true rfl⟩ rfl ?_
        refine n_aload_n C dL_teams_292 0 rfl rfl ?_
        refine n_aload_n C dL_teams_293 0 rfl rfl ?_
        refine n_iload C dL_teams_294 10 rfl rfl ?_
        obtain ⟨z296, h296, hf⟩ := bi hf
        refine n_callV (As := [.int v10]) (rest := [.ref aX, .int z289.1]) (w2 := [(aX, .inr (5, [.ref (aL 0), .ref (aS 0), .ref (aG 0), .ref (aH 0), .ref (aB 0), .ref (aV 0), .ref (aU 0)]))] ++ (bX4 cyI aS z296.2 ++ (bX3 cyI aG oG ++ (bX1 cyI aL oL ++ (bX4 cyI aU oU ++ (bX1 cyI aV oV ++ (bX2 cyI aB oB ++ bHS cyI cyO aH oH))))))) C dL_teams_296 (c5n_table l D cyI cyO cyJ aX aS aG aL aU aV aB aH n z289.2 oG oL oU oV oB oH v10 z296 h296) (cwV 1 C.ts gL_teams_X5_table rfl rfl rfl (by decide +kernel) ⟨Nat.le_of_ble_eq_true rfl, Nat.le_of_ble_eq_true rfl⟩) rfl (q0 := 0) (ci := 5) rfl rfl Frm.self rfl (Nat.le_of_ble_eq_true rfl) ⟨Nat.le_of_ble_eq_true rfl, Nat.le_of_ble_eq_true rfl⟩ rfl ?_
        refine n_iconst (v := (nI 0)) C dL_teams_299 (by decide) rfl ?_
        obtain ⟨z300, h300, hf⟩ := bi hf
        refine n_callV (As := [.int z296.1, .int (nI 0)]) (rest := [.int z289.1]) (w2 := [(aX, .inr (5, [.ref (aL 0), .ref (aS 0), .ref (aG 0), .ref (aH 0), .ref (aB 0), .ref (aV 0), .ref (aU 0)]))] ++ (bX4 cyI aS z300.2 ++ (bX3 cyI aG oG ++ (bX1 cyI aL oL ++ (bX4 cyI aU oU ++ (bX1 cyI aV oV ++ (bX2 cyI aB oB ++ bHS cyI cyO aH oH))))))) C dL_teams_300 (c5n_team l D cyI cyO cyJ aX aS aG aL aU aV aB aH n z296.2 oG oL oU oV oB oH z296.1 (nI 0) z300 h300) (cwV 2 C.ts gL_teams_X5_team rfl rfl rfl (by decide +kernel) ⟨Nat.le_of_ble_eq_true rfl, Nat.le_of_ble_eq_true rfl⟩) rfl (q0 := 0) (ci := 5) rfl rfl Frm.self rfl (Nat.le_of_ble_eq_true rfl) ⟨Nat.le_of_ble_eq_true rfl, Nat.le_of_ble_eq_true rfl⟩ rfl ?_
        refine n_icmp_lt (t := 310) C dL_teams_303 (by decide) rfl (fun h303 => ?_) (fun h303 => ?_)
        · have hf := ip h303 hf
          refine n_iconst (v := (nI 0)) C dL_teams_310 (by decide) rfl ?_
          refine n_istore (lv' := [(9, .int (nI 0)), (0, .ref aX), (1, .int v1), (2, .int v2), (3, .int v3), (4, .int v4), (5, .int v5), (6, .int v6), (7, .int v7), (8, .int v8), (10, .int v10)]) C dL_teams_311 (by decide) rfl rfl ?_
          refine n_iinc (v := v10 + (nI 1)) (lv' := [(10, .int (v10 + (nI 1))), (9, .int (nI 0)), (0, .ref aX), (1, .int v1), (2, .int v2), (3, .int v3), (4, .int v4), (5, .int v5), (6, .int v6), (7, .int v7), (8, .int v8)]) C dL_teams_313 (j := 10) rfl rfl (by decide) rfl rfl ?_
          refine n_goto (t := 268) C dL_teams_316 (by decide) ?_
          exact Wn.sub (lv' := [(0, .ref aX), (1, .int v1), (2, .int v2), (3, .int v3), (4, .int v4), (5, .int v5), (6, .int v6), (7, .int v7), (8, .int v8), (9, .int (nI 0)), (10, .int (v10 + (nI 1)))]) [2, 3, 4, 5, 6, 7, 8, 9, 10, 1, 0] rfl (ih v1 v2 v3 v4 v5 v6 v7 v8 (nI 0) (v10 + (nI 1)) z300.2 oU oV hf)
        · have hf := iq h303 hf
          refine n_iconst (v := (nI 1)) C dL_teams_306 (by decide) rfl ?_
          refine n_goto (t := 311) C dL_teams_307 (by decide) ?_
          refine n_istore (lv' := [(9, .int (nI 1)), (0, .ref aX), (1, .int v1), (2, .int v2), (3, .int v3), (4, .int v4), (5, .int v5), (6, .int v6), (7, .int v7), (8, .int v8), (10, .int v10)]) C dL_teams_311 (by decide) rfl rfl ?_
          refine n_iinc (v := v10 + (nI 1)) (lv' := [(10, .int (v10 + (nI 1))), (9, .int (nI 1)), (0, .ref aX), (1, .int v1), (2, .int v2), (3, .int v3), (4, .int v4), (5, .int v5), (6, .int v6), (7, .int v7), (8, .int v8)]) C dL_teams_313 (j := 10) rfl rfl (by decide) rfl rfl ?_
          refine n_goto (t := 268) C dL_teams_316 (by decide) ?_
          exact Wn.sub (lv' := [(0, .ref aX), (1, .int v1), (2, .int v2), (3, .int v3), (4, .int v4), (5, .int v5), (6, .int v6), (7, .int v7), (8, .int v8), (9, .int (nI 1)), (10, .int (v10 + (nI 1)))]) [2, 3, 4, 5, 6, 7, 8, 9, 10, 1, 0] rfl (ih v1 v2 v3 v4 v5 v6 v7 v8 (nI 1) (v10 + (nI 1)) z300.2 oU oV hf)
set_option maxHeartbeats 4000000 in
set_option maxRecDepth 100000 in
theorem tL_teams_b265 {l : Launch} {p : Program} {e : Env} {s : State} {m : MethodId} {args : Array Value} {below : List Frame} {meth : Method} {c : Code} {D : va_G} {A : Nat → Prop} {cyI cyO cyJ : ClassId} {aX : Nat} {aS : Nat → Nat} {aG : Nat → Nat} {aL : Nat → Nat} {aU : Nat → Nat} {aV : Nat → Nat} {aB : Nat → Nat} {aH : Nat → Nat} (C : Cx p s m args meth c D (tyG cyI cyO cyJ) A RL cL_teams 11 (some .boolean) wsL_teams) {z : Int32 × (OB) × (OB) × (OB)} (n : Nat) (oG : OB) (oL : OB) (oB : OB) (oH : HS) (v1 : Int32) (v2 : Int32) (v3 : Int32) (v4 : Int32) (v5 : Int32) (v6 : Int32) (v7 : Int32) (v8 : Int32) (v9 : Int32) (oS : OB) (oU : OB) (oV : OB) (hf : fL_teams_b265 n oG oL oB oH v1 v2 v3 v4 v5 v6 v7 v8 v9 oS oU oV = some z) : Wn p l e rmL_teams s m args below meth c D A 11 0 0 (MQ below (Qr D (tyG cyI cyO cyJ) ([(aX, .inr (5, [.ref (aL 0), .ref (aS 0), .ref (aG 0), .ref (aH 0), .ref (aB 0), .ref (aV 0), .ref (aU 0)]))] ++ (bX4 cyI aS z.2.1 ++ (bX3 cyI aG oG ++ (bX1 cyI aL oL ++ (bX4 cyI aU z.2.2.1 ++ (bX1 cyI aV z.2.2.2 ++ (bX2 cyI aB oB ++ bHS cyI cyO aH oH))))))) A (some (.int z.1))) args s 0 0 A) ([(aX, .inr (5, [.ref (aL 0), .ref (aS 0), .ref (aG 0), .ref (aH 0), .ref (aB 0), .ref (aV 0), .ref (aU 0)]))] ++ (bX4 cyI aS oS ++ (bX3 cyI aG oG ++ (bX1 cyI aL oL ++ (bX4 cyI aU oU ++ (bX1 cyI aV oV ++ (bX2 cyI aB oB ++ bHS cyI cyO aH oH))))))) 265 [(0, .ref aX), (1, .int v1), (2, .int v2), (3, .int v3), (4, .int v4), (5, .int v5), (6, .int v6), (7, .int v7), (8, .int v8), (9, .int v9)] [] := by
  unfold fL_teams_b265 at hf
  refine n_iconst (v := (nI 1)) C dL_teams_265 (by decide) rfl ?_
  refine n_istore (lv' := [(10, .int (nI 1)), (0, .ref aX), (1, .int v1), (2, .int v2), (3, .int v3), (4, .int v4), (5, .int v5), (6, .int v6), (7, .int v7), (8, .int v8), (9, .int v9)]) C dL_teams_266 (by decide) rfl rfl ?_
  exact Wn.sub (lv' := [(0, .ref aX), (1, .int v1), (2, .int v2), (3, .int v3), (4, .int v4), (5, .int v5), (6, .int v6), (7, .int v7), (8, .int v8), (9, .int v9), (10, .int (nI 1))]) [1, 2, 3, 4, 5, 6, 7, 8, 9, 10, 0] rfl (tL_teams_b268 C n oG oL oB oH (fun v1 v2 v3 v4 v5 v6 v7 v8 v9 oS oU oV hf => Wn.sub (lv' := [(0, .ref aX), (1, .int v1), (2, .int v2), (3, .int v3), (4, .int v4), (5, .int v5), (6, .int v6), (7, .int v7), (8, .int v8), (9, .int v9)]) [0, 1, 2, 3, 4, 5, 6, 7, 8, 9] rfl (tL_teams_b319 C n oG oL oB oH v1 v2 v3 v4 v5 v6 v7 v8 v9 oS oU oV hf)) n v1 v2 v3 v4 v5 v6 v7 v8 v9 (nI 1) oS oU oV hf)
set_option maxHeartbeats 4000000 in
set_option maxRecDepth 100000 in
theorem tL_teams_b31 {l : Launch} {p : Program} {e : Env} {s : State} {m : MethodId} {args : Array Value} {below : List Frame} {meth : Method} {c : Code} {D : va_G} {A : Nat → Prop} {cyI cyO cyJ : ClassId} {aX : Nat} {aS : Nat → Nat} {aG : Nat → Nat} {aL : Nat → Nat} {aU : Nat → Nat} {aV : Nat → Nat} {aB : Nat → Nat} {aH : Nat → Nat} (C : Cx p s m args meth c D (tyG cyI cyO cyJ) A RL cL_teams 11 (some .boolean) wsL_teams) {z : Int32 × (OB) × (OB) × (OB)} (n : Nat) (oG : OB) (oL : OB) (oB : OB) (oH : HS) {k265 : Int32 → Int32 → Int32 → Int32 → Int32 → Int32 → Int32 → Int32 → Int32 → OB → OB → OB → Option (Int32 × (OB) × (OB) × (OB))} (hk265 : ∀ (v1 : Int32) (v2 : Int32) (v3 : Int32) (v4 : Int32) (v5 : Int32) (v6 : Int32) (v7 : Int32) (v8 : Int32) (v9 : Int32) (oS : OB) (oU : OB) (oV : OB), k265 v1 v2 v3 v4 v5 v6 v7 v8 v9 oS oU oV = some z → Wn p l e rmL_teams s m args below meth c D A 11 0 0 (MQ below (Qr D (tyG cyI cyO cyJ) ([(aX, .inr (5, [.ref (aL 0), .ref (aS 0), .ref (aG 0), .ref (aH 0), .ref (aB 0), .ref (aV 0), .ref (aU 0)]))] ++ (bX4 cyI aS z.2.1 ++ (bX3 cyI aG oG ++ (bX1 cyI aL oL ++ (bX4 cyI aU z.2.2.1 ++ (bX1 cyI aV z.2.2.2 ++ (bX2 cyI aB oB ++ bHS cyI cyO aH oH))))))) A (some (.int z.1))) args s 0 0 A) ([(aX, .inr (5, [.ref (aL 0), .ref (aS 0), .ref (aG 0), .ref (aH 0), .ref (aB 0), .ref (aV 0), .ref (aU 0)]))] ++ (bX4 cyI aS oS ++ (bX3 cyI aG oG ++ (bX1 cyI aL oL ++ (bX4 cyI aU oU ++ (bX1 cyI aV oV ++ (bX2 cyI aB oB ++ bHS cyI cyO aH oH))))))) 265 [(0, .ref aX), (1, .int v1), (2, .int v2), (3, .int v3), (4, .int v4), (5, .int v5), (6, .int v6), (7, .int v7), (8, .int v8), (9, .int v9)] []) : ∀ (k : Nat) (v1 : Int32) (v2 : Int32) (v3 : Int32) (v4 : Int32) (v5 : Int32) (v6 : Int32) (v7 : Int32) (v8 : Int32) (v9 : Int32) (v10 : Int32) (oS : OB) (oU : OB) (oV : OB), fL_teams_b31 n oG oL oB oH k265 k v1 v2 v3 v4 v5 v6 v7 v8 v9 v10 oS oU oV = some z → Wn p l e rmL_teams s m args below meth c D A 11 0 0 (MQ below (Qr D (tyG cyI cyO cyJ) ([(aX, .inr (5, [.ref (aL 0), .ref (aS 0), .ref (aG 0), .ref (aH 0), .ref (aB 0), .ref (aV 0), .ref (aU 0)]))] ++ (bX4 cyI aS z.2.1 ++ (bX3 cyI aG oG ++ (bX1 cyI aL oL ++ (bX4 cyI aU z.2.2.1 ++ (bX1 cyI aV z.2.2.2 ++ (bX2 cyI aB oB ++ bHS cyI cyO aH oH))))))) A (some (.int z.1))) args s 0 0 A) ([(aX, .inr (5, [.ref (aL 0), .ref (aS 0), .ref (aG 0), .ref (aH 0), .ref (aB 0), .ref (aV 0), .ref (aU 0)]))] ++ (bX4 cyI aS oS ++ (bX3 cyI aG oG ++ (bX1 cyI aL oL ++ (bX4 cyI aU oU ++ (bX1 cyI aV oV ++ (bX2 cyI aB oB ++ bHS cyI cyO aH oH))))))) 31 [(0, .ref aX), (1, .int v1), (2, .int v2), (3, .int v3), (4, .int v4), (5, .int v5), (6, .int v6), (7, .int v7), (8, .int v8), (9, .int v9), (10, .int v10)] [] := by
  intro k
  induction k with
  | zero => intro  v1 v2 v3 v4 v5 v6 v7 v8 v9 v10 oS oU oV hf; cases hf
  | succ k ih =>
    intro  v1 v2 v3 v4 v5 v6 v7 v8 v9 v10 oS oU oV hf
    unfold fL_teams_b31 at hf
    refine n_iload C dL_teams_31 10 rfl rfl ?_
    refine n_iload_n C dL_teams_33 1 rfl rfl ?_
    refine n_icmp_ge (t := 265) C dL_teams_34 (by decide) rfl (fun h34 => ?_) (fun h34 => ?_)
    · have hf := ip h34 hf
      exact Wn.sub (lv' := [(0, .ref aX), (1, .int v1), (2, .int v2), (3, .int v3), (4, .int v4), (5, .int v5), (6, .int v6), (7, .int v7), (8, .int v8), (9, .int v9)]) [0, 1, 2, 3, 4, 5, 6, 7, 8, 9] rfl (hk265 v1 v2 v3 v4 v5 v6 v7 v8 v9 oS oU oV hf)
    · have hf := iq h34 hf
      refine n_iload C dL_teams_37 9 rfl rfl ?_
      refine n_if_eq (t := 265) C dL_teams_39 (by decide) rfl (fun h39 => ?_) (fun h39 => ?_)
      · have hf := ip h39 hf
        exact Wn.sub (lv' := [(0, .ref aX), (1, .int v1), (2, .int v2), (3, .int v3), (4, .int v4), (5, .int v5), (6, .int v6), (7, .int v7), (8, .int v8), (9, .int v9)]) [0, 1, 2, 3, 4, 5, 6, 7, 8, 9] rfl (hk265 v1 v2 v3 v4 v5 v6 v7 v8 v9 oS oU oV hf)
      · have hf := iq h39 hf
        refine n_iload_n C dL_teams_42 2 rfl rfl ?_
        refine n_iconst (v := (nI 1)) C dL_teams_43 (by decide) rfl ?_
        refine n_aload_n C dL_teams_44 0 rfl rfl ?_
        refine n_iload C dL_teams_45 10 rfl rfl ?_
        refine n_bipush (v := (nI 7)) C dL_teams_47 (by decide) rfl ?_
        obtain ⟨z49, h49, hf⟩ := bi hf
        refine n_callV (As := [.int v10, .int (nI 7)]) (rest := [.int (nI 1), .int v2]) (w2 := [(aX, .inr (5, [.ref (aL 0), .ref (aS 0), .ref (aG 0), .ref (aH 0), .ref (aB 0), .ref (aV 0), .ref (aU 0)]))] ++ (bX4 cyI aS z49.2 ++ (bX3 cyI aG oG ++ (bX1 cyI aL oL ++ (bX4 cyI aU oU ++ (bX1 cyI aV oV ++ (bX2 cyI aB oB ++ bHS cyI cyO aH oH))))))) C dL_teams_49 (c5n_team l D cyI cyO cyJ aX aS aG aL aU aV aB aH n oS oG oL oU oV oB oH v10 (nI 7) z49 h49) (cwV 2 C.ts gL_teams_X5_team rfl rfl rfl (by decide +kernel) ⟨Nat.le_of_ble_eq_true rfl, Nat.le_of_ble_eq_true rfl⟩) rfl (q0 := 0) (ci := 5) rfl rfl Frm.self rfl (Nat.le_of_ble_eq_true rfl) ⟨Nat.le_of_ble_eq_true rfl, Nat.le_of_ble_eq_true rfl⟩ rfl ?_
        refine n_ishl C dL_teams_52 rfl ?_
        refine n_ior C dL_teams_53 rfl ?_
        refine n_istore_n (lv' := [(2, .int (v2 ||| ((nI 1) <<< (z49.1 &&& 31)))), (0, .ref aX), (1, .int v1), (3, .int v3), (4, .int v4), (5, .int v5), (6, .int v6), (7, .int v7), (8, .int v8), (9, .int v9), (10, .int v10)]) C dL_teams_54 (by decide) rfl rfl ?_
        refine n_iload_n C dL_teams_55 3 rfl rfl ?_
        refine n_aload_n C dL_teams_56 1 rfl rfl ?_
        refine n_iload C dL_teams_57 10 rfl rfl ?_
        refine n_iconst (v := (nI 4)) C dL_teams_59 (by decide) rfl ?_
        obtain ⟨z60, h60, hf⟩ := bi hf
        refine n_callV (As := [.int v10, .int (nI 4)]) (rest := [.int v3]) (w2 := [(aX, .inr (5, [.ref (aL 0), .ref (aS 0), .ref (aG 0), .ref (aH 0), .ref (aB 0), .ref (aV 0), .ref (aU 0)]))] ++ (bX4 cyI aS z60.2 ++ (bX3 cyI aG oG ++ (bX1 cyI aL oL ++ (bX4 cyI aU oU ++ (bX1 cyI aV oV ++ (bX2 cyI aB oB ++ bHS cyI cyO aH oH))))))) C dL_teams_60 (c5n_team l D cyI cyO cyJ aX aS aG aL aU aV aB aH n z49.2 oG oL oU oV oB oH v10 (nI 4) z60 h60) (cwV 2 C.ts gL_teams_X5_team rfl rfl rfl (by decide +kernel) ⟨Nat.le_of_ble_eq_true rfl, Nat.le_of_ble_eq_true rfl⟩) rfl (q0 := 0) (ci := 5) rfl rfl Frm.self rfl (Nat.le_of_ble_eq_true rfl) ⟨Nat.le_of_ble_eq_true rfl, Nat.le_of_ble_eq_true rfl⟩ rfl ?_
        refine n_iadd C dL_teams_63 rfl ?_
        refine n_istore_n (lv' := [(3, .int (v3 + z60.1)), (2, .int (v2 ||| ((nI 1) <<< (z49.1 &&& 31)))), (0, .ref aX), (1, .int v1), (4, .int v4), (5, .int v5), (6, .int v6), (7, .int v7), (8, .int v8), (9, .int v9), (10, .int v10)]) C dL_teams_64 (by decide) rfl rfl ?_
        refine n_iload C dL_teams_65 4 rfl rfl ?_
        refine n_aload_n C dL_teams_67 2 rfl rfl ?_
        refine n_iload C dL_teams_68 10 rfl rfl ?_
        refine n_iconst (v := (nI 5)) C dL_teams_70 (by decide) rfl ?_
        obtain ⟨z71, h71, hf⟩ := bi hf
        refine n_callV (As := [.int v10, .int (nI 5)]) (rest := [.int v4]) (w2 := [(aX, .inr (5, [.ref (aL 0), .ref (aS 0), .ref (aG 0), .ref (aH 0), .ref (aB 0), .ref (aV 0), .ref (aU 0)]))] ++ (bX4 cyI aS z71.2 ++ (bX3 cyI aG oG ++ (bX1 cyI aL oL ++ (bX4 cyI aU oU ++ (bX1 cyI aV oV ++ (bX2 cyI aB oB ++ bHS cyI cyO aH oH))))))) C dL_teams_71 (c5n_team l D cyI cyO cyJ aX aS aG aL aU aV aB aH n z60.2 oG oL oU oV oB oH v10 (nI 5) z71 h71) (cwV 2 C.ts gL_teams_X5_team rfl rfl rfl (by decide +kernel) ⟨Nat.le_of_ble_eq_true rfl, Nat.le_of_ble_eq_true rfl⟩) rfl (q0 := 0) (ci := 5) rfl rfl Frm.self rfl (Nat.le_of_ble_eq_true rfl) ⟨Nat.le_of_ble_eq_true rfl, Nat.le_of_ble_eq_true rfl⟩ rfl ?_
        refine n_iadd C dL_teams_74 rfl ?_
        refine n_istore (lv' := [(4, .int (v4 + z71.1)), (3, .int (v3 + z60.1)), (2, .int (v2 ||| ((nI 1) <<< (z49.1 &&& 31)))), (0, .ref aX), (1, .int v1), (5, .int v5), (6, .int v6), (7, .int v7), (8, .int v8), (9, .int v9), (10, .int v10)]) C dL_teams_75 (by decide) rfl rfl ?_
        refine n_iload C dL_teams_77 5 rfl rfl ?_
        refine n_aload_n C dL_teams_79 3 rfl rfl ?_
        refine n_iload C dL_teams_80 10 rfl rfl ?_
        refine n_iconst (v := (nI 0)) C dL_teams_82 (by decide) rfl ?_
        obtain ⟨z83, h83, hf⟩ := bi hf
        refine n_callV (As := [.int v10, .int (nI 0)]) (rest := [.int v5]) (w2 := [(aX, .inr (5, [.ref (aL 0), .ref (aS 0), .ref (aG 0), .ref (aH 0), .ref (aB 0), .ref (aV 0), .ref (aU 0)]))] ++ (bX4 cyI aS z83.2 ++ (bX3 cyI aG oG ++ (bX1 cyI aL oL ++ (bX4 cyI aU oU ++ (bX1 cyI aV oV ++ (bX2 cyI aB oB ++ bHS cyI cyO aH oH))))))) C dL_teams_83 (c5n_team l D cyI cyO cyJ aX aS aG aL aU aV aB aH n z71.2 oG oL oU oV oB oH v10 (nI 0) z83 h83) (cwV 2 C.ts gL_teams_X5_team rfl rfl rfl (by decide +kernel) ⟨Nat.le_of_ble_eq_true rfl, Nat.le_of_ble_eq_true rfl⟩) rfl (q0 := 0) (ci := 5) rfl rfl Frm.self rfl (Nat.le_of_ble_eq_true rfl) ⟨Nat.le_of_ble_eq_true rfl, Nat.le_of_ble_eq_true rfl⟩ rfl ?_
        refine n_iadd C dL_teams_86 rfl ?_
        refine n_istore (lv' := [(5, .int (v5 + z83.1)), (4, .int (v4 + z71.1)), (3, .int (v3 + z60.1)), (2, .int (v2 ||| ((nI 1) <<< (z49.1 &&& 31)))), (0, .ref aX), (1, .int v1), (6, .int v6), (7, .int v7), (8, .int v8), (9, .int v9), (10, .int v10)]) C dL_teams_87 (by decide) rfl rfl ?_
        refine n_iload C dL_teams_89 6 rfl rfl ?_
        refine n_aload_n C dL_teams_91 4 rfl rfl ?_
        refine n_iload C dL_teams_92 10 rfl rfl ?_
        refine n_iconst (v := (nI 1)) C dL_teams_94 (by decide) rfl ?_
        obtain ⟨z95, h95, hf⟩ := bi hf
        refine n_callV (As := [.int v10, .int (nI 1)]) (rest := [.int v6]) (w2 := [(aX, .inr (5, [.ref (aL 0), .ref (aS 0), .ref (aG 0), .ref (aH 0), .ref (aB 0), .ref (aV 0), .ref (aU 0)]))] ++ (bX4 cyI aS z95.2 ++ (bX3 cyI aG oG ++ (bX1 cyI aL oL ++ (bX4 cyI aU oU ++ (bX1 cyI aV oV ++ (bX2 cyI aB oB ++ bHS cyI cyO aH oH))))))) C dL_teams_95 (c5n_team l D cyI cyO cyJ aX aS aG aL aU aV aB aH n z83.2 oG oL oU oV oB oH v10 (nI 1) z95 h95) (cwV 2 C.ts gL_teams_X5_team rfl rfl rfl (by decide +kernel) ⟨Nat.le_of_ble_eq_true rfl, Nat.le_of_ble_eq_true rfl⟩) rfl (q0 := 0) (ci := 5) rfl rfl Frm.self rfl (Nat.le_of_ble_eq_true rfl) ⟨Nat.le_of_ble_eq_true rfl, Nat.le_of_ble_eq_true rfl⟩ rfl ?_
        refine n_iadd C dL_teams_98 rfl ?_
        refine n_istore (lv' := [(6, .int (v6 + z95.1)), (5, .int (v5 + z83.1)), (4, .int (v4 + z71.1)), (3, .int (v3 + z60.1)), (2, .int (v2 ||| ((nI 1) <<< (z49.1 &&& 31)))), (0, .ref aX), (1, .int v1), (7, .int v7), (8, .int v8), (9, .int v9), (10, .int v10)]) C dL_teams_99 (by decide) rfl rfl ?_
        refine n_iload C dL_teams_101 7 rfl rfl ?_
        refine n_aload_n C dL_teams_103 5 rfl rfl ?_
        refine n_iload C dL_teams_104 10 rfl rfl ?_
        refine n_bipush (v := (nI 6)) C dL_teams_106 (by decide) rfl ?_
        obtain ⟨z108, h108, hf⟩ := bi hf
        refine n_callV (As := [.int v10, .int (nI 6)]) (rest := [.int v7]) (w2 := [(aX, .inr (5, [.ref (aL 0), .ref (aS 0), .ref (aG 0), .ref (aH 0), .ref (aB 0), .ref (aV 0), .ref (aU 0)]))] ++ (bX4 cyI aS z108.2 ++ (bX3 cyI aG oG ++ (bX1 cyI aL oL ++ (bX4 cyI aU oU ++ (bX1 cyI aV oV ++ (bX2 cyI aB oB ++ bHS cyI cyO aH oH))))))) C dL_teams_108 (c5n_team l D cyI cyO cyJ aX aS aG aL aU aV aB aH n z95.2 oG oL oU oV oB oH v10 (nI 6) z108 h108) (cwV 2 C.ts gL_teams_X5_team rfl rfl rfl (by decide +kernel) ⟨Nat.le_of_ble_eq_true rfl, Nat.le_of_ble_eq_true rfl⟩) rfl (q0 := 0) (ci := 5) rfl rfl Frm.self rfl (Nat.le_of_ble_eq_true rfl) ⟨Nat.le_of_ble_eq_true rfl, Nat.le_of_ble_eq_true rfl⟩ rfl ?_
        refine n_iadd C dL_teams_111 rfl ?_
        refine n_istore (lv' := [(7, .int (v7 + z108.1)), (6, .int (v6 + z95.1)), (5, .int (v5 + z83.1)), (4, .int (v4 + z71.1)), (3, .int (v3 + z60.1)), (2, .int (v2 ||| ((nI 1) <<< (z49.1 &&& 31)))), (0, .ref aX), (1, .int v1), (8, .int v8), (9, .int v9), (10, .int v10)]) C dL_teams_112 (by decide) rfl rfl ?_
        refine n_iload C dL_teams_114 8 rfl rfl ?_
        refine n_aload_n C dL_teams_116 6 rfl rfl ?_
        refine n_iload C dL_teams_117 10 rfl rfl ?_
        obtain ⟨z119, h119, hf⟩ := bi hf
        refine n_callV (As := [.int v10]) (rest := [.int v8]) (w2 := [(aX, .inr (5, [.ref (aL 0), .ref (aS 0), .ref (aG 0), .ref (aH 0), .ref (aB 0), .ref (aV 0), .ref (aU 0)]))] ++ (bX4 cyI aS z119.2 ++ (bX3 cyI aG oG ++ (bX1 cyI aL oL ++ (bX4 cyI aU oU ++ (bX1 cyI aV oV ++ (bX2 cyI aB oB ++ bHS cyI cyO aH oH))))))) C dL_teams_119 (c5n_isSure l D cyI cyO cyJ aX aS aG aL aU aV aB aH n z108.2 oG oL oU oV oB oH v10 z119 h119) (cwV 1 C.ts gL_teams_X5_isSure rfl rfl rfl (by decide +kernel) ⟨Nat.le_of_ble_eq_true rfl, Nat.le_of_ble_eq_true rfl⟩) rfl (q0 := 0) (ci := 5) rfl rfl Frm.self rfl (Nat.le_of_ble_eq_true rfl) ⟨Nat.le_of_ble_eq_true rfl, Nat.le_of_ble_eq_true rfl⟩ rfl ?_
        refine n_iadd C dL_teams_122 rfl ?_
        refine n_istore (lv' := [(8, .int (v8 + z119.1)), (7, .int (v7 + z108.1)), (6, .int (v6 + z95.1)), (5, .int (v5 + z83.1)), (4, .int (v4 + z71.1)), (3, .int (v3 + z60.1)), (2, .int (v2 ||| ((nI 1) <<< (z49.1 &&& 31)))), (0, .ref aX), (1, .int v1), (9, .int v9), (10, .int v10)]) C dL_teams_123 (by decide) rfl rfl ?_
        refine n_aload_n C dL_teams_125 7 rfl rfl ?_
        refine n_iload C dL_teams_126 10 rfl rfl ?_
        refine n_iconst (v := (nI 1)) C dL_teams_128 (by decide) rfl ?_
        obtain ⟨z129, h129, hf⟩ := bi hf
        refine n_callV (As := [.int v10, .int (nI 1)]) (rest := []) (w2 := [(aX, .inr (5, [.ref (aL 0), .ref (aS 0), .ref (aG 0), .ref (aH 0), .ref (aB 0), .ref (aV 0), .ref (aU 0)]))] ++ (bX4 cyI aS z129.2 ++ (bX3 cyI aG oG ++ (bX1 cyI aL oL ++ (bX4 cyI aU oU ++ (bX1 cyI aV oV ++ (bX2 cyI aB oB ++ bHS cyI cyO aH oH))))))) C dL_teams_129 (c5n_team l D cyI cyO cyJ aX aS aG aL aU aV aB aH n z119.2 oG oL oU oV oB oH v10 (nI 1) z129 h129) (cwV 2 C.ts gL_teams_X5_team rfl rfl rfl (by decide +kernel) ⟨Nat.le_of_ble_eq_true rfl, Nat.le_of_ble_eq_true rfl⟩) rfl (q0 := 0) (ci := 5) rfl rfl Frm.self rfl (Nat.le_of_ble_eq_true rfl) ⟨Nat.le_of_ble_eq_true rfl, Nat.le_of_ble_eq_true rfl⟩ rfl ?_
        refine n_aload_n C dL_teams_132 7 rfl rfl ?_
        refine n_iload C dL_teams_133 10 rfl rfl ?_
        refine n_bipush (v := (nI 8)) C dL_teams_135 (by decide) rfl ?_
        obtain ⟨z137, h137, hf⟩ := bi hf
        refine n_callV (As := [.int v10, .int (nI 8)]) (rest := [.int z129.1]) (w2 := [(aX, .inr (5, [.ref (aL 0), .ref (aS 0), .ref (aG 0), .ref (aH 0), .ref (aB 0), .ref (aV 0), .ref (aU 0)]))] ++ (bX4 cyI aS z137.2 ++ (bX3 cyI aG oG ++ (bX1 cyI aL oL ++ (bX4 cyI aU oU ++ (bX1 cyI aV oV ++ (bX2 cyI aB oB ++ bHS cyI cyO aH oH))))))) C dL_teams_137 (c5n_team l D cyI cyO cyJ aX aS aG aL aU aV aB aH n z129.2 oG oL oU oV oB oH v10 (nI 8) z137 h137) (cwV 2 C.ts gL_teams_X5_team rfl rfl rfl (by decide +kernel) ⟨Nat.le_of_ble_eq_true rfl, Nat.le_of_ble_eq_true rfl⟩) rfl (q0 := 0) (ci := 5) rfl rfl Frm.self rfl (Nat.le_of_ble_eq_true rfl) ⟨Nat.le_of_ble_eq_true rfl, Nat.le_of_ble_eq_true rfl⟩ rfl ?_
        refine n_iadd C dL_teams_140 rfl ?_
        refine n_iload_n C dL_teams_141 8 rfl rfl ?_
        refine n_iconst (v := (nI 1)) C dL_teams_142 (by decide) rfl ?_
        refine n_isub C dL_teams_143 rfl ?_
        refine n_icmp_ne (t := 256) C dL_teams_144 (by decide) rfl (fun h144 => ?_) (fun h144 => ?_)
        · have hf := iq h144 hf
          refine n_iconst (v := (nI 0)) C dL_teams_256 (by decide) rfl ?_
          refine n_istore (lv' := [(9, .int (nI 0)), (8, .int (v8 + z119.1)), (7, .int (v7 + z108.1)), (6, .int (v6 + z95.1)), (5, .int (v5 + z83.1)), (4, .int (v4 + z71.1)), (3, .int (v3 + z60.1)), (2, .int (v2 ||| ((nI 1) <<< (z49.1 &&& 31)))), (0, .ref aX), (1, .int v1), (10, .int v10)]) C dL_teams_257 (by decide) rfl rfl ?_
          refine n_iinc (v := v10 + (nI 1)) (lv' := [(10, .int (v10 + (nI 1))), (9, .int (nI 0)), (8, .int (v8 + z119.1)), (7, .int (v7 + z108.1)), (6, .int (v6 + z95.1)), (5, .int (v5 + z83.1)), (4, .int (v4 + z71.1)), (3, .int (v3 + z60.1)), (2, .int (v2 ||| ((nI 1) <<< (z49.1 &&& 31)))), (0, .ref aX), (1, .int v1)]) C dL_teams_259 (j := 10) rfl rfl (by decide) rfl rfl ?_
          refine n_goto (t := 31) C dL_teams_262 (by decide) ?_
          exact Wn.sub (lv' := [(0, .ref aX), (1, .int v1), (2, .int (v2 ||| ((nI 1) <<< (z49.1 &&& 31)))), (3, .int (v3 + z60.1)), (4, .int (v4 + z71.1)), (5, .int (v5 + z83.1)), (6, .int (v6 + z95.1)), (7, .int (v7 + z108.1)), (8, .int (v8 + z119.1)), (9, .int (nI 0)), (10, .int (v10 + (nI 1)))]) [9, 10, 8, 7, 6, 5, 4, 3, 2, 1, 0] rfl (ih v1 (v2 ||| ((nI 1) <<< (z49.1 &&& 31))) (v3 + z60.1) (v4 + z71.1) (v5 + z83.1) (v6 + z95.1) (v7 + z108.1) (v8 + z119.1) (nI 0) (v10 + (nI 1)) z137.2 oU oV hf)
        · have hf := ip h144 hf
          refine n_aload_n C dL_teams_147 7 rfl rfl ?_
          refine n_aload_n C dL_teams_148 7 rfl rfl ?_
          refine n_iload C dL_teams_149 10 rfl rfl ?_
          refine n_bipush (v := (nI 7)) C dL_teams_151 (by decide) rfl ?_
          obtain ⟨z153, h153, hf⟩ := bi hf
          refine n_callV (As := [.int v10, .int (nI 7)]) (rest := [.ref aX]) (w2 := [(aX, .inr (5, [.ref (aL 0), .ref (aS 0), .ref (aG 0), .ref (aH 0), .ref (aB 0), .ref (aV 0), .ref (aU 0)]))] ++ (bX4 cyI aS z153.2 ++ (bX3 cyI aG oG ++ (bX1 cyI aL oL ++ (bX4 cyI aU oU ++ (bX1 cyI aV oV ++ (bX2 cyI aB oB ++ bHS cyI cyO aH oH))))))) C dL_teams_153 (c5n_team l D cyI cyO cyJ aX aS aG aL aU aV aB aH n z137.2 oG oL oU oV oB oH v10 (nI 7) z153 h153) (cwV 2 C.ts gL_teams_X5_team rfl rfl rfl (by decide +kernel) ⟨Nat.le_of_ble_eq_true rfl, Nat.le_of_ble_eq_true rfl⟩) rfl (q0 := 0) (ci := 5) rfl rfl Frm.self rfl (Nat.le_of_ble_eq_true rfl) ⟨Nat.le_of_ble_eq_true rfl, Nat.le_of_ble_eq_true rfl⟩ rfl ?_
          obtain ⟨z156, h156, hf⟩ := bi hf
          refine n_callV (As := [.int z153.1]) (rest := []) (w2 := [(aX, .inr (5, [.ref (aL 0), .ref (aS 0), .ref (aG 0), .ref (aH 0), .ref (aB 0), .ref (aV 0), .ref (aU 0)]))] ++ (bX4 cyI aS z156.2 ++ (bX3 cyI aG oG ++ (bX1 cyI aL oL ++ (bX4 cyI aU oU ++ (bX1 cyI aV oV ++ (bX2 cyI aB oB ++ bHS cyI cyO aH oH))))))) C dL_teams_156 (c5n_table l D cyI cyO cyJ aX aS aG aL aU aV aB aH n z153.2 oG oL oU oV oB oH z153.1 z156 h156) (cwV 1 C.ts gL_teams_X5_table rfl rfl rfl (by decide +kernel) ⟨Nat.le_of_ble_eq_true rfl, Nat.le_of_ble_eq_true rfl⟩) rfl (q0 := 0) (ci := 5) rfl rfl Frm.self rfl (Nat.le_of_ble_eq_true rfl) ⟨Nat.le_of_ble_eq_true rfl, Nat.le_of_ble_eq_true rfl⟩ rfl ?_
          refine n_iload C dL_teams_159 10 rfl rfl ?_
          refine n_icmp_ne (t := 256) C dL_teams_161 (by decide) rfl (fun h161 => ?_) (fun h161 => ?_)
          · have hf := iq h161 hf
            refine n_iconst (v := (nI 0)) C dL_teams_256 (by decide) rfl ?_
            refine n_istore (lv' := [(9, .int (nI 0)), (8, .int (v8 + z119.1)), (7, .int (v7 + z108.1)), (6, .int (v6 + z95.1)), (5, .int (v5 + z83.1)), (4, .int (v4 + z71.1)), (3, .int (v3 + z60.1)), (2, .int (v2 ||| ((nI 1) <<< (z49.1 &&& 31)))), (0, .ref aX), (1, .int v1), (10, .int v10)]) C dL_teams_257 (by decide) rfl rfl ?_
            refine n_iinc (v := v10 + (nI 1)) (lv' := [(10, .int (v10 + (nI 1))), (9, .int (nI 0)), (8, .int (v8 + z119.1)), (7, .int (v7 + z108.1)), (6, .int (v6 + z95.1)), (5, .int (v5 + z83.1)), (4, .int (v4 + z71.1)), (3, .int (v3 + z60.1)), (2, .int (v2 ||| ((nI 1) <<< (z49.1 &&& 31)))), (0, .ref aX), (1, .int v1)]) C dL_teams_259 (j := 10) rfl rfl (by decide) rfl rfl ?_
            refine n_goto (t := 31) C dL_teams_262 (by decide) ?_
            exact Wn.sub (lv' := [(0, .ref aX), (1, .int v1), (2, .int (v2 ||| ((nI 1) <<< (z49.1 &&& 31)))), (3, .int (v3 + z60.1)), (4, .int (v4 + z71.1)), (5, .int (v5 + z83.1)), (6, .int (v6 + z95.1)), (7, .int (v7 + z108.1)), (8, .int (v8 + z119.1)), (9, .int (nI 0)), (10, .int (v10 + (nI 1)))]) [9, 10, 8, 7, 6, 5, 4, 3, 2, 1, 0] rfl (ih v1 (v2 ||| ((nI 1) <<< (z49.1 &&& 31))) (v3 + z60.1) (v4 + z71.1) (v5 + z83.1) (v6 + z95.1) (v7 + z108.1) (v8 + z119.1) (nI 0) (v10 + (nI 1)) z156.2 oU oV hf)
          · have hf := ip h161 hf
            refine n_aload_n C dL_teams_164 7 rfl rfl ?_
            refine n_iload C dL_teams_165 10 rfl rfl ?_
            obtain ⟨z167, h167, hf⟩ := bi hf
            refine n_callV (As := [.int v10]) (rest := []) (w2 := [(aX, .inr (5, [.ref (aL 0), .ref (aS 0), .ref (aG 0), .ref (aH 0), .ref (aB 0), .ref (aV 0), .ref (aU 0)]))] ++ (bX4 cyI aS z156.2 ++ (bX3 cyI aG oG ++ (bX1 cyI aL oL ++ (bX4 cyI aU z167.2.1 ++ (bX1 cyI aV z167.2.2 ++ (bX2 cyI aB oB ++ bHS cyI cyO aH oH))))))) C dL_teams_167 (c5n_bestPlace l D cyI cyO cyJ aX aS aG aL aU aV aB aH n z156.2 oG oL oU oV oB oH v10 z167 h167) (cwV 1 C.ts gL_teams_X5_bestPlace rfl rfl rfl (by decide +kernel) ⟨Nat.le_of_ble_eq_true rfl, Nat.le_of_ble_eq_true rfl⟩) rfl (q0 := 0) (ci := 5) rfl rfl Frm.self rfl (Nat.le_of_ble_eq_true rfl) ⟨Nat.le_of_ble_eq_true rfl, Nat.le_of_ble_eq_true rfl⟩ rfl ?_
            refine n_aload_n C dL_teams_170 7 rfl rfl ?_
            refine n_iload C dL_teams_171 10 rfl rfl ?_
            refine n_bipush (v := (nI 7)) C dL_teams_173 (by decide) rfl ?_
            obtain ⟨z175, h175, hf⟩ := bi hf
            refine n_callV (As := [.int v10, .int (nI 7)]) (rest := [.int z167.1]) (w2 := [(aX, .inr (5, [.ref (aL 0), .ref (aS 0), .ref (aG 0), .ref (aH 0), .ref (aB 0), .ref (aV 0), .ref (aU 0)]))] ++ (bX4 cyI aS z175.2 ++ (bX3 cyI aG oG ++ (bX1 cyI aL oL ++ (bX4 cyI aU z167.2.1 ++ (bX1 cyI aV z167.2.2 ++ (bX2 cyI aB oB ++ bHS cyI cyO aH oH))))))) C dL_teams_175 (c5n_team l D cyI cyO cyJ aX aS aG aL aU aV aB aH n z156.2 oG oL z167.2.1 z167.2.2 oB oH v10 (nI 7) z175 h175) (cwV 2 C.ts gL_teams_X5_team rfl rfl rfl (by decide +kernel) ⟨Nat.le_of_ble_eq_true rfl, Nat.le_of_ble_eq_true rfl⟩) rfl (q0 := 0) (ci := 5) rfl rfl Frm.self rfl (Nat.le_of_ble_eq_true rfl) ⟨Nat.le_of_ble_eq_true rfl, Nat.le_of_ble_eq_true rfl⟩ rfl ?_
            refine n_icmp_gt (t := 256) C dL_teams_178 (by decide) rfl (fun h178 => ?_) (fun h178 => ?_)
            · have hf := ip h178 hf
              refine n_iconst (v := (nI 0)) C dL_teams_256 (by decide) rfl ?_
              refine n_istore (lv' := [(9, .int (nI 0)), (8, .int (v8 + z119.1)), (7, .int (v7 + z108.1)), (6, .int (v6 + z95.1)), (5, .int (v5 + z83.1)), (4, .int (v4 + z71.1)), (3, .int (v3 + z60.1)), (2, .int (v2 ||| ((nI 1) <<< (z49.1 &&& 31)))), (0, .ref aX), (1, .int v1), (10, .int v10)]) C dL_teams_257 (by decide) rfl rfl ?_
              refine n_iinc (v := v10 + (nI 1)) (lv' := [(10, .int (v10 + (nI 1))), (9, .int (nI 0)), (8, .int (v8 + z119.1)), (7, .int (v7 + z108.1)), (6, .int (v6 + z95.1)), (5, .int (v5 + z83.1)), (4, .int (v4 + z71.1)), (3, .int (v3 + z60.1)), (2, .int (v2 ||| ((nI 1) <<< (z49.1 &&& 31)))), (0, .ref aX), (1, .int v1)]) C dL_teams_259 (j := 10) rfl rfl (by decide) rfl rfl ?_
              refine n_goto (t := 31) C dL_teams_262 (by decide) ?_
              exact Wn.sub (lv' := [(0, .ref aX), (1, .int v1), (2, .int (v2 ||| ((nI 1) <<< (z49.1 &&& 31)))), (3, .int (v3 + z60.1)), (4, .int (v4 + z71.1)), (5, .int (v5 + z83.1)), (6, .int (v6 + z95.1)), (7, .int (v7 + z108.1)), (8, .int (v8 + z119.1)), (9, .int (nI 0)), (10, .int (v10 + (nI 1)))]) [9, 10, 8, 7, 6, 5, 4, 3, 2, 1, 0] rfl (ih v1 (v2 ||| ((nI 1) <<< (z49.1 &&& 31))) (v3 + z60.1) (v4 + z71.1) (v5 + z83.1) (v6 + z95.1) (v7 + z108.1) (v8 + z119.1) (nI 0) (v10 + (nI 1)) z175.2 z167.2.1 z167.2.2 hf)
            · have hf := iq h178 hf
              refine n_aload_n C dL_teams_181 7 rfl rfl ?_
              refine n_iload C dL_teams_182 10 rfl rfl ?_
              refine n_iconst (v := (nI 2)) C dL_teams_184 (by decide) rfl ?_
              obtain ⟨z185, h185, hf⟩ := bi hf
              refine n_callV (As := [.int v10, .int (nI 2)]) (rest := []) (w2 := [(aX, .inr (5, [.ref (aL 0), .ref (aS 0), .ref (aG 0), .ref (aH 0), .ref (aB 0), .ref (aV 0), .ref (aU 0)]))] ++ (bX4 cyI aS z185.2 ++ (bX3 cyI aG oG ++ (bX1 cyI aL oL ++ (bX4 cyI aU z167.2.1 ++ (bX1 cyI aV z167.2.2 ++ (bX2 cyI aB oB ++ bHS cyI cyO aH oH))))))) C dL_teams_185 (c5n_team l D cyI cyO cyJ aX aS aG aL aU aV aB aH n z175.2 oG oL z167.2.1 z167.2.2 oB oH v10 (nI 2) z185 h185) (cwV 2 C.ts gL_teams_X5_team rfl rfl rfl (by decide +kernel) ⟨Nat.le_of_ble_eq_true rfl, Nat.le_of_ble_eq_true rfl⟩) rfl (q0 := 0) (ci := 5) rfl rfl Frm.self rfl (Nat.le_of_ble_eq_true rfl) ⟨Nat.le_of_ble_eq_true rfl, Nat.le_of_ble_eq_true rfl⟩ rfl ?_
              refine n_aload_n C dL_teams_188 7 rfl rfl ?_
              refine n_iload C dL_teams_189 10 rfl rfl ?_
              refine n_iconst (v := (nI 3)) C dL_teams_191 (by decide) rfl ?_
              obtain ⟨z192, h192, hf⟩ := bi hf
              refine n_callV (As := [.int v10, .int (nI 3)]) (rest := [.int z185.1]) (w2 := [(aX, .inr (5, [.ref (aL 0), .ref (aS 0), .ref (aG 0), .ref (aH 0), .ref (aB 0), .ref (aV 0), .ref (aU 0)]))] ++ (bX4 cyI aS z192.2 ++ (bX3 cyI aG oG ++ (bX1 cyI aL oL ++ (bX4 cyI aU z167.2.1 ++ (bX1 cyI aV z167.2.2 ++ (bX2 cyI aB oB ++ bHS cyI cyO aH oH))))))) C dL_teams_192 (c5n_team l D cyI cyO cyJ aX aS aG aL aU aV aB aH n z185.2 oG oL z167.2.1 z167.2.2 oB oH v10 (nI 3) z192 h192) (cwV 2 C.ts gL_teams_X5_team rfl rfl rfl (by decide +kernel) ⟨Nat.le_of_ble_eq_true rfl, Nat.le_of_ble_eq_true rfl⟩) rfl (q0 := 0) (ci := 5) rfl rfl Frm.self rfl (Nat.le_of_ble_eq_true rfl) ⟨Nat.le_of_ble_eq_true rfl, Nat.le_of_ble_eq_true rfl⟩ rfl ?_
              refine n_iadd C dL_teams_195 rfl ?_
              refine n_aload_n C dL_teams_196 7 rfl rfl ?_
              refine n_iload C dL_teams_197 10 rfl rfl ?_
              refine n_iconst (v := (nI 1)) C dL_teams_199 (by decide) rfl ?_
              obtain ⟨z200, h200, hf⟩ := bi hf
              refine n_callV (As := [.int v10, .int (nI 1)]) (rest := [.int (z185.1 + z192.1)]) (w2 := [(aX, .inr (5, [.ref (aL 0), .ref (aS 0), .ref (aG 0), .ref (aH 0), .ref (aB 0), .ref (aV 0), .ref (aU 0)]))] ++ (bX4 cyI aS z200.2 ++ (bX3 cyI aG oG ++ (bX1 cyI aL oL ++ (bX4 cyI aU z167.2.1 ++ (bX1 cyI aV z167.2.2 ++ (bX2 cyI aB oB ++ bHS cyI cyO aH oH))))))) C dL_teams_200 (c5n_team l D cyI cyO cyJ aX aS aG aL aU aV aB aH n z192.2 oG oL z167.2.1 z167.2.2 oB oH v10 (nI 1) z200 h200) (cwV 2 C.ts gL_teams_X5_team rfl rfl rfl (by decide +kernel) ⟨Nat.le_of_ble_eq_true rfl, Nat.le_of_ble_eq_true rfl⟩) rfl (q0 := 0) (ci := 5) rfl rfl Frm.self rfl (Nat.le_of_ble_eq_true rfl) ⟨Nat.le_of_ble_eq_true rfl, Nat.le_of_ble_eq_true rfl⟩ rfl ?_
              refine n_icmp_gt (t := 256) C dL_teams_203 (by decide) rfl (fun h203 => ?_) (fun h203 => ?_)
              · have hf := ip h203 hf
                refine n_iconst (v := (nI 0)) C dL_teams_256 (by decide) rfl ?_
                refine n_istore (lv' := [(9, .int (nI 0)), (8, .int (v8 + z119.1)), (7, .int (v7 + z108.1)), (6, .int (v6 + z95.1)), (5, .int (v5 + z83.1)), (4, .int (v4 + z71.1)), (3, .int (v3 + z60.1)), (2, .int (v2 ||| ((nI 1) <<< (z49.1 &&& 31)))), (0, .ref aX), (1, .int v1), (10, .int v10)]) C dL_teams_257 (by decide) rfl rfl ?_
                refine n_iinc (v := v10 + (nI 1)) (lv' := [(10, .int (v10 + (nI 1))), (9, .int (nI 0)), (8, .int (v8 + z119.1)), (7, .int (v7 + z108.1)), (6, .int (v6 + z95.1)), (5, .int (v5 + z83.1)), (4, .int (v4 + z71.1)), (3, .int (v3 + z60.1)), (2, .int (v2 ||| ((nI 1) <<< (z49.1 &&& 31)))), (0, .ref aX), (1, .int v1)]) C dL_teams_259 (j := 10) rfl rfl (by decide) rfl rfl ?_
                refine n_goto (t := 31) C dL_teams_262 (by decide) ?_
                exact Wn.sub (lv' := [(0, .ref aX), (1, .int v1), (2, .int (v2 ||| ((nI 1) <<< (z49.1 &&& 31)))), (3, .int (v3 + z60.1)), (4, .int (v4 + z71.1)), (5, .int (v5 + z83.1)), (6, .int (v6 + z95.1)), (7, .int (v7 + z108.1)), (8, .int (v8 + z119.1)), (9, .int (nI 0)), (10, .int (v10 + (nI 1)))]) [9, 10, 8, 7, 6, 5, 4, 3, 2, 1, 0] rfl (ih v1 (v2 ||| ((nI 1) <<< (z49.1 &&& 31))) (v3 + z60.1) (v4 + z71.1) (v5 + z83.1) (v6 + z95.1) (v7 + z108.1) (v8 + z119.1) (nI 0) (v10 + (nI 1)) z200.2 z167.2.1 z167.2.2 hf)
              · have hf := iq h203 hf
                refine n_aload_n C dL_teams_206 7 rfl rfl ?_
                refine n_iload C dL_teams_207 10 rfl rfl ?_
                refine n_iconst (v := (nI 0)) C dL_teams_209 (by decide) rfl ?_
                obtain ⟨z210, h210, hf⟩ := bi hf
                refine n_callV (As := [.int v10, .int (nI 0)]) (rest := []) (w2 := [(aX, .inr (5, [.ref (aL 0), .ref (aS 0), .ref (aG 0), .ref (aH 0), .ref (aB 0), .ref (aV 0), .ref (aU 0)]))] ++ (bX4 cyI aS z210.2 ++ (bX3 cyI aG oG ++ (bX1 cyI aL oL ++ (bX4 cyI aU z167.2.1 ++ (bX1 cyI aV z167.2.2 ++ (bX2 cyI aB oB ++ bHS cyI cyO aH oH))))))) C dL_teams_210 (c5n_team l D cyI cyO cyJ aX aS aG aL aU aV aB aH n z200.2 oG oL z167.2.1 z167.2.2 oB oH v10 (nI 0) z210 h210) (cwV 2 C.ts gL_teams_X5_team rfl rfl rfl (by decide +kernel) ⟨Nat.le_of_ble_eq_true rfl, Nat.le_of_ble_eq_true rfl⟩) rfl (q0 := 0) (ci := 5) rfl rfl Frm.self rfl (Nat.le_of_ble_eq_true rfl) ⟨Nat.le_of_ble_eq_true rfl, Nat.le_of_ble_eq_true rfl⟩ rfl ?_
                refine n_aload_n C dL_teams_213 7 rfl rfl ?_
                refine n_iconst (v := (nI 0)) C dL_teams_214 (by decide) rfl ?_
                obtain ⟨z215, h215, hf⟩ := bi hf
                refine n_callV (As := [.int (nI 0)]) (rest := [.int z210.1]) (w2 := [(aX, .inr (5, [.ref (aL 0), .ref (aS 0), .ref (aG 0), .ref (aH 0), .ref (aB 0), .ref (aV 0), .ref (aU 0)]))] ++ (bX4 cyI aS z210.2 ++ (bX3 cyI aG oG ++ (bX1 cyI aL oL ++ (bX4 cyI aU z167.2.1 ++ (bX1 cyI aV z167.2.2 ++ (bX2 cyI aB oB ++ bHS cyI cyO aH oH))))))) C dL_teams_215 (c5n_setting l D cyI cyO cyJ aX aS aG aL aU aV aB aH n z210.2 oG oL z167.2.1 z167.2.2 oB oH (nI 0) z215 h215) (cwV 1 C.ts gL_teams_X5_setting rfl rfl rfl (by decide +kernel) ⟨Nat.le_of_ble_eq_true rfl, Nat.le_of_ble_eq_true rfl⟩) rfl (q0 := 0) (ci := 5) rfl rfl Frm.self rfl (Nat.le_of_ble_eq_true rfl) ⟨Nat.le_of_ble_eq_true rfl, Nat.le_of_ble_eq_true rfl⟩ rfl ?_
                refine n_aload_n C dL_teams_218 7 rfl rfl ?_
                refine n_iload C dL_teams_219 10 rfl rfl ?_
                refine n_iconst (v := (nI 2)) C dL_teams_221 (by decide) rfl ?_
                obtain ⟨z222, h222, hf⟩ := bi hf
                refine n_callV (As := [.int v10, .int (nI 2)]) (rest := [.int z215, .int z210.1]) (w2 := [(aX, .inr (5, [.ref (aL 0), .ref (aS 0), .ref (aG 0), .ref (aH 0), .ref (aB 0), .ref (aV 0), .ref (aU 0)]))] ++ (bX4 cyI aS z222.2 ++ (bX3 cyI aG oG ++ (bX1 cyI aL oL ++ (bX4 cyI aU z167.2.1 ++ (bX1 cyI aV z167.2.2 ++ (bX2 cyI aB oB ++ bHS cyI cyO aH oH))))))) C dL_teams_222 (c5n_team l D cyI cyO cyJ aX aS aG aL aU aV aB aH n z210.2 oG oL z167.2.1 z167.2.2 oB oH v10 (nI 2) z222 h222) (cwV 2 C.ts gL_teams_X5_team rfl rfl rfl (by decide +kernel) ⟨Nat.le_of_ble_eq_true rfl, Nat.le_of_ble_eq_true rfl⟩) rfl (q0 := 0) (ci := 5) rfl rfl Frm.self rfl (Nat.le_of_ble_eq_true rfl) ⟨Nat.le_of_ble_eq_true rfl, Nat.le_of_ble_eq_true rfl⟩ rfl ?_
                refine n_imul C dL_teams_225 rfl ?_
                refine n_aload_n C dL_teams_226 7 rfl rfl ?_
                refine n_iconst (v := (nI 1)) C dL_teams_227 (by decide) rfl ?_
                obtain ⟨z228, h228, hf⟩ := bi hf
                refine n_callV (As := [.int (nI 1)]) (rest := [.int (z215 * z222.1), .int z210.1]) (w2 := [(aX, .inr (5, [.ref (aL 0), .ref (aS 0), .ref (aG 0), .ref (aH 0), .ref (aB 0), .ref (aV 0), .ref (aU 0)]))] ++ (bX4 cyI aS z222.2 ++ (bX3 cyI aG oG ++ (bX1 cyI aL oL ++ (bX4 cyI aU z167.2.1 ++ (bX1 cyI aV z167.2.2 ++ (bX2 cyI aB oB ++ bHS cyI cyO aH oH))))))) C dL_teams_228 (c5n_setting l D cyI cyO cyJ aX aS aG aL aU aV aB aH n z222.2 oG oL z167.2.1 z167.2.2 oB oH (nI 1) z228 h228) (cwV 1 C.ts gL_teams_X5_setting rfl rfl rfl (by decide +kernel) ⟨Nat.le_of_ble_eq_true rfl, Nat.le_of_ble_eq_true rfl⟩) rfl (q0 := 0) (ci := 5) rfl rfl Frm.self rfl (Nat.le_of_ble_eq_true rfl) ⟨Nat.le_of_ble_eq_true rfl, Nat.le_of_ble_eq_true rfl⟩ rfl ?_
                refine n_aload_n C dL_teams_231 7 rfl rfl ?_
                refine n_iload C dL_teams_232 10 rfl rfl ?_
                refine n_iconst (v := (nI 3)) C dL_teams_234 (by decide) rfl ?_
                obtain ⟨z235, h235, hf⟩ := bi hf
                refine n_callV (As := [.int v10, .int (nI 3)]) (rest := [.int z228, .int (z215 * z222.1), .int z210.1]) (w2 := [(aX, .inr (5, [.ref (aL 0), .ref (aS 0), .ref (aG 0), .ref (aH 0), .ref (aB 0), .ref (aV 0), .ref (aU 0)]))] ++ (bX4 cyI aS z235.2 ++ (bX3 cyI aG oG ++ (bX1 cyI aL oL ++ (bX4 cyI aU z167.2.1 ++ (bX1 cyI aV z167.2.2 ++ (bX2 cyI aB oB ++ bHS cyI cyO aH oH))))))) C dL_teams_235 (c5n_team l D cyI cyO cyJ aX aS aG aL aU aV aB aH n z222.2 oG oL z167.2.1 z167.2.2 oB oH v10 (nI 3) z235 h235) (cwV 2 C.ts gL_teams_X5_team rfl rfl rfl (by decide +kernel) ⟨Nat.le_of_ble_eq_true rfl, Nat.le_of_ble_eq_true rfl⟩) rfl (q0 := 0) (ci := 5) rfl rfl Frm.self rfl (Nat.le_of_ble_eq_true rfl) ⟨Nat.le_of_ble_eq_true rfl, Nat.le_of_ble_eq_true rfl⟩ rfl ?_
                refine n_imul C dL_teams_238 rfl ?_
                refine n_iadd C dL_teams_239 rfl ?_
                refine n_aload_n C dL_teams_240 7 rfl rfl ?_
                refine n_iload C dL_teams_241 10 rfl rfl ?_
                refine n_bipush (v := (nI 6)) C dL_teams_243 (by decide) rfl ?_
                obtain ⟨z245, h245, hf⟩ := bi hf
                refine n_callV (As := [.int v10, .int (nI 6)]) (rest := [.int ((z215 * z222.1) + (z228 * z235.1)), .int z210.1]) (w2 := [(aX, .inr (5, [.ref (aL 0), .ref (aS 0), .ref (aG 0), .ref (aH 0), .ref (aB 0), .ref (aV 0), .ref (aU 0)]))] ++ (bX4 cyI aS z245.2 ++ (bX3 cyI aG oG ++ (bX1 cyI aL oL ++ (bX4 cyI aU z167.2.1 ++ (bX1 cyI aV z167.2.2 ++ (bX2 cyI aB oB ++ bHS cyI cyO aH oH))))))) C dL_teams_245 (c5n_team l D cyI cyO cyJ aX aS aG aL aU aV aB aH n z235.2 oG oL z167.2.1 z167.2.2 oB oH v10 (nI 6) z245 h245) (cwV 2 C.ts gL_teams_X5_team rfl rfl rfl (by decide +kernel) ⟨Nat.le_of_ble_eq_true rfl, Nat.le_of_ble_eq_true rfl⟩) rfl (q0 := 0) (ci := 5) rfl rfl Frm.self rfl (Nat.le_of_ble_eq_true rfl) ⟨Nat.le_of_ble_eq_true rfl, Nat.le_of_ble_eq_true rfl⟩ rfl ?_
                refine n_isub C dL_teams_248 rfl ?_
                refine n_icmp_ne (t := 256) C dL_teams_249 (by decide) rfl (fun h249 => ?_) (fun h249 => ?_)
                · have hf := iq h249 hf
                  refine n_iconst (v := (nI 0)) C dL_teams_256 (by decide) rfl ?_
                  refine n_istore (lv' := [(9, .int (nI 0)), (8, .int (v8 + z119.1)), (7, .int (v7 + z108.1)), (6, .int (v6 + z95.1)), (5, .int (v5 + z83.1)), (4, .int (v4 + z71.1)), (3, .int (v3 + z60.1)), (2, .int (v2 ||| ((nI 1) <<< (z49.1 &&& 31)))), (0, .ref aX), (1, .int v1), (10, .int v10)]) C dL_teams_257 (by decide) rfl rfl ?_
                  refine n_iinc (v := v10 + (nI 1)) (lv' := [(10, .int (v10 + (nI 1))), (9, .int (nI 0)), (8, .int (v8 + z119.1)), (7, .int (v7 + z108.1)), (6, .int (v6 + z95.1)), (5, .int (v5 + z83.1)), (4, .int (v4 + z71.1)), (3, .int (v3 + z60.1)), (2, .int (v2 ||| ((nI 1) <<< (z49.1 &&& 31)))), (0, .ref aX), (1, .int v1)]) C dL_teams_259 (j := 10) rfl rfl (by decide) rfl rfl ?_
                  refine n_goto (t := 31) C dL_teams_262 (by decide) ?_
                  exact Wn.sub (lv' := [(0, .ref aX), (1, .int v1), (2, .int (v2 ||| ((nI 1) <<< (z49.1 &&& 31)))), (3, .int (v3 + z60.1)), (4, .int (v4 + z71.1)), (5, .int (v5 + z83.1)), (6, .int (v6 + z95.1)), (7, .int (v7 + z108.1)), (8, .int (v8 + z119.1)), (9, .int (nI 0)), (10, .int (v10 + (nI 1)))]) [9, 10, 8, 7, 6, 5, 4, 3, 2, 1, 0] rfl (ih v1 (v2 ||| ((nI 1) <<< (z49.1 &&& 31))) (v3 + z60.1) (v4 + z71.1) (v5 + z83.1) (v6 + z95.1) (v7 + z108.1) (v8 + z119.1) (nI 0) (v10 + (nI 1)) z245.2 z167.2.1 z167.2.2 hf)
                · have hf := ip h249 hf
                  refine n_iconst (v := (nI 1)) C dL_teams_252 (by decide) rfl ?_
                  refine n_goto (t := 257) C dL_teams_253 (by decide) ?_
                  refine n_istore (lv' := [(9, .int (nI 1)), (8, .int (v8 + z119.1)), (7, .int (v7 + z108.1)), (6, .int (v6 + z95.1)), (5, .int (v5 + z83.1)), (4, .int (v4 + z71.1)), (3, .int (v3 + z60.1)), (2, .int (v2 ||| ((nI 1) <<< (z49.1 &&& 31)))), (0, .ref aX), (1, .int v1), (10, .int v10)]) C dL_teams_257 (by decide) rfl rfl ?_
                  refine n_iinc (v := v10 + (nI 1)) (lv' := [(10, .int (v10 + (nI 1))), (9, .int (nI 1)), (8, .int (v8 + z119.1)), (7, .int (v7 + z108.1)), (6, .int (v6 + z95.1)), (5, .int (v5 + z83.1)), (4, .int (v4 + z71.1)), (3, .int (v3 + z60.1)), (2, .int (v2 ||| ((nI 1) <<< (z49.1 &&& 31)))), (0, .ref aX), (1, .int v1)]) C dL_teams_259 (j := 10) rfl rfl (by decide) rfl rfl ?_
                  refine n_goto (t := 31) C dL_teams_262 (by decide) ?_
                  exact Wn.sub (lv' := [(0, .ref aX), (1, .int v1), (2, .int (v2 ||| ((nI 1) <<< (z49.1 &&& 31)))), (3, .int (v3 + z60.1)), (4, .int (v4 + z71.1)), (5, .int (v5 + z83.1)), (6, .int (v6 + z95.1)), (7, .int (v7 + z108.1)), (8, .int (v8 + z119.1)), (9, .int (nI 1)), (10, .int (v10 + (nI 1)))]) [9, 10, 8, 7, 6, 5, 4, 3, 2, 1, 0] rfl (ih v1 (v2 ||| ((nI 1) <<< (z49.1 &&& 31))) (v3 + z60.1) (v4 + z71.1) (v5 + z83.1) (v6 + z95.1) (v7 + z108.1) (v8 + z119.1) (nI 1) (v10 + (nI 1)) z245.2 z167.2.1 z167.2.2 hf)
set_option maxHeartbeats 4000000 in
set_option maxRecDepth 100000 in
theorem kL_teams (l : Launch) (D : va_G) (cyI cyO cyJ : ClassId) (aX : Nat) (aS : Nat → Nat) (aG : Nat → Nat) (aL : Nat → Nat) (aU : Nat → Nat) (aV : Nat → Nat) (aB : Nat → Nat) (aH : Nat → Nat) (n : Nat) (oS : OB) (oG : OB) (oL : OB) (oU : OB) (oV : OB) (oB : OB) (oH : HS) (z : Int32 × (OB) × (OB) × (OB)) (hf : fL_teams n oS oG oL oU oV oB oH = some z) : Ct l D (tyG cyI cyO cyJ) yL_teams wsL_teams rmL_teams 0 0 [.ref aX] ([(aX, .inr (5, [.ref (aL 0), .ref (aS 0), .ref (aG 0), .ref (aH 0), .ref (aB 0), .ref (aV 0), .ref (aU 0)]))] ++ (bX4 cyI aS oS ++ (bX3 cyI aG oG ++ (bX1 cyI aL oL ++ (bX4 cyI aU oU ++ (bX1 cyI aV oV ++ (bX2 cyI aB oB ++ bHS cyI cyO aH oH))))))) ([(aX, .inr (5, [.ref (aL 0), .ref (aS 0), .ref (aG 0), .ref (aH 0), .ref (aB 0), .ref (aV 0), .ref (aU 0)]))] ++ (bX4 cyI aS z.2.1 ++ (bX3 cyI aG oG ++ (bX1 cyI aL oL ++ (bX4 cyI aU z.2.2.1 ++ (bX1 cyI aV z.2.2.2 ++ (bX2 cyI aB oB ++ bHS cyI cyO aH oH))))))) (some (.int z.1)) := by
  refine Ct.of (cc := cL_teams) (nL := 11) (ret := (some .boolean)) (lv := [(0, .ref aX)]) (by decide +kernel) rfl rfl (Nat.le_of_ble_eq_true rfl) ?_
  intro p e s m args below meth c A C
  have C : Cx p s m args meth c D (tyG cyI cyO cyJ) A RL cL_teams 11 (some .boolean) wsL_teams := C
  unfold fL_teams at hf
  refine n_aload_n C dL_teams_0 0 rfl rfl ?_
  refine n_iconst (v := (nI 0)) C dL_teams_1 (by decide) rfl ?_
  obtain ⟨z2, h2, hf⟩ := bi hf
  refine n_callV (As := [.int (nI 0)]) (rest := []) (w2 := [(aX, .inr (5, [.ref (aL 0), .ref (aS 0), .ref (aG 0), .ref (aH 0), .ref (aB 0), .ref (aV 0), .ref (aU 0)]))] ++ (bX4 cyI aS z2.2 ++ (bX3 cyI aG oG ++ (bX1 cyI aL oL ++ (bX4 cyI aU oU ++ (bX1 cyI aV oV ++ (bX2 cyI aB oB ++ bHS cyI cyO aH oH))))))) C dL_teams_2 (c5n_count l D cyI cyO cyJ aX aS aG aL aU aV aB aH n oS oG oL oU oV oB oH (nI 0) z2 h2) (cwV 1 C.ts gL_teams_X5_count rfl rfl rfl (by decide +kernel) ⟨Nat.le_of_ble_eq_true rfl, Nat.le_of_ble_eq_true rfl⟩) rfl (q0 := 0) (ci := 5) rfl rfl Frm.self rfl (Nat.le_of_ble_eq_true rfl) ⟨Nat.le_of_ble_eq_true rfl, Nat.le_of_ble_eq_true rfl⟩ rfl ?_
  refine n_istore_n (lv' := [(1, .int z2.1), (0, .ref aX)]) C dL_teams_5 (by decide) rfl rfl ?_
  refine n_iconst (v := (nI 0)) C dL_teams_6 (by decide) rfl ?_
  refine n_istore_n (lv' := [(2, .int (nI 0)), (1, .int z2.1), (0, .ref aX)]) C dL_teams_7 (by decide) rfl rfl ?_
  refine n_iconst (v := (nI 0)) C dL_teams_8 (by decide) rfl ?_
  refine n_istore_n (lv' := [(3, .int (nI 0)), (2, .int (nI 0)), (1, .int z2.1), (0, .ref aX)]) C dL_teams_9 (by decide) rfl rfl ?_
  refine n_iconst (v := (nI 0)) C dL_teams_10 (by decide) rfl ?_
  refine n_istore (lv' := [(4, .int (nI 0)), (3, .int (nI 0)), (2, .int (nI 0)), (1, .int z2.1), (0, .ref aX)]) C dL_teams_11 (by decide) rfl rfl ?_
  refine n_iconst (v := (nI 0)) C dL_teams_13 (by decide) rfl ?_
  refine n_istore (lv' := [(5, .int (nI 0)), (4, .int (nI 0)), (3, .int (nI 0)), (2, .int (nI 0)), (1, .int z2.1), (0, .ref aX)]) C dL_teams_14 (by decide) rfl rfl ?_
  refine n_iconst (v := (nI 0)) C dL_teams_16 (by decide) rfl ?_
  refine n_istore (lv' := [(6, .int (nI 0)), (5, .int (nI 0)), (4, .int (nI 0)), (3, .int (nI 0)), (2, .int (nI 0)), (1, .int z2.1), (0, .ref aX)]) C dL_teams_17 (by decide) rfl rfl ?_
  refine n_iconst (v := (nI 0)) C dL_teams_19 (by decide) rfl ?_
  refine n_istore (lv' := [(7, .int (nI 0)), (6, .int (nI 0)), (5, .int (nI 0)), (4, .int (nI 0)), (3, .int (nI 0)), (2, .int (nI 0)), (1, .int z2.1), (0, .ref aX)]) C dL_teams_20 (by decide) rfl rfl ?_
  refine n_iconst (v := (nI 0)) C dL_teams_22 (by decide) rfl ?_
  refine n_istore (lv' := [(8, .int (nI 0)), (7, .int (nI 0)), (6, .int (nI 0)), (5, .int (nI 0)), (4, .int (nI 0)), (3, .int (nI 0)), (2, .int (nI 0)), (1, .int z2.1), (0, .ref aX)]) C dL_teams_23 (by decide) rfl rfl ?_
  refine n_iconst (v := (nI 1)) C dL_teams_25 (by decide) rfl ?_
  refine n_istore (lv' := [(9, .int (nI 1)), (8, .int (nI 0)), (7, .int (nI 0)), (6, .int (nI 0)), (5, .int (nI 0)), (4, .int (nI 0)), (3, .int (nI 0)), (2, .int (nI 0)), (1, .int z2.1), (0, .ref aX)]) C dL_teams_26 (by decide) rfl rfl ?_
  refine n_iconst (v := (nI 0)) C dL_teams_28 (by decide) rfl ?_
  refine n_istore (lv' := [(10, .int (nI 0)), (9, .int (nI 1)), (8, .int (nI 0)), (7, .int (nI 0)), (6, .int (nI 0)), (5, .int (nI 0)), (4, .int (nI 0)), (3, .int (nI 0)), (2, .int (nI 0)), (1, .int z2.1), (0, .ref aX)]) C dL_teams_29 (by decide) rfl rfl ?_
  exact Wn.sub (lv' := [(0, .ref aX), (1, .int z2.1), (2, .int (nI 0)), (3, .int (nI 0)), (4, .int (nI 0)), (5, .int (nI 0)), (6, .int (nI 0)), (7, .int (nI 0)), (8, .int (nI 0)), (9, .int (nI 1)), (10, .int (nI 0))]) [10, 9, 8, 7, 6, 5, 4, 3, 2, 1, 0] rfl (tL_teams_b31 C n oG oL oB oH (fun v1 v2 v3 v4 v5 v6 v7 v8 v9 oS oU oV hf => Wn.sub (lv' := [(0, .ref aX), (1, .int v1), (2, .int v2), (3, .int v3), (4, .int v4), (5, .int v5), (6, .int v6), (7, .int v7), (8, .int v8), (9, .int v9)]) [0, 1, 2, 3, 4, 5, 6, 7, 8, 9] rfl (tL_teams_b265 C n oG oL oB oH v1 v2 v3 v4 v5 v6 v7 v8 v9 oS oU oV hf)) n z2.1 (nI 0) (nI 0) (nI 0) (nI 0) (nI 0) (nI 0) (nI 0) (nI 1) (nI 0) z2.2 oU oV hf)
