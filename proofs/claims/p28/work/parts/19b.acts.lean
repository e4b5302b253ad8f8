/-! THE LAW: what it does -/
-- L act 
abbrev rmL_act : Room := { frames := 8, cells := 1, slots := 6, locals := 160 }
def fL_act_b188 (n : Nat) (len : Nat) (xs : Nat → Int32) (oU : OB) (oV : OB) (oB : OB) (x2 : Int32) (s1 : Int32) (s2 : Int32) (s3 : Int32) (oS : OB) (oG : OB) (oL : OB) (oH : HS) : Option (Int32 × (OB) × (OB) × (OB) × (HS)) :=
  (f5_score n oS oG oL oU oV oB oH s1 s2 s3).bind fun z188 => (wi (-333) z188.1).bind fun v188 => (if v188 = (-333 : Int32) then some ((-3 : Int32), z188.2.1, oG, z188.2.2.1, z188.2.2.2) else some ((nI 0), z188.2.1, oG, z188.2.2.1, z188.2.2.2))
def fL_act_b148 (n : Nat) (len : Nat) (xs : Nat → Int32) (oU : OB) (oV : OB) (oB : OB) (x2 : Int32) (v3 : Int32) (v4 : Int32) (v5 : Int32) (oS : OB) (oG : OB) (oL : OB) (oH : HS) : Option (Int32 × (OB) × (OB) × (OB) × (HS)) :=
  (fL_low n v4 (nI 100)).bind fun z155 => (fL_low n (v3 + v4) (nI 3)).bind fun z163 => (if z163 = (0 : Int32) then (fL_low n v4 (nI 100)).bind fun z173 => fL_act_b188 n len xs oU oV oB x2 v5 z155 z173 oS oG oL oH else (fL_low n (v3 + v4) (nI 100)).bind fun z185 => fL_act_b188 n len xs oU oV oB x2 v5 z155 z185 oS oG oL oH)
def fL_act_b221 (n : Nat) (len : Nat) (xs : Nat → Int32) (oU : OB) (oV : OB) (oB : OB) (x2 : Int32) (s1 : Int32) (s2 : Int32) (oS : OB) (oG : OB) (oL : OB) (oH : HS) : Option (Int32 × (OB) × (OB) × (OB) × (HS)) :=
  (f5_walkover n oS oG oL oU oV oB oH s1 s2).bind fun z221 => (wi (-333) z221.1).bind fun v221 => (if v221 = (-333 : Int32) then some ((-3 : Int32), z221.2.1, oG, z221.2.2.1, z221.2.2.2) else some ((nI 0), z221.2.1, oG, z221.2.2.1, z221.2.2.2))
def fL_act_b204 (n : Nat) (len : Nat) (xs : Nat → Int32) (oU : OB) (oV : OB) (oB : OB) (x2 : Int32) (v4 : Int32) (v5 : Int32) (oS : OB) (oG : OB) (oL : OB) (oH : HS) : Option (Int32 × (OB) × (OB) × (OB) × (HS)) :=
  (fL_low n v4 (nI 2)).bind fun z210 => (if z210 = (0 : Int32) then fL_act_b221 n len xs oU oV oB x2 v5 (nI 1) oS oG oL oH else fL_act_b221 n len xs oU oV oB x2 v5 (nI 0) oS oG oL oH)
def fL_act (n : Nat) (len : Nat) (xs : Nat → Int32) (oS : OB) (oG : OB) (oL : OB) (oU : OB) (oV : OB) (oB : OB) (oH : HS) (x2 : Int32) : Option (Int32 × (OB) × (OB) × (OB) × (HS)) :=
  (fL_cell len xs (x2 + (nI 1))).bind fun x4 => (fL_cell len xs (x2 + (nI 2))).bind fun x12 => (f5n_count n oS oG oL oU oV oB oH (nI 2)).bind fun z20 => (fL_low n x4 z20.1).bind fun z23 => (fL_cell len xs x2).bind fun x30 => (fL_low n x30 (nI 18)).bind fun z35 => (if z35 = (nI 0) then (fL_low n x12 (nI 2)).bind fun z119 => (if z119 = (0 : Int32) then (fL_low n x12 (nI 6)).bind fun z131 => (f5n_begin n z20.2 oG oL oU oV oB oH ((nI 3) + z131)).bind fun z135 => some (z135.1, z20.2, oG, z135.2.1, z135.2.2) else some ((nI 0), z20.2, oG, oL, oH)) else (if z35 = (nI 1) then (f5_stage n z20.2 oG oL oU oV oB oH).bind fun z144 => some (z144.1, z20.2, z144.2.1, z144.2.2.1, z144.2.2.2) else (if z35 = (nI 2) then (f5_stage n z20.2 oG oL oU oV oB oH).bind fun z144 => some (z144.1, z20.2, z144.2.1, z144.2.2.1, z144.2.2.2) else (if z35 = (nI 3) then (f5_stage n z20.2 oG oL oU oV oB oH).bind fun z144 => some (z144.1, z20.2, z144.2.1, z144.2.2.1, z144.2.2.2) else (if z35 = (nI 4) then fL_act_b148 n len xs oU oV oB x2 x4 x12 z23 z20.2 oG oL oH else (if z35 = (nI 5) then fL_act_b148 n len xs oU oV oB x2 x4 x12 z23 z20.2 oG oL oH else (if z35 = (nI 6) then fL_act_b148 n len xs oU oV oB x2 x4 x12 z23 z20.2 oG oL oH else (if z35 = (nI 7) then fL_act_b148 n len xs oU oV oB x2 x4 x12 z23 z20.2 oG oL oH else (if z35 = (nI 8) then fL_act_b148 n len xs oU oV oB x2 x4 x12 z23 z20.2 oG oL oH else (if z35 = (nI 9) then fL_act_b204 n len xs oU oV oB x2 x12 z23 z20.2 oG oL oH else (if z35 = (nI 10) then fL_act_b204 n len xs oU oV oB x2 x12 z23 z20.2 oG oL oH else (if z35 = (nI 11) then (f5n_annul n z20.2 oG oL oU oV oB oH z23).bind fun z240 => some (z240.1, z20.2, oG, z240.2.1, z240.2.2) else (if z35 = (nI 12) then (fL_low n x4 (nI 6)).bind fun z248 => (f5n_close n z20.2 oG oL oU oV oB oH z248 ((x12 &&& (nI 127)) &&& x4)).bind fun z258 => some (z258.1, z20.2, oG, z258.2.1, z258.2.2) else (if z35 = (nI 13) then (fL_low n x4 (nI 6)).bind fun z266 => (f5n_away n z20.2 oG oL oU oV oB oH z266 ((x12 &&& (nI 127)) &&& x4)).bind fun z276 => some (z276.1, z20.2, oG, z276.2.1, z276.2.2) else (if z35 = (nI 14) then (fL_low n x4 (nI 2)).bind fun z283 => (fL_low n x12 (nI 3)).bind fun z290 => (f5_set n z20.2 oG oL oU oV oB oH z283 ((nI 1) + z290)).bind fun z294 => (vi z294.1).bind fun v294 => some (v294, z20.2, oG, z294.2.1, z294.2.2) else (if z35 = (nI 15) then (fL_low n x4 (nI 2)).bind fun z302 => (fL_low n x12 (nI 20)).bind fun z311 => (f5_set n z20.2 oG oL oU oV oB oH ((nI 2) + z302) ((nI 1) + z311)).bind fun z315 => (vi z315.1).bind fun v315 => some (v315, z20.2, oG, z315.2.1, z315.2.2) else (f5_undo n z20.2 oG oL oU oV oB oH).bind fun z320 => (wi (-3) z320.1).bind fun v320 => some (v320, z20.2, oG, z320.2.1, z320.2.2)))))))))))))))))
set_option maxHeartbeats 4000000 in
set_option maxRecDepth 100000 in
theorem tL_act_b188 {l : Launch} {p : Program} {e : Env} {s : State} {m : MethodId} {args : Array Value} {below : List Frame} {meth : Method} {c : Code} {D : va_G} {A : Nat → Prop} {cyI cyO cyJ : ClassId} {b len : Nat} {xs : Nat → Int32} {aX : Nat} {aS : Nat → Nat} {aG : Nat → Nat} {aL : Nat → Nat} {aU : Nat → Nat} {aV : Nat → Nat} {aB : Nat → Nat} {aH : Nat → Nat} (C : Cx p s m args meth c D (tyG cyI cyO cyJ) A RL cL_act 6 (some .int) wsL_act) (CE : ENVL A s) (hls : l.stackTraces = false) (hX : va_X b len xs s s.heap) (hbl : b < s.heap.size) (hbA : ¬ A b) {z : Int32 × (OB) × (OB) × (OB) × (HS)} (n : Nat) (oU : OB) (oV : OB) (oB : OB) (x2 : Int32) (s1 : Int32) (s2 : Int32) (s3 : Int32) (oS : OB) (oG : OB) (oL : OB) (oH : HS) (hf : fL_act_b188 n len xs oU oV oB x2 s1 s2 s3 oS oG oL oH = some z) : Wn p l e rmL_act s m args below meth c D A 6 0 0 (MQ below (Qr D (tyG cyI cyO cyJ) ([(aX, .inr (5, [.ref (aL 0), .ref (aS 0), .ref (aG 0), .ref (aH 0), .ref (aB 0), .ref (aV 0), .ref (aU 0)]))] ++ (bX4 cyI aS z.2.1 ++ (bX3 cyI aG z.2.2.1 ++ (bX1 cyI aL z.2.2.2.1 ++ (bX4 cyI aU oU ++ (bX1 cyI aV oV ++ (bX2 cyI aB oB ++ bHS cyI cyO aH z.2.2.2.2))))))) A (some (.int z.1))) args s 1 6 A) ([(aX, .inr (5, [.ref (aL 0), .ref (aS 0), .ref (aG 0), .ref (aH 0), .ref (aB 0), .ref (aV 0), .ref (aU 0)]))] ++ (bX4 cyI aS oS ++ (bX3 cyI aG oG ++ (bX1 cyI aL oL ++ (bX4 cyI aU oU ++ (bX1 cyI aV oV ++ (bX2 cyI aB oB ++ bHS cyI cyO aH oH))))))) 188 [] [.int s3, .int s2, .int s1, .ref aX] := by
  unfold fL_act_b188 at hf
  obtain ⟨z188, h188, hf⟩ := bi hf
  obtain ⟨v188, hv188, hf⟩ := bi hf
  refine n_callSW (As := [.ref aX, .int s1, .int s2, .int s3]) (rest := []) (w2 := [(aX, .inr (5, [.ref (aL 0), .ref (aS 0), .ref (aG 0), .ref (aH 0), .ref (aB 0), .ref (aV 0), .ref (aU 0)]))] ++ (bX4 cyI aS z188.2.1 ++ (bX3 cyI aG oG ++ (bX1 cyI aL z188.2.2.1 ++ (bX4 cyI aU oU ++ (bX1 cyI aV oV ++ (bX2 cyI aB oB ++ bHS cyI cyO aH z188.2.2.2))))))) C CE dL_act_188 (kL_score l hls D cyI cyO cyJ aX aS aG aL aU aV aB aH n oS oG oL oU oV oB oH s1 s2 s3 z188 h188 v188 hv188) (vx_cwSW 4 C.ts gL_act_L_score rfl rfl rfl (by decide +kernel) ⟨Nat.le_of_ble_eq_true rfl, Nat.le_of_ble_eq_true rfl⟩) rfl Frm.self rfl (Nat.le_of_ble_eq_true rfl) ⟨Nat.le_of_ble_eq_true rfl, Nat.le_of_ble_eq_true rfl⟩ rfl ?_
  refine n_sipush (v := (-333 : Int32)) C dL_act_191 (by decide) rfl ?_
  refine n_icmp_ne (t := 202) C dL_act_194 (by decide) rfl (fun h194 => ?_) (fun h194 => ?_)
  · have hf := iq h194 hf
    refine n_iconst (v := (nI 0)) C dL_act_202 (by decide) rfl ?_
    obtain rfl := Option.some.inj hf
    exact n_iret C dL_act_203
  · have hf := ip h194 hf
    refine n_bipush (v := (-3 : Int32)) C dL_act_197 (by decide) rfl ?_
    refine n_goto (t := 203) C dL_act_199 (by decide) ?_
    obtain rfl := Option.some.inj hf
    exact n_iret C dL_act_203
set_option maxHeartbeats 4000000 in
set_option maxRecDepth 100000 in
theorem tL_act_b148 {l : Launch} {p : Program} {e : Env} {s : State} {m : MethodId} {args : Array Value} {below : List Frame} {meth : Method} {c : Code} {D : va_G} {A : Nat → Prop} {cyI cyO cyJ : ClassId} {b len : Nat} {xs : Nat → Int32} {aX : Nat} {aS : Nat → Nat} {aG : Nat → Nat} {aL : Nat → Nat} {aU : Nat → Nat} {aV : Nat → Nat} {aB : Nat → Nat} {aH : Nat → Nat} (C : Cx p s m args meth c D (tyG cyI cyO cyJ) A RL cL_act 6 (some .int) wsL_act) (CE : ENVL A s) (hls : l.stackTraces = false) (hX : va_X b len xs s s.heap) (hbl : b < s.heap.size) (hbA : ¬ A b) {z : Int32 × (OB) × (OB) × (OB) × (HS)} (n : Nat) (oU : OB) (oV : OB) (oB : OB) (x2 : Int32) (v3 : Int32) (v4 : Int32) (v5 : Int32) (oS : OB) (oG : OB) (oL : OB) (oH : HS) (hf : fL_act_b148 n len xs oU oV oB x2 v3 v4 v5 oS oG oL oH = some z) : Wn p l e rmL_act s m args below meth c D A 6 0 0 (MQ below (Qr D (tyG cyI cyO cyJ) ([(aX, .inr (5, [.ref (aL 0), .ref (aS 0), .ref (aG 0), .ref (aH 0), .ref (aB 0), .ref (aV 0), .ref (aU 0)]))] ++ (bX4 cyI aS z.2.1 ++ (bX3 cyI aG z.2.2.1 ++ (bX1 cyI aL z.2.2.2.1 ++ (bX4 cyI aU oU ++ (bX1 cyI aV oV ++ (bX2 cyI aB oB ++ bHS cyI cyO aH z.2.2.2.2))))))) A (some (.int z.1))) args s 1 6 A) ([(aX, .inr (5, [.ref (aL 0), .ref (aS 0), .ref (aG 0), .ref (aH 0), .ref (aB 0), .ref (aV 0), .ref (aU 0)]))] ++ (bX4 cyI aS oS ++ (bX3 cyI aG oG ++ (bX1 cyI aL oL ++ (bX4 cyI aU oU ++ (bX1 cyI aV oV ++ (bX2 cyI aB oB ++ bHS cyI cyO aH oH))))))) 148 [(0, .ref aX), (3, .int v3), (4, .int v4), (5, .int v5)] [] := by
  unfold fL_act_b148 at hf
  refine n_aload_n C dL_act_148 0 rfl rfl ?_
  refine n_iload C dL_act_149 3 rfl rfl ?_
  refine n_iload C dL_act_151 2 rfl rfl ?_
  refine n_bipush (v := (nI 100)) C dL_act_153 (by decide) rfl ?_
  obtain ⟨z155, h155, hf⟩ := bi hf
  refine n_callS (As := [.int v4, .int (nI 100)]) (rest := [.int v5, .ref aX]) (w2 := [(aX, .inr (5, [.ref (aL 0), .ref (aS 0), .ref (aG 0), .ref (aH 0), .ref (aB 0), .ref (aV 0), .ref (aU 0)]))] ++ (bX4 cyI aS oS ++ (bX3 cyI aG oG ++ (bX1 cyI aL oL ++ (bX4 cyI aU oU ++ (bX1 cyI aV oV ++ (bX2 cyI aB oB ++ bHS cyI cyO aH oH))))))) C dL_act_155 (kL_low l D cyI cyO cyJ  n v4 (nI 100) z155 h155) (va_cwS 2 C.ts gL_act_L_low rfl rfl rfl (by decide +kernel) ⟨Nat.le_of_ble_eq_true rfl, Nat.le_of_ble_eq_true rfl⟩) rfl Frm.none rfl (Nat.le_of_ble_eq_true rfl) ⟨Nat.le_of_ble_eq_true rfl, Nat.le_of_ble_eq_true rfl⟩ rfl ?_
  refine n_iload_n C dL_act_158 1 rfl rfl ?_
  refine n_iload C dL_act_159 2 rfl rfl ?_
  refine n_iadd C dL_act_161 rfl ?_
  refine n_iconst (v := (nI 3)) C dL_act_162 (by decide) rfl ?_
  obtain ⟨z163, h163, hf⟩ := bi hf
  refine n_callS (As := [.int (v3 + v4), .int (nI 3)]) (rest := [.int z155, .int v5, .ref aX]) (w2 := [(aX, .inr (5, [.ref (aL 0), .ref (aS 0), .ref (aG 0), .ref (aH 0), .ref (aB 0), .ref (aV 0), .ref (aU 0)]))] ++ (bX4 cyI aS oS ++ (bX3 cyI aG oG ++ (bX1 cyI aL oL ++ (bX4 cyI aU oU ++ (bX1 cyI aV oV ++ (bX2 cyI aB oB ++ bHS cyI cyO aH oH))))))) C dL_act_163 (kL_low l D cyI cyO cyJ  n (v3 + v4) (nI 3) z163 h163) (va_cwS 2 C.ts gL_act_L_low rfl rfl rfl (by decide +kernel) ⟨Nat.le_of_ble_eq_true rfl, Nat.le_of_ble_eq_true rfl⟩) rfl Frm.none rfl (Nat.le_of_ble_eq_true rfl) ⟨Nat.le_of_ble_eq_true rfl, Nat.le_of_ble_eq_true rfl⟩ rfl ?_
  refine n_if_ne (t := 179) C dL_act_166 (by decide) rfl (fun h166 => ?_) (fun h166 => ?_)
  · have hf := iq h166 hf
    refine n_iload_n C dL_act_179 1 rfl rfl ?_
    refine n_iload C dL_act_180 2 rfl rfl ?_
    refine n_iadd C dL_act_182 rfl ?_
    refine n_bipush (v := (nI 100)) C dL_act_183 (by decide) rfl ?_
    obtain ⟨z185, h185, hf⟩ := bi hf
    refine n_callS (As := [.int (v3 + v4), .int (nI 100)]) (rest := [.int z155, .int v5, .ref aX]) (w2 := [(aX, .inr (5, [.ref (aL 0), .ref (aS 0), .ref (aG 0), .ref (aH 0), .ref (aB 0), .ref (aV 0), .ref (aU 0)]))] ++ (bX4 cyI aS oS ++ (bX3 cyI aG oG ++ (bX1 cyI aL oL ++ (bX4 cyI aU oU ++ (bX1 cyI aV oV ++ (bX2 cyI aB oB ++ bHS cyI cyO aH oH))))))) C dL_act_185 (kL_low l D cyI cyO cyJ  n (v3 + v4) (nI 100) z185 h185) (va_cwS 2 C.ts gL_act_L_low rfl rfl rfl (by decide +kernel) ⟨Nat.le_of_ble_eq_true rfl, Nat.le_of_ble_eq_true rfl⟩) rfl Frm.none rfl (Nat.le_of_ble_eq_true rfl) ⟨Nat.le_of_ble_eq_true rfl, Nat.le_of_ble_eq_true rfl⟩ rfl ?_
    exact Wn.sub (lv' := []) [] rfl (tL_act_b188 C CE hls hX hbl hbA n oU oV oB x2 v5 z155 z185 oS oG oL oH hf)
  · have hf := ip h166 hf
    refine n_iload C dL_act_169 2 rfl rfl ?_
    refine n_bipush (v := (nI 100)) C dL_act_171 (by decide) rfl ?_
    obtain ⟨z173, h173, hf⟩ := bi hf
    refine n_callS (As := [.int v4, .int (nI 100)]) (rest := [.int z155, .int v5, .ref aX]) (w2 := [(aX, .inr (5, [.ref (aL 0), .ref (aS 0), .ref (aG 0), .ref (aH 0), .ref (aB 0), .ref (aV 0), .ref (aU 0)]))] ++ (bX4 cyI aS oS ++ (bX3 cyI aG oG ++ (bX1 cyI aL oL ++ (bX4 cyI aU oU ++ (bX1 cyI aV oV ++ (bX2 cyI aB oB ++ bHS cyI cyO aH oH))))))) C dL_act_173 (kL_low l D cyI cyO cyJ  n v4 (nI 100) z173 h173) (va_cwS 2 C.ts gL_act_L_low rfl rfl rfl (by decide +kernel) ⟨Nat.le_of_ble_eq_true rfl, Nat.le_of_ble_eq_true rfl⟩) rfl Frm.none rfl (Nat.le_of_ble_eq_true rfl) ⟨Nat.le_of_ble_eq_true rfl, Nat.le_of_ble_eq_true rfl⟩ rfl ?_
    refine n_goto (t := 188) C dL_act_176 (by decide) ?_
    exact Wn.sub (lv' := []) [] rfl (tL_act_b188 C CE hls hX hbl hbA n oU oV oB x2 v5 z155 z173 oS oG oL oH hf)
set_option maxHeartbeats 4000000 in
set_option maxRecDepth 100000 in
theorem tL_act_b221 {l : Launch} {p : Program} {e : Env} {s : State} {m : MethodId} {args : Array Value} {below : List Frame} {meth : Method} {c : Code} {D : va_G} {A : Nat → Prop} {cyI cyO cyJ : ClassId} {b len : Nat} {xs : Nat → Int32} {aX : Nat} {aS : Nat → Nat} {aG : Nat → Nat} {aL : Nat → Nat} {aU : Nat → Nat} {aV : Nat → Nat} {aB : Nat → Nat} {aH : Nat → Nat} (C : Cx p s m args meth c D (tyG cyI cyO cyJ) A RL cL_act 6 (some .int) wsL_act) (CE : ENVL A s) (hls : l.stackTraces = false) (hX : va_X b len xs s s.heap) (hbl : b < s.heap.size) (hbA : ¬ A b) {z : Int32 × (OB) × (OB) × (OB) × (HS)} (n : Nat) (oU : OB) (oV : OB) (oB : OB) (x2 : Int32) (s1 : Int32) (s2 : Int32) (oS : OB) (oG : OB) (oL : OB) (oH : HS) (hf : fL_act_b221 n len xs oU oV oB x2 s1 s2 oS oG oL oH = some z) : Wn p l e rmL_act s m args below meth c D A 6 0 0 (MQ below (Qr D (tyG cyI cyO cyJ) ([(aX, .inr (5, [.ref (aL 0), .ref (aS 0), .ref (aG 0), .ref (aH 0), .ref (aB 0), .ref (aV 0), .ref (aU 0)]))] ++ (bX4 cyI aS z.2.1 ++ (bX3 cyI aG z.2.2.1 ++ (bX1 cyI aL z.2.2.2.1 ++ (bX4 cyI aU oU ++ (bX1 cyI aV oV ++ (bX2 cyI aB oB ++ bHS cyI cyO aH z.2.2.2.2))))))) A (some (.int z.1))) args s 1 6 A) ([(aX, .inr (5, [.ref (aL 0), .ref (aS 0), .ref (aG 0), .ref (aH 0), .ref (aB 0), .ref (aV 0), .ref (aU 0)]))] ++ (bX4 cyI aS oS ++ (bX3 cyI aG oG ++ (bX1 cyI aL oL ++ (bX4 cyI aU oU ++ (bX1 cyI aV oV ++ (bX2 cyI aB oB ++ bHS cyI cyO aH oH))))))) 221 [] [.int s2, .int s1, .ref aX] := by
  unfold fL_act_b221 at hf
  obtain ⟨z221, h221, hf⟩ := bi hf
  obtain ⟨v221, hv221, hf⟩ := bi hf
  refine n_callSW (As := [.ref aX, .int s1, .int s2]) (rest := []) (w2 := [(aX, .inr (5, [.ref (aL 0), .ref (aS 0), .ref (aG 0), .ref (aH 0), .ref (aB 0), .ref (aV 0), .ref (aU 0)]))] ++ (bX4 cyI aS z221.2.1 ++ (bX3 cyI aG oG ++ (bX1 cyI aL z221.2.2.1 ++ (bX4 cyI aU oU ++ (bX1 cyI aV oV ++ (bX2 cyI aB oB ++ bHS cyI cyO aH z221.2.2.2))))))) C CE dL_act_221 (kL_walkover l hls D cyI cyO cyJ aX aS aG aL aU aV aB aH n oS oG oL oU oV oB oH s1 s2 z221 h221 v221 hv221) (vx_cwSW 3 C.ts gL_act_L_walkover rfl rfl rfl (by decide +kernel) ⟨Nat.le_of_ble_eq_true rfl, Nat.le_of_ble_eq_true rfl⟩) rfl Frm.self rfl (Nat.le_of_ble_eq_true rfl) ⟨Nat.le_of_ble_eq_true rfl, Nat.le_of_ble_eq_true rfl⟩ rfl ?_
  refine n_sipush (v := (-333 : Int32)) C dL_act_224 (by decide) rfl ?_
  refine n_icmp_ne (t := 235) C dL_act_227 (by decide) rfl (fun h227 => ?_) (fun h227 => ?_)
  · have hf := iq h227 hf
    refine n_iconst (v := (nI 0)) C dL_act_235 (by decide) rfl ?_
    obtain rfl := Option.some.inj hf
    exact n_iret C dL_act_236
  · have hf := ip h227 hf
    refine n_bipush (v := (-3 : Int32)) C dL_act_230 (by decide) rfl ?_
    refine n_goto (t := 236) C dL_act_232 (by decide) ?_
    obtain rfl := Option.some.inj hf
    exact n_iret C dL_act_236
set_option maxHeartbeats 4000000 in
set_option maxRecDepth 100000 in
theorem tL_act_b204 {l : Launch} {p : Program} {e : Env} {s : State} {m : MethodId} {args : Array Value} {below : List Frame} {meth : Method} {c : Code} {D : va_G} {A : Nat → Prop} {cyI cyO cyJ : ClassId} {b len : Nat} {xs : Nat → Int32} {aX : Nat} {aS : Nat → Nat} {aG : Nat → Nat} {aL : Nat → Nat} {aU : Nat → Nat} {aV : Nat → Nat} {aB : Nat → Nat} {aH : Nat → Nat} (C : Cx p s m args meth c D (tyG cyI cyO cyJ) A RL cL_act 6 (some .int) wsL_act) (CE : ENVL A s) (hls : l.stackTraces = false) (hX : va_X b len xs s s.heap) (hbl : b < s.heap.size) (hbA : ¬ A b) {z : Int32 × (OB) × (OB) × (OB) × (HS)} (n : Nat) (oU : OB) (oV : OB) (oB : OB) (x2 : Int32) (v4 : Int32) (v5 : Int32) (oS : OB) (oG : OB) (oL : OB) (oH : HS) (hf : fL_act_b204 n len xs oU oV oB x2 v4 v5 oS oG oL oH = some z) : Wn p l e rmL_act s m args below meth c D A 6 0 0 (MQ below (Qr D (tyG cyI cyO cyJ) ([(aX, .inr (5, [.ref (aL 0), .ref (aS 0), .ref (aG 0), .ref (aH 0), .ref (aB 0), .ref (aV 0), .ref (aU 0)]))] ++ (bX4 cyI aS z.2.1 ++ (bX3 cyI aG z.2.2.1 ++ (bX1 cyI aL z.2.2.2.1 ++ (bX4 cyI aU oU ++ (bX1 cyI aV oV ++ (bX2 cyI aB oB ++ bHS cyI cyO aH z.2.2.2.2))))))) A (some (.int z.1))) args s 1 6 A) ([(aX, .inr (5, [.ref (aL 0), .ref (aS 0), .ref (aG 0), .ref (aH 0), .ref (aB 0), .ref (aV 0), .ref (aU 0)]))] ++ (bX4 cyI aS oS ++ (bX3 cyI aG oG ++ (bX1 cyI aL oL ++ (bX4 cyI aU oU ++ (bX1 cyI aV oV ++ (bX2 cyI aB oB ++ bHS cyI cyO aH oH))))))) 204 [(0, .ref aX), (4, .int v4), (5, .int v5)] [] := by
  unfold fL_act_b204 at hf
  refine n_aload_n C dL_act_204 0 rfl rfl ?_
  refine n_iload C dL_act_205 2 rfl rfl ?_
  refine n_iload C dL_act_207 1 rfl rfl ?_
  refine n_iconst (v := (nI 2)) C dL_act_209 (by decide) rfl ?_
  obtain ⟨z210, h210, hf⟩ := bi hf
  refine n_callS (As := [.int v4, .int (nI 2)]) (rest := [.int v5, .ref aX]) (w2 := [(aX, .inr (5, [.ref (aL 0), .ref (aS 0), .ref (aG 0), .ref (aH 0), .ref (aB 0), .ref (aV 0), .ref (aU 0)]))] ++ (bX4 cyI aS oS ++ (bX3 cyI aG oG ++ (bX1 cyI aL oL ++ (bX4 cyI aU oU ++ (bX1 cyI aV oV ++ (bX2 cyI aB oB ++ bHS cyI cyO aH oH))))))) C dL_act_210 (kL_low l D cyI cyO cyJ  n v4 (nI 2) z210 h210) (va_cwS 2 C.ts gL_act_L_low rfl rfl rfl (by decide +kernel) ⟨Nat.le_of_ble_eq_true rfl, Nat.le_of_ble_eq_true rfl⟩) rfl Frm.none rfl (Nat.le_of_ble_eq_true rfl) ⟨Nat.le_of_ble_eq_true rfl, Nat.le_of_ble_eq_true rfl⟩ rfl ?_
  refine n_if_ne (t := 220) C dL_act_213 (by decide) rfl (fun h213 => ?_) (fun h213 => ?_)
  · have hf := iq h213 hf
    refine n_iconst (v := (nI 0)) C dL_act_220 (by decide) rfl ?_
    exact Wn.sub (lv' := []) [] rfl (tL_act_b221 C CE hls hX hbl hbA n oU oV oB x2 v5 (nI 0) oS oG oL oH hf)
  · have hf := ip h213 hf
    refine n_iconst (v := (nI 1)) C dL_act_216 (by decide) rfl ?_
    refine n_goto (t := 221) C dL_act_217 (by decide) ?_
    exact Wn.sub (lv' := []) [] rfl (tL_act_b221 C CE hls hX hbl hbA n oU oV oB x2 v5 (nI 1) oS oG oL oH hf)
set_option maxHeartbeats 4000000 in
set_option maxRecDepth 100000 in
theorem kL_act (l : Launch) (hls : l.stackTraces = false) (D : va_G) (cyI cyO cyJ : ClassId) (b len : Nat) (xs : Nat → Int32) (aX : Nat) (aS : Nat → Nat) (aG : Nat → Nat) (aL : Nat → Nat) (aU : Nat → Nat) (aV : Nat → Nat) (aB : Nat → Nat) (aH : Nat → Nat) (n : Nat) (oS : OB) (oG : OB) (oL : OB) (oU : OB) (oV : OB) (oB : OB) (oH : HS) (x2 : Int32) (z : Int32 × (OB) × (OB) × (OB) × (HS)) (hf : fL_act n len xs oS oG oL oU oV oB oH x2 = some z) : Cs l D (tyG cyI cyO cyJ) yL_act wsL_act rmL_act b len xs [.ref aX, .ref b, .int x2] ([(aX, .inr (5, [.ref (aL 0), .ref (aS 0), .ref (aG 0), .ref (aH 0), .ref (aB 0), .ref (aV 0), .ref (aU 0)]))] ++ (bX4 cyI aS oS ++ (bX3 cyI aG oG ++ (bX1 cyI aL oL ++ (bX4 cyI aU oU ++ (bX1 cyI aV oV ++ (bX2 cyI aB oB ++ bHS cyI cyO aH oH))))))) ([(aX, .inr (5, [.ref (aL 0), .ref (aS 0), .ref (aG 0), .ref (aH 0), .ref (aB 0), .ref (aV 0), .ref (aU 0)]))] ++ (bX4 cyI aS z.2.1 ++ (bX3 cyI aG z.2.2.1 ++ (bX1 cyI aL z.2.2.2.1 ++ (bX4 cyI aU oU ++ (bX1 cyI aV oV ++ (bX2 cyI aB oB ++ bHS cyI cyO aH z.2.2.2.2))))))) (some (.int z.1)) := by
  refine Cs.of (cc := cL_act) (nL := 6) (ret := (some .int)) (lv := [(0, .ref aX), (1, .ref b), (2, .int x2)]) (by decide +kernel) rfl rfl (Nat.le_of_ble_eq_true rfl) ?_
  intro p e s m args below meth c A C CE hX hbl hbA
  have C : Cx p s m args meth c D (tyG cyI cyO cyJ) A RL cL_act 6 (some .int) wsL_act := C
  unfold fL_act at hf
  refine n_aload_n C dL_act_0 1 rfl rfl ?_
  refine n_iload_n C dL_act_1 2 rfl rfl ?_
  refine n_iconst (v := (nI 1)) C dL_act_2 (by decide) rfl ?_
  refine n_iadd C dL_act_3 rfl ?_
  obtain ⟨x4, h4, hf⟩ := bi hf
  refine n_callSK (As := [.ref b, .int (x2 + (nI 1))]) (rest := []) C hX hbl hbA dL_act_4 (kL_cell l D cyI cyO cyJ b len xs (x2 + (nI 1)) x4 h4) (va_cwS 2 C.ts gL_act_L_cell rfl rfl rfl (by decide +kernel) ⟨Nat.le_of_ble_eq_true rfl, Nat.le_of_ble_eq_true rfl⟩) rfl rfl (Nat.le_of_ble_eq_true rfl) ⟨Nat.le_of_ble_eq_true rfl, Nat.le_of_ble_eq_true rfl⟩ rfl ?_
  refine n_istore_n (lv' := [(3, .int x4), (0, .ref aX), (1, .ref b), (2, .int x2)]) C dL_act_7 (by decide) rfl rfl ?_
  refine n_aload_n C dL_act_8 2 rfl rfl ?_
  refine n_iload_n C dL_act_9 3 rfl rfl ?_
  refine n_iconst (v := (nI 2)) C dL_act_10 (by decide) rfl ?_
  refine n_iadd C dL_act_11 rfl ?_
  obtain ⟨x12, h12, hf⟩ := bi hf
  refine n_callSK (As := [.ref b, .int (x2 + (nI 2))]) (rest := []) C hX hbl hbA dL_act_12 (kL_cell l D cyI cyO cyJ b len xs (x2 + (nI 2)) x12 h12) (va_cwS 2 C.ts gL_act_L_cell rfl rfl rfl (by decide +kernel) ⟨Nat.le_of_ble_eq_true rfl, Nat.le_of_ble_eq_true rfl⟩) rfl rfl (Nat.le_of_ble_eq_true rfl) ⟨Nat.le_of_ble_eq_true rfl, Nat.le_of_ble_eq_true rfl⟩ rfl ?_
  refine n_istore (lv' := [(4, .int x12), (3, .int x4), (0, .ref aX), (1, .ref b), (2, .int x2)]) C dL_act_15 (by decide) rfl rfl ?_
  refine n_iload_n C dL_act_17 1 rfl rfl ?_
  refine n_aload_n C dL_act_18 2 rfl rfl ?_
  refine n_iconst (v := (nI 2)) C dL_act_19 (by decide) rfl ?_
  obtain ⟨z20, h20, hf⟩ := bi hf
  refine n_callV (As := [.int (nI 2)]) (rest := [.int x4]) (w2 := [(aX, .inr (5, [.ref (aL 0), .ref (aS 0), .ref (aG 0), .ref (aH 0), .ref (aB 0), .ref (aV 0), .ref (aU 0)]))] ++ (bX4 cyI aS z20.2 ++ (bX3 cyI aG oG ++ (bX1 cyI aL oL ++ (bX4 cyI aU oU ++ (bX1 cyI aV oV ++ (bX2 cyI aB oB ++ bHS cyI cyO aH oH))))))) C dL_act_20 (c5n_count l D cyI cyO cyJ aX aS aG aL aU aV aB aH n oS oG oL oU oV oB oH (nI 2) z20 h20) (cwV 1 C.ts gL_act_X5_count rfl rfl rfl (by decide +kernel) ⟨Nat.le_of_ble_eq_true rfl, Nat.le_of_ble_eq_true rfl⟩) rfl (q0 := 0) (ci := 5) rfl rfl Frm.self rfl (Nat.le_of_ble_eq_true rfl) ⟨Nat.le_of_ble_eq_true rfl, Nat.le_of_ble_eq_true rfl⟩ rfl ?_
  obtain ⟨z23, h23, hf⟩ := bi hf
  refine n_callS (As := [.int x4, .int z20.1]) (rest := []) (w2 := [(aX, .inr (5, [.ref (aL 0), .ref (aS 0), .ref (aG 0), .ref (aH 0), .ref (aB 0), .ref (aV 0), .ref (aU 0)]))] ++ (bX4 cyI aS z20.2 ++ (bX3 cyI aG oG ++ (bX1 cyI aL oL ++ (bX4 cyI aU oU ++ (bX1 cyI aV oV ++ (bX2 cyI aB oB ++ bHS cyI cyO aH oH))))))) C dL_act_23 (kL_low l D cyI cyO cyJ  n x4 z20.1 z23 h23) (va_cwS 2 C.ts gL_act_L_low rfl rfl rfl (by decide +kernel) ⟨Nat.le_of_ble_eq_true rfl, Nat.le_of_ble_eq_true rfl⟩) rfl Frm.none rfl (Nat.le_of_ble_eq_true rfl) ⟨Nat.le_of_ble_eq_true rfl, Nat.le_of_ble_eq_true rfl⟩ rfl ?_
  refine n_istore (lv' := [(5, .int z23), (4, .int x12), (3, .int x4), (0, .ref aX), (1, .ref b), (2, .int x2)]) C dL_act_26 (by decide) rfl rfl ?_
  refine n_aload_n C dL_act_28 4 rfl rfl ?_
  refine n_iload_n C dL_act_29 5 rfl rfl ?_
  obtain ⟨x30, h30, hf⟩ := bi hf
  refine n_callSK (As := [.ref b, .int x2]) (rest := []) C hX hbl hbA dL_act_30 (kL_cell l D cyI cyO cyJ b len xs x2 x30 h30) (va_cwS 2 C.ts gL_act_L_cell rfl rfl rfl (by decide +kernel) ⟨Nat.le_of_ble_eq_true rfl, Nat.le_of_ble_eq_true rfl⟩) rfl rfl (Nat.le_of_ble_eq_true rfl) ⟨Nat.le_of_ble_eq_true rfl, Nat.le_of_ble_eq_true rfl⟩ rfl ?_
  refine n_bipush (v := (nI 18)) C dL_act_33 (by decide) rfl ?_
  obtain ⟨z35, h35, hf⟩ := bi hf
  refine n_callS (As := [.int x30, .int (nI 18)]) (rest := []) (w2 := [(aX, .inr (5, [.ref (aL 0), .ref (aS 0), .ref (aG 0), .ref (aH 0), .ref (aB 0), .ref (aV 0), .ref (aU 0)]))] ++ (bX4 cyI aS z20.2 ++ (bX3 cyI aG oG ++ (bX1 cyI aL oL ++ (bX4 cyI aU oU ++ (bX1 cyI aV oV ++ (bX2 cyI aB oB ++ bHS cyI cyO aH oH))))))) C dL_act_35 (kL_low l D cyI cyO cyJ  n x30 (nI 18) z35 h35) (va_cwS 2 C.ts gL_act_L_low rfl rfl rfl (by decide +kernel) ⟨Nat.le_of_ble_eq_true rfl, Nat.le_of_ble_eq_true rfl⟩) rfl Frm.none rfl (Nat.le_of_ble_eq_true rfl) ⟨Nat.le_of_ble_eq_true rfl, Nat.le_of_ble_eq_true rfl⟩ rfl ?_
  by_cases h38_0 : z35 = (nI 0)
  · have hf := ip h38_0 hf
    refine n_tswIn (off := 78) (t := 116) C dL_act_38 (by rw [h38_0]; decide) (by rw [h38_0]; decide) (by rw [h38_0]; decide) (by decide) ?_
    refine n_iload C dL_act_116 1 rfl rfl ?_
    refine n_iconst (v := (nI 2)) C dL_act_118 (by decide) rfl ?_
    obtain ⟨z119, h119, hf⟩ := bi hf
    refine n_callS (As := [.int x12, .int (nI 2)]) (rest := []) (w2 := [(aX, .inr (5, [.ref (aL 0), .ref (aS 0), .ref (aG 0), .ref (aH 0), .ref (aB 0), .ref (aV 0), .ref (aU 0)]))] ++ (bX4 cyI aS z20.2 ++ (bX3 cyI aG oG ++ (bX1 cyI aL oL ++ (bX4 cyI aU oU ++ (bX1 cyI aV oV ++ (bX2 cyI aB oB ++ bHS cyI cyO aH oH))))))) C dL_act_119 (kL_low l D cyI cyO cyJ  n x12 (nI 2) z119 h119) (va_cwS 2 C.ts gL_act_L_low rfl rfl rfl (by decide +kernel) ⟨Nat.le_of_ble_eq_true rfl, Nat.le_of_ble_eq_true rfl⟩) rfl Frm.none rfl (Nat.le_of_ble_eq_true rfl) ⟨Nat.le_of_ble_eq_true rfl, Nat.le_of_ble_eq_true rfl⟩ rfl ?_
    refine n_if_ne (t := 141) C dL_act_122 (by decide) rfl (fun h122 => ?_) (fun h122 => ?_)
    · have hf := iq h122 hf
      refine n_iconst (v := (nI 0)) C dL_act_141 (by decide) rfl ?_
      obtain rfl := Option.some.inj hf
      exact Wn.widen (Nat.zero_le _) (Nat.zero_le _) (n_iret C dL_act_142)
    · have hf := ip h122 hf
      refine n_aload_n C dL_act_125 3 rfl rfl ?_
      refine n_iconst (v := (nI 3)) C dL_act_126 (by decide) rfl ?_
      refine n_iload C dL_act_127 1 rfl rfl ?_
      refine n_bipush (v := (nI 6)) C dL_act_129 (by decide) rfl ?_
      obtain ⟨z131, h131, hf⟩ := bi hf
      refine n_callS (As := [.int x12, .int (nI 6)]) (rest := [.int (nI 3), .ref aX]) (w2 := [(aX, .inr (5, [.ref (aL 0), .ref (aS 0), .ref (aG 0), .ref (aH 0), .ref (aB 0), .ref (aV 0), .ref (aU 0)]))] ++ (bX4 cyI aS z20.2 ++ (bX3 cyI aG oG ++ (bX1 cyI aL oL ++ (bX4 cyI aU oU ++ (bX1 cyI aV oV ++ (bX2 cyI aB oB ++ bHS cyI cyO aH oH))))))) C dL_act_131 (kL_low l D cyI cyO cyJ  n x12 (nI 6) z131 h131) (va_cwS 2 C.ts gL_act_L_low rfl rfl rfl (by decide +kernel) ⟨Nat.le_of_ble_eq_true rfl, Nat.le_of_ble_eq_true rfl⟩) rfl Frm.none rfl (Nat.le_of_ble_eq_true rfl) ⟨Nat.le_of_ble_eq_true rfl, Nat.le_of_ble_eq_true rfl⟩ rfl ?_
      refine n_iadd C dL_act_134 rfl ?_
      obtain ⟨z135, h135, hf⟩ := bi hf
      refine n_callV (As := [.int ((nI 3) + z131)]) (rest := []) (w2 := [(aX, .inr (5, [.ref (aL 0), .ref (aS 0), .ref (aG 0), .ref (aH 0), .ref (aB 0), .ref (aV 0), .ref (aU 0)]))] ++ (bX4 cyI aS z20.2 ++ (bX3 cyI aG oG ++ (bX1 cyI aL z135.2.1 ++ (bX4 cyI aU oU ++ (bX1 cyI aV oV ++ (bX2 cyI aB oB ++ bHS cyI cyO aH z135.2.2))))))) C dL_act_135 (c5n_begin l D cyI cyO cyJ aX aS aG aL aU aV aB aH n z20.2 oG oL oU oV oB oH ((nI 3) + z131) z135 h135) (cwV 1 C.ts gL_act_X5_begin rfl rfl rfl (by decide +kernel) ⟨Nat.le_of_ble_eq_true rfl, Nat.le_of_ble_eq_true rfl⟩) rfl (q0 := 0) (ci := 5) rfl rfl Frm.self rfl (Nat.le_of_ble_eq_true rfl) ⟨Nat.le_of_ble_eq_true rfl, Nat.le_of_ble_eq_true rfl⟩ rfl ?_
      refine n_goto (t := 142) C dL_act_138 (by decide) ?_
      obtain rfl := Option.some.inj hf
      exact Wn.widen (Nat.zero_le _) (Nat.zero_le _) (n_iret C dL_act_142)
  have hf := iq h38_0 hf
  by_cases h38_1 : z35 = (nI 1)
  · have hf := ip h38_1 hf
    refine n_tswIn (off := 105) (t := 143) C dL_act_38 (by rw [h38_1]; decide) (by rw [h38_1]; decide) (by rw [h38_1]; decide) (by decide) ?_
    refine n_aload_n C dL_act_143 3 rfl rfl ?_
    obtain ⟨z144, h144, hf⟩ := bi hf
    refine n_callV (As := []) (rest := []) (w2 := [(aX, .inr (5, [.ref (aL 0), .ref (aS 0), .ref (aG 0), .ref (aH 0), .ref (aB 0), .ref (aV 0), .ref (aU 0)]))] ++ (bX4 cyI aS z20.2 ++ (bX3 cyI aG z144.2.1 ++ (bX1 cyI aL z144.2.2.1 ++ (bX4 cyI aU oU ++ (bX1 cyI aV oV ++ (bX2 cyI aB oB ++ bHS cyI cyO aH z144.2.2.2))))))) C dL_act_144 (c5_stage l D cyI cyO cyJ aX aS aG aL aU aV aB aH n z20.2 oG oL oU oV oB oH z144 h144) (cwV 0 C.ts gL_act_X5_stage rfl rfl rfl (by decide +kernel) ⟨Nat.le_of_ble_eq_true rfl, Nat.le_of_ble_eq_true rfl⟩) rfl (q0 := 0) (ci := 5) rfl rfl Frm.self rfl (Nat.le_of_ble_eq_true rfl) ⟨Nat.le_of_ble_eq_true rfl, Nat.le_of_ble_eq_true rfl⟩ rfl ?_
    obtain rfl := Option.some.inj hf
    exact Wn.widen (Nat.zero_le _) (Nat.zero_le _) (n_iret C dL_act_147)
  have hf := iq h38_1 hf
  by_cases h38_2 : z35 = (nI 2)
  · have hf := ip h38_2 hf
    refine n_tswIn (off := 105) (t := 143) C dL_act_38 (by rw [h38_2]; decide) (by rw [h38_2]; decide) (by rw [h38_2]; decide) (by decide) ?_
    refine n_aload_n C dL_act_143 3 rfl rfl ?_
    obtain ⟨z144, h144, hf⟩ := bi hf
    refine n_callV (As := []) (rest := []) (w2 := [(aX, .inr (5, [.ref (aL 0), .ref (aS 0), .ref (aG 0), .ref (aH 0), .ref (aB 0), .ref (aV 0), .ref (aU 0)]))] ++ (bX4 cyI aS z20.2 ++ (bX3 cyI aG z144.2.1 ++ (bX1 cyI aL z144.2.2.1 ++ (bX4 cyI aU oU ++ (bX1 cyI aV oV ++ (bX2 cyI aB oB ++ bHS cyI cyO aH z144.2.2.2))))))) C dL_act_144 (c5_stage l D cyI cyO cyJ aX aS aG aL aU aV aB aH n z20.2 oG oL oU oV oB oH z144 h144) (cwV 0 C.ts gL_act_X5_stage rfl rfl rfl (by decide +kernel) ⟨Nat.le_of_ble_eq_true rfl, Nat.le_of_ble_eq_true rfl⟩) rfl (q0 := 0) (ci := 5) rfl rfl Frm.self rfl (Nat.le_of_ble_eq_true rfl) ⟨Nat.le_of_ble_eq_true rfl, Nat.le_of_ble_eq_true rfl⟩ rfl ?_
    obtain rfl := Option.some.inj hf
    exact Wn.widen (Nat.zero_le _) (Nat.zero_le _) (n_iret C dL_act_147)
  have hf := iq h38_2 hf
  by_cases h38_3 : z35 = (nI 3)
  · have hf := ip h38_3 hf
    refine n_tswIn (off := 105) (t := 143) C dL_act_38 (by rw [h38_3]; decide) (by rw [h38_3]; decide) (by rw [h38_3]; decide) (by decide) ?_
    refine n_aload_n C dL_act_143 3 rfl rfl ?_
    obtain ⟨z144, h144, hf⟩ := bi hf
    refine n_callV (As := []) (rest := []) (w2 := [(aX, .inr (5, [.ref (aL 0), .ref (aS 0), .ref (aG 0), .ref (aH 0), .ref (aB 0), .ref (aV 0), .ref (aU 0)]))] ++ (bX4 cyI aS z20.2 ++ (bX3 cyI aG z144.2.1 ++ (bX1 cyI aL z144.2.2.1 ++ (bX4 cyI aU oU ++ (bX1 cyI aV oV ++ (bX2 cyI aB oB ++ bHS cyI cyO aH z144.2.2.2))))))) C dL_act_144 (c5_stage l D cyI cyO cyJ aX aS aG aL aU aV aB aH n z20.2 oG oL oU oV oB oH z144 h144) (cwV 0 C.ts gL_act_X5_stage rfl rfl rfl (by decide +kernel) ⟨Nat.le_of_ble_eq_true rfl, Nat.le_of_ble_eq_true rfl⟩) rfl (q0 := 0) (ci := 5) rfl rfl Frm.self rfl (Nat.le_of_ble_eq_true rfl) ⟨Nat.le_of_ble_eq_true rfl, Nat.le_of_ble_eq_true rfl⟩ rfl ?_
    obtain rfl := Option.some.inj hf
    exact Wn.widen (Nat.zero_le _) (Nat.zero_le _) (n_iret C dL_act_147)
  have hf := iq h38_3 hf
  by_cases h38_4 : z35 = (nI 4)
  · have hf := ip h38_4 hf
    refine n_tswIn (off := 110) (t := 148) C dL_act_38 (by rw [h38_4]; decide) (by rw [h38_4]; decide) (by rw [h38_4]; decide) (by decide) ?_
    exact Wn.sub (lv' := [(0, .ref aX), (3, .int x4), (4, .int x12), (5, .int z23)]) [3, 2, 1, 0] rfl (tL_act_b148 C CE hls hX hbl hbA n oU oV oB x2 x4 x12 z23 z20.2 oG oL oH hf)
  have hf := iq h38_4 hf
  by_cases h38_5 : z35 = (nI 5)
  · have hf := ip h38_5 hf
    refine n_tswIn (off := 110) (t := 148) C dL_act_38 (by rw [h38_5]; decide) (by rw [h38_5]; decide) (by rw [h38_5]; decide) (by decide) ?_
    exact Wn.sub (lv' := [(0, .ref aX), (3, .int x4), (4, .int x12), (5, .int z23)]) [3, 2, 1, 0] rfl (tL_act_b148 C CE hls hX hbl hbA n oU oV oB x2 x4 x12 z23 z20.2 oG oL oH hf)
  have hf := iq h38_5 hf
  by_cases h38_6 : z35 = (nI 6)
  · have hf := ip h38_6 hf
    refine n_tswIn (off := 110) (t := 148) C dL_act_38 (by rw [h38_6]; decide) (by rw [h38_6]; decide) (by rw [h38_6]; decide) (by decide) ?_
    exact Wn.sub (lv' := [(0, .ref aX), (3, .int x4), (4, .int x12), (5, .int z23)]) [3, 2, 1, 0] rfl (tL_act_b148 C CE hls hX hbl hbA n oU oV oB x2 x4 x12 z23 z20.2 oG oL oH hf)
  have hf := iq h38_6 hf
  by_cases h38_7 : z35 = (nI 7)
  · have hf := ip h38_7 hf
    refine n_tswIn (off := 110) (t := 148) C dL_act_38 (by rw [h38_7]; decide) (by rw [h38_7]; decide) (by rw [h38_7]; decide) (by decide) ?_
    exact Wn.sub (lv' := [(0, .ref aX), (3, .int x4), (4, .int x12), (5, .int z23)]) [3, 2, 1, 0] rfl (tL_act_b148 C CE hls hX hbl hbA n oU oV oB x2 x4 x12 z23 z20.2 oG oL oH hf)
  have hf := iq h38_7 hf
  by_cases h38_8 : z35 = (nI 8)
  · have hf := ip h38_8 hf
    refine n_tswIn (off := 110) (t := 148) C dL_act_38 (by rw [h38_8]; decide) (by rw [h38_8]; decide) (by rw [h38_8]; decide) (by decide) ?_
    exact Wn.sub (lv' := [(0, .ref aX), (3, .int x4), (4, .int x12), (5, .int z23)]) [3, 2, 1, 0] rfl (tL_act_b148 C CE hls hX hbl hbA n oU oV oB x2 x4 x12 z23 z20.2 oG oL oH hf)
  have hf := iq h38_8 hf
  by_cases h38_9 : z35 = (nI 9)
  · have hf := ip h38_9 hf
    refine n_tswIn (off := 166) (t := 204) C dL_act_38 (by rw [h38_9]; decide) (by rw [h38_9]; decide) (by rw [h38_9]; decide) (by decide) ?_
    exact Wn.sub (lv' := [(0, .ref aX), (4, .int x12), (5, .int z23)]) [3, 1, 0] rfl (tL_act_b204 C CE hls hX hbl hbA n oU oV oB x2 x12 z23 z20.2 oG oL oH hf)
  have hf := iq h38_9 hf
  by_cases h38_10 : z35 = (nI 10)
  · have hf := ip h38_10 hf
    refine n_tswIn (off := 166) (t := 204) C dL_act_38 (by rw [h38_10]; decide) (by rw [h38_10]; decide) (by rw [h38_10]; decide) (by decide) ?_
    exact Wn.sub (lv' := [(0, .ref aX), (4, .int x12), (5, .int z23)]) [3, 1, 0] rfl (tL_act_b204 C CE hls hX hbl hbA n oU oV oB x2 x12 z23 z20.2 oG oL oH hf)
  have hf := iq h38_10 hf
  by_cases h38_11 : z35 = (nI 11)
  · have hf := ip h38_11 hf
    refine n_tswIn (off := 199) (t := 237) C dL_act_38 (by rw [h38_11]; decide) (by rw [h38_11]; decide) (by rw [h38_11]; decide) (by decide) ?_
    refine n_aload_n C dL_act_237 3 rfl rfl ?_
    refine n_iload C dL_act_238 0 rfl rfl ?_
    obtain ⟨z240, h240, hf⟩ := bi hf
    refine n_callV (As := [.int z23]) (rest := []) (w2 := [(aX, .inr (5, [.ref (aL 0), .ref (aS 0), .ref (aG 0), .ref (aH 0), .ref (aB 0), .ref (aV 0), .ref (aU 0)]))] ++ (bX4 cyI aS z20.2 ++ (bX3 cyI aG oG ++ (bX1 cyI aL z240.2.1 ++ (bX4 cyI aU oU ++ (bX1 cyI aV oV ++ (bX2 cyI aB oB ++ bHS cyI cyO aH z240.2.2))))))) C dL_act_240 (c5n_annul l D cyI cyO cyJ aX aS aG aL aU aV aB aH n z20.2 oG oL oU oV oB oH z23 z240 h240) (cwV 1 C.ts gL_act_X5_annul rfl rfl rfl (by decide +kernel) ⟨Nat.le_of_ble_eq_true rfl, Nat.le_of_ble_eq_true rfl⟩) rfl (q0 := 0) (ci := 5) rfl rfl Frm.self rfl (Nat.le_of_ble_eq_true rfl) ⟨Nat.le_of_ble_eq_true rfl, Nat.le_of_ble_eq_true rfl⟩ rfl ?_
    obtain rfl := Option.some.inj hf
    exact Wn.widen (Nat.zero_le _) (Nat.zero_le _) (n_iret C dL_act_243)
  have hf := iq h38_11 hf
  by_cases h38_12 : z35 = (nI 12)
  · have hf := ip h38_12 hf
    refine n_tswIn (off := 206) (t := 244) C dL_act_38 (by rw [h38_12]; decide) (by rw [h38_12]; decide) (by rw [h38_12]; decide) (by decide) ?_
    refine n_aload_n C dL_act_244 3 rfl rfl ?_
    refine n_iload_n C dL_act_245 2 rfl rfl ?_
    refine n_bipush (v := (nI 6)) C dL_act_246 (by decide) rfl ?_
    obtain ⟨z248, h248, hf⟩ := bi hf
    refine n_callS (As := [.int x4, .int (nI 6)]) (rest := [.ref aX]) (w2 := [(aX, .inr (5, [.ref (aL 0), .ref (aS 0), .ref (aG 0), .ref (aH 0), .ref (aB 0), .ref (aV 0), .ref (aU 0)]))] ++ (bX4 cyI aS z20.2 ++ (bX3 cyI aG oG ++ (bX1 cyI aL oL ++ (bX4 cyI aU oU ++ (bX1 cyI aV oV ++ (bX2 cyI aB oB ++ bHS cyI cyO aH oH))))))) C dL_act_248 (kL_low l D cyI cyO cyJ  n x4 (nI 6) z248 h248) (va_cwS 2 C.ts gL_act_L_low rfl rfl rfl (by decide +kernel) ⟨Nat.le_of_ble_eq_true rfl, Nat.le_of_ble_eq_true rfl⟩) rfl Frm.none rfl (Nat.le_of_ble_eq_true rfl) ⟨Nat.le_of_ble_eq_true rfl, Nat.le_of_ble_eq_true rfl⟩ rfl ?_
    refine n_iload C dL_act_251 1 rfl rfl ?_
    refine n_bipush (v := (nI 127)) C dL_act_253 (by decide) rfl ?_
    refine n_iand C dL_act_255 rfl ?_
    refine n_iload_n C dL_act_256 2 rfl rfl ?_
    refine n_iand C dL_act_257 rfl ?_
    obtain ⟨z258, h258, hf⟩ := bi hf
    refine n_callV (As := [.int z248, .int ((x12 &&& (nI 127)) &&& x4)]) (rest := []) (w2 := [(aX, .inr (5, [.ref (aL 0), .ref (aS 0), .ref (aG 0), .ref (aH 0), .ref (aB 0), .ref (aV 0), .ref (aU 0)]))] ++ (bX4 cyI aS z20.2 ++ (bX3 cyI aG oG ++ (bX1 cyI aL z258.2.1 ++ (bX4 cyI aU oU ++ (bX1 cyI aV oV ++ (bX2 cyI aB oB ++ bHS cyI cyO aH z258.2.2))))))) C dL_act_258 (c5n_close l D cyI cyO cyJ aX aS aG aL aU aV aB aH n z20.2 oG oL oU oV oB oH z248 ((x12 &&& (nI 127)) &&& x4) z258 h258) (cwV 2 C.ts gL_act_X5_close rfl rfl rfl (by decide +kernel) ⟨Nat.le_of_ble_eq_true rfl, Nat.le_of_ble_eq_true rfl⟩) rfl (q0 := 0) (ci := 5) rfl rfl Frm.self rfl (Nat.le_of_ble_eq_true rfl) ⟨Nat.le_of_ble_eq_true rfl, Nat.le_of_ble_eq_true rfl⟩ rfl ?_
    obtain rfl := Option.some.inj hf
    exact Wn.widen (Nat.zero_le _) (Nat.zero_le _) (n_iret C dL_act_261)
  have hf := iq h38_12 hf
  by_cases h38_13 : z35 = (nI 13)
  · have hf := ip h38_13 hf
    refine n_tswIn (off := 224) (t := 262) C dL_act_38 (by rw [h38_13]; decide) (by rw [h38_13]; decide) (by rw [h38_13]; decide) (by decide) ?_
    refine n_aload_n C dL_act_262 3 rfl rfl ?_
    refine n_iload_n C dL_act_263 2 rfl rfl ?_
    refine n_bipush (v := (nI 6)) C dL_act_264 (by decide) rfl ?_
    obtain ⟨z266, h266, hf⟩ := bi hf
    refine n_callS (As := [.int x4, .int (nI 6)]) (rest := [.ref aX]) (w2 := [(aX, .inr (5, [.ref (aL 0), .ref (aS 0), .ref (aG 0), .ref (aH 0), .ref (aB 0), .ref (aV 0), .ref (aU 0)]))] ++ (bX4 cyI aS z20.2 ++ (bX3 cyI aG oG ++ (bX1 cyI aL oL ++ (bX4 cyI aU oU ++ (bX1 cyI aV oV ++ (bX2 cyI aB oB ++ bHS cyI cyO aH oH))))))) C dL_act_266 (kL_low l D cyI cyO cyJ  n x4 (nI 6) z266 h266) (va_cwS 2 C.ts gL_act_L_low rfl rfl rfl (by decide +kernel) ⟨Nat.le_of_ble_eq_true rfl, Nat.le_of_ble_eq_true rfl⟩) rfl Frm.none rfl (Nat.le_of_ble_eq_true rfl) ⟨Nat.le_of_ble_eq_true rfl, Nat.le_of_ble_eq_true rfl⟩ rfl ?_
    refine n_iload C dL_act_269 1 rfl rfl ?_
    refine n_bipush (v := (nI 127)) C dL_act_271 (by decide) rfl ?_
    refine n_iand C dL_act_273 rfl ?_
    refine n_iload_n C dL_act_274 2 rfl rfl ?_
    refine n_iand C dL_act_275 rfl ?_
    obtain ⟨z276, h276, hf⟩ := bi hf
    refine n_callV (As := [.int z266, .int ((x12 &&& (nI 127)) &&& x4)]) (rest := []) (w2 := [(aX, .inr (5, [.ref (aL 0), .ref (aS 0), .ref (aG 0), .ref (aH 0), .ref (aB 0), .ref (aV 0), .ref (aU 0)]))] ++ (bX4 cyI aS z20.2 ++ (bX3 cyI aG oG ++ (bX1 cyI aL z276.2.1 ++ (bX4 cyI aU oU ++ (bX1 cyI aV oV ++ (bX2 cyI aB oB ++ bHS cyI cyO aH z276.2.2))))))) C dL_act_276 (c5n_away l D cyI cyO cyJ aX aS aG aL aU aV aB aH n z20.2 oG oL oU oV oB oH z266 ((x12 &&& (nI 127)) &&& x4) z276 h276) (cwV 2 C.ts gL_act_X5_away rfl rfl rfl (by decide +kernel) ⟨Nat.le_of_ble_eq_true rfl, Nat.le_of_ble_eq_true rfl⟩) rfl (q0 := 0) (ci := 5) rfl rfl Frm.self rfl (Nat.le_of_ble_eq_true rfl) ⟨Nat.le_of_ble_eq_true rfl, Nat.le_of_ble_eq_true rfl⟩ rfl ?_
    obtain rfl := Option.some.inj hf
    exact Wn.widen (Nat.zero_le _) (Nat.zero_le _) (n_iret C dL_act_279)
  have hf := iq h38_13 hf
  by_cases h38_14 : z35 = (nI 14)
  · have hf := ip h38_14 hf
    refine n_tswIn (off := 242) (t := 280) C dL_act_38 (by rw [h38_14]; decide) (by rw [h38_14]; decide) (by rw [h38_14]; decide) (by decide) ?_
    refine n_aload_n C dL_act_280 3 rfl rfl ?_
    refine n_iload_n C dL_act_281 2 rfl rfl ?_
    refine n_iconst (v := (nI 2)) C dL_act_282 (by decide) rfl ?_
    obtain ⟨z283, h283, hf⟩ := bi hf
    refine n_callS (As := [.int x4, .int (nI 2)]) (rest := [.ref aX]) (w2 := [(aX, .inr (5, [.ref (aL 0), .ref (aS 0), .ref (aG 0), .ref (aH 0), .ref (aB 0), .ref (aV 0), .ref (aU 0)]))] ++ (bX4 cyI aS z20.2 ++ (bX3 cyI aG oG ++ (bX1 cyI aL oL ++ (bX4 cyI aU oU ++ (bX1 cyI aV oV ++ (bX2 cyI aB oB ++ bHS cyI cyO aH oH))))))) C dL_act_283 (kL_low l D cyI cyO cyJ  n x4 (nI 2) z283 h283) (va_cwS 2 C.ts gL_act_L_low rfl rfl rfl (by decide +kernel) ⟨Nat.le_of_ble_eq_true rfl, Nat.le_of_ble_eq_true rfl⟩) rfl Frm.none rfl (Nat.le_of_ble_eq_true rfl) ⟨Nat.le_of_ble_eq_true rfl, Nat.le_of_ble_eq_true rfl⟩ rfl ?_
    refine n_iconst (v := (nI 1)) C dL_act_286 (by decide) rfl ?_
    refine n_iload C dL_act_287 1 rfl rfl ?_
    refine n_iconst (v := (nI 3)) C dL_act_289 (by decide) rfl ?_
    obtain ⟨z290, h290, hf⟩ := bi hf
    refine n_callS (As := [.int x12, .int (nI 3)]) (rest := [.int (nI 1), .int z283, .ref aX]) (w2 := [(aX, .inr (5, [.ref (aL 0), .ref (aS 0), .ref (aG 0), .ref (aH 0), .ref (aB 0), .ref (aV 0), .ref (aU 0)]))] ++ (bX4 cyI aS z20.2 ++ (bX3 cyI aG oG ++ (bX1 cyI aL oL ++ (bX4 cyI aU oU ++ (bX1 cyI aV oV ++ (bX2 cyI aB oB ++ bHS cyI cyO aH oH))))))) C dL_act_290 (kL_low l D cyI cyO cyJ  n x12 (nI 3) z290 h290) (va_cwS 2 C.ts gL_act_L_low rfl rfl rfl (by decide +kernel) ⟨Nat.le_of_ble_eq_true rfl, Nat.le_of_ble_eq_true rfl⟩) rfl Frm.none rfl (Nat.le_of_ble_eq_true rfl) ⟨Nat.le_of_ble_eq_true rfl, Nat.le_of_ble_eq_true rfl⟩ rfl ?_
    refine n_iadd C dL_act_293 rfl ?_
    obtain ⟨z294, h294, hf⟩ := bi hf
    obtain ⟨v294, hv294, hf⟩ := bi hf
    replace hv294 := vi_some hv294
    refine n_callX (As := [.int z283, .int ((nI 1) + z290)]) (rest := []) (w2 := [(aX, .inr (5, [.ref (aL 0), .ref (aS 0), .ref (aG 0), .ref (aH 0), .ref (aB 0), .ref (aV 0), .ref (aU 0)]))] ++ (bX4 cyI aS z20.2 ++ (bX3 cyI aG oG ++ (bX1 cyI aL z294.2.1 ++ (bX4 cyI aU oU ++ (bX1 cyI aV oV ++ (bX2 cyI aB oB ++ bHS cyI cyO aH z294.2.2))))))) C CE dL_act_294 (c5_set l hls D cyI cyO cyJ aX aS aG aL aU aV aB aH n z20.2 oG oL oU oV oB oH z283 ((nI 1) + z290) z294 h294) (cwV 2 C.ts gL_act_X5_set rfl rfl rfl (by decide +kernel) ⟨Nat.le_of_ble_eq_true rfl, Nat.le_of_ble_eq_true rfl⟩) rfl (q0 := 0) (ci := 5) rfl rfl Frm.self rfl (Nat.le_of_ble_eq_true rfl) ⟨Nat.le_of_ble_eq_true rfl, Nat.le_of_ble_eq_true rfl⟩ (fun r hr => ?_) (fun E hE => absurd hE (by rw [hv294]; exact fun h => nomatch h))
    rw [hv294] at hr
    obtain rfl := Sum.inr.inj hr
    obtain rfl := Option.some.inj hf
    exact n_iret C dL_act_297
  have hf := iq h38_14 hf
  by_cases h38_15 : z35 = (nI 15)
  · have hf := ip h38_15 hf
    refine n_tswIn (off := 260) (t := 298) C dL_act_38 (by rw [h38_15]; decide) (by rw [h38_15]; decide) (by rw [h38_15]; decide) (by decide) ?_
    refine n_aload_n C dL_act_298 3 rfl rfl ?_
    refine n_iconst (v := (nI 2)) C dL_act_299 (by decide) rfl ?_
    refine n_iload_n C dL_act_300 2 rfl rfl ?_
    refine n_iconst (v := (nI 2)) C dL_act_301 (by decide) rfl ?_
    obtain ⟨z302, h302, hf⟩ := bi hf
    refine n_callS (As := [.int x4, .int (nI 2)]) (rest := [.int (nI 2), .ref aX]) (w2 := [(aX, .inr (5, [.ref (aL 0), .ref (aS 0), .ref (aG 0), .ref (aH 0), .ref (aB 0), .ref (aV 0), .ref (aU 0)]))] ++ (bX4 cyI aS z20.2 ++ (bX3 cyI aG oG ++ (bX1 cyI aL oL ++ (bX4 cyI aU oU ++ (bX1 cyI aV oV ++ (bX2 cyI aB oB ++ bHS cyI cyO aH oH))))))) C dL_act_302 (kL_low l D cyI cyO cyJ  n x4 (nI 2) z302 h302) (va_cwS 2 C.ts gL_act_L_low rfl rfl rfl (by decide +kernel) ⟨Nat.le_of_ble_eq_true rfl, Nat.le_of_ble_eq_true rfl⟩) rfl Frm.none rfl (Nat.le_of_ble_eq_true rfl) ⟨Nat.le_of_ble_eq_true rfl, Nat.le_of_ble_eq_true rfl⟩ rfl ?_
    refine n_iadd C dL_act_305 rfl ?_
    refine n_iconst (v := (nI 1)) C dL_act_306 (by decide) rfl ?_
    refine n_iload C dL_act_307 1 rfl rfl ?_
    refine n_bipush (v := (nI 20)) C dL_act_309 (by decide) rfl ?_
    obtain ⟨z311, h311, hf⟩ := bi hf
    refine n_callS (As := [.int x12, .int (nI 20)]) (rest := [.int (nI 1), .int ((nI 2) + z302), .ref aX]) (w2 := [(aX, .inr (5, [.ref (aL 0), .ref (aS 0), .ref (aG 0), .ref (aH 0), .ref (aB 0), .ref (aV 0), .ref (aU 0)]))] ++ (bX4 cyI aS z20.2 ++ (bX3 cyI aG oG ++ (bX1 cyI aL oL ++ (bX4 cyI aU oU ++ (bX1 cyI aV oV ++ (bX2 cyI aB oB ++ bHS cyI cyO aH oH))))))) C dL_act_311 (kL_low l D cyI cyO cyJ  n x12 (nI 20) z311 h311) (va_cwS 2 C.ts gL_act_L_low rfl rfl rfl (by decide +kernel) ⟨Nat.le_of_ble_eq_true rfl, Nat.le_of_ble_eq_true rfl⟩) rfl Frm.none rfl (Nat.le_of_ble_eq_true rfl) ⟨Nat.le_of_ble_eq_true rfl, Nat.le_of_ble_eq_true rfl⟩ rfl ?_
    refine n_iadd C dL_act_314 rfl ?_
    obtain ⟨z315, h315, hf⟩ := bi hf
    obtain ⟨v315, hv315, hf⟩ := bi hf
    replace hv315 := vi_some hv315
    refine n_callX (As := [.int ((nI 2) + z302), .int ((nI 1) + z311)]) (rest := []) (w2 := [(aX, .inr (5, [.ref (aL 0), .ref (aS 0), .ref (aG 0), .ref (aH 0), .ref (aB 0), .ref (aV 0), .ref (aU 0)]))] ++ (bX4 cyI aS z20.2 ++ (bX3 cyI aG oG ++ (bX1 cyI aL z315.2.1 ++ (bX4 cyI aU oU ++ (bX1 cyI aV oV ++ (bX2 cyI aB oB ++ bHS cyI cyO aH z315.2.2))))))) C CE dL_act_315 (c5_set l hls D cyI cyO cyJ aX aS aG aL aU aV aB aH n z20.2 oG oL oU oV oB oH ((nI 2) + z302) ((nI 1) + z311) z315 h315) (cwV 2 C.ts gL_act_X5_set rfl rfl rfl (by decide +kernel) ⟨Nat.le_of_ble_eq_true rfl, Nat.le_of_ble_eq_true rfl⟩) rfl (q0 := 0) (ci := 5) rfl rfl Frm.self rfl (Nat.le_of_ble_eq_true rfl) ⟨Nat.le_of_ble_eq_true rfl, Nat.le_of_ble_eq_true rfl⟩ (fun r hr => ?_) (fun E hE => absurd hE (by rw [hv315]; exact fun h => nomatch h))
    rw [hv315] at hr
    obtain rfl := Sum.inr.inj hr
    obtain rfl := Option.some.inj hf
    exact n_iret C dL_act_318
  have hf := iq h38_15 hf
  refine n_tswOut (t := 319) C dL_act_38 (tsw_out 0 16 (fun i hi => by rcases i with _|_|_|_|_|_|_|_|_|_|_|_|_|_|_|_|i <;> first | exact h38_0 | exact h38_1 | exact h38_2 | exact h38_3 | exact h38_4 | exact h38_5 | exact h38_6 | exact h38_7 | exact h38_8 | exact h38_9 | exact h38_10 | exact h38_11 | exact h38_12 | exact h38_13 | exact h38_14 | exact h38_15 | omega)) (by decide) ?_
  refine n_aload_n C dL_act_319 3 rfl rfl ?_
  obtain ⟨z320, h320, hf⟩ := bi hf
  obtain ⟨v320, hv320, hf⟩ := bi hf
  refine n_callSW (As := [.ref aX]) (rest := []) (w2 := [(aX, .inr (5, [.ref (aL 0), .ref (aS 0), .ref (aG 0), .ref (aH 0), .ref (aB 0), .ref (aV 0), .ref (aU 0)]))] ++ (bX4 cyI aS z20.2 ++ (bX3 cyI aG oG ++ (bX1 cyI aL z320.2.1 ++ (bX4 cyI aU oU ++ (bX1 cyI aV oV ++ (bX2 cyI aB oB ++ bHS cyI cyO aH z320.2.2))))))) C CE dL_act_320 (kL_undo l hls D cyI cyO cyJ aX aS aG aL aU aV aB aH n z20.2 oG oL oU oV oB oH z320 h320 v320 hv320) (vx_cwSW 1 C.ts gL_act_L_undo rfl rfl rfl (by decide +kernel) ⟨Nat.le_of_ble_eq_true rfl, Nat.le_of_ble_eq_true rfl⟩) rfl Frm.self rfl (Nat.le_of_ble_eq_true rfl) ⟨Nat.le_of_ble_eq_true rfl, Nat.le_of_ble_eq_true rfl⟩ rfl ?_
  obtain rfl := Option.some.inj hf
  exact n_iret C dL_act_323
