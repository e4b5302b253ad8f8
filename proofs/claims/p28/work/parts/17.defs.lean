/-! FUNCTIONS ALONE: the reference, the buffer, the faces as they throw (no contract of them is needed here) -/
def f2_add (n : Nat) (oB : OB) (x1 : Int32) : Option ((OB)) :=
  (if (oB.1 0) < (0 : Int32) then some oB else (if (nI 60) ≤ (oB.1 0) then some oB else (oast oB 1 60 (oB.1 0) x1).bind fun oB_25 => (some (gsi oB_25 0 ((oB_25.1 0) + (nI 1)))).bind fun oB_33 => some oB_33))
def f2_beginNumber_m (n : Nat) (oB : OB) (x2 : Int32) (x3 : Int32) : Option (Int32 × (OB)) :=
  (if x2 < (nI 48) then some ((nI 8), oB) else (if (nI 57) < x2 then some ((nI 8), oB) else (if (oB.1 6) < (0 : Int32) then some ((nI 8), oB) else (if (oB.1 6) < (nI 12) then (oast oB 2 12 (oB.1 6) (x2 - (nI 48))).bind fun oB_40 => some (x3, oB_40) else some ((nI 8), oB)))))
def f2_growNumber_m (n : Nat) (oB : OB) (x2 : Int32) (x3 : Int32) : Option (Int32 × (OB)) :=
  (if x2 < (nI 48) then some ((nI 8), oB) else (if (nI 57) < x2 then some ((nI 8), oB) else (if (oB.1 6) < (0 : Int32) then some ((nI 8), oB) else (if (oB.1 6) < (nI 12) then (ald 12 (oB.2 2) (oB.1 6)).bind fun x36 => (ald 12 (oB.2 2) (oB.1 6)).bind fun x52 => (if x52 = (0 : Int32) then some ((nI 8), oB) else (if (((x36 * (nI 10)) + x2) - (nI 48)) ≤ x3 then (oast oB 2 12 (oB.1 6) (((x36 * (nI 10)) + x2) - (nI 48))).bind fun oB_72 => some (oB_72.1 7, oB_72) else some ((nI 8), oB))) else some ((nI 8), oB)))))
def f2_beginNumber_f (n : Nat) (oB : OB) (x2 : Int32) (x3 : Int32) : Option (Int32 × (OB)) :=
  (if x2 < (nI 48) then some ((nI 8), oB) else (if (nI 57) < x2 then some ((nI 8), oB) else (if (oB.1 6) < (0 : Int32) then some ((nI 8), oB) else (if (oB.1 6) < (nI 12) then (oast oB 4 12 (oB.1 6) (x2 - (nI 48))).bind fun oB_40 => some (x3, oB_40) else some ((nI 8), oB)))))
def f2_growNumber_f (n : Nat) (oB : OB) (x2 : Int32) (x3 : Int32) : Option (Int32 × (OB)) :=
  (if x2 < (nI 48) then some ((nI 8), oB) else (if (nI 57) < x2 then some ((nI 8), oB) else (if (oB.1 6) < (0 : Int32) then some ((nI 8), oB) else (if (oB.1 6) < (nI 12) then (ald 12 (oB.2 4) (oB.1 6)).bind fun x36 => (ald 12 (oB.2 4) (oB.1 6)).bind fun x52 => (if x52 = (0 : Int32) then some ((nI 8), oB) else (if (((x36 * (nI 10)) + x2) - (nI 48)) ≤ x3 then (oast oB 4 12 (oB.1 6) (((x36 * (nI 10)) + x2) - (nI 48))).bind fun oB_72 => some (oB_72.1 7, oB_72) else some ((nI 8), oB))) else some ((nI 8), oB)))))
def f2_beginNumber_s (n : Nat) (oB : OB) (x2 : Int32) (x3 : Int32) : Option (Int32 × (OB)) :=
  (if x2 < (nI 48) then some ((nI 8), oB) else (if (nI 57) < x2 then some ((nI 8), oB) else (if (oB.1 6) < (0 : Int32) then some ((nI 8), oB) else (if (oB.1 6) < (nI 12) then (oast oB 5 12 (oB.1 6) (x2 - (nI 48))).bind fun oB_40 => some (x3, oB_40) else some ((nI 8), oB)))))
def f2_growNumber_s (n : Nat) (oB : OB) (x2 : Int32) (x3 : Int32) : Option (Int32 × (OB)) :=
  (if x2 < (nI 48) then some ((nI 8), oB) else (if (nI 57) < x2 then some ((nI 8), oB) else (if (oB.1 6) < (0 : Int32) then some ((nI 8), oB) else (if (oB.1 6) < (nI 12) then (ald 12 (oB.2 5) (oB.1 6)).bind fun x36 => (ald 12 (oB.2 5) (oB.1 6)).bind fun x52 => (if x52 = (0 : Int32) then some ((nI 8), oB) else (if (((x36 * (nI 10)) + x2) - (nI 48)) ≤ x3 then (oast oB 5 12 (oB.1 6) (((x36 * (nI 10)) + x2) - (nI 48))).bind fun oB_72 => some (oB_72.1 7, oB_72) else some ((nI 8), oB))) else some ((nI 8), oB)))))
def f2_endPart (n : Nat) (oB : OB) : Option (Int32 × (OB)) :=
  (some (gsi oB 6 ((oB.1 6) + (nI 1)))).bind fun oB_7 => some ((nI 0), oB_7)
def f2_takeGiver_b50 (n : Nat) (x1 : Int32) (s1 : Int32) (s2 : Int32) (oB : OB) : Option (Int32 × (OB)) :=
  (oast oB 3 12 s1 s2).bind fun oB_50 => (oast oB_50 4 12 (oB_50.1 6) (nI 0)).bind fun oB_60 => (oast oB_60 5 12 (oB_60.1 6) (nI 0)).bind fun oB_70 => some ((nI 7), oB_70)
def f2_takeGiver_b12 (n : Nat) (x1 : Int32) (oB : OB) : Option (Int32 × (OB)) :=
  (if (oB.1 6) < (0 : Int32) then some ((nI 8), oB) else (if (oB.1 6) < (nI 12) then (if x1 = (nI 49) then f2_takeGiver_b50 n x1 (oB.1 6) (nI 2) oB else f2_takeGiver_b50 n x1 (oB.1 6) (nI 3) oB) else some ((nI 8), oB)))
def f2_takeGiver (n : Nat) (oB : OB) (x1 : Int32) : Option (Int32 × (OB)) :=
  (if x1 = (nI 49) then f2_takeGiver_b12 n x1 oB else (if x1 = (nI 50) then f2_takeGiver_b12 n x1 oB else some ((nI 8), oB)))
def f2_beginSecondScore (n : Nat) (oB : OB) (x1 : Int32) : Option (Int32 × (OB)) :=
  (if (oB.1 6) < (0 : Int32) then some ((nI 8), oB) else (if (oB.1 6) < (nI 12) then (oast oB 3 12 (oB.1 6) (nI 1)).bind fun oB_28 => (f2_beginNumber_s n oB_28 x1 (nI 5)).bind fun z36 => some (z36.1, z36.2) else some ((nI 8), oB)))
def f2_next (n : Nat) (oB : OB) (x1 : Int32) : Option (Int32 × (OB)) :=
  (if (oB.1 7) = (nI 0) then (f2_beginNumber_m n oB x1 (nI 1)).bind fun z59 => some (z59.1, z59.2) else (if (oB.1 7) = (nI 1) then (if x1 = (nI 61) then some ((nI 2), oB) else (f2_growNumber_m n oB x1 (nI 27)).bind fun z81 => some (z81.1, z81.2)) else (if (oB.1 7) = (nI 2) then (if x1 = (nI 119) then some ((nI 6), oB) else (f2_beginNumber_f n oB x1 (nI 3)).bind fun z103 => some (z103.1, z103.2)) else (if (oB.1 7) = (nI 3) then (if x1 = (nI 58) then some ((nI 4), oB) else (f2_growNumber_f n oB x1 (nI 99)).bind fun z125 => some (z125.1, z125.2)) else (if (oB.1 7) = (nI 4) then (f2_beginSecondScore n oB x1).bind fun z131 => some (z131.1, z131.2) else (if (oB.1 7) = (nI 5) then (if x1 = (nI 59) then (f2_endPart n oB).bind fun z142 => some (z142.1, z142.2) else (f2_growNumber_s n oB x1 (nI 99)).bind fun z156 => some (z156.1, z156.2)) else (if (oB.1 7) = (nI 6) then (f2_takeGiver n oB x1).bind fun z162 => some (z162.1, z162.2) else (if (oB.1 7) = (nI 7) then (if x1 = (nI 59) then (f2_endPart n oB).bind fun z173 => some (z173.1, z173.2) else some ((nI 8), oB)) else some ((nI 8), oB)))))))))
def f2_read_b71 (n : Nat) (oB : OB) : Option (Int32 × (OB)) :=
  some (oB.1 0, oB)
def f2_read_b51 (n : Nat) (k12 : Int32 → OB → Option (Int32 × (OB))) (k71 : OB → Option (Int32 × (OB))) (v1 : Int32) (s1 : Int32) (oB : OB) : Option (Int32 × (OB)) :=
  (some (gsi oB 7 s1)).bind fun oB_51 => (if (oB_51.1 7) = (nI 8) then some (v1, oB_51) else k12 (v1 + (nI 1)) oB_51)
def f2_read_b12 (n : Nat) (k71 : OB → Option (Int32 × (OB))) : Nat → Int32 → OB → Option (Int32 × (OB))
  | 0, _, _ => none
  | k + 1, v1, oB =>
    (if (oB.1 0) ≤ v1 then k71 oB else (if (nI 60) ≤ v1 then k71 oB else (if (nI 12) ≤ (oB.1 6) then f2_read_b51 n (f2_read_b12 n k71 k) k71 v1 (nI 8) oB else (ald 60 (oB.2 1) v1).bind fun x42 => (f2_next n oB x42).bind fun z43 => f2_read_b51 n (f2_read_b12 n k71 k) k71 v1 z43.1 z43.2)))
def f2_read (n : Nat) (oB : OB) : Option (Int32 × (OB)) :=
  (some (gsi oB 6 (nI 0))).bind fun oB_2 => (some (gsi oB_2 7 (nI 0))).bind fun oB_7 => f2_read_b12 n (fun oB => f2_read_b71 n oB) n (nI 0) oB_7
def f2_isComplete (n : Nat) (oB : OB) : Option (Int32) :=
  (if (oB.1 7) = (nI 5) then some (nI 1) else (if (oB.1 7) = (nI 7) then some (nI 1) else some (nI 0)))
def f2_parts (n : Nat) (oB : OB) : Option (Int32) :=
  (f2_isComplete n oB).bind fun z1 => (if z1 = (0 : Int32) then some (nI 0) else (some (if (nI 12) < ((oB.1 6) + (nI 1)) then (nI 12) else ((oB.1 6) + (nI 1)))).bind fun x15 => some x15)
def f6_thrown (n : Nat) (oM : OB) : Option (Int32) :=
  some (oM.1 6)
def f6_fails (n : Nat) (oM : OB) (x1 : Int32) : Option (Int32 × (OB)) :=
  (some (gsi oM 6 x1)).bind fun oM_2 => some ((nI 0), oM_2)
def f6_in (n : Nat) (x0 : Int32) (x1 : Int32) (x2 : Int32) : Option (Int32) :=
  (if x0 < x1 then some (nI 0) else (if x2 < x0 then some (nI 0) else some (nI 1)))
def f6_isMatch (n : Nat) (oM : OB) (x1 : Int32) : Option (Int32) :=
  (ald 270 (oM.2 0) (nI 5)).bind fun x7 => (f6_in n x1 (nI 0) (x7 - (nI 1))).bind fun z10 => (zo z10).bind fun y13 => some y13
def f6_isTeam (n : Nat) (oM : OB) (x1 : Int32) : Option (Int32) :=
  (ald 270 (oM.2 0) (nI 4)).bind fun x7 => (f6_in n x1 (nI 0) (x7 - (nI 1))).bind fun z10 => (zo z10).bind fun y13 => some y13
def f6_of (n : Nat) (oR : Nat → Int32) (x1 : Int32) (x2 : Int32) : Option (Int32) :=
  (ald 270 oR (((nI 18) + ((nI 9) * x1)) + x2)).bind fun x10 => some x10
def f6_rounds (n : Nat) (oR : Nat → Int32) : Option (Int32) :=
  (ald 270 oR (nI 4)).bind fun x2 => (ald 270 oR (nI 4)).bind fun x7 => some ((x2 - (nI 1)) + (x7 - x7 / (nI 2) * (nI 2)))
def f6_copies_b3 (n : Nat) (nP : Nat) (oP : Nat → Int32) (nR : Nat) (x1 : Int32) (x3 : Int32) : Nat → Int32 → (Nat → Int32) → Option ((Nat → Int32))
  | 0, _, _ => none
  | k + 1, v4, oR =>
    (if (nI 270) ≤ v4 then some oR else (ald nP oP (x1 + v4)).bind fun x21 => (ast nR oR (x3 + v4) x21).bind fun oR_22 => (f6_copies_b3 n nP oP nR x1 x3 k) (v4 + (nI 1)) oR_22)
def f6_copies (n : Nat) (nP : Nat) (oP : Nat → Int32) (nR : Nat) (oR : Nat → Int32) (x1 : Int32) (x3 : Int32) : Option ((Nat → Int32)) :=
  f6_copies_b3 n nP oP nR x1 x3 n (nI 0) oR
def f6_copies_b_b3 (n : Nat) (nR : Nat) (nP : Nat) (oP : Nat → Int32) (x1 : Int32) (x3 : Int32) : Nat → Int32 → (Nat → Int32) → Option ((Nat → Int32))
  | 0, _, _ => none
  | k + 1, v4, oR =>
    (if (nI 270) ≤ v4 then some oR else (ald nP oP (x1 + v4)).bind fun x21 => (ast nR oR (x3 + v4) x21).bind fun oR_22 => (f6_copies_b_b3 n nR nP oP x1 x3 k) (v4 + (nI 1)) oR_22)
def f6_copies_b (n : Nat) (nR : Nat) (oR : Nat → Int32) (nP : Nat) (oP : Nat → Int32) (x1 : Int32) (x3 : Int32) : Option ((Nat → Int32)) :=
  f6_copies_b_b3 n nR nP oP x1 x3 n (nI 0) oR
def f6_saves_b50 (n : Nat) (oM : OB) : Option ((OB)) :=
  (f6_copies n 270 (oM.2 0) 1620 (oM.2 2) (nI 0) ((nI 270) * (oM.1 3))).bind fun z67 => (some (gsi (gsa oM 2 z67) 3 (((gsa oM 2 z67).1 3) + (nI 1)))).bind fun oM_77 => some oM_77
def f6_saves_b40 (n : Nat) (oM : OB) : Option ((OB)) :=
  (some (gsi oM 3 ((oM.1 3) - (nI 1)))).bind fun oM_47 => f6_saves_b50 n oM_47
def f6_saves_b11 (n : Nat) (k40 : OB → Option ((OB))) : Nat → Int32 → OB → Option ((OB))
  | 0, _, _ => none
  | k + 1, v1, oM =>
    (if (nI 1350) ≤ v1 then k40 oM else (ald 1620 (oM.2 2) (v1 + (nI 270))).bind fun x32 => (oast oM 2 1620 v1 x32).bind fun oM_33 => (f6_saves_b11 n k40 k) (v1 + (nI 1)) oM_33)
def f6_saves (n : Nat) (oM : OB) : Option ((OB)) :=
  (if (oM.1 3) = (nI 6) then f6_saves_b11 n (fun oM => f6_saves_b40 n oM) n (nI 0) oM else f6_saves_b50 n oM)
def f6_undo (n : Nat) (oM : OB) : Option (Int32 × (OB)) :=
  (some (gsi oM 6 (nI 0))).bind fun oM_2 => (if (oM_2.1 3) = (0 : Int32) then (f6_fails n oM_2 (nI 1)).bind fun z14 => some (z14.1, z14.2) else (some (gsi oM_2 3 ((oM_2.1 3) - (nI 1)))).bind fun oM_25 => (f6_copies_b n 270 (oM_25.2 0) 1620 (oM_25.2 2) ((nI 270) * (oM_25.1 3)) (nI 0)).bind fun z45 => some ((gsa oM_25 0 z45).1 3, gsa oM_25 0 z45))
def f6_pairs (n : Nat) (oM : OB) (x1 : Int32) (x2 : Int32) (x3 : Int32) : Option ((OB)) :=
  (ald 270 (oM.2 0) (nI 4)).bind fun x6 => (if x6 ≤ x2 then some oM else (ald 270 (oM.2 0) (nI 4)).bind fun x16 => (if x16 ≤ x3 then some oM else (ald 270 (oM.2 0) (nI 5)).bind fun x29 => (oast oM 0 270 ((nI 18) + ((nI 9) * x29)) x1).bind fun oM_41 => (oast oM_41 0 270 (((nI 18) + ((nI 9) * x29)) + (nI 1)) x2).bind fun oM_51 => (oast oM_51 0 270 (((nI 18) + ((nI 9) * x29)) + (nI 2)) x3).bind fun oM_61 => (oast oM_61 0 270 (((nI 18) + ((nI 9) * x29)) + (nI 3)) (-1 : Int32)).bind fun oM_71 => (oast oM_71 0 270 (((nI 18) + ((nI 9) * x29)) + (nI 4)) (-1 : Int32)).bind fun oM_81 => (ald 270 (oM_81.2 0) (nI 5)).bind fun x88 => (oast oM_81 0 270 (nI 5) (x88 + (nI 1))).bind fun oM_91 => some oM_91))
def f6_begins_b95 (n : Nat) (x1 : Int32) (k37 : Int32 → Int32 → OB → Option ((OB))) (v2 : Int32) (v3 : Int32) (oM : OB) : Option ((OB)) :=
  k37 v2 (v3 + (nI 1)) oM
def f6_begins_b56 (n : Nat) (x1 : Int32) (k95 : Int32 → Int32 → OB → Option ((OB))) : Nat → Int32 → Int32 → Int32 → OB → Option ((OB))
  | 0, _, _, _, _ => none
  | k + 1, v2, v3, v4, oM =>
    (if (v2 / (nI 2)) ≤ v4 then k95 v2 v3 oM else (nz (v2 - (nI 1))).bind fun _ => (nz (v2 - (nI 1))).bind fun _ => (f6_pairs n oM v3 ((v3 + v4) - (v3 + v4) / (v2 - (nI 1)) * (v2 - (nI 1))) ((((v3 - v4) + v2) - (nI 1)) - (((v3 - v4) + v2) - (nI 1)) / (v2 - (nI 1)) * (v2 - (nI 1)))).bind fun z86 => (f6_begins_b56 n x1 k95 k) v2 v3 (v4 + (nI 1)) z86)
def f6_begins_b37 (n : Nat) (x1 : Int32) : Nat → Int32 → Int32 → OB → Option ((OB))
  | 0, _, _, _ => none
  | k + 1, v2, v3, oM =>
    (if (v2 - (nI 1)) ≤ v3 then some oM else (f6_pairs n oM v3 (v2 - (nI 1)) v3).bind fun z50 => f6_begins_b56 n x1 (fun v2 v3 oM => f6_begins_b95 n x1 (f6_begins_b37 n x1 k) v2 v3 oM) n v2 v3 (nI 1) z50)
def f6_begins_b22 (n : Nat) (x1 : Int32) (oM : OB) : Option ((OB)) :=
  (oast oM 0 270 (nI 4) x1).bind fun oM_28 => f6_begins_b37 n x1 n (x1 + (x1 - x1 / (nI 2) * (nI 2))) (nI 0) oM_28
def f6_begins_b2 (n : Nat) (x1 : Int32) (k22 : OB → Option ((OB))) : Nat → Int32 → OB → Option ((OB))
  | 0, _, _ => none
  | k + 1, v2, oM =>
    (if (nI 270) ≤ v2 then k22 oM else (oast oM 0 270 v2 (nI 0)).bind fun oM_15 => (f6_begins_b2 n x1 k22 k) (v2 + (nI 1)) oM_15)
def f6_begins (n : Nat) (oM : OB) (x1 : Int32) : Option ((OB)) :=
  f6_begins_b2 n x1 (fun oM => f6_begins_b22 n x1 oM) n (nI 4) oM
def f6_begin (n : Nat) (oM : OB) (x1 : Int32) : Option (Int32 × (OB)) :=
  (some (gsi oM 6 (nI 0))).bind fun oM_2 => (f6_in n x1 (nI 3) (nI 8)).bind fun z9 => (if z9 = (0 : Int32) then (f6_fails n oM_2 (nI 1)).bind fun z17 => some (z17.1, z17.2) else (f6_saves n oM_2).bind fun z22 => (f6_begins n z22 x1).bind fun z27 => (ald 270 (z27.2 0) (nI 5)).bind fun x35 => some (x35, z27))
def f6_having_b6 (n : Nat) (oR : Nat → Int32) (x1 : Int32) (x2 : Int32) (x3 : Int32) : Nat → Int32 → Int32 → Option (Int32)
  | 0, _, _ => none
  | k + 1, v4, v5 =>
    (ald 270 oR (nI 5)).bind fun x10 => (if x10 ≤ v5 then some v4 else (f6_of n oR v5 x1).bind fun z20 => (if z20 = x2 then (if x3 = (-1 : Int32) then (f6_having_b6 n oR x1 x2 x3 k) (v4 + (nI 1)) (v5 + (nI 1)) else (f6_of n oR v5 (nI 0)).bind fun z36 => (if z36 = x3 then (f6_having_b6 n oR x1 x2 x3 k) (v4 + (nI 1)) (v5 + (nI 1)) else (f6_having_b6 n oR x1 x2 x3 k) (v4 + (nI 0)) (v5 + (nI 1)))) else (f6_having_b6 n oR x1 x2 x3 k) (v4 + (nI 0)) (v5 + (nI 1))))
def f6_having (n : Nat) (oR : Nat → Int32) (x1 : Int32) (x2 : Int32) (x3 : Int32) : Option (Int32) :=
  f6_having_b6 n oR x1 x2 x3 n (nI 0) (nI 0)
def f6_isNeutral (n : Nat) (oR : Nat → Int32) (x1 : Int32) (x2 : Int32) : Option (Int32) :=
  (f6_of n oR x1 (nI 1)).bind fun z3 => (if (z3 - z3 / (nI 6) * (nI 6)) = x2 then some (nI 0) else (f6_of n oR x1 (nI 2)).bind fun z16 => (if (z16 - z16 / (nI 6) * (nI 6)) = x2 then some (nI 0) else some (nI 1)))
def f6_maySet (n : Nat) (oR : Nat → Int32) (x1 : Int32) (x2 : Int32) : Option (Int32) :=
  (ald 270 oR (nI 4)).bind fun x3 => (nz x3).bind fun _ => (f6_of n oR x1 (nI 1)).bind fun z9 => (if z9 = (x2 - x2 / x3 * x3) then some (nI 0) else (f6_of n oR x1 (nI 2)).bind fun z19 => (if z19 = (x2 - x2 / x3 * x3) then some (nI 0) else (f6_having n oR (nI 4) x2 (-1 : Int32)).bind fun z30 => (ald 270 oR (nI 3)).bind fun x35 => (if x35 ≤ z30 then some (nI 0) else some (nI 1))))
def f6_found_b101 (n : Nat) (oR : Nat → Int32) (x1 : Int32) (x2 : Int32) (k24 : Int32 → Int32 → Int32 → Int32 → Option (Int32)) (v3 : Int32) (v4 : Int32) (v5 : Int32) (v6 : Int32) (s0 : Int32) : Option (Int32) :=
  (if s0 = (0 : Int32) then k24 v3 v4 v5 (v6 + (nI 1)) else (if v3 = (-1 : Int32) then k24 v6 v4 v5 (v6 + (nI 1)) else (f6_having n oR v4 v6 (-1 : Int32)).bind fun z119 => (f6_having n oR v4 v3 (-1 : Int32)).bind fun z127 => (if z127 ≤ z119 then k24 v3 v4 v5 (v6 + (nI 1)) else k24 v6 v4 v5 (v6 + (nI 1)))))
def f6_found_b71 (n : Nat) (oR : Nat → Int32) (x1 : Int32) (x2 : Int32) (k24 : Int32 → Int32 → Int32 → Int32 → Option (Int32)) (v3 : Int32) (v4 : Int32) (v5 : Int32) (v6 : Int32) (s1 : Int32) : Option (Int32) :=
  (ald 270 oR (s1 + v6)).bind fun x74 => (if ((x74 >>> (v5 &&& 31)) &&& (nI 1)) = (0 : Int32) then (f6_having n oR v4 v6 v5).bind fun z90 => (if z90 = (0 : Int32) then f6_found_b101 n oR x1 x2 k24 v3 v4 v5 v6 (nI 1) else f6_found_b101 n oR x1 x2 k24 v3 v4 v5 v6 (nI 0)) else f6_found_b101 n oR x1 x2 k24 v3 v4 v5 v6 (nI 0))
def f6_found_b52 (n : Nat) (oR : Nat → Int32) (x1 : Int32) (x2 : Int32) (k24 : Int32 → Int32 → Int32 → Int32 → Option (Int32)) (v3 : Int32) (v4 : Int32) (v5 : Int32) (v6 : Int32) (s0 : Int32) : Option (Int32) :=
  (if s0 = (0 : Int32) then f6_found_b101 n oR x1 x2 k24 v3 v4 v5 v6 (nI 0) else (if x2 = (0 : Int32) then f6_found_b71 n oR x1 x2 k24 v3 v4 v5 v6 (nI 12) else f6_found_b71 n oR x1 x2 k24 v3 v4 v5 v6 (nI 6)))
def f6_found_b24 (n : Nat) (oR : Nat → Int32) (x1 : Int32) (x2 : Int32) : Nat → Int32 → Int32 → Int32 → Int32 → Option (Int32)
  | 0, _, _, _, _ => none
  | k + 1, v3, v4, v5, v6 =>
    (if (nI 6) ≤ v6 then some v3 else (if x2 = (0 : Int32) then (f6_maySet n oR x1 v6).bind fun z49 => f6_found_b52 n oR x1 x2 (f6_found_b24 n oR x1 x2 k) v3 v4 v5 v6 z49 else (f6_isNeutral n oR x1 v6).bind fun z39 => f6_found_b52 n oR x1 x2 (f6_found_b24 n oR x1 x2 k) v3 v4 v5 v6 z39))
def f6_found_b11 (n : Nat) (oR : Nat → Int32) (x1 : Int32) (x2 : Int32) (v3 : Int32) (s0 : Int32) : Option (Int32) :=
  (f6_of n oR x1 (nI 0)).bind fun z16 => f6_found_b24 n oR x1 x2 n v3 s0 z16 (nI 0)
def f6_found (n : Nat) (oR : Nat → Int32) (x1 : Int32) (x2 : Int32) : Option (Int32) :=
  (if x2 = (0 : Int32) then f6_found_b11 n oR x1 x2 (-1 : Int32) (nI 4) else f6_found_b11 n oR x1 x2 (-1 : Int32) (nI 3))
def f6_stages_b171 (n : Nat) (k65 : Int32 → Int32 → (Nat → Int32) → Option (Int32 × (Nat → Int32))) (v1 : Int32) (v2 : Int32) (v4 : Int32) (s1 : Int32) (s2 : Int32) (oR : Nat → Int32) : Option (Int32 × (Nat → Int32)) :=
  (ast 270 oR s1 s2).bind fun oR_171 => (if v4 = (-1 : Int32) then k65 (v1 + (nI 0)) (v2 + (nI 1)) oR_171 else k65 (v1 + (nI 1)) (v2 + (nI 1)) oR_171)
def f6_stages_b127 (n : Nat) (k65 : Int32 → Int32 → (Nat → Int32) → Option (Int32 × (Nat → Int32))) (v1 : Int32) (v2 : Int32) (v3 : Int32) (v4 : Int32) (s1 : Int32) (s2 : Int32) (oR : Nat → Int32) : Option (Int32 × (Nat → Int32)) :=
  (ast 270 oR s1 s2).bind fun oR_127 => (ast 270 oR_127 (((nI 18) + ((nI 9) * v2)) + (nI 4)) v4).bind fun oR_140 => (if v3 = (-1 : Int32) then f6_stages_b171 n k65 v1 v2 v4 (((nI 18) + ((nI 9) * v2)) + (nI 5)) (nI 1) oR_140 else (if v4 = (-1 : Int32) then f6_stages_b171 n k65 v1 v2 v4 (((nI 18) + ((nI 9) * v2)) + (nI 5)) (nI 2) oR_140 else f6_stages_b171 n k65 v1 v2 v4 (((nI 18) + ((nI 9) * v2)) + (nI 5)) (nI 0) oR_140))
def f6_stages_b104 (n : Nat) (k65 : Int32 → Int32 → (Nat → Int32) → Option (Int32 × (Nat → Int32))) (v1 : Int32) (v2 : Int32) (v3 : Int32) (s0 : Int32) (oR : Nat → Int32) : Option (Int32 × (Nat → Int32)) :=
  (if s0 = (-1 : Int32) then f6_stages_b127 n k65 v1 v2 v3 s0 (((nI 18) + ((nI 9) * v2)) + (nI 3)) (-1 : Int32) oR else f6_stages_b127 n k65 v1 v2 v3 s0 (((nI 18) + ((nI 9) * v2)) + (nI 3)) v3 oR)
def f6_stages_b65 (n : Nat) : Nat → Int32 → Int32 → (Nat → Int32) → Option (Int32 × (Nat → Int32))
  | 0, _, _, _ => none
  | k + 1, v1, v2, oR =>
    (ald 270 oR (nI 5)).bind fun x68 => (if x68 ≤ v2 then some (v1, oR) else (f6_of n oR v2 (nI 6)).bind fun z76 => (if z76 = (0 : Int32) then (f6_found n oR v2 (nI 1)).bind fun z85 => (if z85 = (-1 : Int32) then f6_stages_b104 n (f6_stages_b65 n k) v1 v2 z85 (-1 : Int32) oR else (f6_found n oR v2 (nI 0)).bind fun z101 => f6_stages_b104 n (f6_stages_b65 n k) v1 v2 z85 z101 oR) else (f6_stages_b65 n k) v1 (v2 + (nI 1)) oR))
def f6_stages_b61 (n : Nat) (oR : Nat → Int32) : Option (Int32 × (Nat → Int32)) :=
  f6_stages_b65 n n (nI 0) (nI 0) oR
def f6_stages_b2 (n : Nat) (k61 : (Nat → Int32) → Option (Int32 × (Nat → Int32))) : Nat → Int32 → (Nat → Int32) → Option (Int32 × (Nat → Int32))
  | 0, _, _ => none
  | k + 1, v1, oR =>
    (ald 270 oR (nI 5)).bind fun x5 => (if x5 ≤ v1 then k61 oR else (f6_of n oR v1 (nI 6)).bind fun z13 => (if z13 = (0 : Int32) then (ast 270 oR (((nI 18) + ((nI 9) * v1)) + (nI 3)) (-1 : Int32)).bind fun oR_30 => (ast 270 oR_30 (((nI 18) + ((nI 9) * v1)) + (nI 4)) (-1 : Int32)).bind fun oR_42 => (ast 270 oR_42 (((nI 18) + ((nI 9) * v1)) + (nI 5)) (nI 0)).bind fun oR_54 => (f6_stages_b2 n k61 k) (v1 + (nI 1)) oR_54 else (f6_stages_b2 n k61 k) (v1 + (nI 1)) oR))
def f6_stages (n : Nat) (oR : Nat → Int32) : Option (Int32 × (Nat → Int32)) :=
  f6_stages_b2 n (fun oR => f6_stages_b61 n oR) n (nI 0) oR
def f6_changes (n : Nat) (oM : OB) (x1 : Int32) (x2 : Int32) : Option (Int32 × (OB)) :=
  (ald 270 (oM.2 0) x1).bind fun x5 => (oast oM 0 270 x1 x2).bind fun oM_13 => some (x5, oM_13)
def f6_masks (n : Nat) (oM : OB) (x1 : Int32) (x2 : Int32) (x3 : Int32) : Option (Int32 × (OB)) :=
  (some (gsi oM 6 (nI 0))).bind fun oM_2 => (f6_in n x2 (nI 0) (nI 5)).bind fun z8 => (if z8 = (0 : Int32) then (f6_fails n oM_2 (nI 1)).bind fun z16 => some (z16.1, z16.2) else (f6_in n x3 (nI 0) (nI 127)).bind fun z24 => (if z24 = (0 : Int32) then (f6_fails n oM_2 (nI 2)).bind fun z32 => some (z32.1, z32.2) else (f6_saves n oM_2).bind fun z37 => (f6_changes n z37 (x1 + x2) x3).bind fun z45 => some (z45.1, z45.2)))
def f6_close (n : Nat) (oM : OB) (x1 : Int32) (x2 : Int32) : Option (Int32 × (OB)) :=
  (f6_masks n oM (nI 6) x1 x2).bind fun z5 => some (z5.1, z5.2)
def f6_away (n : Nat) (oM : OB) (x1 : Int32) (x2 : Int32) : Option (Int32 × (OB)) :=
  (f6_masks n oM (nI 12) x1 x2).bind fun z5 => some (z5.1, z5.2)
def f6_stage (n : Nat) (oM : OB) : Option (Int32 × (OB)) :=
  (some (gsi oM 6 (nI 0))).bind fun oM_2 => (f6_saves n oM_2).bind fun z6 => (f6_stages n (z6.2 0)).bind fun z13 => some (z13.1, gsa z6 0 z13.2)
def f6_scoreOf (n : Nat) (oR : Nat → Int32) (x1 : Int32) (x2 : Int32) : Option (Int32) :=
  (f6_of n oR x1 (nI 6)).bind fun z4 => (if z4 = (nI 1) then (f6_of n oR x1 ((nI 7) + x2)).bind fun z19 => some z19 else (if z4 = ((nI 2) + x2) then some (nI 0) else (ald 270 oR (nI 2)).bind fun x38 => some x38))
def f6_sideOf (n : Nat) (oR : Nat → Int32) (x1 : Int32) (x2 : Int32) : Option (Int32) :=
  (f6_of n oR x1 (nI 1)).bind fun z3 => (if z3 = x2 then some (nI 0) else (f6_of n oR x1 (nI 2)).bind fun z17 => (if z17 = x2 then some (nI 1) else some (-1 : Int32)))
def f6_sums_b138 (n : Nat) (oR : Nat → Int32) (x1 : Int32) (x2 : Int32) (k5 : Int32 → Int32 → Option (Int32)) (v4 : Int32) (v5 : Int32) (v6 : Int32) (s0 : Int32) : Option (Int32) :=
  (if x2 = (nI 6) then (if v6 = ((nI 2) + v5) then k5 (s0 + (nI 1)) (v4 + (nI 1)) else k5 (s0 + (nI 0)) (v4 + (nI 1))) else k5 (s0 + (nI 0)) (v4 + (nI 1)))
def f6_sums_b126 (n : Nat) (oR : Nat → Int32) (x1 : Int32) (x2 : Int32) (k5 : Int32 → Int32 → Option (Int32)) (v4 : Int32) (v5 : Int32) (v6 : Int32) (v7 : Int32) (v8 : Int32) (s0 : Int32) : Option (Int32) :=
  (if x2 = (nI 3) then (if v7 = v8 then k5 (s0 + (nI 1)) (v4 + (nI 1)) else f6_sums_b138 n oR x1 x2 k5 v4 v5 v6 s0) else f6_sums_b138 n oR x1 x2 k5 v4 v5 v6 s0)
def f6_sums_b60 (n : Nat) (oR : Nat → Int32) (x1 : Int32) (x2 : Int32) (k5 : Int32 → Int32 → Option (Int32)) (v3 : Int32) (v4 : Int32) (v5 : Int32) (v6 : Int32) : Option (Int32) :=
  (if v5 = (-1 : Int32) then k5 v3 (v4 + (nI 1)) else (f6_scoreOf n oR v4 v5).bind fun z71 => (f6_scoreOf n oR v4 ((nI 1) - v5)).bind fun z83 => (if x2 = (nI 4) then k5 (v3 + z71) (v4 + (nI 1)) else (if x2 = (nI 5) then k5 (v3 + z83) (v4 + (nI 1)) else (if x2 = (nI 1) then k5 (v3 + (nI 1)) (v4 + (nI 1)) else (if x2 = (nI 2) then (if z83 < z71 then k5 (v3 + (nI 1)) (v4 + (nI 1)) else f6_sums_b126 n oR x1 x2 k5 v4 v5 v6 z71 z83 v3) else f6_sums_b126 n oR x1 x2 k5 v4 v5 v6 z71 z83 v3)))))
def f6_sums_b5 (n : Nat) (oR : Nat → Int32) (x1 : Int32) (x2 : Int32) : Nat → Int32 → Int32 → Option (Int32)
  | 0, _, _ => none
  | k + 1, v3, v4 =>
    (ald 270 oR (nI 5)).bind fun x9 => (if x9 ≤ v4 then some v3 else (f6_sideOf n oR v4 x1).bind fun z17 => (f6_of n oR v4 (nI 6)).bind fun z27 => (if z17 = (-1 : Int32) then f6_sums_b60 n oR x1 x2 (f6_sums_b5 n oR x1 x2 k) v3 v4 z17 z27 else (if z27 = (0 : Int32) then (if x2 = (nI 8) then (f6_sums_b5 n oR x1 x2 k) (v3 + (nI 1)) (v4 + (nI 1)) else (f6_sums_b5 n oR x1 x2 k) (v3 + (nI 0)) (v4 + (nI 1))) else f6_sums_b60 n oR x1 x2 (f6_sums_b5 n oR x1 x2 k) v3 v4 z17 z27)))
def f6_sums (n : Nat) (oR : Nat → Int32) (x1 : Int32) (x2 : Int32) : Option (Int32) :=
  f6_sums_b5 n oR x1 x2 n (nI 0) (nI 0)
def f6_points (n : Nat) (oR : Nat → Int32) (x1 : Int32) : Option (Int32) :=
  (ald 270 oR (nI 0)).bind fun x2 => (f6_sums n oR x1 (nI 2)).bind fun z6 => (ald 270 oR (nI 1)).bind fun x12 => (f6_sums n oR x1 (nI 3)).bind fun z16 => (f6_sums n oR x1 (nI 6)).bind fun z25 => some (((x2 * z6) + (x12 * z16)) - z25)
def f6_isAhead (n : Nat) (oR : Nat → Int32) (x1 : Int32) (x2 : Int32) : Option (Int32) :=
  (f6_points n oR x1).bind fun z2 => (f6_points n oR x2).bind fun z7 => (f6_sums n oR x1 (nI 4)).bind fun z15 => (f6_sums n oR x1 (nI 5)).bind fun z21 => (f6_sums n oR x2 (nI 4)).bind fun z28 => (f6_sums n oR x2 (nI 5)).bind fun z35 => (f6_sums n oR x1 (nI 4)).bind fun z44 => (f6_sums n oR x2 (nI 4)).bind fun z50 => (if (z2 - z7) = (0 : Int32) then (if (((z15 - z21) - z28) + z35) = (0 : Int32) then (if (z44 - z50) = (0 : Int32) then (if x2 ≤ x1 then some (nI 0) else some (nI 1)) else (if (z44 - z50) ≤ (0 : Int32) then some (nI 0) else some (nI 1))) else (if (((z15 - z21) - z28) + z35) ≤ (0 : Int32) then some (nI 0) else some (nI 1))) else (if (z2 - z7) ≤ (0 : Int32) then some (nI 0) else some (nI 1)))
def f6_placeOf_b4 (n : Nat) (oR : Nat → Int32) (x1 : Int32) : Nat → Int32 → Int32 → Option (Int32)
  | 0, _, _ => none
  | k + 1, v2, v3 =>
    (ald 270 oR (nI 4)).bind fun x7 => (if x7 ≤ v3 then some v2 else (if v3 = x1 then (f6_placeOf_b4 n oR x1 k) (v2 + (nI 0)) (v3 + (nI 1)) else (f6_isAhead n oR v3 x1).bind fun z20 => (if z20 = (0 : Int32) then (f6_placeOf_b4 n oR x1 k) (v2 + (nI 0)) (v3 + (nI 1)) else (f6_placeOf_b4 n oR x1 k) (v2 + (nI 1)) (v3 + (nI 1)))))
def f6_placeOf (n : Nat) (oR : Nat → Int32) (x1 : Int32) : Option (Int32) :=
  f6_placeOf_b4 n oR x1 n (nI 0) (nI 0)
def f6_teamAt_b4 (n : Nat) (oR : Nat → Int32) (x1 : Int32) : Nat → Int32 → Int32 → Option (Int32)
  | 0, _, _ => none
  | k + 1, v2, v3 =>
    (ald 270 oR (nI 4)).bind fun x7 => (if x7 ≤ v3 then some v2 else (f6_placeOf n oR v3).bind fun z13 => (if z13 = x1 then (f6_teamAt_b4 n oR x1 k) v3 (v3 + (nI 1)) else (f6_teamAt_b4 n oR x1 k) v2 (v3 + (nI 1))))
def f6_teamAt (n : Nat) (oR : Nat → Int32) (x1 : Int32) : Option (Int32) :=
  f6_teamAt_b4 n oR x1 n (-1 : Int32) (nI 0)
def f6_gives (n : Nat) (oR : Nat → Int32) (x1 : Int32) (x2 : Int32) (x3 : Int32) (x4 : Int32) : Option ((Nat → Int32)) :=
  (ast 270 oR (((nI 18) + ((nI 9) * x1)) + (nI 6)) x2).bind fun oR_16 => (ast 270 oR_16 (((nI 18) + ((nI 9) * x1)) + (nI 7)) x3).bind fun oR_24 => (ast 270 oR_24 ((((nI 18) + ((nI 9) * x1)) + (nI 7)) + (nI 1)) x4).bind fun oR_35 => some oR_35
def f6_score (n : Nat) (oM : OB) (x1 : Int32) (x2 : Int32) (x3 : Int32) : Option (Int32 × (OB)) :=
  (some (gsi oM 6 (nI 0))).bind fun oM_2 => (f6_isMatch n oM_2 x1).bind fun z7 => (if z7 = (0 : Int32) then (f6_fails n oM_2 (nI 1)).bind fun z15 => some (z15.1, z15.2) else (f6_in n x2 (nI 0) (nI 99)).bind fun z23 => (if z23 = (0 : Int32) then (f6_fails n oM_2 (nI 2)).bind fun z41 => some (z41.1, z41.2) else (f6_in n x3 (nI 0) (nI 99)).bind fun z33 => (if z33 = (0 : Int32) then (f6_fails n oM_2 (nI 2)).bind fun z41 => some (z41.1, z41.2) else (f6_of n (oM_2.2 0) x1 (nI 3)).bind fun z51 => (if z51 = (-1 : Int32) then (f6_fails n oM_2 (nI 3)).bind fun z60 => some (z60.1, z60.2) else (f6_saves n oM_2).bind fun z65 => (f6_gives n (z65.2 0) x1 (nI 1) x2 x3).bind fun z76 => (f6_of n ((gsa z65 0 z76).2 0) x1 (nI 1)).bind fun z89 => (f6_points n ((gsa z65 0 z76).2 0) z89).bind fun z92 => some (z92, gsa z65 0 z76)))))
def f6_walkover_b56 (n : Nat) (x1 : Int32) (x2 : Int32) (s1 : Int32) (s2 : Int32) (oM : OB) : Option (Int32 × (OB)) :=
  (f6_gives n (oM.2 0) s1 s2 (nI 0) (nI 0)).bind fun z58 => (if x2 = (0 : Int32) then (f6_of n ((gsa oM 0 z58).2 0) x1 (nI 1)).bind fun z79 => (f6_points n ((gsa oM 0 z58).2 0) z79).bind fun z82 => some (z82, gsa oM 0 z58) else (f6_of n ((gsa oM 0 z58).2 0) x1 (nI 2)).bind fun z79 => (f6_points n ((gsa oM 0 z58).2 0) z79).bind fun z82 => some (z82, gsa oM 0 z58))
def f6_walkover (n : Nat) (oM : OB) (x1 : Int32) (x2 : Int32) : Option (Int32 × (OB)) :=
  (some (gsi oM 6 (nI 0))).bind fun oM_2 => (f6_isMatch n oM_2 x1).bind fun z7 => (if z7 = (0 : Int32) then (f6_fails n oM_2 (nI 1)).bind fun z15 => some (z15.1, z15.2) else (f6_of n (oM_2.2 0) x1 (nI 3)).bind fun z25 => (if z25 = (-1 : Int32) then (f6_fails n oM_2 (nI 2)).bind fun z34 => some (z34.1, z34.2) else (f6_saves n oM_2).bind fun z39 => (if x2 = (0 : Int32) then f6_walkover_b56 n x1 x2 x1 (nI 2) z39 else f6_walkover_b56 n x1 x2 x1 (nI 3) z39)))
def f6_annul (n : Nat) (oM : OB) (x1 : Int32) : Option (Int32 × (OB)) :=
  (some (gsi oM 6 (nI 0))).bind fun oM_2 => (f6_isMatch n oM_2 x1).bind fun z7 => (if z7 = (0 : Int32) then (f6_fails n oM_2 (nI 1)).bind fun z15 => some (z15.1, z15.2) else (f6_saves n oM_2).bind fun z20 => (f6_of n (z20.2 0) x1 (nI 6)).bind fun z30 => (f6_gives n (z20.2 0) x1 (nI 0) (nI 0) (nI 0)).bind fun z42 => (if z30 = (0 : Int32) then some ((nI 0), gsa z20 0 z42) else some ((nI 1), gsa z20 0 z42)))
def f6_isFor_b11 (n : Nat) (x0 : Int32) (x1 : Int32) (s0 : Int32) (s1 : Int32) : Option (Int32) :=
  (if x0 = (0 : Int32) then (f6_in n s0 s1 (nI 5)).bind fun z40 => (zo z40).bind fun y43 => some y43 else (if x0 = (nI 1) then (f6_in n s0 s1 (nI 3)).bind fun z40 => (zo z40).bind fun y43 => some y43 else (if x0 = (nI 2) then (f6_in n s0 s1 (nI 50)).bind fun z40 => (zo z40).bind fun y43 => some y43 else (f6_in n s0 s1 (nI 28)).bind fun z40 => (zo z40).bind fun y43 => some y43)))
def f6_isFor (n : Nat) (x0 : Int32) (x1 : Int32) : Option (Int32) :=
  (if x0 = (nI 1) then f6_isFor_b11 n x0 x1 x1 (nI 0) else f6_isFor_b11 n x0 x1 x1 (nI 1))
def f6_set (n : Nat) (oM : OB) (x1 : Int32) (x2 : Int32) : Option (Int32 × (OB)) :=
  (some (gsi oM 6 (nI 0))).bind fun oM_2 => (f6_in n x1 (nI 0) (nI 3)).bind fun z8 => (if z8 = (0 : Int32) then (f6_fails n oM_2 (nI 1)).bind fun z16 => some (z16.1, z16.2) else (f6_isFor n x1 x2).bind fun z22 => (if z22 = (0 : Int32) then (f6_fails n oM_2 (nI 2)).bind fun z30 => some (z30.1, z30.2) else (f6_saves n oM_2).bind fun z35 => (f6_changes n z35 x1 x2).bind fun z41 => some (z41.1, z41.2)))
def f6_append (n : Nat) (oM : OB) (x1 : Int32) : Option (Int32 × (OB)) :=
  (some (gsi oM 6 (nI 0))).bind fun oM_2 => (f6_in n x1 (nI 33) (nI 126)).bind fun z10 => (if z10 = (0 : Int32) then (f6_fails n oM_2 (nI 1)).bind fun z18 => some (z18.1, z18.2) else (if (oM_2.1 5) = (nI 60) then (f6_fails n oM_2 (nI 2)).bind fun z33 => some (z33.1, z33.2) else (oast oM_2 4 60 (oM_2.1 5) x1).bind fun oM_46 => (some (gsi oM_46 5 ((oM_46.1 5) + (nI 1)))).bind fun oM_54 => some (oM_54.1 5, oM_54)))
def f6_clearBuffer (n : Nat) (oM : OB) : Option (Int32 × (OB)) :=
  (some (gsi oM 6 (nI 0))).bind fun oM_2 => (some (gsi oM_2 5 (nI 0))).bind fun oM_12 => some (oM_2.1 5, oM_12)
def f6_isAt (n : Nat) (oM : OB) (x1 : Int32) (x2 : Int32) : Option (Int32) :=
  (if (oM.1 5) ≤ (oM.1 7) then some (nI 0) else (ald 60 (oM.2 4) (oM.1 7)).bind fun x19 => (f6_in n x19 x1 x2).bind fun z22 => (if z22 = (0 : Int32) then some (nI 0) else some (nI 1)))
def f6_stops (n : Nat) (oM : OB) : Option (Int32 × (OB)) :=
  (if (oM.1 5) ≤ (oM.1 7) then (some (gsi oM 8 (nI 0))).bind fun oM_17 => some ((nI 0), oM_17) else (some (gsi oM 8 (nI 1))).bind fun oM_17 => some ((nI 0), oM_17))
def f6_isNumber_b121 (n : Nat) (x1 : Int32) (x2 : Int32) (oM : OB) : Option (Int32 × (OB)) :=
  (oast oM 10 68 (((nI 4) * (oM.1 11)) + x1) (oM.1 9)).bind fun oM_137 => some ((nI 1), oM_137)
def f6_isNumber_b42 (n : Nat) (x1 : Int32) (x2 : Int32) (k121 : OB → Option (Int32 × (OB))) : Nat → OB → Option (Int32 × (OB))
  | 0, _ => none
  | k + 1, oM =>
    (if (oM.1 9) ≤ (0 : Int32) then k121 oM else (f6_isAt n oM (nI 48) (nI 57)).bind fun z54 => (if z54 = (0 : Int32) then k121 oM else (ald 60 (oM.2 4) (oM.1 7)).bind fun x75 => (if x2 < ((((nI 10) * (oM.1 9)) + x75) - (nI 48)) then k121 oM else (ald 60 (oM.2 4) (oM.1 7)).bind fun x100 => (some (gsi oM 9 ((((nI 10) * (oM.1 9)) + x100) - (nI 48)))).bind fun oM_105 => (some (gsi oM_105 7 ((oM_105.1 7) + (nI 1)))).bind fun oM_115 => (f6_isNumber_b42 n x1 x2 k121 k) oM_115)))
def f6_isNumber (n : Nat) (oM : OB) (x1 : Int32) (x2 : Int32) : Option (Int32 × (OB)) :=
  (f6_isAt n oM (nI 48) (nI 57)).bind fun z5 => (if z5 = (0 : Int32) then (f6_stops n oM).bind fun z12 => (zo z12.1).bind fun y15 => some (y15, z12.2) else (ald 60 (oM.2 4) (oM.1 7)).bind fun x25 => (some (gsi oM 9 (x25 - (nI 48)))).bind fun oM_29 => (some (gsi oM_29 7 ((oM_29.1 7) + (nI 1)))).bind fun oM_39 => f6_isNumber_b42 n x1 x2 (fun oM => f6_isNumber_b121 n x1 x2 oM) n oM_39)
def f6_isSign (n : Nat) (oM : OB) (x1 : Int32) : Option (Int32 × (OB)) :=
  (f6_isAt n oM x1 x1).bind fun z3 => (if z3 = (0 : Int32) then (f6_stops n oM).bind fun z10 => (zo z10.1).bind fun y13 => some (y13, z10.2) else (some (gsi oM 7 ((oM.1 7) + (nI 1)))).bind fun oM_21 => some ((nI 1), oM_21))
def f6_isPart (n : Nat) (oM : OB) : Option (Int32 × (OB)) :=
  (f6_isNumber n oM (nI 0) (nI 27)).bind fun z4 => (if z4.1 = (0 : Int32) then some ((nI 0), z4.2) else (f6_isSign n z4.2 (nI 61)).bind fun z13 => (if z13.1 = (0 : Int32) then some ((nI 0), z13.2) else (oast z13.2 10 68 (((nI 4) * (z13.2.1 11)) + (nI 1)) (nI 1)).bind fun oM_34 => (f6_isAt n oM_34 (nI 119) (nI 119)).bind fun z40 => (if z40 = (0 : Int32) then (f6_isNumber n oM_34 (nI 2) (nI 99)).bind fun z50 => (if z50.1 = (0 : Int32) then some ((nI 0), z50.2) else (f6_isSign n z50.2 (nI 58)).bind fun z59 => (if z59.1 = (0 : Int32) then some ((nI 0), z59.2) else (f6_isNumber n z59.2 (nI 3) (nI 99)).bind fun z69 => (if z69.1 = (0 : Int32) then some ((nI 0), z69.2) else some ((nI 1), z69.2)))) else (some (gsi oM_34 7 ((oM_34.1 7) + (nI 1)))).bind fun oM_88 => (f6_isAt n oM_88 (nI 49) (nI 50)).bind fun z96 => (if z96 = (0 : Int32) then (f6_stops n oM_88).bind fun z103 => (zo z103.1).bind fun y106 => some (y106, z103.2) else (ald 60 (oM_88.2 4) (oM_88.1 7)).bind fun x128 => (oast oM_88 10 68 (((nI 4) * (oM_88.1 11)) + (nI 1)) (((nI 1) + x128) - (nI 48))).bind fun oM_133 => (oast oM_133 10 68 (((nI 4) * (oM_133.1 11)) + (nI 2)) (nI 0)).bind fun oM_147 => (oast oM_147 10 68 (((nI 4) * (oM_147.1 11)) + (nI 3)) (nI 0)).bind fun oM_161 => (some (gsi oM_161 7 ((oM_161.1 7) + (nI 1)))).bind fun oM_169 => some ((nI 1), oM_169)))))
def f6_isText_b87 (n : Nat) (s1 : Int32) (oM : OB) : Option (Int32 × (OB)) :=
  (zo s1).bind fun _ => (some (gsi oM 8 s1)).bind fun oM_87 => (if (oM_87.1 7) = (oM_87.1 5) then some ((nI 1), oM_87) else some ((nI 0), oM_87))
def f6_isText_b70 (n : Nat) (oM : OB) : Option (Int32 × (OB)) :=
  (if (oM.1 5) ≤ (oM.1 7) then f6_isText_b87 n (nI 0) oM else f6_isText_b87 n (nI 1) oM)
def f6_isText_b17 (n : Nat) (k70 : OB → Option (Int32 × (OB))) : Nat → Int32 → OB → Option (Int32 × (OB))
  | 0, _, _ => none
  | k + 1, v1, oM =>
    (if v1 = (0 : Int32) then k70 oM else (f6_isPart n oM).bind fun z22 => (if z22.1 = (0 : Int32) then some ((nI 0), z22.2) else (some (gsi z22.2 11 ((z22.2.1 11) + (nI 1)))).bind fun oM_37 => (f6_isAt n oM_37 (nI 59) (nI 59)).bind fun z45 => (if z45 = (0 : Int32) then (some (gsi oM_37 7 ((oM_37.1 7) + (nI 0)))).bind fun oM_64 => (f6_isText_b17 n k70 k) z45 oM_64 else (some (gsi oM_37 7 ((oM_37.1 7) + (nI 1)))).bind fun oM_64 => (f6_isText_b17 n k70 k) z45 oM_64)))
def f6_isText (n : Nat) (oM : OB) : Option (Int32 × (OB)) :=
  (some (gsi oM 7 (nI 0))).bind fun oM_2 => (some (gsi oM_2 11 (nI 0))).bind fun oM_7 => (some (gsi oM_7 8 (nI 0))).bind fun oM_12 => f6_isText_b17 n (fun oM => f6_isText_b70 n oM) n (nI 1) oM_12
def f6_firstError (n : Nat) (oM : OB) : Option (Int32 × (OB)) :=
  (some (gsi oM 6 (nI 0))).bind fun oM_2 => (f6_isText n oM_2).bind fun z6 => (if z6.1 = (0 : Int32) then (if (z6.2.1 8) = (0 : Int32) then some (z6.2.1 5, z6.2) else some (z6.2.1 7, z6.2)) else some (z6.2.1 5, z6.2))
def f6_withResult_b4 (n : Nat) (oM : OB) : Nat → Int32 → Int32 → Option (Int32)
  | 0, _, _ => none
  | k + 1, v1, v2 =>
    (ald 270 (oM.2 0) (nI 5)).bind fun x10 => (if x10 ≤ v2 then some v1 else (f6_of n (oM.2 0) v2 (nI 6)).bind fun z22 => (if z22 = (0 : Int32) then (f6_withResult_b4 n oM k) (v1 + (nI 0)) (v2 + (nI 1)) else (f6_withResult_b4 n oM k) (v1 + (nI 1)) (v2 + (nI 1))))
def f6_withResult (n : Nat) (oM : OB) : Option (Int32) :=
  f6_withResult_b4 n oM n (nI 0) (nI 0)
def f6_report_b63 (n : Nat) (oM : OB) : Option (Int32 × (OB)) :=
  (f6_fails n oM (nI 2)).bind fun z65 => some (z65.1, z65.2)
def f6_report_b145 (n : Nat) (oM : OB) : Option (Int32 × (OB)) :=
  (f6_withResult n oM).bind fun z146 => some (z146, oM)
def f6_report_b86 (n : Nat) (k145 : OB → Option (Int32 × (OB))) : Nat → Int32 → OB → Option (Int32 × (OB))
  | 0, _, _ => none
  | k + 1, v1, oM =>
    (if (oM.1 11) ≤ v1 then k145 oM else (ald 68 (oM.2 10) ((nI 4) * v1)).bind fun x105 => (ald 68 (oM.2 10) (((nI 4) * v1) + (nI 1))).bind fun x115 => (ald 68 (oM.2 10) (((nI 4) * v1) + (nI 2))).bind fun x125 => (ald 68 (oM.2 10) (((nI 4) * v1) + (nI 3))).bind fun x135 => (f6_gives n (oM.2 0) x105 x115 x125 x135).bind fun z136 => (f6_report_b86 n k145 k) (v1 + (nI 1)) (gsa oM 0 z136))
def f6_report_b75 (n : Nat) (oM : OB) : Option (Int32 × (OB)) :=
  (f6_saves n oM).bind fun z76 => (some (gsi z76 5 (nI 0))).bind fun oM_81 => f6_report_b86 n (fun oM => f6_report_b145 n oM) n (nI 0) oM_81
def f6_report_b20 (n : Nat) (k63 : OB → Option (Int32 × (OB))) (k75 : OB → Option (Int32 × (OB))) : Nat → Int32 → OB → Option (Int32 × (OB))
  | 0, _, _ => none
  | k + 1, v1, oM =>
    (if (oM.1 11) ≤ v1 then k75 oM else (ald 68 (oM.2 10) ((nI 4) * v1)).bind fun x36 => (f6_isMatch n oM x36).bind fun z37 => (if z37 = (0 : Int32) then k63 oM else (ald 68 (oM.2 10) ((nI 4) * v1)).bind fun x54 => (f6_of n (oM.2 0) x54 (nI 3)).bind fun z56 => (if z56 = (-1 : Int32) then k63 oM else (f6_report_b20 n k63 k75 k) (v1 + (nI 1)) oM)))
def f6_report (n : Nat) (oM : OB) : Option (Int32 × (OB)) :=
  (some (gsi oM 6 (nI 0))).bind fun oM_2 => (f6_isText n oM_2).bind fun z6 => (if z6.1 = (0 : Int32) then (f6_fails n z6.2 (nI 1)).bind fun z14 => some (z14.1, z14.2) else f6_report_b20 n (fun oM => f6_report_b63 n oM) (fun oM => f6_report_b75 n oM) n (nI 0) z6.2)
def f6_ofMatch (n : Nat) (oM : OB) (x1 : Int32) (x2 : Int32) : Option (Int32) :=
  (if (nI 6) ≤ x2 then (f6_of n (oM.2 0) x1 (nI 6)).bind fun z23 => (if x2 = (nI 8) then some z23 else (if z23 = (0 : Int32) then some (-1 : Int32) else (f6_scoreOf n (oM.2 0) x1 (x2 - (nI 6))).bind fun z54 => some z54)) else (f6_of n (oM.2 0) x1 x2).bind fun z12 => some z12)
def f6_match (n : Nat) (oM : OB) (x1 : Int32) (x2 : Int32) : Option (Int32 × (OB)) :=
  (some (gsi oM 6 (nI 0))).bind fun oM_2 => (f6_isMatch n oM_2 x1).bind fun z7 => (if z7 = (0 : Int32) then (f6_fails n oM_2 (nI 1)).bind fun z15 => some (z15.1, z15.2) else (f6_in n x2 (nI 0) (nI 8)).bind fun z23 => (if z23 = (0 : Int32) then (f6_fails n oM_2 (nI 2)).bind fun z40 => some (z40.1, z40.2) else (f6_ofMatch n oM_2 x1 x2).bind fun z32 => some (z32, oM_2)))
def f6_ofTeam (n : Nat) (oM : OB) (x1 : Int32) (x2 : Int32) : Option (Int32) :=
  (if x2 = (0 : Int32) then (f6_points n (oM.2 0) x1).bind fun z9 => some z9 else (if x2 = (nI 7) then (f6_placeOf n (oM.2 0) x1).bind fun z26 => some z26 else (f6_sums n (oM.2 0) x1 x2).bind fun z38 => some z38))
def f6_team (n : Nat) (oM : OB) (x1 : Int32) (x2 : Int32) : Option (Int32 × (OB)) :=
  (some (gsi oM 6 (nI 0))).bind fun oM_2 => (f6_isTeam n oM_2 x1).bind fun z7 => (if z7 = (0 : Int32) then (f6_fails n oM_2 (nI 1)).bind fun z15 => some (z15.1, z15.2) else (f6_in n x2 (nI 0) (nI 8)).bind fun z23 => (if z23 = (0 : Int32) then (f6_fails n oM_2 (nI 2)).bind fun z40 => some (z40.1, z40.2) else (f6_ofTeam n oM_2 x1 x2).bind fun z32 => some (z32, oM_2)))
def f6_table (n : Nat) (oM : OB) (x1 : Int32) : Option (Int32 × (OB)) :=
  (some (gsi oM 6 (nI 0))).bind fun oM_2 => (if (0 : Int32) ≤ x1 then (ald 270 (oM_2.2 0) (nI 4)).bind fun x21 => (if x21 ≤ x1 then some ((-1 : Int32), oM_2) else (f6_teamAt n (oM_2.2 0) x1).bind fun z30 => some (z30, oM_2)) else (f6_fails n oM_2 (nI 1)).bind fun z11 => some (z11.1, z11.2))
def f6_busyWith_b33 (n : Nat) (oM : OB) (x1 : Int32) (x2 : Int32) (k5 : Int32 → Int32 → Option (Int32)) (v3 : Int32) (v4 : Int32) (s1 : Int32) (s2 : Int32) : Option (Int32) :=
  (f6_of n (oM.2 0) s1 s2).bind fun z33 => (f6_of n (oM.2 0) v4 (nI 0)).bind fun z45 => (if z45 = x1 then (if z33 = (x2 - x2 / (nI 6) * (nI 6)) then k5 v4 (v4 + (nI 1)) else k5 v3 (v4 + (nI 1))) else k5 v3 (v4 + (nI 1)))
def f6_busyWith_b5 (n : Nat) (oM : OB) (x1 : Int32) (x2 : Int32) : Nat → Int32 → Int32 → Option (Int32)
  | 0, _, _ => none
  | k + 1, v3, v4 =>
    (ald 270 (oM.2 0) (nI 5)).bind fun x12 => (if x12 ≤ v4 then some v3 else (if (nI 6) ≤ x2 then f6_busyWith_b33 n oM x1 x2 (f6_busyWith_b5 n oM x1 x2 k) v3 v4 v4 (nI 4) else f6_busyWith_b33 n oM x1 x2 (f6_busyWith_b5 n oM x1 x2 k) v3 v4 v4 (nI 3)))
def f6_busyWith (n : Nat) (oM : OB) (x1 : Int32) (x2 : Int32) : Option (Int32) :=
  f6_busyWith_b5 n oM x1 x2 n (-1 : Int32) (nI 0)
def f6_busy (n : Nat) (oM : OB) (x1 : Int32) (x2 : Int32) : Option (Int32 × (OB)) :=
  (some (gsi oM 6 (nI 0))).bind fun oM_2 => (f6_rounds n (oM_2.2 0)).bind fun z11 => (f6_in n x1 (nI 0) (z11 - (nI 1))).bind fun z16 => (if z16 = (0 : Int32) then (f6_fails n oM_2 (nI 1)).bind fun z24 => some (z24.1, z24.2) else (f6_in n x2 (nI 0) (nI 11)).bind fun z32 => (if z32 = (0 : Int32) then (f6_fails n oM_2 (nI 2)).bind fun z49 => some (z49.1, z49.2) else (f6_busyWith n oM_2 x1 x2).bind fun z41 => some (z41, oM_2)))
def f6_most_b4 (n : Nat) (oM : OB) (x1 : Int32) : Nat → Int32 → Int32 → Option (Int32)
  | 0, _, _ => none
  | k + 1, v2, v3 =>
    (if (nI 6) ≤ v3 then some v2 else (f6_having n (oM.2 0) x1 v3 (-1 : Int32)).bind fun z17 => (if z17 ≤ v2 then (f6_most_b4 n oM x1 k) v2 (v3 + (nI 1)) else (f6_most_b4 n oM x1 k) z17 (v3 + (nI 1))))
def f6_most (n : Nat) (oM : OB) (x1 : Int32) : Option (Int32) :=
  f6_most_b4 n oM x1 n (nI 0) (nI 0)
def f6_overTeams_b4 (n : Nat) (oM : OB) (x1 : Int32) : Nat → Int32 → Int32 → Option (Int32)
  | 0, _, _ => none
  | k + 1, v2, v3 =>
    (ald 270 (oM.2 0) (nI 4)).bind fun x10 => (if x10 ≤ v3 then some v2 else (f6_ofTeam n oM v3 x1).bind fun z18 => (f6_overTeams_b4 n oM x1 k) (v2 + z18) (v3 + (nI 1)))
def f6_overTeams (n : Nat) (oM : OB) (x1 : Int32) : Option (Int32) :=
  f6_overTeams_b4 n oM x1 n (nI 0) (nI 0)
def f6_counted (n : Nat) (oM : OB) (x1 : Int32) : Option (Int32) :=
  (if x1 = (nI 0) then (ald 270 (oM.2 0) (nI 4)).bind fun x57 => some x57 else (if x1 = (nI 1) then (f6_rounds n (oM.2 0)).bind fun z63 => some z63 else (if x1 = (nI 2) then (ald 270 (oM.2 0) (nI 5)).bind fun x72 => some x72 else (if x1 = (nI 3) then (ald 270 (oM.2 0) (nI 5)).bind fun x79 => (f6_having n (oM.2 0) (nI 3) (-1 : Int32) (-1 : Int32)).bind fun z87 => some (x79 - z87) else (if x1 = (nI 4) then (f6_withResult n oM).bind fun z93 => some z93 else (if x1 = (nI 5) then (f6_overTeams n oM (nI 6)).bind fun z100 => some z100 else (if x1 = (nI 6) then (f6_overTeams n oM (nI 0)).bind fun z106 => some z106 else (if x1 = (nI 7) then (f6_most n oM (nI 4)).bind fun z112 => some z112 else (if x1 = (nI 8) then (f6_most n oM (nI 3)).bind fun z118 => some z118 else some (oM.1 3))))))))))
def f6_count (n : Nat) (oM : OB) (x1 : Int32) : Option (Int32 × (OB)) :=
  (some (gsi oM 6 (nI 0))).bind fun oM_2 => (f6_in n x1 (nI 0) (nI 9)).bind fun z9 => (if z9 = (0 : Int32) then (f6_fails n oM_2 (nI 1)).bind fun z25 => some (z25.1, z25.2) else (f6_counted n oM_2 x1).bind fun z17 => some (z17, oM_2))
def f6_setting (n : Nat) (oM : OB) (x1 : Int32) : Option (Int32 × (OB)) :=
  (some (gsi oM 6 (nI 0))).bind fun oM_2 => (f6_in n x1 (nI 0) (nI 3)).bind fun z8 => (if z8 = (0 : Int32) then (f6_fails n oM_2 (nI 1)).bind fun z25 => some (z25.1, z25.2) else (ald 270 (oM_2.2 0) x1).bind fun x19 => some (x19, oM_2))
def f6_meeting_b43 (n : Nat) (x1 : Int32) (x2 : Int32) : Nat → Int32 → Int32 → OB → Option (Int32 × (OB))
  | 0, _, _, _ => none
  | k + 1, v3, v4, oM =>
    (ald 270 (oM.2 0) (nI 5)).bind fun x50 => (if x50 ≤ v4 then some (v3, oM) else (f6_sideOf n (oM.2 0) v4 x1).bind fun z61 => (if z61 = (-1 : Int32) then (f6_meeting_b43 n x1 x2 k) v3 (v4 + (nI 1)) oM else (f6_sideOf n (oM.2 0) v4 x2).bind fun z75 => (if z75 = (-1 : Int32) then (f6_meeting_b43 n x1 x2 k) v3 (v4 + (nI 1)) oM else (f6_meeting_b43 n x1 x2 k) v4 (v4 + (nI 1)) oM)))
def f6_meeting (n : Nat) (oM : OB) (x1 : Int32) (x2 : Int32) : Option (Int32 × (OB)) :=
  (some (gsi oM 6 (nI 0))).bind fun oM_2 => (f6_isTeam n oM_2 x1).bind fun z7 => (if z7 = (0 : Int32) then (f6_fails n oM_2 (nI 1)).bind fun z23 => some (z23.1, z23.2) else (f6_isTeam n oM_2 x2).bind fun z15 => (if z15 = (0 : Int32) then (f6_fails n oM_2 (nI 1)).bind fun z23 => some (z23.1, z23.2) else (if x1 = x2 then (f6_fails n oM_2 (nI 2)).bind fun z34 => some (z34.1, z34.2) else f6_meeting_b43 n x1 x2 n (nI 0) (nI 0) oM_2)))
def f6_best_b88 (n : Nat) (x1 : Int32) (oM : OB) : Option (Int32 × (OB)) :=
  (f6_placeOf n (oM.2 1) x1).bind fun z93 => some (z93, oM)
def f6_best_b69 (n : Nat) (x1 : Int32) (k15 : Int32 → OB → Option (Int32 × (OB))) (k88 : OB → Option (Int32 × (OB))) (v2 : Int32) (v3 : Int32) (s1 : Int32) (s2 : Int32) (s3 : Int32) (oM : OB) : Option (Int32 × (OB)) :=
  (if v3 = (0 : Int32) then (f6_gives n (oM.2 1) s1 s2 s3 (nI 0)).bind fun z79 => k15 (v2 + (nI 1)) (gsa oM 1 z79) else (f6_gives n (oM.2 1) s1 s2 s3 (nI 99)).bind fun z79 => k15 (v2 + (nI 1)) (gsa oM 1 z79))
def f6_best_b15 (n : Nat) (x1 : Int32) (k88 : OB → Option (Int32 × (OB))) : Nat → Int32 → OB → Option (Int32 × (OB))
  | 0, _, _ => none
  | k + 1, v2, oM =>
    (ald 270 (oM.2 1) (nI 5)).bind fun x21 => (if x21 ≤ v2 then k88 oM else (f6_sideOf n (oM.2 1) v2 x1).bind fun z31 => (if z31 = (-1 : Int32) then (f6_best_b15 n x1 k88 k) (v2 + (nI 1)) oM else (f6_of n (oM.2 1) v2 (nI 6)).bind fun z47 => (if z47 = (0 : Int32) then (if z31 = (0 : Int32) then f6_best_b69 n x1 (f6_best_b15 n x1 k88 k) k88 v2 z31 v2 (nI 1) (nI 99) oM else f6_best_b69 n x1 (f6_best_b15 n x1 k88 k) k88 v2 z31 v2 (nI 1) (nI 0) oM) else (f6_best_b15 n x1 k88 k) (v2 + (nI 1)) oM)))
def f6_best (n : Nat) (oM : OB) (x1 : Int32) : Option (Int32 × (OB)) :=
  (f6_copies n 270 (oM.2 0) 270 (oM.2 1) (nI 0) (nI 0)).bind fun z10 => f6_best_b15 n x1 (fun oM => f6_best_b88 n x1 oM) n (nI 0) (gsa oM 1 z10)
def f6_bestPlace (n : Nat) (oM : OB) (x1 : Int32) : Option (Int32 × (OB)) :=
  (some (gsi oM 6 (nI 0))).bind fun oM_2 => (f6_isTeam n oM_2 x1).bind fun z7 => (if z7 = (0 : Int32) then (f6_fails n oM_2 (nI 1)).bind fun z23 => some (z23.1, z23.2) else (f6_best n oM_2 x1).bind fun z15 => some (z15.1, z15.2))
def f6_sure_b72 (n : Nat) (oM : OB) (x1 : Int32) (v2 : Int32) : Option (Int32) :=
  (if v2 = (0 : Int32) then some (nI 0) else some (nI 1))
def f6_sure_b4 (n : Nat) (oM : OB) (x1 : Int32) (k72 : Int32 → Option (Int32)) : Nat → Int32 → Int32 → Option (Int32)
  | 0, _, _ => none
  | k + 1, v2, v3 =>
    (ald 270 (oM.2 0) (nI 4)).bind fun x10 => (if x10 ≤ v3 then k72 v2 else (if v2 = (0 : Int32) then (f6_sure_b4 n oM x1 k72 k) (nI 0) (v3 + (nI 1)) else (if v3 = x1 then (f6_sure_b4 n oM x1 k72 k) (nI 1) (v3 + (nI 1)) else (f6_points n (oM.2 0) v3).bind fun z28 => (ald 270 (oM.2 0) (nI 0)).bind fun x36 => (f6_sums n (oM.2 0) v3 (nI 8)).bind fun z44 => (f6_points n (oM.2 0) x1).bind fun z54 => (if z54 ≤ (z28 + (x36 * z44)) then (f6_sure_b4 n oM x1 k72 k) (nI 0) (v3 + (nI 1)) else (f6_sure_b4 n oM x1 k72 k) (nI 1) (v3 + (nI 1))))))
def f6_sure (n : Nat) (oM : OB) (x1 : Int32) : Option (Int32) :=
  f6_sure_b4 n oM x1 (fun v2 => f6_sure_b72 n oM x1 v2) n (nI 1) (nI 0)
def f6_isSure (n : Nat) (oM : OB) (x1 : Int32) : Option (Int32 × (OB)) :=
  (some (gsi oM 6 (nI 0))).bind fun oM_2 => (f6_isTeam n oM_2 x1).bind fun z7 => (if z7 = (0 : Int32) then (f6_fails n oM_2 (nI 1)).bind fun z23 => some (z23.1, z23.2) else (f6_sure n oM_2 x1).bind fun z15 => some (z15, oM_2))
def f6_without (n : Nat) (oM : OB) (x1 : Int32) : Option (Int32 × (OB)) :=
  (f6_copies n 270 (oM.2 0) 270 (oM.2 1) (nI 0) (nI 0)).bind fun z10 => (oast (gsa oM 1 z10) 1 270 ((nI 6) + x1) (nI 127)).bind fun oM_23 => (f6_stages n (oM_23.2 1)).bind fun z28 => some (z28.1, gsa oM_23 1 z28.2)
def f6_ifMissing (n : Nat) (oM : OB) (x1 : Int32) : Option (Int32 × (OB)) :=
  (some (gsi oM 6 (nI 0))).bind fun oM_2 => (f6_in n x1 (nI 0) (nI 11)).bind fun z9 => (if z9 = (0 : Int32) then (f6_fails n oM_2 (nI 1)).bind fun z25 => some (z25.1, z25.2) else (f6_without n oM_2 x1).bind fun z17 => some (z17.1, z17.2))
def f6_nearness (n : Nat) (oM : OB) : Option (UInt64) :=
  (f6_teamAt n (oM.2 0) (nI 0)).bind fun z9 => (f6_points n (oM.2 0) z9).bind fun z12 => (ald 270 (oM.2 0) (nI 4)).bind fun x29 => (f6_teamAt n (oM.2 0) (x29 - (nI 1))).bind fun z32 => (f6_points n (oM.2 0) z32).bind fun z35 => (if (0 : Int32) < z12 then (nn (FP.ddiv (FP.i2d z35) (FP.i2d z12))).bind fun _ => some (FP.ddiv (FP.i2d z35) (FP.i2d z12)) else some FP.dconst1)
def f6_closeness (n : Nat) (oM : OB) : Option (UInt64 × (OB)) :=
  (some (gsi oM 6 (nI 0))).bind fun oM_2 => (f6_nearness n oM_2).bind fun z6 => some (z6, oM_2)
def fJ_isNaN_b9ae7 (n : Nat) (x0 : UInt64) : Option (Int32) :=
  (if (Op.cmpValue (FP.dcmp x0 x0) .l) = (0 : Int32) then some (nI 0) else some (nI 1))
def fJ_doubleToLongBits_ccdee (n : Nat) (x0 : UInt64) : Option (Int64) :=
  (fJ_isNaN_b9ae7 n x0).bind fun z1 => (if z1 = (0 : Int32) then some x0.toInt64 else some (9221120237041090560 : Int64))
def f6_digest_b331 (n : Nat) (v1 : Int64) (oM : OB) : Option (Int64 × (OB)) :=
  some (v1, oM)
def f6_digest_b303 (n : Nat) (k331 : Int64 → OB → Option (Int64 × (OB))) : Nat → Int64 → Int32 → OB → Option (Int64 × (OB))
  | 0, _, _, _ => none
  | k + 1, v1, v3, oM =>
    (if (oM.1 5) ≤ v3 then k331 v1 oM else (ald 60 (oM.2 4) v3).bind fun x321 => (f6_digest_b303 n k331 k) (((31 : Int64) * v1) + x321.toInt64) (v3 + (nI 1)) oM)
def f6_digest_b277 (n : Nat) (v1 : Int64) (oM : OB) : Option (Int64 × (OB)) :=
  (f6_nearness n oM).bind fun z286 => (fJ_doubleToLongBits_ccdee n z286).bind fun z289 => f6_digest_b303 n (fun v1 oM => f6_digest_b331 n v1 oM) n (((31 : Int64) * (((31 : Int64) * v1) + z289)) + ((oM.1 5).toInt64)) (nI 0) oM
def f6_digest_b252 (n : Nat) (k277 : Int64 → OB → Option (Int64 × (OB))) : Nat → Int64 → Int32 → OB → Option (Int64 × (OB))
  | 0, _, _, _ => none
  | k + 1, v1, v3, oM =>
    (if (nI 12) ≤ v3 then k277 v1 oM else (f6_without n oM v3).bind fun z265 => (f6_digest_b252 n k277 k) (((31 : Int64) * v1) + z265.1.toInt64) (v3 + (nI 1)) z265.2)
def f6_digest_b250 (n : Nat) (v1 : Int64) (oM : OB) : Option (Int64 × (OB)) :=
  f6_digest_b252 n (fun v1 oM => f6_digest_b277 n v1 oM) n v1 (nI 0) oM
def f6_digest_b218 (n : Nat) (k250 : Int64 → OB → Option (Int64 × (OB))) : Nat → Int64 → Int32 → OB → Option (Int64 × (OB))
  | 0, _, _, _ => none
  | k + 1, v1, v3, oM =>
    (ald 270 (oM.2 0) (nI 4)).bind fun x224 => (if x224 ≤ v3 then k250 v1 oM else (f6_teamAt n (oM.2 0) v3).bind fun z238 => (f6_digest_b218 n k250 k) (((31 : Int64) * v1) + z238.toInt64) (v3 + (nI 1)) oM)
def f6_digest_b216 (n : Nat) (v1 : Int64) (oM : OB) : Option (Int64 × (OB)) :=
  f6_digest_b218 n (fun v1 oM => f6_digest_b250 n v1 oM) n v1 (nI 0) oM
def f6_digest_b186 (n : Nat) (k145 : Int64 → Int32 → OB → Option (Int64 × (OB))) (k216 : Int64 → OB → Option (Int64 × (OB))) (v1 : Int64) (v3 : Int32) (oM : OB) : Option (Int64 × (OB)) :=
  (f6_best n oM v3).bind fun z196 => (f6_sure n z196.2 v3).bind fun z204 => k145 (((31 : Int64) * (((31 : Int64) * v1) + z196.1.toInt64)) + z204.toInt64) (v3 + (nI 1)) z196.2
def f6_digest_b158 (n : Nat) (k186 : Int64 → Int32 → OB → Option (Int64 × (OB))) : Nat → Int64 → Int32 → Int32 → OB → Option (Int64 × (OB))
  | 0, _, _, _, _ => none
  | k + 1, v1, v3, v4, oM =>
    (if (nI 9) ≤ v4 then k186 v1 v3 oM else (f6_ofTeam n oM v3 v4).bind fun z174 => (f6_digest_b158 n k186 k) (((31 : Int64) * v1) + z174.toInt64) v3 (v4 + (nI 1)) oM)
def f6_digest_b145 (n : Nat) (k216 : Int64 → OB → Option (Int64 × (OB))) : Nat → Int64 → Int32 → OB → Option (Int64 × (OB))
  | 0, _, _, _ => none
  | k + 1, v1, v3, oM =>
    (ald 270 (oM.2 0) (nI 4)).bind fun x151 => (if x151 ≤ v3 then k216 v1 oM else f6_digest_b158 n (fun v1 v3 oM => f6_digest_b186 n (f6_digest_b145 n k216 k) k216 v1 v3 oM) n v1 v3 (nI 0) oM)
def f6_digest_b143 (n : Nat) (v1 : Int64) (oM : OB) : Option (Int64 × (OB)) :=
  f6_digest_b145 n (fun v1 oM => f6_digest_b216 n v1 oM) n v1 (nI 0) oM
def f6_digest_b137 (n : Nat) (k96 : Int64 → Int32 → OB → Option (Int64 × (OB))) (k143 : Int64 → OB → Option (Int64 × (OB))) (v1 : Int64) (v3 : Int32) (oM : OB) : Option (Int64 × (OB)) :=
  k96 v1 (v3 + (nI 1)) oM
def f6_digest_b109 (n : Nat) (k137 : Int64 → Int32 → OB → Option (Int64 × (OB))) : Nat → Int64 → Int32 → Int32 → OB → Option (Int64 × (OB))
  | 0, _, _, _, _ => none
  | k + 1, v1, v3, v4, oM =>
    (if (nI 9) ≤ v4 then k137 v1 v3 oM else (f6_ofMatch n oM v3 v4).bind fun z125 => (f6_digest_b109 n k137 k) (((31 : Int64) * v1) + z125.toInt64) v3 (v4 + (nI 1)) oM)
def f6_digest_b96 (n : Nat) (k143 : Int64 → OB → Option (Int64 × (OB))) : Nat → Int64 → Int32 → OB → Option (Int64 × (OB))
  | 0, _, _, _ => none
  | k + 1, v1, v3, oM =>
    (ald 270 (oM.2 0) (nI 5)).bind fun x102 => (if x102 ≤ v3 then k143 v1 oM else f6_digest_b109 n (fun v1 v3 oM => f6_digest_b137 n (f6_digest_b96 n k143 k) k143 v1 v3 oM) n v1 v3 (nI 0) oM)
def f6_digest_b94 (n : Nat) (v1 : Int64) (oM : OB) : Option (Int64 × (OB)) :=
  f6_digest_b96 n (fun v1 oM => f6_digest_b143 n v1 oM) n v1 (nI 0) oM
def f6_digest_b65 (n : Nat) (k94 : Int64 → OB → Option (Int64 × (OB))) : Nat → Int64 → Int32 → OB → Option (Int64 × (OB))
  | 0, _, _, _ => none
  | k + 1, v1, v3, oM =>
    (if (nI 12) ≤ v3 then k94 v1 oM else (ald 270 (oM.2 0) ((nI 6) + v3)).bind fun x84 => (f6_digest_b65 n k94 k) (((31 : Int64) * v1) + x84.toInt64) (v3 + (nI 1)) oM)
def f6_digest_b63 (n : Nat) (v1 : Int64) (oM : OB) : Option (Int64 × (OB)) :=
  f6_digest_b65 n (fun v1 oM => f6_digest_b94 n v1 oM) n v1 (nI 0) oM
def f6_digest_b38 (n : Nat) (k63 : Int64 → OB → Option (Int64 × (OB))) : Nat → Int64 → Int32 → OB → Option (Int64 × (OB))
  | 0, _, _, _ => none
  | k + 1, v1, v3, oM =>
    (if (nI 4) ≤ v3 then k63 v1 oM else (ald 270 (oM.2 0) v3).bind fun x53 => (f6_digest_b38 n k63 k) (((31 : Int64) * v1) + x53.toInt64) (v3 + (nI 1)) oM)
def f6_digest_b36 (n : Nat) (v1 : Int64) (oM : OB) : Option (Int64 × (OB)) :=
  f6_digest_b38 n (fun v1 oM => f6_digest_b63 n v1 oM) n v1 (nI 0) oM
def f6_digest_b11 (n : Nat) (k36 : Int64 → OB → Option (Int64 × (OB))) : Nat → Int64 → Int32 → OB → Option (Int64 × (OB))
  | 0, _, _, _ => none
  | k + 1, v1, v3, oM =>
    (if (nI 10) ≤ v3 then k36 v1 oM else (f6_counted n oM v3).bind fun z24 => (f6_digest_b11 n k36 k) (((31 : Int64) * v1) + z24.toInt64) (v3 + (nI 1)) oM)
def f6_digest (n : Nat) (oM : OB) : Option (Int64 × (OB)) :=
  (some (gsi oM 6 (nI 0))).bind fun oM_2 => f6_digest_b11 n (fun v1 oM => f6_digest_b36 n v1 oM) n (3011 : Int64) (nI 0) oM_2
def f5_mix (n : Nat) (x0 : Int64) (x2 : Int64) : Option (Int64) :=
  some (((31 : Int64) * x0) + x2)
def f5_bitsOf_b107 (n : Nat) (x0 : UInt64) (v2 : Int64) (v4 : UInt64) (v6 : Int64) : Option (Int64) :=
  (nn (FP.dsub v4 FP.dconst1)).bind fun _ => (nn (FP.dmul (FP.dsub v4 FP.dconst1) (4841369599423283200 : UInt64))).bind fun _ => some ((v2 ||| (v6 <<< ((nI 52).toInt64 &&& 63))) ||| (FP.d2l (FP.dmul (FP.dsub v4 FP.dconst1) (4841369599423283200 : UInt64))))
def f5_bitsOf_b76 (n : Nat) (x0 : UInt64) (k107 : Int64 → UInt64 → Int64 → Option (Int64)) : Nat → Int64 → UInt64 → Int64 → Option (Int64)
  | 0, _, _, _ => none
  | k + 1, v2, v4, v6 =>
    (if (0 : Int32) ≤ (Op.cmpValue (FP.dcmp v4 FP.dconst1) .g) then k107 v2 v4 v6 else (if (lg_cmp v6 (1 : Int64)) ≤ (0 : Int32) then k107 v2 v4 v6 else (nn (FP.dmul v4 (4611686018427387904 : UInt64))).bind fun _ => (f5_bitsOf_b76 n x0 k107 k) v2 (FP.dmul v4 (4611686018427387904 : UInt64)) (v6 - (1 : Int64))))
def f5_bitsOf_b41 (n : Nat) (x0 : UInt64) (k76 : Int64 → UInt64 → Int64 → Option (Int64)) : Nat → Int64 → UInt64 → Int64 → Option (Int64)
  | 0, _, _, _ => none
  | k + 1, v2, v4, v6 =>
    (if (Op.cmpValue (FP.dcmp v4 (4611686018427387904 : UInt64)) .l) < (0 : Int32) then k76 v2 v4 v6 else (if (0 : Int32) ≤ (lg_cmp v6 (2046 : Int64)) then k76 v2 v4 v6 else (nn (FP.ddiv v4 (4611686018427387904 : UInt64))).bind fun _ => (f5_bitsOf_b41 n x0 k76 k) v2 (FP.ddiv v4 (4611686018427387904 : UInt64)) (v6 + (1 : Int64))))
def f5_bitsOf_b21 (n : Nat) (x0 : UInt64) (s0 : Int64) : Option (Int64) :=
  (if (0 : Int32) ≤ (Op.cmpValue (FP.dcmp x0 FP.dconst0) .g) then f5_bitsOf_b41 n x0 (fun v2 v4 v6 => f5_bitsOf_b76 n x0 (fun v2 v4 v6 => f5_bitsOf_b107 n x0 v2 v4 v6) n v2 v4 v6) n s0 x0 (1023 : Int64) else f5_bitsOf_b41 n x0 (fun v2 v4 v6 => f5_bitsOf_b76 n x0 (fun v2 v4 v6 => f5_bitsOf_b107 n x0 v2 v4 v6) n v2 v4 v6) n s0 (FP.dneg x0) (1023 : Int64))
def f5_bitsOf (n : Nat) (x0 : UInt64) : Option (Int64) :=
  (if (Op.cmpValue (FP.dcmp x0 FP.dconst0) .l) = (0 : Int32) then some (0 : Int64) else (if (0 : Int32) ≤ (Op.cmpValue (FP.dcmp x0 FP.dconst0) .g) then f5_bitsOf_b21 n x0 (0 : Int64) else f5_bitsOf_b21 n x0 (-9223372036854775808 : Int64)))
def f5_canReportAll_b10 (n : Nat) (oS : OB) (oG : OB) (oL : OB) (oU : OB) (oV : OB) (oB : OB) (oH : HS) : Nat → Int32 → Int32 → Option (Int32)
  | 0, _, _ => none
  | k + 1, v1, v2 =>
    (if v1 ≤ v2 then some (nI 1) else (ald 12 (oB.2 2) v2).bind fun x23 => (f1_hasMatch n oL x23).bind fun z30 => (if z30 = (0 : Int32) then some (nI 0) else (f1_canHaveResult n oL x23).bind fun z41 => (if z41 = (0 : Int32) then some (nI 0) else (f5_canReportAll_b10 n oS oG oL oU oV oB oH k) v1 (v2 + (nI 1)))))
def f5_canReportAll (n : Nat) (oS : OB) (oG : OB) (oL : OB) (oU : OB) (oV : OB) (oB : OB) (oH : HS) : Option (Int32) :=
  (f2_parts n oB).bind fun z4 => f5_canReportAll_b10 n oS oG oL oU oV oB oH n z4 (nI 0)
def f5_begin (n : Nat) (oS : OB) (oG : OB) (oL : OB) (oU : OB) (oV : OB) (oB : OB) (oH : HS) (x1 : Int32) : Option ((String ⊕ Int32) × (OB) × (HS)) :=
  (if x1 < (nI 3) then some ((.inl "java/lang/IllegalArgumentException"), oL, oH) else (if x1 ≤ (nI 8) then (f0_keep n oL oH).bind fun z29 => (f1_restart n oL x1).bind fun z37 => some ((.inr (z37.1 2)), z37, z29) else some ((.inl "java/lang/IllegalArgumentException"), oL, oH)))
def f5_close (n : Nat) (oS : OB) (oG : OB) (oL : OB) (oU : OB) (oV : OB) (oB : OB) (oH : HS) (x1 : Int32) (x2 : Int32) : Option ((String ⊕ Int32) × (OB) × (HS)) :=
  (if x1 < (0 : Int32) then some ((.inl "java/lang/IndexOutOfBoundsException"), oL, oH) else (if x1 < (nI 6) then (f5_isMask n x2).bind fun z21 => (if z21 = (0 : Int32) then some ((.inl "java/lang/IllegalArgumentException"), oL, oH) else (f0_keep n oL oH).bind fun z45 => (ald 6 (oL.2 4) x1).bind fun x56 => (oast oL 4 6 x1 x2).bind fun oL_67 => some ((.inr x56), oL_67, z45)) else some ((.inl "java/lang/IndexOutOfBoundsException"), oL, oH)))
def f5_away (n : Nat) (oS : OB) (oG : OB) (oL : OB) (oU : OB) (oV : OB) (oB : OB) (oH : HS) (x1 : Int32) (x2 : Int32) : Option ((String ⊕ Int32) × (OB) × (HS)) :=
  (if x1 < (0 : Int32) then some ((.inl "java/lang/IndexOutOfBoundsException"), oL, oH) else (if x1 < (nI 6) then (f5_isMask n x2).bind fun z21 => (if z21 = (0 : Int32) then some ((.inl "java/lang/IllegalArgumentException"), oL, oH) else (f0_keep n oL oH).bind fun z45 => (ald 6 (oL.2 5) x1).bind fun x56 => (oast oL 5 6 x1 x2).bind fun oL_67 => some ((.inr x56), oL_67, z45)) else some ((.inl "java/lang/IndexOutOfBoundsException"), oL, oH)))
def f5_annul_b49 (n : Nat) (oS : OB) (oG : OB) (oU : OB) (oV : OB) (oB : OB) (x1 : Int32) (s0 : Int32) (oL : OB) (oH : HS) : Option ((String ⊕ Int32) × (OB) × (HS)) :=
  (f1_give n oL x1 (nI 0) (nI 0) (nI 0)).bind fun z58 => (if s0 = (0 : Int32) then some ((.inr (nI 0)), z58, oH) else some ((.inr (nI 1)), z58, oH))
def f5_annul (n : Nat) (oS : OB) (oG : OB) (oL : OB) (oU : OB) (oV : OB) (oB : OB) (oH : HS) (x1 : Int32) : Option ((String ⊕ Int32) × (OB) × (HS)) :=
  (f1_hasMatch n oL x1).bind fun z5 => (if z5 = (0 : Int32) then some ((.inl "java/lang/IndexOutOfBoundsException"), oL, oH) else (f0_keep n oL oH).bind fun z29 => (ald 28 (oL.2 12) x1).bind fun x40 => (if x40 = (0 : Int32) then f5_annul_b49 n oS oG oU oV oB x1 (nI 0) oL z29 else f5_annul_b49 n oS oG oU oV oB x1 (nI 1) oL z29))
def f5_append (n : Nat) (oS : OB) (oG : OB) (oL : OB) (oU : OB) (oV : OB) (oB : OB) (oH : HS) (x1 : Int32) : Option ((String ⊕ Int32) × (OB)) :=
  (if x1 < (nI 33) then some ((.inl "java/lang/IllegalArgumentException"), oB) else (if x1 ≤ (nI 126) then (if (oB.1 0) < (nI 60) then (f2_add n oB x1).bind fun z49 => some ((.inr (z49.1 0)), z49) else some ((.inl "java/lang/IllegalStateException"), oB)) else some ((.inl "java/lang/IllegalArgumentException"), oB)))
def f5_clearBuffer (n : Nat) (oS : OB) (oG : OB) (oL : OB) (oU : OB) (oV : OB) (oB : OB) (oH : HS) : Option (Int32 × (OB)) :=
  (some (gsi oB 0 (nI 0))).bind fun oB_13 => some (oB.1 0, oB_13)
def f5_firstError (n : Nat) (oS : OB) (oG : OB) (oL : OB) (oU : OB) (oV : OB) (oB : OB) (oH : HS) : Option (Int32 × (OB)) :=
  (f2_read n oB).bind fun z4 => some (z4.1, z4.2)
def f5_report_b120 (n : Nat) (oS : OB) (oG : OB) (oU : OB) (oV : OB) (oL : OB) (oB : OB) (oH : HS) : Option ((String ⊕ Int32) × (OB) × (OB) × (HS)) :=
  (some (gsi oB 0 (nI 0))).bind fun oB_125 => (f1_withResult n oL).bind fun z132 => some ((.inr z132), oL, oB_125, oH)
def f5_report_b66 (n : Nat) (oS : OB) (oG : OB) (oU : OB) (oV : OB) (k120 : OB → OB → HS → Option ((String ⊕ Int32) × (OB) × (OB) × (HS))) : Nat → Int32 → Int32 → OB → OB → HS → Option ((String ⊕ Int32) × (OB) × (OB) × (HS))
  | 0, _, _, _, _, _ => none
  | k + 1, v1, v2, oL, oB, oH =>
    (if v1 ≤ v2 then k120 oL oB oH else (ald 12 (oB.2 2) v2).bind fun x83 => (ald 12 (oB.2 3) v2).bind fun x92 => (ald 12 (oB.2 4) v2).bind fun x101 => (ald 12 (oB.2 5) v2).bind fun x110 => (f1_give n oL x83 x92 x101 x110).bind fun z111 => (f5_report_b66 n oS oG oU oV k120 k) v1 (v2 + (nI 1)) z111 oB oH)
def f5_report (n : Nat) (oS : OB) (oG : OB) (oL : OB) (oU : OB) (oV : OB) (oB : OB) (oH : HS) : Option ((String ⊕ Int32) × (OB) × (OB) × (HS)) :=
  (f2_read n oB).bind fun z4 => (f2_isComplete n z4.2).bind fun z12 => (if z12 = (0 : Int32) then some ((.inl "java/lang/IllegalArgumentException"), oL, z4.2, oH) else (f5_canReportAll n oS oG oL oU oV z4.2 oH).bind fun z29 => (if z29 = (0 : Int32) then some ((.inl "java/lang/IllegalStateException"), oL, z4.2, oH) else (f0_keep n oL oH).bind fun z53 => (f2_parts n z4.2).bind fun z60 => f5_report_b66 n oS oG oU oV (fun oL oB oH => f5_report_b120 n oS oG oU oV oL oB oH) n z60 (nI 0) oL z4.2 z53))
def f5_match (n : Nat) (oS : OB) (oG : OB) (oL : OB) (oU : OB) (oV : OB) (oB : OB) (oH : HS) (x1 : Int32) (x2 : Int32) : Option ((String ⊕ Int32)) :=
  (f1_hasMatch n oL x1).bind fun z5 => (if z5 = (0 : Int32) then some (.inl "java/lang/IndexOutOfBoundsException") else (if x2 < (0 : Int32) then some (.inl "java/lang/IllegalArgumentException") else (if x2 < (nI 9) then (f1_property n oL x1 x2).bind fun z47 => some (.inr z47) else some (.inl "java/lang/IllegalArgumentException"))))
def f5_team (n : Nat) (oS : OB) (oG : OB) (oL : OB) (oU : OB) (oV : OB) (oB : OB) (oH : HS) (x1 : Int32) (x2 : Int32) : Option ((String ⊕ Int32) × (OB)) :=
  (f1_hasTeam n oL x1).bind fun z5 => (if z5 = (0 : Int32) then some ((.inl "java/lang/IndexOutOfBoundsException"), oS) else (if x2 < (0 : Int32) then some ((.inl "java/lang/IllegalArgumentException"), oS) else (if x2 < (nI 9) then (f4_countUp n oS oL).bind fun z49 => (f4_property n z49 x1 x2).bind fun z58 => some ((.inr z58), z49) else some ((.inl "java/lang/IllegalArgumentException"), oS))))
def f5_table (n : Nat) (oS : OB) (oG : OB) (oL : OB) (oU : OB) (oV : OB) (oB : OB) (oH : HS) (x1 : Int32) : Option ((String ⊕ Int32) × (OB)) :=
  (if (0 : Int32) ≤ x1 then (f4_countUp n oS oL).bind fun z22 => (f4_teamAt n z22 x1).bind fun z30 => some ((.inr z30), z22) else some ((.inl "java/lang/IllegalArgumentException"), oS))
def f5_busy (n : Nat) (oS : OB) (oG : OB) (oL : OB) (oU : OB) (oV : OB) (oB : OB) (oH : HS) (x1 : Int32) (x2 : Int32) : Option ((String ⊕ Int32)) :=
  (if x1 < (0 : Int32) then some (.inl "java/lang/IndexOutOfBoundsException") else (if x1 < (oL.1 1) then (f5_isVenueOrSetter n x2).bind fun z26 => (if z26 = (0 : Int32) then some (.inl "java/lang/IllegalArgumentException") else (if (nI 6) ≤ x2 then (f1_matchInRound_s n oL x1 (x2 - (nI 6))).bind fun z81 => some (.inr z81) else (f1_matchInRound_v n oL x1 x2).bind fun z61 => some (.inr z61))) else some (.inl "java/lang/IndexOutOfBoundsException")))
def f5_count (n : Nat) (oS : OB) (oG : OB) (oL : OB) (oU : OB) (oV : OB) (oB : OB) (oH : HS) (x1 : Int32) : Option ((String ⊕ Int32) × (OB)) :=
  (if x1 < (0 : Int32) then some ((.inl "java/lang/IllegalArgumentException"), oS) else (if x1 < (nI 10) then (f4_countUp n oS oL).bind fun z28 => (f5_number n z28 oG oL oU oV oB oH x1).bind fun z33 => some ((.inr z33), z28) else some ((.inl "java/lang/IllegalArgumentException"), oS)))
def f5_setting (n : Nat) (oS : OB) (oG : OB) (oL : OB) (oU : OB) (oV : OB) (oB : OB) (oH : HS) (x1 : Int32) : Option ((String ⊕ Int32)) :=
  (if x1 < (0 : Int32) then some (.inl "java/lang/IndexOutOfBoundsException") else (if x1 < (nI 4) then (ald 4 (oL.2 3) x1).bind fun x27 => some (.inr x27) else some (.inl "java/lang/IndexOutOfBoundsException")))
def f5_meeting (n : Nat) (oS : OB) (oG : OB) (oL : OB) (oU : OB) (oV : OB) (oB : OB) (oH : HS) (x1 : Int32) (x2 : Int32) : Option ((String ⊕ Int32)) :=
  (f1_hasTeam n oL x1).bind fun z5 => (if z5 = (0 : Int32) then some (.inl "java/lang/IndexOutOfBoundsException") else (f1_hasTeam n oL x2).bind fun z16 => (if z16 = (0 : Int32) then some (.inl "java/lang/IndexOutOfBoundsException") else (if x1 = x2 then some (.inl "java/lang/IllegalArgumentException") else (f1_matchOfBoth n oL x1 x2).bind fun z53 => some (.inr z53))))
def f5_bestPlace (n : Nat) (oS : OB) (oG : OB) (oL : OB) (oU : OB) (oV : OB) (oB : OB) (oH : HS) (x1 : Int32) : Option ((String ⊕ Int32) × (OB) × (OB)) :=
  (f1_hasTeam n oL x1).bind fun z5 => (if z5 = (0 : Int32) then some ((.inl "java/lang/IndexOutOfBoundsException"), oU, oV) else (f5_placeByWinningAll n oS oG oL oU oV oB oH x1).bind fun z23 => some ((.inr z23.1), z23.2.1, z23.2.2))
def f5_isSure (n : Nat) (oS : OB) (oG : OB) (oL : OB) (oU : OB) (oV : OB) (oB : OB) (oH : HS) (x1 : Int32) : Option ((String ⊕ Int32) × (OB)) :=
  (f1_hasTeam n oL x1).bind fun z5 => (if z5 = (0 : Int32) then some ((.inl "java/lang/IndexOutOfBoundsException"), oS) else (f4_countUp n oS oL).bind fun z29 => (ald 4 (oL.2 3) (nI 0)).bind fun x45 => (f4_isOutOfReach n z29 x1 x45).bind fun z46 => (if z46 = (0 : Int32) then some ((.inr (nI 0)), z29) else some ((.inr (nI 1)), z29)))
def f5_ifMissing (n : Nat) (oS : OB) (oG : OB) (oL : OB) (oU : OB) (oV : OB) (oB : OB) (oH : HS) (x1 : Int32) : Option ((String ⊕ Int32) × (OB) × (OB)) :=
  (f5_isVenueOrSetter n x1).bind fun z1 => (if z1 = (0 : Int32) then some ((.inl "java/lang/IllegalArgumentException"), oG, oV) else (f5_assignedWithout n oS oG oL oU oV oB oH x1).bind fun z19 => some ((.inr z19.1), z19.2.1, z19.2.2))
def f5_mixLeague_b125 (n : Nat) (oS : OB) (oG : OB) (oL : OB) (oU : OB) (oV : OB) (oB : OB) (oH : HS) (x1 : Int64) (v3 : Int64) : Option (Int64) :=
  some v3
def f5_mixLeague_b96 (n : Nat) (oS : OB) (oG : OB) (oL : OB) (oU : OB) (oV : OB) (oB : OB) (oH : HS) (x1 : Int64) (k125 : Int64 → Option (Int64)) : Nat → Int64 → Int32 → Option (Int64)
  | 0, _, _ => none
  | k + 1, v3, v5 =>
    (if (nI 6) ≤ v5 then k125 v3 else (ald 6 (oL.2 5) v5).bind fun x113 => (f5_mix n v3 x113.toInt64).bind fun z115 => (f5_mixLeague_b96 n oS oG oL oU oV oB oH x1 k125 k) z115 (v5 + (nI 1)))
def f5_mixLeague_b93 (n : Nat) (oS : OB) (oG : OB) (oL : OB) (oU : OB) (oV : OB) (oB : OB) (oH : HS) (x1 : Int64) (v3 : Int64) : Option (Int64) :=
  f5_mixLeague_b96 n oS oG oL oU oV oB oH x1 (fun v3 => f5_mixLeague_b125 n oS oG oL oU oV oB oH x1 v3) n v3 (nI 0)
def f5_mixLeague_b64 (n : Nat) (oS : OB) (oG : OB) (oL : OB) (oU : OB) (oV : OB) (oB : OB) (oH : HS) (x1 : Int64) (k93 : Int64 → Option (Int64)) : Nat → Int64 → Int32 → Option (Int64)
  | 0, _, _ => none
  | k + 1, v3, v5 =>
    (if (nI 6) ≤ v5 then k93 v3 else (ald 6 (oL.2 4) v5).bind fun x81 => (f5_mix n v3 x81.toInt64).bind fun z83 => (f5_mixLeague_b64 n oS oG oL oU oV oB oH x1 k93 k) z83 (v5 + (nI 1)))
def f5_mixLeague_b61 (n : Nat) (oS : OB) (oG : OB) (oL : OB) (oU : OB) (oV : OB) (oB : OB) (oH : HS) (x1 : Int64) (v3 : Int64) : Option (Int64) :=
  f5_mixLeague_b64 n oS oG oL oU oV oB oH x1 (fun v3 => f5_mixLeague_b93 n oS oG oL oU oV oB oH x1 v3) n v3 (nI 0)
def f5_mixLeague_b33 (n : Nat) (oS : OB) (oG : OB) (oL : OB) (oU : OB) (oV : OB) (oB : OB) (oH : HS) (x1 : Int64) (k61 : Int64 → Option (Int64)) : Nat → Int64 → Int32 → Option (Int64)
  | 0, _, _ => none
  | k + 1, v3, v5 =>
    (if (nI 4) ≤ v5 then k61 v3 else (ald 4 (oL.2 3) v5).bind fun x49 => (f5_mix n v3 x49.toInt64).bind fun z51 => (f5_mixLeague_b33 n oS oG oL oU oV oB oH x1 k61 k) z51 (v5 + (nI 1)))
def f5_mixLeague_b30 (n : Nat) (oS : OB) (oG : OB) (oL : OB) (oU : OB) (oV : OB) (oB : OB) (oH : HS) (x1 : Int64) (v3 : Int64) : Option (Int64) :=
  f5_mixLeague_b33 n oS oG oL oU oV oB oH x1 (fun v3 => f5_mixLeague_b61 n oS oG oL oU oV oB oH x1 v3) n v3 (nI 0)
def f5_mixLeague_b5 (n : Nat) (oS : OB) (oG : OB) (oL : OB) (oU : OB) (oV : OB) (oB : OB) (oH : HS) (x1 : Int64) (k30 : Int64 → Option (Int64)) : Nat → Int64 → Int32 → Option (Int64)
  | 0, _, _ => none
  | k + 1, v3, v5 =>
    (if (nI 10) ≤ v5 then k30 v3 else (f5_number n oS oG oL oU oV oB oH v5).bind fun z16 => (f5_mix n v3 z16.toInt64).bind fun z20 => (f5_mixLeague_b5 n oS oG oL oU oV oB oH x1 k30 k) z20 (v5 + (nI 1)))
def f5_mixLeague (n : Nat) (oS : OB) (oG : OB) (oL : OB) (oU : OB) (oV : OB) (oB : OB) (oH : HS) (x1 : Int64) : Option (Int64) :=
  f5_mixLeague_b5 n oS oG oL oU oV oB oH x1 (fun v3 => f5_mixLeague_b30 n oS oG oL oU oV oB oH x1 v3) n x1 (nI 0)
def f5_mixMatches_b56 (n : Nat) (oS : OB) (oG : OB) (oL : OB) (oU : OB) (oV : OB) (oB : OB) (oH : HS) (x1 : Int64) (v3 : Int64) : Option (Int64) :=
  some v3
def f5_mixMatches_b50 (n : Nat) (oS : OB) (oG : OB) (oL : OB) (oU : OB) (oV : OB) (oB : OB) (oH : HS) (x1 : Int64) (k5 : Int64 → Int32 → Option (Int64)) (k56 : Int64 → Option (Int64)) (v3 : Int64) (v5 : Int32) : Option (Int64) :=
  k5 v3 (v5 + (nI 1))
def f5_mixMatches_b20 (n : Nat) (oS : OB) (oG : OB) (oL : OB) (oU : OB) (oV : OB) (oB : OB) (oH : HS) (x1 : Int64) (k50 : Int64 → Int32 → Option (Int64)) : Nat → Int64 → Int32 → Int32 → Option (Int64)
  | 0, _, _, _ => none
  | k + 1, v3, v5, v6 =>
    (if (nI 9) ≤ v6 then k50 v3 v5 else (f1_property n oL v5 v6).bind fun z36 => (f5_mix n v3 z36.toInt64).bind fun z40 => (f5_mixMatches_b20 n oS oG oL oU oV oB oH x1 k50 k) z40 v5 (v6 + (nI 1)))
def f5_mixMatches_b5 (n : Nat) (oS : OB) (oG : OB) (oL : OB) (oU : OB) (oV : OB) (oB : OB) (oH : HS) (x1 : Int64) (k56 : Int64 → Option (Int64)) : Nat → Int64 → Int32 → Option (Int64)
  | 0, _, _ => none
  | k + 1, v3, v5 =>
    (if (oL.1 2) ≤ v5 then k56 v3 else f5_mixMatches_b20 n oS oG oL oU oV oB oH x1 (fun v3 v5 => f5_mixMatches_b50 n oS oG oL oU oV oB oH x1 (f5_mixMatches_b5 n oS oG oL oU oV oB oH x1 k56 k) k56 v3 v5) n v3 v5 (nI 0))
def f5_mixMatches (n : Nat) (oS : OB) (oG : OB) (oL : OB) (oU : OB) (oV : OB) (oB : OB) (oH : HS) (x1 : Int64) : Option (Int64) :=
  f5_mixMatches_b5 n oS oG oL oU oV oB oH x1 (fun v3 => f5_mixMatches_b56 n oS oG oL oU oV oB oH x1 v3) n x1 (nI 0)
def f5_mixTeams_b103 (n : Nat) (oS : OB) (oG : OB) (oL : OB) (oB : OB) (oH : HS) (x1 : Int64) (v3 : Int64) (oU : OB) (oV : OB) : Option (Int64 × (OB) × (OB)) :=
  some (v3, oU, oV)
def f5_mixTeams_b61 (n : Nat) (oS : OB) (oG : OB) (oL : OB) (oB : OB) (oH : HS) (x1 : Int64) (k16 : Int64 → Int32 → Int32 → OB → OB → Option (Int64 × (OB) × (OB))) (k103 : Int64 → OB → OB → Option (Int64 × (OB) × (OB))) (v3 : Int64) (v5 : Int32) (v6 : Int32) (oU : OB) (oV : OB) : Option (Int64 × (OB) × (OB)) :=
  (f5_placeByWinningAll n oS oG oL oU oV oB oH v6).bind fun z65 => (f5_mix n v3 z65.1.toInt64).bind fun z69 => (f4_isOutOfReach n oS v6 v5).bind fun z82 => (if z82 = (0 : Int32) then (f5_mix n z69 (0 : Int64)).bind fun z93 => k16 z93 v5 (v6 + (nI 1)) z65.2.1 z65.2.2 else (f5_mix n z69 (1 : Int64)).bind fun z93 => k16 z93 v5 (v6 + (nI 1)) z65.2.1 z65.2.2)
def f5_mixTeams_b31 (n : Nat) (oS : OB) (oG : OB) (oL : OB) (oB : OB) (oH : HS) (x1 : Int64) (k61 : Int64 → Int32 → Int32 → OB → OB → Option (Int64 × (OB) × (OB))) : Nat → Int64 → Int32 → Int32 → Int32 → OB → OB → Option (Int64 × (OB) × (OB))
  | 0, _, _, _, _, _, _ => none
  | k + 1, v3, v5, v6, v7, oU, oV =>
    (if (nI 9) ≤ v7 then k61 v3 v5 v6 oU oV else (f4_property n oS v6 v7).bind fun z47 => (f5_mix n v3 z47.toInt64).bind fun z51 => (f5_mixTeams_b31 n oS oG oL oB oH x1 k61 k) z51 v5 v6 (v7 + (nI 1)) oU oV)
def f5_mixTeams_b16 (n : Nat) (oS : OB) (oG : OB) (oL : OB) (oB : OB) (oH : HS) (x1 : Int64) (k103 : Int64 → OB → OB → Option (Int64 × (OB) × (OB))) : Nat → Int64 → Int32 → Int32 → OB → OB → Option (Int64 × (OB) × (OB))
  | 0, _, _, _, _, _ => none
  | k + 1, v3, v5, v6, oU, oV =>
    (if (oL.1 0) ≤ v6 then k103 v3 oU oV else f5_mixTeams_b31 n oS oG oL oB oH x1 (fun v3 v5 v6 oU oV => f5_mixTeams_b61 n oS oG oL oB oH x1 (f5_mixTeams_b16 n oS oG oL oB oH x1 k103 k) k103 v3 v5 v6 oU oV) n v3 v5 v6 (nI 0) oU oV)
def f5_mixTeams (n : Nat) (oS : OB) (oG : OB) (oL : OB) (oU : OB) (oV : OB) (oB : OB) (oH : HS) (x1 : Int64) : Option (Int64 × (OB) × (OB)) :=
  (ald 4 (oL.2 3) (nI 0)).bind fun x10 => f5_mixTeams_b16 n oS oG oL oB oH x1 (fun v3 oU oV => f5_mixTeams_b103 n oS oG oL oB oH x1 v3 oU oV) n x1 x10 (nI 0) oU oV
def f5_mixText_b50 (n : Nat) (oS : OB) (oG : OB) (oL : OB) (oU : OB) (oV : OB) (oB : OB) (oH : HS) (x1 : Int64) (v3 : Int64) : Option (Int64) :=
  some v3
def f5_mixText_b16 (n : Nat) (oS : OB) (oG : OB) (oL : OB) (oU : OB) (oV : OB) (oB : OB) (oH : HS) (x1 : Int64) (k50 : Int64 → Option (Int64)) : Nat → Int64 → Int32 → Option (Int64)
  | 0, _, _ => none
  | k + 1, v3, v5 =>
    (if (oB.1 0) ≤ v5 then k50 v3 else (ald 60 (oB.2 1) v5).bind fun x38 => (f5_mix n v3 x38.toInt64).bind fun z40 => (f5_mixText_b16 n oS oG oL oU oV oB oH x1 k50 k) z40 (v5 + (nI 1)))
def f5_mixText (n : Nat) (oS : OB) (oG : OB) (oL : OB) (oU : OB) (oV : OB) (oB : OB) (oH : HS) (x1 : Int64) : Option (Int64) :=
  (f5_mix n x1 ((oB.1 0).toInt64)).bind fun z9 => f5_mixText_b16 n oS oG oL oU oV oB oH x1 (fun v3 => f5_mixText_b50 n oS oG oL oU oV oB oH x1 v3) n z9 (nI 0)
def f5_digest_b89 (n : Nat) (oL : OB) (oB : OB) (oH : HS) (v1 : Int64) (oS : OB) (oG : OB) (oU : OB) (oV : OB) : Option (Int64 × (OB) × (OB) × (OB) × (OB)) :=
  (f4_shareOfLast n oS).bind fun z94 => (f5_bitsOf n z94).bind fun z97 => (f5_mix n v1 z97).bind fun z100 => (f5_mixText n oS oG oL oU oV oB oH z100).bind fun z106 => some (z106, oS, oG, oU, oV)
def f5_digest_b66 (n : Nat) (oL : OB) (oB : OB) (oH : HS) (k89 : Int64 → OB → OB → OB → OB → Option (Int64 × (OB) × (OB) × (OB) × (OB))) : Nat → Int64 → Int32 → OB → OB → OB → OB → Option (Int64 × (OB) × (OB) × (OB) × (OB))
  | 0, _, _, _, _, _, _ => none
  | k + 1, v1, v3, oS, oG, oU, oV =>
    (if (nI 12) ≤ v3 then k89 v1 oS oG oU oV else (f5_assignedWithout n oS oG oL oU oV oB oH v3).bind fun z75 => (f5_mix n v1 z75.1.toInt64).bind fun z79 => (f5_digest_b66 n oL oB oH k89 k) z79 (v3 + (nI 1)) oS z75.2.1 oU z75.2.2)
def f5_digest_b64 (n : Nat) (oL : OB) (oB : OB) (oH : HS) (v1 : Int64) (oS : OB) (oG : OB) (oU : OB) (oV : OB) : Option (Int64 × (OB) × (OB) × (OB) × (OB)) :=
  f5_digest_b66 n oL oB oH (fun v1 oS oG oU oV => f5_digest_b89 n oL oB oH v1 oS oG oU oV) n v1 (nI 0) oS oG oU oV
def f5_digest_b33 (n : Nat) (oL : OB) (oB : OB) (oH : HS) (k64 : Int64 → OB → OB → OB → OB → Option (Int64 × (OB) × (OB) × (OB) × (OB))) : Nat → Int64 → Int32 → OB → OB → OB → OB → Option (Int64 × (OB) × (OB) × (OB) × (OB))
  | 0, _, _, _, _, _, _ => none
  | k + 1, v1, v3, oS, oG, oU, oV =>
    (if (oL.1 0) ≤ v3 then k64 v1 oS oG oU oV else (f4_teamAt n oS v3).bind fun z50 => (f5_mix n v1 z50.toInt64).bind fun z54 => (f5_digest_b33 n oL oB oH k64 k) z54 (v3 + (nI 1)) oS oG oU oV)
def f5_digest (n : Nat) (oS : OB) (oG : OB) (oL : OB) (oU : OB) (oV : OB) (oB : OB) (oH : HS) : Option (Int64 × (OB) × (OB) × (OB) × (OB)) :=
  (f4_countUp n oS oL).bind fun z8 => (f5_mixLeague n z8 oG oL oU oV oB oH (3011 : Int64)).bind fun z15 => (f5_mixMatches n z8 oG oL oU oV oB oH z15).bind fun z21 => (f5_mixTeams n z8 oG oL oU oV oB oH z21).bind fun z27 => f5_digest_b33 n oL oB oH (fun v1 oS oG oU oV => f5_digest_b64 n oL oB oH v1 oS oG oU oV) n z27.1 (nI 0) z8 oG z27.2.1 z27.2.2
