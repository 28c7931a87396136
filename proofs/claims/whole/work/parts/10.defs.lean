/-! by program: the methods as plain functions -/
def hD : Nat := 20
def f_J6_bitCount_0f7a4 (S : hm_S) (v0 : Int32) (M : hm_M) : Option (Int32 × hm_M) :=
  hl ((v0 - (((v0.toUInt32 >>> ((1 : Int32).toUInt32 &&& Int32.toUInt32 31)).toInt32) &&& (1431655765 : Int32))) : Int32) fun x1 =>
  hl (((x1 &&& (858993459 : Int32)) + (((x1.toUInt32 >>>
  ((2 : Int32).toUInt32 &&& Int32.toUInt32 31)).toInt32) &&& (858993459 : Int32))) : Int32) fun x3 => hl (((x3 + ((x3.toUInt32 >>>
  ((4 : Int32).toUInt32 &&& Int32.toUInt32 31)).toInt32)) &&& (252645135 : Int32)) : Int32) fun x5 => hl ((x5 + ((x5.toUInt32 >>>
  ((8 : Int32).toUInt32 &&& Int32.toUInt32 31)).toInt32)) : Int32) fun x7 => hl ((x7 + ((x7.toUInt32 >>>
  ((16 : Int32).toUInt32 &&& Int32.toUInt32 31)).toInt32)) : Int32) fun x9 => some ((x9 &&& (63 : Int32)), M)
def b_J7_fill_53178_1 (S : hm_S) (k5 : Nat → Int32 → Int32 → Int32 → hm_M → Option hm_M) (v0 : Nat) (v1 : Int32) (v2 : Int32) (v3 : Int32) (M : hm_M) : Option hm_M :=
  (if v3 ≤ v2 then some M else hg (hm_ib S v0 .int v2 = true) <| hl (hm_wI M v0 v2.toNatClampNeg v1) fun M4 => k5 v0 v1 (v2 + (1 : Int32)) v3 M4)
def f_J7_fill_53178_1 (S : hm_S) (n : Nat) : Nat → Int32 → Int32 → Int32 → hm_M → Option hm_M := hm_it (b_J7_fill_53178_1 S ) (fun _ _ _ _ _ => none) n
def f_J7_fill_53178 (S : hm_S) (v0 : Nat) (v1 : Int32) (M : hm_M) : Option hm_M :=
  hg (hm_len S v0 .int ≠ 0) <| hl ((Int32.ofNat (hm_len S v0 .int)) : Int32) fun x3 => f_J7_fill_53178_1 S hN v0 v1 (0 : Int32) x3 M
def b_J7_fill_d0a16_1 (S : hm_S) (k6 : Nat → Int64 → Int32 → Int32 → hm_M → Option hm_M) (v0 : Nat) (v1 : Int64) (v3 : Int32) (v4 : Int32) (M : hm_M) : Option hm_M :=
  (if v4 ≤ v3 then some M else hg (hm_ib S v0 .long v3 = true) <| hl (hm_wL M v0 v3.toNatClampNeg v1) fun M4 => k6 v0 v1 (v3 + (1 : Int32)) v4 M4)
def f_J7_fill_d0a16_1 (S : hm_S) (n : Nat) : Nat → Int64 → Int32 → Int32 → hm_M → Option hm_M := hm_it (b_J7_fill_d0a16_1 S ) (fun _ _ _ _ _ => none) n
def f_J7_fill_d0a16 (S : hm_S) (v0 : Nat) (v1 : Int64) (M : hm_M) : Option hm_M :=
  hg (hm_len S v0 .long ≠ 0) <| hl ((Int32.ofNat (hm_len S v0 .long)) : Int32) fun x3 => f_J7_fill_d0a16_1 S hN v0 v1 (0 : Int32) x3 M
def b_Laws_begin_1 (S : hm_S) (k7 : Nat → Int32 → hm_M → Option hm_M) (v0 : Nat) (v1 : Int32) (M : hm_M) : Option hm_M :=
  (if (4 : Int32) ≤ v1 then some M else hg (S v0 = some (.inr 3)) <| hg (M.2.2 v0 2 ≠ 0) <| hg (hm_ib S (M.2.2 v0 2) .int v1 = true) <|
  hl (hm_wI M (M.2.2 v0 2) v1.toNatClampNeg (0 : Int32)) fun M6 => hg (M6.2.2 v0 3 ≠ 0) <| hg (hm_ib S (M6.2.2 v0 3) .int v1 = true) <|
  hl (hm_wI M6 (M6.2.2 v0 3) v1.toNatClampNeg (0 : Int32)) fun M11 => k7 v0 (v1 + (1 : Int32)) M11)
def f_Laws_begin_1 (S : hm_S) (n : Nat) : Nat → Int32 → hm_M → Option hm_M := hm_it (b_Laws_begin_1 S ) (fun _ _ _ => none) n
def f_Laws_begin (S : hm_S) (v0 : Nat) (M : hm_M) : Option hm_M :=
  hg (S v0 = some (.inr 3)) <| hl (hm_wI M v0 1 (0 : Int32)) fun M2 => f_Laws_begin_1 S hN v0 (0 : Int32) M2
def f_Chapel_begin (S : hm_S) (v0 : Nat) (M : hm_M) : Option hm_M :=
  hg (S v0 = some (.inr 0)) <| hl (hm_wI M v0 0 (4 : Int32)) fun M2 => hl (hm_wI M2 v0 1 (4 : Int32)) fun M4 =>
  hl (hm_wI M4 v0 2 (0 : Int32)) fun M6 => hl (hm_wI M6 v0 3 (0 : Int32)) fun M8 => hl (hm_wI M8 v0 4 (0 : Int32)) fun M10 =>
  hg (M10.2.2 v0 12 ≠ 0) <| hg (S (M10.2.2 v0 12) = some (.inr 3)) <| hv (f_Laws_begin S (M10.2.2 v0 12) M10) fun M15 => some M15
def b_Chapel_colourOf_1 (S : hm_S) (k4 : Nat → Int32 → Int32 → Int32 → hm_M → Option (Int32 × hm_M)) (v0 : Nat) (v1 : Int32) (v2 : Int32) (v3 : Int32) (M : hm_M) : Option (Int32 × hm_M) :=
  (if (12 : Int32) ≤ v3 then some (v2, M) else (if ((v1 >>> (v3 &&& 31)) &&& (1 : Int32)) = (1 : Int32) then hg (S v0 = some (.inr 0)) <|
  hg (M.2.2 v0 11 ≠ 0) <| hg (hm_ib S (M.2.2 v0 11) .int v3 = true) <| hl ((v2 ||| (M.1 (M.2.2 v0 11) v3.toNatClampNeg)) : Int32) fun x7 =>
  k4 v0 v1 x7 (v3 + (1 : Int32)) M else k4 v0 v1 v2 (v3 + (1 : Int32)) M))
def f_Chapel_colourOf_1 (S : hm_S) (n : Nat) : Nat → Int32 → Int32 → Int32 → hm_M → Option (Int32 × hm_M) := hm_it (b_Chapel_colourOf_1 S ) (fun _ _ _ _ _ => none) n
def f_Chapel_colourOf (S : hm_S) (v0 : Nat) (v1 : Int32) (M : hm_M) : Option (Int32 × hm_M) :=
  f_Chapel_colourOf_1 S hN v0 v1 (0 : Int32) (0 : Int32) M
def b_Chapel_guildNamed_1 (S : hm_S) (k2 : Nat → Int64 → Int32 → hm_M → Option (Int32 × hm_M)) (v0 : Nat) (v1 : Int64) (v3 : Int32) (M : hm_M) : Option (Int32 × hm_M) :=
  hg (S v0 = some (.inr 0)) <| (if (M.1 v0 3) ≤ v3 then some ((-1 : Int32), M) else (if (6 : Int32) ≤ v3 then some ((-1 : Int32), M)
  else hg (M.2.2 v0 5 ≠ 0) <| hg (hm_ib S (M.2.2 v0 5) .long v3 = true) <| (if (lg_cmp (M.2.1 (M.2.2 v0 5) v3.toNatClampNeg) v1) = 0 then some (v3, M)
  else k2 v0 v1 (v3 + (1 : Int32)) M)))
def f_Chapel_guildNamed_1 (S : hm_S) (n : Nat) : Nat → Int64 → Int32 → hm_M → Option (Int32 × hm_M) := hm_it (b_Chapel_guildNamed_1 S ) (fun _ _ _ _ => none) n
def f_Chapel_guildNamed (S : hm_S) (v0 : Nat) (v1 : Int64) (M : hm_M) : Option (Int32 × hm_M) :=
  f_Chapel_guildNamed_1 S hN v0 v1 (0 : Int32) M
def b_Chapel_hasPaneAt_1 (S : hm_S) (k2 : Nat → Int32 → Int32 → Int32 → hm_M → Option (Int32 × hm_M)) (v0 : Nat) (v1 : Int32) (v2 : Int32) (v3 : Int32) (M : hm_M) : Option (Int32 × hm_M) :=
  hg (S v0 = some (.inr 0)) <| (if (M.1 v0 4) ≤ v3 then some ((0 : Int32), M) else (if (12 : Int32) ≤ v3 then some ((0 : Int32), M)
  else hg (M.2.2 v0 8 ≠ 0) <| hg (hm_ib S (M.2.2 v0 8) .int v3 = true) <| (if (M.1 (M.2.2 v0 8) v3.toNatClampNeg) = v1 then hg (M.2.2 v0 9 ≠ 0) <|
  hg (hm_ib S (M.2.2 v0 9) .int v3 = true) <| (if (M.1 (M.2.2 v0 9) v3.toNatClampNeg) = v2 then some ((1 : Int32), M)
  else k2 v0 v1 v2 (v3 + (1 : Int32)) M) else k2 v0 v1 v2 (v3 + (1 : Int32)) M)))
def f_Chapel_hasPaneAt_1 (S : hm_S) (n : Nat) : Nat → Int32 → Int32 → Int32 → hm_M → Option (Int32 × hm_M) := hm_it (b_Chapel_hasPaneAt_1 S ) (fun _ _ _ _ _ => none) n
def f_Chapel_hasPaneAt (S : hm_S) (v0 : Nat) (v1 : Int32) (v2 : Int32) (M : hm_M) : Option (Int32 × hm_M) :=
  f_Chapel_hasPaneAt_1 S hN v0 v1 v2 (0 : Int32) M
def f_Chapel_hasPlace (S : hm_S) (v0 : Nat) (v1 : Int32) (v2 : Int32) (M : hm_M) : Option (Int32 × hm_M) :=
  (if v1 < 0 then some ((0 : Int32), M) else hg (S v0 = some (.inr 0)) <| (if (M.1 v0 0) ≤ v1 then some ((0 : Int32), M) else (if v2 < 0 then
  some ((0 : Int32), M) else (if (M.1 v0 1) ≤ v2 then some ((0 : Int32), M) else some ((1 : Int32), M)))))
def b_Way_floorOf_1 (S : hm_S) (k4 : Nat → Int64 → Int32 → hm_M → Option (Int64 × hm_M)) (v0 : Nat) (v1 : Int64) (v3 : Int32) (M : hm_M) : Option (Int64 × hm_M) :=
  (if (64 : Int32) ≤ v3 then some (v1, M) else hg (S v0 = some (.inr 0)) <|
  hb (f_Chapel_hasPlace S v0 (v3 - v3 / (8 : Int32) * (8 : Int32)) (v3 / (8 : Int32)) M) fun r5 M4 => (if r5 = 0 then k4 v0 v1 (v3 + (1 : Int32)) M4
  else hl ((v1 ||| ((1 : Int64) <<< (v3.toInt64 &&& 63))) : Int64) fun x7 => k4 v0 x7 (v3 + (1 : Int32)) M4))
def f_Way_floorOf_1 (S : hm_S) (n : Nat) : Nat → Int64 → Int32 → hm_M → Option (Int64 × hm_M) := hm_it (b_Way_floorOf_1 S ) (fun _ _ _ _ => none) n
def f_Way_floorOf (S : hm_S) (v0 : Nat) (M : hm_M) : Option (Int64 × hm_M) :=
  f_Way_floorOf_1 S hN v0 (0 : Int64) (0 : Int32) M
def f_Laws_turnTo (S : hm_S) (v0 : Nat) (v1 : Int32) (M : hm_M) : Option hm_M :=
  hg (S v0 = some (.inr 3)) <| hg (M.2.2 v0 5 ≠ 0) <| hg (hm_ib S (M.2.2 v0 5) .int (0 : Int32) = true) <|
  hl (hm_wI M (M.2.2 v0 5) (0 : Int32).toNatClampNeg (v1 / (24 : Int32))) fun M5 => hg (M5.2.2 v0 5 ≠ 0) <|
  hg (hm_ib S (M5.2.2 v0 5) .int (1 : Int32) = true) <|
  hl (hm_wI M5 (M5.2.2 v0 5) (1 : Int32).toNatClampNeg (v1 - v1 / (24 : Int32) * (24 : Int32))) fun M10 => some M10
def f_Laws_isLaw (S : hm_S) (v0 : Int32) (M : hm_M) : Option (Int32 × hm_M) :=
  (if v0 < (135 : Int32) then some ((0 : Int32), M) else (if (138 : Int32) < v0 then some ((0 : Int32), M) else some ((1 : Int32), M)))
def f_Laws_valueUntold (S : hm_S) (v0 : Nat) (v1 : Int32) (M : hm_M) : Option (Int32 × hm_M) :=
  hg (S v0 = some (.inr 3)) <| hg (M.2.2 v0 5 ≠ 0) <| hg (hm_ib S (M.2.2 v0 5) .int (1 : Int32) = true) <|
  hl ((M.1 (M.2.2 v0 5) (1 : Int32).toNatClampNeg) : Int32) fun x5 => (if v1 = (135 : Int32) then some ((x5 - (12 : Int32)), M)
  else if v1 = (136 : Int32) then hg (hm_ib S (M.2.2 v0 5) .int (3 : Int32) = true) <| some ((M.1 (M.2.2 v0 5) (3 : Int32).toNatClampNeg), M)
  else if v1 = (137 : Int32) then (if x5 < (6 : Int32) then some ((1 : Int32), M) else (if x5 ≤ (18 : Int32) then some ((0 : Int32), M)
  else some ((1 : Int32), M))) else some ((1 : Int32), M))
def f_Laws_isFact (S : hm_S) (v0 : Int32) (M : hm_M) : Option (Int32 × hm_M) :=
  (if v0 < (143 : Int32) then some ((0 : Int32), M) else (if (149 : Int32) < v0 then some ((0 : Int32), M) else some ((1 : Int32), M)))
def f_Laws_joined (S : hm_S) (v0 : Int32) (v1 : Int32) (v2 : Int32) (M : hm_M) : Option (Int32 × hm_M) :=
  (if v0 = (42 : Int32) then some ((v1 * v2), M) else if v0 = (43 : Int32) then some ((v1 + v2), M) else if v0 = (45 : Int32) then some ((v1 - v2), M)
  else if v0 = (60 : Int32) then (if v2 ≤ v1 then some ((0 : Int32), M) else some ((1 : Int32), M)) else if v0 = (61 : Int32) then (if v1 = v2 then
  some ((1 : Int32), M) else some ((0 : Int32), M)) else if v0 = (141 : Int32) then (if v1 = 0 then some ((0 : Int32), M) else (if v2 = 0 then
  some ((0 : Int32), M) else some ((1 : Int32), M))) else (if v1 = 0 then (if v2 = 0 then some ((0 : Int32), M) else some ((1 : Int32), M))
  else some ((1 : Int32), M)))
def b_Laws_valueOf_5 (S : hm_S) (v0 : Nat) (M : hm_M) : Option (Int32 × hm_M) :=
  hg (S v0 = some (.inr 3)) <| hg (M.2.2 v0 4 ≠ 0) <| hg (hm_ib S (M.2.2 v0 4) .int (0 : Int32) = true) <|
  some ((M.1 (M.2.2 v0 4) (0 : Int32).toNatClampNeg), M)
def b_Laws_valueOf_4 (S : hm_S) (k48 : Nat → Int32 → Int32 → Int32 → hm_M → Option (Int32 × hm_M)) (v0 : Nat) (v2 : Int32) (v4 : Int32) (v5 : Int32) (s0 : Int32) (s1 : Int32) (s2 : Nat) (M : hm_M) : Option (Int32 × hm_M) :=
  hg (hm_ib S s2 .int s1 = true) <| hl (hm_wI M s2 s1.toNatClampNeg s0) fun M3 => k48 v0 v2 v4 (v5 + (1 : Int32)) M3
def b_Laws_valueOf_3 (S : hm_S) (k48 : Nat → Int32 → Int32 → Int32 → hm_M → Option (Int32 × hm_M)) (v0 : Nat) (v2 : Int32) (v4 : Int32) (v5 : Int32) (s0 : Int32) (s1 : Int32) (s2 : Nat) (M : hm_M) : Option (Int32 × hm_M) :=
  hg (hm_ib S s2 .int s1 = true) <| hl (hm_wI M s2 s1.toNatClampNeg s0) fun M3 => k48 v0 v2 (v4 + (1 : Int32)) (v5 + (1 : Int32)) M3
def b_Laws_valueOf_2 (S : hm_S) (k48 : Nat → Int32 → Int32 → Int32 → hm_M → Option (Int32 × hm_M)) (v0 : Nat) (v2 : Int32) (v4 : Int32) (v5 : Int32) (v6 : Int32) (M : hm_M) : Option (Int32 × hm_M) :=
  (if (32 : Int32) ≤ v4 then k48 v0 v2 v4 (v5 + (1 : Int32)) M else hg (S v0 = some (.inr 3)) <| hg (M.2.2 v0 4 ≠ 0) <| (if v6 < 0 then
  hg (M.2.2 v0 5 ≠ 0) <| hg (hm_ib S (M.2.2 v0 5) .int ((-v6) - (143 : Int32)) = true) <|
  b_Laws_valueOf_3 S k48 v0 v2 v4 v5 (M.1 (M.2.2 v0 5) ((-v6) - (143 : Int32)).toNatClampNeg) v4 (M.2.2 v0 4) M
  else b_Laws_valueOf_3 S k48 v0 v2 v4 v5 v6 v4 (M.2.2 v0 4) M))
def b_Laws_valueOf_1 (S : hm_S) (k48 : Nat → Int32 → Int32 → Int32 → hm_M → Option (Int32 × hm_M)) (v0 : Nat) (v2 : Int32) (v4 : Int32) (v5 : Int32) (M : hm_M) : Option (Int32 × hm_M) :=
  (if v2 ≤ v5 then b_Laws_valueOf_5 S v0 M else (if (1000 : Int32) ≤ v5 then b_Laws_valueOf_5 S v0 M else hg (S v0 = some (.inr 3)) <|
  hg (M.2.2 v0 0 ≠ 0) <| hg (hm_ib S (M.2.2 v0 0) .int v5 = true) <| hl ((M.1 (M.2.2 v0 0) v5.toNatClampNeg) : Int32) fun x7 => (if 0 ≤ x7 then
  b_Laws_valueOf_2 S k48 v0 v2 v4 v5 x7 M else hb (f_Laws_isFact S (-x7) M) fun r12 M11 => (if r12 = 0 then (if x7 = (-140 : Int32) then
  (if v4 < (1 : Int32) then k48 v0 v2 v4 (v5 + (1 : Int32)) M11 else hg (M11.2.2 v0 4 ≠ 0) <|
  hg (hm_ib S (M11.2.2 v0 4) .int (v4 - (1 : Int32)) = true) <| (if (M11.1 (M11.2.2 v0 4) (v4 - (1 : Int32)).toNatClampNeg) = 0 then
  b_Laws_valueOf_4 S k48 v0 v2 v4 v5 (1 : Int32) (v4 - (1 : Int32)) (M11.2.2 v0 4) M11
  else b_Laws_valueOf_4 S k48 v0 v2 v4 v5 (0 : Int32) (v4 - (1 : Int32)) (M11.2.2 v0 4) M11)) else (if v4 < (2 : Int32) then
  k48 v0 v2 v4 (v5 + (1 : Int32)) M11 else hg (M11.2.2 v0 4 ≠ 0) <| hg (hm_ib S (M11.2.2 v0 4) .int ((v4 + (-1 : Int32)) - (1 : Int32)) = true) <|
  hg (hm_ib S (M11.2.2 v0 4) .int (v4 + (-1 : Int32)) = true) <|
  hb (f_Laws_joined S (-x7) (M11.1 (M11.2.2 v0 4) ((v4 + (-1 : Int32)) - (1 : Int32)).toNatClampNeg) (M11.1 (M11.2.2 v0 4) (v4 + (-1 : Int32)).toNatClampNeg) M11) fun r23 M22 =>
  hl (hm_wI M22 (M11.2.2 v0 4) ((v4 + (-1 : Int32)) - (1 : Int32)).toNatClampNeg r23) fun M24 =>
  k48 v0 v2 (v4 + (-1 : Int32)) (v5 + (1 : Int32)) M24)) else b_Laws_valueOf_2 S k48 v0 v2 v4 v5 x7 M11))))
def f_Laws_valueOf_1 (S : hm_S) (n : Nat) : Nat → Int32 → Int32 → Int32 → hm_M → Option (Int32 × hm_M) := hm_it (b_Laws_valueOf_1 S ) (fun _ _ _ _ _ => none) n
def f_Laws_valueOf (S : hm_S) (v0 : Nat) (v1 : Int32) (M : hm_M) : Option (Int32 × hm_M) :=
  hb (f_Laws_isLaw S v1 M) fun r3 M2 => (if r3 = 0 then some ((0 : Int32), M2) else hg (S v0 = some (.inr 3)) <| hg (M2.2.2 v0 3 ≠ 0) <|
  hg (hm_ib S (M2.2.2 v0 3) .int (v1 - (135 : Int32)) = true) <| hl ((M2.1 (M2.2.2 v0 3) (v1 - (135 : Int32)).toNatClampNeg) : Int32) fun x9 =>
  hg (M2.2.2 v0 2 ≠ 0) <| hg (hm_ib S (M2.2.2 v0 2) .int (v1 - (135 : Int32)) = true) <|
  hl ((M2.1 (M2.2.2 v0 2) (v1 - (135 : Int32)).toNatClampNeg) : Int32) fun x14 => (if x14 < x9 then f_Laws_valueOf_1 S hN v0 x9 (0 : Int32) x14 M2
  else hb (f_Laws_valueUntold S v0 v1 M2) fun r19 M18 => some (r19, M18)))
def f_Laws_lookAtPane (S : hm_S) (v0 : Nat) (v1 : Int32) (v2 : Int32) (M : hm_M) : Option hm_M :=
  hg (S v0 = some (.inr 3)) <| hg (M.2.2 v0 5 ≠ 0) <| hg (hm_ib S (M.2.2 v0 5) .int (2 : Int32) = true) <|
  hl (hm_wI M (M.2.2 v0 5) (2 : Int32).toNatClampNeg v1) fun M5 => hg (M5.2.2 v0 5 ≠ 0) <| hg (hm_ib S (M5.2.2 v0 5) .int (3 : Int32) = true) <|
  hl (hm_wI M5 (M5.2.2 v0 5) (3 : Int32).toNatClampNeg v2) fun M10 => some M10
def f_Ps_placeOf (S : hm_S) (v0 : Int32) (v1 : Int32) (M : hm_M) : Option (Int32 × hm_M) :=
  some (((v1 * (8 : Int32)) + v0), M)
def b_Light_shine_4 (S : hm_S) (v0 : Nat) (v1 : Int32) (v3 : Int64) (v5 : Int64) (M : hm_M) : Option hm_M :=
  hg (S v0 = some (.inr 4)) <| hg (M.2.2 v0 2 ≠ 0) <| hg (hm_ib S (M.2.2 v0 2) .long ((2 : Int32) * v1) = true) <|
  hl (hm_wL M (M.2.2 v0 2) ((2 : Int32) * v1).toNatClampNeg v3) fun M5 => hg (M5.2.2 v0 2 ≠ 0) <|
  hg (hm_ib S (M5.2.2 v0 2) .long (((2 : Int32) * v1) + (1 : Int32)) = true) <|
  hl (hm_wL M5 (M5.2.2 v0 2) (((2 : Int32) * v1) + (1 : Int32)).toNatClampNeg v5) fun M10 => some M10
def b_Light_shine_3 (S : hm_S) (k41 : Nat → Int32 → Nat → Int64 → Int64 → Int32 → Int32 → hm_M → Option hm_M) (v0 : Nat) (v1 : Int32) (v2 : Nat) (v3 : Int64) (v5 : Int64) (v7 : Int32) (v8 : Int32) (s0 : Int64) (M : hm_M) : Option hm_M :=
  (if (6 : Int32) ≤ v8 then hl ((v5 ||| (s0 <<< (((8 : Int32) * (v8 - (6 : Int32))).toInt64 &&& 63))) : Int64) fun x2 =>
  k41 v0 v1 v2 v3 x2 v7 (v8 + (1 : Int32)) M else hl ((v3 ||| (s0 <<< (((8 : Int32) * v8).toInt64 &&& 63))) : Int64) fun x4 =>
  k41 v0 v1 v2 x4 v5 v7 (v8 + (1 : Int32)) M)
def b_Light_shine_2 (S : hm_S) (k41 : Nat → Int32 → Nat → Int64 → Int64 → Int32 → Int32 → hm_M → Option hm_M) (v0 : Nat) (v1 : Int32) (v2 : Nat) (v3 : Int64) (v5 : Int64) (v7 : Int32) (v8 : Int32) (M : hm_M) : Option hm_M :=
  (if v7 ≤ v8 then b_Light_shine_4 S v0 v1 v3 v5 M else (if (12 : Int32) ≤ v8 then b_Light_shine_4 S v0 v1 v3 v5 M else hg (S v0 = some (.inr 4)) <|
  hg (M.2.2 v0 0 ≠ 0) <| hg (S (M.2.2 v0 0) = some (.inr 0)) <| hg (M.2.2 (M.2.2 v0 0) 8 ≠ 0) <| hg (hm_ib S (M.2.2 (M.2.2 v0 0) 8) .int v8 = true) <|
  hg (M.2.2 (M.2.2 v0 0) 9 ≠ 0) <| hg (hm_ib S (M.2.2 (M.2.2 v0 0) 9) .int v8 = true) <| hg (S v2 = some (.inr 3)) <|
  hv (f_Laws_lookAtPane S v2 (M.1 (M.2.2 (M.2.2 v0 0) 8) v8.toNatClampNeg) (M.1 (M.2.2 (M.2.2 v0 0) 9) v8.toNatClampNeg) M) fun M14 =>
  hg (M14.2.2 v0 0 ≠ 0) <| hg (S (M14.2.2 v0 0) = some (.inr 0)) <| hg (M14.2.2 (M14.2.2 v0 0) 8 ≠ 0) <|
  hg (hm_ib S (M14.2.2 (M14.2.2 v0 0) 8) .int v8 = true) <| hb (f_Laws_valueOf S v2 (135 : Int32) M14) fun r22 M21 =>
  hl (((M14.1 (M14.2.2 (M14.2.2 v0 0) 8) v8.toNatClampNeg) + r22) : Int32) fun x23 => hb (f_Laws_valueOf S v2 (136 : Int32) M21) fun r27 M26 =>
  hg (M26.2.2 v0 0 ≠ 0) <| hg (S (M26.2.2 v0 0) = some (.inr 0)) <| hb (f_Chapel_hasPlace S (M26.2.2 v0 0) x23 r27 M26) fun r32 M31 =>
  (if r32 = 0 then b_Light_shine_3 S k41 v0 v1 v2 v3 v5 v7 v8 (0 : Int64) M31 else hb (f_Ps_placeOf S x23 r27 M31) fun r36 M35 =>
  b_Light_shine_3 S k41 v0 v1 v2 v3 v5 v7 v8 (r36 + (1 : Int32)).toInt64 M35)))
def f_Light_shine_2 (S : hm_S) (n : Nat) : Nat → Int32 → Nat → Int64 → Int64 → Int32 → Int32 → hm_M → Option hm_M := hm_it (b_Light_shine_2 S ) (fun _ _ _ _ _ _ _ _ => none) n
def b_Light_shine_1 (S : hm_S) (v0 : Nat) (v1 : Int32) (v2 : Nat) (v3 : Int64) (v5 : Int64) (s0 : Int32) (M : hm_M) : Option hm_M :=
  f_Light_shine_2 S hN v0 v1 v2 v3 v5 s0 (0 : Int32) M
def f_Light_shine (S : hm_S) (v0 : Nat) (v1 : Int32) (M : hm_M) : Option hm_M :=
  hg (S v0 = some (.inr 4)) <| hg (M.2.2 v0 0 ≠ 0) <| hg (S (M.2.2 v0 0) = some (.inr 0)) <| hg (M.2.2 (M.2.2 v0 0) 12 ≠ 0) <|
  hl ((M.2.2 (M.2.2 v0 0) 12) : Nat) fun x5 => hg (S x5 = some (.inr 3)) <| hb (f_Laws_valueOf S x5 (137 : Int32) M) fun r10 M9 => (if r10 = 0 then
  hg (M9.2.2 v0 0 ≠ 0) <| hg (S (M9.2.2 v0 0) = some (.inr 0)) <|
  b_Light_shine_1 S v0 v1 x5 (-9223372036854775808 : Int64) (0 : Int64) (M9.1 (M9.2.2 v0 0) 4) M9
  else b_Light_shine_1 S v0 v1 x5 (-9223372036854775808 : Int64) (0 : Int64) (0 : Int32) M9)
def b_Light_turnTo_2 (S : hm_S) (k82 : Nat → Int64 → Int64 → Int32 → hm_M → Option hm_M) (v0 : Nat) (v2 : Int64) (v4 : Int64) (v6 : Int32) (M : hm_M) : Option hm_M :=
  (if (6 : Int32) ≤ v6 then some M else hg (S v0 = some (.inr 4)) <| hg (M.2.2 v0 1 ≠ 0) <| hg (hm_ib S (M.2.2 v0 1) .int v6 = true) <|
  hl (hm_wI M (M.2.2 v0 1) v6.toNatClampNeg ((((v2.toUInt64 >>>
  (((8 : Int32) * v6).toInt64.toUInt64 &&& Int64.toUInt64 63)).toInt64) &&& (255 : Int64)).toInt32 - (1 : Int32))) fun M6 => hg (M6.2.2 v0 1 ≠ 0) <|
  hg (hm_ib S (M6.2.2 v0 1) .int (v6 + (6 : Int32)) = true) <| hl (hm_wI M6 (M6.2.2 v0 1) (v6 + (6 : Int32)).toNatClampNeg ((((v4.toUInt64 >>>
  (((8 : Int32) * v6).toInt64.toUInt64 &&& Int64.toUInt64 63)).toInt64) &&& (255 : Int64)).toInt32 - (1 : Int32))) fun M11 =>
  k82 v0 v2 v4 (v6 + (1 : Int32)) M11)
def f_Light_turnTo_2 (S : hm_S) (n : Nat) : Nat → Int64 → Int64 → Int32 → hm_M → Option hm_M := hm_it (b_Light_turnTo_2 S ) (fun _ _ _ _ _ => none) n
def b_Light_turnTo_1 (S : hm_S) (v0 : Nat) (v1 : Int32) (M : hm_M) : Option hm_M :=
  hg (S v0 = some (.inr 4)) <| hg (M.2.2 v0 2 ≠ 0) <| hg (hm_ib S (M.2.2 v0 2) .long ((2 : Int32) * v1) = true) <|
  hl ((M.2.1 (M.2.2 v0 2) ((2 : Int32) * v1).toNatClampNeg) : Int64) fun x5 =>
  hg (hm_ib S (M.2.2 v0 2) .long (((2 : Int32) * v1) + (1 : Int32)) = true) <|
  hl ((M.2.1 (M.2.2 v0 2) (((2 : Int32) * v1) + (1 : Int32)).toNatClampNeg) : Int64) fun x9 => f_Light_turnTo_2 S hN v0 x5 x9 (0 : Int32) M
def f_Light_turnTo (S : hm_S) (v0 : Nat) (v1 : Int32) (M : hm_M) : Option hm_M :=
  hg (S v0 = some (.inr 4)) <| (if v1 = (M.1 v0 3) then some M else (if v1 < 0 then some M else (if v1 < (1248 : Int32) then
  hl (hm_wI M v0 3 v1) fun M5 => hg (M5.2.2 v0 0 ≠ 0) <| hg (S (M5.2.2 v0 0) = some (.inr 0)) <| hg (M5.2.2 (M5.2.2 v0 0) 12 ≠ 0) <|
  hg (S (M5.2.2 (M5.2.2 v0 0) 12) = some (.inr 3)) <| hv (f_Laws_turnTo S (M5.2.2 (M5.2.2 v0 0) 12) v1 M5) fun M12 => hg (M12.2.2 v0 2 ≠ 0) <|
  hg (hm_ib S (M12.2.2 v0 2) .long ((2 : Int32) * v1) = true) <|
  (if (lg_cmp ((M12.2.1 (M12.2.2 v0 2) ((2 : Int32) * v1).toNatClampNeg) &&& (-9223372036854775808 : Int64)) (0 : Int64)) = 0 then
  hv (f_Light_shine S v0 v1 M12) fun M18 => b_Light_turnTo_1 S v0 v1 M18 else b_Light_turnTo_1 S v0 v1 M12) else some M)))
def b_Light_placesOf_1 (S : hm_S) (k5 : Nat → Int32 → Int64 → Int32 → hm_M → Option (Int64 × hm_M)) (v0 : Nat) (v1 : Int32) (v2 : Int64) (v4 : Int32) (M : hm_M) : Option (Int64 × hm_M) :=
  (if (12 : Int32) ≤ v4 then some (v2, M) else hg (S v0 = some (.inr 4)) <| hg (M.2.2 v0 1 ≠ 0) <| hg (hm_ib S (M.2.2 v0 1) .int v4 = true) <|
  (if (M.1 (M.2.2 v0 1) v4.toNatClampNeg) = (-1 : Int32) then k5 v0 v1 v2 (v4 + (1 : Int32)) M else (if ((v1 >>>
  (v4 &&& 31)) &&& (1 : Int32)) = (1 : Int32) then
  hl ((v2 ||| ((1 : Int64) <<< ((M.1 (M.2.2 v0 1) v4.toNatClampNeg).toInt64 &&& 63))) : Int64) fun x8 => k5 v0 v1 x8 (v4 + (1 : Int32)) M
  else k5 v0 v1 v2 (v4 + (1 : Int32)) M)))
def f_Light_placesOf_1 (S : hm_S) (n : Nat) : Nat → Int32 → Int64 → Int32 → hm_M → Option (Int64 × hm_M) := hm_it (b_Light_placesOf_1 S ) (fun _ _ _ _ _ => none) n
def f_Light_placesOf (S : hm_S) (v0 : Nat) (v1 : Int32) (M : hm_M) : Option (Int64 × hm_M) :=
  f_Light_placesOf_1 S hN v0 v1 (0 : Int64) (0 : Int32) M
def f_Ps_stepsBetween (S : hm_S) (v0 : Int32) (v1 : Int32) (M : hm_M) : Option (Int32 × hm_M) :=
  some (((hm_abs ((v0 - v0 / (8 : Int32) * (8 : Int32)) - (v1 - v1 / (8 : Int32) * (8 : Int32)))) + (hm_abs ((v0 / (8 : Int32)) - (v1 / (8 : Int32))))), M)
def b_Way_stepsOver_1 (S : hm_S) (v0 : Nat) (v2 : Int32) (v3 : Int32) (s0 : Int32) (M : hm_M) : Option (Int32 × hm_M) :=
  hg (S v0 = some (.inr 10)) <| hg (M.2.2 v0 1 ≠ 0) <| hg (hm_ib S (M.2.2 v0 1) .int ((v2 * (64 : Int32)) + v3) = true) <|
  some ((s0 + (M.1 (M.2.2 v0 1) ((v2 * (64 : Int32)) + v3).toNatClampNeg)), M)
def f_Way_stepsOver (S : hm_S) (v0 : Nat) (v1 : Int32) (v2 : Int32) (v3 : Int32) (M : hm_M) : Option (Int32 × hm_M) :=
  (if v1 = (-1 : Int32) then b_Way_stepsOver_1 S v0 v2 v3 (0 : Int32) M else hb (f_Ps_stepsBetween S v1 v3 M) fun r4 M3 =>
  b_Way_stepsOver_1 S v0 v2 v3 r4 M3)
def b_Way_nextFrom_1 (S : hm_S) (k9 : Nat → Int32 → Int32 → Int32 → Int32 → Int32 → hm_M → Option (Int32 × hm_M)) (v0 : Nat) (v1 : Int32) (v2 : Int32) (v3 : Int32) (v4 : Int32) (v5 : Int32) (M : hm_M) : Option (Int32 × hm_M) :=
  (if (64 : Int32) ≤ v5 then some (v3, M) else hg (S v0 = some (.inr 10)) <| hg (M.2.2 v0 0 ≠ 0) <| hg (hm_ib S (M.2.2 v0 0) .long v2 = true) <|
  (if (lg_cmp ((((M.2.1 (M.2.2 v0 0) v2.toNatClampNeg).toUInt64 >>>
  (v5.toInt64.toUInt64 &&& Int64.toUInt64 63)).toInt64) &&& (1 : Int64)) (1 : Int64)) = 0 then hb (f_Way_stepsOver S v0 v1 v2 v5 M) fun r9 M8 =>
  (if v4 ≤ r9 then k9 v0 v1 v2 v3 v4 (v5 + (1 : Int32)) M8 else hb (f_Way_stepsOver S v0 v1 v2 v5 M8) fun r13 M12 =>
  k9 v0 v1 v2 v5 r13 (v5 + (1 : Int32)) M12) else k9 v0 v1 v2 v3 v4 (v5 + (1 : Int32)) M))
def f_Way_nextFrom_1 (S : hm_S) (n : Nat) : Nat → Int32 → Int32 → Int32 → Int32 → Int32 → hm_M → Option (Int32 × hm_M) := hm_it (b_Way_nextFrom_1 S ) (fun _ _ _ _ _ _ _ => none) n
def f_Way_nextFrom (S : hm_S) (v0 : Nat) (v1 : Int32) (v2 : Int32) (M : hm_M) : Option (Int32 × hm_M) :=
  f_Way_nextFrom_1 S hN v0 v1 v2 (0 : Int32) (1000000 : Int32) (0 : Int32) M
def b_Way_lookAhead_3 (S : hm_S) (k3 : Nat → Int32 → Int32 → Int64 → Int32 → hm_M → Option hm_M) (v0 : Nat) (v1 : Int32) (v2 : Int32) (v3 : Int64) (v5 : Int32) (v6 : Int32) (M : hm_M) : Option hm_M :=
  hg (S v0 = some (.inr 10)) <| hg (M.2.2 v0 1 ≠ 0) <| hg (hm_ib S (M.2.2 v0 1) .int ((v1 * (64 : Int32)) + v5) = true) <|
  hl (hm_wI M (M.2.2 v0 1) ((v1 * (64 : Int32)) + v5).toNatClampNeg v6) fun M5 => k3 v0 v1 v2 v3 (v5 + (1 : Int32)) M5
def b_Way_lookAhead_2 (S : hm_S) (k3 : Nat → Int32 → Int32 → Int64 → Int32 → hm_M → Option hm_M) (v0 : Nat) (v1 : Int32) (v2 : Int32) (v3 : Int64) (v5 : Int32) (s0 : Int32) (M : hm_M) : Option hm_M :=
  hg (S v0 = some (.inr 10)) <| hb (f_Way_stepsOver S v0 v5 (v1 + (1 : Int32)) s0 M) fun r4 M3 => b_Way_lookAhead_3 S k3 v0 v1 v2 v3 v5 r4 M3
def b_Way_lookAhead_1 (S : hm_S) (k3 : Nat → Int32 → Int32 → Int64 → Int32 → hm_M → Option hm_M) (v0 : Nat) (v1 : Int32) (v2 : Int32) (v3 : Int64) (v5 : Int32) (M : hm_M) : Option hm_M :=
  (if (64 : Int32) ≤ v5 then some M else hg (S v0 = some (.inr 10)) <| hg (M.2.2 v0 0 ≠ 0) <| hg (hm_ib S (M.2.2 v0 0) .long v1 = true) <|
  (if (lg_cmp ((((M.2.1 (M.2.2 v0 0) v1.toNatClampNeg).toUInt64 >>>
  (v5.toInt64.toUInt64 &&& Int64.toUInt64 63)).toInt64) &&& (1 : Int64)) (1 : Int64)) = 0 then (if v2 ≤ v1 then
  b_Way_lookAhead_3 S k3 v0 v1 v2 v3 v5 (0 : Int32) M else hg (hm_ib S (M.2.2 v0 0) .long (v1 + (1 : Int32)) = true) <|
  (if (lg_cmp (M.2.1 (M.2.2 v0 0) (v1 + (1 : Int32)).toNatClampNeg) v3) = 0 then b_Way_lookAhead_2 S k3 v0 v1 v2 v3 v5 v5 M
  else hb (f_Way_nextFrom S v0 v5 (v1 + (1 : Int32)) M) fun r13 M12 => b_Way_lookAhead_2 S k3 v0 v1 v2 v3 v5 r13 M12))
  else k3 v0 v1 v2 v3 (v5 + (1 : Int32)) M))
def f_Way_lookAhead_1 (S : hm_S) (n : Nat) : Nat → Int32 → Int32 → Int64 → Int32 → hm_M → Option hm_M := hm_it (b_Way_lookAhead_1 S ) (fun _ _ _ _ _ _ => none) n
def f_Way_lookAhead (S : hm_S) (v0 : Nat) (v1 : Int32) (v2 : Int32) (v3 : Int64) (M : hm_M) : Option hm_M :=
  f_Way_lookAhead_1 S hN v0 v1 v2 v3 (0 : Int32) M
def b_Way_find_5 (S : hm_S) (s0 : Int32) (s1 : Nat) (M : hm_M) : Option hm_M :=
  hg (S s1 = some (.inr 10)) <| hl (hm_wI M s1 3 s0) fun M2 => some M2
def b_Way_find_4 (S : hm_S) (k105 : Nat → Int32 → Int32 → Int32 → hm_M → Option hm_M) (v0 : Nat) (v5 : Int32) (v8 : Int32) (v9 : Int32) (M : hm_M) : Option hm_M :=
  (if v5 ≤ v9 then (if v5 ≤ 0 then b_Way_find_5 S (0 : Int32) v0 M else hg (S v0 = some (.inr 10)) <| hg (M.2.2 v0 1 ≠ 0) <| hg (M.2.2 v0 2 ≠ 0) <|
  hg (hm_ib S (M.2.2 v0 2) .int (0 : Int32) = true) <| hg (hm_ib S (M.2.2 v0 1) .int (M.1 (M.2.2 v0 2) (0 : Int32).toNatClampNeg) = true) <|
  b_Way_find_5 S (M.1 (M.2.2 v0 1) (M.1 (M.2.2 v0 2) (0 : Int32).toNatClampNeg).toNatClampNeg) v0 M) else hg (S v0 = some (.inr 10)) <|
  hb (f_Way_nextFrom S v0 v8 v9 M) fun r13 M12 => hg (M12.2.2 v0 2 ≠ 0) <| hg (hm_ib S (M12.2.2 v0 2) .int v9 = true) <|
  hl (hm_wI M12 (M12.2.2 v0 2) v9.toNatClampNeg r13) fun M17 => k105 v0 v5 r13 (v9 + (1 : Int32)) M17)
def f_Way_find_4 (S : hm_S) (n : Nat) : Nat → Int32 → Int32 → Int32 → hm_M → Option hm_M := hm_it (b_Way_find_4 S ) (fun _ _ _ _ _ => none) n
def b_Way_find_3 (S : hm_S) (k76 : Nat → Int32 → Int64 → Int32 → hm_M → Option hm_M) (v0 : Nat) (v5 : Int32) (v6 : Int64) (v8 : Int32) (M : hm_M) : Option hm_M :=
  (if v8 < 0 then f_Way_find_4 S hN v0 v5 (-1 : Int32) (0 : Int32) M else hg (S v0 = some (.inr 10)) <|
  hv (f_Way_lookAhead S v0 v8 (v5 - (1 : Int32)) v6 M) fun M4 => k76 v0 v5 v6 (v8 + (-1 : Int32)) M4)
def f_Way_find_3 (S : hm_S) (n : Nat) : Nat → Int32 → Int64 → Int32 → hm_M → Option hm_M := hm_it (b_Way_find_3 S ) (fun _ _ _ _ _ => none) n
def b_Way_find_2 (S : hm_S) (k21 : Nat → Nat → Int32 → Int32 → Int32 → Int64 → Int32 → hm_M → Option hm_M) (v0 : Nat) (v1 : Nat) (v2 : Int32) (v3 : Int32) (v5 : Int32) (v6 : Int64) (v8 : Int32) (s0 : Int64) (s1 : Int32) (s2 : Nat) (M : hm_M) : Option hm_M :=
  hg (hm_ib S s2 .long s1 = true) <| hl (hm_wL M s2 s1.toNatClampNeg s0) fun M3 => k21 v0 v1 v2 v3 v5 v6 (v8 + (1 : Int32)) M3
def b_Way_find_1 (S : hm_S) (k21 : Nat → Nat → Int32 → Int32 → Int32 → Int64 → Int32 → hm_M → Option hm_M) (v0 : Nat) (v1 : Nat) (v2 : Int32) (v3 : Int32) (v5 : Int32) (v6 : Int64) (v8 : Int32) (M : hm_M) : Option hm_M :=
  (if v5 ≤ v8 then hl ((v5 - (1 : Int32)) : Int32) fun x2 => f_Way_find_3 S hN v0 v5 v6 x2 M else hg (S v1 = some (.inr 4)) <|
  hv (f_Light_turnTo S v1 (v3 + v8) M) fun M6 => hb (f_Light_placesOf S v1 v2 M6) fun r9 M8 => hg (S v0 = some (.inr 10)) <| hg (M8.2.2 v0 0 ≠ 0) <|
  (if (lg_cmp r9 (0 : Int64)) = 0 then b_Way_find_2 S k21 v0 v1 v2 v3 v5 v6 v8 v6 v8 (M8.2.2 v0 0) M8
  else b_Way_find_2 S k21 v0 v1 v2 v3 v5 v6 v8 r9 v8 (M8.2.2 v0 0) M8))
def f_Way_find_1 (S : hm_S) (n : Nat) : Nat → Nat → Int32 → Int32 → Int32 → Int64 → Int32 → hm_M → Option hm_M := hm_it (b_Way_find_1 S ) (fun _ _ _ _ _ _ _ _ => none) n
def f_Way_find (S : hm_S) (v0 : Nat) (v1 : Nat) (v2 : Int32) (v3 : Int32) (v4 : Int32) (M : hm_M) : Option hm_M :=
  hl ((hm_min v4 (24 : Int32)) : Int32) fun x1 => hg (S v1 = some (.inr 4)) <| hg (M.2.2 v1 0 ≠ 0) <| hb (f_Way_floorOf S (M.2.2 v1 0) M) fun r7 M6 =>
  f_Way_find_1 S hN v0 v1 v2 v3 x1 r7 (0 : Int32) M6
def f_Ps_isPane (S : hm_S) (v0 : Nat) (v1 : Int32) (M : hm_M) : Option (Int32 × hm_M) :=
  (if v1 < 0 then some ((0 : Int32), M) else hg (S v0 = some (.inr 11)) <| hg (M.2.2 v0 1 ≠ 0) <| hg (S (M.2.2 v0 1) = some (.inr 4)) <|
  hg (M.2.2 (M.2.2 v0 1) 0 ≠ 0) <| hg (S (M.2.2 (M.2.2 v0 1) 0) = some (.inr 0)) <| (if (M.1 (M.2.2 (M.2.2 v0 1) 0) 4) ≤ v1 then some ((0 : Int32), M)
  else some ((1 : Int32), M)))
def f_Hold_lit (S : hm_S) (v0 : Nat) (M : hm_M) : Option (Int32 × hm_M) :=
  hg (S v0 = some (.inr 2)) <| some (((((1 : Int32) <<< ((M.1 v0 5) &&& 31)) - (1 : Int32)) &&& ((M.1 v0 1) ^^^ (-1 : Int32))), M)
def b_Light_panesOn_1 (S : hm_S) (k5 : Nat → Int32 → Int32 → Int32 → Int32 → hm_M → Option (Int32 × hm_M)) (v0 : Nat) (v1 : Int32) (v2 : Int32) (v3 : Int32) (v4 : Int32) (M : hm_M) : Option (Int32 × hm_M) :=
  (if (12 : Int32) ≤ v4 then some (v3, M) else hg (S v0 = some (.inr 4)) <| hg (M.2.2 v0 1 ≠ 0) <| hg (hm_ib S (M.2.2 v0 1) .int v4 = true) <|
  (if (M.1 (M.2.2 v0 1) v4.toNatClampNeg) = v1 then (if ((v2 >>> (v4 &&& 31)) &&& (1 : Int32)) = (1 : Int32) then
  hl ((v3 ||| ((1 : Int32) <<< (v4 &&& 31))) : Int32) fun x8 => k5 v0 v1 v2 x8 (v4 + (1 : Int32)) M else k5 v0 v1 v2 v3 (v4 + (1 : Int32)) M)
  else k5 v0 v1 v2 v3 (v4 + (1 : Int32)) M))
def f_Light_panesOn_1 (S : hm_S) (n : Nat) : Nat → Int32 → Int32 → Int32 → Int32 → hm_M → Option (Int32 × hm_M) := hm_it (b_Light_panesOn_1 S ) (fun _ _ _ _ _ _ => none) n
def f_Light_panesOn (S : hm_S) (v0 : Nat) (v1 : Int32) (v2 : Int32) (M : hm_M) : Option (Int32 × hm_M) :=
  f_Light_panesOn_1 S hN v0 v1 v2 (0 : Int32) (0 : Int32) M
def f_Laws_lookAtSpot (S : hm_S) (v0 : Nat) (v1 : Int32) (v2 : Int32) (M : hm_M) : Option hm_M :=
  hg (S v0 = some (.inr 3)) <| hg (M.2.2 v0 5 ≠ 0) <| hg (hm_ib S (M.2.2 v0 5) .int (4 : Int32) = true) <|
  hl (hm_wI M (M.2.2 v0 5) (4 : Int32).toNatClampNeg (v1 - v1 / (8 : Int32) * (8 : Int32))) fun M5 => hg (M5.2.2 v0 5 ≠ 0) <|
  hg (hm_ib S (M5.2.2 v0 5) .int (5 : Int32) = true) <| hl (hm_wI M5 (M5.2.2 v0 5) (5 : Int32).toNatClampNeg (v1 / (8 : Int32))) fun M10 =>
  hg (M10.2.2 v0 5 ≠ 0) <| hg (hm_ib S (M10.2.2 v0 5) .int (6 : Int32) = true) <|
  hl (hm_wI M10 (M10.2.2 v0 5) (6 : Int32).toNatClampNeg v2) fun M15 => some M15
def f_Rents_partOf (S : hm_S) (v0 : Nat) (v1 : Int32) (v2 : Int32) (M : hm_M) : Option (Int32 × hm_M) :=
  hg (S v0 = some (.inr 3)) <| hv (f_Laws_lookAtSpot S v0 v1 v2 M) fun M3 => hb (f_Laws_valueOf S v0 (138 : Int32) M3) fun r6 M5 =>
  hl ((hm_min (hm_max r6 (0 : Int32)) (999 : Int32)) : Int32) fun x7 => (if v2 ≤ 0 then some ((0 : Int32), M5) else hg (¬ v2 = 0) <|
  some ((x7 / v2), M5))
def b_Rents_shareOut_2 (S : hm_S) (k6 : Nat → Nat → Int32 → Int32 → Int32 → Int32 → hm_M → Option hm_M) (k82 : Nat → Nat → Int32 → Int32 → Int32 → Int32 → Int32 → Int32 → Int32 → hm_M → Option hm_M) (v0 : Nat) (v1 : Nat) (v2 : Int32) (v3 : Int32) (v4 : Int32) (v5 : Int32) (v6 : Int32) (v7 : Int32) (v8 : Int32) (M : hm_M) : Option hm_M :=
  (if (12 : Int32) ≤ v8 then hl ((v4 &&& (v6 ^^^ (-1 : Int32))) : Int32) fun x2 => k6 v0 v1 v2 v3 x2 (v5 + (1 : Int32)) M
  else hg (S v0 = some (.inr 6)) <| hg (M.2.2 v0 0 ≠ 0) <| hg (hm_ib S (M.2.2 v0 0) .int ((v3 * (12 : Int32)) + v8) = true) <|
  hl (hm_wI M (M.2.2 v0 0) ((v3 * (12 : Int32)) + v8).toNatClampNeg ((M.1 (M.2.2 v0 0) ((v3 * (12 : Int32)) + v8).toNatClampNeg) + (((v6 >>>
  (v8 &&& 31)) &&& (1 : Int32)) * v7))) fun M8 => k82 v0 v1 v2 v3 v4 v5 v6 v7 (v8 + (1 : Int32)) M8)
def f_Rents_shareOut_2 (S : hm_S) (k6 : Nat → Nat → Int32 → Int32 → Int32 → Int32 → hm_M → Option hm_M) (n : Nat) : Nat → Nat → Int32 → Int32 → Int32 → Int32 → Int32 → Int32 → Int32 → hm_M → Option hm_M := hm_it (b_Rents_shareOut_2 S k6) (fun _ _ _ _ _ _ _ _ _ _ => none) n
def b_Rents_shareOut_1 (S : hm_S) (k6 : Nat → Nat → Int32 → Int32 → Int32 → Int32 → hm_M → Option hm_M) (v0 : Nat) (v1 : Nat) (v2 : Int32) (v3 : Int32) (v4 : Int32) (v5 : Int32) (M : hm_M) : Option hm_M :=
  (if (12 : Int32) ≤ v5 then some M else (if ((v4 >>> (v5 &&& 31)) &&& (1 : Int32)) = (1 : Int32) then hg (S v1 = some (.inr 4)) <|
  hg (M.2.2 v1 1 ≠ 0) <| hg (hm_ib S (M.2.2 v1 1) .int v5 = true) <| (if (M.1 (M.2.2 v1 1) v5.toNatClampNeg) = (-1 : Int32) then
  k6 v0 v1 v2 v3 v4 (v5 + (1 : Int32)) M else hb (f_Light_panesOn S v1 (M.1 (M.2.2 v1 1) v5.toNatClampNeg) v2 M) fun r10 M9 =>
  hl ((r10 ||| ((1 : Int32) <<< (v5 &&& 31))) : Int32) fun x11 => hg (M9.2.2 v1 0 ≠ 0) <| hg (S (M9.2.2 v1 0) = some (.inr 0)) <|
  hg (M9.2.2 (M9.2.2 v1 0) 12 ≠ 0) <| hg (M9.2.2 v1 1 ≠ 0) <| hg (hm_ib S (M9.2.2 v1 1) .int v5 = true) <|
  hb (f_J6_bitCount_0f7a4 S x11 M9) fun r21 M20 =>
  hb (f_Rents_partOf S (M9.2.2 (M9.2.2 v1 0) 12) (M9.1 (M9.2.2 v1 1) v5.toNatClampNeg) r21 M20) fun r24 M23 =>
  f_Rents_shareOut_2 S k6 hN v0 v1 v2 v3 v4 v5 x11 r24 v5 M23) else k6 v0 v1 v2 v3 v4 (v5 + (1 : Int32)) M))
def f_Rents_shareOut_1 (S : hm_S) (n : Nat) : Nat → Nat → Int32 → Int32 → Int32 → Int32 → hm_M → Option hm_M := hm_it (b_Rents_shareOut_1 S ) (fun _ _ _ _ _ _ _ => none) n
def f_Rents_shareOut (S : hm_S) (v0 : Nat) (v1 : Nat) (v2 : Int32) (v3 : Int32) (M : hm_M) : Option hm_M :=
  f_Rents_shareOut_1 S hN v0 v1 v2 v3 v2 (0 : Int32) M
def b_Rents_measure_2 (S : hm_S) (k37 : Nat → Nat → Int32 → Int32 → Int32 → Int64 → Int32 → hm_M → Option hm_M) (v0 : Nat) (v1 : Nat) (v2 : Int32) (v4 : Int32) (v5 : Int32) (v6 : Int64) (v8 : Int32) (M : hm_M) : Option hm_M :=
  (if (1248 : Int32) ≤ v8 then some M
  else hl ((((v6 * (1103515245 : Int64)) + (12345 : Int64)) - ((v6 * (1103515245 : Int64)) + (12345 : Int64)) / (2147483648 : Int64) * (2147483648 : Int64)) : Int64) fun x2 =>
  (if (lg_cmp ((x2 / (65536 : Int64)) - (x2 / (65536 : Int64)) / (8 : Int64) * (8 : Int64)) v4.toInt64) < 0 then
  k37 v0 v1 v2 v4 v5 x2 (v8 + (1 : Int32)) M else hg (S v1 = some (.inr 4)) <| hv (f_Light_turnTo S v1 v8 M) fun M7 => hg (S v0 = some (.inr 6)) <|
  hv (f_Rents_shareOut S v0 v1 v2 v5 M7) fun M10 => k37 v0 v1 v2 v4 v5 x2 (v8 + (1 : Int32)) M10))
def f_Rents_measure_2 (S : hm_S) (n : Nat) : Nat → Nat → Int32 → Int32 → Int32 → Int64 → Int32 → hm_M → Option hm_M := hm_it (b_Rents_measure_2 S ) (fun _ _ _ _ _ _ _ _ => none) n
def b_Rents_measure_1 (S : hm_S) (k3 : Nat → Nat → Int32 → Int32 → Int32 → Int32 → Int32 → hm_M → Option hm_M) (v0 : Nat) (v1 : Nat) (v2 : Int32) (v3 : Int32) (v4 : Int32) (v5 : Int32) (v6 : Int32) (M : hm_M) : Option hm_M :=
  (if (12 : Int32) ≤ v6 then hl (v3.toInt64 : Int64) fun x2 => f_Rents_measure_2 S hN v0 v1 v2 v4 v5 x2 (0 : Int32) M
  else hg (S v0 = some (.inr 6)) <| hg (M.2.2 v0 0 ≠ 0) <| hg (hm_ib S (M.2.2 v0 0) .int ((v5 * (12 : Int32)) + v6) = true) <|
  hl (hm_wI M (M.2.2 v0 0) ((v5 * (12 : Int32)) + v6).toNatClampNeg (0 : Int32)) fun M8 => k3 v0 v1 v2 v3 v4 v5 (v6 + (1 : Int32)) M8)
def f_Rents_measure_1 (S : hm_S) (n : Nat) : Nat → Nat → Int32 → Int32 → Int32 → Int32 → Int32 → hm_M → Option hm_M := hm_it (b_Rents_measure_1 S ) (fun _ _ _ _ _ _ _ _ => none) n
def f_Rents_measure (S : hm_S) (v0 : Nat) (v1 : Nat) (v2 : Int32) (v3 : Int32) (v4 : Int32) (v5 : Int32) (M : hm_M) : Option hm_M :=
  f_Rents_measure_1 S hN v0 v1 v2 v3 v4 v5 (0 : Int32) M
def b_Rents_yearOf_2 (S : hm_S) (v0 : Nat) (v1 : Nat) (v2 : Int32) (M : hm_M) : Option (Int32 × hm_M) :=
  hg (S v0 = some (.inr 6)) <| hl ((M.1 v0 3) : Int32) fun x2 =>
  hl (hm_wI M v0 3 (((M.1 v0 3) + (1 : Int32)) - ((M.1 v0 3) + (1 : Int32)) / (16 : Int32) * (16 : Int32))) fun M4 =>
  hl (hm_wI M4 v0 2 (hm_min ((M4.1 v0 2) + (1 : Int32)) (16 : Int32))) fun M6 => hg (M6.2.2 v0 1 ≠ 0) <| hg (hm_ib S (M6.2.2 v0 1) .int x2 = true) <|
  hl (hm_wI M6 (M6.2.2 v0 1) x2.toNatClampNeg v2) fun M11 => hv (f_Rents_measure S v0 v1 v2 (0 : Int32) (0 : Int32) x2 M11) fun M14 => some (x2, M14)
def b_Rents_yearOf_1 (S : hm_S) (k2 : Nat → Nat → Int32 → Int32 → hm_M → Option (Int32 × hm_M)) (v0 : Nat) (v1 : Nat) (v2 : Int32) (v3 : Int32) (M : hm_M) : Option (Int32 × hm_M) :=
  hg (S v0 = some (.inr 6)) <| (if (M.1 v0 2) ≤ v3 then b_Rents_yearOf_2 S v0 v1 v2 M else (if (16 : Int32) ≤ v3 then b_Rents_yearOf_2 S v0 v1 v2 M
  else hg (M.2.2 v0 1 ≠ 0) <| hg (hm_ib S (M.2.2 v0 1) .int v3 = true) <| (if (M.1 (M.2.2 v0 1) v3.toNatClampNeg) = v2 then some (v3, M)
  else k2 v0 v1 v2 (v3 + (1 : Int32)) M)))
def f_Rents_yearOf_1 (S : hm_S) (n : Nat) : Nat → Nat → Int32 → Int32 → hm_M → Option (Int32 × hm_M) := hm_it (b_Rents_yearOf_1 S ) (fun _ _ _ _ _ => none) n
def f_Rents_yearOf (S : hm_S) (v0 : Nat) (v1 : Nat) (v2 : Int32) (M : hm_M) : Option (Int32 × hm_M) :=
  f_Rents_yearOf_1 S hN v0 v1 v2 (0 : Int32) M
def f_Ps_yearNow (S : hm_S) (v0 : Nat) (M : hm_M) : Option (Int32 × hm_M) :=
  hg (S v0 = some (.inr 11)) <| hg (M.2.2 v0 4 ≠ 0) <| hg (M.2.2 v0 1 ≠ 0) <| hg (M.2.2 v0 2 ≠ 0) <| hg (S (M.2.2 v0 2) = some (.inr 2)) <|
  hb (f_Hold_lit S (M.2.2 v0 2) M) fun r8 M7 => hg (S (M.2.2 v0 4) = some (.inr 6)) <|
  hb (f_Rents_yearOf S (M.2.2 v0 4) (M.2.2 v0 1) r8 M7) fun r12 M11 => some (r12, M11)
def f_Rents_given (S : hm_S) (v0 : Nat) (v1 : Int32) (v2 : Int32) (M : hm_M) : Option (Int32 × hm_M) :=
  hg (S v0 = some (.inr 6)) <| hg (M.2.2 v0 0 ≠ 0) <| hg (hm_ib S (M.2.2 v0 0) .int ((v1 * (12 : Int32)) + v2) = true) <|
  some ((M.1 (M.2.2 v0 0) ((v1 * (12 : Int32)) + v2).toNatClampNeg), M)
def f_Rents_worthTo (S : hm_S) (v0 : Nat) (v1 : Nat) (v2 : Int32) (v3 : Int32) (v4 : Int32) (M : hm_M) : Option (Int32 × hm_M) :=
  hg (S v0 = some (.inr 6)) <| hb (f_Rents_given S v0 v2 v4 M) fun r4 M3 => hg (S v1 = some (.inr 0)) <| hg (M3.2.2 v1 11 ≠ 0) <|
  hg (hm_ib S (M3.2.2 v1 11) .int v4 = true) <| hg (M3.2.2 v1 6 ≠ 0) <| hg (hm_ib S (M3.2.2 v1 6) .int v3 = true) <|
  hb (f_J6_bitCount_0f7a4 S ((M3.1 (M3.2.2 v1 11) v4.toNatClampNeg) &&& (M3.1 (M3.2.2 v1 6) v3.toNatClampNeg)) M3) fun r14 M13 =>
  some ((r4 * ((1 : Int32) + r14)), M13)
def f_Rents_gainOf (S : hm_S) (v0 : Nat) (v1 : Nat) (v2 : Nat) (v3 : Int32) (v4 : Int32) (v5 : Int32) (M : hm_M) : Option (Int32 × hm_M) :=
  hg (S v2 = some (.inr 2)) <| hg (M.2.2 v2 0 ≠ 0) <| hg (hm_ib S (M.2.2 v2 0) .int v4 = true) <|
  hl ((M.1 (M.2.2 v2 0) v4.toNatClampNeg) : Int32) fun x5 => hg (hm_ib S (M.2.2 v2 0) .int v5 = true) <|
  hl ((M.1 (M.2.2 v2 0) v5.toNatClampNeg) : Int32) fun x9 => hg (S v0 = some (.inr 6)) <| hb (f_Rents_worthTo S v0 v1 v3 x5 v5 M) fun r14 M13 =>
  hb (f_Rents_worthTo S v0 v1 v3 x5 v4 M13) fun r17 M16 => hl ((r14 - r17) : Int32) fun x18 =>
  hb (f_Rents_worthTo S v0 v1 v3 x9 v4 M16) fun r22 M21 => hb (f_Rents_worthTo S v0 v1 v3 x9 v5 M21) fun r25 M24 =>
  hl ((r22 - r25) : Int32) fun x26 => (if x18 ≤ 0 then some ((0 : Int32), M24) else (if x26 ≤ 0 then some ((0 : Int32), M24)
  else some ((x18 + x26), M24)))
def b_Trade_mostWith_1 (S : hm_S) (k10 : Nat → Int32 → Int32 → Int32 → Int32 → hm_M → Option (Int32 × hm_M)) (v0 : Nat) (v1 : Int32) (v2 : Int32) (v3 : Int32) (v4 : Int32) (M : hm_M) : Option (Int32 × hm_M) :=
  (if v1 ≤ v4 then some (v3, M) else hg (S v0 = some (.inr 8)) <| hg (M.2.2 v0 0 ≠ 0) <|
  hg (hm_ib S (M.2.2 v0 0) .int ((v1 * (12 : Int32)) + v4) = true) <|
  hl ((M.1 (M.2.2 v0 0) ((v1 * (12 : Int32)) + v4).toNatClampNeg) : Int32) fun x6 => (if ((v2 >>> (v4 &&& 31)) &&& (1 : Int32)) = (1 : Int32) then
  (if x6 ≤ 0 then k10 v0 v1 v2 v3 (v4 + (1 : Int32)) M else hg (M.2.2 v0 1 ≠ 0) <|
  hg (hm_ib S (M.2.2 v0 1) .int (v2 &&& (((1 : Int32) <<< (v4 &&& 31)) ^^^ (-1 : Int32))) = true) <|
  hl ((hm_max v3 (x6 + (M.1 (M.2.2 v0 1) (v2 &&& (((1 : Int32) <<< (v4 &&& 31)) ^^^ (-1 : Int32))).toNatClampNeg))) : Int32) fun x13 =>
  k10 v0 v1 v2 x13 (v4 + (1 : Int32)) M) else k10 v0 v1 v2 v3 (v4 + (1 : Int32)) M))
def f_Trade_mostWith_1 (S : hm_S) (n : Nat) : Nat → Int32 → Int32 → Int32 → Int32 → hm_M → Option (Int32 × hm_M) := hm_it (b_Trade_mostWith_1 S ) (fun _ _ _ _ _ _ => none) n
def f_Trade_mostWith (S : hm_S) (v0 : Nat) (v1 : Int32) (v2 : Int32) (M : hm_M) : Option (Int32 × hm_M) :=
  hg (S v0 = some (.inr 8)) <| hg (M.2.2 v0 1 ≠ 0) <| hg (hm_ib S (M.2.2 v0 1) .int v2 = true) <|
  hl ((M.1 (M.2.2 v0 1) v2.toNatClampNeg) : Int32) fun x5 => f_Trade_mostWith_1 S hN v0 v1 v2 x5 (0 : Int32) M
def b_Trade_leastPartner_1 (S : hm_S) (k17 : Nat → Int32 → Int32 → Int32 → Int32 → Int32 → hm_M → Option (Int32 × hm_M)) (v0 : Nat) (v1 : Int32) (v2 : Int32) (v3 : Int32) (v4 : Int32) (v5 : Int32) (M : hm_M) : Option (Int32 × hm_M) :=
  (if v4 ≤ v5 then some (v1, M) else hg (S v0 = some (.inr 8)) <| hg (M.2.2 v0 0 ≠ 0) <|
  hg (hm_ib S (M.2.2 v0 0) .int ((v1 * (12 : Int32)) + v5) = true) <|
  hl ((M.1 (M.2.2 v0 0) ((v1 * (12 : Int32)) + v5).toNatClampNeg) : Int32) fun x6 => (if ((v2 >>> (v5 &&& 31)) &&& (1 : Int32)) = (1 : Int32) then
  (if x6 ≤ 0 then k17 v0 v1 v2 v3 v4 (v5 + (1 : Int32)) M else hg (M.2.2 v0 1 ≠ 0) <|
  hg (hm_ib S (M.2.2 v0 1) .int (v2 &&& (((1 : Int32) <<< (v5 &&& 31)) ^^^ (-1 : Int32))) = true) <|
  (if (x6 + (M.1 (M.2.2 v0 1) (v2 &&& (((1 : Int32) <<< (v5 &&& 31)) ^^^ (-1 : Int32))).toNatClampNeg)) = v3 then some (v5, M)
  else k17 v0 v1 v2 v3 v4 (v5 + (1 : Int32)) M)) else k17 v0 v1 v2 v3 v4 (v5 + (1 : Int32)) M))
def f_Trade_leastPartner_1 (S : hm_S) (n : Nat) : Nat → Int32 → Int32 → Int32 → Int32 → Int32 → hm_M → Option (Int32 × hm_M) := hm_it (b_Trade_leastPartner_1 S ) (fun _ _ _ _ _ _ _ => none) n
def f_Trade_leastPartner (S : hm_S) (v0 : Nat) (v1 : Int32) (v2 : Int32) (v3 : Int32) (v4 : Int32) (M : hm_M) : Option (Int32 × hm_M) :=
  hg (S v0 = some (.inr 8)) <| hg (M.2.2 v0 1 ≠ 0) <| hg (hm_ib S (M.2.2 v0 1) .int v2 = true) <| (if (M.1 (M.2.2 v0 1) v2.toNatClampNeg) = v3 then
  some (v1, M) else hl ((v1 + (1 : Int32)) : Int32) fun x6 => f_Trade_leastPartner_1 S hN v0 v1 v2 v3 v4 x6 M)
def b_Trade_choose_1 (S : hm_S) (k8 : Nat → Int32 → Int32 → Int32 → hm_M → Option hm_M) (v0 : Nat) (v1 : Int32) (v2 : Int32) (v3 : Int32) (M : hm_M) : Option hm_M :=
  (if v1 ≤ v3 then some M else (if ((v2 >>> (v3 &&& 31)) &&& (1 : Int32)) = (1 : Int32) then
  hl ((v2 &&& (((1 : Int32) <<< (v3 &&& 31)) ^^^ (-1 : Int32))) : Int32) fun x3 => hg (S v0 = some (.inr 8)) <| hg (M.2.2 v0 1 ≠ 0) <|
  hg (hm_ib S (M.2.2 v0 1) .int v2 = true) <| hb (f_Trade_leastPartner S v0 v3 x3 (M.1 (M.2.2 v0 1) v2.toNatClampNeg) v1 M) fun r11 M10 =>
  hg (M10.2.2 v0 2 ≠ 0) <| hg (hm_ib S (M10.2.2 v0 2) .int v3 = true) <| hl (hm_wI M10 (M10.2.2 v0 2) v3.toNatClampNeg r11) fun M15 =>
  hg (M15.2.2 v0 2 ≠ 0) <| hg (hm_ib S (M15.2.2 v0 2) .int r11 = true) <| hl (hm_wI M15 (M15.2.2 v0 2) r11.toNatClampNeg v3) fun M20 =>
  hl ((x3 &&& (((1 : Int32) <<< (r11 &&& 31)) ^^^ (-1 : Int32))) : Int32) fun x22 => k8 v0 v1 x22 (v3 + (1 : Int32)) M20
  else k8 v0 v1 v2 (v3 + (1 : Int32)) M))
def f_Trade_choose_1 (S : hm_S) (n : Nat) : Nat → Int32 → Int32 → Int32 → hm_M → Option hm_M := hm_it (b_Trade_choose_1 S ) (fun _ _ _ _ _ => none) n
def f_Trade_choose (S : hm_S) (v0 : Nat) (v1 : Int32) (M : hm_M) : Option hm_M :=
  hl ((((1 : Int32) <<< (v1 &&& 31)) - (1 : Int32)) : Int32) fun x1 => f_Trade_choose_1 S hN v0 v1 x1 (0 : Int32) M
def b_Trade_settle_6 (S : hm_S) (k111 : Nat → Int32 → Int32 → hm_M → Option hm_M) (k121 : Nat → Int32 → Int32 → Int32 → hm_M → Option hm_M) (v0 : Nat) (v5 : Int32) (v6 : Int32) (v7 : Int32) (M : hm_M) : Option hm_M :=
  (if ((1 : Int32) <<< (v6 &&& 31)) ≤ v7 then k111 v0 v5 (v6 + (1 : Int32)) M else hg (S v0 = some (.inr 8)) <| hg (M.2.2 v0 1 ≠ 0) <|
  hb (f_Trade_mostWith S v0 v6 v7 M) fun r6 M5 => hg (hm_ib S (M.2.2 v0 1) .int (v7 ||| ((1 : Int32) <<< (v6 &&& 31))) = true) <|
  hl (hm_wI M5 (M.2.2 v0 1) (v7 ||| ((1 : Int32) <<< (v6 &&& 31))).toNatClampNeg r6) fun M9 => k121 v0 v5 v6 (v7 + (1 : Int32)) M9)
def f_Trade_settle_6 (S : hm_S) (k111 : Nat → Int32 → Int32 → hm_M → Option hm_M) (n : Nat) : Nat → Int32 → Int32 → Int32 → hm_M → Option hm_M := hm_it (b_Trade_settle_6 S k111) (fun _ _ _ _ _ => none) n
def b_Trade_settle_5 (S : hm_S) (k111 : Nat → Int32 → Int32 → hm_M → Option hm_M) (v0 : Nat) (v5 : Int32) (v6 : Int32) (M : hm_M) : Option hm_M :=
  (if v5 ≤ v6 then hg (S v0 = some (.inr 8)) <| hg (M.2.2 v0 1 ≠ 0) <|
  hg (hm_ib S (M.2.2 v0 1) .int (((1 : Int32) <<< (v5 &&& 31)) - (1 : Int32)) = true) <|
  hl (hm_wI M v0 3 (M.1 (M.2.2 v0 1) (((1 : Int32) <<< (v5 &&& 31)) - (1 : Int32)).toNatClampNeg)) fun M6 => hv (f_Trade_choose S v0 v5 M6) fun M9 =>
  some M9 else f_Trade_settle_6 S k111 hN v0 v5 v6 (0 : Int32) M)
def f_Trade_settle_5 (S : hm_S) (n : Nat) : Nat → Int32 → Int32 → hm_M → Option hm_M := hm_it (b_Trade_settle_5 S ) (fun _ _ _ _ => none) n
def b_Trade_settle_4 (S : hm_S) (k14 : Nat → Nat → Nat → Nat → Int32 → Int32 → Int32 → hm_M → Option hm_M) (k24 : Nat → Nat → Nat → Nat → Int32 → Int32 → Int32 → Int32 → hm_M → Option hm_M) (v0 : Nat) (v1 : Nat) (v2 : Nat) (v3 : Nat) (v4 : Int32) (v5 : Int32) (v6 : Int32) (v7 : Int32) (s0 : Int32) (s1 : Int32) (s2 : Nat) (M : hm_M) : Option hm_M :=
  hg (hm_ib S s2 .int s1 = true) <| hl (hm_wI M s2 s1.toNatClampNeg s0) fun M3 => k24 v0 v1 v2 v3 v4 v5 v6 (v7 + (1 : Int32)) M3
def b_Trade_settle_3 (S : hm_S) (k14 : Nat → Nat → Nat → Nat → Int32 → Int32 → Int32 → hm_M → Option hm_M) (k24 : Nat → Nat → Nat → Nat → Int32 → Int32 → Int32 → Int32 → hm_M → Option hm_M) (v0 : Nat) (v1 : Nat) (v2 : Nat) (v3 : Nat) (v4 : Int32) (v5 : Int32) (v6 : Int32) (v7 : Int32) (s0 : Int32) (M : hm_M) : Option hm_M :=
  hg (S v0 = some (.inr 8)) <| hg (M.2.2 v0 0 ≠ 0) <| (if s0 = 0 then hg (S v3 = some (.inr 6)) <|
  hb (f_Rents_gainOf S v3 v1 v2 v4 v6 v7 M) fun r7 M6 =>
  b_Trade_settle_4 S k14 k24 v0 v1 v2 v3 v4 v5 v6 v7 r7 ((v6 * (12 : Int32)) + v7) (M.2.2 v0 0) M6
  else b_Trade_settle_4 S k14 k24 v0 v1 v2 v3 v4 v5 v6 v7 (0 : Int32) ((v6 * (12 : Int32)) + v7) (M.2.2 v0 0) M)
def b_Trade_settle_2 (S : hm_S) (k14 : Nat → Nat → Nat → Nat → Int32 → Int32 → Int32 → hm_M → Option hm_M) (k24 : Nat → Nat → Nat → Nat → Int32 → Int32 → Int32 → Int32 → hm_M → Option hm_M) (v0 : Nat) (v1 : Nat) (v2 : Nat) (v3 : Nat) (v4 : Int32) (v5 : Int32) (v6 : Int32) (v7 : Int32) (M : hm_M) : Option hm_M :=
  (if v5 ≤ v7 then k14 v0 v1 v2 v3 v4 v5 (v6 + (1 : Int32)) M else hg (S v2 = some (.inr 2)) <| hg (M.2.2 v2 0 ≠ 0) <|
  hg (hm_ib S (M.2.2 v2 0) .int v6 = true) <| hg (hm_ib S (M.2.2 v2 0) .int v7 = true) <|
  (if (M.1 (M.2.2 v2 0) v6.toNatClampNeg) = (M.1 (M.2.2 v2 0) v7.toNatClampNeg) then b_Trade_settle_3 S k14 k24 v0 v1 v2 v3 v4 v5 v6 v7 (1 : Int32) M
  else b_Trade_settle_3 S k14 k24 v0 v1 v2 v3 v4 v5 v6 v7 (0 : Int32) M))
def f_Trade_settle_2 (S : hm_S) (k14 : Nat → Nat → Nat → Nat → Int32 → Int32 → Int32 → hm_M → Option hm_M) (n : Nat) : Nat → Nat → Nat → Nat → Int32 → Int32 → Int32 → Int32 → hm_M → Option hm_M := hm_it (b_Trade_settle_2 S k14) (fun _ _ _ _ _ _ _ _ _ => none) n
def b_Trade_settle_1 (S : hm_S) (k14 : Nat → Nat → Nat → Nat → Int32 → Int32 → Int32 → hm_M → Option hm_M) (v0 : Nat) (v1 : Nat) (v2 : Nat) (v3 : Nat) (v4 : Int32) (v5 : Int32) (v6 : Int32) (M : hm_M) : Option hm_M :=
  (if v5 ≤ v6 then hg (S v0 = some (.inr 8)) <| hg (M.2.2 v0 1 ≠ 0) <| hg (hm_ib S (M.2.2 v0 1) .int (0 : Int32) = true) <|
  hl (hm_wI M (M.2.2 v0 1) (0 : Int32).toNatClampNeg (0 : Int32)) fun M6 => f_Trade_settle_5 S hN v0 v5 (0 : Int32) M6
  else f_Trade_settle_2 S k14 hN v0 v1 v2 v3 v4 v5 v6 (0 : Int32) M)
def f_Trade_settle_1 (S : hm_S) (n : Nat) : Nat → Nat → Nat → Nat → Int32 → Int32 → Int32 → hm_M → Option hm_M := hm_it (b_Trade_settle_1 S ) (fun _ _ _ _ _ _ _ _ => none) n
def f_Trade_settle (S : hm_S) (v0 : Nat) (v1 : Nat) (v2 : Nat) (v3 : Nat) (v4 : Int32) (M : hm_M) : Option hm_M :=
  hg (S v1 = some (.inr 0)) <| hl ((hm_min (M.1 v1 4) (12 : Int32)) : Int32) fun x2 => f_Trade_settle_1 S hN v0 v1 v2 v3 v4 x2 (0 : Int32) M
def b_Ps_best_1 (S : hm_S) (v0 : Nat) (v1 : Int32) (M : hm_M) : Option (Int32 × hm_M) :=
  hg (S v0 = some (.inr 11)) <| hg (M.2.2 v0 5 ≠ 0) <| hg (M.2.2 v0 1 ≠ 0) <| hg (S (M.2.2 v0 1) = some (.inr 4)) <| hg (M.2.2 (M.2.2 v0 1) 0 ≠ 0) <|
  hg (M.2.2 v0 2 ≠ 0) <| hg (M.2.2 v0 4 ≠ 0) <| hb (f_Ps_yearNow S v0 M) fun r10 M9 => hg (S (M.2.2 v0 5) = some (.inr 8)) <|
  hv (f_Trade_settle S (M.2.2 v0 5) (M.2.2 (M.2.2 v0 1) 0) (M.2.2 v0 2) (M.2.2 v0 4) r10 M9) fun M13 => (if v1 = (-1 : Int32) then
  hg (M13.2.2 v0 5 ≠ 0) <| hg (S (M13.2.2 v0 5) = some (.inr 8)) <| some ((M13.1 (M13.2.2 v0 5) 3), M13) else hg (M13.2.2 v0 5 ≠ 0) <|
  hg (S (M13.2.2 v0 5) = some (.inr 8)) <| hg (M13.2.2 (M13.2.2 v0 5) 2 ≠ 0) <| hg (hm_ib S (M13.2.2 (M13.2.2 v0 5) 2) .int v1 = true) <|
  some ((M13.1 (M13.2.2 (M13.2.2 v0 5) 2) v1.toNatClampNeg), M13))
def f_Ps_best (S : hm_S) (v0 : Nat) (v1 : Int32) (M : hm_M) : Option (Int32 × hm_M) :=
  (if v1 = (-1 : Int32) then b_Ps_best_1 S v0 v1 M else hg (S v0 = some (.inr 11)) <| hb (f_Ps_isPane S v0 v1 M) fun r5 M4 => (if r5 = 0 then
  some ((-1 : Int32), M4) else b_Ps_best_1 S v0 v1 M4))
def f_Hold_isBroken (S : hm_S) (v0 : Nat) (v1 : Int32) (M : hm_M) : Option (Int32 × hm_M) :=
  hg (S v0 = some (.inr 2)) <| (if (((M.1 v0 1) >>> (v1 &&& 31)) &&& (1 : Int32)) = (1 : Int32) then some ((1 : Int32), M) else some ((0 : Int32), M))
def f_Hold_turn (S : hm_S) (v0 : Nat) (v1 : Int32) (M : hm_M) : Option hm_M :=
  hg (S v0 = some (.inr 2)) <| hl (hm_wI M v0 1 ((M.1 v0 1) ^^^ ((1 : Int32) <<< (v1 &&& 31)))) fun M2 => some M2
def f_History_note (S : hm_S) (v0 : Nat) (v1 : Int32) (v2 : Int32) (M : hm_M) : Option hm_M :=
  hg (S v0 = some (.inr 1)) <| hg (M.2.2 v0 0 ≠ 0) <| hg (hm_ib S (M.2.2 v0 0) .int (M.1 v0 3) = true) <|
  hl (hm_wI M (M.2.2 v0 0) (M.1 v0 3).toNatClampNeg v1) fun M5 => hg (M5.2.2 v0 1 ≠ 0) <| hg (hm_ib S (M5.2.2 v0 1) .int (M5.1 v0 3) = true) <|
  hl (hm_wI M5 (M5.2.2 v0 1) (M5.1 v0 3).toNatClampNeg v2) fun M10 =>
  hl (hm_wI M10 v0 3 (((M10.1 v0 3) + (1 : Int32)) - ((M10.1 v0 3) + (1 : Int32)) / (20 : Int32) * (20 : Int32))) fun M12 =>
  hl (hm_wI M12 v0 2 (hm_min ((M12.1 v0 2) + (1 : Int32)) (20 : Int32))) fun M14 => some M14
def f_Ps_breaks (S : hm_S) (v0 : Nat) (v1 : Int32) (v2 : Int32) (M : hm_M) : Option (Int32 × hm_M) :=
  hg (S v0 = some (.inr 11)) <| hb (f_Ps_isPane S v0 v1 M) fun r4 M3 => (if r4 = 0 then some ((0 : Int32), M3) else hg (M3.2.2 v0 2 ≠ 0) <|
  hg (S (M3.2.2 v0 2) = some (.inr 2)) <| hb (f_Hold_isBroken S (M3.2.2 v0 2) v1 M3) fun r10 M9 => (if r10 = v2 then hg (M9.2.2 v0 2 ≠ 0) <|
  hg (S (M9.2.2 v0 2) = some (.inr 2)) <| hv (f_Hold_turn S (M9.2.2 v0 2) v1 M9) fun M15 => hg (M15.2.2 v0 3 ≠ 0) <|
  hg (S (M15.2.2 v0 3) = some (.inr 1)) <| hv (f_History_note S (M15.2.2 v0 3) v1 (-1 : Int32) M15) fun M19 => some ((1 : Int32), M19)
  else some ((0 : Int32), M9)))
def f_Ps_canExchange (S : hm_S) (v0 : Nat) (v1 : Int32) (v2 : Int32) (M : hm_M) : Option (Int32 × hm_M) :=
  hg (S v0 = some (.inr 11)) <| hb (f_Ps_isPane S v0 v1 M) fun r4 M3 => (if r4 = 0 then some ((0 : Int32), M3)
  else hb (f_Ps_isPane S v0 v2 M3) fun r8 M7 => (if r8 = 0 then some ((0 : Int32), M7) else hg (M7.2.2 v0 2 ≠ 0) <|
  hg (S (M7.2.2 v0 2) = some (.inr 2)) <| hg (M7.2.2 (M7.2.2 v0 2) 0 ≠ 0) <| hg (hm_ib S (M7.2.2 (M7.2.2 v0 2) 0) .int v1 = true) <|
  hg (hm_ib S (M7.2.2 (M7.2.2 v0 2) 0) .int v2 = true) <|
  (if (M7.1 (M7.2.2 (M7.2.2 v0 2) 0) v1.toNatClampNeg) = (M7.1 (M7.2.2 (M7.2.2 v0 2) 0) v2.toNatClampNeg) then some ((0 : Int32), M7)
  else some ((1 : Int32), M7))))
def f_Ps_isTime (S : hm_S) (v0 : Int32) (v1 : Int32) (M : hm_M) : Option (Int32 × hm_M) :=
  (if v0 < 0 then some ((0 : Int32), M) else (if (52 : Int32) ≤ v0 then some ((0 : Int32), M) else (if v1 < 0 then some ((0 : Int32), M)
  else (if (24 : Int32) ≤ v1 then some ((0 : Int32), M) else some ((1 : Int32), M)))))
def f_Ps_timeOf (S : hm_S) (v0 : Int32) (v1 : Int32) (M : hm_M) : Option (Int32 × hm_M) :=
  some (((v0 * (24 : Int32)) + v1), M)
def f_Light_colourOn (S : hm_S) (v0 : Nat) (v1 : Int32) (v2 : Int32) (M : hm_M) : Option (Int32 × hm_M) :=
  hg (S v0 = some (.inr 4)) <| hg (M.2.2 v0 0 ≠ 0) <| hb (f_Light_panesOn S v0 v1 v2 M) fun r5 M4 => hg (S (M.2.2 v0 0) = some (.inr 0)) <|
  hb (f_Chapel_colourOf S (M.2.2 v0 0) r5 M4) fun r9 M8 => some (r9, M8)
def b_Ps_candlesAt_1 (S : hm_S) (k21 : Nat → Int32 → Int32 → Int32 → hm_M → Option (Int32 × hm_M)) (v0 : Nat) (v2 : Int32) (v3 : Int32) (v4 : Int32) (M : hm_M) : Option (Int32 × hm_M) :=
  hg (S v0 = some (.inr 11)) <| hg (M.2.2 v0 2 ≠ 0) <| hg (S (M.2.2 v0 2) = some (.inr 2)) <| (if (M.1 (M.2.2 v0 2) 2) ≤ v4 then some (v3, M)
  else (if (8 : Int32) ≤ v4 then some (v3, M) else hg (M.2.2 v0 1 ≠ 0) <| hg (M.2.2 (M.2.2 v0 2) 3 ≠ 0) <|
  hg (hm_ib S (M.2.2 (M.2.2 v0 2) 3) .int v4 = true) <| hg (S (M.2.2 v0 1) = some (.inr 4)) <|
  hb (f_Light_colourOn S (M.2.2 v0 1) (M.1 (M.2.2 (M.2.2 v0 2) 3) v4.toNatClampNeg) v2 M) fun r13 M12 => hg (M12.2.2 v0 2 ≠ 0) <|
  hg (S (M12.2.2 v0 2) = some (.inr 2)) <| hg (M12.2.2 (M12.2.2 v0 2) 4 ≠ 0) <| hg (hm_ib S (M12.2.2 (M12.2.2 v0 2) 4) .int v4 = true) <|
  (if r13 = (M12.1 (M12.2.2 (M12.2.2 v0 2) 4) v4.toNatClampNeg) then k21 v0 v2 v3 (v4 + (1 : Int32)) M12
  else k21 v0 v2 (v3 + (1 : Int32)) (v4 + (1 : Int32)) M12)))
def f_Ps_candlesAt_1 (S : hm_S) (n : Nat) : Nat → Int32 → Int32 → Int32 → hm_M → Option (Int32 × hm_M) := hm_it (b_Ps_candlesAt_1 S ) (fun _ _ _ _ _ => none) n
def f_Ps_candlesAt (S : hm_S) (v0 : Nat) (v1 : Int32) (M : hm_M) : Option (Int32 × hm_M) :=
  hg (S v0 = some (.inr 11)) <| hg (M.2.2 v0 1 ≠ 0) <| hg (S (M.2.2 v0 1) = some (.inr 4)) <| hv (f_Light_turnTo S (M.2.2 v0 1) v1 M) fun M5 =>
  hg (M5.2.2 v0 2 ≠ 0) <| hg (S (M5.2.2 v0 2) = some (.inr 2)) <| hb (f_Hold_lit S (M5.2.2 v0 2) M5) fun r10 M9 =>
  f_Ps_candlesAt_1 S hN v0 r10 (0 : Int32) (0 : Int32) M9
def f_Ps_candles (S : hm_S) (v0 : Nat) (v1 : Int32) (v2 : Int32) (M : hm_M) : Option (Int32 × hm_M) :=
  hb (f_Ps_isTime S v1 v2 M) fun r3 M2 => (if r3 = 0 then some ((-1 : Int32), M2) else hb (f_Ps_timeOf S v1 v2 M2) fun r7 M6 =>
  hg (S v0 = some (.inr 11)) <| hb (f_Ps_candlesAt S v0 r7 M6) fun r11 M10 => some (r11, M10))
def f_Tape_isBlank (S : hm_S) (v0 : Int32) (M : hm_M) : Option (Int32 × hm_M) :=
  (if v0 = (10 : Int32) then some ((1 : Int32), M) else (if v0 = (32 : Int32) then some ((1 : Int32), M) else some ((0 : Int32), M)))
def f_Tape_isLetter (S : hm_S) (v0 : Int32) (M : hm_M) : Option (Int32 × hm_M) :=
  (if v0 < (97 : Int32) then some ((0 : Int32), M) else (if (122 : Int32) < v0 then some ((0 : Int32), M) else some ((1 : Int32), M)))
def b_Tape_takeLetters_1 (S : hm_S) (k5 : Nat → hm_M → Option hm_M) (v0 : Nat) (M : hm_M) : Option hm_M :=
  hg (S v0 = some (.inr 7)) <| (if (M.1 v0 1) ≤ (M.1 v0 2) then some M else hg (M.2.2 v0 0 ≠ 0) <|
  hg (hm_ib S (M.2.2 v0 0) .byte (M.1 v0 2) = true) <| hb (f_Tape_isLetter S (M.1 (M.2.2 v0 0) (M.1 v0 2).toNatClampNeg) M) fun r8 M7 =>
  (if r8 = 0 then some M7 else hg (M7.2.2 v0 0 ≠ 0) <| hg (hm_ib S (M7.2.2 v0 0) .byte (M7.1 v0 2) = true) <|
  hl (hm_wL M7 v0 6 (((M7.2.1 v0 6) * (32 : Int64)) + (((M7.1 (M7.2.2 v0 0) (M7.1 v0 2).toNatClampNeg) - (97 : Int32)) + (1 : Int32)).toInt64)) fun M13 =>
  hl (hm_wI M13 v0 2 ((M13.1 v0 2) + (1 : Int32))) fun M15 => k5 v0 M15))
def f_Tape_takeLetters_1 (S : hm_S) (n : Nat) : Nat → hm_M → Option hm_M := hm_it (b_Tape_takeLetters_1 S ) (fun _ _ => none) n
def f_Tape_takeLetters (S : hm_S) (v0 : Nat) (M : hm_M) : Option hm_M :=
  hg (S v0 = some (.inr 7)) <| hl (hm_wL M v0 6 (0 : Int64)) fun M2 => f_Tape_takeLetters_1 S hN v0 M2
def b_Tape_kindOfWord_4 (S : hm_S) (k11 : Nat → Int32 → Int32 → Int32 → Int32 → hm_M → Option (Int32 × hm_M)) (v0 : Nat) (v1 : Int32) (v4 : Int32) (M : hm_M) : Option (Int32 × hm_M) :=
  k11 v0 (v1 + (1 : Int32)) (0 : Int32) (1 : Int32) (v4 + (1 : Int32)) M
def b_Tape_kindOfWord_3 (S : hm_S) (k11 : Nat → Int32 → Int32 → Int32 → Int32 → hm_M → Option (Int32 × hm_M)) (v0 : Nat) (v1 : Int32) (v2 : Int32) (v4 : Int32) (s0 : Int32) (M : hm_M) : Option (Int32 × hm_M) :=
  k11 v0 v1 (v2 + (1 : Int32)) s0 (v4 + (1 : Int32)) M
def b_Tape_kindOfWord_2 (S : hm_S) (k11 : Nat → Int32 → Int32 → Int32 → Int32 → hm_M → Option (Int32 × hm_M)) (v0 : Nat) (v1 : Int32) (v2 : Int32) (v4 : Int32) (M : hm_M) : Option (Int32 × hm_M) :=
  b_Tape_kindOfWord_3 S k11 v0 v1 v2 v4 (0 : Int32) M
def b_Tape_kindOfWord_1 (S : hm_S) (k11 : Nat → Int32 → Int32 → Int32 → Int32 → hm_M → Option (Int32 × hm_M)) (v0 : Nat) (v1 : Int32) (v2 : Int32) (v3 : Int32) (v4 : Int32) (M : hm_M) : Option (Int32 × hm_M) :=
  (if (106 : Int32) ≤ v4 then some ((150 : Int32), M) else hg (0 ≤ v4 ∧ v4 < 106) <| hl ((hm_chr 0 v4) : Int32) fun x3 => (if x3 = (32 : Int32) then
  (if v3 = 0 then b_Tape_kindOfWord_4 S k11 v0 v1 v4 M else hg (S v0 = some (.inr 7)) <| (if ((M.1 v0 3) + v2) = (M.1 v0 2) then some (v1, M)
  else b_Tape_kindOfWord_4 S k11 v0 v1 v4 M)) else (if v3 = 0 then b_Tape_kindOfWord_2 S k11 v0 v1 v2 v4 M else hg (S v0 = some (.inr 7)) <|
  (if (M.1 v0 2) ≤ ((M.1 v0 3) + v2) then b_Tape_kindOfWord_2 S k11 v0 v1 v2 v4 M else hg (M.2.2 v0 0 ≠ 0) <|
  hg (hm_ib S (M.2.2 v0 0) .byte ((M.1 v0 3) + v2) = true) <| (if (M.1 (M.2.2 v0 0) ((M.1 v0 3) + v2).toNatClampNeg) = x3 then
  b_Tape_kindOfWord_3 S k11 v0 v1 v2 v4 (1 : Int32) M else b_Tape_kindOfWord_2 S k11 v0 v1 v2 v4 M)))))
def f_Tape_kindOfWord_1 (S : hm_S) (n : Nat) : Nat → Int32 → Int32 → Int32 → Int32 → hm_M → Option (Int32 × hm_M) := hm_it (b_Tape_kindOfWord_1 S ) (fun _ _ _ _ _ _ => none) n
def f_Tape_kindOfWord (S : hm_S) (v0 : Nat) (M : hm_M) : Option (Int32 × hm_M) :=
  f_Tape_kindOfWord_1 S hN v0 (128 : Int32) (0 : Int32) (1 : Int32) (0 : Int32) M
def f_Tape_isDigit (S : hm_S) (v0 : Int32) (M : hm_M) : Option (Int32 × hm_M) :=
  (if v0 < (48 : Int32) then some ((0 : Int32), M) else (if (57 : Int32) < v0 then some ((0 : Int32), M) else some ((1 : Int32), M)))
def b_Tape_takeDigits_1 (S : hm_S) (k5 : Nat → hm_M → Option hm_M) (v0 : Nat) (M : hm_M) : Option hm_M :=
  hg (S v0 = some (.inr 7)) <| (if (M.1 v0 1) ≤ (M.1 v0 2) then some M else hg (M.2.2 v0 0 ≠ 0) <|
  hg (hm_ib S (M.2.2 v0 0) .byte (M.1 v0 2) = true) <| hb (f_Tape_isDigit S (M.1 (M.2.2 v0 0) (M.1 v0 2).toNatClampNeg) M) fun r8 M7 =>
  (if r8 = 0 then some M7 else hg (M7.2.2 v0 0 ≠ 0) <| hg (hm_ib S (M7.2.2 v0 0) .byte (M7.1 v0 2) = true) <|
  hl (hm_wI M7 v0 5 (((M7.1 v0 5) * (10 : Int32)) + ((M7.1 (M7.2.2 v0 0) (M7.1 v0 2).toNatClampNeg) - (48 : Int32)))) fun M13 =>
  hl (hm_wI M13 v0 2 ((M13.1 v0 2) + (1 : Int32))) fun M15 => k5 v0 M15))
def f_Tape_takeDigits_1 (S : hm_S) (n : Nat) : Nat → hm_M → Option hm_M := hm_it (b_Tape_takeDigits_1 S ) (fun _ _ => none) n
def f_Tape_takeDigits (S : hm_S) (v0 : Nat) (M : hm_M) : Option hm_M :=
  hg (S v0 = some (.inr 7)) <| hl (hm_wI M v0 5 (0 : Int32)) fun M2 => f_Tape_takeDigits_1 S hN v0 M2
def b_Tape_next_5 (S : hm_S) (v0 : Nat) (s0 : Int32) (s1 : Nat) (M : hm_M) : Option hm_M :=
  hg (S s1 = some (.inr 7)) <| hl (hm_wI M s1 4 s0) fun M2 => hg (S v0 = some (.inr 7)) <| hl (hm_wI M2 v0 2 ((M2.1 v0 2) + (1 : Int32))) fun M5 =>
  some M5
def b_Tape_next_4 (S : hm_S) (s0 : Int32) (s1 : Nat) (M : hm_M) : Option hm_M :=
  hg (S s1 = some (.inr 7)) <| hl (hm_wI M s1 4 s0) fun M2 => some M2
def b_Tape_next_3 (S : hm_S) (s0 : Int32) (s1 : Nat) (M : hm_M) : Option hm_M :=
  hg (S s1 = some (.inr 7)) <| hl (hm_wI M s1 4 s0) fun M2 => some M2
def b_Tape_next_2 (S : hm_S) (v0 : Nat) (M : hm_M) : Option hm_M :=
  hg (S v0 = some (.inr 7)) <| hl (hm_wI M v0 3 (M.1 v0 2)) fun M2 => (if (M2.1 v0 2) < (M2.1 v0 1) then hg (M2.2.2 v0 0 ≠ 0) <|
  hg (hm_ib S (M2.2.2 v0 0) .byte (M2.1 v0 2) = true) <| hb (f_Tape_isLetter S (M2.1 (M2.2.2 v0 0) (M2.1 v0 2).toNatClampNeg) M2) fun r10 M9 =>
  (if r10 = 0 then hg (M9.2.2 v0 0 ≠ 0) <| hg (hm_ib S (M9.2.2 v0 0) .byte (M9.1 v0 2) = true) <|
  hb (f_Tape_isDigit S (M9.1 (M9.2.2 v0 0) (M9.1 v0 2).toNatClampNeg) M9) fun r17 M16 => (if r17 = 0 then hg (M16.2.2 v0 0 ≠ 0) <|
  hg (hm_ib S (M16.2.2 v0 0) .byte (M16.1 v0 2) = true) <|
  (if (hm_ix 1 ((M16.1 (M16.2.2 v0 0) (M16.1 v0 2).toNatClampNeg).toUInt32 % 65536).toInt32) < 0 then b_Tape_next_5 S v0 (0 : Int32) v0 M16
  else b_Tape_next_5 S v0 (M16.1 (M16.2.2 v0 0) (M16.1 v0 2).toNatClampNeg) v0 M16) else hv (f_Tape_takeDigits S v0 M16) fun M24 =>
  (if ((M24.1 v0 2) - (M24.1 v0 3)) ≤ (4 : Int32) then b_Tape_next_4 S (2 : Int32) v0 M24 else b_Tape_next_4 S (0 : Int32) v0 M24))
  else hv (f_Tape_takeLetters S v0 M9) fun M27 => (if ((M27.1 v0 2) - (M27.1 v0 3)) ≤ (8 : Int32) then hb (f_Tape_kindOfWord S v0 M27) fun r31 M30 =>
  b_Tape_next_3 S r31 v0 M30 else b_Tape_next_3 S (0 : Int32) v0 M27)) else hl (hm_wI M2 v0 4 (1 : Int32)) fun M32 => some M32)
def b_Tape_next_1 (S : hm_S) (k0 : Nat → hm_M → Option hm_M) (v0 : Nat) (M : hm_M) : Option hm_M :=
  hg (S v0 = some (.inr 7)) <| (if (M.1 v0 1) ≤ (M.1 v0 2) then b_Tape_next_2 S v0 M else hg (M.2.2 v0 0 ≠ 0) <|
  hg (hm_ib S (M.2.2 v0 0) .byte (M.1 v0 2) = true) <| hb (f_Tape_isBlank S (M.1 (M.2.2 v0 0) (M.1 v0 2).toNatClampNeg) M) fun r8 M7 =>
  (if r8 = 0 then b_Tape_next_2 S v0 M7 else hl (hm_wI M7 v0 2 ((M7.1 v0 2) + (1 : Int32))) fun M10 => k0 v0 M10))
def f_Tape_next_1 (S : hm_S) (n : Nat) : Nat → hm_M → Option hm_M := hm_it (b_Tape_next_1 S ) (fun _ _ => none) n
def f_Tape_next (S : hm_S) (v0 : Nat) (M : hm_M) : Option hm_M :=
  f_Tape_next_1 S hN v0 M
def f_Tape_rewind (S : hm_S) (v0 : Nat) (M : hm_M) : Option hm_M :=
  hg (S v0 = some (.inr 7)) <| hl (hm_wI M v0 2 (0 : Int32)) fun M2 => hv (f_Tape_next S v0 M2) fun M5 => some M5
def f_Reader_takeOnce (S : hm_S) (v0 : Nat) (M : hm_M) : Option (Int32 × hm_M) :=
  hg (S v0 = some (.inr 5)) <| hg (M.2.2 v0 0 ≠ 0) <| hg (S (M.2.2 v0 0) = some (.inr 7)) <|
  hl (((1 : Int32) <<< (((M.1 (M.2.2 v0 0) 4) - (128 : Int32)) &&& 31)) : Int32) fun x4 => (if ((M.1 v0 2) &&& x4) = 0 then
  hl (hm_wI M v0 2 ((M.1 v0 2) ||| x4)) fun M7 => hg (M7.2.2 v0 0 ≠ 0) <| hg (S (M7.2.2 v0 0) = some (.inr 7)) <|
  hv (f_Tape_next S (M7.2.2 v0 0) M7) fun M12 => some ((0 : Int32), M12) else some ((3 : Int32), M))
def f_Reader_takeNumber (S : hm_S) (v0 : Nat) (v1 : Int32) (v2 : Int32) (M : hm_M) : Option (Int32 × hm_M) :=
  hg (S v0 = some (.inr 5)) <| hg (M.2.2 v0 0 ≠ 0) <| hg (S (M.2.2 v0 0) = some (.inr 7)) <| (if (M.1 (M.2.2 v0 0) 4) = (2 : Int32) then
  (if (M.1 (M.2.2 v0 0) 5) < v1 then some ((4 : Int32), M) else (if (M.1 (M.2.2 v0 0) 5) ≤ v2 then hl (hm_wI M v0 3 (M.1 (M.2.2 v0 0) 5)) fun M7 =>
  hg (M7.2.2 v0 0 ≠ 0) <| hg (S (M7.2.2 v0 0) = some (.inr 7)) <| hv (f_Tape_next S (M7.2.2 v0 0) M7) fun M12 => some ((0 : Int32), M12)
  else some ((4 : Int32), M))) else some ((1 : Int32), M))
def f_Reader_take (S : hm_S) (v0 : Nat) (v1 : Int32) (M : hm_M) : Option (Int32 × hm_M) :=
  hg (S v0 = some (.inr 5)) <| hg (M.2.2 v0 0 ≠ 0) <| hg (S (M.2.2 v0 0) = some (.inr 7)) <| (if (M.1 (M.2.2 v0 0) 4) = v1 then
  hv (f_Tape_next S (M.2.2 v0 0) M) fun M6 => some ((0 : Int32), M6) else some ((1 : Int32), M))
def b_Reader_readFloor_2 (S : hm_S) (v0 : Nat) (v1 : Int32) (M : hm_M) : Option (Int32 × hm_M) :=
  (if v1 = 0 then hg (S v0 = some (.inr 5)) <| hg (M.2.2 v0 1 ≠ 0) <| hg (S (M.2.2 v0 1) = some (.inr 0)) <|
  hl (hm_wI M (M.2.2 v0 1) 1 (M.1 v0 3)) fun M5 => hb (f_Reader_take S v0 (59 : Int32) M5) fun r9 M8 => some (r9, M8) else some (v1, M))
def b_Reader_readFloor_1 (S : hm_S) (v0 : Nat) (v1 : Int32) (M : hm_M) : Option (Int32 × hm_M) :=
  (if v1 = 0 then hg (S v0 = some (.inr 5)) <| hg (M.2.2 v0 1 ≠ 0) <| hg (S (M.2.2 v0 1) = some (.inr 0)) <|
  hl (hm_wI M (M.2.2 v0 1) 0 (M.1 v0 3)) fun M5 => hb (f_Reader_takeNumber S v0 (1 : Int32) (8 : Int32) M5) fun r9 M8 =>
  b_Reader_readFloor_2 S v0 r9 M8 else b_Reader_readFloor_2 S v0 v1 M)
def f_Reader_readFloor (S : hm_S) (v0 : Nat) (M : hm_M) : Option (Int32 × hm_M) :=
  hg (S v0 = some (.inr 5)) <| hb (f_Reader_takeOnce S v0 M) fun r4 M3 => (if r4 = 0 then
  hb (f_Reader_takeNumber S v0 (1 : Int32) (8 : Int32) M3) fun r8 M7 => b_Reader_readFloor_1 S v0 r8 M7 else b_Reader_readFloor_1 S v0 r4 M3)
def f_Tape_isName (S : hm_S) (v0 : Nat) (M : hm_M) : Option (Int32 × hm_M) :=
  hg (S v0 = some (.inr 7)) <| (if (M.1 v0 4) < (143 : Int32) then some ((0 : Int32), M) else some ((1 : Int32), M))
def f_Reader_takeNewName (S : hm_S) (v0 : Nat) (v1 : Int32) (M : hm_M) : Option (Int32 × hm_M) :=
  hg (S v0 = some (.inr 5)) <| hg (M.2.2 v0 0 ≠ 0) <| hg (S (M.2.2 v0 0) = some (.inr 7)) <| hb (f_Tape_isName S (M.2.2 v0 0) M) fun r6 M5 =>
  (if r6 = 0 then some ((1 : Int32), M5) else hg (M5.2.2 v0 1 ≠ 0) <| hg (M5.2.2 v0 0 ≠ 0) <| hg (S (M5.2.2 v0 0) = some (.inr 7)) <|
  hg (S (M5.2.2 v0 1) = some (.inr 0)) <| hb (f_Chapel_guildNamed S (M5.2.2 v0 1) (M5.2.1 (M5.2.2 v0 0) 6) M5) fun r14 M13 =>
  (if r14 = (-1 : Int32) then hg (M13.2.2 v0 1 ≠ 0) <| hg (S (M13.2.2 v0 1) = some (.inr 0)) <| hg (M13.2.2 (M13.2.2 v0 1) 5 ≠ 0) <|
  hg (M13.2.2 v0 0 ≠ 0) <| hg (S (M13.2.2 v0 0) = some (.inr 7)) <| hg (hm_ib S (M13.2.2 (M13.2.2 v0 1) 5) .long v1 = true) <|
  hl (hm_wL M13 (M13.2.2 (M13.2.2 v0 1) 5) v1.toNatClampNeg (M13.2.1 (M13.2.2 v0 0) 6)) fun M23 => hg (M23.2.2 v0 0 ≠ 0) <|
  hg (S (M23.2.2 v0 0) = some (.inr 7)) <| hv (f_Tape_next S (M23.2.2 v0 0) M23) fun M28 => some ((0 : Int32), M28) else some ((3 : Int32), M13)))
def b_Reader_readGuild_5 (S : hm_S) (v0 : Nat) (v2 : Int32) (M : hm_M) : Option (Int32 × hm_M) :=
  (if v2 = 0 then hg (S v0 = some (.inr 5)) <| hg (M.2.2 v0 1 ≠ 0) <| hg (S (M.2.2 v0 1) = some (.inr 0)) <|
  hl (hm_wI M (M.2.2 v0 1) 3 ((M.1 (M.2.2 v0 1) 3) + (1 : Int32))) fun M5 => some (v2, M5) else some (v2, M))
def b_Reader_readGuild_4 (S : hm_S) (v0 : Nat) (v1 : Int32) (v2 : Int32) (M : hm_M) : Option (Int32 × hm_M) :=
  (if v2 = 0 then hg (S v0 = some (.inr 5)) <| hg (M.2.2 v0 1 ≠ 0) <| hg (S (M.2.2 v0 1) = some (.inr 0)) <| hg (M.2.2 (M.2.2 v0 1) 7 ≠ 0) <|
  hg (hm_ib S (M.2.2 (M.2.2 v0 1) 7) .int v1 = true) <| hl (hm_wI M (M.2.2 (M.2.2 v0 1) 7) v1.toNatClampNeg (M.1 v0 3)) fun M8 =>
  hb (f_Reader_take S v0 (59 : Int32) M8) fun r12 M11 => b_Reader_readGuild_5 S v0 r12 M11 else b_Reader_readGuild_5 S v0 v2 M)
def b_Reader_readGuild_3 (S : hm_S) (v0 : Nat) (v1 : Int32) (v2 : Int32) (M : hm_M) : Option (Int32 × hm_M) :=
  (if v2 = 0 then hg (S v0 = some (.inr 5)) <| hb (f_Reader_takeNumber S v0 (0 : Int32) (9999 : Int32) M) fun r5 M4 =>
  b_Reader_readGuild_4 S v0 v1 r5 M4 else b_Reader_readGuild_4 S v0 v1 v2 M)
def b_Reader_readGuild_2 (S : hm_S) (v0 : Nat) (v1 : Int32) (v2 : Int32) (M : hm_M) : Option (Int32 × hm_M) :=
  (if v2 = 0 then hg (S v0 = some (.inr 5)) <| hg (M.2.2 v0 1 ≠ 0) <| hg (S (M.2.2 v0 1) = some (.inr 0)) <| hg (M.2.2 (M.2.2 v0 1) 6 ≠ 0) <|
  hg (hm_ib S (M.2.2 (M.2.2 v0 1) 6) .int v1 = true) <| hl (hm_wI M (M.2.2 (M.2.2 v0 1) 6) v1.toNatClampNeg (M.1 v0 3)) fun M8 =>
  hb (f_Reader_take S v0 (131 : Int32) M8) fun r12 M11 => b_Reader_readGuild_3 S v0 v1 r12 M11 else b_Reader_readGuild_3 S v0 v1 v2 M)
def b_Reader_readGuild_1 (S : hm_S) (v0 : Nat) (v1 : Int32) (v2 : Int32) (M : hm_M) : Option (Int32 × hm_M) :=
  (if v2 = 0 then hg (S v0 = some (.inr 5)) <| hb (f_Reader_takeNumber S v0 (0 : Int32) (7 : Int32) M) fun r5 M4 => b_Reader_readGuild_2 S v0 v1 r5 M4
  else b_Reader_readGuild_2 S v0 v1 v2 M)
def f_Reader_readGuild (S : hm_S) (v0 : Nat) (M : hm_M) : Option (Int32 × hm_M) :=
  hg (S v0 = some (.inr 5)) <| hg (M.2.2 v0 1 ≠ 0) <| hg (S (M.2.2 v0 1) = some (.inr 0)) <| hl ((M.1 (M.2.2 v0 1) 3) : Int32) fun x4 =>
  (if x4 < (6 : Int32) then hg (M.2.2 v0 0 ≠ 0) <| hg (S (M.2.2 v0 0) = some (.inr 7)) <| hv (f_Tape_next S (M.2.2 v0 0) M) fun M10 =>
  hb (f_Reader_takeNewName S v0 x4 M10) fun r13 M12 => (if r13 = 0 then hb (f_Reader_take S v0 (130 : Int32) M12) fun r17 M16 =>
  b_Reader_readGuild_1 S v0 x4 r17 M16 else b_Reader_readGuild_1 S v0 x4 r13 M12) else some ((5 : Int32), M))
def f_Reader_isRowOfPane (S : hm_S) (v0 : Nat) (v1 : Int32) (M : hm_M) : Option (Int32 × hm_M) :=
  hg (S v0 = some (.inr 5)) <| hg (M.2.2 v0 0 ≠ 0) <| hg (S (M.2.2 v0 0) = some (.inr 7)) <| (if (M.1 (M.2.2 v0 0) 4) = (2 : Int32) then
  hg (M.2.2 v0 1 ≠ 0) <| hg (S (M.2.2 v0 1) = some (.inr 0)) <| hb (f_Chapel_hasPaneAt S (M.2.2 v0 1) v1 (M.1 (M.2.2 v0 0) 5) M) fun r9 M8 =>
  (if r9 = 0 then some ((0 : Int32), M8) else some ((1 : Int32), M8)) else some ((0 : Int32), M))
def f_Reader_takeGiver (S : hm_S) (v0 : Nat) (v1 : Int32) (M : hm_M) : Option (Int32 × hm_M) :=
  hg (S v0 = some (.inr 5)) <| hg (M.2.2 v0 0 ≠ 0) <| hg (S (M.2.2 v0 0) = some (.inr 7)) <| hb (f_Tape_isName S (M.2.2 v0 0) M) fun r6 M5 =>
  (if r6 = 0 then some ((1 : Int32), M5) else hg (M5.2.2 v0 1 ≠ 0) <| hg (M5.2.2 v0 0 ≠ 0) <| hg (S (M5.2.2 v0 0) = some (.inr 7)) <|
  hg (S (M5.2.2 v0 1) = some (.inr 0)) <| hb (f_Chapel_guildNamed S (M5.2.2 v0 1) (M5.2.1 (M5.2.2 v0 0) 6) M5) fun r14 M13 =>
  (if r14 = (-1 : Int32) then some ((2 : Int32), M13) else hg (M13.2.2 v0 1 ≠ 0) <| hg (S (M13.2.2 v0 1) = some (.inr 0)) <|
  hg (M13.2.2 (M13.2.2 v0 1) 10 ≠ 0) <| hg (hm_ib S (M13.2.2 (M13.2.2 v0 1) 10) .int v1 = true) <|
  hl (hm_wI M13 (M13.2.2 (M13.2.2 v0 1) 10) v1.toNatClampNeg r14) fun M21 => hg (M21.2.2 v0 0 ≠ 0) <| hg (S (M21.2.2 v0 0) = some (.inr 7)) <|
  hv (f_Tape_next S (M21.2.2 v0 0) M21) fun M26 => some ((0 : Int32), M26)))
def b_Reader_readPane_7 (S : hm_S) (v0 : Nat) (v2 : Int32) (M : hm_M) : Option (Int32 × hm_M) :=
  (if v2 = 0 then hg (S v0 = some (.inr 5)) <| hg (M.2.2 v0 1 ≠ 0) <| hg (S (M.2.2 v0 1) = some (.inr 0)) <|
  hl (hm_wI M (M.2.2 v0 1) 4 ((M.1 (M.2.2 v0 1) 4) + (1 : Int32))) fun M5 => some (v2, M5) else some (v2, M))
def b_Reader_readPane_6 (S : hm_S) (v0 : Nat) (v1 : Int32) (v2 : Int32) (M : hm_M) : Option (Int32 × hm_M) :=
  (if v2 = 0 then hg (S v0 = some (.inr 5)) <| hg (M.2.2 v0 1 ≠ 0) <| hg (S (M.2.2 v0 1) = some (.inr 0)) <| hg (M.2.2 (M.2.2 v0 1) 11 ≠ 0) <|
  hg (hm_ib S (M.2.2 (M.2.2 v0 1) 11) .int v1 = true) <| hl (hm_wI M (M.2.2 (M.2.2 v0 1) 11) v1.toNatClampNeg (M.1 v0 3)) fun M8 =>
  hb (f_Reader_take S v0 (59 : Int32) M8) fun r12 M11 => b_Reader_readPane_7 S v0 r12 M11 else b_Reader_readPane_7 S v0 v2 M)
def b_Reader_readPane_5 (S : hm_S) (v0 : Nat) (v1 : Int32) (v2 : Int32) (M : hm_M) : Option (Int32 × hm_M) :=
  (if v2 = 0 then hg (S v0 = some (.inr 5)) <| hb (f_Reader_takeNumber S v0 (1 : Int32) (7 : Int32) M) fun r5 M4 => b_Reader_readPane_6 S v0 v1 r5 M4
  else b_Reader_readPane_6 S v0 v1 v2 M)
def b_Reader_readPane_4 (S : hm_S) (v0 : Nat) (v1 : Int32) (v2 : Int32) (M : hm_M) : Option (Int32 × hm_M) :=
  (if v2 = 0 then hg (S v0 = some (.inr 5)) <| hb (f_Reader_take S v0 (134 : Int32) M) fun r5 M4 => b_Reader_readPane_5 S v0 v1 r5 M4
  else b_Reader_readPane_5 S v0 v1 v2 M)
def b_Reader_readPane_3 (S : hm_S) (v0 : Nat) (v1 : Int32) (v2 : Int32) (M : hm_M) : Option (Int32 × hm_M) :=
  (if v2 = 0 then hg (S v0 = some (.inr 5)) <| hb (f_Reader_takeGiver S v0 v1 M) fun r5 M4 => b_Reader_readPane_4 S v0 v1 r5 M4
  else b_Reader_readPane_4 S v0 v1 v2 M)
def b_Reader_readPane_2 (S : hm_S) (v0 : Nat) (v1 : Int32) (v2 : Int32) (M : hm_M) : Option (Int32 × hm_M) :=
  (if v2 = 0 then hg (S v0 = some (.inr 5)) <| hg (M.2.2 v0 1 ≠ 0) <| hg (S (M.2.2 v0 1) = some (.inr 0)) <| hg (M.2.2 (M.2.2 v0 1) 9 ≠ 0) <|
  hg (hm_ib S (M.2.2 (M.2.2 v0 1) 9) .int v1 = true) <| hl (hm_wI M (M.2.2 (M.2.2 v0 1) 9) v1.toNatClampNeg (M.1 v0 3)) fun M8 =>
  hb (f_Reader_take S v0 (133 : Int32) M8) fun r12 M11 => b_Reader_readPane_3 S v0 v1 r12 M11 else b_Reader_readPane_3 S v0 v1 v2 M)
def b_Reader_readPane_1 (S : hm_S) (v0 : Nat) (v1 : Int32) (s0 : Int32) (M : hm_M) : Option (Int32 × hm_M) :=
  b_Reader_readPane_2 S v0 v1 s0 M
def f_Reader_readPane (S : hm_S) (v0 : Nat) (M : hm_M) : Option (Int32 × hm_M) :=
  hg (S v0 = some (.inr 5)) <| hg (M.2.2 v0 1 ≠ 0) <| hg (S (M.2.2 v0 1) = some (.inr 0)) <| hl ((M.1 (M.2.2 v0 1) 4) : Int32) fun x4 =>
  (if x4 < (12 : Int32) then hg (M.2.2 v0 0 ≠ 0) <| hg (S (M.2.2 v0 0) = some (.inr 7)) <| hv (f_Tape_next S (M.2.2 v0 0) M) fun M10 =>
  hb (f_Reader_takeNumber S v0 (0 : Int32) (7 : Int32) M10) fun r13 M12 => (if r13 = 0 then hg (M12.2.2 v0 1 ≠ 0) <|
  hg (S (M12.2.2 v0 1) = some (.inr 0)) <| hg (M12.2.2 (M12.2.2 v0 1) 8 ≠ 0) <| hg (hm_ib S (M12.2.2 (M12.2.2 v0 1) 8) .int x4 = true) <|
  hl (hm_wI M12 (M12.2.2 (M12.2.2 v0 1) 8) x4.toNatClampNeg (M12.1 v0 3)) fun M20 => hb (f_Reader_isRowOfPane S v0 (M20.1 v0 3) M20) fun r24 M23 =>
  (if r24 = 0 then hb (f_Reader_takeNumber S v0 (0 : Int32) (3 : Int32) M23) fun r28 M27 => b_Reader_readPane_1 S v0 x4 r28 M27
  else b_Reader_readPane_1 S v0 x4 (3 : Int32) M23) else b_Reader_readPane_2 S v0 x4 r13 M12) else some ((5 : Int32), M))
def f_Laws_open (S : hm_S) (v0 : Nat) (v1 : Int32) (M : hm_M) : Option hm_M :=
  hb (f_Laws_isLaw S v1 M) fun r3 M2 => (if r3 = 0 then some M2 else hg (S v0 = some (.inr 3)) <| hg (M2.2.2 v0 2 ≠ 0) <|
  hg (hm_ib S (M2.2.2 v0 2) .int (v1 - (135 : Int32)) = true) <| hl (hm_wI M2 (M2.2.2 v0 2) (v1 - (135 : Int32)).toNatClampNeg (M2.1 v0 1)) fun M9 =>
  some M9)
def f_Laws_add (S : hm_S) (v0 : Nat) (v1 : Int32) (M : hm_M) : Option hm_M :=
  hg (S v0 = some (.inr 3)) <| (if (1000 : Int32) ≤ (M.1 v0 1) then some M else hg (M.2.2 v0 0 ≠ 0) <|
  hg (hm_ib S (M.2.2 v0 0) .int (M.1 v0 1) = true) <| hl (hm_wI M (M.2.2 v0 0) (M.1 v0 1).toNatClampNeg v1) fun M6 =>
  hl (hm_wI M6 v0 1 ((M6.1 v0 1) + (1 : Int32))) fun M8 => some M8)
def b_Reader_readProduct_1 (S : hm_S) (rP : Nat → Int32 → hm_M → Option (Int32 × hm_M)) (k8 : Nat → Int32 → Int32 → Int32 → hm_M → Option (Int32 × hm_M)) (v0 : Nat) (v1 : Int32) (v2 : Int32) (v3 : Int32) (M : hm_M) : Option (Int32 × hm_M) :=
  (if (1000 : Int32) ≤ v3 then some (v2, M) else (if v2 = 0 then hg (S v0 = some (.inr 5)) <| hg (M.2.2 v0 0 ≠ 0) <|
  hg (S (M.2.2 v0 0) = some (.inr 7)) <| (if (M.1 (M.2.2 v0 0) 4) = (42 : Int32) then hv (f_Tape_next S (M.2.2 v0 0) M) fun M8 =>
  hb (rP v0 v1 M8) fun r11 M10 => hg (M10.2.2 v0 1 ≠ 0) <| hg (S (M10.2.2 v0 1) = some (.inr 0)) <| hg (M10.2.2 (M10.2.2 v0 1) 12 ≠ 0) <|
  hg (S (M10.2.2 (M10.2.2 v0 1) 12) = some (.inr 3)) <| hv (f_Laws_add S (M10.2.2 (M10.2.2 v0 1) 12) (-42 : Int32) M10) fun M17 =>
  k8 v0 v1 r11 (v3 + (1 : Int32)) M17 else some (v2, M)) else some (v2, M)))
def f_Reader_readProduct_1 (S : hm_S) (rP : Nat → Int32 → hm_M → Option (Int32 × hm_M)) (n : Nat) : Nat → Int32 → Int32 → Int32 → hm_M → Option (Int32 × hm_M) := hm_it (b_Reader_readProduct_1 S rP ) (fun _ _ _ _ _ => none) n
def f_Reader_readProduct (S : hm_S) (rP : Nat → Int32 → hm_M → Option (Int32 × hm_M)) (v0 : Nat) (v1 : Int32) (M : hm_M) : Option (Int32 × hm_M) :=
  hg (S v0 = some (.inr 5)) <| hb (rP v0 v1 M) fun r4 M3 => f_Reader_readProduct_1 S rP hN v0 v1 r4 (0 : Int32) M3
def b_Reader_readSum_2 (S : hm_S) (rP : Nat → Int32 → hm_M → Option (Int32 × hm_M)) (k8 : Nat → Int32 → Int32 → Int32 → hm_M → Option (Int32 × hm_M)) (v0 : Nat) (v1 : Int32) (v3 : Int32) (M : hm_M) : Option (Int32 × hm_M) :=
  hg (S v0 = some (.inr 5)) <| hg (M.2.2 v0 0 ≠ 0) <| hg (S (M.2.2 v0 0) = some (.inr 7)) <| hl ((M.1 (M.2.2 v0 0) 4) : Int32) fun x4 =>
  hv (f_Tape_next S (M.2.2 v0 0) M) fun M7 => hb (f_Reader_readProduct S rP v0 v1 M7) fun r10 M9 => hg (M9.2.2 v0 1 ≠ 0) <|
  hg (S (M9.2.2 v0 1) = some (.inr 0)) <| hg (M9.2.2 (M9.2.2 v0 1) 12 ≠ 0) <| hg (S (M9.2.2 (M9.2.2 v0 1) 12) = some (.inr 3)) <|
  hv (f_Laws_add S (M9.2.2 (M9.2.2 v0 1) 12) (-x4) M9) fun M16 => k8 v0 v1 r10 (v3 + (1 : Int32)) M16
def b_Reader_readSum_1 (S : hm_S) (rP : Nat → Int32 → hm_M → Option (Int32 × hm_M)) (k8 : Nat → Int32 → Int32 → Int32 → hm_M → Option (Int32 × hm_M)) (v0 : Nat) (v1 : Int32) (v2 : Int32) (v3 : Int32) (M : hm_M) : Option (Int32 × hm_M) :=
  (if (1000 : Int32) ≤ v3 then some (v2, M) else (if v2 = 0 then hg (S v0 = some (.inr 5)) <| hg (M.2.2 v0 0 ≠ 0) <|
  hg (S (M.2.2 v0 0) = some (.inr 7)) <| (if (M.1 (M.2.2 v0 0) 4) = (43 : Int32) then b_Reader_readSum_2 S rP k8 v0 v1 v3 M
  else (if (M.1 (M.2.2 v0 0) 4) = (45 : Int32) then b_Reader_readSum_2 S rP k8 v0 v1 v3 M else some (v2, M))) else some (v2, M)))
def f_Reader_readSum_1 (S : hm_S) (rP : Nat → Int32 → hm_M → Option (Int32 × hm_M)) (n : Nat) : Nat → Int32 → Int32 → Int32 → hm_M → Option (Int32 × hm_M) := hm_it (b_Reader_readSum_1 S rP ) (fun _ _ _ _ _ => none) n
def f_Reader_readSum (S : hm_S) (rP : Nat → Int32 → hm_M → Option (Int32 × hm_M)) (v0 : Nat) (v1 : Int32) (M : hm_M) : Option (Int32 × hm_M) :=
  hg (S v0 = some (.inr 5)) <| hb (f_Reader_readProduct S rP v0 v1 M) fun r4 M3 => f_Reader_readSum_1 S rP hN v0 v1 r4 (0 : Int32) M3
def b_Reader_readTest_1 (S : hm_S) (rP : Nat → Int32 → hm_M → Option (Int32 × hm_M)) (v0 : Nat) (v1 : Int32) (M : hm_M) : Option (Int32 × hm_M) :=
  hg (S v0 = some (.inr 5)) <| hg (M.2.2 v0 0 ≠ 0) <| hg (S (M.2.2 v0 0) = some (.inr 7)) <| hl ((M.1 (M.2.2 v0 0) 4) : Int32) fun x4 =>
  hv (f_Tape_next S (M.2.2 v0 0) M) fun M7 => hb (f_Reader_readSum S rP v0 v1 M7) fun r10 M9 => hg (M9.2.2 v0 1 ≠ 0) <|
  hg (S (M9.2.2 v0 1) = some (.inr 0)) <| hg (M9.2.2 (M9.2.2 v0 1) 12 ≠ 0) <| hg (S (M9.2.2 (M9.2.2 v0 1) 12) = some (.inr 3)) <|
  hv (f_Laws_add S (M9.2.2 (M9.2.2 v0 1) 12) (-x4) M9) fun M16 => some (r10, M16)
def f_Reader_readTest (S : hm_S) (rP : Nat → Int32 → hm_M → Option (Int32 × hm_M)) (v0 : Nat) (v1 : Int32) (M : hm_M) : Option (Int32 × hm_M) :=
  hg (S v0 = some (.inr 5)) <| hb (f_Reader_readSum S rP v0 v1 M) fun r4 M3 => (if r4 = 0 then hg (M3.2.2 v0 0 ≠ 0) <|
  hg (S (M3.2.2 v0 0) = some (.inr 7)) <| (if (M3.1 (M3.2.2 v0 0) 4) = (60 : Int32) then b_Reader_readTest_1 S rP v0 v1 M3
  else (if (M3.1 (M3.2.2 v0 0) 4) = (61 : Int32) then b_Reader_readTest_1 S rP v0 v1 M3 else some (r4, M3))) else some (r4, M3))
def b_Reader_readE_2 (S : hm_S) (rP : Nat → Int32 → hm_M → Option (Int32 × hm_M)) (k8 : Nat → Int32 → Int32 → Int32 → hm_M → Option (Int32 × hm_M)) (v0 : Nat) (v1 : Int32) (v3 : Int32) (M : hm_M) : Option (Int32 × hm_M) :=
  hg (S v0 = some (.inr 5)) <| hg (M.2.2 v0 0 ≠ 0) <| hg (S (M.2.2 v0 0) = some (.inr 7)) <| hl ((M.1 (M.2.2 v0 0) 4) : Int32) fun x4 =>
  hv (f_Tape_next S (M.2.2 v0 0) M) fun M7 => hb (f_Reader_readTest S rP v0 v1 M7) fun r10 M9 => hg (M9.2.2 v0 1 ≠ 0) <|
  hg (S (M9.2.2 v0 1) = some (.inr 0)) <| hg (M9.2.2 (M9.2.2 v0 1) 12 ≠ 0) <| hg (S (M9.2.2 (M9.2.2 v0 1) 12) = some (.inr 3)) <|
  hv (f_Laws_add S (M9.2.2 (M9.2.2 v0 1) 12) (-x4) M9) fun M16 => k8 v0 v1 r10 (v3 + (1 : Int32)) M16
def b_Reader_readE_1 (S : hm_S) (rP : Nat → Int32 → hm_M → Option (Int32 × hm_M)) (k8 : Nat → Int32 → Int32 → Int32 → hm_M → Option (Int32 × hm_M)) (v0 : Nat) (v1 : Int32) (v2 : Int32) (v3 : Int32) (M : hm_M) : Option (Int32 × hm_M) :=
  (if (1000 : Int32) ≤ v3 then some (v2, M) else (if v2 = 0 then hg (S v0 = some (.inr 5)) <| hg (M.2.2 v0 0 ≠ 0) <|
  hg (S (M.2.2 v0 0) = some (.inr 7)) <| (if (M.1 (M.2.2 v0 0) 4) = (141 : Int32) then b_Reader_readE_2 S rP k8 v0 v1 v3 M
  else (if (M.1 (M.2.2 v0 0) 4) = (142 : Int32) then b_Reader_readE_2 S rP k8 v0 v1 v3 M else some (v2, M))) else some (v2, M)))
def f_Reader_readE_1 (S : hm_S) (rP : Nat → Int32 → hm_M → Option (Int32 × hm_M)) (n : Nat) : Nat → Int32 → Int32 → Int32 → hm_M → Option (Int32 × hm_M) := hm_it (b_Reader_readE_1 S rP ) (fun _ _ _ _ _ => none) n
def f_Reader_readE (S : hm_S) (rP : Nat → Int32 → hm_M → Option (Int32 × hm_M)) (v0 : Nat) (v1 : Int32) (M : hm_M) : Option (Int32 × hm_M) :=
  hg (S v0 = some (.inr 5)) <| hb (f_Reader_readTest S rP v0 v1 M) fun r4 M3 => f_Reader_readE_1 S rP hN v0 v1 r4 (0 : Int32) M3
def f_Laws_close (S : hm_S) (v0 : Nat) (v1 : Int32) (M : hm_M) : Option hm_M :=
  hb (f_Laws_isLaw S v1 M) fun r3 M2 => (if r3 = 0 then some M2 else hg (S v0 = some (.inr 3)) <| hg (M2.2.2 v0 3 ≠ 0) <|
  hg (hm_ib S (M2.2.2 v0 3) .int (v1 - (135 : Int32)) = true) <| hl (hm_wI M2 (M2.2.2 v0 3) (v1 - (135 : Int32)).toNatClampNeg (M2.1 v0 1)) fun M9 =>
  some M9)
def f_Tape_isFact (S : hm_S) (v0 : Nat) (M : hm_M) : Option (Int32 × hm_M) :=
  hg (S v0 = some (.inr 7)) <| (if (M.1 v0 4) < (143 : Int32) then some ((0 : Int32), M) else (if (149 : Int32) < (M.1 v0 4) then
  some ((0 : Int32), M) else some ((1 : Int32), M)))
def b_Reader_isFactOf_1 (S : hm_S) (v0 : Int32) (M : hm_M) : Option (Int32 × hm_M) :=
  (if v0 = (135 : Int32) then some ((1 : Int32), M) else (if v0 = (136 : Int32) then some ((1 : Int32), M) else some ((0 : Int32), M)))
def f_Reader_isFactOf (S : hm_S) (v0 : Int32) (v1 : Int32) (M : hm_M) : Option (Int32 × hm_M) :=
  (if v1 = (143 : Int32) then some ((1 : Int32), M) else (if v1 = (144 : Int32) then some ((1 : Int32), M) else (if v1 = (145 : Int32) then
  b_Reader_isFactOf_1 S v0 M else (if v1 = (146 : Int32) then b_Reader_isFactOf_1 S v0 M else (if v0 = (138 : Int32) then some ((1 : Int32), M)
  else some ((0 : Int32), M))))))
def f_Reader_startsPart (S : hm_S) (v0 : Nat) (M : hm_M) : Option (Int32 × hm_M) :=
  hg (S v0 = some (.inr 5)) <| hg (M.2.2 v0 0 ≠ 0) <| hg (S (M.2.2 v0 0) = some (.inr 7)) <| (if (M.1 (M.2.2 v0 0) 4) = (2 : Int32) then
  some ((1 : Int32), M) else (if (M.1 (M.2.2 v0 0) 4) = (140 : Int32) then some ((1 : Int32), M) else (if (M.1 (M.2.2 v0 0) 4) = (40 : Int32) then
  some ((1 : Int32), M) else hb (f_Tape_isFact S (M.2.2 v0 0) M) fun r9 M8 => (if r9 = 0 then some ((0 : Int32), M8) else hg (M8.2.2 v0 0 ≠ 0) <|
  hg (S (M8.2.2 v0 0) = some (.inr 7)) <| hb (f_Reader_isFactOf S (M8.1 v0 4) (M8.1 (M8.2.2 v0 0) 4) M8) fun r15 M14 => (if r15 = 0 then
  some ((0 : Int32), M14) else some ((1 : Int32), M14))))))
def b_Reader_readPart_3 (S : hm_S) (rP : Nat → Int32 → hm_M → Option (Int32 × hm_M)) (v4 : Int32) (s0 : Int32) (s1 : Nat) (M : hm_M) : Option (Int32 × hm_M) :=
  hg (S s1 = some (.inr 3)) <| hv (f_Laws_add S s1 s0 M) fun M3 => some (v4, M3)
def b_Reader_readPart_2 (S : hm_S) (rP : Nat → Int32 → hm_M → Option (Int32 × hm_M)) (v0 : Nat) (v2 : Int32) (v3 : Int32) (s0 : Int32) (M : hm_M) : Option (Int32 × hm_M) :=
  hg (S v0 = some (.inr 5)) <| hg (M.2.2 v0 1 ≠ 0) <| hg (S (M.2.2 v0 1) = some (.inr 0)) <| hg (M.2.2 (M.2.2 v0 1) 12 ≠ 0) <|
  (if v2 = (2 : Int32) then b_Reader_readPart_3 S rP s0 v3 (M.2.2 (M.2.2 v0 1) 12) M else b_Reader_readPart_3 S rP s0 (-v2) (M.2.2 (M.2.2 v0 1) 12) M)
def b_Reader_readPart_1 (S : hm_S) (rP : Nat → Int32 → hm_M → Option (Int32 × hm_M)) (v4 : Int32) (M : hm_M) : Option (Int32 × hm_M) :=
  (if v4 = 0 then some ((1 : Int32), M) else some (v4, M))
def e_Reader_readPart (S : hm_S) (rP : Nat → Int32 → hm_M → Option (Int32 × hm_M)) (v0 : Nat) (v1 : Int32) (M : hm_M) : Option (Int32 × hm_M) :=
  hg (S v0 = some (.inr 5)) <| hb (f_Reader_startsPart S v0 M) fun r4 M3 => (if r4 = 0 then some ((1 : Int32), M3) else (if v1 < (5 : Int32) then
  hg (M3.2.2 v0 0 ≠ 0) <| hg (S (M3.2.2 v0 0) = some (.inr 7)) <| hl ((M3.1 (M3.2.2 v0 0) 4) : Int32) fun x9 =>
  hl ((M3.1 (M3.2.2 v0 0) 5) : Int32) fun x11 => hv (f_Tape_next S (M3.2.2 v0 0) M3) fun M14 => (if x9 = (40 : Int32) then
  hb (f_Reader_readE S rP v0 (v1 + (1 : Int32)) M14) fun r22 M21 => (if r22 = 0 then hg (M21.2.2 v0 0 ≠ 0) <| hg (S (M21.2.2 v0 0) = some (.inr 7)) <|
  (if (M21.1 (M21.2.2 v0 0) 4) = (41 : Int32) then hv (f_Tape_next S (M21.2.2 v0 0) M21) fun M28 => some ((0 : Int32), M28)
  else b_Reader_readPart_1 S rP r22 M21) else b_Reader_readPart_1 S rP r22 M21) else (if x9 = (140 : Int32) then
  hb (rP v0 (v1 + (1 : Int32)) M14) fun r19 M18 => b_Reader_readPart_2 S rP v0 x9 x11 r19 M18
  else b_Reader_readPart_2 S rP v0 x9 x11 (0 : Int32) M14)) else some ((5 : Int32), M3)))
def f_Reader_readPart (S : hm_S) (n : Nat) : Nat → Int32 → hm_M → Option (Int32 × hm_M) := hm_it (e_Reader_readPart S) (fun _ _ _ => none) n
def b_Reader_readLaw_1 (S : hm_S) (v0 : Nat) (v1 : Int32) (M : hm_M) : Option (Int32 × hm_M) :=
  (if v1 = 0 then hg (S v0 = some (.inr 5)) <| hg (M.2.2 v0 1 ≠ 0) <| hg (S (M.2.2 v0 1) = some (.inr 0)) <| hg (M.2.2 (M.2.2 v0 1) 12 ≠ 0) <|
  hg (S (M.2.2 (M.2.2 v0 1) 12) = some (.inr 3)) <| hv (f_Laws_close S (M.2.2 (M.2.2 v0 1) 12) (M.1 v0 4) M) fun M8 =>
  hb (f_Reader_take S v0 (59 : Int32) M8) fun r11 M10 => some (r11, M10) else some (v1, M))
def f_Reader_readLaw (S : hm_S) (v0 : Nat) (M : hm_M) : Option (Int32 × hm_M) :=
  hg (S v0 = some (.inr 5)) <| hg (M.2.2 v0 0 ≠ 0) <| hg (S (M.2.2 v0 0) = some (.inr 7)) <| hl (hm_wI M v0 4 (M.1 (M.2.2 v0 0) 4)) fun M4 =>
  hb (f_Reader_takeOnce S v0 M4) fun r8 M7 => (if r8 = 0 then hg (M7.2.2 v0 1 ≠ 0) <| hg (S (M7.2.2 v0 1) = some (.inr 0)) <|
  hg (M7.2.2 (M7.2.2 v0 1) 12 ≠ 0) <| hg (S (M7.2.2 (M7.2.2 v0 1) 12) = some (.inr 3)) <|
  hv (f_Laws_open S (M7.2.2 (M7.2.2 v0 1) 12) (M7.1 v0 4) M7) fun M15 =>
  hb (f_Reader_readE S (f_Reader_readPart S hD) v0 (0 : Int32) M15) fun r18 M17 => b_Reader_readLaw_1 S v0 r18 M17 else b_Reader_readLaw_1 S v0 r8 M7)
def b_Reader_readCloud_1 (S : hm_S) (v0 : Nat) (v1 : Int32) (M : hm_M) : Option (Int32 × hm_M) :=
  (if v1 = 0 then hg (S v0 = some (.inr 5)) <| hg (M.2.2 v0 1 ≠ 0) <| hg (S (M.2.2 v0 1) = some (.inr 0)) <|
  hl (hm_wI M (M.2.2 v0 1) 2 (M.1 v0 3)) fun M5 => hb (f_Reader_take S v0 (59 : Int32) M5) fun r9 M8 => some (r9, M8) else some (v1, M))
def f_Reader_readCloud (S : hm_S) (v0 : Nat) (M : hm_M) : Option (Int32 × hm_M) :=
  hg (S v0 = some (.inr 5)) <| hb (f_Reader_takeOnce S v0 M) fun r4 M3 => (if r4 = 0 then
  hb (f_Reader_takeNumber S v0 (0 : Int32) (8 : Int32) M3) fun r8 M7 => b_Reader_readCloud_1 S v0 r8 M7 else b_Reader_readCloud_1 S v0 r4 M3)
def b_Reader_readLine_1 (S : hm_S) (v0 : Nat) (M : hm_M) : Option (Int32 × hm_M) :=
  hg (S v0 = some (.inr 5)) <| hb (f_Reader_readLaw S v0 M) fun r4 M3 => some (r4, M3)
def f_Reader_readLine (S : hm_S) (v0 : Nat) (M : hm_M) : Option (Int32 × hm_M) :=
  hg (S v0 = some (.inr 5)) <| hg (M.2.2 v0 0 ≠ 0) <| hg (S (M.2.2 v0 0) = some (.inr 7)) <| hl ((M.1 (M.2.2 v0 0) 4) : Int32) fun x4 =>
  (if x4 = (128 : Int32) then hb (f_Reader_readFloor S v0 M) fun r9 M8 => some (r9, M8) else if x4 = (129 : Int32) then
  hb (f_Reader_readGuild S v0 M) fun r13 M12 => some (r13, M12) else if x4 = (132 : Int32) then hb (f_Reader_readPane S v0 M) fun r17 M16 =>
  some (r17, M16) else if x4 = (135 : Int32) then b_Reader_readLine_1 S v0 M else if x4 = (136 : Int32) then b_Reader_readLine_1 S v0 M
  else if x4 = (137 : Int32) then b_Reader_readLine_1 S v0 M else if x4 = (138 : Int32) then b_Reader_readLine_1 S v0 M
  else if x4 = (139 : Int32) then hb (f_Reader_readCloud S v0 M) fun r25 M24 => some (r25, M24) else some ((1 : Int32), M))
def b_Reader_readAll_2 (S : hm_S) (v0 : Nat) (v1 : Int32) (M : hm_M) : Option (Int32 × hm_M) :=
  hg (S v0 = some (.inr 5)) <| hg (M.2.2 v0 0 ≠ 0) <| hg (S (M.2.2 v0 0) = some (.inr 7)) <| hl (hm_wI M (M.2.2 v0 0) 1 (0 : Int32)) fun M4 =>
  (if v1 = 0 then some ((0 : Int32), M4) else hg (M4.2.2 v0 0 ≠ 0) <| hg (S (M4.2.2 v0 0) = some (.inr 7)) <|
  some ((v1 + ((16 : Int32) * (M4.1 (M4.2.2 v0 0) 3))), M4))
def b_Reader_readAll_1 (S : hm_S) (k23 : Nat → Int32 → Int32 → hm_M → Option (Int32 × hm_M)) (v0 : Nat) (v1 : Int32) (v2 : Int32) (M : hm_M) : Option (Int32 × hm_M) :=
  (if (1000 : Int32) < v2 then b_Reader_readAll_2 S v0 v1 M else (if v1 = 0 then hg (S v0 = some (.inr 5)) <| hg (M.2.2 v0 0 ≠ 0) <|
  hg (S (M.2.2 v0 0) = some (.inr 7)) <| (if (M.1 (M.2.2 v0 0) 4) = (1 : Int32) then b_Reader_readAll_2 S v0 v1 M
  else hb (f_Reader_readLine S v0 M) fun r9 M8 => k23 v0 r9 (v2 + (1 : Int32)) M8) else b_Reader_readAll_2 S v0 v1 M))
def f_Reader_readAll_1 (S : hm_S) (n : Nat) : Nat → Int32 → Int32 → hm_M → Option (Int32 × hm_M) := hm_it (b_Reader_readAll_1 S ) (fun _ _ _ _ => none) n
def f_Reader_readAll (S : hm_S) (v0 : Nat) (M : hm_M) : Option (Int32 × hm_M) :=
  hg (S v0 = some (.inr 5)) <| hg (M.2.2 v0 1 ≠ 0) <| hg (S (M.2.2 v0 1) = some (.inr 0)) <| hv (f_Chapel_begin S (M.2.2 v0 1) M) fun M5 =>
  hl (hm_wI M5 v0 2 (0 : Int32)) fun M6 => hg (M6.2.2 v0 0 ≠ 0) <| hg (S (M6.2.2 v0 0) = some (.inr 7)) <|
  hv (f_Tape_rewind S (M6.2.2 v0 0) M6) fun M11 => f_Reader_readAll_1 S hN v0 (0 : Int32) (0 : Int32) M11
def f_Light_enter (S : hm_S) (v0 : Nat) (v1 : Nat) (M : hm_M) : Option (Nat × hm_M) :=
  hg (S v0 = some (.inr 4)) <| hg (M.2.2 v0 0 ≠ 0) <| hl ((M.2.2 v0 0) : Nat) fun x3 => hg (v1 ≠ 0) <| hl (hm_wR M v0 0 v1) fun M6 =>
  hl (hm_wI M6 v0 3 (-1 : Int32)) fun M8 => hg (M8.2.2 v0 2 ≠ 0) <| hv (f_J7_fill_d0a16 S (M8.2.2 v0 2) (0 : Int64) M8) fun M12 => some (x3, M12)
def b_Hold_begin_2 (S : hm_S) (k20 : Nat → Nat → Int32 → hm_M → Option hm_M) (v0 : Nat) (v1 : Nat) (v2 : Int32) (s0 : Int32) (s1 : Int32) (s2 : Nat) (M : hm_M) : Option hm_M :=
  hg (hm_ib S s2 .int s1 = true) <| hl (hm_wI M s2 s1.toNatClampNeg s0) fun M3 => k20 v0 v1 (v2 + (1 : Int32)) M3
def b_Hold_begin_1 (S : hm_S) (k20 : Nat → Nat → Int32 → hm_M → Option hm_M) (v0 : Nat) (v1 : Nat) (v2 : Int32) (M : hm_M) : Option hm_M :=
  (if (12 : Int32) ≤ v2 then some M else hg (S v0 = some (.inr 2)) <| hg (M.2.2 v0 0 ≠ 0) <| (if (M.1 v0 5) ≤ v2 then
  b_Hold_begin_2 S k20 v0 v1 v2 (-1 : Int32) v2 (M.2.2 v0 0) M else hg (S v1 = some (.inr 0)) <| hg (M.2.2 v1 10 ≠ 0) <|
  hg (hm_ib S (M.2.2 v1 10) .int v2 = true) <| b_Hold_begin_2 S k20 v0 v1 v2 (M.1 (M.2.2 v1 10) v2.toNatClampNeg) v2 (M.2.2 v0 0) M))
def f_Hold_begin_1 (S : hm_S) (n : Nat) : Nat → Nat → Int32 → hm_M → Option hm_M := hm_it (b_Hold_begin_1 S ) (fun _ _ _ _ => none) n
def f_Hold_begin (S : hm_S) (v0 : Nat) (v1 : Nat) (M : hm_M) : Option hm_M :=
  hg (S v1 = some (.inr 0)) <| hg (S v0 = some (.inr 2)) <| hl (hm_wI M v0 5 (M.1 v1 4)) fun M3 => hl (hm_wI M3 v0 1 (0 : Int32)) fun M5 =>
  hl (hm_wI M5 v0 2 (0 : Int32)) fun M7 => f_Hold_begin_1 S hN v0 v1 (0 : Int32) M7
def f_History_forget (S : hm_S) (v0 : Nat) (M : hm_M) : Option hm_M :=
  hg (S v0 = some (.inr 1)) <| hl (hm_wI M v0 2 (0 : Int32)) fun M2 => hl (hm_wI M2 v0 3 (0 : Int32)) fun M4 => some M4
def f_Rents_forget (S : hm_S) (v0 : Nat) (M : hm_M) : Option hm_M :=
  hg (S v0 = some (.inr 6)) <| hl (hm_wI M v0 2 (0 : Int32)) fun M2 => hl (hm_wI M2 v0 3 (0 : Int32)) fun M4 => some M4
def f_Ps_chapel (S : hm_S) (v0 : Nat) (M : hm_M) : Option (Int32 × hm_M) :=
  hg (S v0 = some (.inr 11)) <| hg (M.2.2 v0 0 ≠ 0) <| hg (S (M.2.2 v0 0) = some (.inr 5)) <| hb (f_Reader_readAll S (M.2.2 v0 0) M) fun r6 M5 =>
  (if r6 = 0 then hg (M5.2.2 v0 0 ≠ 0) <| hg (M5.2.2 v0 1 ≠ 0) <| hg (S (M5.2.2 v0 0) = some (.inr 5)) <| hg (M5.2.2 (M5.2.2 v0 0) 1 ≠ 0) <|
  hg (S (M5.2.2 v0 1) = some (.inr 4)) <| hb (f_Light_enter S (M5.2.2 v0 1) (M5.2.2 (M5.2.2 v0 0) 1) M5) fun r15 M14 => hg (r15 ≠ 0) <|
  hl (hm_wR M14 (M5.2.2 v0 0) 1 r15) fun M17 => hg (M17.2.2 v0 2 ≠ 0) <| hg (M17.2.2 v0 1 ≠ 0) <| hg (S (M17.2.2 v0 1) = some (.inr 4)) <|
  hg (M17.2.2 (M17.2.2 v0 1) 0 ≠ 0) <| hg (S (M17.2.2 v0 2) = some (.inr 2)) <|
  hv (f_Hold_begin S (M17.2.2 v0 2) (M17.2.2 (M17.2.2 v0 1) 0) M17) fun M25 => hg (M25.2.2 v0 3 ≠ 0) <| hg (S (M25.2.2 v0 3) = some (.inr 1)) <|
  hv (f_History_forget S (M25.2.2 v0 3) M25) fun M29 => hg (M29.2.2 v0 4 ≠ 0) <| hg (S (M29.2.2 v0 4) = some (.inr 6)) <|
  hv (f_Rents_forget S (M29.2.2 v0 4) M29) fun M33 => hl (hm_wI M33 v0 9 (0 : Int32)) fun M34 => some (r6, M34) else some (r6, M5))
def f_Ps_clear (S : hm_S) (v0 : Nat) (M : hm_M) : Option (Int32 × hm_M) :=
  hg (S v0 = some (.inr 11)) <| hg (M.2.2 v0 2 ≠ 0) <| hg (S (M.2.2 v0 2) = some (.inr 2)) <| hl (hm_wI M (M.2.2 v0 2) 2 (0 : Int32)) fun M4 =>
  some ((1 : Int32), M4)
def f_Ps_isGuild (S : hm_S) (v0 : Nat) (v1 : Int32) (M : hm_M) : Option (Int32 × hm_M) :=
  (if v1 < 0 then some ((0 : Int32), M) else hg (S v0 = some (.inr 11)) <| hg (M.2.2 v0 1 ≠ 0) <| hg (S (M.2.2 v0 1) = some (.inr 4)) <|
  hg (M.2.2 (M.2.2 v0 1) 0 ≠ 0) <| hg (S (M.2.2 (M.2.2 v0 1) 0) = some (.inr 0)) <| (if (M.1 (M.2.2 (M.2.2 v0 1) 0) 3) ≤ v1 then some ((0 : Int32), M)
  else some ((1 : Int32), M)))
def f_Rents_cloudedYear (S : hm_S) (v0 : Nat) (v1 : Nat) (v2 : Int32) (v3 : Int32) (M : hm_M) : Option (Int32 × hm_M) :=
  hg (S v1 = some (.inr 4)) <| hg (M.2.2 v1 0 ≠ 0) <| hg (S (M.2.2 v1 0) = some (.inr 0)) <| hg (S v0 = some (.inr 6)) <|
  hv (f_Rents_measure S v0 v1 v2 v3 (M.1 (M.2.2 v1 0) 2) (16 : Int32) M) fun M6 => some ((16 : Int32), M6)
def b_Hold_panesOf_1 (S : hm_S) (k4 : Nat → Int32 → Int32 → Int32 → hm_M → Option (Int32 × hm_M)) (v0 : Nat) (v1 : Int32) (v2 : Int32) (v3 : Int32) (M : hm_M) : Option (Int32 × hm_M) :=
  (if (12 : Int32) ≤ v3 then some (v2, M) else hg (S v0 = some (.inr 2)) <| hg (M.2.2 v0 0 ≠ 0) <| hg (hm_ib S (M.2.2 v0 0) .int v3 = true) <|
  (if (M.1 (M.2.2 v0 0) v3.toNatClampNeg) = v1 then hl ((v2 ||| ((1 : Int32) <<< (v3 &&& 31))) : Int32) fun x7 => k4 v0 v1 x7 (v3 + (1 : Int32)) M
  else k4 v0 v1 v2 (v3 + (1 : Int32)) M))
def f_Hold_panesOf_1 (S : hm_S) (n : Nat) : Nat → Int32 → Int32 → Int32 → hm_M → Option (Int32 × hm_M) := hm_it (b_Hold_panesOf_1 S ) (fun _ _ _ _ _ => none) n
def f_Hold_panesOf (S : hm_S) (v0 : Nat) (v1 : Int32) (M : hm_M) : Option (Int32 × hm_M) :=
  f_Hold_panesOf_1 S hN v0 v1 (0 : Int32) (0 : Int32) M
def b_Rents_givenBy_1 (S : hm_S) (k5 : Nat → Int32 → Int32 → Int32 → Int32 → hm_M → Option (Int32 × hm_M)) (v0 : Nat) (v1 : Int32) (v2 : Int32) (v3 : Int32) (v4 : Int32) (M : hm_M) : Option (Int32 × hm_M) :=
  (if (12 : Int32) ≤ v4 then some (v3, M) else (if ((v2 >>> (v4 &&& 31)) &&& (1 : Int32)) = (1 : Int32) then hg (S v0 = some (.inr 6)) <|
  hb (f_Rents_given S v0 v1 v4 M) fun r6 M5 => hl ((v3 + r6) : Int32) fun x7 => k5 v0 v1 v2 x7 (v4 + (1 : Int32)) M5
  else k5 v0 v1 v2 v3 (v4 + (1 : Int32)) M))
def f_Rents_givenBy_1 (S : hm_S) (n : Nat) : Nat → Int32 → Int32 → Int32 → Int32 → hm_M → Option (Int32 × hm_M) := hm_it (b_Rents_givenBy_1 S ) (fun _ _ _ _ _ _ => none) n
def f_Rents_givenBy (S : hm_S) (v0 : Nat) (v1 : Int32) (v2 : Int32) (M : hm_M) : Option (Int32 × hm_M) :=
  f_Rents_givenBy_1 S hN v0 v1 v2 (0 : Int32) (0 : Int32) M
def b_Ps_clouded_3 (S : hm_S) (k83 : Nat → Int32 → Int32 → Int32 → hm_M → Option (Int32 × hm_M)) (v0 : Nat) (v3 : Int32) (v4 : Int32) (v5 : Int32) (M : hm_M) : Option (Int32 × hm_M) :=
  hg (S v0 = some (.inr 11)) <| hg (M.2.2 v0 1 ≠ 0) <| hg (S (M.2.2 v0 1) = some (.inr 4)) <| hg (M.2.2 (M.2.2 v0 1) 0 ≠ 0) <|
  hg (S (M.2.2 (M.2.2 v0 1) 0) = some (.inr 0)) <| (if (M.1 (M.2.2 (M.2.2 v0 1) 0) 3) ≤ v5 then some (v4, M) else hg (M.2.2 v0 4 ≠ 0) <|
  hg (M.2.2 v0 2 ≠ 0) <| hg (S (M.2.2 v0 2) = some (.inr 2)) <| hb (f_Hold_panesOf S (M.2.2 v0 2) v5 M) fun r12 M11 =>
  hg (S (M.2.2 v0 4) = some (.inr 6)) <| hb (f_Rents_givenBy S (M.2.2 v0 4) v3 r12 M11) fun r16 M15 => hg (M15.2.2 v0 1 ≠ 0) <|
  hg (S (M15.2.2 v0 1) = some (.inr 4)) <| hg (M15.2.2 (M15.2.2 v0 1) 0 ≠ 0) <| hg (S (M15.2.2 (M15.2.2 v0 1) 0) = some (.inr 0)) <|
  hg (M15.2.2 (M15.2.2 (M15.2.2 v0 1) 0) 7 ≠ 0) <| hg (hm_ib S (M15.2.2 (M15.2.2 (M15.2.2 v0 1) 0) 7) .int v5 = true) <|
  (if (M15.1 (M15.2.2 (M15.2.2 (M15.2.2 v0 1) 0) 7) v5.toNatClampNeg) ≤ r16 then k83 v0 v3 v4 (v5 + (1 : Int32)) M15
  else k83 v0 v3 (v4 + (1 : Int32)) (v5 + (1 : Int32)) M15))
def f_Ps_clouded_3 (S : hm_S) (n : Nat) : Nat → Int32 → Int32 → Int32 → hm_M → Option (Int32 × hm_M) := hm_it (b_Ps_clouded_3 S ) (fun _ _ _ _ _ => none) n
def b_Ps_clouded_2 (S : hm_S) (v0 : Nat) (v1 : Int32) (v2 : Int32) (M : hm_M) : Option (Int32 × hm_M) :=
  hg (S v0 = some (.inr 11)) <| hg (M.2.2 v0 4 ≠ 0) <| hg (M.2.2 v0 1 ≠ 0) <| hg (M.2.2 v0 2 ≠ 0) <| hg (S (M.2.2 v0 2) = some (.inr 2)) <|
  hb (f_Hold_lit S (M.2.2 v0 2) M) fun r8 M7 => hg (S (M.2.2 v0 4) = some (.inr 6)) <|
  hb (f_Rents_cloudedYear S (M.2.2 v0 4) (M.2.2 v0 1) r8 v1 M7) fun r12 M11 => (if v2 = (-1 : Int32) then
  f_Ps_clouded_3 S hN v0 r12 (0 : Int32) (0 : Int32) M11 else hg (M11.2.2 v0 4 ≠ 0) <| hg (M11.2.2 v0 2 ≠ 0) <|
  hg (S (M11.2.2 v0 2) = some (.inr 2)) <| hb (f_Hold_panesOf S (M11.2.2 v0 2) v2 M11) fun r19 M18 => hg (S (M11.2.2 v0 4) = some (.inr 6)) <|
  hb (f_Rents_givenBy S (M11.2.2 v0 4) r12 r19 M18) fun r23 M22 => some (r23, M22))
def b_Ps_clouded_1 (S : hm_S)  (M : hm_M) : Option (Int32 × hm_M) :=
  none
def f_Ps_clouded (S : hm_S) (v0 : Nat) (v1 : Int32) (v2 : Int32) (M : hm_M) : Option (Int32 × hm_M) :=
  (if v1 < 0 then b_Ps_clouded_1 S M else (if (9999 : Int32) < v1 then b_Ps_clouded_1 S M else (if v2 = (-1 : Int32) then b_Ps_clouded_2 S v0 v1 v2 M
  else hg (S v0 = some (.inr 11)) <| hb (f_Ps_isGuild S v0 v2 M) fun r7 M6 => (if r7 = 0 then b_Ps_clouded_1 S M6
  else b_Ps_clouded_2 S v0 v1 v2 M6))))
def f_Ps_count (S : hm_S) (v0 : Nat) (v1 : Int32) (M : hm_M) : Option (Int32 × hm_M) :=
  (if v1 = (0 : Int32) then hg (S v0 = some (.inr 11)) <| hg (M.2.2 v0 1 ≠ 0) <| hg (S (M.2.2 v0 1) = some (.inr 4)) <|
  hg (M.2.2 (M.2.2 v0 1) 0 ≠ 0) <| hg (S (M.2.2 (M.2.2 v0 1) 0) = some (.inr 0)) <| some ((M.1 (M.2.2 (M.2.2 v0 1) 0) 0), M)
  else if v1 = (1 : Int32) then hg (S v0 = some (.inr 11)) <| hg (M.2.2 v0 1 ≠ 0) <| hg (S (M.2.2 v0 1) = some (.inr 4)) <|
  hg (M.2.2 (M.2.2 v0 1) 0 ≠ 0) <| hg (S (M.2.2 (M.2.2 v0 1) 0) = some (.inr 0)) <| some ((M.1 (M.2.2 (M.2.2 v0 1) 0) 1), M)
  else if v1 = (2 : Int32) then hg (S v0 = some (.inr 11)) <| hg (M.2.2 v0 1 ≠ 0) <| hg (S (M.2.2 v0 1) = some (.inr 4)) <|
  hg (M.2.2 (M.2.2 v0 1) 0 ≠ 0) <| hg (S (M.2.2 (M.2.2 v0 1) 0) = some (.inr 0)) <| some ((M.1 (M.2.2 (M.2.2 v0 1) 0) 3), M)
  else if v1 = (3 : Int32) then hg (S v0 = some (.inr 11)) <| hg (M.2.2 v0 1 ≠ 0) <| hg (S (M.2.2 v0 1) = some (.inr 4)) <|
  hg (M.2.2 (M.2.2 v0 1) 0 ≠ 0) <| hg (S (M.2.2 (M.2.2 v0 1) 0) = some (.inr 0)) <| some ((M.1 (M.2.2 (M.2.2 v0 1) 0) 4), M)
  else if v1 = (4 : Int32) then hg (S v0 = some (.inr 11)) <| hg (M.2.2 v0 2 ≠ 0) <| hg (S (M.2.2 v0 2) = some (.inr 2)) <|
  hb (f_J6_bitCount_0f7a4 S (M.1 (M.2.2 v0 2) 1) M) fun r31 M30 => some (r31, M30) else if v1 = (5 : Int32) then hg (S v0 = some (.inr 11)) <|
  hg (M.2.2 v0 3 ≠ 0) <| hg (S (M.2.2 v0 3) = some (.inr 1)) <| some ((M.1 (M.2.2 v0 3) 2), M) else if v1 = (6 : Int32) then
  hg (S v0 = some (.inr 11)) <| hg (M.2.2 v0 2 ≠ 0) <| hg (S (M.2.2 v0 2) = some (.inr 2)) <| some ((M.1 (M.2.2 v0 2) 2), M)
  else if v1 = (7 : Int32) then hg (S v0 = some (.inr 11)) <| hg (M.2.2 v0 1 ≠ 0) <| hg (S (M.2.2 v0 1) = some (.inr 4)) <|
  hg (M.2.2 (M.2.2 v0 1) 0 ≠ 0) <| hg (S (M.2.2 (M.2.2 v0 1) 0) = some (.inr 0)) <| some ((M.1 (M.2.2 (M.2.2 v0 1) 0) 2), M)
  else if v1 = (8 : Int32) then hg (S v0 = some (.inr 11)) <| hg (M.2.2 v0 0 ≠ 0) <| hg (S (M.2.2 v0 0) = some (.inr 5)) <|
  hg (M.2.2 (M.2.2 v0 0) 0 ≠ 0) <| hg (S (M.2.2 (M.2.2 v0 0) 0) = some (.inr 7)) <| some ((M.1 (M.2.2 (M.2.2 v0 0) 0) 1), M)
  else some ((-1 : Int32), M))
def f_Hold_swap (S : hm_S) (v0 : Nat) (v1 : Int32) (v2 : Int32) (M : hm_M) : Option hm_M :=
  hg (S v0 = some (.inr 2)) <| hg (M.2.2 v0 0 ≠ 0) <| hg (hm_ib S (M.2.2 v0 0) .int v1 = true) <|
  hl ((M.1 (M.2.2 v0 0) v1.toNatClampNeg) : Int32) fun x5 => hg (hm_ib S (M.2.2 v0 0) .int v2 = true) <|
  hl (hm_wI M (M.2.2 v0 0) v1.toNatClampNeg (M.1 (M.2.2 v0 0) v2.toNatClampNeg)) fun M9 => hg (M9.2.2 v0 0 ≠ 0) <|
  hg (hm_ib S (M9.2.2 v0 0) .int v2 = true) <| hl (hm_wI M9 (M9.2.2 v0 0) v2.toNatClampNeg x5) fun M14 => some M14
def f_Ps_exchange (S : hm_S) (v0 : Nat) (v1 : Int32) (v2 : Int32) (M : hm_M) : Option (Int32 × hm_M) :=
  hg (S v0 = some (.inr 11)) <| hb (f_Ps_canExchange S v0 v1 v2 M) fun r4 M3 => (if r4 = 0 then some ((0 : Int32), M3) else hg (M3.2.2 v0 2 ≠ 0) <|
  hg (S (M3.2.2 v0 2) = some (.inr 2)) <| hv (f_Hold_swap S (M3.2.2 v0 2) v1 v2 M3) fun M9 => hg (M9.2.2 v0 3 ≠ 0) <|
  hg (S (M9.2.2 v0 3) = some (.inr 1)) <| hv (f_History_note S (M9.2.2 v0 3) v1 v2 M9) fun M13 => some ((1 : Int32), M13))
def b_Rents_fall_3 (S : hm_S) (k16 : Nat → Nat → Nat → Int32 → Int32 → hm_M → Option hm_M) (v0 : Nat) (v1 : Nat) (v2 : Nat) (v3 : Int32) (v4 : Int32) (v6 : Int32) (M : hm_M) : Option hm_M :=
  hl ((v3 &&& (v6 ^^^ (-1 : Int32))) : Int32) fun x1 => k16 v0 v1 v2 x1 (v4 + (1 : Int32)) M
def b_Rents_fall_2 (S : hm_S) (k16 : Nat → Nat → Nat → Int32 → Int32 → hm_M → Option hm_M) (k37 : Nat → Nat → Nat → Int32 → Int32 → Int32 → Int32 → Int32 → hm_M → Option hm_M) (v0 : Nat) (v1 : Nat) (v2 : Nat) (v3 : Int32) (v4 : Int32) (v5 : Int32) (v6 : Int32) (v7 : Int32) (M : hm_M) : Option hm_M :=
  hg (S v1 = some (.inr 4)) <| hg (M.2.2 v1 0 ≠ 0) <| hg (S (M.2.2 v1 0) = some (.inr 0)) <| (if (M.1 (M.2.2 v1 0) 3) ≤ v7 then
  b_Rents_fall_3 S k16 v0 v1 v2 v3 v4 v6 M else (if (6 : Int32) ≤ v7 then b_Rents_fall_3 S k16 v0 v1 v2 v3 v4 v6 M else hg (S v2 = some (.inr 2)) <|
  hb (f_Hold_panesOf S v2 v7 M) fun r9 M8 => hl ((r9 &&& v3) : Int32) fun x10 => (if x10 = 0 then k37 v0 v1 v2 v3 v4 v5 v6 (v7 + (1 : Int32)) M8
  else hg (S v0 = some (.inr 6)) <| hb (f_Rents_givenBy S v0 v5 x10 M8) fun r16 M15 => hg (M15.2.2 v1 0 ≠ 0) <|
  hg (S (M15.2.2 v1 0) = some (.inr 0)) <| hg (M15.2.2 (M15.2.2 v1 0) 7 ≠ 0) <| hg (hm_ib S (M15.2.2 (M15.2.2 v1 0) 7) .int v7 = true) <|
  (if (M15.1 (M15.2.2 (M15.2.2 v1 0) 7) v7.toNatClampNeg) ≤ r16 then k37 v0 v1 v2 v3 v4 v5 v6 (v7 + (1 : Int32)) M15 else hg (M15.2.2 v0 4 ≠ 0) <|
  hg (hm_ib S (M15.2.2 v0 4) .int v7 = true) <| hl (hm_wI M15 (M15.2.2 v0 4) v7.toNatClampNeg v4) fun M26 => hl ((v6 ||| x10) : Int32) fun x28 =>
  k37 v0 v1 v2 v3 v4 v5 x28 (v7 + (1 : Int32)) M26))))
def f_Rents_fall_2 (S : hm_S) (k16 : Nat → Nat → Nat → Int32 → Int32 → hm_M → Option hm_M) (n : Nat) : Nat → Nat → Nat → Int32 → Int32 → Int32 → Int32 → Int32 → hm_M → Option hm_M := hm_it (b_Rents_fall_2 S k16) (fun _ _ _ _ _ _ _ _ _ => none) n
def b_Rents_fall_1 (S : hm_S) (k16 : Nat → Nat → Nat → Int32 → Int32 → hm_M → Option hm_M) (v0 : Nat) (v1 : Nat) (v2 : Nat) (v3 : Int32) (v4 : Int32) (M : hm_M) : Option hm_M :=
  (if (6 : Int32) < v4 then some M else hg (S v0 = some (.inr 6)) <| hb (f_Rents_yearOf S v0 v1 v3 M) fun r5 M4 =>
  f_Rents_fall_2 S k16 hN v0 v1 v2 v3 v4 r5 (0 : Int32) (0 : Int32) M4)
def f_Rents_fall_1 (S : hm_S) (n : Nat) : Nat → Nat → Nat → Int32 → Int32 → hm_M → Option hm_M := hm_it (b_Rents_fall_1 S ) (fun _ _ _ _ _ _ => none) n
def f_Rents_fall (S : hm_S) (v0 : Nat) (v1 : Nat) (v2 : Nat) (M : hm_M) : Option hm_M :=
  hg (S v0 = some (.inr 6)) <| hg (M.2.2 v0 4 ≠ 0) <| hv (f_J7_fill_53178 S (M.2.2 v0 4) (0 : Int32) M) fun M4 => hg (S v2 = some (.inr 2)) <|
  hb (f_Hold_lit S v2 M4) fun r8 M7 => f_Rents_fall_1 S hN v0 v1 v2 r8 (1 : Int32) M7
def b_Ps_fallen_1 (S : hm_S) (k19 : Nat → Int32 → Int32 → hm_M → Option (Int32 × hm_M)) (v0 : Nat) (v1 : Int32) (v2 : Int32) (M : hm_M) : Option (Int32 × hm_M) :=
  (if (6 : Int32) ≤ v2 then some (v1, M) else hg (S v0 = some (.inr 11)) <| hg (M.2.2 v0 4 ≠ 0) <| hg (S (M.2.2 v0 4) = some (.inr 6)) <|
  hg (M.2.2 (M.2.2 v0 4) 4 ≠ 0) <| hg (hm_ib S (M.2.2 (M.2.2 v0 4) 4) .int v2 = true) <| (if (M.1 (M.2.2 (M.2.2 v0 4) 4) v2.toNatClampNeg) ≤ 0 then
  k19 v0 v1 (v2 + (1 : Int32)) M else hl ((v1 ||| ((1 : Int32) <<< (v2 &&& 31))) : Int32) fun x9 => k19 v0 x9 (v2 + (1 : Int32)) M))
def f_Ps_fallen_1 (S : hm_S) (n : Nat) : Nat → Int32 → Int32 → hm_M → Option (Int32 × hm_M) := hm_it (b_Ps_fallen_1 S ) (fun _ _ _ _ => none) n
def f_Ps_fallen (S : hm_S) (v0 : Nat) (M : hm_M) : Option (Int32 × hm_M) :=
  hg (S v0 = some (.inr 11)) <| hg (M.2.2 v0 4 ≠ 0) <| hg (M.2.2 v0 1 ≠ 0) <| hg (M.2.2 v0 2 ≠ 0) <| hg (S (M.2.2 v0 4) = some (.inr 6)) <|
  hv (f_Rents_fall S (M.2.2 v0 4) (M.2.2 v0 1) (M.2.2 v0 2) M) fun M7 => f_Ps_fallen_1 S hN v0 (0 : Int32) (0 : Int32) M7
def f_Ps_falls (S : hm_S) (v0 : Nat) (v1 : Int32) (M : hm_M) : Option (Int32 × hm_M) :=
  hg (S v0 = some (.inr 11)) <| hb (f_Ps_isGuild S v0 v1 M) fun r4 M3 => (if r4 = 0 then some ((-1 : Int32), M3) else hg (M3.2.2 v0 4 ≠ 0) <|
  hg (M3.2.2 v0 1 ≠ 0) <| hg (M3.2.2 v0 2 ≠ 0) <| hg (S (M3.2.2 v0 4) = some (.inr 6)) <|
  hv (f_Rents_fall S (M3.2.2 v0 4) (M3.2.2 v0 1) (M3.2.2 v0 2) M3) fun M11 => hg (M11.2.2 v0 4 ≠ 0) <| hg (S (M11.2.2 v0 4) = some (.inr 6)) <|
  hg (M11.2.2 (M11.2.2 v0 4) 4 ≠ 0) <| hg (hm_ib S (M11.2.2 (M11.2.2 v0 4) 4) .int v1 = true) <|
  some ((M11.1 (M11.2.2 (M11.2.2 v0 4) 4) v1.toNatClampNeg), M11))
def f_Tape_isFed (S : hm_S) (v0 : Int32) (M : hm_M) : Option (Int32 × hm_M) :=
  (if v0 = (10 : Int32) then some ((1 : Int32), M) else (if v0 < (32 : Int32) then some ((0 : Int32), M) else (if (126 : Int32) < v0 then
  some ((0 : Int32), M) else some ((1 : Int32), M))))
def b_Tape_add_1 (S : hm_S) (k3 : Nat → Int64 → Int32 → hm_M → Option hm_M) (v0 : Nat) (v1 : Int64) (v3 : Int32) (M : hm_M) : Option hm_M :=
  (if v3 < 0 then some M else hl ((((v1.toUInt64 >>>
  (v3.toInt64.toUInt64 &&& Int64.toUInt64 63)).toInt64).toInt32 &&& (255 : Int32)) : Int32) fun x2 => hb (f_Tape_isFed S x2 M) fun r6 M5 =>
  (if r6 = 0 then k3 v0 v1 (v3 + (-8 : Int32)) M5 else hg (S v0 = some (.inr 7)) <| (if (1000 : Int32) ≤ (M5.1 v0 1) then
  k3 v0 v1 (v3 + (-8 : Int32)) M5 else hg (M5.2.2 v0 0 ≠ 0) <| hg (hm_ib S (M5.2.2 v0 0) .byte (M5.1 v0 1) = true) <|
  hl (hm_wI M5 (M5.2.2 v0 0) (M5.1 v0 1).toNatClampNeg (vp_nar .byte x2.toInt8.toInt32)) fun M13 =>
  hl (hm_wI M13 v0 1 ((M13.1 v0 1) + (1 : Int32))) fun M15 => k3 v0 v1 (v3 + (-8 : Int32)) M15)))
def f_Tape_add_1 (S : hm_S) (n : Nat) : Nat → Int64 → Int32 → hm_M → Option hm_M := hm_it (b_Tape_add_1 S ) (fun _ _ _ _ => none) n
def f_Tape_add (S : hm_S) (v0 : Nat) (v1 : Int64) (M : hm_M) : Option hm_M :=
  f_Tape_add_1 S hN v0 v1 (56 : Int32) M
def f_Ps_feed (S : hm_S) (v0 : Nat) (v1 : Int64) (v3 : Int64) (v5 : Int64) (M : hm_M) : Option (Int32 × hm_M) :=
  hg (S v0 = some (.inr 11)) <| hg (M.2.2 v0 0 ≠ 0) <| hg (S (M.2.2 v0 0) = some (.inr 5)) <| hg (M.2.2 (M.2.2 v0 0) 0 ≠ 0) <|
  hg (S (M.2.2 (M.2.2 v0 0) 0) = some (.inr 7)) <| hv (f_Tape_add S (M.2.2 (M.2.2 v0 0) 0) v1 M) fun M7 => hg (M7.2.2 v0 0 ≠ 0) <|
  hg (S (M7.2.2 v0 0) = some (.inr 5)) <| hg (M7.2.2 (M7.2.2 v0 0) 0 ≠ 0) <| hg (S (M7.2.2 (M7.2.2 v0 0) 0) = some (.inr 7)) <|
  hv (f_Tape_add S (M7.2.2 (M7.2.2 v0 0) 0) v3 M7) fun M13 => hg (M13.2.2 v0 0 ≠ 0) <| hg (S (M13.2.2 v0 0) = some (.inr 5)) <|
  hg (M13.2.2 (M13.2.2 v0 0) 0 ≠ 0) <| hg (S (M13.2.2 (M13.2.2 v0 0) 0) = some (.inr 7)) <|
  hv (f_Tape_add S (M13.2.2 (M13.2.2 v0 0) 0) v5 M13) fun M19 => hg (M19.2.2 v0 0 ≠ 0) <| hg (S (M19.2.2 v0 0) = some (.inr 5)) <|
  hg (M19.2.2 (M19.2.2 v0 0) 0 ≠ 0) <| hg (S (M19.2.2 (M19.2.2 v0 0) 0) = some (.inr 7)) <| some ((M19.1 (M19.2.2 (M19.2.2 v0 0) 0) 1), M19)
def f_Ps_gain (S : hm_S) (v0 : Nat) (v1 : Int32) (v2 : Int32) (M : hm_M) : Option (Int32 × hm_M) :=
  hg (S v0 = some (.inr 11)) <| hb (f_Ps_canExchange S v0 v1 v2 M) fun r4 M3 => (if r4 = 0 then some ((-1 : Int32), M3) else hg (M3.2.2 v0 4 ≠ 0) <|
  hg (M3.2.2 v0 1 ≠ 0) <| hg (S (M3.2.2 v0 1) = some (.inr 4)) <| hg (M3.2.2 (M3.2.2 v0 1) 0 ≠ 0) <| hg (M3.2.2 v0 2 ≠ 0) <|
  hb (f_Ps_yearNow S v0 M3) fun r13 M12 => hg (S (M3.2.2 v0 4) = some (.inr 6)) <|
  hb (f_Rents_gainOf S (M3.2.2 v0 4) (M3.2.2 (M3.2.2 v0 1) 0) (M3.2.2 v0 2) r13 v1 v2 M12) fun r17 M16 => some (r17, M16))
def f_Ps_guild (S : hm_S) (v0 : Nat) (v1 : Int32) (v2 : Int32) (M : hm_M) : Option (Int32 × hm_M) :=
  hg (S v0 = some (.inr 11)) <| hb (f_Ps_isGuild S v0 v1 M) fun r4 M3 => (if r4 = 0 then some ((-1 : Int32), M3) else (if v2 = (0 : Int32) then
  hg (M3.2.2 v0 1 ≠ 0) <| hg (S (M3.2.2 v0 1) = some (.inr 4)) <| hg (M3.2.2 (M3.2.2 v0 1) 0 ≠ 0) <|
  hg (S (M3.2.2 (M3.2.2 v0 1) 0) = some (.inr 0)) <| hg (M3.2.2 (M3.2.2 (M3.2.2 v0 1) 0) 6 ≠ 0) <|
  hg (hm_ib S (M3.2.2 (M3.2.2 (M3.2.2 v0 1) 0) 6) .int v1 = true) <| some ((M3.1 (M3.2.2 (M3.2.2 (M3.2.2 v0 1) 0) 6) v1.toNatClampNeg), M3)
  else if v2 = (1 : Int32) then hg (M3.2.2 v0 1 ≠ 0) <| hg (S (M3.2.2 v0 1) = some (.inr 4)) <| hg (M3.2.2 (M3.2.2 v0 1) 0 ≠ 0) <|
  hg (S (M3.2.2 (M3.2.2 v0 1) 0) = some (.inr 0)) <| hg (M3.2.2 (M3.2.2 (M3.2.2 v0 1) 0) 7 ≠ 0) <|
  hg (hm_ib S (M3.2.2 (M3.2.2 (M3.2.2 v0 1) 0) 7) .int v1 = true) <| some ((M3.1 (M3.2.2 (M3.2.2 (M3.2.2 v0 1) 0) 7) v1.toNatClampNeg), M3)
  else if v2 = (2 : Int32) then hg (M3.2.2 v0 2 ≠ 0) <| hg (S (M3.2.2 v0 2) = some (.inr 2)) <|
  hb (f_Hold_panesOf S (M3.2.2 v0 2) v1 M3) fun r27 M26 => some (r27, M26) else some ((-1 : Int32), M3)))
def f_Ps_isStained (S : hm_S) (v0 : Nat) (v1 : Int32) (v2 : Int32) (v3 : Int32) (v4 : Int32) (M : hm_M) : Option (Int32 × hm_M) :=
  hb (f_Ps_isTime S v1 v2 M) fun r3 M2 => (if r3 = 0 then some ((0 : Int32), M2) else (if v3 < (1 : Int32) then some ((0 : Int32), M2)
  else (if (6 : Int32) < v3 then some ((0 : Int32), M2) else (if (24 : Int32) < (v2 + v3) then some ((0 : Int32), M2) else (if v4 < 0 then
  some ((0 : Int32), M2) else (if ((1 : Int32) <<< (((3 : Int32) * v3) &&& 31)) ≤ v4 then some ((0 : Int32), M2) else some ((1 : Int32), M2)))))))
def b_Hold_copy_2 (S : hm_S) (k52 : Nat → Nat → Int32 → hm_M → Option hm_M) (v0 : Nat) (v1 : Nat) (v2 : Int32) (M : hm_M) : Option hm_M :=
  (if (8 : Int32) ≤ v2 then some M else hg (S v0 = some (.inr 2)) <| hg (M.2.2 v0 3 ≠ 0) <| hg (S v1 = some (.inr 2)) <| hg (M.2.2 v1 3 ≠ 0) <|
  hg (hm_ib S (M.2.2 v1 3) .int v2 = true) <| hg (hm_ib S (M.2.2 v0 3) .int v2 = true) <|
  hl (hm_wI M (M.2.2 v0 3) v2.toNatClampNeg (M.1 (M.2.2 v1 3) v2.toNatClampNeg)) fun M10 => hg (M10.2.2 v0 4 ≠ 0) <| hg (M10.2.2 v1 4 ≠ 0) <|
  hg (hm_ib S (M10.2.2 v1 4) .int v2 = true) <| hg (hm_ib S (M10.2.2 v0 4) .int v2 = true) <|
  hl (hm_wI M10 (M10.2.2 v0 4) v2.toNatClampNeg (M10.1 (M10.2.2 v1 4) v2.toNatClampNeg)) fun M18 => k52 v0 v1 (v2 + (1 : Int32)) M18)
def f_Hold_copy_2 (S : hm_S) (n : Nat) : Nat → Nat → Int32 → hm_M → Option hm_M := hm_it (b_Hold_copy_2 S ) (fun _ _ _ _ => none) n
def b_Hold_copy_1 (S : hm_S) (k26 : Nat → Nat → Int32 → hm_M → Option hm_M) (v0 : Nat) (v1 : Nat) (v2 : Int32) (M : hm_M) : Option hm_M :=
  (if (12 : Int32) ≤ v2 then f_Hold_copy_2 S hN v0 v1 (0 : Int32) M else hg (S v0 = some (.inr 2)) <| hg (M.2.2 v0 0 ≠ 0) <|
  hg (S v1 = some (.inr 2)) <| hg (M.2.2 v1 0 ≠ 0) <| hg (hm_ib S (M.2.2 v1 0) .int v2 = true) <| hg (hm_ib S (M.2.2 v0 0) .int v2 = true) <|
  hl (hm_wI M (M.2.2 v0 0) v2.toNatClampNeg (M.1 (M.2.2 v1 0) v2.toNatClampNeg)) fun M10 => k26 v0 v1 (v2 + (1 : Int32)) M10)
def f_Hold_copy_1 (S : hm_S) (n : Nat) : Nat → Nat → Int32 → hm_M → Option hm_M := hm_it (b_Hold_copy_1 S ) (fun _ _ _ _ => none) n
def f_Hold_copy (S : hm_S) (v0 : Nat) (v1 : Nat) (M : hm_M) : Option hm_M :=
  hg (S v1 = some (.inr 2)) <| hg (S v0 = some (.inr 2)) <| hl (hm_wI M v0 5 (M.1 v1 5)) fun M3 => hl (hm_wI M3 v0 1 (M3.1 v1 1)) fun M5 =>
  hl (hm_wI M5 v0 2 (M5.1 v1 2)) fun M7 => f_Hold_copy_1 S hN v0 v1 (0 : Int32) M7
def f_Ps_mark (S : hm_S) (v0 : Nat) (v1 : Int32) (v2 : Int32) (M : hm_M) : Option (Int32 × hm_M) :=
  (if v1 < 0 then some ((0 : Int32), M) else (if v1 < (4 : Int32) then (if v2 = 0 then hg (S v0 = some (.inr 11)) <| hg (M.2.2 v0 8 ≠ 0) <|
  hg (hm_ib S (M.2.2 v0 8) (.object "PaneSpots$Hold") v1 = true) <| hg (M.2.2 (M.2.2 v0 8) (v1.toNatClampNeg) ≠ 0) <| hg (M.2.2 v0 2 ≠ 0) <|
  hg (S (M.2.2 (M.2.2 v0 8) v1.toNatClampNeg) = some (.inr 2)) <| hv (f_Hold_copy S (M.2.2 (M.2.2 v0 8) v1.toNatClampNeg) (M.2.2 v0 2) M) fun M26 =>
  hl (hm_wI M26 v0 9 ((M26.1 v0 9) ||| ((1 : Int32) <<< (v1 &&& 31)))) fun M27 => some ((1 : Int32), M27) else hg (S v0 = some (.inr 11)) <|
  (if (((M.1 v0 9) >>> (v1 &&& 31)) &&& (1 : Int32)) = 0 then some ((0 : Int32), M) else hg (M.2.2 v0 2 ≠ 0) <| hg (M.2.2 v0 8 ≠ 0) <|
  hg (hm_ib S (M.2.2 v0 8) (.object "PaneSpots$Hold") v1 = true) <| hg (M.2.2 (M.2.2 v0 8) (v1.toNatClampNeg) ≠ 0) <|
  hg (S (M.2.2 v0 2) = some (.inr 2)) <| hv (f_Hold_copy S (M.2.2 v0 2) (M.2.2 (M.2.2 v0 8) v1.toNatClampNeg) M) fun M13 => hg (M13.2.2 v0 3 ≠ 0) <|
  hg (S (M13.2.2 v0 3) = some (.inr 1)) <| hv (f_History_forget S (M13.2.2 v0 3) M13) fun M17 => some ((1 : Int32), M17)))
  else some ((0 : Int32), M)))
def f_Walk_passes (S : hm_S) (v0 : Nat) (v1 : Int32) (M : hm_M) : Option (Int32 × hm_M) :=
  hg (S v0 = some (.inr 9)) <| hg (M.2.2 v0 0 ≠ 0) <| hg (hm_ib S (M.2.2 v0 0) .int v1 = true) <| (if (M.1 (M.2.2 v0 0) v1.toNatClampNeg) ≤ 0 then
  some ((0 : Int32), M) else hg (M.2.2 v0 1 ≠ 0) <| hg (hm_ib S (M.2.2 v0 1) .int v1 = true) <| (if (M.1 (M.2.2 v0 1) v1.toNatClampNeg) ≤ 0 then
  some ((0 : Int32), M) else some ((1 : Int32), M)))
def b_Hold_ownersOf_1 (S : hm_S) (k4 : Nat → Int32 → Int32 → Int32 → hm_M → Option (Int32 × hm_M)) (v0 : Nat) (v1 : Int32) (v2 : Int32) (v3 : Int32) (M : hm_M) : Option (Int32 × hm_M) :=
  hg (S v0 = some (.inr 2)) <| (if (M.1 v0 5) ≤ v3 then some (v2, M) else (if (12 : Int32) ≤ v3 then some (v2, M) else (if ((v1 >>>
  (v3 &&& 31)) &&& (1 : Int32)) = (1 : Int32) then hg (M.2.2 v0 0 ≠ 0) <| hg (hm_ib S (M.2.2 v0 0) .int v3 = true) <|
  hl ((v2 ||| ((1 : Int32) <<< ((M.1 (M.2.2 v0 0) v3.toNatClampNeg) &&& 31))) : Int32) fun x8 => k4 v0 v1 x8 (v3 + (1 : Int32)) M
  else k4 v0 v1 v2 (v3 + (1 : Int32)) M)))
def f_Hold_ownersOf_1 (S : hm_S) (n : Nat) : Nat → Int32 → Int32 → Int32 → hm_M → Option (Int32 × hm_M) := hm_it (b_Hold_ownersOf_1 S ) (fun _ _ _ _ _ => none) n
def f_Hold_ownersOf (S : hm_S) (v0 : Nat) (v1 : Int32) (M : hm_M) : Option (Int32 × hm_M) :=
  f_Hold_ownersOf_1 S hN v0 v1 (0 : Int32) (0 : Int32) M
def b_Ps_ownersOnAll_1 (S : hm_S) (k4 : Nat → Int32 → Int32 → hm_M → Option (Int32 × hm_M)) (v0 : Nat) (v1 : Int32) (v2 : Int32) (M : hm_M) : Option (Int32 × hm_M) :=
  (if (64 : Int32) ≤ v2 then some (v1, M) else hg (S v0 = some (.inr 11)) <| hg (M.2.2 v0 7 ≠ 0) <| hg (S (M.2.2 v0 7) = some (.inr 9)) <|
  hb (f_Walk_passes S (M.2.2 v0 7) v2 M) fun r7 M6 => (if r7 = 0 then k4 v0 v1 (v2 + (1 : Int32)) M6 else hg (M6.2.2 v0 2 ≠ 0) <|
  hg (M6.2.2 v0 1 ≠ 0) <| hg (S (M6.2.2 v0 2) = some (.inr 2)) <| hb (f_Hold_lit S (M6.2.2 v0 2) M6) fun r14 M13 =>
  hg (S (M6.2.2 v0 1) = some (.inr 4)) <| hb (f_Light_panesOn S (M6.2.2 v0 1) v2 r14 M13) fun r18 M17 =>
  hb (f_Hold_ownersOf S (M6.2.2 v0 2) r18 M17) fun r21 M20 => hl ((v1 &&& r21) : Int32) fun x22 => k4 v0 x22 (v2 + (1 : Int32)) M20))
def f_Ps_ownersOnAll_1 (S : hm_S) (n : Nat) : Nat → Int32 → Int32 → hm_M → Option (Int32 × hm_M) := hm_it (b_Ps_ownersOnAll_1 S ) (fun _ _ _ _ => none) n
def f_Ps_ownersOnAll (S : hm_S) (v0 : Nat) (M : hm_M) : Option (Int32 × hm_M) :=
  f_Ps_ownersOnAll_1 S hN v0 (-1 : Int32) (0 : Int32) M
def b_Ps_ownersOnSome_2 (S : hm_S) (k4 : Nat → Int32 → Int32 → hm_M → Option (Int32 × hm_M)) (v0 : Nat) (v2 : Int32) (s0 : Int32) (M : hm_M) : Option (Int32 × hm_M) :=
  k4 v0 s0 (v2 + (1 : Int32)) M
def b_Ps_ownersOnSome_1 (S : hm_S) (k4 : Nat → Int32 → Int32 → hm_M → Option (Int32 × hm_M)) (v0 : Nat) (v1 : Int32) (v2 : Int32) (M : hm_M) : Option (Int32 × hm_M) :=
  (if (64 : Int32) ≤ v2 then some (v1, M) else hg (S v0 = some (.inr 11)) <| hg (M.2.2 v0 7 ≠ 0) <| hg (S (M.2.2 v0 7) = some (.inr 9)) <|
  hb (f_Walk_passes S (M.2.2 v0 7) v2 M) fun r7 M6 => (if r7 = 0 then k4 v0 v1 (v2 + (1 : Int32)) M6 else hg (M6.2.2 v0 2 ≠ 0) <|
  hg (M6.2.2 v0 1 ≠ 0) <| hg (S (M6.2.2 v0 2) = some (.inr 2)) <| hb (f_Hold_lit S (M6.2.2 v0 2) M6) fun r14 M13 =>
  hg (S (M6.2.2 v0 1) = some (.inr 4)) <| hb (f_Light_panesOn S (M6.2.2 v0 1) v2 r14 M13) fun r18 M17 =>
  hb (f_Hold_ownersOf S (M6.2.2 v0 2) r18 M17) fun r21 M20 => (if v1 = (-1 : Int32) then b_Ps_ownersOnSome_2 S k4 v0 v2 r21 M20
  else b_Ps_ownersOnSome_2 S k4 v0 v2 (v1 ||| r21) M20)))
def f_Ps_ownersOnSome_1 (S : hm_S) (n : Nat) : Nat → Int32 → Int32 → hm_M → Option (Int32 × hm_M) := hm_it (b_Ps_ownersOnSome_1 S ) (fun _ _ _ _ => none) n
def f_Ps_ownersOnSome (S : hm_S) (v0 : Nat) (M : hm_M) : Option (Int32 × hm_M) :=
  f_Ps_ownersOnSome_1 S hN v0 (-1 : Int32) (0 : Int32) M
def f_Ps_pane (S : hm_S) (v0 : Nat) (v1 : Int32) (v2 : Int32) (M : hm_M) : Option (Int32 × hm_M) :=
  hg (S v0 = some (.inr 11)) <| hb (f_Ps_isPane S v0 v1 M) fun r4 M3 => (if r4 = 0 then some ((-1 : Int32), M3) else (if v2 = (0 : Int32) then
  hg (M3.2.2 v0 1 ≠ 0) <| hg (S (M3.2.2 v0 1) = some (.inr 4)) <| hg (M3.2.2 (M3.2.2 v0 1) 0 ≠ 0) <|
  hg (S (M3.2.2 (M3.2.2 v0 1) 0) = some (.inr 0)) <| hg (M3.2.2 (M3.2.2 (M3.2.2 v0 1) 0) 8 ≠ 0) <|
  hg (hm_ib S (M3.2.2 (M3.2.2 (M3.2.2 v0 1) 0) 8) .int v1 = true) <| some ((M3.1 (M3.2.2 (M3.2.2 (M3.2.2 v0 1) 0) 8) v1.toNatClampNeg), M3)
  else if v2 = (1 : Int32) then hg (M3.2.2 v0 1 ≠ 0) <| hg (S (M3.2.2 v0 1) = some (.inr 4)) <| hg (M3.2.2 (M3.2.2 v0 1) 0 ≠ 0) <|
  hg (S (M3.2.2 (M3.2.2 v0 1) 0) = some (.inr 0)) <| hg (M3.2.2 (M3.2.2 (M3.2.2 v0 1) 0) 9 ≠ 0) <|
  hg (hm_ib S (M3.2.2 (M3.2.2 (M3.2.2 v0 1) 0) 9) .int v1 = true) <| some ((M3.1 (M3.2.2 (M3.2.2 (M3.2.2 v0 1) 0) 9) v1.toNatClampNeg), M3)
  else if v2 = (2 : Int32) then hg (M3.2.2 v0 2 ≠ 0) <| hg (S (M3.2.2 v0 2) = some (.inr 2)) <| hg (M3.2.2 (M3.2.2 v0 2) 0 ≠ 0) <|
  hg (hm_ib S (M3.2.2 (M3.2.2 v0 2) 0) .int v1 = true) <| some ((M3.1 (M3.2.2 (M3.2.2 v0 2) 0) v1.toNatClampNeg), M3) else if v2 = (3 : Int32) then
  hg (M3.2.2 v0 1 ≠ 0) <| hg (S (M3.2.2 v0 1) = some (.inr 4)) <| hg (M3.2.2 (M3.2.2 v0 1) 0 ≠ 0) <|
  hg (S (M3.2.2 (M3.2.2 v0 1) 0) = some (.inr 0)) <| hg (M3.2.2 (M3.2.2 (M3.2.2 v0 1) 0) 11 ≠ 0) <|
  hg (hm_ib S (M3.2.2 (M3.2.2 (M3.2.2 v0 1) 0) 11) .int v1 = true) <| some ((M3.1 (M3.2.2 (M3.2.2 (M3.2.2 v0 1) 0) 11) v1.toNatClampNeg), M3)
  else if v2 = (4 : Int32) then hg (M3.2.2 v0 2 ≠ 0) <| hg (S (M3.2.2 v0 2) = some (.inr 2)) <|
  hb (f_Hold_isBroken S (M3.2.2 v0 2) v1 M3) fun r41 M40 => (if r41 = 0 then some ((0 : Int32), M40) else some ((1 : Int32), M40))
  else some ((-1 : Int32), M3)))
def f_Ps_place (S : hm_S) (v0 : Nat) (v1 : Int32) (v2 : Int32) (v3 : Int32) (v4 : Int32) (v5 : Int32) (M : hm_M) : Option (Int32 × hm_M) :=
  hg (S v0 = some (.inr 11)) <| hg (M.2.2 v0 1 ≠ 0) <| hg (S (M.2.2 v0 1) = some (.inr 4)) <| hg (M.2.2 (M.2.2 v0 1) 0 ≠ 0) <|
  hg (S (M.2.2 (M.2.2 v0 1) 0) = some (.inr 0)) <| hb (f_Chapel_hasPlace S (M.2.2 (M.2.2 v0 1) 0) v1 v2 M) fun r8 M7 => (if r8 = 0 then
  some ((-1 : Int32), M7) else hb (f_Ps_isTime S v3 v4 M7) fun r12 M11 => (if r12 = 0 then some ((-1 : Int32), M11) else hg (M11.2.2 v0 1 ≠ 0) <|
  hb (f_Ps_timeOf S v3 v4 M11) fun r17 M16 => hg (S (M11.2.2 v0 1) = some (.inr 4)) <| hv (f_Light_turnTo S (M11.2.2 v0 1) r17 M16) fun M20 =>
  hg (M20.2.2 v0 1 ≠ 0) <| hb (f_Ps_placeOf S v1 v2 M20) fun r24 M23 => hg (M23.2.2 v0 2 ≠ 0) <| hg (S (M23.2.2 v0 2) = some (.inr 2)) <|
  hb (f_Hold_lit S (M23.2.2 v0 2) M23) fun r29 M28 => hg (S (M20.2.2 v0 1) = some (.inr 4)) <|
  hb (f_Light_panesOn S (M20.2.2 v0 1) r24 r29 M28) fun r33 M32 => (if v5 = (0 : Int32) then hg (M32.2.2 v0 2 ≠ 0) <|
  hg (S (M32.2.2 v0 2) = some (.inr 2)) <| hb (f_Hold_ownersOf S (M32.2.2 v0 2) r33 M32) fun r39 M38 => some (r39, M38) else if v5 = (1 : Int32) then
  hg (M32.2.2 v0 1 ≠ 0) <| hg (S (M32.2.2 v0 1) = some (.inr 4)) <| hg (M32.2.2 (M32.2.2 v0 1) 0 ≠ 0) <|
  hg (S (M32.2.2 (M32.2.2 v0 1) 0) = some (.inr 0)) <| hb (f_Chapel_colourOf S (M32.2.2 (M32.2.2 v0 1) 0) r33 M32) fun r47 M46 => some (r47, M46)
  else if v5 = (2 : Int32) then hb (f_J6_bitCount_0f7a4 S r33 M32) fun r51 M50 => some (r51, M50) else some ((-1 : Int32), M32))))
def f_Ps_rents (S : hm_S) (v0 : Nat) (v1 : Int32) (M : hm_M) : Option (Int32 × hm_M) :=
  hg (S v0 = some (.inr 11)) <| hb (f_Ps_isGuild S v0 v1 M) fun r4 M3 => (if r4 = 0 then some ((-1 : Int32), M3) else hg (M3.2.2 v0 4 ≠ 0) <|
  hb (f_Ps_yearNow S v0 M3) fun r9 M8 => hg (M8.2.2 v0 2 ≠ 0) <| hg (S (M8.2.2 v0 2) = some (.inr 2)) <|
  hb (f_Hold_panesOf S (M8.2.2 v0 2) v1 M8) fun r14 M13 => hg (S (M3.2.2 v0 4) = some (.inr 6)) <|
  hb (f_Rents_givenBy S (M3.2.2 v0 4) r9 r14 M13) fun r18 M17 => some (r18, M17))
def f_Hold_keepSeen (S : hm_S) (v0 : Nat) (v1 : Int32) (v2 : Int32) (M : hm_M) : Option (Int32 × hm_M) :=
  hg (S v0 = some (.inr 2)) <| (if (M.1 v0 2) < (8 : Int32) then hg (M.2.2 v0 3 ≠ 0) <| hg (hm_ib S (M.2.2 v0 3) .int (M.1 v0 2) = true) <|
  hl (hm_wI M (M.2.2 v0 3) (M.1 v0 2).toNatClampNeg v1) fun M6 => hg (M6.2.2 v0 4 ≠ 0) <| hg (hm_ib S (M6.2.2 v0 4) .int (M6.1 v0 2) = true) <|
  hl (hm_wI M6 (M6.2.2 v0 4) (M6.1 v0 2).toNatClampNeg v2) fun M11 => hl (hm_wI M11 v0 2 ((M11.1 v0 2) + (1 : Int32))) fun M13 =>
  some ((M13.1 v0 2), M13) else some ((-1 : Int32), M))
def f_Ps_see (S : hm_S) (v0 : Nat) (v1 : Int32) (v2 : Int32) (v3 : Int32) (M : hm_M) : Option (Int32 × hm_M) :=
  hg (S v0 = some (.inr 11)) <| hg (M.2.2 v0 1 ≠ 0) <| hg (S (M.2.2 v0 1) = some (.inr 4)) <| hg (M.2.2 (M.2.2 v0 1) 0 ≠ 0) <|
  hg (S (M.2.2 (M.2.2 v0 1) 0) = some (.inr 0)) <| hb (f_Chapel_hasPlace S (M.2.2 (M.2.2 v0 1) 0) v1 v2 M) fun r8 M7 => (if r8 = 0 then
  some ((-1 : Int32), M7) else (if v3 < 0 then some ((-1 : Int32), M7) else (if v3 ≤ (7 : Int32) then hg (M7.2.2 v0 2 ≠ 0) <|
  hb (f_Ps_placeOf S v1 v2 M7) fun r15 M14 => hg (S (M7.2.2 v0 2) = some (.inr 2)) <| hb (f_Hold_keepSeen S (M7.2.2 v0 2) r15 v3 M14) fun r19 M18 =>
  some (r19, M18) else some ((-1 : Int32), M7))))
def f_Ps_spot (S : hm_S) (v0 : Nat) (v1 : Int32) (v2 : Int32) (v3 : Int32) (M : hm_M) : Option (Int32 × hm_M) :=
  hg (S v0 = some (.inr 11)) <| hb (f_Ps_isPane S v0 v1 M) fun r4 M3 => (if r4 = 0 then some ((-1 : Int32), M3)
  else hb (f_Ps_isTime S v2 v3 M3) fun r8 M7 => (if r8 = 0 then some ((-1 : Int32), M7) else hg (M7.2.2 v0 2 ≠ 0) <|
  hg (S (M7.2.2 v0 2) = some (.inr 2)) <| hb (f_Hold_isBroken S (M7.2.2 v0 2) v1 M7) fun r14 M13 => (if r14 = 0 then hg (M13.2.2 v0 1 ≠ 0) <|
  hb (f_Ps_timeOf S v2 v3 M13) fun r19 M18 => hg (S (M13.2.2 v0 1) = some (.inr 4)) <| hv (f_Light_turnTo S (M13.2.2 v0 1) r19 M18) fun M22 =>
  hg (M22.2.2 v0 1 ≠ 0) <| hg (S (M22.2.2 v0 1) = some (.inr 4)) <| hg (M22.2.2 (M22.2.2 v0 1) 1 ≠ 0) <|
  hg (hm_ib S (M22.2.2 (M22.2.2 v0 1) 1) .int v1 = true) <| some ((M22.1 (M22.2.2 (M22.2.2 v0 1) 1) v1.toNatClampNeg), M22)
  else some ((-1 : Int32), M13))))
def b_Walk_keepColoured_2 (S : hm_S) (k22 : Nat → Int32 → Nat → Int32 → Int32 → hm_M → Option hm_M) (v0 : Nat) (v1 : Int32) (v5 : Nat) (v6 : Int32) (v7 : Int32) (M : hm_M) : Option hm_M :=
  hg (hm_ib S v5 .int v7 = true) <| hl (hm_wI M v5 v7.toNatClampNeg (0 : Int32)) fun M3 => k22 v0 v1 v5 v6 (v7 + (1 : Int32)) M3
def b_Walk_keepColoured_1 (S : hm_S) (k22 : Nat → Int32 → Nat → Int32 → Int32 → hm_M → Option hm_M) (v0 : Nat) (v1 : Int32) (v5 : Nat) (v6 : Int32) (v7 : Int32) (M : hm_M) : Option hm_M :=
  (if (64 : Int32) ≤ v7 then some M else hg (S v0 = some (.inr 4)) <| hg (M.2.2 v0 0 ≠ 0) <| hg (S (M.2.2 v0 0) = some (.inr 0)) <|
  hb (f_Chapel_hasPlace S (M.2.2 v0 0) (v7 - v7 / (8 : Int32) * (8 : Int32)) (v7 / (8 : Int32)) M) fun r7 M6 => (if r7 = 0 then
  b_Walk_keepColoured_2 S k22 v0 v1 v5 v6 v7 M6 else hb (f_Light_colourOn S v0 v7 v1 M6) fun r11 M10 => (if r11 = v6 then
  k22 v0 v1 v5 v6 (v7 + (1 : Int32)) M10 else b_Walk_keepColoured_2 S k22 v0 v1 v5 v6 v7 M10)))
def f_Walk_keepColoured_1 (S : hm_S) (n : Nat) : Nat → Int32 → Nat → Int32 → Int32 → hm_M → Option hm_M := hm_it (b_Walk_keepColoured_1 S ) (fun _ _ _ _ _ _ => none) n
def f_Walk_keepColoured (S : hm_S) (v0 : Nat) (v1 : Int32) (v2 : Int32) (v3 : Int32) (v4 : Int32) (v5 : Nat) (M : hm_M) : Option hm_M :=
  hg (S v0 = some (.inr 4)) <| hv (f_Light_turnTo S v0 (v2 + v4) M) fun M3 => hl (((v3 >>>
  (((3 : Int32) * v4) &&& 31)) &&& (7 : Int32)) : Int32) fun x4 => f_Walk_keepColoured_1 S hN v0 v1 v5 x4 (0 : Int32) M3
def b_Walk_waysAround_4 (S : hm_S) (s0 : Int32) (s1 : Int32) (M : hm_M) : Option (Int32 × hm_M) :=
  hl ((s1 + s0) : Int32) fun x1 => some (x1, M)
def b_Walk_waysAround_3 (S : hm_S) (v0 : Nat) (v1 : Int32) (s0 : Int32) (s1 : Int32) (M : hm_M) : Option (Int32 × hm_M) :=
  hl ((s1 + s0) : Int32) fun x1 => (if (56 : Int32) ≤ v1 then b_Walk_waysAround_4 S (0 : Int32) x1 M
  else hg (hm_ib S v0 .int (v1 + (8 : Int32)) = true) <| b_Walk_waysAround_4 S (M.1 v0 (v1 + (8 : Int32)).toNatClampNeg) x1 M)
def b_Walk_waysAround_2 (S : hm_S) (v0 : Nat) (v1 : Int32) (s0 : Int32) (s1 : Int32) (M : hm_M) : Option (Int32 × hm_M) :=
  hl ((s1 + s0) : Int32) fun x1 => (if v1 < (8 : Int32) then b_Walk_waysAround_3 S v0 v1 (0 : Int32) x1 M
  else hg (hm_ib S v0 .int (v1 - (8 : Int32)) = true) <| b_Walk_waysAround_3 S v0 v1 (M.1 v0 (v1 - (8 : Int32)).toNatClampNeg) x1 M)
def b_Walk_waysAround_1 (S : hm_S) (v0 : Nat) (v1 : Int32) (s0 : Int32) (s1 : Int32) (M : hm_M) : Option (Int32 × hm_M) :=
  hl ((s1 + s0) : Int32) fun x1 => (if (7 : Int32) ≤ (v1 - v1 / (8 : Int32) * (8 : Int32)) then b_Walk_waysAround_2 S v0 v1 (0 : Int32) x1 M
  else hg (hm_ib S v0 .int (v1 + (1 : Int32)) = true) <| b_Walk_waysAround_2 S v0 v1 (M.1 v0 (v1 + (1 : Int32)).toNatClampNeg) x1 M)
def f_Walk_waysAround (S : hm_S) (v0 : Nat) (v1 : Int32) (M : hm_M) : Option (Int32 × hm_M) :=
  hg (hm_ib S v0 .int v1 = true) <| hl ((M.1 v0 v1.toNatClampNeg) : Int32) fun x3 => (if (v1 - v1 / (8 : Int32) * (8 : Int32)) ≤ 0 then
  b_Walk_waysAround_1 S v0 v1 (0 : Int32) x3 M else hg (hm_ib S v0 .int (v1 - (1 : Int32)) = true) <|
  b_Walk_waysAround_1 S v0 v1 (M.1 v0 (v1 - (1 : Int32)).toNatClampNeg) x3 M)
def b_Walk_go_3 (S : hm_S) (k35 : Nat → Nat → Int32 → Int32 → Int32 → Int32 → Int32 → Nat → Int32 → Int32 → hm_M → Option hm_M) (k51 : Nat → Nat → Int32 → Int32 → Int32 → Int32 → Int32 → Nat → Int32 → Int32 → Int32 → hm_M → Option hm_M) (v0 : Nat) (v1 : Nat) (v2 : Int32) (v3 : Int32) (v4 : Int32) (v5 : Int32) (v6 : Int32) (v7 : Nat) (v8 : Int32) (v9 : Int32) (v10 : Int32) (M : hm_M) : Option hm_M :=
  (if (64 : Int32) ≤ v10 then hg (S v0 = some (.inr 9)) <| hg (M.2.2 v0 2 ≠ 0) <|
  hg (hm_cpok S (M.2.2 v0 2) (0 : Int32) v7 (0 : Int32) (64 : Int32) = true) <|
  hl (hm_cp M (M.2.2 v0 2) (0 : Int32) v7 (0 : Int32) (64 : Int32)) fun M5 => hv (f_Walk_keepColoured S v1 v2 v3 v4 (v5 + (v9 * v8)) v7 M5) fun M8 =>
  k35 v0 v1 v2 v3 v4 v5 v6 v7 v8 (v9 + (1 : Int32)) M8 else hg (S v0 = some (.inr 9)) <| hg (M.2.2 v0 2 ≠ 0) <|
  hb (f_Walk_waysAround S v7 v10 M) fun r13 M12 => hg (hm_ib S (M.2.2 v0 2) .int v10 = true) <|
  hl (hm_wI M12 (M.2.2 v0 2) v10.toNatClampNeg r13) fun M16 => k51 v0 v1 v2 v3 v4 v5 v6 v7 v8 v9 (v10 + (1 : Int32)) M16)
def f_Walk_go_3 (S : hm_S) (k35 : Nat → Nat → Int32 → Int32 → Int32 → Int32 → Int32 → Nat → Int32 → Int32 → hm_M → Option hm_M) (n : Nat) : Nat → Nat → Int32 → Int32 → Int32 → Int32 → Int32 → Nat → Int32 → Int32 → Int32 → hm_M → Option hm_M := hm_it (b_Walk_go_3 S k35) (fun _ _ _ _ _ _ _ _ _ _ _ _ => none) n
def b_Walk_go_2 (S : hm_S) (k35 : Nat → Nat → Int32 → Int32 → Int32 → Int32 → Int32 → Nat → Int32 → Int32 → hm_M → Option hm_M) (v0 : Nat) (v1 : Nat) (v2 : Int32) (v3 : Int32) (v4 : Int32) (v5 : Int32) (v6 : Int32) (v7 : Nat) (v8 : Int32) (v9 : Int32) (M : hm_M) : Option hm_M :=
  (if (hm_abs (v6 - v5)) < v9 then some M else f_Walk_go_3 S k35 hN v0 v1 v2 v3 v4 v5 v6 v7 v8 v9 (0 : Int32) M)
def f_Walk_go_2 (S : hm_S) (n : Nat) : Nat → Nat → Int32 → Int32 → Int32 → Int32 → Int32 → Nat → Int32 → Int32 → hm_M → Option hm_M := hm_it (b_Walk_go_2 S ) (fun _ _ _ _ _ _ _ _ _ _ _ => none) n
def b_Walk_go_1 (S : hm_S) (v0 : Nat) (v1 : Nat) (v2 : Int32) (v3 : Int32) (v4 : Int32) (v5 : Int32) (v6 : Int32) (v7 : Nat) (s0 : Int32) (M : hm_M) : Option hm_M :=
  hv (f_J7_fill_53178 S v7 (1 : Int32) M) fun M2 => hv (f_Walk_keepColoured S v1 v2 v3 v4 v5 v7 M2) fun M4 =>
  f_Walk_go_2 S hN v0 v1 v2 v3 v4 v5 v6 v7 s0 (1 : Int32) M4
def f_Walk_go (S : hm_S) (v0 : Nat) (v1 : Nat) (v2 : Int32) (v3 : Int32) (v4 : Int32) (v5 : Int32) (v6 : Int32) (v7 : Nat) (M : hm_M) : Option hm_M :=
  (if v6 < v5 then b_Walk_go_1 S v0 v1 v2 v3 v4 v5 v6 v7 (-1 : Int32) M else b_Walk_go_1 S v0 v1 v2 v3 v4 v5 v6 v7 (1 : Int32) M)
def b_Walk_rowsOf_1 (S : hm_S) (k24 : Nat → Int32 → Int32 → hm_M → Option (Int32 × hm_M)) (v0 : Nat) (v6 : Int32) (v7 : Int32) (M : hm_M) : Option (Int32 × hm_M) :=
  (if (64 : Int32) ≤ v7 then some (v6, M) else hg (S v0 = some (.inr 9)) <| hg (M.2.2 v0 0 ≠ 0) <| hg (hm_ib S (M.2.2 v0 0) .int v7 = true) <|
  hl ((v6 + (M.1 (M.2.2 v0 0) v7.toNatClampNeg)) : Int32) fun x6 => k24 v0 x6 (v7 + (1 : Int32)) M)
def f_Walk_rowsOf_1 (S : hm_S) (n : Nat) : Nat → Int32 → Int32 → hm_M → Option (Int32 × hm_M) := hm_it (b_Walk_rowsOf_1 S ) (fun _ _ _ _ => none) n
def f_Walk_rowsOf (S : hm_S) (v0 : Nat) (v1 : Nat) (v2 : Int32) (v3 : Int32) (v4 : Int32) (v5 : Int32) (M : hm_M) : Option (Int32 × hm_M) :=
  hg (S v0 = some (.inr 9)) <| hg (M.2.2 v0 0 ≠ 0) <| hv (f_Walk_go S v0 v1 v2 v3 v5 (0 : Int32) (v4 - (1 : Int32)) (M.2.2 v0 0) M) fun M4 =>
  f_Walk_rowsOf_1 S hN v0 (0 : Int32) (0 : Int32) M4
def f_Ps_stains (S : hm_S) (v0 : Nat) (v1 : Int32) (v2 : Int32) (v3 : Int32) (v4 : Int32) (M : hm_M) : Option (Int32 × hm_M) :=
  hg (S v0 = some (.inr 11)) <| hb (f_Ps_isStained S v0 v1 v2 v3 v4 M) fun r4 M3 => (if r4 = 0 then some ((-1 : Int32), M3)
  else hg (M3.2.2 v0 7 ≠ 0) <| hg (M3.2.2 v0 1 ≠ 0) <| hg (M3.2.2 v0 2 ≠ 0) <| hg (S (M3.2.2 v0 2) = some (.inr 2)) <|
  hb (f_Hold_lit S (M3.2.2 v0 2) M3) fun r12 M11 => hb (f_Ps_timeOf S v1 v2 M11) fun r15 M14 => hg (S (M3.2.2 v0 7) = some (.inr 9)) <|
  hb (f_Walk_rowsOf S (M3.2.2 v0 7) (M3.2.2 v0 1) r12 r15 v3 v4 M14) fun r19 M18 => some (r19, M18))
def f_Ps_stall (S : hm_S) (v0 : Nat) (v1 : Int32) (v2 : Int32) (v3 : Int32) (v4 : Int32) (v5 : Int32) (M : hm_M) : Option (Int32 × hm_M) :=
  hg (S v0 = some (.inr 11)) <| hb (f_Ps_isGuild S v0 v1 M) fun r4 M3 => (if r4 = 0 then some ((-1 : Int32), M3)
  else hb (f_Ps_isTime S v2 v3 M3) fun r8 M7 => (if r8 = 0 then some ((-1 : Int32), M7) else hb (f_Ps_isTime S v2 v4 M7) fun r12 M11 =>
  (if r12 = 0 then some ((-1 : Int32), M11) else (if v3 ≤ v4 then hl (((v4 - v3) + (1 : Int32)) : Int32) fun x15 => (if v5 < (-1 : Int32) then
  some ((-1 : Int32), M11) else (if v5 < x15 then hg (M11.2.2 v0 6 ≠ 0) <| hg (M11.2.2 v0 1 ≠ 0) <| hg (M11.2.2 v0 2 ≠ 0) <|
  hg (S (M11.2.2 v0 2) = some (.inr 2)) <| hb (f_Hold_panesOf S (M11.2.2 v0 2) v1 M11) fun r25 M24 => hg (M24.2.2 v0 2 ≠ 0) <|
  hg (S (M24.2.2 v0 2) = some (.inr 2)) <| hb (f_Hold_lit S (M24.2.2 v0 2) M24) fun r30 M29 => hb (f_Ps_timeOf S v2 v3 M29) fun r33 M32 =>
  hg (S (M11.2.2 v0 6) = some (.inr 10)) <| hv (f_Way_find S (M11.2.2 v0 6) (M11.2.2 v0 1) (r25 &&& r30) r33 x15 M32) fun M36 =>
  (if v5 = (-1 : Int32) then hg (M36.2.2 v0 6 ≠ 0) <| hg (S (M36.2.2 v0 6) = some (.inr 10)) <| some ((M36.1 (M36.2.2 v0 6) 3), M36)
  else hg (M36.2.2 v0 6 ≠ 0) <| hg (S (M36.2.2 v0 6) = some (.inr 10)) <| hg (M36.2.2 (M36.2.2 v0 6) 2 ≠ 0) <|
  hg (hm_ib S (M36.2.2 (M36.2.2 v0 6) 2) .int v5 = true) <| some ((M36.1 (M36.2.2 (M36.2.2 v0 6) 2) v5.toNatClampNeg), M36))
  else some ((-1 : Int32), M11))) else some ((-1 : Int32), M11)))))
def f_Walk_meet (S : hm_S) (v0 : Nat) (v1 : Nat) (v2 : Int32) (v3 : Int32) (v4 : Int32) (v5 : Int32) (v6 : Int32) (M : hm_M) : Option hm_M :=
  hg (S v0 = some (.inr 9)) <| hg (M.2.2 v0 1 ≠ 0) <| hv (f_Walk_go S v0 v1 v2 v3 v5 (v4 - (1 : Int32)) v6 (M.2.2 v0 1) M) fun M4 =>
  hg (M4.2.2 v0 0 ≠ 0) <| hv (f_Walk_go S v0 v1 v2 v3 v5 (0 : Int32) v6 (M4.2.2 v0 0) M4) fun M7 => some M7
def f_Ps_stood (S : hm_S) (v0 : Nat) (v1 : Int32) (v2 : Int32) (v3 : Int32) (v4 : Int32) (v5 : Int32) (v6 : Int32) (M : hm_M) : Option (Int32 × hm_M) :=
  hg (S v0 = some (.inr 11)) <| hb (f_Ps_isStained S v0 v1 v2 v3 v4 M) fun r4 M3 => (if r4 = 0 then some ((-1 : Int32), M3) else (if v5 < 0 then
  some ((-1 : Int32), M3) else (if v5 < v3 then hg (M3.2.2 v0 7 ≠ 0) <| hg (M3.2.2 v0 1 ≠ 0) <| hg (M3.2.2 v0 2 ≠ 0) <|
  hg (S (M3.2.2 v0 2) = some (.inr 2)) <| hb (f_Hold_lit S (M3.2.2 v0 2) M3) fun r14 M13 => hb (f_Ps_timeOf S v1 v2 M13) fun r17 M16 =>
  hg (S (M3.2.2 v0 7) = some (.inr 9)) <| hv (f_Walk_meet S (M3.2.2 v0 7) (M3.2.2 v0 1) r14 r17 v3 v4 v5 M16) fun M20 => (if v6 = 0 then
  hb (f_Ps_ownersOnAll S v0 M20) fun r24 M23 => some (r24, M23) else hb (f_Ps_ownersOnSome S v0 M20) fun r27 M26 => some (r27, M26))
  else some ((-1 : Int32), M3))))
def f_History_takeBack (S : hm_S) (v0 : Nat) (v1 : Nat) (M : hm_M) : Option (Int32 × hm_M) :=
  hg (S v0 = some (.inr 1)) <| (if (M.1 v0 2) = 0 then some ((0 : Int32), M) else hl (hm_wI M v0 2 ((M.1 v0 2) - (1 : Int32))) fun M3 =>
  hl (hm_wI M3 v0 3 ((((M3.1 v0 3) + (20 : Int32)) - (1 : Int32)) - (((M3.1 v0 3) + (20 : Int32)) - (1 : Int32)) / (20 : Int32) * (20 : Int32))) fun M5 =>
  hg (M5.2.2 v0 1 ≠ 0) <| hg (hm_ib S (M5.2.2 v0 1) .int (M5.1 v0 3) = true) <| (if (M5.1 (M5.2.2 v0 1) (M5.1 v0 3).toNatClampNeg) = (-1 : Int32) then
  hg (M5.2.2 v0 0 ≠ 0) <| hg (hm_ib S (M5.2.2 v0 0) .int (M5.1 v0 3) = true) <| hg (S v1 = some (.inr 2)) <|
  hv (f_Hold_turn S v1 (M5.1 (M5.2.2 v0 0) (M5.1 v0 3).toNatClampNeg) M5) fun M22 => some ((1 : Int32), M22) else hg (M5.2.2 v0 0 ≠ 0) <|
  hg (hm_ib S (M5.2.2 v0 0) .int (M5.1 v0 3) = true) <| hg (S v1 = some (.inr 2)) <|
  hv (f_Hold_swap S v1 (M5.1 (M5.2.2 v0 0) (M5.1 v0 3).toNatClampNeg) (M5.1 (M5.2.2 v0 1) (M5.1 v0 3).toNatClampNeg) M5) fun M16 =>
  some ((1 : Int32), M16)))
def f_Ps_undo (S : hm_S) (v0 : Nat) (M : hm_M) : Option (Int32 × hm_M) :=
  hg (S v0 = some (.inr 11)) <| hg (M.2.2 v0 3 ≠ 0) <| hg (M.2.2 v0 2 ≠ 0) <| hg (S (M.2.2 v0 3) = some (.inr 1)) <|
  hb (f_History_takeBack S (M.2.2 v0 3) (M.2.2 v0 2) M) fun r7 M6 => hg (r7 = 0 ∨ r7 = 1) <| some (r7, M6)
def b_Ps_when_2 (S : hm_S) (k22 : Nat → Int32 → Int32 → Int32 → Int32 → Int32 → hm_M → Option (Int32 × hm_M)) (v0 : Nat) (v1 : Int32) (v2 : Int32) (v3 : Int32) (v4 : Int32) (v5 : Int32) (v6 : Int32) (M : hm_M) : Option (Int32 × hm_M) :=
  (if v6 = v3 then k22 v0 v1 v2 v3 (v4 + (1 : Int32)) (v5 + (1 : Int32)) M else k22 v0 v1 v2 v3 v4 (v5 + (1 : Int32)) M)
def b_Ps_when_1 (S : hm_S) (k22 : Nat → Int32 → Int32 → Int32 → Int32 → Int32 → hm_M → Option (Int32 × hm_M)) (v0 : Nat) (v1 : Int32) (v2 : Int32) (v3 : Int32) (v4 : Int32) (v5 : Int32) (M : hm_M) : Option (Int32 × hm_M) :=
  (if (1248 : Int32) ≤ v5 then (if v1 = 0 then some (v2, M) else (if v1 = (1 : Int32) then some (v3, M) else some (v4, M)))
  else hg (S v0 = some (.inr 11)) <| hb (f_Ps_candlesAt S v0 v5 M) fun r7 M6 => (if v3 ≤ r7 then b_Ps_when_2 S k22 v0 v1 v2 v3 v4 v5 r7 M6
  else b_Ps_when_2 S k22 v0 v1 v5 r7 (0 : Int32) v5 r7 M6))
def f_Ps_when_1 (S : hm_S) (n : Nat) : Nat → Int32 → Int32 → Int32 → Int32 → Int32 → hm_M → Option (Int32 × hm_M) := hm_it (b_Ps_when_1 S ) (fun _ _ _ _ _ _ _ => none) n
def f_Ps_when (S : hm_S) (v0 : Nat) (v1 : Int32) (M : hm_M) : Option (Int32 × hm_M) :=
  (if v1 < 0 then some ((-1 : Int32), M) else (if v1 ≤ (2 : Int32) then f_Ps_when_1 S hN v0 v1 (0 : Int32) (9 : Int32) (0 : Int32) (0 : Int32) M
  else some ((-1 : Int32), M)))
def f_Ps_worth (S : hm_S) (v0 : Nat) (v1 : Int32) (v2 : Int32) (M : hm_M) : Option (Int32 × hm_M) :=
  hg (S v0 = some (.inr 11)) <| hb (f_Ps_isGuild S v0 v1 M) fun r4 M3 => (if r4 = 0 then some ((-1 : Int32), M3)
  else hb (f_Ps_isPane S v0 v2 M3) fun r8 M7 => (if r8 = 0 then some ((-1 : Int32), M7) else hg (M7.2.2 v0 4 ≠ 0) <| hg (M7.2.2 v0 1 ≠ 0) <|
  hg (S (M7.2.2 v0 1) = some (.inr 4)) <| hg (M7.2.2 (M7.2.2 v0 1) 0 ≠ 0) <| hb (f_Ps_yearNow S v0 M7) fun r16 M15 =>
  hg (S (M7.2.2 v0 4) = some (.inr 6)) <| hb (f_Rents_worthTo S (M7.2.2 v0 4) (M7.2.2 (M7.2.2 v0 1) 0) r16 v1 v2 M15) fun r20 M19 => some (r20, M19)))
def f_Ps_yields (S : hm_S) (v0 : Nat) (v1 : Int32) (M : hm_M) : Option (Int32 × hm_M) :=
  hg (S v0 = some (.inr 11)) <| hb (f_Ps_isPane S v0 v1 M) fun r4 M3 => (if r4 = 0 then some ((-1 : Int32), M3) else hg (M3.2.2 v0 4 ≠ 0) <|
  hb (f_Ps_yearNow S v0 M3) fun r9 M8 => hg (S (M3.2.2 v0 4) = some (.inr 6)) <| hb (f_Rents_given S (M3.2.2 v0 4) r9 v1 M8) fun r13 M12 =>
  some (r13, M12))
def f_Md_both (S : hm_S) (v0 : Int32) (v1 : Int32) (v2 : Int32) (M : hm_M) : Option (Int32 × hm_M) :=
  (if v0 = (4 : Int32) then some ((v1 + v2), M) else if v0 = (5 : Int32) then some ((v1 - v2), M) else if v0 = (6 : Int32) then some ((v1 * v2), M)
  else if v0 = (7 : Int32) then (if v2 ≤ v1 then some ((0 : Int32), M) else some ((1 : Int32), M)) else if v0 = (8 : Int32) then (if v1 = v2 then
  some ((1 : Int32), M) else some ((0 : Int32), M)) else if v0 = (9 : Int32) then (if v1 = 0 then some ((0 : Int32), M) else (if v2 = 0 then
  some ((0 : Int32), M) else some ((1 : Int32), M))) else (if v1 = 0 then (if v2 = 0 then some ((0 : Int32), M) else some ((1 : Int32), M))
  else some ((1 : Int32), M)))
def b_Md_worthAt_4 (S : hm_S) (k4 : Nat → Int32 → Int32 → hm_M → Option (Int32 × hm_M)) (v0 : Nat) (v2 : Int32) (v3 : Int32) (s0 : Int32) (s1 : Int32) (s2 : Nat) (M : hm_M) : Option (Int32 × hm_M) :=
  hg (hm_ib S s2 .int s1 = true) <| hl (hm_wI M s2 s1.toNatClampNeg s0) fun M3 => k4 v0 v2 (v3 + (1 : Int32)) M3
def b_Md_worthAt_3 (S : hm_S) (k4 : Nat → Int32 → Int32 → hm_M → Option (Int32 × hm_M)) (v0 : Nat) (v2 : Int32) (v3 : Int32) (s0 : Int32) (s1 : Int32) (s2 : Nat) (M : hm_M) : Option (Int32 × hm_M) :=
  hg (hm_ib S s2 .int s1 = true) <| hl (hm_wI M s2 s1.toNatClampNeg s0) fun M3 => k4 v0 (v2 + (1 : Int32)) (v3 + (1 : Int32)) M3
def b_Md_worthAt_2 (S : hm_S) (k4 : Nat → Int32 → Int32 → hm_M → Option (Int32 × hm_M)) (v0 : Nat) (v2 : Int32) (v3 : Int32) (v4 : Int32) (M : hm_M) : Option (Int32 × hm_M) :=
  hg (S v0 = some (.inr 12)) <| hg (M.2.2 v0 19 ≠ 0) <| (if v4 = (1 : Int32) then hg (M.2.2 v0 12 ≠ 0) <| hg (hm_ib S (M.2.2 v0 12) .int v3 = true) <|
  b_Md_worthAt_3 S k4 v0 v2 v3 (M.1 (M.2.2 v0 12) v3.toNatClampNeg) v2 (M.2.2 v0 19) M else hg (M.2.2 v0 18 ≠ 0) <| hg (M.2.2 v0 12 ≠ 0) <|
  hg (hm_ib S (M.2.2 v0 12) .int v3 = true) <| hg (hm_ib S (M.2.2 v0 18) .int (M.1 (M.2.2 v0 12) v3.toNatClampNeg) = true) <|
  b_Md_worthAt_3 S k4 v0 v2 v3 (M.1 (M.2.2 v0 18) (M.1 (M.2.2 v0 12) v3.toNatClampNeg).toNatClampNeg) v2 (M.2.2 v0 19) M)
def b_Md_worthAt_1 (S : hm_S) (k4 : Nat → Int32 → Int32 → hm_M → Option (Int32 × hm_M)) (v0 : Nat) (v2 : Int32) (v3 : Int32) (M : hm_M) : Option (Int32 × hm_M) :=
  hg (S v0 = some (.inr 12)) <| hg (M.2.2 v0 11 ≠ 0) <| hg (hm_ib S (M.2.2 v0 11) .int v3 = true) <| (if (M.1 (M.2.2 v0 11) v3.toNatClampNeg) = 0 then
  hg (M.2.2 v0 19 ≠ 0) <| hg (hm_ib S (M.2.2 v0 19) .int (0 : Int32) = true) <| some ((M.1 (M.2.2 v0 19) (0 : Int32).toNatClampNeg), M)
  else hl ((M.1 (M.2.2 v0 11) v3.toNatClampNeg) : Int32) fun x9 => (if x9 = (1 : Int32) then b_Md_worthAt_2 S k4 v0 v2 v3 x9 M
  else (if x9 = (2 : Int32) then b_Md_worthAt_2 S k4 v0 v2 v3 x9 M else (if x9 = (3 : Int32) then hg (M.2.2 v0 19 ≠ 0) <|
  hg (hm_ib S (M.2.2 v0 19) .int (v2 - (1 : Int32)) = true) <| (if (M.1 (M.2.2 v0 19) (v2 - (1 : Int32)).toNatClampNeg) = 0 then
  b_Md_worthAt_4 S k4 v0 v2 v3 (1 : Int32) (v2 - (1 : Int32)) (M.2.2 v0 19) M
  else b_Md_worthAt_4 S k4 v0 v2 v3 (0 : Int32) (v2 - (1 : Int32)) (M.2.2 v0 19) M) else hg (M.2.2 v0 19 ≠ 0) <|
  hg (hm_ib S (M.2.2 v0 19) .int ((v2 + (-1 : Int32)) - (1 : Int32)) = true) <| hg (hm_ib S (M.2.2 v0 19) .int (v2 + (-1 : Int32)) = true) <|
  hb (f_Md_both S x9 (M.1 (M.2.2 v0 19) ((v2 + (-1 : Int32)) - (1 : Int32)).toNatClampNeg) (M.1 (M.2.2 v0 19) (v2 + (-1 : Int32)).toNatClampNeg) M) fun r21 M20 =>
  hl (hm_wI M20 (M.2.2 v0 19) ((v2 + (-1 : Int32)) - (1 : Int32)).toNatClampNeg r21) fun M22 => k4 v0 (v2 + (-1 : Int32)) (v3 + (1 : Int32)) M22))))
def f_Md_worthAt_1 (S : hm_S) (n : Nat) : Nat → Int32 → Int32 → hm_M → Option (Int32 × hm_M) := hm_it (b_Md_worthAt_1 S ) (fun _ _ _ _ => none) n
def f_Md_worthAt (S : hm_S) (v0 : Nat) (v1 : Int32) (M : hm_M) : Option (Int32 × hm_M) :=
  f_Md_worthAt_1 S hN v0 (0 : Int32) v1 M
def f_Md_isDark (S : hm_S) (v0 : Nat) (v1 : Int32) (v2 : Int32) (M : hm_M) : Option (Int32 × hm_M) :=
  hg (S v0 = some (.inr 12)) <| hg (M.2.2 v0 18 ≠ 0) <| hg (hm_ib S (M.2.2 v0 18) .int (0 : Int32) = true) <|
  hl (hm_wI M (M.2.2 v0 18) (0 : Int32).toNatClampNeg v1) fun M5 => hg (M5.2.2 v0 18 ≠ 0) <| hg (hm_ib S (M5.2.2 v0 18) .int (1 : Int32) = true) <|
  hl (hm_wI M5 (M5.2.2 v0 18) (1 : Int32).toNatClampNeg v2) fun M10 => hg (M10.2.2 v0 10 ≠ 0) <|
  hg (hm_ib S (M10.2.2 v0 10) .int (67 : Int32) = true) <| (if 0 ≤ (M10.1 (M10.2.2 v0 10) (67 : Int32).toNatClampNeg) then
  hb (f_Md_worthAt S v0 (M10.1 (M10.2.2 v0 10) (67 : Int32).toNatClampNeg) M10) fun r18 M17 => (if r18 = 0 then some ((0 : Int32), M17)
  else some ((1 : Int32), M17)) else (if v2 < (6 : Int32) then some ((1 : Int32), M10) else (if v2 ≤ (18 : Int32) then some ((0 : Int32), M10)
  else some ((1 : Int32), M10))))
def f_Md_panes (S : hm_S) (v0 : Nat) (M : hm_M) : Option (Int32 × hm_M) :=
  hg (S v0 = some (.inr 12)) <| hg (M.2.2 v0 10 ≠ 0) <| hg (hm_ib S (M.2.2 v0 10) .int (4 : Int32) = true) <|
  some ((M.1 (M.2.2 v0 10) (4 : Int32).toNatClampNeg), M)
def f_Md_isBroken (S : hm_S) (v0 : Nat) (v1 : Int32) (M : hm_M) : Option (Int32 × hm_M) :=
  hg (S v0 = some (.inr 12)) <| hg (M.2.2 v0 20 ≠ 0) <| hg (hm_ib S (M.2.2 v0 20) .int (12 : Int32) = true) <|
  (if (((M.1 (M.2.2 v0 20) (12 : Int32).toNatClampNeg) >>> (v1 &&& 31)) &&& (1 : Int32)) = (1 : Int32) then some ((1 : Int32), M)
  else some ((0 : Int32), M))
def f_Md_ownerOf (S : hm_S) (v0 : Nat) (v1 : Int32) (M : hm_M) : Option (Int32 × hm_M) :=
  hg (S v0 = some (.inr 12)) <| hg (M.2.2 v0 20 ≠ 0) <| hg (hm_ib S (M.2.2 v0 20) .int ((0 : Int32) + v1) = true) <|
  some ((M.1 (M.2.2 v0 20) ((0 : Int32) + v1).toNatClampNeg), M)
def f_Md_paneOf (S : hm_S) (v0 : Nat) (v1 : Int32) (v2 : Int32) (M : hm_M) : Option (Int32 × hm_M) :=
  hg (S v0 = some (.inr 12)) <| hg (M.2.2 v0 10 ≠ 0) <| hg (hm_ib S (M.2.2 v0 10) .int (((17 : Int32) + ((4 : Int32) * v1)) + v2) = true) <|
  some ((M.1 (M.2.2 v0 10) (((17 : Int32) + ((4 : Int32) * v1)) + v2).toNatClampNeg), M)
def f_Md_isOn (S : hm_S) (v0 : Nat) (v1 : Int32) (v2 : Int32) (M : hm_M) : Option (Int32 × hm_M) :=
  (if v1 < 0 then some ((0 : Int32), M) else hg (S v0 = some (.inr 12)) <| hg (M.2.2 v0 10 ≠ 0) <|
  hg (hm_ib S (M.2.2 v0 10) .int (0 : Int32) = true) <| (if (M.1 (M.2.2 v0 10) (0 : Int32).toNatClampNeg) ≤ v1 then some ((0 : Int32), M)
  else (if v2 < 0 then some ((0 : Int32), M) else hg (hm_ib S (M.2.2 v0 10) .int (1 : Int32) = true) <|
  (if (M.1 (M.2.2 v0 10) (1 : Int32).toNatClampNeg) ≤ v2 then some ((0 : Int32), M) else some ((1 : Int32), M)))))
def b_Md_findLight_4 (S : hm_S) (k10 : Nat → Int32 → Int32 → Int32 → Int32 → hm_M → Option hm_M) (v0 : Nat) (v1 : Int32) (v2 : Int32) (v3 : Int32) (v4 : Int32) (s0 : Int32) (s1 : Int32) (s2 : Nat) (M : hm_M) : Option hm_M :=
  hg (hm_ib S s2 .int s1 = true) <| hl (hm_wI M s2 s1.toNatClampNeg s0) fun M3 => k10 v0 v1 v2 v3 (v4 + (1 : Int32)) M3
def b_Md_findLight_3 (S : hm_S) (k10 : Nat → Int32 → Int32 → Int32 → Int32 → hm_M → Option hm_M) (v0 : Nat) (v1 : Int32) (v2 : Int32) (v3 : Int32) (v4 : Int32) (v5 : Int32) (s0 : Int32) (M : hm_M) : Option hm_M :=
  hg (S v0 = some (.inr 12)) <| hg (M.2.2 v0 24 ≠ 0) <| hb (f_Md_isOn S v0 v5 s0 M) fun r5 M4 => (if r5 = 0 then
  b_Md_findLight_4 S k10 v0 v1 v2 v3 v4 (-1 : Int32) v4 (M.2.2 v0 24) M4
  else b_Md_findLight_4 S k10 v0 v1 v2 v3 v4 (((8 : Int32) * s0) + v5) v4 (M.2.2 v0 24) M4)
def b_Md_findLight_2 (S : hm_S) (k10 : Nat → Int32 → Int32 → Int32 → Int32 → hm_M → Option hm_M) (v0 : Nat) (v1 : Int32) (v2 : Int32) (v3 : Int32) (v4 : Int32) (s0 : Int32) (s1 : Int32) (M : hm_M) : Option hm_M :=
  hl ((s1 + s0) : Int32) fun x1 => hg (S v0 = some (.inr 12)) <| hg (M.2.2 v0 10 ≠ 0) <| hg (hm_ib S (M.2.2 v0 10) .int (66 : Int32) = true) <|
  (if 0 ≤ (M.1 (M.2.2 v0 10) (66 : Int32).toNatClampNeg) then hb (f_Md_worthAt S v0 (M.1 (M.2.2 v0 10) (66 : Int32).toNatClampNeg) M) fun r10 M9 =>
  b_Md_findLight_3 S k10 v0 v1 v2 v3 v4 x1 r10 M9 else hb (f_Md_paneOf S v0 v4 (1 : Int32) M) fun r13 M12 =>
  b_Md_findLight_3 S k10 v0 v1 v2 v3 v4 x1 r13 M12)
def b_Md_findLight_1 (S : hm_S) (k10 : Nat → Int32 → Int32 → Int32 → Int32 → hm_M → Option hm_M) (v0 : Nat) (v1 : Int32) (v2 : Int32) (v3 : Int32) (v4 : Int32) (M : hm_M) : Option hm_M :=
  hg (S v0 = some (.inr 12)) <| hb (f_Md_panes S v0 M) fun r4 M3 => (if r4 ≤ v4 then some M3 else hg (M3.2.2 v0 24 ≠ 0) <|
  hg (hm_ib S (M3.2.2 v0 24) .int v4 = true) <| hl (hm_wI M3 (M3.2.2 v0 24) v4.toNatClampNeg (-1 : Int32)) fun M9 => (if v3 = 0 then
  hb (f_Md_isBroken S v0 v4 M9) fun r14 M13 => (if r14 = 0 then hb (f_Md_ownerOf S v0 v4 M13) fun r18 M17 => (if (((M13.1 v0 23) >>>
  (r18 &&& 31)) &&& (1 : Int32)) = 0 then hg (M17.2.2 v0 18 ≠ 0) <| hg (hm_ib S (M17.2.2 v0 18) .int (0 : Int32) = true) <|
  hl (hm_wI M17 (M17.2.2 v0 18) (0 : Int32).toNatClampNeg v1) fun M23 => hg (M23.2.2 v0 18 ≠ 0) <|
  hg (hm_ib S (M23.2.2 v0 18) .int (1 : Int32) = true) <| hl (hm_wI M23 (M23.2.2 v0 18) (1 : Int32).toNatClampNeg v2) fun M28 =>
  hg (M28.2.2 v0 18 ≠ 0) <| hb (f_Md_paneOf S v0 v4 (0 : Int32) M28) fun r33 M32 => hg (hm_ib S (M28.2.2 v0 18) .int (2 : Int32) = true) <|
  hl (hm_wI M32 (M28.2.2 v0 18) (2 : Int32).toNatClampNeg r33) fun M36 => hg (M36.2.2 v0 18 ≠ 0) <|
  hb (f_Md_paneOf S v0 v4 (1 : Int32) M36) fun r41 M40 => hg (hm_ib S (M36.2.2 v0 18) .int (3 : Int32) = true) <|
  hl (hm_wI M40 (M36.2.2 v0 18) (3 : Int32).toNatClampNeg r41) fun M44 => hb (f_Md_paneOf S v0 v4 (0 : Int32) M44) fun r48 M47 =>
  hg (M47.2.2 v0 10 ≠ 0) <| hg (hm_ib S (M47.2.2 v0 10) .int (65 : Int32) = true) <| (if 0 ≤ (M47.1 (M47.2.2 v0 10) (65 : Int32).toNatClampNeg) then
  hb (f_Md_worthAt S v0 (M47.1 (M47.2.2 v0 10) (65 : Int32).toNatClampNeg) M47) fun r55 M54 => b_Md_findLight_2 S k10 v0 v1 v2 v3 v4 r55 r48 M54
  else b_Md_findLight_2 S k10 v0 v1 v2 v3 v4 (v2 - (12 : Int32)) r48 M47) else k10 v0 v1 v2 v3 (v4 + (1 : Int32)) M17)
  else k10 v0 v1 v2 v3 (v4 + (1 : Int32)) M13) else k10 v0 v1 v2 v3 (v4 + (1 : Int32)) M9))
def f_Md_findLight_1 (S : hm_S) (n : Nat) : Nat → Int32 → Int32 → Int32 → Int32 → hm_M → Option hm_M := hm_it (b_Md_findLight_1 S ) (fun _ _ _ _ _ _ => none) n
def f_Md_findLight (S : hm_S) (v0 : Nat) (v1 : Int32) (v2 : Int32) (M : hm_M) : Option hm_M :=
  hg (S v0 = some (.inr 12)) <| hb (f_Md_isDark S v0 v1 v2 M) fun r4 M3 => f_Md_findLight_1 S hN v0 v1 v2 r4 (0 : Int32) M3
def b_Md_lightAt_1 (S : hm_S) (k11 : Nat → Int32 → Int32 → Int32 → Int32 → Int32 → Int32 → hm_M → Option (Int32 × hm_M)) (v0 : Nat) (v1 : Int32) (v2 : Int32) (v3 : Int32) (v4 : Int32) (v5 : Int32) (v6 : Int32) (M : hm_M) : Option (Int32 × hm_M) :=
  hg (S v0 = some (.inr 12)) <| hb (f_Md_panes S v0 M) fun r4 M3 => (if r4 ≤ v6 then (if v2 = 0 then some (v3, M3) else (if v2 = (1 : Int32) then
  some (v4, M3) else some (v5, M3))) else hg (M3.2.2 v0 24 ≠ 0) <| hg (hm_ib S (M3.2.2 v0 24) .int v6 = true) <|
  (if (M3.1 (M3.2.2 v0 24) v6.toNatClampNeg) = v1 then hb (f_Md_ownerOf S v0 v6 M3) fun r14 M13 =>
  hl ((v3 ||| ((1 : Int32) <<< (r14 &&& 31))) : Int32) fun x15 => hb (f_Md_paneOf S v0 v6 (3 : Int32) M13) fun r19 M18 =>
  hl ((v4 ||| r19) : Int32) fun x20 => k11 v0 v1 v2 x15 x20 (v5 + (1 : Int32)) (v6 + (1 : Int32)) M18
  else k11 v0 v1 v2 v3 v4 v5 (v6 + (1 : Int32)) M3))
def f_Md_lightAt_1 (S : hm_S) (n : Nat) : Nat → Int32 → Int32 → Int32 → Int32 → Int32 → Int32 → hm_M → Option (Int32 × hm_M) := hm_it (b_Md_lightAt_1 S ) (fun _ _ _ _ _ _ _ _ => none) n
def f_Md_lightAt (S : hm_S) (v0 : Nat) (v1 : Int32) (v2 : Int32) (M : hm_M) : Option (Int32 × hm_M) :=
  f_Md_lightAt_1 S hN v0 v1 v2 (0 : Int32) (0 : Int32) (0 : Int32) (0 : Int32) M
def f_Md_rentAt (S : hm_S) (v0 : Nat) (v1 : Int32) (v2 : Int32) (v3 : Int32) (v4 : Int32) (M : hm_M) : Option (Int32 × hm_M) :=
  hg (S v0 = some (.inr 12)) <| hg (M.2.2 v0 10 ≠ 0) <| hg (hm_ib S (M.2.2 v0 10) .int (68 : Int32) = true) <|
  (if 0 ≤ (M.1 (M.2.2 v0 10) (68 : Int32).toNatClampNeg) then hg (M.2.2 v0 18 ≠ 0) <| hg (hm_ib S (M.2.2 v0 18) .int (0 : Int32) = true) <|
  hl (hm_wI M (M.2.2 v0 18) (0 : Int32).toNatClampNeg v1) fun M9 => hg (M9.2.2 v0 18 ≠ 0) <| hg (hm_ib S (M9.2.2 v0 18) .int (1 : Int32) = true) <|
  hl (hm_wI M9 (M9.2.2 v0 18) (1 : Int32).toNatClampNeg v2) fun M14 => hg (M14.2.2 v0 18 ≠ 0) <|
  hg (hm_ib S (M14.2.2 v0 18) .int (4 : Int32) = true) <|
  hl (hm_wI M14 (M14.2.2 v0 18) (4 : Int32).toNatClampNeg (v3 - v3 / (8 : Int32) * (8 : Int32))) fun M19 => hg (M19.2.2 v0 18 ≠ 0) <|
  hg (hm_ib S (M19.2.2 v0 18) .int (5 : Int32) = true) <| hl (hm_wI M19 (M19.2.2 v0 18) (5 : Int32).toNatClampNeg (v3 / (8 : Int32))) fun M24 =>
  hg (M24.2.2 v0 18 ≠ 0) <| hg (hm_ib S (M24.2.2 v0 18) .int (6 : Int32) = true) <|
  hl (hm_wI M24 (M24.2.2 v0 18) (6 : Int32).toNatClampNeg v4) fun M29 => hg (M29.2.2 v0 10 ≠ 0) <|
  hg (hm_ib S (M29.2.2 v0 10) .int (68 : Int32) = true) <|
  hb (f_Md_worthAt S v0 (M29.1 (M29.2.2 v0 10) (68 : Int32).toNatClampNeg) M29) fun r36 M35 => (if 0 ≤ r36 then (if r36 ≤ (999 : Int32) then
  some (r36, M35) else some ((999 : Int32), M35)) else some ((0 : Int32), M35)) else some ((1 : Int32), M))
def b_Md_addsYields_1 (S : hm_S) (k8 : Nat → Int32 → Int32 → Int32 → hm_M → Option hm_M) (v0 : Nat) (v1 : Int32) (v2 : Int32) (v3 : Int32) (M : hm_M) : Option hm_M :=
  hg (S v0 = some (.inr 12)) <| hb (f_Md_panes S v0 M) fun r4 M3 => (if r4 ≤ v3 then some M3 else hg (M3.2.2 v0 24 ≠ 0) <|
  hg (hm_ib S (M3.2.2 v0 24) .int v3 = true) <| (if (M3.1 (M3.2.2 v0 24) v3.toNatClampNeg) < 0 then k8 v0 v1 v2 (v3 + (1 : Int32)) M3
  else hb (f_Md_lightAt S v0 (M3.1 (M3.2.2 v0 24) v3.toNatClampNeg) (2 : Int32) M3) fun r12 M11 => hg (M11.2.2 v0 25 ≠ 0) <|
  hg (hm_ib S (M11.2.2 v0 25) .int v3 = true) <| hg (M11.2.2 v0 24 ≠ 0) <| hg (hm_ib S (M11.2.2 v0 24) .int v3 = true) <|
  hb (f_Md_rentAt S v0 v1 v2 (M11.1 (M11.2.2 v0 24) v3.toNatClampNeg) r12 M11) fun r21 M20 => hg (¬ r12 = 0) <|
  hl (hm_wI M20 (M11.2.2 v0 25) v3.toNatClampNeg ((M11.1 (M11.2.2 v0 25) v3.toNatClampNeg) + (r21 / r12))) fun M23 =>
  k8 v0 v1 v2 (v3 + (1 : Int32)) M23))
def f_Md_addsYields_1 (S : hm_S) (n : Nat) : Nat → Int32 → Int32 → Int32 → hm_M → Option hm_M := hm_it (b_Md_addsYields_1 S ) (fun _ _ _ _ _ => none) n
def f_Md_addsYields (S : hm_S) (v0 : Nat) (v1 : Int32) (v2 : Int32) (M : hm_M) : Option hm_M :=
  hg (S v0 = some (.inr 12)) <| hv (f_Md_findLight S v0 v1 v2 M) fun M3 => f_Md_addsYields_1 S hN v0 v1 v2 (0 : Int32) M3
def f_Md_isSign (S : hm_S) (v0 : Nat) (v1 : Int32) (M : hm_M) : Option (Int32 × hm_M) :=
  hg (S v0 = some (.inr 12)) <| (if (M.1 v0 8) = 0 then hg (M.2.2 v0 4 ≠ 0) <| hg (hm_ib S (M.2.2 v0 4) .int (M.1 v0 7) = true) <|
  (if (M.1 (M.2.2 v0 4) (M.1 v0 7).toNatClampNeg) = (3 : Int32) then hg (M.2.2 v0 6 ≠ 0) <| hg (hm_ib S (M.2.2 v0 6) .long (M.1 v0 7) = true) <|
  (if (lg_cmp (M.2.1 (M.2.2 v0 6) (M.1 v0 7).toNatClampNeg) v1.toInt64) = 0 then some ((1 : Int32), M) else some ((0 : Int32), M))
  else some ((0 : Int32), M)) else some ((0 : Int32), M))
def b_Md_hasSign_1 (S : hm_S) (v2 : Int32) (s0 : Int32) (s1 : Int32) (s2 : Nat) (M : hm_M) : Option (Int32 × hm_M) :=
  hg (S s2 = some (.inr 12)) <| hl (hm_wI M s2 7 (s1 + s0)) fun M2 => hg (v2 = 0 ∨ v2 = 1) <| some (v2, M2)
def f_Md_hasSign (S : hm_S) (v0 : Nat) (v1 : Int32) (M : hm_M) : Option (Int32 × hm_M) :=
  hg (S v0 = some (.inr 12)) <| hb (f_Md_isSign S v0 v1 M) fun r4 M3 => (if r4 = 0 then b_Md_hasSign_1 S r4 (0 : Int32) (M3.1 v0 7) v0 M3
  else b_Md_hasSign_1 S r4 (1 : Int32) (M3.1 v0 7) v0 M3)
def f_Md_emit (S : hm_S) (v0 : Nat) (v1 : Int32) (v2 : Int32) (M : hm_M) : Option hm_M :=
  hg (S v0 = some (.inr 12)) <| hg (M.2.2 v0 11 ≠ 0) <| hg (hm_ib S (M.2.2 v0 11) .int ((1100 : Int32) + (M.1 v0 13)) = true) <|
  hl (hm_wI M (M.2.2 v0 11) ((1100 : Int32) + (M.1 v0 13)).toNatClampNeg v1) fun M5 => hg (M5.2.2 v0 12 ≠ 0) <|
  hg (hm_ib S (M5.2.2 v0 12) .int ((1100 : Int32) + (M5.1 v0 13)) = true) <|
  hl (hm_wI M5 (M5.2.2 v0 12) ((1100 : Int32) + (M5.1 v0 13)).toNatClampNeg v2) fun M10 =>
  hl (hm_wI M10 v0 13 ((M10.1 v0 13) + (1 : Int32))) fun M12 => some M12
def b_Md_products_1 (S : hm_S) (rP : Nat → Int32 → hm_M → Option hm_M) (k5 : Nat → Int32 → hm_M → Option hm_M) (v0 : Nat) (v1 : Int32) (M : hm_M) : Option hm_M :=
  hg (S v0 = some (.inr 12)) <| hb (f_Md_hasSign S v0 (42 : Int32) M) fun r4 M3 => (if r4 = 0 then some M3 else hv (rP v0 v1 M3) fun M7 =>
  hv (f_Md_emit S v0 (6 : Int32) (0 : Int32) M7) fun M9 => k5 v0 v1 M9)
def f_Md_products_1 (S : hm_S) (rP : Nat → Int32 → hm_M → Option hm_M) (n : Nat) : Nat → Int32 → hm_M → Option hm_M := hm_it (b_Md_products_1 S rP ) (fun _ _ _ => none) n
def f_Md_products (S : hm_S) (rP : Nat → Int32 → hm_M → Option hm_M) (v0 : Nat) (v1 : Int32) (M : hm_M) : Option hm_M :=
  hg (S v0 = some (.inr 12)) <| hv (rP v0 v1 M) fun M3 => f_Md_products_1 S rP hN v0 v1 M3
def b_Md_sums_3 (S : hm_S) (rP : Nat → Int32 → hm_M → Option hm_M) (k5 : Nat → Int32 → hm_M → Option hm_M) (v0 : Nat) (v1 : Int32) (s0 : Int32) (s1 : Nat) (M : hm_M) : Option hm_M :=
  hg (S s1 = some (.inr 12)) <| hv (f_Md_emit S s1 s0 (0 : Int32) M) fun M3 => k5 v0 v1 M3
def b_Md_sums_2 (S : hm_S) (rP : Nat → Int32 → hm_M → Option hm_M) (k5 : Nat → Int32 → hm_M → Option hm_M) (v0 : Nat) (v1 : Int32) (M : hm_M) : Option hm_M :=
  hg (S v0 = some (.inr 12)) <| hb (f_Md_isSign S v0 (43 : Int32) M) fun r4 M3 => hl (hm_wI M3 v0 7 ((M3.1 v0 7) + (1 : Int32))) fun M5 =>
  hv (f_Md_products S rP v0 v1 M5) fun M8 => (if r4 = 0 then b_Md_sums_3 S rP k5 v0 v1 (5 : Int32) v0 M8
  else b_Md_sums_3 S rP k5 v0 v1 (4 : Int32) v0 M8)
def b_Md_sums_1 (S : hm_S) (rP : Nat → Int32 → hm_M → Option hm_M) (k5 : Nat → Int32 → hm_M → Option hm_M) (v0 : Nat) (v1 : Int32) (M : hm_M) : Option hm_M :=
  hg (S v0 = some (.inr 12)) <| hb (f_Md_isSign S v0 (43 : Int32) M) fun r4 M3 => (if r4 = 0 then hb (f_Md_isSign S v0 (45 : Int32) M3) fun r8 M7 =>
  (if r8 = 0 then some M7 else b_Md_sums_2 S rP k5 v0 v1 M7) else b_Md_sums_2 S rP k5 v0 v1 M3)
def f_Md_sums_1 (S : hm_S) (rP : Nat → Int32 → hm_M → Option hm_M) (n : Nat) : Nat → Int32 → hm_M → Option hm_M := hm_it (b_Md_sums_1 S rP ) (fun _ _ _ => none) n
def f_Md_sums (S : hm_S) (rP : Nat → Int32 → hm_M → Option hm_M) (v0 : Nat) (v1 : Int32) (M : hm_M) : Option hm_M :=
  hg (S v0 = some (.inr 12)) <| hv (f_Md_products S rP v0 v1 M) fun M3 => f_Md_sums_1 S rP hN v0 v1 M3
def b_Md_test_2 (S : hm_S) (rP : Nat → Int32 → hm_M → Option hm_M) (s0 : Int32) (s1 : Nat) (M : hm_M) : Option hm_M :=
  hg (S s1 = some (.inr 12)) <| hv (f_Md_emit S s1 s0 (0 : Int32) M) fun M3 => some M3
def b_Md_test_1 (S : hm_S) (rP : Nat → Int32 → hm_M → Option hm_M) (v0 : Nat) (v1 : Int32) (v2 : Int32) (M : hm_M) : Option hm_M :=
  hg (S v0 = some (.inr 12)) <| hv (f_Md_sums S rP v0 v1 M) fun M3 => (if v2 = 0 then b_Md_test_2 S rP (8 : Int32) v0 M3
  else b_Md_test_2 S rP (7 : Int32) v0 M3)
def f_Md_test (S : hm_S) (rP : Nat → Int32 → hm_M → Option hm_M) (v0 : Nat) (v1 : Int32) (M : hm_M) : Option hm_M :=
  hg (S v0 = some (.inr 12)) <| hv (f_Md_sums S rP v0 v1 M) fun M3 => hb (f_Md_isSign S v0 (60 : Int32) M3) fun r6 M5 =>
  hb (f_Md_hasSign S v0 (60 : Int32) M5) fun r9 M8 => (if r9 = 0 then hb (f_Md_hasSign S v0 (61 : Int32) M8) fun r13 M12 => (if r13 = 0 then some M12
  else b_Md_test_1 S rP v0 v1 r6 M12) else b_Md_test_1 S rP v0 v1 r6 M8)
def f_Md_isWord (S : hm_S) (v0 : Nat) (v1 : Int32) (M : hm_M) : Option (Int32 × hm_M) :=
  hg (S v0 = some (.inr 12)) <| (if (M.1 v0 8) = 0 then hg (M.2.2 v0 4 ≠ 0) <| hg (hm_ib S (M.2.2 v0 4) .int (M.1 v0 7) = true) <|
  (if (M.1 (M.2.2 v0 4) (M.1 v0 7).toNatClampNeg) = (1 : Int32) then hg (M.2.2 v0 6 ≠ 0) <| hg (hm_ib S (M.2.2 v0 6) .long (M.1 v0 7) = true) <|
  hg (M.2.2 v0 9 ≠ 0) <| hg (hm_ib S (M.2.2 v0 9) .long v1 = true) <|
  (if (lg_cmp (M.2.1 (M.2.2 v0 6) (M.1 v0 7).toNatClampNeg) (M.2.1 (M.2.2 v0 9) v1.toNatClampNeg)) = 0 then some ((1 : Int32), M)
  else some ((0 : Int32), M)) else some ((0 : Int32), M)) else some ((0 : Int32), M))
def b_Md_all_3 (S : hm_S) (rP : Nat → Int32 → hm_M → Option hm_M) (k5 : Nat → Int32 → hm_M → Option hm_M) (v0 : Nat) (v1 : Int32) (s0 : Int32) (s1 : Nat) (M : hm_M) : Option hm_M :=
  hg (S s1 = some (.inr 12)) <| hv (f_Md_emit S s1 s0 (0 : Int32) M) fun M3 => k5 v0 v1 M3
def b_Md_all_2 (S : hm_S) (rP : Nat → Int32 → hm_M → Option hm_M) (k5 : Nat → Int32 → hm_M → Option hm_M) (v0 : Nat) (v1 : Int32) (M : hm_M) : Option hm_M :=
  hg (S v0 = some (.inr 12)) <| hb (f_Md_isWord S v0 (13 : Int32) M) fun r4 M3 => hl (hm_wI M3 v0 7 ((M3.1 v0 7) + (1 : Int32))) fun M5 =>
  hv (f_Md_test S rP v0 v1 M5) fun M8 => (if r4 = 0 then b_Md_all_3 S rP k5 v0 v1 (10 : Int32) v0 M8 else b_Md_all_3 S rP k5 v0 v1 (9 : Int32) v0 M8)
def b_Md_all_1 (S : hm_S) (rP : Nat → Int32 → hm_M → Option hm_M) (k5 : Nat → Int32 → hm_M → Option hm_M) (v0 : Nat) (v1 : Int32) (M : hm_M) : Option hm_M :=
  hg (S v0 = some (.inr 12)) <| hb (f_Md_isWord S v0 (13 : Int32) M) fun r4 M3 => (if r4 = 0 then hb (f_Md_isWord S v0 (14 : Int32) M3) fun r8 M7 =>
  (if r8 = 0 then some M7 else b_Md_all_2 S rP k5 v0 v1 M7) else b_Md_all_2 S rP k5 v0 v1 M3)
def f_Md_all_1 (S : hm_S) (rP : Nat → Int32 → hm_M → Option hm_M) (n : Nat) : Nat → Int32 → hm_M → Option hm_M := hm_it (b_Md_all_1 S rP ) (fun _ _ _ => none) n
def f_Md_all (S : hm_S) (rP : Nat → Int32 → hm_M → Option hm_M) (v0 : Nat) (v1 : Int32) (M : hm_M) : Option hm_M :=
  hg (S v0 = some (.inr 12)) <| hv (f_Md_test S rP v0 v1 M) fun M3 => f_Md_all_1 S rP hN v0 v1 M3
def f_Md_isPane (S : hm_S) (v0 : Nat) (v1 : Int32) (M : hm_M) : Option (Int32 × hm_M) :=
  (if v1 < 0 then some ((0 : Int32), M) else hg (S v0 = some (.inr 12)) <| hb (f_Md_panes S v0 M) fun r5 M4 => (if r5 ≤ v1 then some ((0 : Int32), M4)
  else some ((1 : Int32), M4)))
def f_Md_areUnlike (S : hm_S) (v0 : Nat) (v1 : Int32) (v2 : Int32) (M : hm_M) : Option (Int32 × hm_M) :=
  hg (S v0 = some (.inr 12)) <| hb (f_Md_isPane S v0 v1 M) fun r4 M3 => (if r4 = 0 then some ((0 : Int32), M3)
  else hb (f_Md_isPane S v0 v2 M3) fun r8 M7 => (if r8 = 0 then some ((0 : Int32), M7) else hb (f_Md_ownerOf S v0 v1 M7) fun r12 M11 =>
  hb (f_Md_ownerOf S v0 v2 M11) fun r15 M14 => (if r12 = r15 then some ((0 : Int32), M14) else some ((1 : Int32), M14))))
def b_Md_findYields_2 (S : hm_S) (k23 : Nat → Int32 → hm_M → Option hm_M) (v0 : Nat) (v1 : Int32) (M : hm_M) : Option hm_M :=
  (if (1248 : Int32) ≤ v1 then some M else hg (S v0 = some (.inr 12)) <|
  hv (f_Md_addsYields S v0 (v1 / (24 : Int32)) (v1 - v1 / (24 : Int32) * (24 : Int32)) M) fun M4 => k23 v0 (v1 + (1 : Int32)) M4)
def f_Md_findYields_2 (S : hm_S) (n : Nat) : Nat → Int32 → hm_M → Option hm_M := hm_it (b_Md_findYields_2 S ) (fun _ _ _ => none) n
def b_Md_findYields_1 (S : hm_S) (k2 : Nat → Int32 → hm_M → Option hm_M) (v0 : Nat) (v1 : Int32) (M : hm_M) : Option hm_M :=
  (if (12 : Int32) ≤ v1 then f_Md_findYields_2 S hN v0 (0 : Int32) M else hg (S v0 = some (.inr 12)) <| hg (M.2.2 v0 25 ≠ 0) <|
  hg (hm_ib S (M.2.2 v0 25) .int v1 = true) <| hl (hm_wI M (M.2.2 v0 25) v1.toNatClampNeg (0 : Int32)) fun M6 => k2 v0 (v1 + (1 : Int32)) M6)
def f_Md_findYields_1 (S : hm_S) (n : Nat) : Nat → Int32 → hm_M → Option hm_M := hm_it (b_Md_findYields_1 S ) (fun _ _ _ => none) n
def f_Md_findYields (S : hm_S) (v0 : Nat) (M : hm_M) : Option hm_M :=
  f_Md_findYields_1 S hN v0 (0 : Int32) M
def b_Md_bits_1 (S : hm_S) (k4 : Int32 → Int32 → Int32 → hm_M → Option (Int32 × hm_M)) (v0 : Int32) (v1 : Int32) (v2 : Int32) (M : hm_M) : Option (Int32 × hm_M) :=
  (if (12 : Int32) ≤ v2 then some (v1, M) else hl ((v1 + ((v0 >>> (v2 &&& 31)) &&& (1 : Int32))) : Int32) fun x2 => k4 v0 x2 (v2 + (1 : Int32)) M)
def f_Md_bits_1 (S : hm_S) (n : Nat) : Int32 → Int32 → Int32 → hm_M → Option (Int32 × hm_M) := hm_it (b_Md_bits_1 S ) (fun _ _ _ _ => none) n
def f_Md_bits (S : hm_S) (v0 : Int32) (M : hm_M) : Option (Int32 × hm_M) :=
  f_Md_bits_1 S hN v0 (0 : Int32) (0 : Int32) M
def f_Md_worthOf (S : hm_S) (v0 : Nat) (v1 : Int32) (v2 : Int32) (M : hm_M) : Option (Int32 × hm_M) :=
  hg (S v0 = some (.inr 12)) <| hg (M.2.2 v0 25 ≠ 0) <| hg (hm_ib S (M.2.2 v0 25) .int v2 = true) <| hg (M.2.2 v0 10 ≠ 0) <|
  hg (hm_ib S (M.2.2 v0 10) .int ((5 : Int32) + ((2 : Int32) * v1)) = true) <| hb (f_Md_paneOf S v0 v2 (3 : Int32) M) fun r10 M9 =>
  hb (f_Md_bits S ((M.1 (M.2.2 v0 10) ((5 : Int32) + ((2 : Int32) * v1)).toNatClampNeg) &&& r10) M9) fun r13 M12 =>
  some (((M.1 (M.2.2 v0 25) v2.toNatClampNeg) * ((1 : Int32) + r13)), M12)
def f_Md_gainOf (S : hm_S) (v0 : Nat) (v1 : Int32) (v2 : Int32) (M : hm_M) : Option (Int32 × hm_M) :=
  hg (S v0 = some (.inr 12)) <| hb (f_Md_ownerOf S v0 v1 M) fun r4 M3 => hb (f_Md_ownerOf S v0 v2 M3) fun r7 M6 =>
  hb (f_Md_worthOf S v0 r4 v2 M6) fun r10 M9 => hb (f_Md_worthOf S v0 r4 v1 M9) fun r13 M12 => hl ((r10 - r13) : Int32) fun x14 =>
  hb (f_Md_worthOf S v0 r7 v1 M12) fun r18 M17 => hb (f_Md_worthOf S v0 r7 v2 M17) fun r21 M20 => hl ((r18 - r21) : Int32) fun x22 => (if x14 ≤ 0 then
  some ((0 : Int32), M20) else (if x22 ≤ 0 then some ((0 : Int32), M20) else some ((x14 + x22), M20)))
def b_Md_tries_4 (S : hm_S) (rP : Nat → Int32 → Int32 → hm_M → Option hm_M) (k84 : Nat → Int32 → Int32 → Int32 → hm_M → Option hm_M) (v0 : Nat) (v1 : Int32) (v2 : Int32) (v3 : Int32) (s0 : Int32) (M : hm_M) : Option hm_M :=
  (if s0 ≤ 0 then k84 v0 v1 v2 (v3 + (1 : Int32)) M else hg (S v0 = some (.inr 12)) <| hg (M.2.2 v0 26 ≠ 0) <|
  hg (hm_ib S (M.2.2 v0 26) .int v1 = true) <| hl (hm_wI M (M.2.2 v0 26) v1.toNatClampNeg v3) fun M6 => hg (M6.2.2 v0 26 ≠ 0) <|
  hg (hm_ib S (M6.2.2 v0 26) .int v3 = true) <| hl (hm_wI M6 (M6.2.2 v0 26) v3.toNatClampNeg v1) fun M11 =>
  hv (rP v0 (v1 + (1 : Int32)) (v2 + s0) M11) fun M14 => hg (M14.2.2 v0 26 ≠ 0) <| hg (hm_ib S (M14.2.2 v0 26) .int v3 = true) <|
  hl (hm_wI M14 (M14.2.2 v0 26) v3.toNatClampNeg (-1 : Int32)) fun M18 => k84 v0 v1 v2 (v3 + (1 : Int32)) M18)
def b_Md_tries_3 (S : hm_S) (rP : Nat → Int32 → Int32 → hm_M → Option hm_M) (k84 : Nat → Int32 → Int32 → Int32 → hm_M → Option hm_M) (v0 : Nat) (v1 : Int32) (v2 : Int32) (v3 : Int32) (M : hm_M) : Option hm_M :=
  b_Md_tries_4 S rP k84 v0 v1 v2 v3 (0 : Int32) M
def b_Md_tries_2 (S : hm_S) (rP : Nat → Int32 → Int32 → hm_M → Option hm_M) (k84 : Nat → Int32 → Int32 → Int32 → hm_M → Option hm_M) (v0 : Nat) (v1 : Int32) (v2 : Int32) (v3 : Int32) (M : hm_M) : Option hm_M :=
  hg (S v0 = some (.inr 12)) <| hb (f_Md_panes S v0 M) fun r4 M3 => (if r4 ≤ v3 then hg (M3.2.2 v0 26 ≠ 0) <|
  hg (hm_ib S (M3.2.2 v0 26) .int v1 = true) <| hl (hm_wI M3 (M3.2.2 v0 26) v1.toNatClampNeg (-1 : Int32)) fun M9 => some M9
  else hg (M3.2.2 v0 26 ≠ 0) <| hg (hm_ib S (M3.2.2 v0 26) .int v3 = true) <| (if 0 ≤ (M3.1 (M3.2.2 v0 26) v3.toNatClampNeg) then
  b_Md_tries_3 S rP k84 v0 v1 v2 v3 M3 else hb (f_Md_areUnlike S v0 v1 v3 M3) fun r17 M16 => (if r17 = 0 then b_Md_tries_3 S rP k84 v0 v1 v2 v3 M16
  else hb (f_Md_gainOf S v0 v1 v3 M16) fun r21 M20 => b_Md_tries_4 S rP k84 v0 v1 v2 v3 r21 M20)))
def f_Md_tries_2 (S : hm_S) (rP : Nat → Int32 → Int32 → hm_M → Option hm_M) (n : Nat) : Nat → Int32 → Int32 → Int32 → hm_M → Option hm_M := hm_it (b_Md_tries_2 S rP ) (fun _ _ _ _ _ => none) n
def b_Md_tries_1 (S : hm_S) (rP : Nat → Int32 → Int32 → hm_M → Option hm_M) (k23 : Nat → Int32 → Int32 → hm_M → Option hm_M) (v0 : Nat) (v1 : Int32) (v3 : Int32) (M : hm_M) : Option hm_M :=
  (if v1 ≤ v3 then some M else hg (S v0 = some (.inr 12)) <| hg (M.2.2 v0 27 ≠ 0) <| hg (M.2.2 v0 26 ≠ 0) <|
  hg (hm_ib S (M.2.2 v0 26) .int v3 = true) <| hg (hm_ib S (M.2.2 v0 27) .int v3 = true) <|
  hl (hm_wI M (M.2.2 v0 27) v3.toNatClampNeg (M.1 (M.2.2 v0 26) v3.toNatClampNeg)) fun M9 => k23 v0 v1 (v3 + (1 : Int32)) M9)
def f_Md_tries_1 (S : hm_S) (rP : Nat → Int32 → Int32 → hm_M → Option hm_M) (n : Nat) : Nat → Int32 → Int32 → hm_M → Option hm_M := hm_it (b_Md_tries_1 S rP ) (fun _ _ _ _ => none) n
def e_Md_tries (S : hm_S) (rP : Nat → Int32 → Int32 → hm_M → Option hm_M) (v0 : Nat) (v1 : Int32) (v2 : Int32) (M : hm_M) : Option hm_M :=
  hg (S v0 = some (.inr 12)) <| hb (f_Md_panes S v0 M) fun r4 M3 => (if v1 = r4 then (if v2 ≤ (M3.1 v0 28) then some M3
  else hl (hm_wI M3 v0 28 v2) fun M19 => f_Md_tries_1 S rP hN v0 v1 (0 : Int32) M19) else hg (M3.2.2 v0 26 ≠ 0) <|
  hg (hm_ib S (M3.2.2 v0 26) .int v1 = true) <| (if (M3.1 (M3.2.2 v0 26) v1.toNatClampNeg) < 0 then
  hl (hm_wI M3 (M3.2.2 v0 26) v1.toNatClampNeg v1) fun M10 => hv (rP v0 (v1 + (1 : Int32)) v2 M10) fun M13 =>
  hl ((v1 + (1 : Int32)) : Int32) fun x14 => f_Md_tries_2 S rP hN v0 v1 v2 x14 M13 else hv (rP v0 (v1 + (1 : Int32)) v2 M3) fun M17 => some M17))
def f_Md_tries (S : hm_S) (n : Nat) : Nat → Int32 → Int32 → hm_M → Option hm_M := hm_it (e_Md_tries S) (fun _ _ _ _ => none) n
def b_Md_best_2 (S : hm_S) (k26 : Nat → Int32 → Int32 → hm_M → Option (Int32 × hm_M)) (v0 : Nat) (v1 : Int32) (v2 : Int32) (M : hm_M) : Option (Int32 × hm_M) :=
  (if (12 : Int32) ≤ v2 then hg (S v0 = some (.inr 12)) <| hl (hm_wI M v0 28 (-1 : Int32)) fun M3 =>
  hv (f_Md_tries S hD v0 (0 : Int32) (0 : Int32) M3) fun M6 => (if v1 = (-1 : Int32) then some ((M6.1 v0 28), M6) else hg (M6.2.2 v0 27 ≠ 0) <|
  hg (hm_ib S (M6.2.2 v0 27) .int v1 = true) <| some ((M6.1 (M6.2.2 v0 27) v1.toNatClampNeg), M6)) else hg (S v0 = some (.inr 12)) <|
  hg (M.2.2 v0 26 ≠ 0) <| hg (hm_ib S (M.2.2 v0 26) .int v2 = true) <| hl (hm_wI M (M.2.2 v0 26) v2.toNatClampNeg (-1 : Int32)) fun M15 =>
  k26 v0 v1 (v2 + (1 : Int32)) M15)
def f_Md_best_2 (S : hm_S) (n : Nat) : Nat → Int32 → Int32 → hm_M → Option (Int32 × hm_M) := hm_it (b_Md_best_2 S ) (fun _ _ _ _ => none) n
def b_Md_best_1 (S : hm_S) (v0 : Nat) (v1 : Int32) (M : hm_M) : Option (Int32 × hm_M) :=
  hg (S v0 = some (.inr 12)) <| hv (f_Md_findYields S v0 M) fun M3 => f_Md_best_2 S hN v0 v1 (0 : Int32) M3
def f_Md_best (S : hm_S) (v0 : Nat) (v1 : Int32) (M : hm_M) : Option (Int32 × hm_M) :=
  hg (S v0 = some (.inr 12)) <| hl (hm_wI M v0 0 (0 : Int32)) fun M2 => (if v1 = (-1 : Int32) then b_Md_best_1 S v0 v1 M2
  else hb (f_Md_isPane S v0 v1 M2) fun r7 M6 => (if r7 = 0 then some ((-1 : Int32), M6) else b_Md_best_1 S v0 v1 M6))
def b_Md_copies_1 (S : hm_S) (k3 : Nat → Int32 → Int32 → Int32 → Int32 → hm_M → Option hm_M) (v0 : Nat) (v1 : Int32) (v2 : Int32) (v3 : Int32) (v4 : Int32) (M : hm_M) : Option hm_M :=
  (if v3 ≤ v4 then some M else hg (S v0 = some (.inr 12)) <| hg (M.2.2 v0 20 ≠ 0) <|
  hg (hm_ib S (M.2.2 v0 20) .int (((40 : Int32) * v1) + v4) = true) <| hg (hm_ib S (M.2.2 v0 20) .int (((40 : Int32) * v2) + v4) = true) <|
  hl (hm_wI M (M.2.2 v0 20) (((40 : Int32) * v2) + v4).toNatClampNeg (M.1 (M.2.2 v0 20) (((40 : Int32) * v1) + v4).toNatClampNeg)) fun M8 =>
  k3 v0 v1 v2 v3 (v4 + (1 : Int32)) M8)
def f_Md_copies_1 (S : hm_S) (n : Nat) : Nat → Int32 → Int32 → Int32 → Int32 → hm_M → Option hm_M := hm_it (b_Md_copies_1 S ) (fun _ _ _ _ _ _ => none) n
def f_Md_copies (S : hm_S) (v0 : Nat) (v1 : Int32) (v2 : Int32) (v3 : Int32) (M : hm_M) : Option hm_M :=
  f_Md_copies_1 S hN v0 v1 v2 v3 (0 : Int32) M
def b_Md_keeps_2 (S : hm_S) (v0 : Nat) (M : hm_M) : Option hm_M :=
  hg (S v0 = some (.inr 12)) <| hv (f_Md_copies S v0 (0 : Int32) ((5 : Int32) + (M.1 v0 21)) (40 : Int32) M) fun M3 =>
  hl (hm_wI M3 v0 21 ((M3.1 v0 21) + (1 : Int32))) fun M4 => some M4
def b_Md_keeps_1 (S : hm_S) (k11 : Nat → Int32 → hm_M → Option hm_M) (v0 : Nat) (v1 : Int32) (M : hm_M) : Option hm_M :=
  (if (20 : Int32) ≤ v1 then hg (S v0 = some (.inr 12)) <| hl (hm_wI M v0 21 ((M.1 v0 21) - (1 : Int32))) fun M3 => b_Md_keeps_2 S v0 M3
  else hg (S v0 = some (.inr 12)) <| hv (f_Md_copies S v0 ((5 : Int32) + v1) (((5 : Int32) + v1) - (1 : Int32)) (40 : Int32) M) fun M7 =>
  k11 v0 (v1 + (1 : Int32)) M7)
def f_Md_keeps_1 (S : hm_S) (n : Nat) : Nat → Int32 → hm_M → Option hm_M := hm_it (b_Md_keeps_1 S ) (fun _ _ _ => none) n
def f_Md_keeps (S : hm_S) (v0 : Nat) (M : hm_M) : Option hm_M :=
  hg (S v0 = some (.inr 12)) <| (if (M.1 v0 21) = (20 : Int32) then f_Md_keeps_1 S hN v0 (1 : Int32) M else b_Md_keeps_2 S v0 M)
def f_Md_breaks (S : hm_S) (v0 : Nat) (v1 : Int32) (v2 : Int32) (M : hm_M) : Option (Int32 × hm_M) :=
  hg (S v0 = some (.inr 12)) <| hl (hm_wI M v0 0 (0 : Int32)) fun M2 => hb (f_Md_isPane S v0 v1 M2) fun r6 M5 => (if r6 = 0 then
  some ((0 : Int32), M5) else hb (f_Md_isBroken S v0 v1 M5) fun r10 M9 => (if r10 = v2 then hv (f_Md_keeps S v0 M9) fun M13 =>
  hg (M13.2.2 v0 20 ≠ 0) <| hg (hm_ib S (M13.2.2 v0 20) .int (12 : Int32) = true) <|
  hl (hm_wI M13 (M13.2.2 v0 20) (12 : Int32).toNatClampNeg ((M13.1 (M13.2.2 v0 20) (12 : Int32).toNatClampNeg) ^^^ ((1 : Int32) <<< (v1 &&& 31)))) fun M17 =>
  some ((1 : Int32), M17) else some ((0 : Int32), M9)))
def f_Md_within (S : hm_S) (v0 : Int32) (v1 : Int32) (v2 : Int32) (M : hm_M) : Option (Int32 × hm_M) :=
  (if v0 < v1 then some ((0 : Int32), M) else (if v2 < v0 then some ((0 : Int32), M) else some ((1 : Int32), M)))
def f_Md_isTime (S : hm_S) (v0 : Int32) (v1 : Int32) (M : hm_M) : Option (Int32 × hm_M) :=
  hb (f_Md_within S v0 (0 : Int32) (51 : Int32) M) fun r3 M2 => (if r3 = 0 then some ((0 : Int32), M2)
  else hb (f_Md_within S v1 (0 : Int32) (23 : Int32) M2) fun r7 M6 => (if r7 = 0 then some ((0 : Int32), M6) else some ((1 : Int32), M6)))
def f_Md_canStain (S : hm_S) (v0 : Nat) (v1 : Int32) (v2 : Int32) (v3 : Int32) (v4 : Int32) (M : hm_M) : Option (Int32 × hm_M) :=
  hb (f_Md_isTime S v1 v2 M) fun r3 M2 => (if r3 = 0 then some ((0 : Int32), M2) else hb (f_Md_within S v3 (1 : Int32) (6 : Int32) M2) fun r7 M6 =>
  (if r7 = 0 then some ((0 : Int32), M6) else (if (24 : Int32) < (v2 + v3) then some ((0 : Int32), M6) else (if v4 < 0 then some ((0 : Int32), M6)
  else (if ((1 : Int32) <<< (((3 : Int32) * v3) &&& 31)) ≤ v4 then some ((0 : Int32), M6) else some ((1 : Int32), M6))))))
def f_Md_seens (S : hm_S) (v0 : Nat) (M : hm_M) : Option (Int32 × hm_M) :=
  hg (S v0 = some (.inr 12)) <| hg (M.2.2 v0 20 ≠ 0) <| hg (hm_ib S (M.2.2 v0 20) .int (13 : Int32) = true) <|
  some ((M.1 (M.2.2 v0 20) (13 : Int32).toNatClampNeg), M)
def b_Md_candlesAt_2 (S : hm_S) (k11 : Nat → Int32 → Int32 → hm_M → Option (Int32 × hm_M)) (v0 : Nat) (v4 : Int32) (s0 : Int32) (s1 : Int32) (M : hm_M) : Option (Int32 × hm_M) :=
  hl ((s1 + s0) : Int32) fun x1 => k11 v0 x1 (v4 + (1 : Int32)) M
def b_Md_candlesAt_1 (S : hm_S) (k11 : Nat → Int32 → Int32 → hm_M → Option (Int32 × hm_M)) (v0 : Nat) (v3 : Int32) (v4 : Int32) (M : hm_M) : Option (Int32 × hm_M) :=
  hg (S v0 = some (.inr 12)) <| hb (f_Md_seens S v0 M) fun r4 M3 => (if r4 ≤ v4 then some (v3, M3)
  else hl (((14 : Int32) + ((3 : Int32) * v4)) : Int32) fun x6 => hg (M3.2.2 v0 20 ≠ 0) <|
  hg (hm_ib S (M3.2.2 v0 20) .int (x6 + (1 : Int32)) = true) <| hg (hm_ib S (M3.2.2 v0 20) .int x6 = true) <|
  hb (f_Md_lightAt S v0 (((8 : Int32) * (M3.1 (M3.2.2 v0 20) (x6 + (1 : Int32)).toNatClampNeg)) + (M3.1 (M3.2.2 v0 20) x6.toNatClampNeg)) (1 : Int32) M3) fun r15 M14 =>
  hg (M14.2.2 v0 20 ≠ 0) <| hg (hm_ib S (M14.2.2 v0 20) .int (x6 + (2 : Int32)) = true) <|
  (if r15 = (M14.1 (M14.2.2 v0 20) (x6 + (2 : Int32)).toNatClampNeg) then b_Md_candlesAt_2 S k11 v0 v4 (0 : Int32) v3 M14
  else b_Md_candlesAt_2 S k11 v0 v4 (1 : Int32) v3 M14))
def f_Md_candlesAt_1 (S : hm_S) (n : Nat) : Nat → Int32 → Int32 → hm_M → Option (Int32 × hm_M) := hm_it (b_Md_candlesAt_1 S ) (fun _ _ _ _ => none) n
def f_Md_candlesAt (S : hm_S) (v0 : Nat) (v1 : Int32) (v2 : Int32) (M : hm_M) : Option (Int32 × hm_M) :=
  hg (S v0 = some (.inr 12)) <| hv (f_Md_findLight S v0 v1 v2 M) fun M3 => f_Md_candlesAt_1 S hN v0 (0 : Int32) (0 : Int32) M3
def f_Md_candles (S : hm_S) (v0 : Nat) (v1 : Int32) (v2 : Int32) (M : hm_M) : Option (Int32 × hm_M) :=
  hg (S v0 = some (.inr 12)) <| hl (hm_wI M v0 0 (0 : Int32)) fun M2 => hb (f_Md_isTime S v1 v2 M2) fun r6 M5 => (if r6 = 0 then
  some ((-1 : Int32), M5) else hb (f_Md_candlesAt S v0 v1 v2 M5) fun r10 M9 => some (r10, M9))
def f_Md_isLetter (S : hm_S) (v0 : Int32) (M : hm_M) : Option (Int32 × hm_M) :=
  (if v0 < (97 : Int32) then some ((0 : Int32), M) else (if (122 : Int32) < v0 then some ((0 : Int32), M) else some ((1 : Int32), M)))
def f_Md_rank (S : hm_S) (v0 : Int32) (M : hm_M) : Option (Int32 × hm_M) :=
  hb (f_Md_isLetter S v0 M) fun r3 M2 => (if r3 = 0 then some ((v0 - (21 : Int32)), M2) else some ((v0 - (96 : Int32)), M2))
def f_Md_isDigit (S : hm_S) (v0 : Int32) (M : hm_M) : Option (Int32 × hm_M) :=
  (if v0 < (48 : Int32) then some ((0 : Int32), M) else (if (57 : Int32) < v0 then some ((0 : Int32), M) else some ((1 : Int32), M)))
def f_Md_isSignOf (S : hm_S) (v0 : Int32) (M : hm_M) : Option (Int32 × hm_M) :=
  (if v0 = (40 : Int32) then some ((1 : Int32), M) else (if v0 = (41 : Int32) then some ((1 : Int32), M) else (if v0 = (59 : Int32) then
  some ((1 : Int32), M) else (if v0 = (61 : Int32) then some ((1 : Int32), M) else (if v0 = (60 : Int32) then some ((1 : Int32), M)
  else (if v0 = (43 : Int32) then some ((1 : Int32), M) else (if v0 = (45 : Int32) then some ((1 : Int32), M) else (if v0 = (42 : Int32) then
  some ((1 : Int32), M) else some ((0 : Int32), M)))))))))
def b_Md_cutAll_11 (S : hm_S) (k17 : Nat → Int32 → Int32 → hm_M → Option hm_M) (v0 : Nat) (v1 : Int32) (v2 : Int32) (v5 : Int64) (M : hm_M) : Option hm_M :=
  hg (S v0 = some (.inr 12)) <| hg (M.2.2 v0 6 ≠ 0) <| hg (hm_ib S (M.2.2 v0 6) .long v1 = true) <|
  hl (hm_wL M (M.2.2 v0 6) v1.toNatClampNeg v5) fun M5 => k17 v0 (v1 + (1 : Int32)) v2 M5
def b_Md_cutAll_10 (S : hm_S) (k17 : Nat → Int32 → Int32 → hm_M → Option hm_M) (v0 : Nat) (v1 : Int32) (v2 : Int32) (v5 : Int64) (s0 : Int32) (s1 : Int32) (s2 : Nat) (M : hm_M) : Option hm_M :=
  hg (hm_ib S s2 .int s1 = true) <| hl (hm_wI M s2 s1.toNatClampNeg s0) fun M3 => b_Md_cutAll_11 S k17 v0 v1 (v2 + (1 : Int32)) v5 M3
def b_Md_cutAll_9 (S : hm_S) (k17 : Nat → Int32 → Int32 → hm_M → Option hm_M) (v0 : Nat) (v1 : Int32) (v2 : Int32) (v5 : Int64) (s0 : Int32) (s1 : Int32) (s2 : Nat) (M : hm_M) : Option hm_M :=
  hg (hm_ib S s2 .int s1 = true) <| hl (hm_wI M s2 s1.toNatClampNeg s0) fun M3 => b_Md_cutAll_11 S k17 v0 v1 v2 v5 M3
def b_Md_cutAll_8 (S : hm_S) (k17 : Nat → Int32 → Int32 → hm_M → Option hm_M) (v0 : Nat) (v1 : Int32) (v2 : Int32) (v4 : Int32) (v5 : Int64) (M : hm_M) : Option hm_M :=
  hg (S v0 = some (.inr 12)) <| hg (M.2.2 v0 4 ≠ 0) <| (if (v2 - v4) ≤ (4 : Int32) then b_Md_cutAll_9 S k17 v0 v1 v2 v5 (2 : Int32) v1 (M.2.2 v0 4) M
  else b_Md_cutAll_9 S k17 v0 v1 v2 v5 (4 : Int32) v1 (M.2.2 v0 4) M)
def b_Md_cutAll_7 (S : hm_S) (k17 : Nat → Int32 → Int32 → hm_M → Option hm_M) (k159 : Nat → Int32 → Int32 → Int32 → Int64 → hm_M → Option hm_M) (v0 : Nat) (v1 : Int32) (v2 : Int32) (v4 : Int32) (s0 : Int64) (M : hm_M) : Option hm_M :=
  k159 v0 v1 (v2 + (1 : Int32)) v4 s0 M
def b_Md_cutAll_6 (S : hm_S) (k17 : Nat → Int32 → Int32 → hm_M → Option hm_M) (k159 : Nat → Int32 → Int32 → Int32 → Int64 → hm_M → Option hm_M) (v0 : Nat) (v1 : Int32) (v2 : Int32) (v4 : Int32) (v5 : Int64) (M : hm_M) : Option hm_M :=
  hg (S v0 = some (.inr 12)) <| (if (M.1 v0 3) ≤ v2 then b_Md_cutAll_8 S k17 v0 v1 v2 v4 v5 M else hg (M.2.2 v0 1 ≠ 0) <|
  hg (hm_ib S (M.2.2 v0 1) .int v2 = true) <| hb (f_Md_isDigit S (M.1 (M.2.2 v0 1) v2.toNatClampNeg) M) fun r8 M7 => (if r8 = 0 then
  b_Md_cutAll_8 S k17 v0 v1 v2 v4 v5 M7 else (if (4 : Int32) ≤ (v2 - v4) then b_Md_cutAll_7 S k17 k159 v0 v1 v2 v4 v5 M7 else hg (M7.2.2 v0 1 ≠ 0) <|
  hg (hm_ib S (M7.2.2 v0 1) .int v2 = true) <|
  b_Md_cutAll_7 S k17 k159 v0 v1 v2 v4 ((((10 : Int64) * v5) + (M7.1 (M7.2.2 v0 1) v2.toNatClampNeg).toInt64) - (48 : Int64)) M7)))
def f_Md_cutAll_6 (S : hm_S) (k17 : Nat → Int32 → Int32 → hm_M → Option hm_M) (n : Nat) : Nat → Int32 → Int32 → Int32 → Int64 → hm_M → Option hm_M := hm_it (b_Md_cutAll_6 S k17) (fun _ _ _ _ _ _ => none) n
def b_Md_cutAll_5 (S : hm_S) (k17 : Nat → Int32 → Int32 → hm_M → Option hm_M) (v0 : Nat) (v1 : Int32) (v2 : Int32) (v5 : Int64) (s0 : Int32) (s1 : Int32) (s2 : Nat) (M : hm_M) : Option hm_M :=
  hg (hm_ib S s2 .int s1 = true) <| hl (hm_wI M s2 s1.toNatClampNeg s0) fun M3 => b_Md_cutAll_11 S k17 v0 v1 v2 v5 M3
def b_Md_cutAll_4 (S : hm_S) (k17 : Nat → Int32 → Int32 → hm_M → Option hm_M) (v0 : Nat) (v1 : Int32) (v2 : Int32) (v4 : Int32) (v5 : Int64) (M : hm_M) : Option hm_M :=
  hg (S v0 = some (.inr 12)) <| hg (M.2.2 v0 4 ≠ 0) <| (if (v2 - v4) ≤ (8 : Int32) then b_Md_cutAll_5 S k17 v0 v1 v2 v5 (1 : Int32) v1 (M.2.2 v0 4) M
  else b_Md_cutAll_5 S k17 v0 v1 v2 v5 (4 : Int32) v1 (M.2.2 v0 4) M)
def b_Md_cutAll_3 (S : hm_S) (k17 : Nat → Int32 → Int32 → hm_M → Option hm_M) (k70 : Nat → Int32 → Int32 → Int32 → Int64 → hm_M → Option hm_M) (v0 : Nat) (v1 : Int32) (v2 : Int32) (v4 : Int32) (s0 : Int64) (M : hm_M) : Option hm_M :=
  k70 v0 v1 (v2 + (1 : Int32)) v4 s0 M
def b_Md_cutAll_2 (S : hm_S) (k17 : Nat → Int32 → Int32 → hm_M → Option hm_M) (k70 : Nat → Int32 → Int32 → Int32 → Int64 → hm_M → Option hm_M) (v0 : Nat) (v1 : Int32) (v2 : Int32) (v4 : Int32) (v5 : Int64) (M : hm_M) : Option hm_M :=
  hg (S v0 = some (.inr 12)) <| (if (M.1 v0 3) ≤ v2 then b_Md_cutAll_4 S k17 v0 v1 v2 v4 v5 M else hg (M.2.2 v0 1 ≠ 0) <|
  hg (hm_ib S (M.2.2 v0 1) .int v2 = true) <| hb (f_Md_isLetter S (M.1 (M.2.2 v0 1) v2.toNatClampNeg) M) fun r8 M7 => (if r8 = 0 then
  b_Md_cutAll_4 S k17 v0 v1 v2 v4 v5 M7 else (if (8 : Int32) ≤ (v2 - v4) then b_Md_cutAll_3 S k17 k70 v0 v1 v2 v4 v5 M7 else hg (M7.2.2 v0 1 ≠ 0) <|
  hg (hm_ib S (M7.2.2 v0 1) .int v2 = true) <| hb (f_Md_rank S (M7.1 (M7.2.2 v0 1) v2.toNatClampNeg) M7) fun r16 M15 =>
  b_Md_cutAll_3 S k17 k70 v0 v1 v2 v4 (((37 : Int64) * v5) + r16.toInt64) M15)))
def f_Md_cutAll_2 (S : hm_S) (k17 : Nat → Int32 → Int32 → hm_M → Option hm_M) (n : Nat) : Nat → Int32 → Int32 → Int32 → Int64 → hm_M → Option hm_M := hm_it (b_Md_cutAll_2 S k17) (fun _ _ _ _ _ _ => none) n
def b_Md_cutAll_1 (S : hm_S) (k17 : Nat → Int32 → Int32 → hm_M → Option hm_M) (v0 : Nat) (v1 : Int32) (v2 : Int32) (M : hm_M) : Option hm_M :=
  hg (S v0 = some (.inr 12)) <| (if (M.1 v0 3) ≤ v2 then hg (M.2.2 v0 4 ≠ 0) <| hg (hm_ib S (M.2.2 v0 4) .int v1 = true) <|
  hl (hm_wI M (M.2.2 v0 4) v1.toNatClampNeg (0 : Int32)) fun M6 => hg (M6.2.2 v0 5 ≠ 0) <| hg (hm_ib S (M6.2.2 v0 5) .int v1 = true) <|
  hl (hm_wI M6 (M6.2.2 v0 5) v1.toNatClampNeg (M6.1 v0 3)) fun M11 => hl (hm_wI M11 v0 7 (0 : Int32)) fun M13 =>
  hl (hm_wI M13 v0 8 (0 : Int32)) fun M15 => some M15 else hg (M.2.2 v0 1 ≠ 0) <| hg (hm_ib S (M.2.2 v0 1) .int v2 = true) <|
  hl ((M.1 (M.2.2 v0 1) v2.toNatClampNeg) : Int32) fun x20 => (if x20 = (10 : Int32) then k17 v0 v1 (v2 + (1 : Int32)) M
  else (if x20 = (32 : Int32) then k17 v0 v1 (v2 + (1 : Int32)) M else hg (M.2.2 v0 5 ≠ 0) <| hg (hm_ib S (M.2.2 v0 5) .int v1 = true) <|
  hl (hm_wI M (M.2.2 v0 5) v1.toNatClampNeg v2) fun M27 => hb (f_Md_isLetter S x20 M27) fun r31 M30 => (if r31 = 0 then
  hb (f_Md_isDigit S x20 M30) fun r35 M34 => (if r35 = 0 then hl (x20.toInt64 : Int64) fun x37 => hg (M34.2.2 v0 4 ≠ 0) <|
  hb (f_Md_isSignOf S x20 M34) fun r42 M41 => (if r42 = 0 then b_Md_cutAll_10 S k17 v0 v1 v2 x37 (4 : Int32) v1 (M34.2.2 v0 4) M41
  else b_Md_cutAll_10 S k17 v0 v1 v2 x37 (3 : Int32) v1 (M34.2.2 v0 4) M41) else f_Md_cutAll_6 S k17 hN v0 v1 v2 v2 (0 : Int64) M34)
  else f_Md_cutAll_2 S k17 hN v0 v1 v2 v2 (0 : Int64) M30))))
def f_Md_cutAll_1 (S : hm_S) (n : Nat) : Nat → Int32 → Int32 → hm_M → Option hm_M := hm_it (b_Md_cutAll_1 S ) (fun _ _ _ _ => none) n
def f_Md_cutAll (S : hm_S) (v0 : Nat) (M : hm_M) : Option hm_M :=
  hg (S v0 = some (.inr 12)) <| hl (hm_wI M v0 3 (M.1 v0 2)) fun M2 => hl (hm_wI M2 v0 2 (0 : Int32)) fun M4 =>
  f_Md_cutAll_1 S hN v0 (0 : Int32) (0 : Int32) M4
def f_Md_wrong (S : hm_S) (v0 : Nat) (v1 : Int32) (M : hm_M) : Option hm_M :=
  hg (S v0 = some (.inr 12)) <| (if (M.1 v0 8) = 0 then hg (M.2.2 v0 5 ≠ 0) <| hg (hm_ib S (M.2.2 v0 5) .int (M.1 v0 7) = true) <|
  hl (hm_wI M v0 8 (v1 + ((16 : Int32) * (M.1 (M.2.2 v0 5) (M.1 v0 7).toNatClampNeg)))) fun M6 => some M6 else some M)
def b_Md_takeNumber_3 (S : hm_S) (v0 : Nat) (M : hm_M) : Option (Int32 × hm_M) :=
  hg (S v0 = some (.inr 12)) <| (if (M.1 v0 8) ≤ 0 then hl (hm_wI M v0 7 ((M.1 v0 7) + (1 : Int32))) fun M3 => hg (M3.2.2 v0 6 ≠ 0) <|
  hg (hm_ib S (M3.2.2 v0 6) .long ((M3.1 v0 7) - (1 : Int32)) = true) <|
  some ((M3.2.1 (M3.2.2 v0 6) ((M3.1 v0 7) - (1 : Int32)).toNatClampNeg).toInt32, M3) else some ((0 : Int32), M))
def b_Md_takeNumber_2 (S : hm_S) (v0 : Nat) (M : hm_M) : Option (Int32 × hm_M) :=
  hg (S v0 = some (.inr 12)) <| hv (f_Md_wrong S v0 (4 : Int32) M) fun M3 => b_Md_takeNumber_3 S v0 M3
def b_Md_takeNumber_1 (S : hm_S) (v0 : Nat) (v1 : Int32) (v2 : Int32) (M : hm_M) : Option (Int32 × hm_M) :=
  hg (S v0 = some (.inr 12)) <| (if (M.1 v0 8) = 0 then hg (M.2.2 v0 6 ≠ 0) <| hg (hm_ib S (M.2.2 v0 6) .long (M.1 v0 7) = true) <|
  (if (lg_cmp (M.2.1 (M.2.2 v0 6) (M.1 v0 7).toNatClampNeg) v1.toInt64) < 0 then b_Md_takeNumber_2 S v0 M
  else (if (lg_cmp (M.2.1 (M.2.2 v0 6) (M.1 v0 7).toNatClampNeg) v2.toInt64) ≤ 0 then b_Md_takeNumber_3 S v0 M else b_Md_takeNumber_2 S v0 M))
  else b_Md_takeNumber_3 S v0 M)
def f_Md_takeNumber (S : hm_S) (v0 : Nat) (v1 : Int32) (v2 : Int32) (M : hm_M) : Option (Int32 × hm_M) :=
  hg (S v0 = some (.inr 12)) <| (if (M.1 v0 8) = 0 then hg (M.2.2 v0 4 ≠ 0) <| hg (hm_ib S (M.2.2 v0 4) .int (M.1 v0 7) = true) <|
  (if (M.1 (M.2.2 v0 4) (M.1 v0 7).toNatClampNeg) = (2 : Int32) then b_Md_takeNumber_1 S v0 v1 v2 M else hv (f_Md_wrong S v0 (1 : Int32) M) fun M8 =>
  b_Md_takeNumber_3 S v0 M8) else b_Md_takeNumber_1 S v0 v1 v2 M)
def f_Md_readFloor (S : hm_S) (v0 : Nat) (M : hm_M) : Option hm_M :=
  hg (S v0 = some (.inr 12)) <| (if (M.1 v0 15) = 0 then hl (hm_wI M v0 15 (1 : Int32)) fun M3 =>
  hl (hm_wI M3 v0 7 ((M3.1 v0 7) + (1 : Int32))) fun M5 => hg (M5.2.2 v0 10 ≠ 0) <| hb (f_Md_takeNumber S v0 (1 : Int32) (8 : Int32) M5) fun r10 M9 =>
  hg (hm_ib S (M5.2.2 v0 10) .int (80 : Int32) = true) <| hl (hm_wI M9 (M5.2.2 v0 10) (80 : Int32).toNatClampNeg r10) fun M13 =>
  hg (M13.2.2 v0 10 ≠ 0) <| hb (f_Md_takeNumber S v0 (1 : Int32) (8 : Int32) M13) fun r18 M17 =>
  hg (hm_ib S (M13.2.2 v0 10) .int (81 : Int32) = true) <| hl (hm_wI M17 (M13.2.2 v0 10) (81 : Int32).toNatClampNeg r18) fun M21 => some M21
  else hv (f_Md_wrong S v0 (3 : Int32) M) fun M24 => some M24)
def b_Md_isName_5 (S : hm_S) (k28 : Nat → Int32 → Int32 → hm_M → Option (Int32 × hm_M)) (v0 : Nat) (v2 : Int32) (s0 : Int32) (M : hm_M) : Option (Int32 × hm_M) :=
  k28 v0 s0 (v2 + (1 : Int32)) M
def b_Md_isName_4 (S : hm_S) (k28 : Nat → Int32 → Int32 → hm_M → Option (Int32 × hm_M)) (v0 : Nat) (v2 : Int32) (M : hm_M) : Option (Int32 × hm_M) :=
  b_Md_isName_5 S k28 v0 v2 (0 : Int32) M
def b_Md_isName_3 (S : hm_S) (k28 : Nat → Int32 → Int32 → hm_M → Option (Int32 × hm_M)) (v0 : Nat) (v1 : Int32) (v2 : Int32) (M : hm_M) : Option (Int32 × hm_M) :=
  (if (15 : Int32) ≤ v2 then hg (v1 = 0 ∨ v1 = 1) <| some (v1, M) else (if v1 = 0 then b_Md_isName_4 S k28 v0 v2 M else hg (S v0 = some (.inr 12)) <|
  hg (M.2.2 v0 6 ≠ 0) <| hg (hm_ib S (M.2.2 v0 6) .long (M.1 v0 7) = true) <| hg (M.2.2 v0 9 ≠ 0) <| hg (hm_ib S (M.2.2 v0 9) .long v2 = true) <|
  (if (lg_cmp (M.2.1 (M.2.2 v0 6) (M.1 v0 7).toNatClampNeg) (M.2.1 (M.2.2 v0 9) v2.toNatClampNeg)) = 0 then b_Md_isName_4 S k28 v0 v2 M
  else b_Md_isName_5 S k28 v0 v2 (1 : Int32) M)))
def f_Md_isName_3 (S : hm_S) (n : Nat) : Nat → Int32 → Int32 → hm_M → Option (Int32 × hm_M) := hm_it (b_Md_isName_3 S ) (fun _ _ _ _ => none) n
def b_Md_isName_2 (S : hm_S) (v0 : Nat) (s0 : Int32) (M : hm_M) : Option (Int32 × hm_M) :=
  f_Md_isName_3 S hN v0 s0 (0 : Int32) M
def b_Md_isName_1 (S : hm_S) (v0 : Nat) (M : hm_M) : Option (Int32 × hm_M) :=
  b_Md_isName_2 S v0 (0 : Int32) M
def f_Md_isName (S : hm_S) (v0 : Nat) (M : hm_M) : Option (Int32 × hm_M) :=
  hg (S v0 = some (.inr 12)) <| (if (M.1 v0 8) = 0 then hg (M.2.2 v0 4 ≠ 0) <| hg (hm_ib S (M.2.2 v0 4) .int (M.1 v0 7) = true) <|
  (if (M.1 (M.2.2 v0 4) (M.1 v0 7).toNatClampNeg) = (1 : Int32) then b_Md_isName_2 S v0 (1 : Int32) M else b_Md_isName_1 S v0 M)
  else b_Md_isName_1 S v0 M)
def b_Md_find_1 (S : hm_S) (k2 : Nat → Int32 → hm_M → Option (Int32 × hm_M)) (v0 : Nat) (v1 : Int32) (M : hm_M) : Option (Int32 × hm_M) :=
  hg (S v0 = some (.inr 12)) <| hg (M.2.2 v0 10 ≠ 0) <| hg (hm_ib S (M.2.2 v0 10) .int (83 : Int32) = true) <|
  (if (M.1 (M.2.2 v0 10) (83 : Int32).toNatClampNeg) ≤ v1 then some ((-1 : Int32), M) else hg (M.2.2 v0 14 ≠ 0) <|
  hg (hm_ib S (M.2.2 v0 14) .long v1 = true) <| hg (M.2.2 v0 6 ≠ 0) <| hg (hm_ib S (M.2.2 v0 6) .long (M.1 v0 7) = true) <|
  (if (lg_cmp (M.2.1 (M.2.2 v0 14) v1.toNatClampNeg) (M.2.1 (M.2.2 v0 6) (M.1 v0 7).toNatClampNeg)) = 0 then some (v1, M)
  else k2 v0 (v1 + (1 : Int32)) M))
def f_Md_find_1 (S : hm_S) (n : Nat) : Nat → Int32 → hm_M → Option (Int32 × hm_M) := hm_it (b_Md_find_1 S ) (fun _ _ _ => none) n
def f_Md_find (S : hm_S) (v0 : Nat) (M : hm_M) : Option (Int32 × hm_M) :=
  f_Md_find_1 S hN v0 (0 : Int32) M
def b_Md_hasWord_1 (S : hm_S) (v2 : Int32) (s0 : Int32) (s1 : Int32) (s2 : Nat) (M : hm_M) : Option (Int32 × hm_M) :=
  hg (S s2 = some (.inr 12)) <| hl (hm_wI M s2 7 (s1 + s0)) fun M2 => hg (v2 = 0 ∨ v2 = 1) <| some (v2, M2)
def f_Md_hasWord (S : hm_S) (v0 : Nat) (v1 : Int32) (M : hm_M) : Option (Int32 × hm_M) :=
  hg (S v0 = some (.inr 12)) <| hb (f_Md_isWord S v0 v1 M) fun r4 M3 => (if r4 = 0 then b_Md_hasWord_1 S r4 (0 : Int32) (M3.1 v0 7) v0 M3
  else b_Md_hasWord_1 S r4 (1 : Int32) (M3.1 v0 7) v0 M3)
def f_Md_takeWord (S : hm_S) (v0 : Nat) (v1 : Int32) (M : hm_M) : Option hm_M :=
  hg (S v0 = some (.inr 12)) <| hb (f_Md_hasWord S v0 v1 M) fun r4 M3 => (if r4 = 0 then hv (f_Md_wrong S v0 (1 : Int32) M3) fun M7 => some M7
  else some M3)
def f_Md_takeAfter (S : hm_S) (v0 : Nat) (v1 : Int32) (v2 : Int32) (v3 : Int32) (M : hm_M) : Option (Int32 × hm_M) :=
  hg (S v0 = some (.inr 12)) <| hv (f_Md_takeWord S v0 v1 M) fun M3 => hb (f_Md_takeNumber S v0 v2 v3 M3) fun r6 M5 => some (r6, M5)
def b_Md_readGuild_1 (S : hm_S) (v0 : Nat) (v1 : Int32) (M : hm_M) : Option hm_M :=
  hg (S v0 = some (.inr 12)) <| (if (M.1 v0 8) ≤ 0 then hg (M.2.2 v0 14 ≠ 0) <| hg (M.2.2 v0 6 ≠ 0) <|
  hg (hm_ib S (M.2.2 v0 6) .long (M.1 v0 7) = true) <| hg (hm_ib S (M.2.2 v0 14) .long v1 = true) <|
  hl (hm_wL M (M.2.2 v0 14) v1.toNatClampNeg (M.2.1 (M.2.2 v0 6) (M.1 v0 7).toNatClampNeg)) fun M9 =>
  hl (hm_wI M9 v0 7 ((M9.1 v0 7) + (1 : Int32))) fun M11 => hg (M11.2.2 v0 10 ≠ 0) <|
  hb (f_Md_takeAfter S v0 (2 : Int32) (0 : Int32) (7 : Int32) M11) fun r16 M15 =>
  hg (hm_ib S (M11.2.2 v0 10) .int ((85 : Int32) + ((2 : Int32) * v1)) = true) <|
  hl (hm_wI M15 (M11.2.2 v0 10) ((85 : Int32) + ((2 : Int32) * v1)).toNatClampNeg r16) fun M19 => hg (M19.2.2 v0 10 ≠ 0) <|
  hb (f_Md_takeAfter S v0 (3 : Int32) (0 : Int32) (9999 : Int32) M19) fun r24 M23 =>
  hg (hm_ib S (M19.2.2 v0 10) .int (((85 : Int32) + ((2 : Int32) * v1)) + (1 : Int32)) = true) <|
  hl (hm_wI M23 (M19.2.2 v0 10) (((85 : Int32) + ((2 : Int32) * v1)) + (1 : Int32)).toNatClampNeg r24) fun M27 => hg (M27.2.2 v0 10 ≠ 0) <|
  hg (hm_ib S (M27.2.2 v0 10) .int (83 : Int32) = true) <|
  hl (hm_wI M27 (M27.2.2 v0 10) (83 : Int32).toNatClampNeg ((M27.1 (M27.2.2 v0 10) (83 : Int32).toNatClampNeg) + (1 : Int32))) fun M32 => some M32
  else some M)
def f_Md_readGuild (S : hm_S) (v0 : Nat) (M : hm_M) : Option hm_M :=
  hg (S v0 = some (.inr 12)) <| hg (M.2.2 v0 10 ≠ 0) <| hg (hm_ib S (M.2.2 v0 10) .int (83 : Int32) = true) <|
  hl ((M.1 (M.2.2 v0 10) (83 : Int32).toNatClampNeg) : Int32) fun x5 => (if x5 = (6 : Int32) then hv (f_Md_wrong S v0 (5 : Int32) M) fun M23 =>
  some M23 else hl (hm_wI M v0 7 ((M.1 v0 7) + (1 : Int32))) fun M8 => hb (f_Md_isName S v0 M8) fun r12 M11 => (if r12 = 0 then
  hv (f_Md_wrong S v0 (1 : Int32) M11) fun M21 => b_Md_readGuild_1 S v0 x5 M21 else hb (f_Md_find S v0 M11) fun r16 M15 => (if r16 < 0 then
  b_Md_readGuild_1 S v0 x5 M15 else hv (f_Md_wrong S v0 (3 : Int32) M15) fun M19 => b_Md_readGuild_1 S v0 x5 M19)))
def b_Md_readPane_4 (S : hm_S) (v0 : Nat) (v2 : Int32) (M : hm_M) : Option hm_M :=
  hg (S v0 = some (.inr 12)) <| (if (M.1 v0 8) ≤ 0 then hg (M.2.2 v0 10 ≠ 0) <| hb (f_Md_find S v0 M) fun r6 M5 =>
  hg (hm_ib S (M.2.2 v0 10) .int (v2 + (2 : Int32)) = true) <| hl (hm_wI M5 (M.2.2 v0 10) (v2 + (2 : Int32)).toNatClampNeg r6) fun M9 =>
  hl (hm_wI M9 v0 7 ((M9.1 v0 7) + (1 : Int32))) fun M11 => hg (M11.2.2 v0 10 ≠ 0) <|
  hb (f_Md_takeAfter S v0 (6 : Int32) (1 : Int32) (7 : Int32) M11) fun r16 M15 => hg (hm_ib S (M11.2.2 v0 10) .int (v2 + (3 : Int32)) = true) <|
  hl (hm_wI M15 (M11.2.2 v0 10) (v2 + (3 : Int32)).toNatClampNeg r16) fun M19 => hg (M19.2.2 v0 10 ≠ 0) <|
  hg (hm_ib S (M19.2.2 v0 10) .int (84 : Int32) = true) <|
  hl (hm_wI M19 (M19.2.2 v0 10) (84 : Int32).toNatClampNeg ((M19.1 (M19.2.2 v0 10) (84 : Int32).toNatClampNeg) + (1 : Int32))) fun M24 => some M24
  else some M)
def b_Md_readPane_3 (S : hm_S) (v0 : Nat) (v2 : Int32) (M : hm_M) : Option hm_M :=
  hg (S v0 = some (.inr 12)) <| (if (M.1 v0 8) = 0 then hb (f_Md_find S v0 M) fun r5 M4 => (if 0 ≤ r5 then b_Md_readPane_4 S v0 v2 M4
  else hv (f_Md_wrong S v0 (2 : Int32) M4) fun M8 => b_Md_readPane_4 S v0 v2 M8) else b_Md_readPane_4 S v0 v2 M)
def b_Md_readPane_2 (S : hm_S) (v0 : Nat) (v2 : Int32) (M : hm_M) : Option hm_M :=
  hg (S v0 = some (.inr 12)) <| hg (M.2.2 v0 10 ≠ 0) <| hb (f_Md_takeNumber S v0 (0 : Int32) (3 : Int32) M) fun r5 M4 =>
  hg (hm_ib S (M.2.2 v0 10) .int (v2 + (1 : Int32)) = true) <| hl (hm_wI M4 (M.2.2 v0 10) (v2 + (1 : Int32)).toNatClampNeg r5) fun M8 =>
  hv (f_Md_takeWord S v0 (5 : Int32) M8) fun M11 => (if (M11.1 v0 8) = 0 then hb (f_Md_isName S v0 M11) fun r15 M14 => (if r15 = 0 then
  hv (f_Md_wrong S v0 (1 : Int32) M14) fun M18 => b_Md_readPane_4 S v0 v2 M18 else b_Md_readPane_3 S v0 v2 M14) else b_Md_readPane_3 S v0 v2 M11)
def b_Md_readPane_1 (S : hm_S) (k52 : Nat → Int32 → Int32 → Int32 → hm_M → Option hm_M) (v0 : Nat) (v1 : Int32) (v2 : Int32) (v3 : Int32) (M : hm_M) : Option hm_M :=
  (if v1 ≤ v3 then b_Md_readPane_2 S v0 v2 M else hg (S v0 = some (.inr 12)) <| (if (M.1 v0 8) = 0 then
  hl (((97 : Int32) + ((4 : Int32) * v3)) : Int32) fun x4 => hg (M.2.2 v0 4 ≠ 0) <| hg (hm_ib S (M.2.2 v0 4) .int (M.1 v0 7) = true) <|
  (if (M.1 (M.2.2 v0 4) (M.1 v0 7).toNatClampNeg) = (2 : Int32) then hg (M.2.2 v0 10 ≠ 0) <| hg (hm_ib S (M.2.2 v0 10) .int x4 = true) <|
  hg (hm_ib S (M.2.2 v0 10) .int v2 = true) <| (if (M.1 (M.2.2 v0 10) x4.toNatClampNeg) = (M.1 (M.2.2 v0 10) v2.toNatClampNeg) then
  hg (hm_ib S (M.2.2 v0 10) .int (x4 + (1 : Int32)) = true) <| hg (M.2.2 v0 6 ≠ 0) <| hg (hm_ib S (M.2.2 v0 6) .long (M.1 v0 7) = true) <|
  (if (lg_cmp (M.1 (M.2.2 v0 10) (x4 + (1 : Int32)).toNatClampNeg).toInt64 (M.2.1 (M.2.2 v0 6) (M.1 v0 7).toNatClampNeg)) = 0 then
  hv (f_Md_wrong S v0 (3 : Int32) M) fun M23 => k52 v0 v1 v2 (v3 + (1 : Int32)) M23 else k52 v0 v1 v2 (v3 + (1 : Int32)) M)
  else k52 v0 v1 v2 (v3 + (1 : Int32)) M) else k52 v0 v1 v2 (v3 + (1 : Int32)) M) else b_Md_readPane_2 S v0 v2 M))
def f_Md_readPane_1 (S : hm_S) (n : Nat) : Nat → Int32 → Int32 → Int32 → hm_M → Option hm_M := hm_it (b_Md_readPane_1 S ) (fun _ _ _ _ _ => none) n
def f_Md_readPane (S : hm_S) (v0 : Nat) (M : hm_M) : Option hm_M :=
  hg (S v0 = some (.inr 12)) <| hg (M.2.2 v0 10 ≠ 0) <| hg (hm_ib S (M.2.2 v0 10) .int (84 : Int32) = true) <|
  hl ((M.1 (M.2.2 v0 10) (84 : Int32).toNatClampNeg) : Int32) fun x5 => (if x5 = (12 : Int32) then hv (f_Md_wrong S v0 (5 : Int32) M) fun M21 =>
  some M21 else hl (hm_wI M v0 7 ((M.1 v0 7) + (1 : Int32))) fun M8 => hl (((97 : Int32) + ((4 : Int32) * x5)) : Int32) fun x10 =>
  hg (M8.2.2 v0 10 ≠ 0) <| hb (f_Md_takeNumber S v0 (0 : Int32) (7 : Int32) M8) fun r15 M14 => hg (hm_ib S (M8.2.2 v0 10) .int x10 = true) <|
  hl (hm_wI M14 (M8.2.2 v0 10) x10.toNatClampNeg r15) fun M18 => f_Md_readPane_1 S hN v0 x5 x10 (0 : Int32) M18)
def f_Md_readCloud (S : hm_S) (v0 : Nat) (M : hm_M) : Option hm_M :=
  hg (S v0 = some (.inr 12)) <| (if (M.1 v0 16) = 0 then hl (hm_wI M v0 16 (1 : Int32)) fun M3 =>
  hl (hm_wI M3 v0 7 ((M3.1 v0 7) + (1 : Int32))) fun M5 => hg (M5.2.2 v0 10 ≠ 0) <| hb (f_Md_takeNumber S v0 (0 : Int32) (8 : Int32) M5) fun r10 M9 =>
  hg (hm_ib S (M5.2.2 v0 10) .int (82 : Int32) = true) <| hl (hm_wI M9 (M5.2.2 v0 10) (82 : Int32).toNatClampNeg r10) fun M13 => some M13
  else hv (f_Md_wrong S v0 (3 : Int32) M) fun M16 => some M16)
def b_Md_factHere_6 (S : hm_S) (k4 : Nat → Int32 → Int32 → hm_M → Option (Int32 × hm_M)) (v0 : Nat) (v2 : Int32) (s0 : Int32) (M : hm_M) : Option (Int32 × hm_M) :=
  k4 v0 s0 (v2 + (1 : Int32)) M
def b_Md_factHere_5 (S : hm_S) (k4 : Nat → Int32 → Int32 → hm_M → Option (Int32 × hm_M)) (v0 : Nat) (v1 : Int32) (v2 : Int32) (M : hm_M) : Option (Int32 × hm_M) :=
  b_Md_factHere_6 S k4 v0 v2 v1 M
def b_Md_factHere_4 (S : hm_S) (k4 : Nat → Int32 → Int32 → hm_M → Option (Int32 × hm_M)) (v0 : Nat) (v1 : Int32) (v2 : Int32) (s0 : Int32) (M : hm_M) : Option (Int32 × hm_M) :=
  (if s0 = 0 then b_Md_factHere_5 S k4 v0 v1 v2 M else hg (S v0 = some (.inr 12)) <| hb (f_Md_isWord S v0 ((15 : Int32) + v2) M) fun r5 M4 =>
  (if r5 = 0 then b_Md_factHere_5 S k4 v0 v1 v2 M4 else b_Md_factHere_6 S k4 v0 v2 v2 M4))
def b_Md_factHere_3 (S : hm_S) (k4 : Nat → Int32 → Int32 → hm_M → Option (Int32 × hm_M)) (v0 : Nat) (v1 : Int32) (v2 : Int32) (M : hm_M) : Option (Int32 × hm_M) :=
  b_Md_factHere_4 S k4 v0 v1 v2 (0 : Int32) M
def b_Md_factHere_2 (S : hm_S) (k4 : Nat → Int32 → Int32 → hm_M → Option (Int32 × hm_M)) (v0 : Nat) (v1 : Int32) (v2 : Int32) (M : hm_M) : Option (Int32 × hm_M) :=
  (if v2 < (4 : Int32) then b_Md_factHere_3 S k4 v0 v1 v2 M else hg (S v0 = some (.inr 12)) <| (if (M.1 v0 17) = (3 : Int32) then
  b_Md_factHere_4 S k4 v0 v1 v2 (1 : Int32) M else b_Md_factHere_3 S k4 v0 v1 v2 M))
def b_Md_factHere_1 (S : hm_S) (k4 : Nat → Int32 → Int32 → hm_M → Option (Int32 × hm_M)) (v0 : Nat) (v1 : Int32) (v2 : Int32) (M : hm_M) : Option (Int32 × hm_M) :=
  (if (7 : Int32) ≤ v2 then some (v1, M) else (if v2 < (2 : Int32) then b_Md_factHere_4 S k4 v0 v1 v2 (1 : Int32) M else (if (4 : Int32) ≤ v2 then
  b_Md_factHere_2 S k4 v0 v1 v2 M else hg (S v0 = some (.inr 12)) <| (if (M.1 v0 17) < (2 : Int32) then b_Md_factHere_4 S k4 v0 v1 v2 (1 : Int32) M
  else b_Md_factHere_2 S k4 v0 v1 v2 M))))
def f_Md_factHere_1 (S : hm_S) (n : Nat) : Nat → Int32 → Int32 → hm_M → Option (Int32 × hm_M) := hm_it (b_Md_factHere_1 S ) (fun _ _ _ _ => none) n
def f_Md_factHere (S : hm_S) (v0 : Nat) (M : hm_M) : Option (Int32 × hm_M) :=
  f_Md_factHere_1 S hN v0 (-1 : Int32) (0 : Int32) M
def f_Md_takeSign (S : hm_S) (v0 : Nat) (v1 : Int32) (M : hm_M) : Option hm_M :=
  hg (S v0 = some (.inr 12)) <| hb (f_Md_isSign S v0 v1 M) fun r4 M3 => (if r4 = 0 then hv (f_Md_wrong S v0 (1 : Int32) M3) fun M7 => some M7
  else hl (hm_wI M3 v0 7 ((M3.1 v0 7) + (1 : Int32))) fun M8 => some M8)
def b_Md_takePart_5 (S : hm_S) (rP : Nat → Int32 → hm_M → Option hm_M) (v0 : Nat) (s0 : Int32) (s1 : Int32) (s2 : Nat) (M : hm_M) : Option hm_M :=
  hg (S s2 = some (.inr 12)) <| hv (f_Md_emit S s2 s1 s0 M) fun M3 => hg (S v0 = some (.inr 12)) <|
  hl (hm_wI M3 v0 7 ((M3.1 v0 7) + (1 : Int32))) fun M5 => some M5
def b_Md_takePart_4 (S : hm_S) (rP : Nat → Int32 → hm_M → Option hm_M) (v0 : Nat) (v2 : Int32) (v3 : Int32) (s0 : Int32) (s1 : Nat) (M : hm_M) : Option hm_M :=
  (if v2 = 0 then b_Md_takePart_5 S rP v0 v3 s0 s1 M else hg (S v0 = some (.inr 12)) <| hg (M.2.2 v0 6 ≠ 0) <|
  hg (hm_ib S (M.2.2 v0 6) .long (M.1 v0 7) = true) <| b_Md_takePart_5 S rP v0 (M.2.1 (M.2.2 v0 6) (M.1 v0 7).toNatClampNeg).toInt32 s0 s1 M)
def b_Md_takePart_3 (S : hm_S) (rP : Nat → Int32 → hm_M → Option hm_M) (v0 : Nat) (v1 : Int32) (v2 : Int32) (v3 : Int32) (M : hm_M) : Option hm_M :=
  hg (S v0 = some (.inr 12)) <| (if (M.1 v0 8) ≤ 0 then hb (f_Md_hasWord S v0 (12 : Int32) M) fun r5 M4 => (if r5 = 0 then
  hb (f_Md_hasSign S v0 (40 : Int32) M4) fun r9 M8 => (if r9 = 0 then (if v2 = 0 then b_Md_takePart_4 S rP v0 v2 v3 (2 : Int32) v0 M8
  else b_Md_takePart_4 S rP v0 v2 v3 (1 : Int32) v0 M8) else hv (f_Md_all S rP v0 (v1 + (1 : Int32)) M8) fun M13 =>
  hv (f_Md_takeSign S v0 (41 : Int32) M13) fun M15 => some M15) else hv (rP v0 (v1 + (1 : Int32)) M4) fun M17 =>
  hv (f_Md_emit S v0 (3 : Int32) (0 : Int32) M17) fun M19 => some M19) else some M)
def b_Md_takePart_2 (S : hm_S) (rP : Nat → Int32 → hm_M → Option hm_M) (v0 : Nat) (v1 : Int32) (v2 : Int32) (v3 : Int32) (M : hm_M) : Option hm_M :=
  (if v1 = (5 : Int32) then hg (S v0 = some (.inr 12)) <| hv (f_Md_wrong S v0 (5 : Int32) M) fun M4 => b_Md_takePart_3 S rP v0 v1 v2 v3 M4
  else b_Md_takePart_3 S rP v0 v1 v2 v3 M)
def b_Md_takePart_1 (S : hm_S) (rP : Nat → Int32 → hm_M → Option hm_M) (v0 : Nat) (v1 : Int32) (s0 : Int32) (M : hm_M) : Option hm_M :=
  hg (S v0 = some (.inr 12)) <| hb (f_Md_factHere S v0 M) fun r4 M3 => (if 0 ≤ r4 then b_Md_takePart_2 S rP v0 v1 s0 r4 M3 else (if s0 = 0 then
  hb (f_Md_isSign S v0 (40 : Int32) M3) fun r9 M8 => (if r9 = 0 then hb (f_Md_isWord S v0 (12 : Int32) M8) fun r13 M12 => (if r13 = 0 then
  hv (f_Md_wrong S v0 (1 : Int32) M12) fun M16 => b_Md_takePart_3 S rP v0 v1 s0 r4 M16 else b_Md_takePart_2 S rP v0 v1 s0 r4 M12)
  else b_Md_takePart_2 S rP v0 v1 s0 r4 M8) else b_Md_takePart_2 S rP v0 v1 s0 r4 M3))
def e_Md_takePart (S : hm_S) (rP : Nat → Int32 → hm_M → Option hm_M) (v0 : Nat) (v1 : Int32) (M : hm_M) : Option hm_M :=
  hg (S v0 = some (.inr 12)) <| (if (M.1 v0 8) ≤ 0 then hg (M.2.2 v0 4 ≠ 0) <| hg (hm_ib S (M.2.2 v0 4) .int (M.1 v0 7) = true) <|
  (if (M.1 (M.2.2 v0 4) (M.1 v0 7).toNatClampNeg) = (2 : Int32) then b_Md_takePart_1 S rP v0 v1 (1 : Int32) M
  else b_Md_takePart_1 S rP v0 v1 (0 : Int32) M) else some M)
def f_Md_takePart (S : hm_S) (n : Nat) : Nat → Int32 → hm_M → Option hm_M := hm_it (e_Md_takePart S) (fun _ _ _ => none) n
def b_Md_readLaw_2 (S : hm_S) (k7 : Nat → Int32 → hm_M → Option hm_M) (v0 : Nat) (v1 : Int32) (s0 : Int32) (s1 : Nat) (M : hm_M) : Option hm_M :=
  hg (S s1 = some (.inr 12)) <| hl (hm_wI M s1 17 s0) fun M2 => k7 v0 (v1 + (1 : Int32)) M2
def b_Md_readLaw_1 (S : hm_S) (k7 : Nat → Int32 → hm_M → Option hm_M) (v0 : Nat) (v1 : Int32) (M : hm_M) : Option hm_M :=
  (if (4 : Int32) ≤ v1 then hg (S v0 = some (.inr 12)) <| (if 0 ≤ (M.1 v0 17) then hl (((145 : Int32) + (M.1 v0 17)) : Int32) fun x4 =>
  hg (M.2.2 v0 10 ≠ 0) <| hg (hm_ib S (M.2.2 v0 10) .int x4 = true) <| (if (M.1 (M.2.2 v0 10) x4.toNatClampNeg) < 0 then
  hl (hm_wI M v0 7 ((M.1 v0 7) + (1 : Int32))) fun M10 => hg (M10.2.2 v0 10 ≠ 0) <| hg (hm_ib S (M10.2.2 v0 10) .int x4 = true) <|
  hl (hm_wI M10 (M10.2.2 v0 10) x4.toNatClampNeg (M10.1 v0 13)) fun M15 => hv (f_Md_all S (f_Md_takePart S hD) v0 (0 : Int32) M15) fun M18 =>
  hv (f_Md_emit S v0 (0 : Int32) (0 : Int32) M18) fun M20 => some M20 else hv (f_Md_wrong S v0 (3 : Int32) M) fun M22 => some M22)
  else hv (f_Md_wrong S v0 (1 : Int32) M) fun M24 => some M24) else hg (S v0 = some (.inr 12)) <|
  hb (f_Md_isWord S v0 ((7 : Int32) + v1) M) fun r28 M27 => (if r28 = 0 then b_Md_readLaw_2 S k7 v0 v1 (M27.1 v0 17) v0 M27
  else b_Md_readLaw_2 S k7 v0 v1 v1 v0 M27))
def f_Md_readLaw_1 (S : hm_S) (n : Nat) : Nat → Int32 → hm_M → Option hm_M := hm_it (b_Md_readLaw_1 S ) (fun _ _ _ => none) n
def f_Md_readLaw (S : hm_S) (v0 : Nat) (M : hm_M) : Option hm_M :=
  hg (S v0 = some (.inr 12)) <| hl (hm_wI M v0 17 (-1 : Int32)) fun M2 => f_Md_readLaw_1 S hN v0 (0 : Int32) M2
def f_Md_readLine (S : hm_S) (v0 : Nat) (M : hm_M) : Option hm_M :=
  hg (S v0 = some (.inr 12)) <| hb (f_Md_isWord S v0 (0 : Int32) M) fun r4 M3 => (if r4 = 0 then hb (f_Md_isWord S v0 (1 : Int32) M3) fun r8 M7 =>
  (if r8 = 0 then hb (f_Md_isWord S v0 (4 : Int32) M7) fun r12 M11 => (if r12 = 0 then hb (f_Md_isWord S v0 (11 : Int32) M11) fun r16 M15 =>
  (if r16 = 0 then hv (f_Md_readLaw S v0 M15) fun M19 => some M19 else hv (f_Md_readCloud S v0 M15) fun M21 => some M21)
  else hv (f_Md_readPane S v0 M11) fun M23 => some M23) else hv (f_Md_readGuild S v0 M7) fun M25 => some M25)
  else hv (f_Md_readFloor S v0 M3) fun M27 => some M27)
def b_Md_chapel_8 (S : hm_S) (k246 : Nat → Int32 → hm_M → Option (Int32 × hm_M)) (v0 : Nat) (v1 : Int32) (M : hm_M) : Option (Int32 × hm_M) :=
  (if (4 : Int32) ≤ v1 then some ((0 : Int32), M) else hg (S v0 = some (.inr 12)) <| hg (M.2.2 v0 22 ≠ 0) <|
  hg (hm_ib S (M.2.2 v0 22) .boolean v1 = true) <| hl (hm_wI M (M.2.2 v0 22) v1.toNatClampNeg (vp_nar .boolean (0 : Int32))) fun M6 =>
  k246 v0 (v1 + (1 : Int32)) M6)
def f_Md_chapel_8 (S : hm_S) (n : Nat) : Nat → Int32 → hm_M → Option (Int32 × hm_M) := hm_it (b_Md_chapel_8 S ) (fun _ _ _ => none) n
def b_Md_chapel_7 (S : hm_S) (k190 : Nat → Int32 → hm_M → Option (Int32 × hm_M)) (v0 : Nat) (v1 : Int32) (M : hm_M) : Option (Int32 × hm_M) :=
  (if (12 : Int32) ≤ v1 then hg (S v0 = some (.inr 12)) <| hg (M.2.2 v0 20 ≠ 0) <| hg (hm_ib S (M.2.2 v0 20) .int (12 : Int32) = true) <|
  hl (hm_wI M (M.2.2 v0 20) (12 : Int32).toNatClampNeg (0 : Int32)) fun M6 => hg (M6.2.2 v0 20 ≠ 0) <|
  hg (hm_ib S (M6.2.2 v0 20) .int (13 : Int32) = true) <| hl (hm_wI M6 (M6.2.2 v0 20) (13 : Int32).toNatClampNeg (0 : Int32)) fun M11 =>
  hl (hm_wI M11 v0 21 (0 : Int32)) fun M13 => f_Md_chapel_8 S hN v0 (0 : Int32) M13 else hg (S v0 = some (.inr 12)) <| hg (M.2.2 v0 20 ≠ 0) <|
  hg (M.2.2 v0 10 ≠ 0) <| hg (hm_ib S (M.2.2 v0 10) .int (((17 : Int32) + ((4 : Int32) * v1)) + (2 : Int32)) = true) <|
  hg (hm_ib S (M.2.2 v0 20) .int ((0 : Int32) + v1) = true) <|
  hl (hm_wI M (M.2.2 v0 20) ((0 : Int32) + v1).toNatClampNeg (M.1 (M.2.2 v0 10) (((17 : Int32) + ((4 : Int32) * v1)) + (2 : Int32)).toNatClampNeg)) fun M22 =>
  k190 v0 (v1 + (1 : Int32)) M22)
def f_Md_chapel_7 (S : hm_S) (n : Nat) : Nat → Int32 → hm_M → Option (Int32 × hm_M) := hm_it (b_Md_chapel_7 S ) (fun _ _ _ => none) n
def b_Md_chapel_6 (S : hm_S) (k142 : Nat → Int32 → hm_M → Option (Int32 × hm_M)) (v0 : Nat) (v1 : Int32) (M : hm_M) : Option (Int32 × hm_M) :=
  hg (S v0 = some (.inr 12)) <| (if (M.1 v0 13) ≤ v1 then f_Md_chapel_7 S hN v0 (0 : Int32) M else hg (M.2.2 v0 11 ≠ 0) <|
  hg (hm_ib S (M.2.2 v0 11) .int ((1100 : Int32) + v1) = true) <| hg (hm_ib S (M.2.2 v0 11) .int v1 = true) <|
  hl (hm_wI M (M.2.2 v0 11) v1.toNatClampNeg (M.1 (M.2.2 v0 11) ((1100 : Int32) + v1).toNatClampNeg)) fun M8 => hg (M8.2.2 v0 12 ≠ 0) <|
  hg (hm_ib S (M8.2.2 v0 12) .int ((1100 : Int32) + v1) = true) <| hg (hm_ib S (M8.2.2 v0 12) .int v1 = true) <|
  hl (hm_wI M8 (M8.2.2 v0 12) v1.toNatClampNeg (M8.1 (M8.2.2 v0 12) ((1100 : Int32) + v1).toNatClampNeg)) fun M15 => k142 v0 (v1 + (1 : Int32)) M15)
def f_Md_chapel_6 (S : hm_S) (n : Nat) : Nat → Int32 → hm_M → Option (Int32 × hm_M) := hm_it (b_Md_chapel_6 S ) (fun _ _ _ => none) n
def b_Md_chapel_5 (S : hm_S) (k113 : Nat → Int32 → hm_M → Option (Int32 × hm_M)) (v0 : Nat) (v1 : Int32) (M : hm_M) : Option (Int32 × hm_M) :=
  (if (80 : Int32) ≤ v1 then f_Md_chapel_6 S hN v0 (0 : Int32) M else hg (S v0 = some (.inr 12)) <| hg (M.2.2 v0 10 ≠ 0) <|
  hg (hm_ib S (M.2.2 v0 10) .int ((80 : Int32) + v1) = true) <| hg (hm_ib S (M.2.2 v0 10) .int v1 = true) <|
  hl (hm_wI M (M.2.2 v0 10) v1.toNatClampNeg (M.1 (M.2.2 v0 10) ((80 : Int32) + v1).toNatClampNeg)) fun M8 => k113 v0 (v1 + (1 : Int32)) M8)
def f_Md_chapel_5 (S : hm_S) (n : Nat) : Nat → Int32 → hm_M → Option (Int32 × hm_M) := hm_it (b_Md_chapel_5 S ) (fun _ _ _ => none) n
def b_Md_chapel_4 (S : hm_S) (v0 : Nat) (M : hm_M) : Option (Int32 × hm_M) :=
  hg (S v0 = some (.inr 12)) <| (if (M.1 v0 8) ≤ 0 then f_Md_chapel_5 S hN v0 (0 : Int32) M else some ((M.1 v0 8), M))
def b_Md_chapel_3 (S : hm_S) (k67 : Nat → hm_M → Option (Int32 × hm_M)) (v0 : Nat) (M : hm_M) : Option (Int32 × hm_M) :=
  hg (S v0 = some (.inr 12)) <| (if (M.1 v0 8) = 0 then hg (M.2.2 v0 4 ≠ 0) <| hg (hm_ib S (M.2.2 v0 4) .int (M.1 v0 7) = true) <|
  (if (M.1 (M.2.2 v0 4) (M.1 v0 7).toNatClampNeg) = 0 then b_Md_chapel_4 S v0 M else hv (f_Md_readLine S v0 M) fun M8 =>
  hv (f_Md_takeSign S v0 (59 : Int32) M8) fun M10 => k67 v0 M10) else b_Md_chapel_4 S v0 M)
def f_Md_chapel_3 (S : hm_S) (n : Nat) : Nat → hm_M → Option (Int32 × hm_M) := hm_it (b_Md_chapel_3 S ) (fun _ _ => none) n
def b_Md_chapel_2 (S : hm_S) (k26 : Nat → Int32 → hm_M → Option (Int32 × hm_M)) (v0 : Nat) (v1 : Int32) (s0 : Int32) (s1 : Int32) (s2 : Nat) (M : hm_M) : Option (Int32 × hm_M) :=
  hg (hm_ib S s2 .int s1 = true) <| hl (hm_wI M s2 s1.toNatClampNeg s0) fun M3 => k26 v0 (v1 + (1 : Int32)) M3
def b_Md_chapel_1 (S : hm_S) (k26 : Nat → Int32 → hm_M → Option (Int32 × hm_M)) (v0 : Nat) (v1 : Int32) (M : hm_M) : Option (Int32 × hm_M) :=
  (if (80 : Int32) ≤ v1 then f_Md_chapel_3 S hN v0 M else hg (S v0 = some (.inr 12)) <| hg (M.2.2 v0 10 ≠ 0) <| (if (2 : Int32) ≤ v1 then
  (if v1 < (65 : Int32) then b_Md_chapel_2 S k26 v0 v1 (0 : Int32) ((80 : Int32) + v1) (M.2.2 v0 10) M
  else b_Md_chapel_2 S k26 v0 v1 (-1 : Int32) ((80 : Int32) + v1) (M.2.2 v0 10) M)
  else b_Md_chapel_2 S k26 v0 v1 (4 : Int32) ((80 : Int32) + v1) (M.2.2 v0 10) M))
def f_Md_chapel_1 (S : hm_S) (n : Nat) : Nat → Int32 → hm_M → Option (Int32 × hm_M) := hm_it (b_Md_chapel_1 S ) (fun _ _ _ => none) n
def f_Md_chapel (S : hm_S) (v0 : Nat) (M : hm_M) : Option (Int32 × hm_M) :=
  hg (S v0 = some (.inr 12)) <| hl (hm_wI M v0 0 (0 : Int32)) fun M2 => hv (f_Md_cutAll S v0 M2) fun M5 => hl (hm_wI M5 v0 13 (0 : Int32)) fun M6 =>
  hl (hm_wI M6 v0 15 (0 : Int32)) fun M8 => hl (hm_wI M8 v0 16 (0 : Int32)) fun M10 => f_Md_chapel_1 S hN v0 (0 : Int32) M10
def f_Md_clear (S : hm_S) (v0 : Nat) (M : hm_M) : Option (Int32 × hm_M) :=
  hg (S v0 = some (.inr 12)) <| hl (hm_wI M v0 0 (0 : Int32)) fun M2 => hg (M2.2.2 v0 20 ≠ 0) <|
  hg (hm_ib S (M2.2.2 v0 20) .int (13 : Int32) = true) <| hl (hm_wI M2 (M2.2.2 v0 20) (13 : Int32).toNatClampNeg (0 : Int32)) fun M7 =>
  some ((1 : Int32), M7)
def f_Md_guilds (S : hm_S) (v0 : Nat) (M : hm_M) : Option (Int32 × hm_M) :=
  hg (S v0 = some (.inr 12)) <| hg (M.2.2 v0 10 ≠ 0) <| hg (hm_ib S (M.2.2 v0 10) .int (3 : Int32) = true) <|
  some ((M.1 (M.2.2 v0 10) (3 : Int32).toNatClampNeg), M)
def f_Md_isGuild (S : hm_S) (v0 : Nat) (v1 : Int32) (M : hm_M) : Option (Int32 × hm_M) :=
  (if v1 < 0 then some ((0 : Int32), M) else hg (S v0 = some (.inr 12)) <| hb (f_Md_guilds S v0 M) fun r5 M4 => (if r5 ≤ v1 then
  some ((0 : Int32), M4) else some ((1 : Int32), M4)))
def f_Md_draw (S : hm_S) (v0 : Nat) (v1 : Int32) (M : hm_M) : Option (Int32 × hm_M) :=
  hg (S v0 = some (.inr 12)) <|
  hl (hm_wL M v0 34 ((((M.2.1 v0 34) * (1103515245 : Int64)) + (12345 : Int64)) - (((M.2.1 v0 34) * (1103515245 : Int64)) + (12345 : Int64)) / (2147483648 : Int64) * (2147483648 : Int64))) fun M2 =>
  hg (¬ v1.toInt64 = 0) <| some ((((M2.2.1 v0 34) / (65536 : Int64)) - ((M2.2.1 v0 34) / (65536 : Int64)) / v1.toInt64 * v1.toInt64).toInt32, M2)
def b_Md_rentsOf_2 (S : hm_S) (k4 : Nat → Int32 → Int32 → Int32 → hm_M → Option (Int32 × hm_M)) (v0 : Nat) (v1 : Int32) (v3 : Int32) (s0 : Int32) (s1 : Int32) (M : hm_M) : Option (Int32 × hm_M) :=
  hl ((s1 + s0) : Int32) fun x1 => k4 v0 v1 x1 (v3 + (1 : Int32)) M
def b_Md_rentsOf_1 (S : hm_S) (k4 : Nat → Int32 → Int32 → Int32 → hm_M → Option (Int32 × hm_M)) (v0 : Nat) (v1 : Int32) (v2 : Int32) (v3 : Int32) (M : hm_M) : Option (Int32 × hm_M) :=
  hg (S v0 = some (.inr 12)) <| hb (f_Md_panes S v0 M) fun r4 M3 => (if r4 ≤ v3 then some (v2, M3) else hb (f_Md_ownerOf S v0 v3 M3) fun r8 M7 =>
  (if r8 = v1 then hg (M7.2.2 v0 25 ≠ 0) <| hg (hm_ib S (M7.2.2 v0 25) .int v3 = true) <|
  b_Md_rentsOf_2 S k4 v0 v1 v3 (M7.1 (M7.2.2 v0 25) v3.toNatClampNeg) v2 M7 else b_Md_rentsOf_2 S k4 v0 v1 v3 (0 : Int32) v2 M7))
def f_Md_rentsOf_1 (S : hm_S) (n : Nat) : Nat → Int32 → Int32 → Int32 → hm_M → Option (Int32 × hm_M) := hm_it (b_Md_rentsOf_1 S ) (fun _ _ _ _ _ => none) n
def f_Md_rentsOf (S : hm_S) (v0 : Nat) (v1 : Int32) (M : hm_M) : Option (Int32 × hm_M) :=
  f_Md_rentsOf_1 S hN v0 v1 (0 : Int32) (0 : Int32) M
def b_Md_clouded_6 (S : hm_S) (k116 : Nat → Int32 → Int32 → Int32 → hm_M → Option (Int32 × hm_M)) (v0 : Nat) (v2 : Int32) (v4 : Int32) (s0 : Int32) (s1 : Int32) (M : hm_M) : Option (Int32 × hm_M) :=
  hl ((s1 + s0) : Int32) fun x1 => k116 v0 v2 x1 (v4 + (1 : Int32)) M
def b_Md_clouded_5 (S : hm_S) (k116 : Nat → Int32 → Int32 → Int32 → hm_M → Option (Int32 × hm_M)) (v0 : Nat) (v2 : Int32) (v3 : Int32) (v4 : Int32) (M : hm_M) : Option (Int32 × hm_M) :=
  hg (S v0 = some (.inr 12)) <| hb (f_Md_guilds S v0 M) fun r4 M3 => (if r4 ≤ v4 then (if v2 = (-1 : Int32) then some (v3, M3)
  else hb (f_Md_rentsOf S v0 v2 M3) fun r9 M8 => some (r9, M8)) else hb (f_Md_rentsOf S v0 v4 M3) fun r12 M11 => hg (M11.2.2 v0 10 ≠ 0) <|
  hg (hm_ib S (M11.2.2 v0 10) .int (((5 : Int32) + ((2 : Int32) * v4)) + (1 : Int32)) = true) <|
  (if (M11.1 (M11.2.2 v0 10) (((5 : Int32) + ((2 : Int32) * v4)) + (1 : Int32)).toNatClampNeg) ≤ r12 then
  b_Md_clouded_6 S k116 v0 v2 v4 (0 : Int32) v3 M11 else b_Md_clouded_6 S k116 v0 v2 v4 (1 : Int32) v3 M11))
def f_Md_clouded_5 (S : hm_S) (n : Nat) : Nat → Int32 → Int32 → Int32 → hm_M → Option (Int32 × hm_M) := hm_it (b_Md_clouded_5 S ) (fun _ _ _ _ _ => none) n
def b_Md_clouded_4 (S : hm_S) (k71 : Nat → Int32 → Int32 → hm_M → Option (Int32 × hm_M)) (v0 : Nat) (v2 : Int32) (v3 : Int32) (M : hm_M) : Option (Int32 × hm_M) :=
  (if (1248 : Int32) ≤ v3 then f_Md_clouded_5 S hN v0 v2 (0 : Int32) (0 : Int32) M else hg (S v0 = some (.inr 12)) <|
  hb (f_Md_draw S v0 (8 : Int32) M) fun r5 M4 => hg (M4.2.2 v0 10 ≠ 0) <| hg (hm_ib S (M4.2.2 v0 10) .int (2 : Int32) = true) <|
  (if r5 < (M4.1 (M4.2.2 v0 10) (2 : Int32).toNatClampNeg) then k71 v0 v2 (v3 + (1 : Int32)) M4
  else hv (f_Md_addsYields S v0 (v3 / (24 : Int32)) (v3 - v3 / (24 : Int32) * (24 : Int32)) M4) fun M11 => k71 v0 v2 (v3 + (1 : Int32)) M11))
def f_Md_clouded_4 (S : hm_S) (n : Nat) : Nat → Int32 → Int32 → hm_M → Option (Int32 × hm_M) := hm_it (b_Md_clouded_4 S ) (fun _ _ _ _ => none) n
def b_Md_clouded_3 (S : hm_S) (k50 : Nat → Int32 → Int32 → hm_M → Option (Int32 × hm_M)) (v0 : Nat) (v2 : Int32) (v3 : Int32) (M : hm_M) : Option (Int32 × hm_M) :=
  (if (12 : Int32) ≤ v3 then f_Md_clouded_4 S hN v0 v2 (0 : Int32) M else hg (S v0 = some (.inr 12)) <| hg (M.2.2 v0 25 ≠ 0) <|
  hg (hm_ib S (M.2.2 v0 25) .int v3 = true) <| hl (hm_wI M (M.2.2 v0 25) v3.toNatClampNeg (0 : Int32)) fun M6 => k50 v0 v2 (v3 + (1 : Int32)) M6)
def f_Md_clouded_3 (S : hm_S) (n : Nat) : Nat → Int32 → Int32 → hm_M → Option (Int32 × hm_M) := hm_it (b_Md_clouded_3 S ) (fun _ _ _ _ => none) n
def b_Md_clouded_2 (S : hm_S) (v0 : Nat) (v1 : Int32) (v2 : Int32) (s0 : Int32) (s1 : Nat) (M : hm_M) : Option (Int32 × hm_M) :=
  hg (S s1 = some (.inr 12)) <| hl (hm_wI M s1 0 s0) fun M2 => hg (S v0 = some (.inr 12)) <| (if (M2.1 v0 0) ≤ 0 then
  hl (hm_wL M2 v0 34 v1.toInt64) fun M6 => f_Md_clouded_3 S hN v0 v2 (0 : Int32) M6 else some ((0 : Int32), M2))
def b_Md_clouded_1 (S : hm_S) (v0 : Nat) (v1 : Int32) (v2 : Int32) (s0 : Nat) (M : hm_M) : Option (Int32 × hm_M) :=
  b_Md_clouded_2 S v0 v1 v2 (1 : Int32) s0 M
def f_Md_clouded (S : hm_S) (v0 : Nat) (v1 : Int32) (v2 : Int32) (M : hm_M) : Option (Int32 × hm_M) :=
  hb (f_Md_within S v1 (0 : Int32) (9999 : Int32) M) fun r3 M2 => (if r3 = 0 then b_Md_clouded_1 S v0 v1 v2 v0 M2 else (if v2 = (-1 : Int32) then
  b_Md_clouded_2 S v0 v1 v2 (0 : Int32) v0 M2 else hg (S v0 = some (.inr 12)) <| hb (f_Md_isGuild S v0 v2 M2) fun r9 M8 => (if r9 = 0 then
  b_Md_clouded_1 S v0 v1 v2 v0 M8 else b_Md_clouded_2 S v0 v1 v2 (0 : Int32) v0 M8)))
def f_Md_count (S : hm_S) (v0 : Nat) (v1 : Int32) (M : hm_M) : Option (Int32 × hm_M) :=
  hg (S v0 = some (.inr 12)) <| hl (hm_wI M v0 0 (0 : Int32)) fun M2 => (if v1 = (0 : Int32) then hg (M2.2.2 v0 10 ≠ 0) <|
  hg (hm_ib S (M2.2.2 v0 10) .int (0 : Int32) = true) <| some ((M2.1 (M2.2.2 v0 10) (0 : Int32).toNatClampNeg), M2) else if v1 = (1 : Int32) then
  hg (M2.2.2 v0 10 ≠ 0) <| hg (hm_ib S (M2.2.2 v0 10) .int (1 : Int32) = true) <| some ((M2.1 (M2.2.2 v0 10) (1 : Int32).toNatClampNeg), M2)
  else if v1 = (2 : Int32) then hb (f_Md_guilds S v0 M2) fun r15 M14 => some (r15, M14) else if v1 = (3 : Int32) then
  hb (f_Md_panes S v0 M2) fun r19 M18 => some (r19, M18) else if v1 = (4 : Int32) then hg (M2.2.2 v0 20 ≠ 0) <|
  hg (hm_ib S (M2.2.2 v0 20) .int (12 : Int32) = true) <| hb (f_Md_bits S (M2.1 (M2.2.2 v0 20) (12 : Int32).toNatClampNeg) M2) fun r26 M25 =>
  some (r26, M25) else if v1 = (5 : Int32) then some ((M2.1 v0 21), M2) else if v1 = (6 : Int32) then hb (f_Md_seens S v0 M2) fun r31 M30 =>
  some (r31, M30) else if v1 = (7 : Int32) then hg (M2.2.2 v0 10 ≠ 0) <| hg (hm_ib S (M2.2.2 v0 10) .int (2 : Int32) = true) <|
  some ((M2.1 (M2.2.2 v0 10) (2 : Int32).toNatClampNeg), M2) else if v1 = (8 : Int32) then some ((M2.1 v0 2), M2) else some ((-1 : Int32), M2))
def f_Md_exchange (S : hm_S) (v0 : Nat) (v1 : Int32) (v2 : Int32) (M : hm_M) : Option (Int32 × hm_M) :=
  hg (S v0 = some (.inr 12)) <| hl (hm_wI M v0 0 (0 : Int32)) fun M2 => hb (f_Md_areUnlike S v0 v1 v2 M2) fun r6 M5 => (if r6 = 0 then
  some ((0 : Int32), M5) else hv (f_Md_keeps S v0 M5) fun M9 => hb (f_Md_ownerOf S v0 v1 M9) fun r12 M11 => hg (M11.2.2 v0 20 ≠ 0) <|
  hb (f_Md_ownerOf S v0 v2 M11) fun r16 M15 => hg (hm_ib S (M11.2.2 v0 20) .int ((0 : Int32) + v1) = true) <|
  hl (hm_wI M15 (M11.2.2 v0 20) ((0 : Int32) + v1).toNatClampNeg r16) fun M19 => hg (M19.2.2 v0 20 ≠ 0) <|
  hg (hm_ib S (M19.2.2 v0 20) .int ((0 : Int32) + v2) = true) <| hl (hm_wI M19 (M19.2.2 v0 20) ((0 : Int32) + v2).toNatClampNeg r12) fun M24 =>
  some ((1 : Int32), M24))
def b_Md_findFalls_6 (S : hm_S) (k25 : Nat → Int32 → Int32 → hm_M → Option hm_M) (k43 : Nat → Int32 → Int32 → Int32 → Int32 → hm_M → Option hm_M) (k58 : Nat → Int32 → Int32 → Int32 → Int32 → Int32 → Int32 → hm_M → Option hm_M) (v0 : Nat) (v1 : Int32) (v2 : Int32) (v3 : Int32) (v4 : Int32) (v6 : Int32) (s0 : Int32) (M : hm_M) : Option hm_M :=
  k58 v0 v1 v2 v3 v4 s0 (v6 + (1 : Int32)) M
def b_Md_findFalls_5 (S : hm_S) (k25 : Nat → Int32 → Int32 → hm_M → Option hm_M) (k43 : Nat → Int32 → Int32 → Int32 → Int32 → hm_M → Option hm_M) (k58 : Nat → Int32 → Int32 → Int32 → Int32 → Int32 → Int32 → hm_M → Option hm_M) (v0 : Nat) (v1 : Int32) (v2 : Int32) (v3 : Int32) (v4 : Int32) (v6 : Int32) (M : hm_M) : Option hm_M :=
  b_Md_findFalls_6 S k25 k43 k58 v0 v1 v2 v3 v4 v6 (0 : Int32) M
def b_Md_findFalls_4 (S : hm_S) (k25 : Nat → Int32 → Int32 → hm_M → Option hm_M) (k43 : Nat → Int32 → Int32 → Int32 → Int32 → hm_M → Option hm_M) (k58 : Nat → Int32 → Int32 → Int32 → Int32 → Int32 → Int32 → hm_M → Option hm_M) (v0 : Nat) (v1 : Int32) (v2 : Int32) (v3 : Int32) (v4 : Int32) (v5 : Int32) (v6 : Int32) (M : hm_M) : Option hm_M :=
  hg (S v0 = some (.inr 12)) <| hb (f_Md_panes S v0 M) fun r4 M3 => (if r4 ≤ v6 then hg (M3.2.2 v0 29 ≠ 0) <|
  hg (hm_ib S (M3.2.2 v0 29) .int v4 = true) <| (if (M3.1 (M3.2.2 v0 29) v4.toNatClampNeg) = 0 then (if v5 = 0 then
  k43 v0 v1 v2 v3 (v4 + (1 : Int32)) M3 else hb (f_Md_rentsOf S v0 v4 M3) fun r13 M12 => hg (M12.2.2 v0 10 ≠ 0) <|
  hg (hm_ib S (M12.2.2 v0 10) .int (((5 : Int32) + ((2 : Int32) * v4)) + (1 : Int32)) = true) <|
  (if (M12.1 (M12.2.2 v0 10) (((5 : Int32) + ((2 : Int32) * v4)) + (1 : Int32)).toNatClampNeg) ≤ r13 then k43 v0 v1 v2 v3 (v4 + (1 : Int32)) M12
  else hg (M12.2.2 v0 29 ≠ 0) <| hg (hm_ib S (M12.2.2 v0 29) .int v4 = true) <| hl (hm_wI M12 (M12.2.2 v0 29) v4.toNatClampNeg v1) fun M21 =>
  hl ((v3 ||| ((1 : Int32) <<< (v4 &&& 31))) : Int32) fun x23 => k43 v0 v1 (1 : Int32) x23 (v4 + (1 : Int32)) M21))
  else k43 v0 v1 v2 v3 (v4 + (1 : Int32)) M3) else (if v5 = 0 then hb (f_Md_ownerOf S v0 v6 M3) fun r28 M27 => (if r28 = v4 then
  hb (f_Md_isBroken S v0 v6 M27) fun r32 M31 => (if r32 = 0 then b_Md_findFalls_6 S k25 k43 k58 v0 v1 v2 v3 v4 v6 (1 : Int32) M31
  else b_Md_findFalls_5 S k25 k43 k58 v0 v1 v2 v3 v4 v6 M31) else b_Md_findFalls_5 S k25 k43 k58 v0 v1 v2 v3 v4 v6 M27)
  else b_Md_findFalls_6 S k25 k43 k58 v0 v1 v2 v3 v4 v6 (1 : Int32) M3))
def f_Md_findFalls_4 (S : hm_S) (k25 : Nat → Int32 → Int32 → hm_M → Option hm_M) (k43 : Nat → Int32 → Int32 → Int32 → Int32 → hm_M → Option hm_M) (n : Nat) : Nat → Int32 → Int32 → Int32 → Int32 → Int32 → Int32 → hm_M → Option hm_M := hm_it (b_Md_findFalls_4 S k25 k43) (fun _ _ _ _ _ _ _ _ => none) n
def b_Md_findFalls_3 (S : hm_S) (k25 : Nat → Int32 → Int32 → hm_M → Option hm_M) (k43 : Nat → Int32 → Int32 → Int32 → Int32 → hm_M → Option hm_M) (v0 : Nat) (v1 : Int32) (v2 : Int32) (v3 : Int32) (v4 : Int32) (M : hm_M) : Option hm_M :=
  hg (S v0 = some (.inr 12)) <| hb (f_Md_guilds S v0 M) fun r4 M3 => (if r4 ≤ v4 then hl (hm_wI M3 v0 23 ((M3.1 v0 23) ||| v3)) fun M6 =>
  k25 v0 v1 v2 M6 else f_Md_findFalls_4 S k25 k43 hN v0 v1 v2 v3 v4 (0 : Int32) (0 : Int32) M3)
def f_Md_findFalls_3 (S : hm_S) (k25 : Nat → Int32 → Int32 → hm_M → Option hm_M) (n : Nat) : Nat → Int32 → Int32 → Int32 → Int32 → hm_M → Option hm_M := hm_it (b_Md_findFalls_3 S k25) (fun _ _ _ _ _ _ => none) n
def b_Md_findFalls_2 (S : hm_S) (k25 : Nat → Int32 → Int32 → hm_M → Option hm_M) (v0 : Nat) (v1 : Int32) (v2 : Int32) (M : hm_M) : Option hm_M :=
  (if v2 = 0 then hg (S v0 = some (.inr 12)) <| hl (hm_wI M v0 23 (0 : Int32)) fun M3 => some M3 else hg (S v0 = some (.inr 12)) <|
  hv (f_Md_findYields S v0 M) fun M7 => f_Md_findFalls_3 S k25 hN v0 (v1 + (1 : Int32)) (0 : Int32) (0 : Int32) (0 : Int32) M7)
def f_Md_findFalls_2 (S : hm_S) (n : Nat) : Nat → Int32 → Int32 → hm_M → Option hm_M := hm_it (b_Md_findFalls_2 S ) (fun _ _ _ _ => none) n
def b_Md_findFalls_1 (S : hm_S) (k2 : Nat → Int32 → hm_M → Option hm_M) (v0 : Nat) (v1 : Int32) (M : hm_M) : Option hm_M :=
  (if (6 : Int32) ≤ v1 then f_Md_findFalls_2 S hN v0 (0 : Int32) (1 : Int32) M else hg (S v0 = some (.inr 12)) <| hg (M.2.2 v0 29 ≠ 0) <|
  hg (hm_ib S (M.2.2 v0 29) .int v1 = true) <| hl (hm_wI M (M.2.2 v0 29) v1.toNatClampNeg (0 : Int32)) fun M6 => k2 v0 (v1 + (1 : Int32)) M6)
def f_Md_findFalls_1 (S : hm_S) (n : Nat) : Nat → Int32 → hm_M → Option hm_M := hm_it (b_Md_findFalls_1 S ) (fun _ _ _ => none) n
def f_Md_findFalls (S : hm_S) (v0 : Nat) (M : hm_M) : Option hm_M :=
  f_Md_findFalls_1 S hN v0 (0 : Int32) M
def b_Md_fallen_2 (S : hm_S) (k13 : Nat → Int32 → Int32 → hm_M → Option (Int32 × hm_M)) (v0 : Nat) (v2 : Int32) (s0 : Int32) (s1 : Int32) (M : hm_M) : Option (Int32 × hm_M) :=
  hl ((s1 ||| s0) : Int32) fun x1 => k13 v0 x1 (v2 + (1 : Int32)) M
def b_Md_fallen_1 (S : hm_S) (k13 : Nat → Int32 → Int32 → hm_M → Option (Int32 × hm_M)) (v0 : Nat) (v1 : Int32) (v2 : Int32) (M : hm_M) : Option (Int32 × hm_M) :=
  hg (S v0 = some (.inr 12)) <| hb (f_Md_guilds S v0 M) fun r4 M3 => (if r4 ≤ v2 then some (v1, M3) else hg (M3.2.2 v0 29 ≠ 0) <|
  hg (hm_ib S (M3.2.2 v0 29) .int v2 = true) <| (if (M3.1 (M3.2.2 v0 29) v2.toNatClampNeg) ≤ 0 then b_Md_fallen_2 S k13 v0 v2 (0 : Int32) v1 M3
  else b_Md_fallen_2 S k13 v0 v2 ((1 : Int32) <<< (v2 &&& 31)) v1 M3))
def f_Md_fallen_1 (S : hm_S) (n : Nat) : Nat → Int32 → Int32 → hm_M → Option (Int32 × hm_M) := hm_it (b_Md_fallen_1 S ) (fun _ _ _ _ => none) n
def f_Md_fallen (S : hm_S) (v0 : Nat) (M : hm_M) : Option (Int32 × hm_M) :=
  hg (S v0 = some (.inr 12)) <| hl (hm_wI M v0 0 (0 : Int32)) fun M2 => hv (f_Md_findFalls S v0 M2) fun M5 =>
  f_Md_fallen_1 S hN v0 (0 : Int32) (0 : Int32) M5
def f_Md_falls (S : hm_S) (v0 : Nat) (v1 : Int32) (M : hm_M) : Option (Int32 × hm_M) :=
  hg (S v0 = some (.inr 12)) <| hl (hm_wI M v0 0 (0 : Int32)) fun M2 => hb (f_Md_isGuild S v0 v1 M2) fun r6 M5 => (if r6 = 0 then
  some ((-1 : Int32), M5) else hv (f_Md_findFalls S v0 M5) fun M9 => hg (M9.2.2 v0 29 ≠ 0) <| hg (hm_ib S (M9.2.2 v0 29) .int v1 = true) <|
  some ((M9.1 (M9.2.2 v0 29) v1.toNatClampNeg), M9))
def b_Md_lay_2 (S : hm_S) (k3 : Nat → Int64 → Int32 → hm_M → Option hm_M) (v0 : Nat) (v1 : Int64) (v3 : Int32) (v4 : Int32) (M : hm_M) : Option hm_M :=
  hg (S v0 = some (.inr 12)) <| (if (1000 : Int32) ≤ (M.1 v0 2) then k3 v0 v1 (v3 + (-8 : Int32)) M else hg (M.2.2 v0 1 ≠ 0) <|
  hg (hm_ib S (M.2.2 v0 1) .int (M.1 v0 2) = true) <| hl (hm_wI M (M.2.2 v0 1) (M.1 v0 2).toNatClampNeg v4) fun M6 =>
  hl (hm_wI M6 v0 2 ((M6.1 v0 2) + (1 : Int32))) fun M8 => k3 v0 v1 (v3 + (-8 : Int32)) M8)
def b_Md_lay_1 (S : hm_S) (k3 : Nat → Int64 → Int32 → hm_M → Option hm_M) (v0 : Nat) (v1 : Int64) (v3 : Int32) (M : hm_M) : Option hm_M :=
  (if v3 < 0 then some M else hl (((v1 >>> (v3.toInt64 &&& 63)).toInt32 &&& (255 : Int32)) : Int32) fun x2 => (if x2 = (10 : Int32) then
  b_Md_lay_2 S k3 v0 v1 v3 x2 M else (if x2 < (32 : Int32) then k3 v0 v1 (v3 + (-8 : Int32)) M else (if (126 : Int32) < x2 then
  k3 v0 v1 (v3 + (-8 : Int32)) M else b_Md_lay_2 S k3 v0 v1 v3 x2 M))))
def f_Md_lay_1 (S : hm_S) (n : Nat) : Nat → Int64 → Int32 → hm_M → Option hm_M := hm_it (b_Md_lay_1 S ) (fun _ _ _ _ => none) n
def f_Md_lay (S : hm_S) (v0 : Nat) (v1 : Int64) (M : hm_M) : Option hm_M :=
  f_Md_lay_1 S hN v0 v1 (56 : Int32) M
def f_Md_feed (S : hm_S) (v0 : Nat) (v1 : Int64) (v3 : Int64) (v5 : Int64) (M : hm_M) : Option (Int32 × hm_M) :=
  hg (S v0 = some (.inr 12)) <| hl (hm_wI M v0 0 (0 : Int32)) fun M2 => hv (f_Md_lay S v0 v1 M2) fun M5 => hv (f_Md_lay S v0 v3 M5) fun M7 =>
  hv (f_Md_lay S v0 v5 M7) fun M9 => some ((M9.1 v0 2), M9)
def f_Md_isPlace (S : hm_S) (v0 : Nat) (v1 : Int32) (M : hm_M) : Option (Int32 × hm_M) :=
  hg (S v0 = some (.inr 12)) <| hb (f_Md_isOn S v0 (v1 - v1 / (8 : Int32) * (8 : Int32)) (v1 / (8 : Int32)) M) fun r4 M3 => hg (r4 = 0 ∨ r4 = 1) <|
  some (r4, M3)
def b_Md_findMay_7 (S : hm_S) (k101 : Nat → Int32 → Int32 → Int32 → hm_M → Option hm_M) (v0 : Nat) (v4 : Int32) (v5 : Int32) (v6 : Int32) (s0 : Int32) (s1 : Int32) (s2 : Nat) (M : hm_M) : Option hm_M :=
  hg (hm_ib S s2 .int s1 = true) <| hl (hm_wI M s2 s1.toNatClampNeg s0) fun M3 => k101 v0 v4 v5 (v6 + (1 : Int32)) M3
def b_Md_findMay_6 (S : hm_S) (k101 : Nat → Int32 → Int32 → Int32 → hm_M → Option hm_M) (v0 : Nat) (v4 : Int32) (v5 : Int32) (v6 : Int32) (M : hm_M) : Option hm_M :=
  (if (64 : Int32) ≤ v6 then some M else (if v5 = 0 then hg (S v0 = some (.inr 12)) <| hg (M.2.2 v0 30 ≠ 0) <|
  hb (f_Md_isPlace S v0 v6 M) fun r7 M6 => (if r7 = 0 then
  b_Md_findMay_7 S k101 v0 v4 v5 v6 (100000000 : Int32) (((64 : Int32) * v4) + v6) (M.2.2 v0 30) M6
  else b_Md_findMay_7 S k101 v0 v4 v5 v6 (0 : Int32) (((64 : Int32) * v4) + v6) (M.2.2 v0 30) M6) else some M))
def f_Md_findMay_6 (S : hm_S) (n : Nat) : Nat → Int32 → Int32 → Int32 → hm_M → Option hm_M := hm_it (b_Md_findMay_6 S ) (fun _ _ _ _ _ => none) n
def b_Md_findMay_5 (S : hm_S) (k12 : Nat → Int32 → Int32 → Int32 → Int32 → hm_M → Option hm_M) (v0 : Nat) (v1 : Int32) (v4 : Int32) (v5 : Int32) (v6 : Int32) (s0 : Int32) (s1 : Int32) (s2 : Nat) (M : hm_M) : Option hm_M :=
  hg (hm_ib S s2 .int s1 = true) <| hl (hm_wI M s2 s1.toNatClampNeg s0) fun M3 => k12 v0 v1 v4 v5 (v6 + (1 : Int32)) M3
def b_Md_findMay_4 (S : hm_S) (k12 : Nat → Int32 → Int32 → Int32 → Int32 → hm_M → Option hm_M) (v0 : Nat) (v1 : Int32) (v4 : Int32) (v6 : Int32) (v7 : Int32) (s0 : Int32) (M : hm_M) : Option hm_M :=
  hg (S v0 = some (.inr 12)) <| hg (M.2.2 v0 30 ≠ 0) <| (if v7 = 0 then
  b_Md_findMay_5 S k12 v0 v1 v4 s0 v6 (100000000 : Int32) (((64 : Int32) * v4) + v6) (M.2.2 v0 30) M
  else b_Md_findMay_5 S k12 v0 v1 v4 s0 v6 (0 : Int32) (((64 : Int32) * v4) + v6) (M.2.2 v0 30) M)
def b_Md_findMay_3 (S : hm_S) (k12 : Nat → Int32 → Int32 → Int32 → Int32 → hm_M → Option hm_M) (v0 : Nat) (v1 : Int32) (v4 : Int32) (v5 : Int32) (v6 : Int32) (s0 : Int32) (M : hm_M) : Option hm_M :=
  (if v5 = 0 then (if s0 = 0 then b_Md_findMay_4 S k12 v0 v1 v4 v6 s0 (0 : Int32) M else b_Md_findMay_4 S k12 v0 v1 v4 v6 s0 (1 : Int32) M)
  else b_Md_findMay_4 S k12 v0 v1 v4 v6 s0 (1 : Int32) M)
def b_Md_findMay_2 (S : hm_S) (k12 : Nat → Int32 → Int32 → Int32 → Int32 → hm_M → Option hm_M) (v0 : Nat) (v1 : Int32) (v4 : Int32) (v5 : Int32) (v6 : Int32) (M : hm_M) : Option hm_M :=
  b_Md_findMay_3 S k12 v0 v1 v4 v5 v6 (0 : Int32) M
def b_Md_findMay_1 (S : hm_S) (k12 : Nat → Int32 → Int32 → Int32 → Int32 → hm_M → Option hm_M) (v0 : Nat) (v1 : Int32) (v4 : Int32) (v5 : Int32) (v6 : Int32) (M : hm_M) : Option hm_M :=
  (if (64 : Int32) ≤ v6 then f_Md_findMay_6 S hN v0 v4 v5 (0 : Int32) M else hg (S v0 = some (.inr 12)) <| hb (f_Md_isPlace S v0 v6 M) fun r5 M4 =>
  (if r5 = 0 then b_Md_findMay_2 S k12 v0 v1 v4 v5 v6 M4 else hb (f_Md_lightAt S v0 v6 (0 : Int32) M4) fun r9 M8 => (if ((r9 >>>
  (v1 &&& 31)) &&& (1 : Int32)) = (1 : Int32) then b_Md_findMay_3 S k12 v0 v1 v4 v5 v6 (1 : Int32) M8 else b_Md_findMay_2 S k12 v0 v1 v4 v5 v6 M8)))
def f_Md_findMay_1 (S : hm_S) (n : Nat) : Nat → Int32 → Int32 → Int32 → Int32 → hm_M → Option hm_M := hm_it (b_Md_findMay_1 S ) (fun _ _ _ _ _ _ => none) n
def f_Md_findMay (S : hm_S) (v0 : Nat) (v1 : Int32) (v2 : Int32) (v3 : Int32) (v4 : Int32) (M : hm_M) : Option hm_M :=
  hg (S v0 = some (.inr 12)) <| hv (f_Md_findLight S v0 v2 v3 M) fun M3 => f_Md_findMay_1 S hN v0 v1 v4 (0 : Int32) (0 : Int32) M3
def b_Md_steps_2 (S : hm_S) (s0 : Int32) (s1 : Int32) (M : hm_M) : Option (Int32 × hm_M) :=
  some ((s1 + s0), M)
def b_Md_steps_1 (S : hm_S) (v3 : Int32) (s0 : Int32) (M : hm_M) : Option (Int32 × hm_M) :=
  (if 0 ≤ v3 then b_Md_steps_2 S v3 s0 M else b_Md_steps_2 S (-v3) s0 M)
def f_Md_steps (S : hm_S) (v0 : Int32) (v1 : Int32) (M : hm_M) : Option (Int32 × hm_M) :=
  hl (((v0 - v0 / (8 : Int32) * (8 : Int32)) - (v1 - v1 / (8 : Int32) * (8 : Int32))) : Int32) fun x1 =>
  hl (((v0 / (8 : Int32)) - (v1 / (8 : Int32))) : Int32) fun x3 => (if 0 ≤ x1 then b_Md_steps_1 S x3 x1 M else b_Md_steps_1 S x3 (-x1) M)
def b_Md_near_2 (S : hm_S) (k6 : Nat → Int32 → Int32 → Int32 → Int32 → hm_M → Option (Int32 × hm_M)) (v1 : Nat) (v2 : Int32) (v3 : Int32) (v5 : Int32) (s0 : Int32) (s1 : Int32) (M : hm_M) : Option (Int32 × hm_M) :=
  hl ((s1 + s0) : Int32) fun x1 => k6 v1 v2 v3 x1 (v5 + (1 : Int32)) M
def b_Md_near_1 (S : hm_S) (k6 : Nat → Int32 → Int32 → Int32 → Int32 → hm_M → Option (Int32 × hm_M)) (v1 : Nat) (v2 : Int32) (v3 : Int32) (v4 : Int32) (v5 : Int32) (M : hm_M) : Option (Int32 × hm_M) :=
  (if (64 : Int32) ≤ v5 then some (v4, M) else hb (f_Md_steps S v3 v5 M) fun r4 M3 => (if (1 : Int32) < r4 then
  b_Md_near_2 S k6 v1 v2 v3 v5 (0 : Int32) v4 M3 else hg (hm_ib S v1 .int (((64 : Int32) * v2) + v5) = true) <|
  b_Md_near_2 S k6 v1 v2 v3 v5 (M3.1 v1 (((64 : Int32) * v2) + v5).toNatClampNeg) v4 M3))
def f_Md_near_1 (S : hm_S) (n : Nat) : Nat → Int32 → Int32 → Int32 → Int32 → hm_M → Option (Int32 × hm_M) := hm_it (b_Md_near_1 S ) (fun _ _ _ _ _ _ => none) n
def f_Md_near (S : hm_S) (v0 : Nat) (v1 : Nat) (v2 : Int32) (v3 : Int32) (M : hm_M) : Option (Int32 × hm_M) :=
  f_Md_near_1 S hN v1 v2 v3 (0 : Int32) (0 : Int32) M
def b_Md_findStains_11 (S : hm_S) (k258 : Nat → Int32 → Int32 → hm_M → Option (Int32 × hm_M)) (v0 : Nat) (v5 : Int32) (v6 : Int32) (M : hm_M) : Option (Int32 × hm_M) :=
  (if (64 : Int32) ≤ v6 then some (v5, M) else hg (S v0 = some (.inr 12)) <| hg (M.2.2 v0 32 ≠ 0) <| hg (hm_ib S (M.2.2 v0 32) .int v6 = true) <|
  hl ((v5 + (M.1 (M.2.2 v0 32) v6.toNatClampNeg)) : Int32) fun x6 => k258 v0 x6 (v6 + (1 : Int32)) M)
def f_Md_findStains_11 (S : hm_S) (n : Nat) : Nat → Int32 → Int32 → hm_M → Option (Int32 × hm_M) := hm_it (b_Md_findStains_11 S ) (fun _ _ _ _ => none) n
def b_Md_findStains_10 (S : hm_S) (k178 : Nat → Int32 → hm_M → Option (Int32 × hm_M)) (k186 : Nat → Int32 → Int32 → hm_M → Option (Int32 × hm_M)) (v0 : Nat) (v5 : Int32) (v6 : Int32) (s0 : Int32) (s1 : Int32) (s2 : Nat) (M : hm_M) : Option (Int32 × hm_M) :=
  hg (hm_ib S s2 .int s1 = true) <| hl (hm_wI M s2 s1.toNatClampNeg s0) fun M3 => k186 v0 v5 (v6 + (1 : Int32)) M3
def b_Md_findStains_9 (S : hm_S) (k178 : Nat → Int32 → hm_M → Option (Int32 × hm_M)) (k186 : Nat → Int32 → Int32 → hm_M → Option (Int32 × hm_M)) (v0 : Nat) (v5 : Int32) (v6 : Int32) (M : hm_M) : Option (Int32 × hm_M) :=
  (if (64 : Int32) ≤ v6 then k178 v0 (v5 + (-1 : Int32)) M else hg (S v0 = some (.inr 12)) <| hg (M.2.2 v0 32 ≠ 0) <|
  hg (hm_ib S (M.2.2 v0 32) .int (((64 : Int32) * v5) + v6) = true) <| (if (M.1 (M.2.2 v0 32) (((64 : Int32) * v5) + v6).toNatClampNeg) = 0 then
  b_Md_findStains_10 S k178 k186 v0 v5 v6 (0 : Int32) (((64 : Int32) * v5) + v6) (M.2.2 v0 32) M
  else hb (f_Md_near S v0 (M.2.2 v0 32) (v5 + (1 : Int32)) v6 M) fun r9 M8 =>
  b_Md_findStains_10 S k178 k186 v0 v5 v6 r9 (((64 : Int32) * v5) + v6) (M.2.2 v0 32) M8))
def f_Md_findStains_9 (S : hm_S) (k178 : Nat → Int32 → hm_M → Option (Int32 × hm_M)) (n : Nat) : Nat → Int32 → Int32 → hm_M → Option (Int32 × hm_M) := hm_it (b_Md_findStains_9 S k178) (fun _ _ _ _ => none) n
def b_Md_findStains_8 (S : hm_S) (k178 : Nat → Int32 → hm_M → Option (Int32 × hm_M)) (v0 : Nat) (v5 : Int32) (M : hm_M) : Option (Int32 × hm_M) :=
  (if v5 < 0 then f_Md_findStains_11 S hN v0 (0 : Int32) (0 : Int32) M else f_Md_findStains_9 S k178 hN v0 v5 (0 : Int32) M)
def f_Md_findStains_8 (S : hm_S) (n : Nat) : Nat → Int32 → hm_M → Option (Int32 × hm_M) := hm_it (b_Md_findStains_8 S ) (fun _ _ _ => none) n
def b_Md_findStains_7 (S : hm_S) (k3 : Nat → Int32 → Int32 → Int32 → Int32 → Int32 → hm_M → Option (Int32 × hm_M)) (k21 : Nat → Int32 → Int32 → Int32 → Int32 → Int32 → Int32 → hm_M → Option (Int32 × hm_M)) (v0 : Nat) (v1 : Int32) (v2 : Int32) (v3 : Int32) (v4 : Int32) (v5 : Int32) (v6 : Int32) (s0 : Int32) (s1 : Int32) (s2 : Nat) (M : hm_M) : Option (Int32 × hm_M) :=
  hg (hm_ib S s2 .int s1 = true) <| hl (hm_wI M s2 s1.toNatClampNeg s0) fun M3 => k21 v0 v1 v2 v3 v4 v5 (v6 + (1 : Int32)) M3
def b_Md_findStains_6 (S : hm_S) (k3 : Nat → Int32 → Int32 → Int32 → Int32 → Int32 → hm_M → Option (Int32 × hm_M)) (k21 : Nat → Int32 → Int32 → Int32 → Int32 → Int32 → Int32 → hm_M → Option (Int32 × hm_M)) (v0 : Nat) (v1 : Int32) (v2 : Int32) (v3 : Int32) (v4 : Int32) (v5 : Int32) (v6 : Int32) (v7 : Int32) (s0 : Int32) (s1 : Int32) (s2 : Nat) (M : hm_M) : Option (Int32 × hm_M) :=
  hg (hm_ib S s2 .int s1 = true) <| hl (hm_wI M s2 s1.toNatClampNeg s0) fun M3 => hg (S v0 = some (.inr 12)) <| hg (M3.2.2 v0 32 ≠ 0) <|
  (if v7 = 0 then b_Md_findStains_7 S k3 k21 v0 v1 v2 v3 v4 v5 v6 (0 : Int32) (((64 : Int32) * v5) + v6) (M3.2.2 v0 32) M3
  else b_Md_findStains_7 S k3 k21 v0 v1 v2 v3 v4 v5 v6 (1 : Int32) (((64 : Int32) * v5) + v6) (M3.2.2 v0 32) M3)
def b_Md_findStains_5 (S : hm_S) (k3 : Nat → Int32 → Int32 → Int32 → Int32 → Int32 → hm_M → Option (Int32 × hm_M)) (k21 : Nat → Int32 → Int32 → Int32 → Int32 → Int32 → Int32 → hm_M → Option (Int32 × hm_M)) (v0 : Nat) (v1 : Int32) (v2 : Int32) (v3 : Int32) (v4 : Int32) (v5 : Int32) (v6 : Int32) (v7 : Int32) (s0 : Int32) (s1 : Int32) (s2 : Nat) (M : hm_M) : Option (Int32 × hm_M) :=
  hg (hm_ib S s2 .int s1 = true) <| hl (hm_wI M s2 s1.toNatClampNeg s0) fun M3 => hg (S v0 = some (.inr 12)) <| hg (M3.2.2 v0 31 ≠ 0) <|
  (if v7 = 0 then b_Md_findStains_6 S k3 k21 v0 v1 v2 v3 v4 v5 v6 v7 (0 : Int32) (((64 : Int32) * v5) + v6) (M3.2.2 v0 31) M3 else (if v5 = 0 then
  b_Md_findStains_6 S k3 k21 v0 v1 v2 v3 v4 v5 v6 v7 (1 : Int32) (((64 : Int32) * v5) + v6) (M3.2.2 v0 31) M3
  else hb (f_Md_near S v0 (M3.2.2 v0 31) (v5 - (1 : Int32)) v6 M3) fun r11 M10 =>
  b_Md_findStains_6 S k3 k21 v0 v1 v2 v3 v4 v5 v6 v7 r11 (((64 : Int32) * v5) + v6) (M3.2.2 v0 31) M10))
def b_Md_findStains_4 (S : hm_S) (k3 : Nat → Int32 → Int32 → Int32 → Int32 → Int32 → hm_M → Option (Int32 × hm_M)) (k21 : Nat → Int32 → Int32 → Int32 → Int32 → Int32 → Int32 → hm_M → Option (Int32 × hm_M)) (v0 : Nat) (v1 : Int32) (v2 : Int32) (v3 : Int32) (v4 : Int32) (v5 : Int32) (v6 : Int32) (s0 : Int32) (M : hm_M) : Option (Int32 × hm_M) :=
  hg (S v0 = some (.inr 12)) <| hg (M.2.2 v0 33 ≠ 0) <| (if s0 = 0 then
  b_Md_findStains_5 S k3 k21 v0 v1 v2 v3 v4 v5 v6 s0 (0 : Int32) (((64 : Int32) * v5) + v6) (M.2.2 v0 33) M
  else hb (f_Md_lightAt S v0 v6 (0 : Int32) M) fun r6 M5 =>
  b_Md_findStains_5 S k3 k21 v0 v1 v2 v3 v4 v5 v6 s0 r6 (((64 : Int32) * v5) + v6) (M.2.2 v0 33) M5)
def b_Md_findStains_3 (S : hm_S) (k3 : Nat → Int32 → Int32 → Int32 → Int32 → Int32 → hm_M → Option (Int32 × hm_M)) (k21 : Nat → Int32 → Int32 → Int32 → Int32 → Int32 → Int32 → hm_M → Option (Int32 × hm_M)) (v0 : Nat) (v1 : Int32) (v2 : Int32) (v3 : Int32) (v4 : Int32) (v5 : Int32) (v6 : Int32) (M : hm_M) : Option (Int32 × hm_M) :=
  b_Md_findStains_4 S k3 k21 v0 v1 v2 v3 v4 v5 v6 (0 : Int32) M
def b_Md_findStains_2 (S : hm_S) (k3 : Nat → Int32 → Int32 → Int32 → Int32 → Int32 → hm_M → Option (Int32 × hm_M)) (k21 : Nat → Int32 → Int32 → Int32 → Int32 → Int32 → Int32 → hm_M → Option (Int32 × hm_M)) (v0 : Nat) (v1 : Int32) (v2 : Int32) (v3 : Int32) (v4 : Int32) (v5 : Int32) (v6 : Int32) (M : hm_M) : Option (Int32 × hm_M) :=
  (if (64 : Int32) ≤ v6 then k3 v0 v1 v2 v3 v4 (v5 + (1 : Int32)) M else hg (S v0 = some (.inr 12)) <| hb (f_Md_isPlace S v0 v6 M) fun r5 M4 =>
  (if r5 = 0 then b_Md_findStains_3 S k3 k21 v0 v1 v2 v3 v4 v5 v6 M4 else hb (f_Md_lightAt S v0 v6 (1 : Int32) M4) fun r9 M8 => (if r9 = ((v4 >>>
  (((3 : Int32) * v5) &&& 31)) &&& (7 : Int32)) then b_Md_findStains_4 S k3 k21 v0 v1 v2 v3 v4 v5 v6 (1 : Int32) M8
  else b_Md_findStains_3 S k3 k21 v0 v1 v2 v3 v4 v5 v6 M8)))
def f_Md_findStains_2 (S : hm_S) (k3 : Nat → Int32 → Int32 → Int32 → Int32 → Int32 → hm_M → Option (Int32 × hm_M)) (n : Nat) : Nat → Int32 → Int32 → Int32 → Int32 → Int32 → Int32 → hm_M → Option (Int32 × hm_M) := hm_it (b_Md_findStains_2 S k3) (fun _ _ _ _ _ _ _ _ => none) n
def b_Md_findStains_1 (S : hm_S) (k3 : Nat → Int32 → Int32 → Int32 → Int32 → Int32 → hm_M → Option (Int32 × hm_M)) (v0 : Nat) (v1 : Int32) (v2 : Int32) (v3 : Int32) (v4 : Int32) (v5 : Int32) (M : hm_M) : Option (Int32 × hm_M) :=
  (if v3 ≤ v5 then hl ((v3 - (2 : Int32)) : Int32) fun x2 => f_Md_findStains_8 S hN v0 x2 M else hg (S v0 = some (.inr 12)) <|
  hv (f_Md_findLight S v0 v1 (v2 + v5) M) fun M6 => f_Md_findStains_2 S k3 hN v0 v1 v2 v3 v4 v5 (0 : Int32) M6)
def f_Md_findStains_1 (S : hm_S) (n : Nat) : Nat → Int32 → Int32 → Int32 → Int32 → Int32 → hm_M → Option (Int32 × hm_M) := hm_it (b_Md_findStains_1 S ) (fun _ _ _ _ _ _ _ => none) n
def f_Md_findStains (S : hm_S) (v0 : Nat) (v1 : Int32) (v2 : Int32) (v3 : Int32) (v4 : Int32) (M : hm_M) : Option (Int32 × hm_M) :=
  f_Md_findStains_1 S hN v0 v1 v2 v3 v4 (0 : Int32) M
def f_Md_gain (S : hm_S) (v0 : Nat) (v1 : Int32) (v2 : Int32) (M : hm_M) : Option (Int32 × hm_M) :=
  hg (S v0 = some (.inr 12)) <| hl (hm_wI M v0 0 (0 : Int32)) fun M2 => hb (f_Md_areUnlike S v0 v1 v2 M2) fun r6 M5 => (if r6 = 0 then
  some ((-1 : Int32), M5) else hv (f_Md_findYields S v0 M5) fun M9 => hb (f_Md_gainOf S v0 v1 v2 M9) fun r12 M11 => some (r12, M11))
def b_Md_guild_2 (S : hm_S) (k29 : Nat → Int32 → Int32 → Int32 → Int32 → hm_M → Option (Int32 × hm_M)) (v0 : Nat) (v1 : Int32) (v2 : Int32) (v4 : Int32) (s0 : Int32) (s1 : Int32) (M : hm_M) : Option (Int32 × hm_M) :=
  hl ((s1 ||| s0) : Int32) fun x1 => k29 v0 v1 v2 x1 (v4 + (1 : Int32)) M
def b_Md_guild_1 (S : hm_S) (k29 : Nat → Int32 → Int32 → Int32 → Int32 → hm_M → Option (Int32 × hm_M)) (v0 : Nat) (v1 : Int32) (v2 : Int32) (v3 : Int32) (v4 : Int32) (M : hm_M) : Option (Int32 × hm_M) :=
  hg (S v0 = some (.inr 12)) <| hb (f_Md_panes S v0 M) fun r4 M3 => (if r4 ≤ v4 then (if (2 : Int32) ≤ v2 then some (v3, M3)
  else hg (M3.2.2 v0 10 ≠ 0) <| hg (hm_ib S (M3.2.2 v0 10) .int (((5 : Int32) + ((2 : Int32) * v1)) + v2) = true) <|
  some ((M3.1 (M3.2.2 v0 10) (((5 : Int32) + ((2 : Int32) * v1)) + v2).toNatClampNeg), M3)) else hb (f_Md_ownerOf S v0 v4 M3) fun r12 M11 =>
  (if r12 = v1 then b_Md_guild_2 S k29 v0 v1 v2 v4 ((1 : Int32) <<< (v4 &&& 31)) v3 M11 else b_Md_guild_2 S k29 v0 v1 v2 v4 (0 : Int32) v3 M11))
def f_Md_guild_1 (S : hm_S) (n : Nat) : Nat → Int32 → Int32 → Int32 → Int32 → hm_M → Option (Int32 × hm_M) := hm_it (b_Md_guild_1 S ) (fun _ _ _ _ _ _ => none) n
def f_Md_guild (S : hm_S) (v0 : Nat) (v1 : Int32) (v2 : Int32) (M : hm_M) : Option (Int32 × hm_M) :=
  hg (S v0 = some (.inr 12)) <| hl (hm_wI M v0 0 (0 : Int32)) fun M2 => hb (f_Md_isGuild S v0 v1 M2) fun r6 M5 => (if r6 = 0 then
  some ((-1 : Int32), M5) else hb (f_Md_within S v2 (0 : Int32) (2 : Int32) M5) fun r10 M9 => (if r10 = 0 then some ((-1 : Int32), M9)
  else f_Md_guild_1 S hN v0 v1 v2 (0 : Int32) (0 : Int32) M9))
def b_Md_leastFrom_3 (S : hm_S) (k7 : Nat → Int32 → Int32 → Int32 → Int32 → hm_M → Option (Int32 × hm_M)) (v0 : Nat) (v1 : Int32) (v2 : Int32) (v4 : Int32) (s0 : Int32) (M : hm_M) : Option (Int32 × hm_M) :=
  k7 v0 v1 v2 s0 (v4 + (1 : Int32)) M
def b_Md_leastFrom_2 (S : hm_S) (k7 : Nat → Int32 → Int32 → Int32 → Int32 → hm_M → Option (Int32 × hm_M)) (v0 : Nat) (v1 : Int32) (v2 : Int32) (v3 : Int32) (v4 : Int32) (s0 : Int32) (M : hm_M) : Option (Int32 × hm_M) :=
  (if v3 ≤ s0 then b_Md_leastFrom_3 S k7 v0 v1 v2 v4 v3 M else b_Md_leastFrom_3 S k7 v0 v1 v2 v4 s0 M)
def b_Md_leastFrom_1 (S : hm_S) (k7 : Nat → Int32 → Int32 → Int32 → Int32 → hm_M → Option (Int32 × hm_M)) (v0 : Nat) (v1 : Int32) (v2 : Int32) (v3 : Int32) (v4 : Int32) (M : hm_M) : Option (Int32 × hm_M) :=
  (if (64 : Int32) ≤ v4 then some (v3, M) else hg (S v0 = some (.inr 12)) <| hg (M.2.2 v0 30 ≠ 0) <|
  hg (hm_ib S (M.2.2 v0 30) .int (((64 : Int32) * (v1 + (1 : Int32))) + v4) = true) <|
  (if (M.1 (M.2.2 v0 30) (((64 : Int32) * (v1 + (1 : Int32))) + v4).toNatClampNeg) < (100000000 : Int32) then hb (f_Md_steps S v2 v4 M) fun r9 M8 =>
  b_Md_leastFrom_2 S k7 v0 v1 v2 v3 v4 ((M.1 (M.2.2 v0 30) (((64 : Int32) * (v1 + (1 : Int32))) + v4).toNatClampNeg) + r9) M8
  else b_Md_leastFrom_2 S k7 v0 v1 v2 v3 v4 (100000000 : Int32) M))
def f_Md_leastFrom_1 (S : hm_S) (n : Nat) : Nat → Int32 → Int32 → Int32 → Int32 → hm_M → Option (Int32 × hm_M) := hm_it (b_Md_leastFrom_1 S ) (fun _ _ _ _ _ _ => none) n
def f_Md_leastFrom (S : hm_S) (v0 : Nat) (v1 : Int32) (v2 : Int32) (M : hm_M) : Option (Int32 × hm_M) :=
  f_Md_leastFrom_1 S hN v0 v1 v2 (100000000 : Int32) (0 : Int32) M
def b_Md_mark_1 (S : hm_S) (v0 : Nat) (v1 : Int32) (v2 : Int32) (M : hm_M) : Option (Int32 × hm_M) :=
  (if v2 = 0 then hg (S v0 = some (.inr 12)) <| hg (M.2.2 v0 22 ≠ 0) <| hg (hm_ib S (M.2.2 v0 22) .boolean v1 = true) <|
  hl (hm_wI M (M.2.2 v0 22) v1.toNatClampNeg (vp_nar .boolean (1 : Int32))) fun M6 =>
  hv (f_Md_copies S v0 (0 : Int32) ((1 : Int32) + v1) (40 : Int32) M6) fun M9 => some ((1 : Int32), M9) else hg (S v0 = some (.inr 12)) <|
  hv (f_Md_copies S v0 ((1 : Int32) + v1) (0 : Int32) (40 : Int32) M) fun M12 => hl (hm_wI M12 v0 21 (0 : Int32)) fun M13 => some ((1 : Int32), M13))
def f_Md_mark (S : hm_S) (v0 : Nat) (v1 : Int32) (v2 : Int32) (M : hm_M) : Option (Int32 × hm_M) :=
  hg (S v0 = some (.inr 12)) <| hl (hm_wI M v0 0 (0 : Int32)) fun M2 => hb (f_Md_within S v1 (0 : Int32) (3 : Int32) M2) fun r6 M5 => (if r6 = 0 then
  some ((0 : Int32), M5) else (if v2 = 0 then b_Md_mark_1 S v0 v1 v2 M5 else hg (M5.2.2 v0 22 ≠ 0) <|
  hg (hm_ib S (M5.2.2 v0 22) .boolean v1 = true) <| (if (M5.1 (M5.2.2 v0 22) v1.toNatClampNeg) = 0 then some ((0 : Int32), M5)
  else b_Md_mark_1 S v0 v1 v2 M5)))
def f_Md_pane (S : hm_S) (v0 : Nat) (v1 : Int32) (v2 : Int32) (M : hm_M) : Option (Int32 × hm_M) :=
  hg (S v0 = some (.inr 12)) <| hl (hm_wI M v0 0 (0 : Int32)) fun M2 => hb (f_Md_isPane S v0 v1 M2) fun r6 M5 => (if r6 = 0 then
  some ((-1 : Int32), M5) else hb (f_Md_within S v2 (0 : Int32) (4 : Int32) M5) fun r10 M9 => (if r10 = 0 then some ((-1 : Int32), M9)
  else (if v2 = (2 : Int32) then hb (f_Md_ownerOf S v0 v1 M9) fun r23 M22 => some (r23, M22) else (if v2 = (4 : Int32) then
  hb (f_Md_isBroken S v0 v1 M9) fun r19 M18 => (if r19 = 0 then some ((0 : Int32), M18) else some ((1 : Int32), M18))
  else hb (f_Md_paneOf S v0 v1 v2 M9) fun r16 M15 => some (r16, M15)))))
def f_Md_place (S : hm_S) (v0 : Nat) (v1 : Int32) (v2 : Int32) (v3 : Int32) (v4 : Int32) (v5 : Int32) (M : hm_M) : Option (Int32 × hm_M) :=
  hg (S v0 = some (.inr 12)) <| hl (hm_wI M v0 0 (0 : Int32)) fun M2 => hb (f_Md_isOn S v0 v1 v2 M2) fun r6 M5 => (if r6 = 0 then
  some ((-1 : Int32), M5) else hb (f_Md_isTime S v3 v4 M5) fun r10 M9 => (if r10 = 0 then some ((-1 : Int32), M9)
  else hb (f_Md_within S v5 (0 : Int32) (2 : Int32) M9) fun r14 M13 => (if r14 = 0 then some ((-1 : Int32), M13)
  else hv (f_Md_findLight S v0 v3 v4 M13) fun M17 => hb (f_Md_lightAt S v0 (((8 : Int32) * v2) + v1) v5 M17) fun r20 M19 => some (r20, M19))))
def f_Md_rents (S : hm_S) (v0 : Nat) (v1 : Int32) (M : hm_M) : Option (Int32 × hm_M) :=
  hg (S v0 = some (.inr 12)) <| hl (hm_wI M v0 0 (0 : Int32)) fun M2 => hb (f_Md_isGuild S v0 v1 M2) fun r6 M5 => (if r6 = 0 then
  some ((-1 : Int32), M5) else hv (f_Md_findYields S v0 M5) fun M9 => hb (f_Md_rentsOf S v0 v1 M9) fun r12 M11 => some (r12, M11))
def f_Md_see (S : hm_S) (v0 : Nat) (v1 : Int32) (v2 : Int32) (v3 : Int32) (M : hm_M) : Option (Int32 × hm_M) :=
  hg (S v0 = some (.inr 12)) <| hl (hm_wI M v0 0 (0 : Int32)) fun M2 => hb (f_Md_isOn S v0 v1 v2 M2) fun r6 M5 => (if r6 = 0 then
  some ((-1 : Int32), M5) else hb (f_Md_within S v3 (0 : Int32) (7 : Int32) M5) fun r10 M9 => (if r10 = 0 then some ((-1 : Int32), M9)
  else hb (f_Md_seens S v0 M9) fun r14 M13 => (if r14 = (8 : Int32) then some ((-1 : Int32), M13) else hb (f_Md_seens S v0 M13) fun r18 M17 =>
  hl (((14 : Int32) + ((3 : Int32) * r18)) : Int32) fun x19 => hg (M17.2.2 v0 20 ≠ 0) <| hg (hm_ib S (M17.2.2 v0 20) .int x19 = true) <|
  hl (hm_wI M17 (M17.2.2 v0 20) x19.toNatClampNeg v1) fun M24 => hg (M24.2.2 v0 20 ≠ 0) <|
  hg (hm_ib S (M24.2.2 v0 20) .int (x19 + (1 : Int32)) = true) <| hl (hm_wI M24 (M24.2.2 v0 20) (x19 + (1 : Int32)).toNatClampNeg v2) fun M29 =>
  hg (M29.2.2 v0 20 ≠ 0) <| hg (hm_ib S (M29.2.2 v0 20) .int (x19 + (2 : Int32)) = true) <|
  hl (hm_wI M29 (M29.2.2 v0 20) (x19 + (2 : Int32)).toNatClampNeg v3) fun M34 => hg (M34.2.2 v0 20 ≠ 0) <|
  hg (hm_ib S (M34.2.2 v0 20) .int (13 : Int32) = true) <|
  hl (hm_wI M34 (M34.2.2 v0 20) (13 : Int32).toNatClampNeg ((M34.1 (M34.2.2 v0 20) (13 : Int32).toNatClampNeg) + (1 : Int32))) fun M39 =>
  hb (f_Md_seens S v0 M39) fun r43 M42 => some (r43, M42))))
def f_Md_spot (S : hm_S) (v0 : Nat) (v1 : Int32) (v2 : Int32) (v3 : Int32) (M : hm_M) : Option (Int32 × hm_M) :=
  hg (S v0 = some (.inr 12)) <| hl (hm_wI M v0 0 (0 : Int32)) fun M2 => hb (f_Md_isPane S v0 v1 M2) fun r6 M5 => (if r6 = 0 then
  some ((-1 : Int32), M5) else hb (f_Md_isTime S v2 v3 M5) fun r10 M9 => (if r10 = 0 then some ((-1 : Int32), M9)
  else hv (f_Md_findLight S v0 v2 v3 M9) fun M13 => hg (M13.2.2 v0 24 ≠ 0) <| hg (hm_ib S (M13.2.2 v0 24) .int v1 = true) <|
  some ((M13.1 (M13.2.2 v0 24) v1.toNatClampNeg), M13)))
def f_Md_stains (S : hm_S) (v0 : Nat) (v1 : Int32) (v2 : Int32) (v3 : Int32) (v4 : Int32) (M : hm_M) : Option (Int32 × hm_M) :=
  hg (S v0 = some (.inr 12)) <| hl (hm_wI M v0 0 (0 : Int32)) fun M2 => hb (f_Md_canStain S v0 v1 v2 v3 v4 M2) fun r6 M5 => (if r6 = 0 then
  some ((-1 : Int32), M5) else hb (f_Md_findStains S v0 v1 v2 v3 v4 M5) fun r10 M9 => some (r10, M9))
def b_Md_stall_10 (S : hm_S) (k251 : Nat → Int32 → Int32 → Int32 → hm_M → Option (Int32 × hm_M)) (k278 : Nat → Int32 → Int32 → Int32 → Int32 → Int32 → hm_M → Option (Int32 × hm_M)) (v0 : Nat) (v5 : Int32) (v8 : Int32) (v9 : Int32) (v10 : Int32) (v11 : Int32) (M : hm_M) : Option (Int32 × hm_M) :=
  hg (S v0 = some (.inr 12)) <| hg (M.2.2 v0 30 ≠ 0) <| hg (hm_ib S (M.2.2 v0 30) .int (((64 : Int32) * v9) + v10) = true) <|
  (if (100000000 : Int32) ≤ (M.1 (M.2.2 v0 30) (((64 : Int32) * v9) + v10).toNatClampNeg) then k278 v0 v5 v8 v9 (v10 + (1 : Int32)) v11 M
  else hb (f_Md_steps S v8 v10 M) fun r8 M7 => (if ((M.1 (M.2.2 v0 30) (((64 : Int32) * v9) + v10).toNatClampNeg) + r8) = v11 then
  k251 v0 v5 v10 (v9 + (1 : Int32)) M7 else k278 v0 v5 v8 v9 (v10 + (1 : Int32)) v11 M7))
def f_Md_stall_10 (S : hm_S) (k251 : Nat → Int32 → Int32 → Int32 → hm_M → Option (Int32 × hm_M)) (n : Nat) : Nat → Int32 → Int32 → Int32 → Int32 → Int32 → hm_M → Option (Int32 × hm_M) := hm_it (b_Md_stall_10 S k251) (fun _ _ _ _ _ _ _ => none) n
def b_Md_stall_9 (S : hm_S) (k251 : Nat → Int32 → Int32 → Int32 → hm_M → Option (Int32 × hm_M)) (v0 : Nat) (v5 : Int32) (v8 : Int32) (v9 : Int32) (M : hm_M) : Option (Int32 × hm_M) :=
  (if v5 < v9 then some (v8, M) else hg (S v0 = some (.inr 12)) <| hg (M.2.2 v0 30 ≠ 0) <|
  hg (hm_ib S (M.2.2 v0 30) .int (((64 : Int32) * (v9 - (1 : Int32))) + v8) = true) <|
  hl ((M.1 (M.2.2 v0 30) (((64 : Int32) * (v9 - (1 : Int32))) + v8).toNatClampNeg) : Int32) fun x6 =>
  f_Md_stall_10 S k251 hN v0 v5 v8 v9 (0 : Int32) x6 M)
def f_Md_stall_9 (S : hm_S) (n : Nat) : Nat → Int32 → Int32 → Int32 → hm_M → Option (Int32 × hm_M) := hm_it (b_Md_stall_9 S ) (fun _ _ _ _ _ => none) n
def b_Md_stall_8 (S : hm_S) (k179 : Nat → Int32 → Int32 → Int32 → Int32 → hm_M → Option (Int32 × hm_M)) (v0 : Nat) (v5 : Int32) (v8 : Int32) (v9 : Int32) (s0 : Int32) (M : hm_M) : Option (Int32 × hm_M) :=
  k179 v0 v5 s0 v8 (v9 + (1 : Int32)) M
def b_Md_stall_7 (S : hm_S) (k179 : Nat → Int32 → Int32 → Int32 → Int32 → hm_M → Option (Int32 × hm_M)) (v0 : Nat) (v5 : Int32) (v7 : Int32) (v9 : Int32) (s0 : Int32) (M : hm_M) : Option (Int32 × hm_M) :=
  hg (S v0 = some (.inr 12)) <| hg (M.2.2 v0 30 ≠ 0) <| hg (hm_ib S (M.2.2 v0 30) .int v9 = true) <|
  (if v7 ≤ (M.1 (M.2.2 v0 30) v9.toNatClampNeg) then b_Md_stall_8 S k179 v0 v5 s0 v9 v7 M
  else b_Md_stall_8 S k179 v0 v5 s0 v9 (M.1 (M.2.2 v0 30) v9.toNatClampNeg) M)
def b_Md_stall_6 (S : hm_S) (k179 : Nat → Int32 → Int32 → Int32 → Int32 → hm_M → Option (Int32 × hm_M)) (v0 : Nat) (v5 : Int32) (v7 : Int32) (v8 : Int32) (v9 : Int32) (M : hm_M) : Option (Int32 × hm_M) :=
  (if (64 : Int32) ≤ v9 then (if v5 = (-1 : Int32) then some (v7, M) else f_Md_stall_9 S hN v0 v5 v8 (1 : Int32) M) else hg (S v0 = some (.inr 12)) <|
  hg (M.2.2 v0 30 ≠ 0) <| hg (hm_ib S (M.2.2 v0 30) .int v9 = true) <| (if v7 ≤ (M.1 (M.2.2 v0 30) v9.toNatClampNeg) then
  b_Md_stall_7 S k179 v0 v5 v7 v9 v8 M else b_Md_stall_7 S k179 v0 v5 v7 v9 v9 M))
def f_Md_stall_6 (S : hm_S) (n : Nat) : Nat → Int32 → Int32 → Int32 → Int32 → hm_M → Option (Int32 × hm_M) := hm_it (b_Md_stall_6 S ) (fun _ _ _ _ _ _ => none) n
def b_Md_stall_5 (S : hm_S) (k95 : Nat → Int32 → Int32 → hm_M → Option (Int32 × hm_M)) (k103 : Nat → Int32 → Int32 → Int32 → hm_M → Option (Int32 × hm_M)) (v0 : Nat) (v5 : Int32) (v7 : Int32) (v8 : Int32) (s0 : Int32) (s1 : Int32) (s2 : Nat) (M : hm_M) : Option (Int32 × hm_M) :=
  hg (hm_ib S s2 .int s1 = true) <| hl (hm_wI M s2 s1.toNatClampNeg s0) fun M3 => k103 v0 v5 v7 (v8 + (1 : Int32)) M3
def b_Md_stall_4 (S : hm_S) (k95 : Nat → Int32 → Int32 → hm_M → Option (Int32 × hm_M)) (k103 : Nat → Int32 → Int32 → Int32 → hm_M → Option (Int32 × hm_M)) (v0 : Nat) (v5 : Int32) (v7 : Int32) (v8 : Int32) (M : hm_M) : Option (Int32 × hm_M) :=
  (if (64 : Int32) ≤ v8 then k95 v0 v5 (v7 + (-1 : Int32)) M else hg (S v0 = some (.inr 12)) <| hg (M.2.2 v0 30 ≠ 0) <|
  hg (hm_ib S (M.2.2 v0 30) .int (((64 : Int32) * v7) + v8) = true) <|
  (if (M.1 (M.2.2 v0 30) (((64 : Int32) * v7) + v8).toNatClampNeg) < (100000000 : Int32) then hb (f_Md_leastFrom S v0 v7 v8 M) fun r9 M8 =>
  b_Md_stall_5 S k95 k103 v0 v5 v7 v8 r9 (((64 : Int32) * v7) + v8) (M.2.2 v0 30) M8
  else b_Md_stall_5 S k95 k103 v0 v5 v7 v8 (100000000 : Int32) (((64 : Int32) * v7) + v8) (M.2.2 v0 30) M))
def f_Md_stall_4 (S : hm_S) (k95 : Nat → Int32 → Int32 → hm_M → Option (Int32 × hm_M)) (n : Nat) : Nat → Int32 → Int32 → Int32 → hm_M → Option (Int32 × hm_M) := hm_it (b_Md_stall_4 S k95) (fun _ _ _ _ _ => none) n
def b_Md_stall_3 (S : hm_S) (k95 : Nat → Int32 → Int32 → hm_M → Option (Int32 × hm_M)) (v0 : Nat) (v5 : Int32) (v7 : Int32) (M : hm_M) : Option (Int32 × hm_M) :=
  (if v7 < 0 then f_Md_stall_6 S hN v0 v5 (100000000 : Int32) (-1 : Int32) (0 : Int32) M else f_Md_stall_4 S k95 hN v0 v5 v7 (0 : Int32) M)
def f_Md_stall_3 (S : hm_S) (n : Nat) : Nat → Int32 → Int32 → hm_M → Option (Int32 × hm_M) := hm_it (b_Md_stall_3 S ) (fun _ _ _ _ => none) n
def b_Md_stall_2 (S : hm_S) (k64 : Nat → Int32 → Int32 → Int32 → Int32 → Int32 → Int32 → hm_M → Option (Int32 × hm_M)) (v0 : Nat) (v1 : Int32) (v2 : Int32) (v3 : Int32) (v5 : Int32) (v6 : Int32) (v7 : Int32) (M : hm_M) : Option (Int32 × hm_M) :=
  (if v6 ≤ v7 then hl ((v6 - (2 : Int32)) : Int32) fun x2 => f_Md_stall_3 S hN v0 v5 x2 M else hg (S v0 = some (.inr 12)) <|
  hv (f_Md_findMay S v0 v1 v2 (v3 + v7) v7 M) fun M6 => k64 v0 v1 v2 v3 v5 v6 (v7 + (1 : Int32)) M6)
def f_Md_stall_2 (S : hm_S) (n : Nat) : Nat → Int32 → Int32 → Int32 → Int32 → Int32 → Int32 → hm_M → Option (Int32 × hm_M) := hm_it (b_Md_stall_2 S ) (fun _ _ _ _ _ _ _ _ => none) n
def b_Md_stall_1 (S : hm_S) (v0 : Nat) (v1 : Int32) (v2 : Int32) (v3 : Int32) (v4 : Int32) (v5 : Int32) (M : hm_M) : Option (Int32 × hm_M) :=
  hl (((v4 - v3) + (1 : Int32)) : Int32) fun x1 => f_Md_stall_2 S hN v0 v1 v2 v3 v5 x1 (0 : Int32) M
def f_Md_stall (S : hm_S) (v0 : Nat) (v1 : Int32) (v2 : Int32) (v3 : Int32) (v4 : Int32) (v5 : Int32) (M : hm_M) : Option (Int32 × hm_M) :=
  hg (S v0 = some (.inr 12)) <| hl (hm_wI M v0 0 (0 : Int32)) fun M2 => hb (f_Md_isGuild S v0 v1 M2) fun r6 M5 => (if r6 = 0 then
  some ((-1 : Int32), M5) else hb (f_Md_isTime S v2 v3 M5) fun r10 M9 => (if r10 = 0 then some ((-1 : Int32), M9)
  else hb (f_Md_within S v4 v3 (23 : Int32) M9) fun r14 M13 => (if r14 = 0 then some ((-1 : Int32), M13) else (if v5 = (-1 : Int32) then
  b_Md_stall_1 S v0 v1 v2 v3 v4 v5 M13 else hb (f_Md_within S v5 (0 : Int32) (v4 - v3) M13) fun r19 M18 => (if r19 = 0 then some ((-1 : Int32), M18)
  else b_Md_stall_1 S v0 v1 v2 v3 v4 v5 M18)))))
def b_Md_stood_1 (S : hm_S) (k63 : Nat → Int32 → Int32 → Int32 → Int32 → Int32 → hm_M → Option (Int32 × hm_M)) (v0 : Nat) (v5 : Int32) (v6 : Int32) (v7 : Int32) (v8 : Int32) (v9 : Int32) (M : hm_M) : Option (Int32 × hm_M) :=
  (if (((64 : Int32) * v5) + (64 : Int32)) ≤ v9 then (if v6 = 0 then some (v8, M) else some (v7, M)) else hg (S v0 = some (.inr 12)) <|
  hg (M.2.2 v0 31 ≠ 0) <| hg (hm_ib S (M.2.2 v0 31) .int v9 = true) <| (if (M.1 (M.2.2 v0 31) v9.toNatClampNeg) ≤ 0 then
  k63 v0 v5 v6 v7 v8 (v9 + (1 : Int32)) M else hg (M.2.2 v0 32 ≠ 0) <| hg (hm_ib S (M.2.2 v0 32) .int v9 = true) <|
  (if (M.1 (M.2.2 v0 32) v9.toNatClampNeg) ≤ 0 then k63 v0 v5 v6 v7 v8 (v9 + (1 : Int32)) M else hg (M.2.2 v0 33 ≠ 0) <|
  hg (hm_ib S (M.2.2 v0 33) .int v9 = true) <| hl ((v7 ||| (M.1 (M.2.2 v0 33) v9.toNatClampNeg)) : Int32) fun x15 =>
  hl ((v8 &&& (M.1 (M.2.2 v0 33) v9.toNatClampNeg)) : Int32) fun x17 => k63 v0 v5 v6 x15 x17 (v9 + (1 : Int32)) M)))
def f_Md_stood_1 (S : hm_S) (n : Nat) : Nat → Int32 → Int32 → Int32 → Int32 → Int32 → hm_M → Option (Int32 × hm_M) := hm_it (b_Md_stood_1 S ) (fun _ _ _ _ _ _ _ => none) n
def f_Md_stood (S : hm_S) (v0 : Nat) (v1 : Int32) (v2 : Int32) (v3 : Int32) (v4 : Int32) (v5 : Int32) (v6 : Int32) (M : hm_M) : Option (Int32 × hm_M) :=
  hg (S v0 = some (.inr 12)) <| hl (hm_wI M v0 0 (0 : Int32)) fun M2 => hb (f_Md_canStain S v0 v1 v2 v3 v4 M2) fun r6 M5 => (if r6 = 0 then
  some ((-1 : Int32), M5) else hb (f_Md_within S v5 (0 : Int32) (v3 - (1 : Int32)) M5) fun r10 M9 => (if r10 = 0 then some ((-1 : Int32), M9)
  else hb (f_Md_findStains S v0 v1 v2 v3 v4 M9) fun r14 M13 => (if r14 = 0 then some ((-1 : Int32), M13) else hb (f_Md_guilds S v0 M13) fun r18 M17 =>
  hl ((((1 : Int32) <<< (r18 &&& 31)) - (1 : Int32)) : Int32) fun x19 => hl (((64 : Int32) * v5) : Int32) fun x21 =>
  f_Md_stood_1 S hN v0 v5 v6 (0 : Int32) x19 x21 M17)))
def f_Md_thrown (S : hm_S) (v0 : Nat) (M : hm_M) : Option (Int32 × hm_M) :=
  hg (S v0 = some (.inr 12)) <| some ((M.1 v0 0), M)
def f_Md_undo (S : hm_S) (v0 : Nat) (M : hm_M) : Option (Int32 × hm_M) :=
  hg (S v0 = some (.inr 12)) <| hl (hm_wI M v0 0 (0 : Int32)) fun M2 => (if (M2.1 v0 21) = 0 then some ((0 : Int32), M2)
  else hl (hm_wI M2 v0 21 ((M2.1 v0 21) - (1 : Int32))) fun M5 =>
  hv (f_Md_copies S v0 ((5 : Int32) + (M5.1 v0 21)) (0 : Int32) (13 : Int32) M5) fun M8 => some ((1 : Int32), M8))
def b_Md_when_4 (S : hm_S) (k28 : Nat → Int32 → Int32 → Int32 → Int32 → Int32 → hm_M → Option (Int32 × hm_M)) (v0 : Nat) (v1 : Int32) (v3 : Int32) (v4 : Int32) (v5 : Int32) (s0 : Int32) (M : hm_M) : Option (Int32 × hm_M) :=
  k28 v0 v1 s0 v3 v4 (v5 + (1 : Int32)) M
def b_Md_when_3 (S : hm_S) (k28 : Nat → Int32 → Int32 → Int32 → Int32 → Int32 → hm_M → Option (Int32 × hm_M)) (v0 : Nat) (v1 : Int32) (v2 : Int32) (v3 : Int32) (v5 : Int32) (v6 : Int32) (s0 : Int32) (M : hm_M) : Option (Int32 × hm_M) :=
  (if v2 ≤ v6 then b_Md_when_4 S k28 v0 v1 v3 s0 v5 v2 M else b_Md_when_4 S k28 v0 v1 v3 s0 v5 v6 M)
def b_Md_when_2 (S : hm_S) (k28 : Nat → Int32 → Int32 → Int32 → Int32 → Int32 → hm_M → Option (Int32 × hm_M)) (v0 : Nat) (v1 : Int32) (v2 : Int32) (v4 : Int32) (v5 : Int32) (v6 : Int32) (s0 : Int32) (M : hm_M) : Option (Int32 × hm_M) :=
  (if v2 ≤ v6 then (if v6 = v2 then b_Md_when_3 S k28 v0 v1 v2 s0 v5 v6 (v4 + (1 : Int32)) M else b_Md_when_3 S k28 v0 v1 v2 s0 v5 v6 v4 M)
  else b_Md_when_3 S k28 v0 v1 v2 s0 v5 v6 (1 : Int32) M)
def b_Md_when_1 (S : hm_S) (k28 : Nat → Int32 → Int32 → Int32 → Int32 → Int32 → hm_M → Option (Int32 × hm_M)) (v0 : Nat) (v1 : Int32) (v2 : Int32) (v3 : Int32) (v4 : Int32) (v5 : Int32) (M : hm_M) : Option (Int32 × hm_M) :=
  (if (1248 : Int32) ≤ v5 then (if v1 = 0 then some (v3, M) else (if v1 = (1 : Int32) then some (v2, M) else some (v4, M)))
  else hg (S v0 = some (.inr 12)) <| hb (f_Md_candlesAt S v0 (v5 / (24 : Int32)) (v5 - v5 / (24 : Int32) * (24 : Int32)) M) fun r7 M6 =>
  (if v2 ≤ r7 then b_Md_when_2 S k28 v0 v1 v2 v4 v5 r7 v3 M6 else b_Md_when_2 S k28 v0 v1 v2 v4 v5 r7 v5 M6))
def f_Md_when_1 (S : hm_S) (n : Nat) : Nat → Int32 → Int32 → Int32 → Int32 → Int32 → hm_M → Option (Int32 × hm_M) := hm_it (b_Md_when_1 S ) (fun _ _ _ _ _ _ _ => none) n
def f_Md_when (S : hm_S) (v0 : Nat) (v1 : Int32) (M : hm_M) : Option (Int32 × hm_M) :=
  hg (S v0 = some (.inr 12)) <| hl (hm_wI M v0 0 (0 : Int32)) fun M2 => hb (f_Md_within S v1 (0 : Int32) (2 : Int32) M2) fun r6 M5 => (if r6 = 0 then
  some ((-1 : Int32), M5) else f_Md_when_1 S hN v0 v1 (100000000 : Int32) (0 : Int32) (0 : Int32) (0 : Int32) M5)
def f_Md_worth (S : hm_S) (v0 : Nat) (v1 : Int32) (v2 : Int32) (M : hm_M) : Option (Int32 × hm_M) :=
  hg (S v0 = some (.inr 12)) <| hl (hm_wI M v0 0 (0 : Int32)) fun M2 => hb (f_Md_isGuild S v0 v1 M2) fun r6 M5 => (if r6 = 0 then
  some ((-1 : Int32), M5) else hb (f_Md_isPane S v0 v2 M5) fun r10 M9 => (if r10 = 0 then some ((-1 : Int32), M9)
  else hv (f_Md_findYields S v0 M9) fun M13 => hb (f_Md_worthOf S v0 v1 v2 M13) fun r16 M15 => some (r16, M15)))
def f_Md_yields (S : hm_S) (v0 : Nat) (v1 : Int32) (M : hm_M) : Option (Int32 × hm_M) :=
  hg (S v0 = some (.inr 12)) <| hl (hm_wI M v0 0 (0 : Int32)) fun M2 => hb (f_Md_isPane S v0 v1 M2) fun r6 M5 => (if r6 = 0 then
  some ((-1 : Int32), M5) else hv (f_Md_findYields S v0 M5) fun M9 => hg (M9.2.2 v0 25 ≠ 0) <| hg (hm_ib S (M9.2.2 v0 25) .int v1 = true) <|
  some ((M9.1 (M9.2.2 v0 25) v1.toNatClampNeg), M9))
