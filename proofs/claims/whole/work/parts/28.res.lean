/-! THE RESOLVED LAYER (by program): the methods over (I, L), references resolved -/
abbrev hn : Type := (Nat → Nat → Int32) × (Nat → Nat → Int64)
def hn_wI (N : hn) (a i : Nat) (v : Int32) : hn := (hm_up N.1 a i v, N.2)
def hn_wL (N : hn) (a i : Nat) (v : Int64) : hn := (N.1, hm_up N.2 a i v)
def hn_cp (N : hn) (src : Nat) (sp : Int32) (dst : Nat) (dp cnt : Int32) : hn := (fun b j => if b = dst ∧ dp.toNatClampNeg ≤ j ∧ j < dp.toNatClampNeg + cnt.toNatClampNeg then N.1 src (sp.toNatClampNeg + (j - dp.toNatClampNeg)) else N.1 b j, N.2)
def hn_ix (n : Nat) (i : Int32) : Bool := decide (0 ≤ i) && decide (i.toNatClampNeg < n)
def hbN {α β : Type} (x : Option (α × hn)) (k : α → hn → Option β) : Option β := match x with
  | some (r, M) => k r M
  | none => none
def hvN {β : Type} (x : Option hn) (k : hn → Option β) : Option β := match x with
  | some M => k M
  | none => none
def F_J6_bitCount_0f7a4 (c : Nat) (v0 : Int32) (N : hn) : Option (Int32 × hn) :=
  hl ((v0 - (((v0.toUInt32 >>> ((1 : Int32).toUInt32 &&& Int32.toUInt32 31)).toInt32) &&& (1431655765 : Int32))) : Int32) fun x1 =>
  hl (((x1 &&& (858993459 : Int32)) + (((x1.toUInt32 >>>
  ((2 : Int32).toUInt32 &&& Int32.toUInt32 31)).toInt32) &&& (858993459 : Int32))) : Int32) fun x2 => hl (((x2 + ((x2.toUInt32 >>>
  ((4 : Int32).toUInt32 &&& Int32.toUInt32 31)).toInt32)) &&& (252645135 : Int32)) : Int32) fun x3 => hl ((x3 + ((x3.toUInt32 >>>
  ((8 : Int32).toUInt32 &&& Int32.toUInt32 31)).toInt32)) : Int32) fun x4 => hl ((x4 + ((x4.toUInt32 >>>
  ((16 : Int32).toUInt32 &&& Int32.toUInt32 31)).toInt32)) : Int32) fun x5 => some ((x5 &&& (63 : Int32)), N)
def B_J7_fill_53178_1 (c : Nat) (k5 : Nat → Int32 → Int32 → Int32 → hn → Option hn) (v0 : Nat) (v1 : Int32) (v2 : Int32) (v3 : Int32) (N : hn) : Option hn :=
  (if v3 ≤ v2 then some N else hg (hm_ib S0 v0 .int v2 = true) <| hl (hn_wI N v0 v2.toNatClampNeg v1) fun N1 => k5 v0 v1 (v2 + (1 : Int32)) v3 N1)
def F_J7_fill_53178_1 (c : Nat) (n : Nat) : Nat → Int32 → Int32 → Int32 → hn → Option hn := hm_it (B_J7_fill_53178_1 c ) (fun _ _ _ _ _ => none) n
def F_J7_fill_53178 (c : Nat) (v0 : Nat) (v1 : Int32) (N : hn) : Option hn :=
  hg (hm_len S0 v0 .int ≠ 0) <| hl ((Int32.ofNat (hm_len S0 v0 .int)) : Int32) fun x1 => F_J7_fill_53178_1 c hN v0 v1 (0 : Int32) x1 N
def B_J7_fill_d0a16_1 (c : Nat) (k6 : Nat → Int64 → Int32 → Int32 → hn → Option hn) (v0 : Nat) (v1 : Int64) (v3 : Int32) (v4 : Int32) (N : hn) : Option hn :=
  (if v4 ≤ v3 then some N else hg (hm_ib S0 v0 .long v3 = true) <| hl (hn_wL N v0 v3.toNatClampNeg v1) fun N1 => k6 v0 v1 (v3 + (1 : Int32)) v4 N1)
def F_J7_fill_d0a16_1 (c : Nat) (n : Nat) : Nat → Int64 → Int32 → Int32 → hn → Option hn := hm_it (B_J7_fill_d0a16_1 c ) (fun _ _ _ _ _ => none) n
def F_J7_fill_d0a16 (c : Nat) (v0 : Nat) (v1 : Int64) (N : hn) : Option hn :=
  hg (hm_len S0 v0 .long ≠ 0) <| hl ((Int32.ofNat (hm_len S0 v0 .long)) : Int32) fun x1 => F_J7_fill_d0a16_1 c hN v0 v1 (0 : Int32) x1 N
def B_Laws_begin_1 (c : Nat) (k7 : Nat → Int32 → hn → Option hn) (v0 : Nat) (v1 : Int32) (N : hn) : Option hn :=
  (if (4 : Int32) ≤ v1 then some N else hg (hn_ix 4 v1 = true) <| hl (hn_wI N (v0 + 2) v1.toNatClampNeg (0 : Int32)) fun N1 =>
  hg (hn_ix 4 v1 = true) <| hl (hn_wI N1 (v0 + 3) v1.toNatClampNeg (0 : Int32)) fun N2 => k7 v0 (v1 + (1 : Int32)) N2)
def F_Laws_begin_1 (c : Nat) (n : Nat) : Nat → Int32 → hn → Option hn := hm_it (B_Laws_begin_1 c ) (fun _ _ _ => none) n
def F_Laws_begin (c : Nat) (v0 : Nat) (N : hn) : Option hn :=
  hl (hn_wI N v0 1 (0 : Int32)) fun N1 => F_Laws_begin_1 c hN v0 (0 : Int32) N1
def F_Chapel_begin (c : Nat) (v0 : Nat) (N : hn) : Option hn :=
  hl (hn_wI N v0 0 (4 : Int32)) fun N1 => hl (hn_wI N1 v0 1 (4 : Int32)) fun N2 => hl (hn_wI N2 v0 2 (0 : Int32)) fun N3 =>
  hl (hn_wI N3 v0 3 (0 : Int32)) fun N4 => hl (hn_wI N4 v0 4 (0 : Int32)) fun N5 => hvN (F_Laws_begin c (v0 + 8) N5) fun N6 => some N6
def B_Chapel_colourOf_1 (c : Nat) (k4 : Nat → Int32 → Int32 → Int32 → hn → Option (Int32 × hn)) (v0 : Nat) (v1 : Int32) (v2 : Int32) (v3 : Int32) (N : hn) : Option (Int32 × hn) :=
  (if (12 : Int32) ≤ v3 then some (v2, N) else (if ((v1 >>> (v3 &&& 31)) &&& (1 : Int32)) = (1 : Int32) then hg (hn_ix 12 v3 = true) <|
  hl ((v2 ||| (N.1 (v0 + 7) v3.toNatClampNeg)) : Int32) fun x1 => k4 v0 v1 x1 (v3 + (1 : Int32)) N else k4 v0 v1 v2 (v3 + (1 : Int32)) N))
def F_Chapel_colourOf_1 (c : Nat) (n : Nat) : Nat → Int32 → Int32 → Int32 → hn → Option (Int32 × hn) := hm_it (B_Chapel_colourOf_1 c ) (fun _ _ _ _ _ => none) n
def F_Chapel_colourOf (c : Nat) (v0 : Nat) (v1 : Int32) (N : hn) : Option (Int32 × hn) :=
  F_Chapel_colourOf_1 c hN v0 v1 (0 : Int32) (0 : Int32) N
def B_Chapel_guildNamed_1 (c : Nat) (k2 : Nat → Int64 → Int32 → hn → Option (Int32 × hn)) (v0 : Nat) (v1 : Int64) (v3 : Int32) (N : hn) : Option (Int32 × hn) :=
  (if (N.1 v0 3) ≤ v3 then some ((-1 : Int32), N) else (if (6 : Int32) ≤ v3 then some ((-1 : Int32), N) else hg (hn_ix 6 v3 = true) <|
  (if (lg_cmp (N.2 (v0 + 1) v3.toNatClampNeg) v1) = 0 then some (v3, N) else k2 v0 v1 (v3 + (1 : Int32)) N)))
def F_Chapel_guildNamed_1 (c : Nat) (n : Nat) : Nat → Int64 → Int32 → hn → Option (Int32 × hn) := hm_it (B_Chapel_guildNamed_1 c ) (fun _ _ _ _ => none) n
def F_Chapel_guildNamed (c : Nat) (v0 : Nat) (v1 : Int64) (N : hn) : Option (Int32 × hn) :=
  F_Chapel_guildNamed_1 c hN v0 v1 (0 : Int32) N
def B_Chapel_hasPaneAt_1 (c : Nat) (k2 : Nat → Int32 → Int32 → Int32 → hn → Option (Int32 × hn)) (v0 : Nat) (v1 : Int32) (v2 : Int32) (v3 : Int32) (N : hn) : Option (Int32 × hn) :=
  (if (N.1 v0 4) ≤ v3 then some ((0 : Int32), N) else (if (12 : Int32) ≤ v3 then some ((0 : Int32), N) else hg (hn_ix 12 v3 = true) <|
  (if (N.1 (v0 + 4) v3.toNatClampNeg) = v1 then hg (hn_ix 12 v3 = true) <| (if (N.1 (v0 + 5) v3.toNatClampNeg) = v2 then some ((1 : Int32), N)
  else k2 v0 v1 v2 (v3 + (1 : Int32)) N) else k2 v0 v1 v2 (v3 + (1 : Int32)) N)))
def F_Chapel_hasPaneAt_1 (c : Nat) (n : Nat) : Nat → Int32 → Int32 → Int32 → hn → Option (Int32 × hn) := hm_it (B_Chapel_hasPaneAt_1 c ) (fun _ _ _ _ _ => none) n
def F_Chapel_hasPaneAt (c : Nat) (v0 : Nat) (v1 : Int32) (v2 : Int32) (N : hn) : Option (Int32 × hn) :=
  F_Chapel_hasPaneAt_1 c hN v0 v1 v2 (0 : Int32) N
def F_Chapel_hasPlace (c : Nat) (v0 : Nat) (v1 : Int32) (v2 : Int32) (N : hn) : Option (Int32 × hn) :=
  (if v1 < 0 then some ((0 : Int32), N) else (if (N.1 v0 0) ≤ v1 then some ((0 : Int32), N) else (if v2 < 0 then some ((0 : Int32), N)
  else (if (N.1 v0 1) ≤ v2 then some ((0 : Int32), N) else some ((1 : Int32), N)))))
def B_Way_floorOf_1 (c : Nat) (k4 : Nat → Int64 → Int32 → hn → Option (Int64 × hn)) (v0 : Nat) (v1 : Int64) (v3 : Int32) (N : hn) : Option (Int64 × hn) :=
  (if (64 : Int32) ≤ v3 then some (v1, N) else hbN (F_Chapel_hasPlace c v0 (v3 - v3 / (8 : Int32) * (8 : Int32)) (v3 / (8 : Int32)) N) fun r2 N1 =>
  (if r2 = 0 then k4 v0 v1 (v3 + (1 : Int32)) N1 else hl ((v1 ||| ((1 : Int64) <<< (v3.toInt64 &&& 63))) : Int64) fun x3 =>
  k4 v0 x3 (v3 + (1 : Int32)) N1))
def F_Way_floorOf_1 (c : Nat) (n : Nat) : Nat → Int64 → Int32 → hn → Option (Int64 × hn) := hm_it (B_Way_floorOf_1 c ) (fun _ _ _ _ => none) n
def F_Way_floorOf (c : Nat) (v0 : Nat) (N : hn) : Option (Int64 × hn) :=
  F_Way_floorOf_1 c hN v0 (0 : Int64) (0 : Int32) N
def F_Laws_turnTo (c : Nat) (v0 : Nat) (v1 : Int32) (N : hn) : Option hn :=
  hg (hn_ix 7 (0 : Int32) = true) <| hl (hn_wI N (v0 + 5) (0 : Int32).toNatClampNeg (v1 / (24 : Int32))) fun N1 => hg (hn_ix 7 (1 : Int32) = true) <|
  hl (hn_wI N1 (v0 + 5) (1 : Int32).toNatClampNeg (v1 - v1 / (24 : Int32) * (24 : Int32))) fun N2 => some N2
def F_Laws_isLaw (c : Nat) (v0 : Int32) (N : hn) : Option (Int32 × hn) :=
  (if v0 < (135 : Int32) then some ((0 : Int32), N) else (if (138 : Int32) < v0 then some ((0 : Int32), N) else some ((1 : Int32), N)))
def F_Laws_valueUntold (c : Nat) (v0 : Nat) (v1 : Int32) (N : hn) : Option (Int32 × hn) :=
  hg (hn_ix 7 (1 : Int32) = true) <| hl ((N.1 (v0 + 5) (1 : Int32).toNatClampNeg) : Int32) fun x1 => (if v1 = (135 : Int32) then
  some ((x1 - (12 : Int32)), N) else if v1 = (136 : Int32) then hg (hn_ix 7 (3 : Int32) = true) <| some ((N.1 (v0 + 5) (3 : Int32).toNatClampNeg), N)
  else if v1 = (137 : Int32) then (if x1 < (6 : Int32) then some ((1 : Int32), N) else (if x1 ≤ (18 : Int32) then some ((0 : Int32), N)
  else some ((1 : Int32), N))) else some ((1 : Int32), N))
def F_Laws_isFact (c : Nat) (v0 : Int32) (N : hn) : Option (Int32 × hn) :=
  (if v0 < (143 : Int32) then some ((0 : Int32), N) else (if (149 : Int32) < v0 then some ((0 : Int32), N) else some ((1 : Int32), N)))
def F_Laws_joined (c : Nat) (v0 : Int32) (v1 : Int32) (v2 : Int32) (N : hn) : Option (Int32 × hn) :=
  (if v0 = (42 : Int32) then some ((v1 * v2), N) else if v0 = (43 : Int32) then some ((v1 + v2), N) else if v0 = (45 : Int32) then some ((v1 - v2), N)
  else if v0 = (60 : Int32) then (if v2 ≤ v1 then some ((0 : Int32), N) else some ((1 : Int32), N)) else if v0 = (61 : Int32) then (if v1 = v2 then
  some ((1 : Int32), N) else some ((0 : Int32), N)) else if v0 = (141 : Int32) then (if v1 = 0 then some ((0 : Int32), N) else (if v2 = 0 then
  some ((0 : Int32), N) else some ((1 : Int32), N))) else (if v1 = 0 then (if v2 = 0 then some ((0 : Int32), N) else some ((1 : Int32), N))
  else some ((1 : Int32), N)))
def B_Laws_valueOf_5 (c : Nat) (v0 : Nat) (N : hn) : Option (Int32 × hn) :=
  hg (hn_ix 32 (0 : Int32) = true) <| some ((N.1 (v0 + 4) (0 : Int32).toNatClampNeg), N)
def B_Laws_valueOf_4 (c : Nat) (k48 : Nat → Int32 → Int32 → Int32 → hn → Option (Int32 × hn)) (v0 : Nat) (v2 : Int32) (v4 : Int32) (v5 : Int32) (s0 : Int32) (s1 : Int32) (s2 : Nat) (N : hn) : Option (Int32 × hn) :=
  hg (hm_ib S0 s2 .int s1 = true) <| hl (hn_wI N s2 s1.toNatClampNeg s0) fun N1 => k48 v0 v2 v4 (v5 + (1 : Int32)) N1
def B_Laws_valueOf_3 (c : Nat) (k48 : Nat → Int32 → Int32 → Int32 → hn → Option (Int32 × hn)) (v0 : Nat) (v2 : Int32) (v4 : Int32) (v5 : Int32) (s0 : Int32) (s1 : Int32) (s2 : Nat) (N : hn) : Option (Int32 × hn) :=
  hg (hm_ib S0 s2 .int s1 = true) <| hl (hn_wI N s2 s1.toNatClampNeg s0) fun N1 => k48 v0 v2 (v4 + (1 : Int32)) (v5 + (1 : Int32)) N1
def B_Laws_valueOf_2 (c : Nat) (k48 : Nat → Int32 → Int32 → Int32 → hn → Option (Int32 × hn)) (v0 : Nat) (v2 : Int32) (v4 : Int32) (v5 : Int32) (v6 : Int32) (N : hn) : Option (Int32 × hn) :=
  (if (32 : Int32) ≤ v4 then k48 v0 v2 v4 (v5 + (1 : Int32)) N else (if v6 < 0 then hg (hn_ix 7 ((-v6) - (143 : Int32)) = true) <|
  B_Laws_valueOf_3 c k48 v0 v2 v4 v5 (N.1 (v0 + 5) ((-v6) - (143 : Int32)).toNatClampNeg) v4 (v0 + 4) N
  else B_Laws_valueOf_3 c k48 v0 v2 v4 v5 v6 v4 (v0 + 4) N))
def B_Laws_valueOf_1 (c : Nat) (k48 : Nat → Int32 → Int32 → Int32 → hn → Option (Int32 × hn)) (v0 : Nat) (v2 : Int32) (v4 : Int32) (v5 : Int32) (N : hn) : Option (Int32 × hn) :=
  (if v2 ≤ v5 then B_Laws_valueOf_5 c v0 N else (if (1000 : Int32) ≤ v5 then B_Laws_valueOf_5 c v0 N else hg (hn_ix 1000 v5 = true) <|
  hl ((N.1 (v0 + 1) v5.toNatClampNeg) : Int32) fun x1 => (if 0 ≤ x1 then B_Laws_valueOf_2 c k48 v0 v2 v4 v5 x1 N
  else hbN (F_Laws_isFact c (-x1) N) fun r3 N2 => (if r3 = 0 then (if x1 = (-140 : Int32) then (if v4 < (1 : Int32) then
  k48 v0 v2 v4 (v5 + (1 : Int32)) N2 else hg (hn_ix 32 (v4 - (1 : Int32)) = true) <| (if (N2.1 (v0 + 4) (v4 - (1 : Int32)).toNatClampNeg) = 0 then
  B_Laws_valueOf_4 c k48 v0 v2 v4 v5 (1 : Int32) (v4 - (1 : Int32)) (v0 + 4) N2
  else B_Laws_valueOf_4 c k48 v0 v2 v4 v5 (0 : Int32) (v4 - (1 : Int32)) (v0 + 4) N2)) else (if v4 < (2 : Int32) then
  k48 v0 v2 v4 (v5 + (1 : Int32)) N2 else hg (hn_ix 32 ((v4 + (-1 : Int32)) - (1 : Int32)) = true) <| hg (hn_ix 32 (v4 + (-1 : Int32)) = true) <|
  hbN (F_Laws_joined c (-x1) (N2.1 (v0 + 4) ((v4 + (-1 : Int32)) - (1 : Int32)).toNatClampNeg) (N2.1 (v0 + 4) (v4 + (-1 : Int32)).toNatClampNeg) N2) fun r5 N4 =>
  hl (hn_wI N4 (v0 + 4) ((v4 + (-1 : Int32)) - (1 : Int32)).toNatClampNeg r5) fun N6 => k48 v0 v2 (v4 + (-1 : Int32)) (v5 + (1 : Int32)) N6))
  else B_Laws_valueOf_2 c k48 v0 v2 v4 v5 x1 N2))))
def F_Laws_valueOf_1 (c : Nat) (n : Nat) : Nat → Int32 → Int32 → Int32 → hn → Option (Int32 × hn) := hm_it (B_Laws_valueOf_1 c ) (fun _ _ _ _ _ => none) n
def F_Laws_valueOf (c : Nat) (v0 : Nat) (v1 : Int32) (N : hn) : Option (Int32 × hn) :=
  hbN (F_Laws_isLaw c v1 N) fun r2 N1 => (if r2 = 0 then some ((0 : Int32), N1) else hg (hn_ix 4 (v1 - (135 : Int32)) = true) <|
  hl ((N1.1 (v0 + 3) (v1 - (135 : Int32)).toNatClampNeg) : Int32) fun x3 => hg (hn_ix 4 (v1 - (135 : Int32)) = true) <|
  hl ((N1.1 (v0 + 2) (v1 - (135 : Int32)).toNatClampNeg) : Int32) fun x4 => (if x4 < x3 then F_Laws_valueOf_1 c hN v0 x3 (0 : Int32) x4 N1
  else hbN (F_Laws_valueUntold c v0 v1 N1) fun r6 N5 => some (r6, N5)))
def F_Laws_lookAtPane (c : Nat) (v0 : Nat) (v1 : Int32) (v2 : Int32) (N : hn) : Option hn :=
  hg (hn_ix 7 (2 : Int32) = true) <| hl (hn_wI N (v0 + 5) (2 : Int32).toNatClampNeg v1) fun N1 => hg (hn_ix 7 (3 : Int32) = true) <|
  hl (hn_wI N1 (v0 + 5) (3 : Int32).toNatClampNeg v2) fun N2 => some N2
def F_Ps_placeOf (c : Nat) (v0 : Int32) (v1 : Int32) (N : hn) : Option (Int32 × hn) :=
  some (((v1 * (8 : Int32)) + v0), N)
def B_Light_shine_4 (c : Nat) (v1 : Int32) (v3 : Int64) (v5 : Int64) (N : hn) : Option hn :=
  hg (hn_ix 2496 ((2 : Int32) * v1) = true) <| hl (hn_wL N 35 ((2 : Int32) * v1).toNatClampNeg v3) fun N1 =>
  hg (hn_ix 2496 (((2 : Int32) * v1) + (1 : Int32)) = true) <| hl (hn_wL N1 35 (((2 : Int32) * v1) + (1 : Int32)).toNatClampNeg v5) fun N2 => some N2
def B_Light_shine_3 (c : Nat) (k41 : Int32 → Nat → Int64 → Int64 → Int32 → Int32 → hn → Option hn) (v1 : Int32) (v2 : Nat) (v3 : Int64) (v5 : Int64) (v7 : Int32) (v8 : Int32) (s0 : Int64) (N : hn) : Option hn :=
  (if (6 : Int32) ≤ v8 then hl ((v5 ||| (s0 <<< (((8 : Int32) * (v8 - (6 : Int32))).toInt64 &&& 63))) : Int64) fun x1 =>
  k41 v1 v2 v3 x1 v7 (v8 + (1 : Int32)) N else hl ((v3 ||| (s0 <<< (((8 : Int32) * v8).toInt64 &&& 63))) : Int64) fun x2 =>
  k41 v1 v2 x2 v5 v7 (v8 + (1 : Int32)) N)
def B_Light_shine_2 (c : Nat) (k41 : Int32 → Nat → Int64 → Int64 → Int32 → Int32 → hn → Option hn) (v1 : Int32) (v2 : Nat) (v3 : Int64) (v5 : Int64) (v7 : Int32) (v8 : Int32) (N : hn) : Option hn :=
  (if v7 ≤ v8 then B_Light_shine_4 c v1 v3 v5 N else (if (12 : Int32) ≤ v8 then B_Light_shine_4 c v1 v3 v5 N else hg (hn_ix 12 v8 = true) <|
  hg (hn_ix 12 v8 = true) <| hvN (F_Laws_lookAtPane c v2 (N.1 (c + 4) v8.toNatClampNeg) (N.1 (c + 5) v8.toNatClampNeg) N) fun N1 =>
  hg (hn_ix 12 v8 = true) <| hbN (F_Laws_valueOf c v2 (135 : Int32) N1) fun r3 N2 => hl (((N1.1 (c + 4) v8.toNatClampNeg) + r3) : Int32) fun x4 =>
  hbN (F_Laws_valueOf c v2 (136 : Int32) N2) fun r6 N5 => hbN (F_Chapel_hasPlace c c x4 r6 N5) fun r8 N7 => (if r8 = 0 then
  B_Light_shine_3 c k41 v1 v2 v3 v5 v7 v8 (0 : Int64) N7 else hbN (F_Ps_placeOf c x4 r6 N7) fun r10 N9 =>
  B_Light_shine_3 c k41 v1 v2 v3 v5 v7 v8 (r10 + (1 : Int32)).toInt64 N9)))
def F_Light_shine_2 (c : Nat) (n : Nat) : Int32 → Nat → Int64 → Int64 → Int32 → Int32 → hn → Option hn := hm_it (B_Light_shine_2 c ) (fun _ _ _ _ _ _ _ => none) n
def B_Light_shine_1 (c : Nat) (v1 : Int32) (v2 : Nat) (v3 : Int64) (v5 : Int64) (s0 : Int32) (N : hn) : Option hn :=
  F_Light_shine_2 c hN v1 v2 v3 v5 s0 (0 : Int32) N
def F_Light_shine (c : Nat) (v1 : Int32) (N : hn) : Option hn :=
  hbN (F_Laws_valueOf c (c + 8) (137 : Int32) N) fun r3 N2 => (if r3 = 0 then
  B_Light_shine_1 c v1 (c + 8) (-9223372036854775808 : Int64) (0 : Int64) (N2.1 c 4) N2
  else B_Light_shine_1 c v1 (c + 8) (-9223372036854775808 : Int64) (0 : Int64) (0 : Int32) N2)
def B_Light_turnTo_2 (c : Nat) (k82 : Int64 → Int64 → Int32 → hn → Option hn) (v2 : Int64) (v4 : Int64) (v6 : Int32) (N : hn) : Option hn :=
  (if (6 : Int32) ≤ v6 then some N else hg (hn_ix 12 v6 = true) <| hl (hn_wI N 34 v6.toNatClampNeg ((((v2.toUInt64 >>>
  (((8 : Int32) * v6).toInt64.toUInt64 &&& Int64.toUInt64 63)).toInt64) &&& (255 : Int64)).toInt32 - (1 : Int32))) fun N1 =>
  hg (hn_ix 12 (v6 + (6 : Int32)) = true) <| hl (hn_wI N1 34 (v6 + (6 : Int32)).toNatClampNeg ((((v4.toUInt64 >>>
  (((8 : Int32) * v6).toInt64.toUInt64 &&& Int64.toUInt64 63)).toInt64) &&& (255 : Int64)).toInt32 - (1 : Int32))) fun N2 =>
  k82 v2 v4 (v6 + (1 : Int32)) N2)
def F_Light_turnTo_2 (c : Nat) (n : Nat) : Int64 → Int64 → Int32 → hn → Option hn := hm_it (B_Light_turnTo_2 c ) (fun _ _ _ _ => none) n
def B_Light_turnTo_1 (c : Nat) (v1 : Int32) (N : hn) : Option hn :=
  hg (hn_ix 2496 ((2 : Int32) * v1) = true) <| hl ((N.2 35 ((2 : Int32) * v1).toNatClampNeg) : Int64) fun x1 =>
  hg (hn_ix 2496 (((2 : Int32) * v1) + (1 : Int32)) = true) <| hl ((N.2 35 (((2 : Int32) * v1) + (1 : Int32)).toNatClampNeg) : Int64) fun x2 =>
  F_Light_turnTo_2 c hN x1 x2 (0 : Int32) N
def F_Light_turnTo (c : Nat) (v1 : Int32) (N : hn) : Option hn :=
  (if v1 = (N.1 19 3) then some N else (if v1 < 0 then some N else (if v1 < (1248 : Int32) then hl (hn_wI N 19 3 v1) fun N1 =>
  hvN (F_Laws_turnTo c (c + 8) v1 N1) fun N2 => hg (hn_ix 2496 ((2 : Int32) * v1) = true) <|
  (if (lg_cmp ((N2.2 35 ((2 : Int32) * v1).toNatClampNeg) &&& (-9223372036854775808 : Int64)) (0 : Int64)) = 0 then
  hvN (F_Light_shine c v1 N2) fun N3 => B_Light_turnTo_1 c v1 N3 else B_Light_turnTo_1 c v1 N2) else some N)))
def B_Light_placesOf_1 (c : Nat) (k5 : Int32 → Int64 → Int32 → hn → Option (Int64 × hn)) (v1 : Int32) (v2 : Int64) (v4 : Int32) (N : hn) : Option (Int64 × hn) :=
  (if (12 : Int32) ≤ v4 then some (v2, N) else hg (hn_ix 12 v4 = true) <| (if (N.1 34 v4.toNatClampNeg) = (-1 : Int32) then
  k5 v1 v2 (v4 + (1 : Int32)) N else (if ((v1 >>> (v4 &&& 31)) &&& (1 : Int32)) = (1 : Int32) then
  hl ((v2 ||| ((1 : Int64) <<< ((N.1 34 v4.toNatClampNeg).toInt64 &&& 63))) : Int64) fun x1 => k5 v1 x1 (v4 + (1 : Int32)) N
  else k5 v1 v2 (v4 + (1 : Int32)) N)))
def F_Light_placesOf_1 (c : Nat) (n : Nat) : Int32 → Int64 → Int32 → hn → Option (Int64 × hn) := hm_it (B_Light_placesOf_1 c ) (fun _ _ _ _ => none) n
def F_Light_placesOf (c : Nat) (v1 : Int32) (N : hn) : Option (Int64 × hn) :=
  F_Light_placesOf_1 c hN v1 (0 : Int64) (0 : Int32) N
def F_Ps_stepsBetween (c : Nat) (v0 : Int32) (v1 : Int32) (N : hn) : Option (Int32 × hn) :=
  some (((hm_abs ((v0 - v0 / (8 : Int32) * (8 : Int32)) - (v1 - v1 / (8 : Int32) * (8 : Int32)))) + (hm_abs ((v0 / (8 : Int32)) - (v1 / (8 : Int32))))), N)
def B_Way_stepsOver_1 (c : Nat) (v2 : Int32) (v3 : Int32) (s0 : Int32) (N : hn) : Option (Int32 × hn) :=
  hg (hn_ix 1536 ((v2 * (64 : Int32)) + v3) = true) <| some ((s0 + (N.1 53 ((v2 * (64 : Int32)) + v3).toNatClampNeg)), N)
def F_Way_stepsOver (c : Nat) (v1 : Int32) (v2 : Int32) (v3 : Int32) (N : hn) : Option (Int32 × hn) :=
  (if v1 = (-1 : Int32) then B_Way_stepsOver_1 c v2 v3 (0 : Int32) N else hbN (F_Ps_stepsBetween c v1 v3 N) fun r2 N1 =>
  B_Way_stepsOver_1 c v2 v3 r2 N1)
def B_Way_nextFrom_1 (c : Nat) (k9 : Int32 → Int32 → Int32 → Int32 → Int32 → hn → Option (Int32 × hn)) (v1 : Int32) (v2 : Int32) (v3 : Int32) (v4 : Int32) (v5 : Int32) (N : hn) : Option (Int32 × hn) :=
  (if (64 : Int32) ≤ v5 then some (v3, N) else hg (hn_ix 24 v2 = true) <| (if (lg_cmp ((((N.2 52 v2.toNatClampNeg).toUInt64 >>>
  (v5.toInt64.toUInt64 &&& Int64.toUInt64 63)).toInt64) &&& (1 : Int64)) (1 : Int64)) = 0 then hbN (F_Way_stepsOver c v1 v2 v5 N) fun r2 N1 =>
  (if v4 ≤ r2 then k9 v1 v2 v3 v4 (v5 + (1 : Int32)) N1 else hbN (F_Way_stepsOver c v1 v2 v5 N1) fun r4 N3 => k9 v1 v2 v5 r4 (v5 + (1 : Int32)) N3)
  else k9 v1 v2 v3 v4 (v5 + (1 : Int32)) N))
def F_Way_nextFrom_1 (c : Nat) (n : Nat) : Int32 → Int32 → Int32 → Int32 → Int32 → hn → Option (Int32 × hn) := hm_it (B_Way_nextFrom_1 c ) (fun _ _ _ _ _ _ => none) n
def F_Way_nextFrom (c : Nat) (v1 : Int32) (v2 : Int32) (N : hn) : Option (Int32 × hn) :=
  F_Way_nextFrom_1 c hN v1 v2 (0 : Int32) (1000000 : Int32) (0 : Int32) N
def B_Way_lookAhead_3 (c : Nat) (k3 : Int32 → Int32 → Int64 → Int32 → hn → Option hn) (v1 : Int32) (v2 : Int32) (v3 : Int64) (v5 : Int32) (v6 : Int32) (N : hn) : Option hn :=
  hg (hn_ix 1536 ((v1 * (64 : Int32)) + v5) = true) <| hl (hn_wI N 53 ((v1 * (64 : Int32)) + v5).toNatClampNeg v6) fun N1 =>
  k3 v1 v2 v3 (v5 + (1 : Int32)) N1
def B_Way_lookAhead_2 (c : Nat) (k3 : Int32 → Int32 → Int64 → Int32 → hn → Option hn) (v1 : Int32) (v2 : Int32) (v3 : Int64) (v5 : Int32) (s0 : Int32) (N : hn) : Option hn :=
  hbN (F_Way_stepsOver c v5 (v1 + (1 : Int32)) s0 N) fun r2 N1 => B_Way_lookAhead_3 c k3 v1 v2 v3 v5 r2 N1
def B_Way_lookAhead_1 (c : Nat) (k3 : Int32 → Int32 → Int64 → Int32 → hn → Option hn) (v1 : Int32) (v2 : Int32) (v3 : Int64) (v5 : Int32) (N : hn) : Option hn :=
  (if (64 : Int32) ≤ v5 then some N else hg (hn_ix 24 v1 = true) <| (if (lg_cmp ((((N.2 52 v1.toNatClampNeg).toUInt64 >>>
  (v5.toInt64.toUInt64 &&& Int64.toUInt64 63)).toInt64) &&& (1 : Int64)) (1 : Int64)) = 0 then (if v2 ≤ v1 then
  B_Way_lookAhead_3 c k3 v1 v2 v3 v5 (0 : Int32) N else hg (hn_ix 24 (v1 + (1 : Int32)) = true) <|
  (if (lg_cmp (N.2 52 (v1 + (1 : Int32)).toNatClampNeg) v3) = 0 then B_Way_lookAhead_2 c k3 v1 v2 v3 v5 v5 N
  else hbN (F_Way_nextFrom c v5 (v1 + (1 : Int32)) N) fun r2 N1 => B_Way_lookAhead_2 c k3 v1 v2 v3 v5 r2 N1)) else k3 v1 v2 v3 (v5 + (1 : Int32)) N))
def F_Way_lookAhead_1 (c : Nat) (n : Nat) : Int32 → Int32 → Int64 → Int32 → hn → Option hn := hm_it (B_Way_lookAhead_1 c ) (fun _ _ _ _ _ => none) n
def F_Way_lookAhead (c : Nat) (v1 : Int32) (v2 : Int32) (v3 : Int64) (N : hn) : Option hn :=
  F_Way_lookAhead_1 c hN v1 v2 v3 (0 : Int32) N
def B_Way_find_5 (c : Nat) (s0 : Int32) (N : hn) : Option hn :=
  hl (hn_wI N 51 3 s0) fun N1 => some N1
def B_Way_find_4 (c : Nat) (k105 : Int32 → Int32 → Int32 → hn → Option hn) (v5 : Int32) (v8 : Int32) (v9 : Int32) (N : hn) : Option hn :=
  (if v5 ≤ v9 then (if v5 ≤ 0 then B_Way_find_5 c (0 : Int32) N else hg (hn_ix 24 (0 : Int32) = true) <|
  hg (hn_ix 1536 (N.1 54 (0 : Int32).toNatClampNeg) = true) <| B_Way_find_5 c (N.1 53 (N.1 54 (0 : Int32).toNatClampNeg).toNatClampNeg) N)
  else hbN (F_Way_nextFrom c v8 v9 N) fun r2 N1 => hg (hn_ix 24 v9 = true) <| hl (hn_wI N1 54 v9.toNatClampNeg r2) fun N3 =>
  k105 v5 r2 (v9 + (1 : Int32)) N3)
def F_Way_find_4 (c : Nat) (n : Nat) : Int32 → Int32 → Int32 → hn → Option hn := hm_it (B_Way_find_4 c ) (fun _ _ _ _ => none) n
def B_Way_find_3 (c : Nat) (k76 : Int32 → Int64 → Int32 → hn → Option hn) (v5 : Int32) (v6 : Int64) (v8 : Int32) (N : hn) : Option hn :=
  (if v8 < 0 then F_Way_find_4 c hN v5 (-1 : Int32) (0 : Int32) N else hvN (F_Way_lookAhead c v8 (v5 - (1 : Int32)) v6 N) fun N1 =>
  k76 v5 v6 (v8 + (-1 : Int32)) N1)
def F_Way_find_3 (c : Nat) (n : Nat) : Int32 → Int64 → Int32 → hn → Option hn := hm_it (B_Way_find_3 c ) (fun _ _ _ _ => none) n
def B_Way_find_2 (c : Nat) (k21 : Int32 → Int32 → Int32 → Int64 → Int32 → hn → Option hn) (v2 : Int32) (v3 : Int32) (v5 : Int32) (v6 : Int64) (v8 : Int32) (s0 : Int64) (s1 : Int32) (N : hn) : Option hn :=
  hg (hn_ix 24 s1 = true) <| hl (hn_wL N 52 s1.toNatClampNeg s0) fun N1 => k21 v2 v3 v5 v6 (v8 + (1 : Int32)) N1
def B_Way_find_1 (c : Nat) (k21 : Int32 → Int32 → Int32 → Int64 → Int32 → hn → Option hn) (v2 : Int32) (v3 : Int32) (v5 : Int32) (v6 : Int64) (v8 : Int32) (N : hn) : Option hn :=
  (if v5 ≤ v8 then hl ((v5 - (1 : Int32)) : Int32) fun x1 => F_Way_find_3 c hN v5 v6 x1 N else hvN (F_Light_turnTo c (v3 + v8) N) fun N2 =>
  hbN (F_Light_placesOf c v2 N2) fun r4 N3 => (if (lg_cmp r4 (0 : Int64)) = 0 then B_Way_find_2 c k21 v2 v3 v5 v6 v8 v6 v8 N3
  else B_Way_find_2 c k21 v2 v3 v5 v6 v8 r4 v8 N3))
def F_Way_find_1 (c : Nat) (n : Nat) : Int32 → Int32 → Int32 → Int64 → Int32 → hn → Option hn := hm_it (B_Way_find_1 c ) (fun _ _ _ _ _ _ => none) n
def F_Way_find (c : Nat) (v2 : Int32) (v3 : Int32) (v4 : Int32) (N : hn) : Option hn :=
  hl ((hm_min v4 (24 : Int32)) : Int32) fun x1 => hbN (F_Way_floorOf c c N) fun r3 N2 => F_Way_find_1 c hN v2 v3 x1 r3 (0 : Int32) N2
def F_Ps_isPane (c : Nat) (v1 : Int32) (N : hn) : Option (Int32 × hn) :=
  (if v1 < 0 then some ((0 : Int32), N) else (if (N.1 c 4) ≤ v1 then some ((0 : Int32), N) else some ((1 : Int32), N)))
def F_Hold_lit (c : Nat) (v0 : Nat) (N : hn) : Option (Int32 × hn) :=
  some (((((1 : Int32) <<< ((N.1 v0 5) &&& 31)) - (1 : Int32)) &&& ((N.1 v0 1) ^^^ (-1 : Int32))), N)
def B_Light_panesOn_1 (c : Nat) (k5 : Int32 → Int32 → Int32 → Int32 → hn → Option (Int32 × hn)) (v1 : Int32) (v2 : Int32) (v3 : Int32) (v4 : Int32) (N : hn) : Option (Int32 × hn) :=
  (if (12 : Int32) ≤ v4 then some (v3, N) else hg (hn_ix 12 v4 = true) <| (if (N.1 34 v4.toNatClampNeg) = v1 then (if ((v2 >>>
  (v4 &&& 31)) &&& (1 : Int32)) = (1 : Int32) then hl ((v3 ||| ((1 : Int32) <<< (v4 &&& 31))) : Int32) fun x1 => k5 v1 v2 x1 (v4 + (1 : Int32)) N
  else k5 v1 v2 v3 (v4 + (1 : Int32)) N) else k5 v1 v2 v3 (v4 + (1 : Int32)) N))
def F_Light_panesOn_1 (c : Nat) (n : Nat) : Int32 → Int32 → Int32 → Int32 → hn → Option (Int32 × hn) := hm_it (B_Light_panesOn_1 c ) (fun _ _ _ _ _ => none) n
def F_Light_panesOn (c : Nat) (v1 : Int32) (v2 : Int32) (N : hn) : Option (Int32 × hn) :=
  F_Light_panesOn_1 c hN v1 v2 (0 : Int32) (0 : Int32) N
def F_Laws_lookAtSpot (c : Nat) (v0 : Nat) (v1 : Int32) (v2 : Int32) (N : hn) : Option hn :=
  hg (hn_ix 7 (4 : Int32) = true) <| hl (hn_wI N (v0 + 5) (4 : Int32).toNatClampNeg (v1 - v1 / (8 : Int32) * (8 : Int32))) fun N1 =>
  hg (hn_ix 7 (5 : Int32) = true) <| hl (hn_wI N1 (v0 + 5) (5 : Int32).toNatClampNeg (v1 / (8 : Int32))) fun N2 => hg (hn_ix 7 (6 : Int32) = true) <|
  hl (hn_wI N2 (v0 + 5) (6 : Int32).toNatClampNeg v2) fun N3 => some N3
def F_Rents_partOf (c : Nat) (v0 : Nat) (v1 : Int32) (v2 : Int32) (N : hn) : Option (Int32 × hn) :=
  hvN (F_Laws_lookAtSpot c v0 v1 v2 N) fun N1 => hbN (F_Laws_valueOf c v0 (138 : Int32) N1) fun r3 N2 =>
  hl ((hm_min (hm_max r3 (0 : Int32)) (999 : Int32)) : Int32) fun x4 => (if v2 ≤ 0 then some ((0 : Int32), N2) else hg (¬ v2 = 0) <|
  some ((x4 / v2), N2))
def B_Rents_shareOut_2 (c : Nat) (k6 : Int32 → Int32 → Int32 → Int32 → hn → Option hn) (k82 : Int32 → Int32 → Int32 → Int32 → Int32 → Int32 → Int32 → hn → Option hn) (v2 : Int32) (v3 : Int32) (v4 : Int32) (v5 : Int32) (v6 : Int32) (v7 : Int32) (v8 : Int32) (N : hn) : Option hn :=
  (if (12 : Int32) ≤ v8 then hl ((v4 &&& (v6 ^^^ (-1 : Int32))) : Int32) fun x1 => k6 v2 v3 x1 (v5 + (1 : Int32)) N
  else hg (hn_ix 204 ((v3 * (12 : Int32)) + v8) = true) <|
  hl (hn_wI N 44 ((v3 * (12 : Int32)) + v8).toNatClampNeg ((N.1 44 ((v3 * (12 : Int32)) + v8).toNatClampNeg) + (((v6 >>>
  (v8 &&& 31)) &&& (1 : Int32)) * v7))) fun N2 => k82 v2 v3 v4 v5 v6 v7 (v8 + (1 : Int32)) N2)
def F_Rents_shareOut_2 (c : Nat) (k6 : Int32 → Int32 → Int32 → Int32 → hn → Option hn) (n : Nat) : Int32 → Int32 → Int32 → Int32 → Int32 → Int32 → Int32 → hn → Option hn := hm_it (B_Rents_shareOut_2 c k6) (fun _ _ _ _ _ _ _ _ => none) n
def B_Rents_shareOut_1 (c : Nat) (k6 : Int32 → Int32 → Int32 → Int32 → hn → Option hn) (v2 : Int32) (v3 : Int32) (v4 : Int32) (v5 : Int32) (N : hn) : Option hn :=
  (if (12 : Int32) ≤ v5 then some N else (if ((v4 >>> (v5 &&& 31)) &&& (1 : Int32)) = (1 : Int32) then hg (hn_ix 12 v5 = true) <|
  (if (N.1 34 v5.toNatClampNeg) = (-1 : Int32) then k6 v2 v3 v4 (v5 + (1 : Int32)) N
  else hbN (F_Light_panesOn c (N.1 34 v5.toNatClampNeg) v2 N) fun r2 N1 => hl ((r2 ||| ((1 : Int32) <<< (v5 &&& 31))) : Int32) fun x3 =>
  hg (hn_ix 12 v5 = true) <| hbN (F_J6_bitCount_0f7a4 c x3 N1) fun r5 N4 =>
  hbN (F_Rents_partOf c (c + 8) (N1.1 34 v5.toNatClampNeg) r5 N4) fun r7 N6 => F_Rents_shareOut_2 c k6 hN v2 v3 v4 v5 x3 r7 v5 N6)
  else k6 v2 v3 v4 (v5 + (1 : Int32)) N))
def F_Rents_shareOut_1 (c : Nat) (n : Nat) : Int32 → Int32 → Int32 → Int32 → hn → Option hn := hm_it (B_Rents_shareOut_1 c ) (fun _ _ _ _ _ => none) n
def F_Rents_shareOut (c : Nat) (v2 : Int32) (v3 : Int32) (N : hn) : Option hn :=
  F_Rents_shareOut_1 c hN v2 v3 v2 (0 : Int32) N
def B_Rents_measure_2 (c : Nat) (k37 : Int32 → Int32 → Int32 → Int64 → Int32 → hn → Option hn) (v2 : Int32) (v4 : Int32) (v5 : Int32) (v6 : Int64) (v8 : Int32) (N : hn) : Option hn :=
  (if (1248 : Int32) ≤ v8 then some N
  else hl ((((v6 * (1103515245 : Int64)) + (12345 : Int64)) - ((v6 * (1103515245 : Int64)) + (12345 : Int64)) / (2147483648 : Int64) * (2147483648 : Int64)) : Int64) fun x1 =>
  (if (lg_cmp ((x1 / (65536 : Int64)) - (x1 / (65536 : Int64)) / (8 : Int64) * (8 : Int64)) v4.toInt64) < 0 then k37 v2 v4 v5 x1 (v8 + (1 : Int32)) N
  else hvN (F_Light_turnTo c v8 N) fun N2 => hvN (F_Rents_shareOut c v2 v5 N2) fun N3 => k37 v2 v4 v5 x1 (v8 + (1 : Int32)) N3))
def F_Rents_measure_2 (c : Nat) (n : Nat) : Int32 → Int32 → Int32 → Int64 → Int32 → hn → Option hn := hm_it (B_Rents_measure_2 c ) (fun _ _ _ _ _ _ => none) n
def B_Rents_measure_1 (c : Nat) (k3 : Int32 → Int32 → Int32 → Int32 → Int32 → hn → Option hn) (v2 : Int32) (v3 : Int32) (v4 : Int32) (v5 : Int32) (v6 : Int32) (N : hn) : Option hn :=
  (if (12 : Int32) ≤ v6 then hl (v3.toInt64 : Int64) fun x1 => F_Rents_measure_2 c hN v2 v4 v5 x1 (0 : Int32) N
  else hg (hn_ix 204 ((v5 * (12 : Int32)) + v6) = true) <| hl (hn_wI N 44 ((v5 * (12 : Int32)) + v6).toNatClampNeg (0 : Int32)) fun N2 =>
  k3 v2 v3 v4 v5 (v6 + (1 : Int32)) N2)
def F_Rents_measure_1 (c : Nat) (n : Nat) : Int32 → Int32 → Int32 → Int32 → Int32 → hn → Option hn := hm_it (B_Rents_measure_1 c ) (fun _ _ _ _ _ _ => none) n
def F_Rents_measure (c : Nat) (v2 : Int32) (v3 : Int32) (v4 : Int32) (v5 : Int32) (N : hn) : Option hn :=
  F_Rents_measure_1 c hN v2 v3 v4 v5 (0 : Int32) N
def B_Rents_yearOf_2 (c : Nat) (v2 : Int32) (N : hn) : Option (Int32 × hn) :=
  hl ((N.1 43 3) : Int32) fun x1 =>
  hl (hn_wI N 43 3 (((N.1 43 3) + (1 : Int32)) - ((N.1 43 3) + (1 : Int32)) / (16 : Int32) * (16 : Int32))) fun N2 =>
  hl (hn_wI N2 43 2 (hm_min ((N2.1 43 2) + (1 : Int32)) (16 : Int32))) fun N3 => hg (hn_ix 16 x1 = true) <|
  hl (hn_wI N3 45 x1.toNatClampNeg v2) fun N4 => hvN (F_Rents_measure c v2 (0 : Int32) (0 : Int32) x1 N4) fun N5 => some (x1, N5)
def B_Rents_yearOf_1 (c : Nat) (k2 : Int32 → Int32 → hn → Option (Int32 × hn)) (v2 : Int32) (v3 : Int32) (N : hn) : Option (Int32 × hn) :=
  (if (N.1 43 2) ≤ v3 then B_Rents_yearOf_2 c v2 N else (if (16 : Int32) ≤ v3 then B_Rents_yearOf_2 c v2 N else hg (hn_ix 16 v3 = true) <|
  (if (N.1 45 v3.toNatClampNeg) = v2 then some (v3, N) else k2 v2 (v3 + (1 : Int32)) N)))
def F_Rents_yearOf_1 (c : Nat) (n : Nat) : Int32 → Int32 → hn → Option (Int32 × hn) := hm_it (B_Rents_yearOf_1 c ) (fun _ _ _ => none) n
def F_Rents_yearOf (c : Nat) (v2 : Int32) (N : hn) : Option (Int32 × hn) :=
  F_Rents_yearOf_1 c hN v2 (0 : Int32) N
def F_Ps_yearNow (c : Nat)  (N : hn) : Option (Int32 × hn) :=
  hbN (F_Hold_lit c 36 N) fun r2 N1 => hbN (F_Rents_yearOf c r2 N1) fun r4 N3 => some (r4, N3)
def F_Rents_given (c : Nat) (v1 : Int32) (v2 : Int32) (N : hn) : Option (Int32 × hn) :=
  hg (hn_ix 204 ((v1 * (12 : Int32)) + v2) = true) <| some ((N.1 44 ((v1 * (12 : Int32)) + v2).toNatClampNeg), N)
def F_Rents_worthTo (c : Nat) (v1 : Nat) (v2 : Int32) (v3 : Int32) (v4 : Int32) (N : hn) : Option (Int32 × hn) :=
  hbN (F_Rents_given c v2 v4 N) fun r2 N1 => hg (hn_ix 12 v4 = true) <| hg (hn_ix 6 v3 = true) <|
  hbN (F_J6_bitCount_0f7a4 c ((N1.1 (v1 + 7) v4.toNatClampNeg) &&& (N1.1 (v1 + 2) v3.toNatClampNeg)) N1) fun r4 N3 =>
  some ((r2 * ((1 : Int32) + r4)), N3)
def F_Rents_gainOf (c : Nat) (v1 : Nat) (v2 : Nat) (v3 : Int32) (v4 : Int32) (v5 : Int32) (N : hn) : Option (Int32 × hn) :=
  hg (hn_ix 12 v4 = true) <| hl ((N.1 (v2 + 1) v4.toNatClampNeg) : Int32) fun x1 => hg (hn_ix 12 v5 = true) <|
  hl ((N.1 (v2 + 1) v5.toNatClampNeg) : Int32) fun x2 => hbN (F_Rents_worthTo c v1 v3 x1 v5 N) fun r4 N3 =>
  hbN (F_Rents_worthTo c v1 v3 x1 v4 N3) fun r6 N5 => hl ((r4 - r6) : Int32) fun x7 => hbN (F_Rents_worthTo c v1 v3 x2 v4 N5) fun r9 N8 =>
  hbN (F_Rents_worthTo c v1 v3 x2 v5 N8) fun r11 N10 => hl ((r9 - r11) : Int32) fun x12 => (if x7 ≤ 0 then some ((0 : Int32), N10)
  else (if x12 ≤ 0 then some ((0 : Int32), N10) else some ((x7 + x12), N10)))
def B_Trade_mostWith_1 (c : Nat) (k10 : Int32 → Int32 → Int32 → Int32 → hn → Option (Int32 × hn)) (v1 : Int32) (v2 : Int32) (v3 : Int32) (v4 : Int32) (N : hn) : Option (Int32 × hn) :=
  (if v1 ≤ v4 then some (v3, N) else hg (hn_ix 144 ((v1 * (12 : Int32)) + v4) = true) <|
  hl ((N.1 48 ((v1 * (12 : Int32)) + v4).toNatClampNeg) : Int32) fun x1 => (if ((v2 >>> (v4 &&& 31)) &&& (1 : Int32)) = (1 : Int32) then
  (if x1 ≤ 0 then k10 v1 v2 v3 (v4 + (1 : Int32)) N else hg (hn_ix 4096 (v2 &&& (((1 : Int32) <<< (v4 &&& 31)) ^^^ (-1 : Int32))) = true) <|
  hl ((hm_max v3 (x1 + (N.1 49 (v2 &&& (((1 : Int32) <<< (v4 &&& 31)) ^^^ (-1 : Int32))).toNatClampNeg))) : Int32) fun x2 =>
  k10 v1 v2 x2 (v4 + (1 : Int32)) N) else k10 v1 v2 v3 (v4 + (1 : Int32)) N))
def F_Trade_mostWith_1 (c : Nat) (n : Nat) : Int32 → Int32 → Int32 → Int32 → hn → Option (Int32 × hn) := hm_it (B_Trade_mostWith_1 c ) (fun _ _ _ _ _ => none) n
def F_Trade_mostWith (c : Nat) (v1 : Int32) (v2 : Int32) (N : hn) : Option (Int32 × hn) :=
  hg (hn_ix 4096 v2 = true) <| hl ((N.1 49 v2.toNatClampNeg) : Int32) fun x1 => F_Trade_mostWith_1 c hN v1 v2 x1 (0 : Int32) N
def B_Trade_leastPartner_1 (c : Nat) (k17 : Int32 → Int32 → Int32 → Int32 → Int32 → hn → Option (Int32 × hn)) (v1 : Int32) (v2 : Int32) (v3 : Int32) (v4 : Int32) (v5 : Int32) (N : hn) : Option (Int32 × hn) :=
  (if v4 ≤ v5 then some (v1, N) else hg (hn_ix 144 ((v1 * (12 : Int32)) + v5) = true) <|
  hl ((N.1 48 ((v1 * (12 : Int32)) + v5).toNatClampNeg) : Int32) fun x1 => (if ((v2 >>> (v5 &&& 31)) &&& (1 : Int32)) = (1 : Int32) then
  (if x1 ≤ 0 then k17 v1 v2 v3 v4 (v5 + (1 : Int32)) N else hg (hn_ix 4096 (v2 &&& (((1 : Int32) <<< (v5 &&& 31)) ^^^ (-1 : Int32))) = true) <|
  (if (x1 + (N.1 49 (v2 &&& (((1 : Int32) <<< (v5 &&& 31)) ^^^ (-1 : Int32))).toNatClampNeg)) = v3 then some (v5, N)
  else k17 v1 v2 v3 v4 (v5 + (1 : Int32)) N)) else k17 v1 v2 v3 v4 (v5 + (1 : Int32)) N))
def F_Trade_leastPartner_1 (c : Nat) (n : Nat) : Int32 → Int32 → Int32 → Int32 → Int32 → hn → Option (Int32 × hn) := hm_it (B_Trade_leastPartner_1 c ) (fun _ _ _ _ _ _ => none) n
def F_Trade_leastPartner (c : Nat) (v1 : Int32) (v2 : Int32) (v3 : Int32) (v4 : Int32) (N : hn) : Option (Int32 × hn) :=
  hg (hn_ix 4096 v2 = true) <| (if (N.1 49 v2.toNatClampNeg) = v3 then some (v1, N) else hl ((v1 + (1 : Int32)) : Int32) fun x1 =>
  F_Trade_leastPartner_1 c hN v1 v2 v3 v4 x1 N)
def B_Trade_choose_1 (c : Nat) (k8 : Int32 → Int32 → Int32 → hn → Option hn) (v1 : Int32) (v2 : Int32) (v3 : Int32) (N : hn) : Option hn :=
  (if v1 ≤ v3 then some N else (if ((v2 >>> (v3 &&& 31)) &&& (1 : Int32)) = (1 : Int32) then
  hl ((v2 &&& (((1 : Int32) <<< (v3 &&& 31)) ^^^ (-1 : Int32))) : Int32) fun x1 => hg (hn_ix 4096 v2 = true) <|
  hbN (F_Trade_leastPartner c v3 x1 (N.1 49 v2.toNatClampNeg) v1 N) fun r3 N2 => hg (hn_ix 12 v3 = true) <|
  hl (hn_wI N2 50 v3.toNatClampNeg r3) fun N4 => hg (hn_ix 12 r3 = true) <| hl (hn_wI N4 50 r3.toNatClampNeg v3) fun N5 =>
  hl ((x1 &&& (((1 : Int32) <<< (r3 &&& 31)) ^^^ (-1 : Int32))) : Int32) fun x6 => k8 v1 x6 (v3 + (1 : Int32)) N5 else k8 v1 v2 (v3 + (1 : Int32)) N))
def F_Trade_choose_1 (c : Nat) (n : Nat) : Int32 → Int32 → Int32 → hn → Option hn := hm_it (B_Trade_choose_1 c ) (fun _ _ _ _ => none) n
def F_Trade_choose (c : Nat) (v1 : Int32) (N : hn) : Option hn :=
  hl ((((1 : Int32) <<< (v1 &&& 31)) - (1 : Int32)) : Int32) fun x1 => F_Trade_choose_1 c hN v1 x1 (0 : Int32) N
def B_Trade_settle_6 (c : Nat) (k111 : Int32 → Int32 → hn → Option hn) (k121 : Int32 → Int32 → Int32 → hn → Option hn) (v5 : Int32) (v6 : Int32) (v7 : Int32) (N : hn) : Option hn :=
  (if ((1 : Int32) <<< (v6 &&& 31)) ≤ v7 then k111 v5 (v6 + (1 : Int32)) N else hbN (F_Trade_mostWith c v6 v7 N) fun r2 N1 =>
  hg (hn_ix 4096 (v7 ||| ((1 : Int32) <<< (v6 &&& 31))) = true) <| hl (hn_wI N1 49 (v7 ||| ((1 : Int32) <<< (v6 &&& 31))).toNatClampNeg r2) fun N3 =>
  k121 v5 v6 (v7 + (1 : Int32)) N3)
def F_Trade_settle_6 (c : Nat) (k111 : Int32 → Int32 → hn → Option hn) (n : Nat) : Int32 → Int32 → Int32 → hn → Option hn := hm_it (B_Trade_settle_6 c k111) (fun _ _ _ _ => none) n
def B_Trade_settle_5 (c : Nat) (k111 : Int32 → Int32 → hn → Option hn) (v5 : Int32) (v6 : Int32) (N : hn) : Option hn :=
  (if v5 ≤ v6 then hg (hn_ix 4096 (((1 : Int32) <<< (v5 &&& 31)) - (1 : Int32)) = true) <|
  hl (hn_wI N 47 3 (N.1 49 (((1 : Int32) <<< (v5 &&& 31)) - (1 : Int32)).toNatClampNeg)) fun N1 => hvN (F_Trade_choose c v5 N1) fun N2 => some N2
  else F_Trade_settle_6 c k111 hN v5 v6 (0 : Int32) N)
def F_Trade_settle_5 (c : Nat) (n : Nat) : Int32 → Int32 → hn → Option hn := hm_it (B_Trade_settle_5 c ) (fun _ _ _ => none) n
def B_Trade_settle_4 (c : Nat) (k14 : Nat → Nat → Int32 → Int32 → Int32 → hn → Option hn) (k24 : Nat → Nat → Int32 → Int32 → Int32 → Int32 → hn → Option hn) (v1 : Nat) (v2 : Nat) (v4 : Int32) (v5 : Int32) (v6 : Int32) (v7 : Int32) (s0 : Int32) (s1 : Int32) (N : hn) : Option hn :=
  hg (hn_ix 144 s1 = true) <| hl (hn_wI N 48 s1.toNatClampNeg s0) fun N1 => k24 v1 v2 v4 v5 v6 (v7 + (1 : Int32)) N1
def B_Trade_settle_3 (c : Nat) (k14 : Nat → Nat → Int32 → Int32 → Int32 → hn → Option hn) (k24 : Nat → Nat → Int32 → Int32 → Int32 → Int32 → hn → Option hn) (v1 : Nat) (v2 : Nat) (v4 : Int32) (v5 : Int32) (v6 : Int32) (v7 : Int32) (s0 : Int32) (N : hn) : Option hn :=
  (if s0 = 0 then hbN (F_Rents_gainOf c v1 v2 v4 v6 v7 N) fun r2 N1 => B_Trade_settle_4 c k14 k24 v1 v2 v4 v5 v6 v7 r2 ((v6 * (12 : Int32)) + v7) N1
  else B_Trade_settle_4 c k14 k24 v1 v2 v4 v5 v6 v7 (0 : Int32) ((v6 * (12 : Int32)) + v7) N)
def B_Trade_settle_2 (c : Nat) (k14 : Nat → Nat → Int32 → Int32 → Int32 → hn → Option hn) (k24 : Nat → Nat → Int32 → Int32 → Int32 → Int32 → hn → Option hn) (v1 : Nat) (v2 : Nat) (v4 : Int32) (v5 : Int32) (v6 : Int32) (v7 : Int32) (N : hn) : Option hn :=
  (if v5 ≤ v7 then k14 v1 v2 v4 v5 (v6 + (1 : Int32)) N else hg (hn_ix 12 v6 = true) <| hg (hn_ix 12 v7 = true) <|
  (if (N.1 (v2 + 1) v6.toNatClampNeg) = (N.1 (v2 + 1) v7.toNatClampNeg) then B_Trade_settle_3 c k14 k24 v1 v2 v4 v5 v6 v7 (1 : Int32) N
  else B_Trade_settle_3 c k14 k24 v1 v2 v4 v5 v6 v7 (0 : Int32) N))
def F_Trade_settle_2 (c : Nat) (k14 : Nat → Nat → Int32 → Int32 → Int32 → hn → Option hn) (n : Nat) : Nat → Nat → Int32 → Int32 → Int32 → Int32 → hn → Option hn := hm_it (B_Trade_settle_2 c k14) (fun _ _ _ _ _ _ _ => none) n
def B_Trade_settle_1 (c : Nat) (k14 : Nat → Nat → Int32 → Int32 → Int32 → hn → Option hn) (v1 : Nat) (v2 : Nat) (v4 : Int32) (v5 : Int32) (v6 : Int32) (N : hn) : Option hn :=
  (if v5 ≤ v6 then hg (hn_ix 4096 (0 : Int32) = true) <| hl (hn_wI N 49 (0 : Int32).toNatClampNeg (0 : Int32)) fun N1 =>
  F_Trade_settle_5 c hN v5 (0 : Int32) N1 else F_Trade_settle_2 c k14 hN v1 v2 v4 v5 v6 (0 : Int32) N)
def F_Trade_settle_1 (c : Nat) (n : Nat) : Nat → Nat → Int32 → Int32 → Int32 → hn → Option hn := hm_it (B_Trade_settle_1 c ) (fun _ _ _ _ _ _ => none) n
def F_Trade_settle (c : Nat) (v1 : Nat) (v2 : Nat) (v4 : Int32) (N : hn) : Option hn :=
  hl ((hm_min (N.1 v1 4) (12 : Int32)) : Int32) fun x1 => F_Trade_settle_1 c hN v1 v2 v4 x1 (0 : Int32) N
def B_Ps_best_1 (c : Nat) (v1 : Int32) (N : hn) : Option (Int32 × hn) :=
  hbN (F_Ps_yearNow c N) fun r2 N1 => hvN (F_Trade_settle c c 36 r2 N1) fun N3 => (if v1 = (-1 : Int32) then some ((N3.1 47 3), N3)
  else hg (hn_ix 12 v1 = true) <| some ((N3.1 50 v1.toNatClampNeg), N3))
def F_Ps_best (c : Nat) (v1 : Int32) (N : hn) : Option (Int32 × hn) :=
  (if v1 = (-1 : Int32) then B_Ps_best_1 c v1 N else hbN (F_Ps_isPane c v1 N) fun r2 N1 => (if r2 = 0 then some ((-1 : Int32), N1)
  else B_Ps_best_1 c v1 N1))
def F_Hold_isBroken (c : Nat) (v0 : Nat) (v1 : Int32) (N : hn) : Option (Int32 × hn) :=
  (if (((N.1 v0 1) >>> (v1 &&& 31)) &&& (1 : Int32)) = (1 : Int32) then some ((1 : Int32), N) else some ((0 : Int32), N))
def F_Hold_turn (c : Nat) (v0 : Nat) (v1 : Int32) (N : hn) : Option hn :=
  hl (hn_wI N v0 1 ((N.1 v0 1) ^^^ ((1 : Int32) <<< (v1 &&& 31)))) fun N1 => some N1
def F_History_note (c : Nat) (v1 : Int32) (v2 : Int32) (N : hn) : Option hn :=
  hg (hn_ix 20 (N.1 40 3) = true) <| hl (hn_wI N 41 (N.1 40 3).toNatClampNeg v1) fun N1 => hg (hn_ix 20 (N1.1 40 3) = true) <|
  hl (hn_wI N1 42 (N1.1 40 3).toNatClampNeg v2) fun N2 =>
  hl (hn_wI N2 40 3 (((N2.1 40 3) + (1 : Int32)) - ((N2.1 40 3) + (1 : Int32)) / (20 : Int32) * (20 : Int32))) fun N3 =>
  hl (hn_wI N3 40 2 (hm_min ((N3.1 40 2) + (1 : Int32)) (20 : Int32))) fun N4 => some N4
def F_Ps_breaks (c : Nat) (v1 : Int32) (v2 : Int32) (N : hn) : Option (Int32 × hn) :=
  hbN (F_Ps_isPane c v1 N) fun r2 N1 => (if r2 = 0 then some ((0 : Int32), N1) else hbN (F_Hold_isBroken c 36 v1 N1) fun r4 N3 => (if r4 = v2 then
  hvN (F_Hold_turn c 36 v1 N3) fun N5 => hvN (F_History_note c v1 (-1 : Int32) N5) fun N6 => some ((1 : Int32), N6) else some ((0 : Int32), N3)))
def F_Ps_canExchange (c : Nat) (v1 : Int32) (v2 : Int32) (N : hn) : Option (Int32 × hn) :=
  hbN (F_Ps_isPane c v1 N) fun r2 N1 => (if r2 = 0 then some ((0 : Int32), N1) else hbN (F_Ps_isPane c v2 N1) fun r4 N3 => (if r4 = 0 then
  some ((0 : Int32), N3) else hg (hn_ix 12 v1 = true) <| hg (hn_ix 12 v2 = true) <|
  (if (N3.1 (36 + 1) v1.toNatClampNeg) = (N3.1 (36 + 1) v2.toNatClampNeg) then some ((0 : Int32), N3) else some ((1 : Int32), N3))))
def F_Ps_isTime (c : Nat) (v0 : Int32) (v1 : Int32) (N : hn) : Option (Int32 × hn) :=
  (if v0 < 0 then some ((0 : Int32), N) else (if (52 : Int32) ≤ v0 then some ((0 : Int32), N) else (if v1 < 0 then some ((0 : Int32), N)
  else (if (24 : Int32) ≤ v1 then some ((0 : Int32), N) else some ((1 : Int32), N)))))
def F_Ps_timeOf (c : Nat) (v0 : Int32) (v1 : Int32) (N : hn) : Option (Int32 × hn) :=
  some (((v0 * (24 : Int32)) + v1), N)
def F_Light_colourOn (c : Nat) (v1 : Int32) (v2 : Int32) (N : hn) : Option (Int32 × hn) :=
  hbN (F_Light_panesOn c v1 v2 N) fun r2 N1 => hbN (F_Chapel_colourOf c c r2 N1) fun r4 N3 => some (r4, N3)
def B_Ps_candlesAt_1 (c : Nat) (k21 : Int32 → Int32 → Int32 → hn → Option (Int32 × hn)) (v2 : Int32) (v3 : Int32) (v4 : Int32) (N : hn) : Option (Int32 × hn) :=
  (if (N.1 36 2) ≤ v4 then some (v3, N) else (if (8 : Int32) ≤ v4 then some (v3, N) else hg (hn_ix 8 v4 = true) <|
  hbN (F_Light_colourOn c (N.1 (36 + 2) v4.toNatClampNeg) v2 N) fun r2 N1 => hg (hn_ix 8 v4 = true) <| (if r2 = (N1.1 (36 + 3) v4.toNatClampNeg) then
  k21 v2 v3 (v4 + (1 : Int32)) N1 else k21 v2 (v3 + (1 : Int32)) (v4 + (1 : Int32)) N1)))
def F_Ps_candlesAt_1 (c : Nat) (n : Nat) : Int32 → Int32 → Int32 → hn → Option (Int32 × hn) := hm_it (B_Ps_candlesAt_1 c ) (fun _ _ _ _ => none) n
def F_Ps_candlesAt (c : Nat) (v1 : Int32) (N : hn) : Option (Int32 × hn) :=
  hvN (F_Light_turnTo c v1 N) fun N1 => hbN (F_Hold_lit c 36 N1) fun r3 N2 => F_Ps_candlesAt_1 c hN r3 (0 : Int32) (0 : Int32) N2
def F_Ps_candles (c : Nat) (v1 : Int32) (v2 : Int32) (N : hn) : Option (Int32 × hn) :=
  hbN (F_Ps_isTime c v1 v2 N) fun r2 N1 => (if r2 = 0 then some ((-1 : Int32), N1) else hbN (F_Ps_timeOf c v1 v2 N1) fun r4 N3 =>
  hbN (F_Ps_candlesAt c r4 N3) fun r6 N5 => some (r6, N5))
def F_Tape_isBlank (c : Nat) (v0 : Int32) (N : hn) : Option (Int32 × hn) :=
  (if v0 = (10 : Int32) then some ((1 : Int32), N) else (if v0 = (32 : Int32) then some ((1 : Int32), N) else some ((0 : Int32), N)))
def F_Tape_isLetter (c : Nat) (v0 : Int32) (N : hn) : Option (Int32 × hn) :=
  (if v0 < (97 : Int32) then some ((0 : Int32), N) else (if (122 : Int32) < v0 then some ((0 : Int32), N) else some ((1 : Int32), N)))
def B_Tape_takeLetters_1 (c : Nat) (k5 : hn → Option hn)  (N : hn) : Option hn :=
  (if (N.1 3 1) ≤ (N.1 3 2) then some N else hg (hn_ix 1000 (N.1 3 2) = true) <|
  hbN (F_Tape_isLetter c (N.1 4 (N.1 3 2).toNatClampNeg) N) fun r2 N1 => (if r2 = 0 then some N1 else hg (hn_ix 1000 (N1.1 3 2) = true) <|
  hl (hn_wL N1 3 6 (((N1.2 3 6) * (32 : Int64)) + (((N1.1 4 (N1.1 3 2).toNatClampNeg) - (97 : Int32)) + (1 : Int32)).toInt64)) fun N3 =>
  hl (hn_wI N3 3 2 ((N3.1 3 2) + (1 : Int32))) fun N4 => k5 N4))
def F_Tape_takeLetters_1 (c : Nat) (n : Nat) : hn → Option hn := hm_it (B_Tape_takeLetters_1 c ) (fun _ => none) n
def F_Tape_takeLetters (c : Nat)  (N : hn) : Option hn :=
  hl (hn_wL N 3 6 (0 : Int64)) fun N1 => F_Tape_takeLetters_1 c hN N1
def B_Tape_kindOfWord_4 (c : Nat) (k11 : Int32 → Int32 → Int32 → Int32 → hn → Option (Int32 × hn)) (v1 : Int32) (v4 : Int32) (N : hn) : Option (Int32 × hn) :=
  k11 (v1 + (1 : Int32)) (0 : Int32) (1 : Int32) (v4 + (1 : Int32)) N
def B_Tape_kindOfWord_3 (c : Nat) (k11 : Int32 → Int32 → Int32 → Int32 → hn → Option (Int32 × hn)) (v1 : Int32) (v2 : Int32) (v4 : Int32) (s0 : Int32) (N : hn) : Option (Int32 × hn) :=
  k11 v1 (v2 + (1 : Int32)) s0 (v4 + (1 : Int32)) N
def B_Tape_kindOfWord_2 (c : Nat) (k11 : Int32 → Int32 → Int32 → Int32 → hn → Option (Int32 × hn)) (v1 : Int32) (v2 : Int32) (v4 : Int32) (N : hn) : Option (Int32 × hn) :=
  B_Tape_kindOfWord_3 c k11 v1 v2 v4 (0 : Int32) N
def B_Tape_kindOfWord_1 (c : Nat) (k11 : Int32 → Int32 → Int32 → Int32 → hn → Option (Int32 × hn)) (v1 : Int32) (v2 : Int32) (v3 : Int32) (v4 : Int32) (N : hn) : Option (Int32 × hn) :=
  (if (106 : Int32) ≤ v4 then some ((150 : Int32), N) else hg (0 ≤ v4 ∧ v4 < 106) <| hl ((hm_chr 0 v4) : Int32) fun x1 => (if x1 = (32 : Int32) then
  (if v3 = 0 then B_Tape_kindOfWord_4 c k11 v1 v4 N else (if ((N.1 3 3) + v2) = (N.1 3 2) then some (v1, N) else B_Tape_kindOfWord_4 c k11 v1 v4 N))
  else (if v3 = 0 then B_Tape_kindOfWord_2 c k11 v1 v2 v4 N else (if (N.1 3 2) ≤ ((N.1 3 3) + v2) then B_Tape_kindOfWord_2 c k11 v1 v2 v4 N
  else hg (hn_ix 1000 ((N.1 3 3) + v2) = true) <| (if (N.1 4 ((N.1 3 3) + v2).toNatClampNeg) = x1 then
  B_Tape_kindOfWord_3 c k11 v1 v2 v4 (1 : Int32) N else B_Tape_kindOfWord_2 c k11 v1 v2 v4 N)))))
def F_Tape_kindOfWord_1 (c : Nat) (n : Nat) : Int32 → Int32 → Int32 → Int32 → hn → Option (Int32 × hn) := hm_it (B_Tape_kindOfWord_1 c ) (fun _ _ _ _ _ => none) n
def F_Tape_kindOfWord (c : Nat)  (N : hn) : Option (Int32 × hn) :=
  F_Tape_kindOfWord_1 c hN (128 : Int32) (0 : Int32) (1 : Int32) (0 : Int32) N
def F_Tape_isDigit (c : Nat) (v0 : Int32) (N : hn) : Option (Int32 × hn) :=
  (if v0 < (48 : Int32) then some ((0 : Int32), N) else (if (57 : Int32) < v0 then some ((0 : Int32), N) else some ((1 : Int32), N)))
def B_Tape_takeDigits_1 (c : Nat) (k5 : hn → Option hn)  (N : hn) : Option hn :=
  (if (N.1 3 1) ≤ (N.1 3 2) then some N else hg (hn_ix 1000 (N.1 3 2) = true) <| hbN (F_Tape_isDigit c (N.1 4 (N.1 3 2).toNatClampNeg) N) fun r2 N1 =>
  (if r2 = 0 then some N1 else hg (hn_ix 1000 (N1.1 3 2) = true) <|
  hl (hn_wI N1 3 5 (((N1.1 3 5) * (10 : Int32)) + ((N1.1 4 (N1.1 3 2).toNatClampNeg) - (48 : Int32)))) fun N3 =>
  hl (hn_wI N3 3 2 ((N3.1 3 2) + (1 : Int32))) fun N4 => k5 N4))
def F_Tape_takeDigits_1 (c : Nat) (n : Nat) : hn → Option hn := hm_it (B_Tape_takeDigits_1 c ) (fun _ => none) n
def F_Tape_takeDigits (c : Nat)  (N : hn) : Option hn :=
  hl (hn_wI N 3 5 (0 : Int32)) fun N1 => F_Tape_takeDigits_1 c hN N1
def B_Tape_next_5 (c : Nat) (s0 : Int32) (N : hn) : Option hn :=
  hl (hn_wI N 3 4 s0) fun N1 => hl (hn_wI N1 3 2 ((N1.1 3 2) + (1 : Int32))) fun N2 => some N2
def B_Tape_next_4 (c : Nat) (s0 : Int32) (N : hn) : Option hn :=
  hl (hn_wI N 3 4 s0) fun N1 => some N1
def B_Tape_next_3 (c : Nat) (s0 : Int32) (N : hn) : Option hn :=
  hl (hn_wI N 3 4 s0) fun N1 => some N1
def B_Tape_next_2 (c : Nat)  (N : hn) : Option hn :=
  hl (hn_wI N 3 3 (N.1 3 2)) fun N1 => (if (N1.1 3 2) < (N1.1 3 1) then hg (hn_ix 1000 (N1.1 3 2) = true) <|
  hbN (F_Tape_isLetter c (N1.1 4 (N1.1 3 2).toNatClampNeg) N1) fun r3 N2 => (if r3 = 0 then hg (hn_ix 1000 (N2.1 3 2) = true) <|
  hbN (F_Tape_isDigit c (N2.1 4 (N2.1 3 2).toNatClampNeg) N2) fun r5 N4 => (if r5 = 0 then hg (hn_ix 1000 (N4.1 3 2) = true) <|
  (if (hm_ix 1 ((N4.1 4 (N4.1 3 2).toNatClampNeg).toUInt32 % 65536).toInt32) < 0 then B_Tape_next_5 c (0 : Int32) N4
  else B_Tape_next_5 c (N4.1 4 (N4.1 3 2).toNatClampNeg) N4) else hvN (F_Tape_takeDigits c N4) fun N6 =>
  (if ((N6.1 3 2) - (N6.1 3 3)) ≤ (4 : Int32) then B_Tape_next_4 c (2 : Int32) N6 else B_Tape_next_4 c (0 : Int32) N6))
  else hvN (F_Tape_takeLetters c N2) fun N7 => (if ((N7.1 3 2) - (N7.1 3 3)) ≤ (8 : Int32) then hbN (F_Tape_kindOfWord c N7) fun r9 N8 =>
  B_Tape_next_3 c r9 N8 else B_Tape_next_3 c (0 : Int32) N7)) else hl (hn_wI N1 3 4 (1 : Int32)) fun N10 => some N10)
def B_Tape_next_1 (c : Nat) (k0 : hn → Option hn)  (N : hn) : Option hn :=
  (if (N.1 3 1) ≤ (N.1 3 2) then B_Tape_next_2 c N else hg (hn_ix 1000 (N.1 3 2) = true) <|
  hbN (F_Tape_isBlank c (N.1 4 (N.1 3 2).toNatClampNeg) N) fun r2 N1 => (if r2 = 0 then B_Tape_next_2 c N1
  else hl (hn_wI N1 3 2 ((N1.1 3 2) + (1 : Int32))) fun N3 => k0 N3))
def F_Tape_next_1 (c : Nat) (n : Nat) : hn → Option hn := hm_it (B_Tape_next_1 c ) (fun _ => none) n
def F_Tape_next (c : Nat)  (N : hn) : Option hn :=
  F_Tape_next_1 c hN N
def F_Tape_rewind (c : Nat)  (N : hn) : Option hn :=
  hl (hn_wI N 3 2 (0 : Int32)) fun N1 => hvN (F_Tape_next c N1) fun N2 => some N2
def F_Reader_takeOnce (c : Nat)  (N : hn) : Option (Int32 × hn) :=
  hl (((1 : Int32) <<< (((N.1 3 4) - (128 : Int32)) &&& 31)) : Int32) fun x1 => (if ((N.1 2 2) &&& x1) = 0 then
  hl (hn_wI N 2 2 ((N.1 2 2) ||| x1)) fun N2 => hvN (F_Tape_next c N2) fun N3 => some ((0 : Int32), N3) else some ((3 : Int32), N))
def F_Reader_takeNumber (c : Nat) (v1 : Int32) (v2 : Int32) (N : hn) : Option (Int32 × hn) :=
  (if (N.1 3 4) = (2 : Int32) then (if (N.1 3 5) < v1 then some ((4 : Int32), N) else (if (N.1 3 5) ≤ v2 then hl (hn_wI N 2 3 (N.1 3 5)) fun N1 =>
  hvN (F_Tape_next c N1) fun N2 => some ((0 : Int32), N2) else some ((4 : Int32), N))) else some ((1 : Int32), N))
def F_Reader_take (c : Nat) (v1 : Int32) (N : hn) : Option (Int32 × hn) :=
  (if (N.1 3 4) = v1 then hvN (F_Tape_next c N) fun N1 => some ((0 : Int32), N1) else some ((1 : Int32), N))
def B_Reader_readFloor_2 (c : Nat) (v1 : Int32) (N : hn) : Option (Int32 × hn) :=
  (if v1 = 0 then hl (hn_wI N (25 - c) 1 (N.1 2 3)) fun N1 => hbN (F_Reader_take c (59 : Int32) N1) fun r3 N2 => some (r3, N2) else some (v1, N))
def B_Reader_readFloor_1 (c : Nat) (v1 : Int32) (N : hn) : Option (Int32 × hn) :=
  (if v1 = 0 then hl (hn_wI N (25 - c) 0 (N.1 2 3)) fun N1 => hbN (F_Reader_takeNumber c (1 : Int32) (8 : Int32) N1) fun r3 N2 =>
  B_Reader_readFloor_2 c r3 N2 else B_Reader_readFloor_2 c v1 N)
def F_Reader_readFloor (c : Nat)  (N : hn) : Option (Int32 × hn) :=
  hbN (F_Reader_takeOnce c N) fun r2 N1 => (if r2 = 0 then hbN (F_Reader_takeNumber c (1 : Int32) (8 : Int32) N1) fun r4 N3 =>
  B_Reader_readFloor_1 c r4 N3 else B_Reader_readFloor_1 c r2 N1)
def F_Tape_isName (c : Nat)  (N : hn) : Option (Int32 × hn) :=
  (if (N.1 3 4) < (143 : Int32) then some ((0 : Int32), N) else some ((1 : Int32), N))
def F_Reader_takeNewName (c : Nat) (v1 : Int32) (N : hn) : Option (Int32 × hn) :=
  hbN (F_Tape_isName c N) fun r2 N1 => (if r2 = 0 then some ((1 : Int32), N1) else hbN (F_Chapel_guildNamed c (25 - c) (N1.2 3 6) N1) fun r4 N3 =>
  (if r4 = (-1 : Int32) then hg (hn_ix 6 v1 = true) <| hl (hn_wL N3 ((25 - c) + 1) v1.toNatClampNeg (N3.2 3 6)) fun N5 =>
  hvN (F_Tape_next c N5) fun N6 => some ((0 : Int32), N6) else some ((3 : Int32), N3)))
def B_Reader_readGuild_5 (c : Nat) (v2 : Int32) (N : hn) : Option (Int32 × hn) :=
  (if v2 = 0 then hl (hn_wI N (25 - c) 3 ((N.1 (25 - c) 3) + (1 : Int32))) fun N1 => some (v2, N1) else some (v2, N))
def B_Reader_readGuild_4 (c : Nat) (v1 : Int32) (v2 : Int32) (N : hn) : Option (Int32 × hn) :=
  (if v2 = 0 then hg (hn_ix 6 v1 = true) <| hl (hn_wI N ((25 - c) + 3) v1.toNatClampNeg (N.1 2 3)) fun N1 =>
  hbN (F_Reader_take c (59 : Int32) N1) fun r3 N2 => B_Reader_readGuild_5 c r3 N2 else B_Reader_readGuild_5 c v2 N)
def B_Reader_readGuild_3 (c : Nat) (v1 : Int32) (v2 : Int32) (N : hn) : Option (Int32 × hn) :=
  (if v2 = 0 then hbN (F_Reader_takeNumber c (0 : Int32) (9999 : Int32) N) fun r2 N1 => B_Reader_readGuild_4 c v1 r2 N1
  else B_Reader_readGuild_4 c v1 v2 N)
def B_Reader_readGuild_2 (c : Nat) (v1 : Int32) (v2 : Int32) (N : hn) : Option (Int32 × hn) :=
  (if v2 = 0 then hg (hn_ix 6 v1 = true) <| hl (hn_wI N ((25 - c) + 2) v1.toNatClampNeg (N.1 2 3)) fun N1 =>
  hbN (F_Reader_take c (131 : Int32) N1) fun r3 N2 => B_Reader_readGuild_3 c v1 r3 N2 else B_Reader_readGuild_3 c v1 v2 N)
def B_Reader_readGuild_1 (c : Nat) (v1 : Int32) (v2 : Int32) (N : hn) : Option (Int32 × hn) :=
  (if v2 = 0 then hbN (F_Reader_takeNumber c (0 : Int32) (7 : Int32) N) fun r2 N1 => B_Reader_readGuild_2 c v1 r2 N1
  else B_Reader_readGuild_2 c v1 v2 N)
def F_Reader_readGuild (c : Nat)  (N : hn) : Option (Int32 × hn) :=
  hl ((N.1 (25 - c) 3) : Int32) fun x1 => (if x1 < (6 : Int32) then hvN (F_Tape_next c N) fun N2 => hbN (F_Reader_takeNewName c x1 N2) fun r4 N3 =>
  (if r4 = 0 then hbN (F_Reader_take c (130 : Int32) N3) fun r6 N5 => B_Reader_readGuild_1 c x1 r6 N5 else B_Reader_readGuild_1 c x1 r4 N3)
  else some ((5 : Int32), N))
def F_Reader_isRowOfPane (c : Nat) (v1 : Int32) (N : hn) : Option (Int32 × hn) :=
  (if (N.1 3 4) = (2 : Int32) then hbN (F_Chapel_hasPaneAt c (25 - c) v1 (N.1 3 5) N) fun r2 N1 => (if r2 = 0 then some ((0 : Int32), N1)
  else some ((1 : Int32), N1)) else some ((0 : Int32), N))
def F_Reader_takeGiver (c : Nat) (v1 : Int32) (N : hn) : Option (Int32 × hn) :=
  hbN (F_Tape_isName c N) fun r2 N1 => (if r2 = 0 then some ((1 : Int32), N1) else hbN (F_Chapel_guildNamed c (25 - c) (N1.2 3 6) N1) fun r4 N3 =>
  (if r4 = (-1 : Int32) then some ((2 : Int32), N3) else hg (hn_ix 12 v1 = true) <| hl (hn_wI N3 ((25 - c) + 6) v1.toNatClampNeg r4) fun N5 =>
  hvN (F_Tape_next c N5) fun N6 => some ((0 : Int32), N6)))
def B_Reader_readPane_7 (c : Nat) (v2 : Int32) (N : hn) : Option (Int32 × hn) :=
  (if v2 = 0 then hl (hn_wI N (25 - c) 4 ((N.1 (25 - c) 4) + (1 : Int32))) fun N1 => some (v2, N1) else some (v2, N))
def B_Reader_readPane_6 (c : Nat) (v1 : Int32) (v2 : Int32) (N : hn) : Option (Int32 × hn) :=
  (if v2 = 0 then hg (hn_ix 12 v1 = true) <| hl (hn_wI N ((25 - c) + 7) v1.toNatClampNeg (N.1 2 3)) fun N1 =>
  hbN (F_Reader_take c (59 : Int32) N1) fun r3 N2 => B_Reader_readPane_7 c r3 N2 else B_Reader_readPane_7 c v2 N)
def B_Reader_readPane_5 (c : Nat) (v1 : Int32) (v2 : Int32) (N : hn) : Option (Int32 × hn) :=
  (if v2 = 0 then hbN (F_Reader_takeNumber c (1 : Int32) (7 : Int32) N) fun r2 N1 => B_Reader_readPane_6 c v1 r2 N1
  else B_Reader_readPane_6 c v1 v2 N)
def B_Reader_readPane_4 (c : Nat) (v1 : Int32) (v2 : Int32) (N : hn) : Option (Int32 × hn) :=
  (if v2 = 0 then hbN (F_Reader_take c (134 : Int32) N) fun r2 N1 => B_Reader_readPane_5 c v1 r2 N1 else B_Reader_readPane_5 c v1 v2 N)
def B_Reader_readPane_3 (c : Nat) (v1 : Int32) (v2 : Int32) (N : hn) : Option (Int32 × hn) :=
  (if v2 = 0 then hbN (F_Reader_takeGiver c v1 N) fun r2 N1 => B_Reader_readPane_4 c v1 r2 N1 else B_Reader_readPane_4 c v1 v2 N)
def B_Reader_readPane_2 (c : Nat) (v1 : Int32) (v2 : Int32) (N : hn) : Option (Int32 × hn) :=
  (if v2 = 0 then hg (hn_ix 12 v1 = true) <| hl (hn_wI N ((25 - c) + 5) v1.toNatClampNeg (N.1 2 3)) fun N1 =>
  hbN (F_Reader_take c (133 : Int32) N1) fun r3 N2 => B_Reader_readPane_3 c v1 r3 N2 else B_Reader_readPane_3 c v1 v2 N)
def B_Reader_readPane_1 (c : Nat) (v1 : Int32) (s0 : Int32) (N : hn) : Option (Int32 × hn) :=
  B_Reader_readPane_2 c v1 s0 N
def F_Reader_readPane (c : Nat)  (N : hn) : Option (Int32 × hn) :=
  hl ((N.1 (25 - c) 4) : Int32) fun x1 => (if x1 < (12 : Int32) then hvN (F_Tape_next c N) fun N2 =>
  hbN (F_Reader_takeNumber c (0 : Int32) (7 : Int32) N2) fun r4 N3 => (if r4 = 0 then hg (hn_ix 12 x1 = true) <|
  hl (hn_wI N3 ((25 - c) + 4) x1.toNatClampNeg (N3.1 2 3)) fun N5 => hbN (F_Reader_isRowOfPane c (N5.1 2 3) N5) fun r7 N6 => (if r7 = 0 then
  hbN (F_Reader_takeNumber c (0 : Int32) (3 : Int32) N6) fun r9 N8 => B_Reader_readPane_1 c x1 r9 N8 else B_Reader_readPane_1 c x1 (3 : Int32) N6)
  else B_Reader_readPane_2 c x1 r4 N3) else some ((5 : Int32), N))
def F_Laws_open (c : Nat) (v0 : Nat) (v1 : Int32) (N : hn) : Option hn :=
  hbN (F_Laws_isLaw c v1 N) fun r2 N1 => (if r2 = 0 then some N1 else hg (hn_ix 4 (v1 - (135 : Int32)) = true) <|
  hl (hn_wI N1 (v0 + 2) (v1 - (135 : Int32)).toNatClampNeg (N1.1 v0 1)) fun N3 => some N3)
def F_Laws_add (c : Nat) (v0 : Nat) (v1 : Int32) (N : hn) : Option hn :=
  (if (1000 : Int32) ≤ (N.1 v0 1) then some N else hg (hn_ix 1000 (N.1 v0 1) = true) <| hl (hn_wI N (v0 + 1) (N.1 v0 1).toNatClampNeg v1) fun N1 =>
  hl (hn_wI N1 v0 1 ((N1.1 v0 1) + (1 : Int32))) fun N2 => some N2)
def B_Reader_readProduct_1 (c : Nat) (rP : Int32 → hn → Option (Int32 × hn)) (k8 : Int32 → Int32 → Int32 → hn → Option (Int32 × hn)) (v1 : Int32) (v2 : Int32) (v3 : Int32) (N : hn) : Option (Int32 × hn) :=
  (if (1000 : Int32) ≤ v3 then some (v2, N) else (if v2 = 0 then (if (N.1 3 4) = (42 : Int32) then hvN (F_Tape_next c N) fun N1 =>
  hbN (rP v1 N1) fun r3 N2 => hvN (F_Laws_add c ((25 - c) + 8) (-42 : Int32) N2) fun N4 => k8 v1 r3 (v3 + (1 : Int32)) N4 else some (v2, N))
  else some (v2, N)))
def F_Reader_readProduct_1 (c : Nat) (rP : Int32 → hn → Option (Int32 × hn)) (n : Nat) : Int32 → Int32 → Int32 → hn → Option (Int32 × hn) := hm_it (B_Reader_readProduct_1 c rP ) (fun _ _ _ _ => none) n
def F_Reader_readProduct (c : Nat) (rP : Int32 → hn → Option (Int32 × hn)) (v1 : Int32) (N : hn) : Option (Int32 × hn) :=
  hbN (rP v1 N) fun r2 N1 => F_Reader_readProduct_1 c rP hN v1 r2 (0 : Int32) N1
def B_Reader_readSum_2 (c : Nat) (rP : Int32 → hn → Option (Int32 × hn)) (k8 : Int32 → Int32 → Int32 → hn → Option (Int32 × hn)) (v1 : Int32) (v3 : Int32) (N : hn) : Option (Int32 × hn) :=
  hl ((N.1 3 4) : Int32) fun x1 => hvN (F_Tape_next c N) fun N2 => hbN (F_Reader_readProduct c rP v1 N2) fun r4 N3 =>
  hvN (F_Laws_add c ((25 - c) + 8) (-x1) N3) fun N5 => k8 v1 r4 (v3 + (1 : Int32)) N5
def B_Reader_readSum_1 (c : Nat) (rP : Int32 → hn → Option (Int32 × hn)) (k8 : Int32 → Int32 → Int32 → hn → Option (Int32 × hn)) (v1 : Int32) (v2 : Int32) (v3 : Int32) (N : hn) : Option (Int32 × hn) :=
  (if (1000 : Int32) ≤ v3 then some (v2, N) else (if v2 = 0 then (if (N.1 3 4) = (43 : Int32) then B_Reader_readSum_2 c rP k8 v1 v3 N
  else (if (N.1 3 4) = (45 : Int32) then B_Reader_readSum_2 c rP k8 v1 v3 N else some (v2, N))) else some (v2, N)))
def F_Reader_readSum_1 (c : Nat) (rP : Int32 → hn → Option (Int32 × hn)) (n : Nat) : Int32 → Int32 → Int32 → hn → Option (Int32 × hn) := hm_it (B_Reader_readSum_1 c rP ) (fun _ _ _ _ => none) n
def F_Reader_readSum (c : Nat) (rP : Int32 → hn → Option (Int32 × hn)) (v1 : Int32) (N : hn) : Option (Int32 × hn) :=
  hbN (F_Reader_readProduct c rP v1 N) fun r2 N1 => F_Reader_readSum_1 c rP hN v1 r2 (0 : Int32) N1
def B_Reader_readTest_1 (c : Nat) (rP : Int32 → hn → Option (Int32 × hn)) (v1 : Int32) (N : hn) : Option (Int32 × hn) :=
  hl ((N.1 3 4) : Int32) fun x1 => hvN (F_Tape_next c N) fun N2 => hbN (F_Reader_readSum c rP v1 N2) fun r4 N3 =>
  hvN (F_Laws_add c ((25 - c) + 8) (-x1) N3) fun N5 => some (r4, N5)
def F_Reader_readTest (c : Nat) (rP : Int32 → hn → Option (Int32 × hn)) (v1 : Int32) (N : hn) : Option (Int32 × hn) :=
  hbN (F_Reader_readSum c rP v1 N) fun r2 N1 => (if r2 = 0 then (if (N1.1 3 4) = (60 : Int32) then B_Reader_readTest_1 c rP v1 N1
  else (if (N1.1 3 4) = (61 : Int32) then B_Reader_readTest_1 c rP v1 N1 else some (r2, N1))) else some (r2, N1))
def B_Reader_readE_2 (c : Nat) (rP : Int32 → hn → Option (Int32 × hn)) (k8 : Int32 → Int32 → Int32 → hn → Option (Int32 × hn)) (v1 : Int32) (v3 : Int32) (N : hn) : Option (Int32 × hn) :=
  hl ((N.1 3 4) : Int32) fun x1 => hvN (F_Tape_next c N) fun N2 => hbN (F_Reader_readTest c rP v1 N2) fun r4 N3 =>
  hvN (F_Laws_add c ((25 - c) + 8) (-x1) N3) fun N5 => k8 v1 r4 (v3 + (1 : Int32)) N5
def B_Reader_readE_1 (c : Nat) (rP : Int32 → hn → Option (Int32 × hn)) (k8 : Int32 → Int32 → Int32 → hn → Option (Int32 × hn)) (v1 : Int32) (v2 : Int32) (v3 : Int32) (N : hn) : Option (Int32 × hn) :=
  (if (1000 : Int32) ≤ v3 then some (v2, N) else (if v2 = 0 then (if (N.1 3 4) = (141 : Int32) then B_Reader_readE_2 c rP k8 v1 v3 N
  else (if (N.1 3 4) = (142 : Int32) then B_Reader_readE_2 c rP k8 v1 v3 N else some (v2, N))) else some (v2, N)))
def F_Reader_readE_1 (c : Nat) (rP : Int32 → hn → Option (Int32 × hn)) (n : Nat) : Int32 → Int32 → Int32 → hn → Option (Int32 × hn) := hm_it (B_Reader_readE_1 c rP ) (fun _ _ _ _ => none) n
def F_Reader_readE (c : Nat) (rP : Int32 → hn → Option (Int32 × hn)) (v1 : Int32) (N : hn) : Option (Int32 × hn) :=
  hbN (F_Reader_readTest c rP v1 N) fun r2 N1 => F_Reader_readE_1 c rP hN v1 r2 (0 : Int32) N1
def F_Laws_close (c : Nat) (v0 : Nat) (v1 : Int32) (N : hn) : Option hn :=
  hbN (F_Laws_isLaw c v1 N) fun r2 N1 => (if r2 = 0 then some N1 else hg (hn_ix 4 (v1 - (135 : Int32)) = true) <|
  hl (hn_wI N1 (v0 + 3) (v1 - (135 : Int32)).toNatClampNeg (N1.1 v0 1)) fun N3 => some N3)
def F_Tape_isFact (c : Nat)  (N : hn) : Option (Int32 × hn) :=
  (if (N.1 3 4) < (143 : Int32) then some ((0 : Int32), N) else (if (149 : Int32) < (N.1 3 4) then some ((0 : Int32), N) else some ((1 : Int32), N)))
def B_Reader_isFactOf_1 (c : Nat) (v0 : Int32) (N : hn) : Option (Int32 × hn) :=
  (if v0 = (135 : Int32) then some ((1 : Int32), N) else (if v0 = (136 : Int32) then some ((1 : Int32), N) else some ((0 : Int32), N)))
def F_Reader_isFactOf (c : Nat) (v0 : Int32) (v1 : Int32) (N : hn) : Option (Int32 × hn) :=
  (if v1 = (143 : Int32) then some ((1 : Int32), N) else (if v1 = (144 : Int32) then some ((1 : Int32), N) else (if v1 = (145 : Int32) then
  B_Reader_isFactOf_1 c v0 N else (if v1 = (146 : Int32) then B_Reader_isFactOf_1 c v0 N else (if v0 = (138 : Int32) then some ((1 : Int32), N)
  else some ((0 : Int32), N))))))
def F_Reader_startsPart (c : Nat)  (N : hn) : Option (Int32 × hn) :=
  (if (N.1 3 4) = (2 : Int32) then some ((1 : Int32), N) else (if (N.1 3 4) = (140 : Int32) then some ((1 : Int32), N)
  else (if (N.1 3 4) = (40 : Int32) then some ((1 : Int32), N) else hbN (F_Tape_isFact c N) fun r2 N1 => (if r2 = 0 then some ((0 : Int32), N1)
  else hbN (F_Reader_isFactOf c (N1.1 2 4) (N1.1 3 4) N1) fun r4 N3 => (if r4 = 0 then some ((0 : Int32), N3) else some ((1 : Int32), N3))))))
def B_Reader_readPart_3 (c : Nat) (rP : Int32 → hn → Option (Int32 × hn)) (v4 : Int32) (s0 : Int32) (s1 : Nat) (N : hn) : Option (Int32 × hn) :=
  hvN (F_Laws_add c s1 s0 N) fun N1 => some (v4, N1)
def B_Reader_readPart_2 (c : Nat) (rP : Int32 → hn → Option (Int32 × hn)) (v2 : Int32) (v3 : Int32) (s0 : Int32) (N : hn) : Option (Int32 × hn) :=
  (if v2 = (2 : Int32) then B_Reader_readPart_3 c rP s0 v3 ((25 - c) + 8) N else B_Reader_readPart_3 c rP s0 (-v2) ((25 - c) + 8) N)
def B_Reader_readPart_1 (c : Nat) (rP : Int32 → hn → Option (Int32 × hn)) (v4 : Int32) (N : hn) : Option (Int32 × hn) :=
  (if v4 = 0 then some ((1 : Int32), N) else some (v4, N))
def E_Reader_readPart (c : Nat) (rP : Int32 → hn → Option (Int32 × hn)) (v1 : Int32) (N : hn) : Option (Int32 × hn) :=
  hbN (F_Reader_startsPart c N) fun r2 N1 => (if r2 = 0 then some ((1 : Int32), N1) else (if v1 < (5 : Int32) then hl ((N1.1 3 4) : Int32) fun x3 =>
  hl ((N1.1 3 5) : Int32) fun x4 => hvN (F_Tape_next c N1) fun N5 => (if x3 = (40 : Int32) then
  hbN (F_Reader_readE c rP (v1 + (1 : Int32)) N5) fun r9 N8 => (if r9 = 0 then (if (N8.1 3 4) = (41 : Int32) then hvN (F_Tape_next c N8) fun N10 =>
  some ((0 : Int32), N10) else B_Reader_readPart_1 c rP r9 N8) else B_Reader_readPart_1 c rP r9 N8) else (if x3 = (140 : Int32) then
  hbN (rP (v1 + (1 : Int32)) N5) fun r7 N6 => B_Reader_readPart_2 c rP x3 x4 r7 N6 else B_Reader_readPart_2 c rP x3 x4 (0 : Int32) N5))
  else some ((5 : Int32), N1)))
def F_Reader_readPart (c : Nat) (n : Nat) : Int32 → hn → Option (Int32 × hn) := hm_it (E_Reader_readPart c) (fun _ _ => none) n
def B_Reader_readLaw_1 (c : Nat) (v1 : Int32) (N : hn) : Option (Int32 × hn) :=
  (if v1 = 0 then hvN (F_Laws_close c ((25 - c) + 8) (N.1 2 4) N) fun N1 => hbN (F_Reader_take c (59 : Int32) N1) fun r3 N2 => some (r3, N2)
  else some (v1, N))
def F_Reader_readLaw (c : Nat)  (N : hn) : Option (Int32 × hn) :=
  hl (hn_wI N 2 4 (N.1 3 4)) fun N1 => hbN (F_Reader_takeOnce c N1) fun r3 N2 => (if r3 = 0 then
  hvN (F_Laws_open c ((25 - c) + 8) (N2.1 2 4) N2) fun N4 => hbN (F_Reader_readE c (F_Reader_readPart c hD) (0 : Int32) N4) fun r6 N5 =>
  B_Reader_readLaw_1 c r6 N5 else B_Reader_readLaw_1 c r3 N2)
def B_Reader_readCloud_1 (c : Nat) (v1 : Int32) (N : hn) : Option (Int32 × hn) :=
  (if v1 = 0 then hl (hn_wI N (25 - c) 2 (N.1 2 3)) fun N1 => hbN (F_Reader_take c (59 : Int32) N1) fun r3 N2 => some (r3, N2) else some (v1, N))
def F_Reader_readCloud (c : Nat)  (N : hn) : Option (Int32 × hn) :=
  hbN (F_Reader_takeOnce c N) fun r2 N1 => (if r2 = 0 then hbN (F_Reader_takeNumber c (0 : Int32) (8 : Int32) N1) fun r4 N3 =>
  B_Reader_readCloud_1 c r4 N3 else B_Reader_readCloud_1 c r2 N1)
def B_Reader_readLine_1 (c : Nat)  (N : hn) : Option (Int32 × hn) :=
  hbN (F_Reader_readLaw c N) fun r2 N1 => some (r2, N1)
def F_Reader_readLine (c : Nat)  (N : hn) : Option (Int32 × hn) :=
  hl ((N.1 3 4) : Int32) fun x1 => (if x1 = (128 : Int32) then hbN (F_Reader_readFloor c N) fun r3 N2 => some (r3, N2) else if x1 = (129 : Int32) then
  hbN (F_Reader_readGuild c N) fun r5 N4 => some (r5, N4) else if x1 = (132 : Int32) then hbN (F_Reader_readPane c N) fun r7 N6 => some (r7, N6)
  else if x1 = (135 : Int32) then B_Reader_readLine_1 c N else if x1 = (136 : Int32) then B_Reader_readLine_1 c N else if x1 = (137 : Int32) then
  B_Reader_readLine_1 c N else if x1 = (138 : Int32) then B_Reader_readLine_1 c N else if x1 = (139 : Int32) then
  hbN (F_Reader_readCloud c N) fun r9 N8 => some (r9, N8) else some ((1 : Int32), N))
def B_Reader_readAll_2 (c : Nat) (v1 : Int32) (N : hn) : Option (Int32 × hn) :=
  hl (hn_wI N 3 1 (0 : Int32)) fun N1 => (if v1 = 0 then some ((0 : Int32), N1) else some ((v1 + ((16 : Int32) * (N1.1 3 3))), N1))
def B_Reader_readAll_1 (c : Nat) (k23 : Int32 → Int32 → hn → Option (Int32 × hn)) (v1 : Int32) (v2 : Int32) (N : hn) : Option (Int32 × hn) :=
  (if (1000 : Int32) < v2 then B_Reader_readAll_2 c v1 N else (if v1 = 0 then (if (N.1 3 4) = (1 : Int32) then B_Reader_readAll_2 c v1 N
  else hbN (F_Reader_readLine c N) fun r2 N1 => k23 r2 (v2 + (1 : Int32)) N1) else B_Reader_readAll_2 c v1 N))
def F_Reader_readAll_1 (c : Nat) (n : Nat) : Int32 → Int32 → hn → Option (Int32 × hn) := hm_it (B_Reader_readAll_1 c ) (fun _ _ _ => none) n
def F_Reader_readAll (c : Nat)  (N : hn) : Option (Int32 × hn) :=
  hvN (F_Chapel_begin c (25 - c) N) fun N1 => hl (hn_wI N1 2 2 (0 : Int32)) fun N2 => hvN (F_Tape_rewind c N2) fun N3 =>
  F_Reader_readAll_1 c hN (0 : Int32) (0 : Int32) N3
def B_Hold_begin_2 (c : Nat) (k20 : Nat → Nat → Int32 → hn → Option hn) (v0 : Nat) (v1 : Nat) (v2 : Int32) (s0 : Int32) (s1 : Int32) (s2 : Nat) (N : hn) : Option hn :=
  hg (hm_ib S0 s2 .int s1 = true) <| hl (hn_wI N s2 s1.toNatClampNeg s0) fun N1 => k20 v0 v1 (v2 + (1 : Int32)) N1
def B_Hold_begin_1 (c : Nat) (k20 : Nat → Nat → Int32 → hn → Option hn) (v0 : Nat) (v1 : Nat) (v2 : Int32) (N : hn) : Option hn :=
  (if (12 : Int32) ≤ v2 then some N else (if (N.1 v0 5) ≤ v2 then B_Hold_begin_2 c k20 v0 v1 v2 (-1 : Int32) v2 (v0 + 1) N
  else hg (hn_ix 12 v2 = true) <| B_Hold_begin_2 c k20 v0 v1 v2 (N.1 (v1 + 6) v2.toNatClampNeg) v2 (v0 + 1) N))
def F_Hold_begin_1 (c : Nat) (n : Nat) : Nat → Nat → Int32 → hn → Option hn := hm_it (B_Hold_begin_1 c ) (fun _ _ _ _ => none) n
def F_Hold_begin (c : Nat) (v0 : Nat) (v1 : Nat) (N : hn) : Option hn :=
  hl (hn_wI N v0 5 (N.1 v1 4)) fun N1 => hl (hn_wI N1 v0 1 (0 : Int32)) fun N2 => hl (hn_wI N2 v0 2 (0 : Int32)) fun N3 =>
  F_Hold_begin_1 c hN v0 v1 (0 : Int32) N3
def F_History_forget (c : Nat)  (N : hn) : Option hn :=
  hl (hn_wI N 40 2 (0 : Int32)) fun N1 => hl (hn_wI N1 40 3 (0 : Int32)) fun N2 => some N2
def F_Rents_forget (c : Nat)  (N : hn) : Option hn :=
  hl (hn_wI N 43 2 (0 : Int32)) fun N1 => hl (hn_wI N1 43 3 (0 : Int32)) fun N2 => some N2
def F_Ps_clear (c : Nat)  (N : hn) : Option (Int32 × hn) :=
  hl (hn_wI N 36 2 (0 : Int32)) fun N1 => some ((1 : Int32), N1)
def F_Ps_isGuild (c : Nat) (v1 : Int32) (N : hn) : Option (Int32 × hn) :=
  (if v1 < 0 then some ((0 : Int32), N) else (if (N.1 c 3) ≤ v1 then some ((0 : Int32), N) else some ((1 : Int32), N)))
def F_Rents_cloudedYear (c : Nat) (v2 : Int32) (v3 : Int32) (N : hn) : Option (Int32 × hn) :=
  hvN (F_Rents_measure c v2 v3 (N.1 c 2) (16 : Int32) N) fun N1 => some ((16 : Int32), N1)
def B_Hold_panesOf_1 (c : Nat) (k4 : Nat → Int32 → Int32 → Int32 → hn → Option (Int32 × hn)) (v0 : Nat) (v1 : Int32) (v2 : Int32) (v3 : Int32) (N : hn) : Option (Int32 × hn) :=
  (if (12 : Int32) ≤ v3 then some (v2, N) else hg (hn_ix 12 v3 = true) <| (if (N.1 (v0 + 1) v3.toNatClampNeg) = v1 then
  hl ((v2 ||| ((1 : Int32) <<< (v3 &&& 31))) : Int32) fun x1 => k4 v0 v1 x1 (v3 + (1 : Int32)) N else k4 v0 v1 v2 (v3 + (1 : Int32)) N))
def F_Hold_panesOf_1 (c : Nat) (n : Nat) : Nat → Int32 → Int32 → Int32 → hn → Option (Int32 × hn) := hm_it (B_Hold_panesOf_1 c ) (fun _ _ _ _ _ => none) n
def F_Hold_panesOf (c : Nat) (v0 : Nat) (v1 : Int32) (N : hn) : Option (Int32 × hn) :=
  F_Hold_panesOf_1 c hN v0 v1 (0 : Int32) (0 : Int32) N
def B_Rents_givenBy_1 (c : Nat) (k5 : Int32 → Int32 → Int32 → Int32 → hn → Option (Int32 × hn)) (v1 : Int32) (v2 : Int32) (v3 : Int32) (v4 : Int32) (N : hn) : Option (Int32 × hn) :=
  (if (12 : Int32) ≤ v4 then some (v3, N) else (if ((v2 >>> (v4 &&& 31)) &&& (1 : Int32)) = (1 : Int32) then
  hbN (F_Rents_given c v1 v4 N) fun r2 N1 => hl ((v3 + r2) : Int32) fun x3 => k5 v1 v2 x3 (v4 + (1 : Int32)) N1
  else k5 v1 v2 v3 (v4 + (1 : Int32)) N))
def F_Rents_givenBy_1 (c : Nat) (n : Nat) : Int32 → Int32 → Int32 → Int32 → hn → Option (Int32 × hn) := hm_it (B_Rents_givenBy_1 c ) (fun _ _ _ _ _ => none) n
def F_Rents_givenBy (c : Nat) (v1 : Int32) (v2 : Int32) (N : hn) : Option (Int32 × hn) :=
  F_Rents_givenBy_1 c hN v1 v2 (0 : Int32) (0 : Int32) N
def B_Ps_clouded_3 (c : Nat) (k83 : Int32 → Int32 → Int32 → hn → Option (Int32 × hn)) (v3 : Int32) (v4 : Int32) (v5 : Int32) (N : hn) : Option (Int32 × hn) :=
  (if (N.1 c 3) ≤ v5 then some (v4, N) else hbN (F_Hold_panesOf c 36 v5 N) fun r2 N1 => hbN (F_Rents_givenBy c v3 r2 N1) fun r4 N3 =>
  hg (hn_ix 6 v5 = true) <| (if (N3.1 (c + 3) v5.toNatClampNeg) ≤ r4 then k83 v3 v4 (v5 + (1 : Int32)) N3
  else k83 v3 (v4 + (1 : Int32)) (v5 + (1 : Int32)) N3))
def F_Ps_clouded_3 (c : Nat) (n : Nat) : Int32 → Int32 → Int32 → hn → Option (Int32 × hn) := hm_it (B_Ps_clouded_3 c ) (fun _ _ _ _ => none) n
def B_Ps_clouded_2 (c : Nat) (v1 : Int32) (v2 : Int32) (N : hn) : Option (Int32 × hn) :=
  hbN (F_Hold_lit c 36 N) fun r2 N1 => hbN (F_Rents_cloudedYear c r2 v1 N1) fun r4 N3 => (if v2 = (-1 : Int32) then
  F_Ps_clouded_3 c hN r4 (0 : Int32) (0 : Int32) N3 else hbN (F_Hold_panesOf c 36 v2 N3) fun r6 N5 => hbN (F_Rents_givenBy c r4 r6 N5) fun r8 N7 =>
  some (r8, N7))
def B_Ps_clouded_1 (c : Nat)  (N : hn) : Option (Int32 × hn) :=
  none
def F_Ps_clouded (c : Nat) (v1 : Int32) (v2 : Int32) (N : hn) : Option (Int32 × hn) :=
  (if v1 < 0 then B_Ps_clouded_1 c N else (if (9999 : Int32) < v1 then B_Ps_clouded_1 c N else (if v2 = (-1 : Int32) then B_Ps_clouded_2 c v1 v2 N
  else hbN (F_Ps_isGuild c v2 N) fun r2 N1 => (if r2 = 0 then B_Ps_clouded_1 c N1 else B_Ps_clouded_2 c v1 v2 N1))))
def F_Ps_count (c : Nat) (v1 : Int32) (N : hn) : Option (Int32 × hn) :=
  (if v1 = (0 : Int32) then some ((N.1 c 0), N) else if v1 = (1 : Int32) then some ((N.1 c 1), N) else if v1 = (2 : Int32) then some ((N.1 c 3), N)
  else if v1 = (3 : Int32) then some ((N.1 c 4), N) else if v1 = (4 : Int32) then hbN (F_J6_bitCount_0f7a4 c (N.1 36 1) N) fun r2 N1 => some (r2, N1)
  else if v1 = (5 : Int32) then some ((N.1 40 2), N) else if v1 = (6 : Int32) then some ((N.1 36 2), N) else if v1 = (7 : Int32) then
  some ((N.1 c 2), N) else if v1 = (8 : Int32) then some ((N.1 3 1), N) else some ((-1 : Int32), N))
def F_Hold_swap (c : Nat) (v0 : Nat) (v1 : Int32) (v2 : Int32) (N : hn) : Option hn :=
  hg (hn_ix 12 v1 = true) <| hl ((N.1 (v0 + 1) v1.toNatClampNeg) : Int32) fun x1 => hg (hn_ix 12 v2 = true) <|
  hl (hn_wI N (v0 + 1) v1.toNatClampNeg (N.1 (v0 + 1) v2.toNatClampNeg)) fun N2 => hg (hn_ix 12 v2 = true) <|
  hl (hn_wI N2 (v0 + 1) v2.toNatClampNeg x1) fun N3 => some N3
def F_Ps_exchange (c : Nat) (v1 : Int32) (v2 : Int32) (N : hn) : Option (Int32 × hn) :=
  hbN (F_Ps_canExchange c v1 v2 N) fun r2 N1 => (if r2 = 0 then some ((0 : Int32), N1) else hvN (F_Hold_swap c 36 v1 v2 N1) fun N3 =>
  hvN (F_History_note c v1 v2 N3) fun N4 => some ((1 : Int32), N4))
def B_Rents_fall_3 (c : Nat) (k16 : Nat → Int32 → Int32 → hn → Option hn) (v2 : Nat) (v3 : Int32) (v4 : Int32) (v6 : Int32) (N : hn) : Option hn :=
  hl ((v3 &&& (v6 ^^^ (-1 : Int32))) : Int32) fun x1 => k16 v2 x1 (v4 + (1 : Int32)) N
def B_Rents_fall_2 (c : Nat) (k16 : Nat → Int32 → Int32 → hn → Option hn) (k37 : Nat → Int32 → Int32 → Int32 → Int32 → Int32 → hn → Option hn) (v2 : Nat) (v3 : Int32) (v4 : Int32) (v5 : Int32) (v6 : Int32) (v7 : Int32) (N : hn) : Option hn :=
  (if (N.1 c 3) ≤ v7 then B_Rents_fall_3 c k16 v2 v3 v4 v6 N else (if (6 : Int32) ≤ v7 then B_Rents_fall_3 c k16 v2 v3 v4 v6 N
  else hbN (F_Hold_panesOf c v2 v7 N) fun r2 N1 => hl ((r2 &&& v3) : Int32) fun x3 => (if x3 = 0 then k37 v2 v3 v4 v5 v6 (v7 + (1 : Int32)) N1
  else hbN (F_Rents_givenBy c v5 x3 N1) fun r5 N4 => hg (hn_ix 6 v7 = true) <| (if (N4.1 (c + 3) v7.toNatClampNeg) ≤ r5 then
  k37 v2 v3 v4 v5 v6 (v7 + (1 : Int32)) N4 else hg (hn_ix 6 v7 = true) <| hl (hn_wI N4 46 v7.toNatClampNeg v4) fun N6 =>
  hl ((v6 ||| x3) : Int32) fun x7 => k37 v2 v3 v4 v5 x7 (v7 + (1 : Int32)) N6))))
def F_Rents_fall_2 (c : Nat) (k16 : Nat → Int32 → Int32 → hn → Option hn) (n : Nat) : Nat → Int32 → Int32 → Int32 → Int32 → Int32 → hn → Option hn := hm_it (B_Rents_fall_2 c k16) (fun _ _ _ _ _ _ _ => none) n
def B_Rents_fall_1 (c : Nat) (k16 : Nat → Int32 → Int32 → hn → Option hn) (v2 : Nat) (v3 : Int32) (v4 : Int32) (N : hn) : Option hn :=
  (if (6 : Int32) < v4 then some N else hbN (F_Rents_yearOf c v3 N) fun r2 N1 => F_Rents_fall_2 c k16 hN v2 v3 v4 r2 (0 : Int32) (0 : Int32) N1)
def F_Rents_fall_1 (c : Nat) (n : Nat) : Nat → Int32 → Int32 → hn → Option hn := hm_it (B_Rents_fall_1 c ) (fun _ _ _ _ => none) n
def F_Rents_fall (c : Nat) (v2 : Nat) (N : hn) : Option hn :=
  hvN (F_J7_fill_53178 c 46 (0 : Int32) N) fun N1 => hbN (F_Hold_lit c v2 N1) fun r3 N2 => F_Rents_fall_1 c hN v2 r3 (1 : Int32) N2
def B_Ps_fallen_1 (c : Nat) (k19 : Int32 → Int32 → hn → Option (Int32 × hn)) (v1 : Int32) (v2 : Int32) (N : hn) : Option (Int32 × hn) :=
  (if (6 : Int32) ≤ v2 then some (v1, N) else hg (hn_ix 6 v2 = true) <| (if (N.1 46 v2.toNatClampNeg) ≤ 0 then k19 v1 (v2 + (1 : Int32)) N
  else hl ((v1 ||| ((1 : Int32) <<< (v2 &&& 31))) : Int32) fun x1 => k19 x1 (v2 + (1 : Int32)) N))
def F_Ps_fallen_1 (c : Nat) (n : Nat) : Int32 → Int32 → hn → Option (Int32 × hn) := hm_it (B_Ps_fallen_1 c ) (fun _ _ _ => none) n
def F_Ps_fallen (c : Nat)  (N : hn) : Option (Int32 × hn) :=
  hvN (F_Rents_fall c 36 N) fun N1 => F_Ps_fallen_1 c hN (0 : Int32) (0 : Int32) N1
def F_Ps_falls (c : Nat) (v1 : Int32) (N : hn) : Option (Int32 × hn) :=
  hbN (F_Ps_isGuild c v1 N) fun r2 N1 => (if r2 = 0 then some ((-1 : Int32), N1) else hvN (F_Rents_fall c 36 N1) fun N3 => hg (hn_ix 6 v1 = true) <|
  some ((N3.1 46 v1.toNatClampNeg), N3))
def F_Tape_isFed (c : Nat) (v0 : Int32) (N : hn) : Option (Int32 × hn) :=
  (if v0 = (10 : Int32) then some ((1 : Int32), N) else (if v0 < (32 : Int32) then some ((0 : Int32), N) else (if (126 : Int32) < v0 then
  some ((0 : Int32), N) else some ((1 : Int32), N))))
def B_Tape_add_1 (c : Nat) (k3 : Int64 → Int32 → hn → Option hn) (v1 : Int64) (v3 : Int32) (N : hn) : Option hn :=
  (if v3 < 0 then some N else hl ((((v1.toUInt64 >>>
  (v3.toInt64.toUInt64 &&& Int64.toUInt64 63)).toInt64).toInt32 &&& (255 : Int32)) : Int32) fun x1 => hbN (F_Tape_isFed c x1 N) fun r3 N2 =>
  (if r3 = 0 then k3 v1 (v3 + (-8 : Int32)) N2 else (if (1000 : Int32) ≤ (N2.1 3 1) then k3 v1 (v3 + (-8 : Int32)) N2
  else hg (hn_ix 1000 (N2.1 3 1) = true) <| hl (hn_wI N2 4 (N2.1 3 1).toNatClampNeg (vp_nar .byte x1.toInt8.toInt32)) fun N4 =>
  hl (hn_wI N4 3 1 ((N4.1 3 1) + (1 : Int32))) fun N5 => k3 v1 (v3 + (-8 : Int32)) N5)))
def F_Tape_add_1 (c : Nat) (n : Nat) : Int64 → Int32 → hn → Option hn := hm_it (B_Tape_add_1 c ) (fun _ _ _ => none) n
def F_Tape_add (c : Nat) (v1 : Int64) (N : hn) : Option hn :=
  F_Tape_add_1 c hN v1 (56 : Int32) N
def F_Ps_feed (c : Nat) (v1 : Int64) (v3 : Int64) (v5 : Int64) (N : hn) : Option (Int32 × hn) :=
  hvN (F_Tape_add c v1 N) fun N1 => hvN (F_Tape_add c v3 N1) fun N2 => hvN (F_Tape_add c v5 N2) fun N3 => some ((N3.1 3 1), N3)
def F_Ps_gain (c : Nat) (v1 : Int32) (v2 : Int32) (N : hn) : Option (Int32 × hn) :=
  hbN (F_Ps_canExchange c v1 v2 N) fun r2 N1 => (if r2 = 0 then some ((-1 : Int32), N1) else hbN (F_Ps_yearNow c N1) fun r4 N3 =>
  hbN (F_Rents_gainOf c c 36 r4 v1 v2 N3) fun r6 N5 => some (r6, N5))
def F_Ps_guild (c : Nat) (v1 : Int32) (v2 : Int32) (N : hn) : Option (Int32 × hn) :=
  hbN (F_Ps_isGuild c v1 N) fun r2 N1 => (if r2 = 0 then some ((-1 : Int32), N1) else (if v2 = (0 : Int32) then hg (hn_ix 6 v1 = true) <|
  some ((N1.1 (c + 2) v1.toNatClampNeg), N1) else if v2 = (1 : Int32) then hg (hn_ix 6 v1 = true) <| some ((N1.1 (c + 3) v1.toNatClampNeg), N1)
  else if v2 = (2 : Int32) then hbN (F_Hold_panesOf c 36 v1 N1) fun r4 N3 => some (r4, N3) else some ((-1 : Int32), N1)))
def F_Ps_isStained (c : Nat) (v1 : Int32) (v2 : Int32) (v3 : Int32) (v4 : Int32) (N : hn) : Option (Int32 × hn) :=
  hbN (F_Ps_isTime c v1 v2 N) fun r2 N1 => (if r2 = 0 then some ((0 : Int32), N1) else (if v3 < (1 : Int32) then some ((0 : Int32), N1)
  else (if (6 : Int32) < v3 then some ((0 : Int32), N1) else (if (24 : Int32) < (v2 + v3) then some ((0 : Int32), N1) else (if v4 < 0 then
  some ((0 : Int32), N1) else (if ((1 : Int32) <<< (((3 : Int32) * v3) &&& 31)) ≤ v4 then some ((0 : Int32), N1) else some ((1 : Int32), N1)))))))
def B_Hold_copy_2 (c : Nat) (k52 : Nat → Nat → Int32 → hn → Option hn) (v0 : Nat) (v1 : Nat) (v2 : Int32) (N : hn) : Option hn :=
  (if (8 : Int32) ≤ v2 then some N else hg (hn_ix 8 v2 = true) <| hg (hn_ix 8 v2 = true) <|
  hl (hn_wI N (v0 + 2) v2.toNatClampNeg (N.1 (v1 + 2) v2.toNatClampNeg)) fun N1 => hg (hn_ix 8 v2 = true) <| hg (hn_ix 8 v2 = true) <|
  hl (hn_wI N1 (v0 + 3) v2.toNatClampNeg (N1.1 (v1 + 3) v2.toNatClampNeg)) fun N2 => k52 v0 v1 (v2 + (1 : Int32)) N2)
def F_Hold_copy_2 (c : Nat) (n : Nat) : Nat → Nat → Int32 → hn → Option hn := hm_it (B_Hold_copy_2 c ) (fun _ _ _ _ => none) n
def B_Hold_copy_1 (c : Nat) (k26 : Nat → Nat → Int32 → hn → Option hn) (v0 : Nat) (v1 : Nat) (v2 : Int32) (N : hn) : Option hn :=
  (if (12 : Int32) ≤ v2 then F_Hold_copy_2 c hN v0 v1 (0 : Int32) N else hg (hn_ix 12 v2 = true) <| hg (hn_ix 12 v2 = true) <|
  hl (hn_wI N (v0 + 1) v2.toNatClampNeg (N.1 (v1 + 1) v2.toNatClampNeg)) fun N1 => k26 v0 v1 (v2 + (1 : Int32)) N1)
def F_Hold_copy_1 (c : Nat) (n : Nat) : Nat → Nat → Int32 → hn → Option hn := hm_it (B_Hold_copy_1 c ) (fun _ _ _ _ => none) n
def F_Hold_copy (c : Nat) (v0 : Nat) (v1 : Nat) (N : hn) : Option hn :=
  hl (hn_wI N v0 5 (N.1 v1 5)) fun N1 => hl (hn_wI N1 v0 1 (N1.1 v1 1)) fun N2 => hl (hn_wI N2 v0 2 (N2.1 v1 2)) fun N3 =>
  F_Hold_copy_1 c hN v0 v1 (0 : Int32) N3
def F_Walk_passes (c : Nat) (v1 : Int32) (N : hn) : Option (Int32 × hn) :=
  hg (hn_ix 64 v1 = true) <| (if (N.1 56 v1.toNatClampNeg) ≤ 0 then some ((0 : Int32), N) else hg (hn_ix 64 v1 = true) <|
  (if (N.1 57 v1.toNatClampNeg) ≤ 0 then some ((0 : Int32), N) else some ((1 : Int32), N)))
def B_Hold_ownersOf_1 (c : Nat) (k4 : Nat → Int32 → Int32 → Int32 → hn → Option (Int32 × hn)) (v0 : Nat) (v1 : Int32) (v2 : Int32) (v3 : Int32) (N : hn) : Option (Int32 × hn) :=
  (if (N.1 v0 5) ≤ v3 then some (v2, N) else (if (12 : Int32) ≤ v3 then some (v2, N) else (if ((v1 >>>
  (v3 &&& 31)) &&& (1 : Int32)) = (1 : Int32) then hg (hn_ix 12 v3 = true) <|
  hl ((v2 ||| ((1 : Int32) <<< ((N.1 (v0 + 1) v3.toNatClampNeg) &&& 31))) : Int32) fun x1 => k4 v0 v1 x1 (v3 + (1 : Int32)) N
  else k4 v0 v1 v2 (v3 + (1 : Int32)) N)))
def F_Hold_ownersOf_1 (c : Nat) (n : Nat) : Nat → Int32 → Int32 → Int32 → hn → Option (Int32 × hn) := hm_it (B_Hold_ownersOf_1 c ) (fun _ _ _ _ _ => none) n
def F_Hold_ownersOf (c : Nat) (v0 : Nat) (v1 : Int32) (N : hn) : Option (Int32 × hn) :=
  F_Hold_ownersOf_1 c hN v0 v1 (0 : Int32) (0 : Int32) N
def B_Ps_ownersOnAll_1 (c : Nat) (k4 : Int32 → Int32 → hn → Option (Int32 × hn)) (v1 : Int32) (v2 : Int32) (N : hn) : Option (Int32 × hn) :=
  (if (64 : Int32) ≤ v2 then some (v1, N) else hbN (F_Walk_passes c v2 N) fun r2 N1 => (if r2 = 0 then k4 v1 (v2 + (1 : Int32)) N1
  else hbN (F_Hold_lit c 36 N1) fun r4 N3 => hbN (F_Light_panesOn c v2 r4 N3) fun r6 N5 => hbN (F_Hold_ownersOf c 36 r6 N5) fun r8 N7 =>
  hl ((v1 &&& r8) : Int32) fun x9 => k4 x9 (v2 + (1 : Int32)) N7))
def F_Ps_ownersOnAll_1 (c : Nat) (n : Nat) : Int32 → Int32 → hn → Option (Int32 × hn) := hm_it (B_Ps_ownersOnAll_1 c ) (fun _ _ _ => none) n
def F_Ps_ownersOnAll (c : Nat)  (N : hn) : Option (Int32 × hn) :=
  F_Ps_ownersOnAll_1 c hN (-1 : Int32) (0 : Int32) N
def B_Ps_ownersOnSome_2 (c : Nat) (k4 : Int32 → Int32 → hn → Option (Int32 × hn)) (v2 : Int32) (s0 : Int32) (N : hn) : Option (Int32 × hn) :=
  k4 s0 (v2 + (1 : Int32)) N
def B_Ps_ownersOnSome_1 (c : Nat) (k4 : Int32 → Int32 → hn → Option (Int32 × hn)) (v1 : Int32) (v2 : Int32) (N : hn) : Option (Int32 × hn) :=
  (if (64 : Int32) ≤ v2 then some (v1, N) else hbN (F_Walk_passes c v2 N) fun r2 N1 => (if r2 = 0 then k4 v1 (v2 + (1 : Int32)) N1
  else hbN (F_Hold_lit c 36 N1) fun r4 N3 => hbN (F_Light_panesOn c v2 r4 N3) fun r6 N5 => hbN (F_Hold_ownersOf c 36 r6 N5) fun r8 N7 =>
  (if v1 = (-1 : Int32) then B_Ps_ownersOnSome_2 c k4 v2 r8 N7 else B_Ps_ownersOnSome_2 c k4 v2 (v1 ||| r8) N7)))
def F_Ps_ownersOnSome_1 (c : Nat) (n : Nat) : Int32 → Int32 → hn → Option (Int32 × hn) := hm_it (B_Ps_ownersOnSome_1 c ) (fun _ _ _ => none) n
def F_Ps_ownersOnSome (c : Nat)  (N : hn) : Option (Int32 × hn) :=
  F_Ps_ownersOnSome_1 c hN (-1 : Int32) (0 : Int32) N
def F_Ps_pane (c : Nat) (v1 : Int32) (v2 : Int32) (N : hn) : Option (Int32 × hn) :=
  hbN (F_Ps_isPane c v1 N) fun r2 N1 => (if r2 = 0 then some ((-1 : Int32), N1) else (if v2 = (0 : Int32) then hg (hn_ix 12 v1 = true) <|
  some ((N1.1 (c + 4) v1.toNatClampNeg), N1) else if v2 = (1 : Int32) then hg (hn_ix 12 v1 = true) <| some ((N1.1 (c + 5) v1.toNatClampNeg), N1)
  else if v2 = (2 : Int32) then hg (hn_ix 12 v1 = true) <| some ((N1.1 (36 + 1) v1.toNatClampNeg), N1) else if v2 = (3 : Int32) then
  hg (hn_ix 12 v1 = true) <| some ((N1.1 (c + 7) v1.toNatClampNeg), N1) else if v2 = (4 : Int32) then hbN (F_Hold_isBroken c 36 v1 N1) fun r4 N3 =>
  (if r4 = 0 then some ((0 : Int32), N3) else some ((1 : Int32), N3)) else some ((-1 : Int32), N1)))
def F_Ps_place (c : Nat) (v1 : Int32) (v2 : Int32) (v3 : Int32) (v4 : Int32) (v5 : Int32) (N : hn) : Option (Int32 × hn) :=
  hbN (F_Chapel_hasPlace c c v1 v2 N) fun r2 N1 => (if r2 = 0 then some ((-1 : Int32), N1) else hbN (F_Ps_isTime c v3 v4 N1) fun r4 N3 =>
  (if r4 = 0 then some ((-1 : Int32), N3) else hbN (F_Ps_timeOf c v3 v4 N3) fun r6 N5 => hvN (F_Light_turnTo c r6 N5) fun N7 =>
  hbN (F_Ps_placeOf c v1 v2 N7) fun r9 N8 => hbN (F_Hold_lit c 36 N8) fun r11 N10 => hbN (F_Light_panesOn c r9 r11 N10) fun r13 N12 =>
  (if v5 = (0 : Int32) then hbN (F_Hold_ownersOf c 36 r13 N12) fun r15 N14 => some (r15, N14) else if v5 = (1 : Int32) then
  hbN (F_Chapel_colourOf c c r13 N12) fun r17 N16 => some (r17, N16) else if v5 = (2 : Int32) then hbN (F_J6_bitCount_0f7a4 c r13 N12) fun r19 N18 =>
  some (r19, N18) else some ((-1 : Int32), N12))))
def F_Ps_rents (c : Nat) (v1 : Int32) (N : hn) : Option (Int32 × hn) :=
  hbN (F_Ps_isGuild c v1 N) fun r2 N1 => (if r2 = 0 then some ((-1 : Int32), N1) else hbN (F_Ps_yearNow c N1) fun r4 N3 =>
  hbN (F_Hold_panesOf c 36 v1 N3) fun r6 N5 => hbN (F_Rents_givenBy c r4 r6 N5) fun r8 N7 => some (r8, N7))
def F_Hold_keepSeen (c : Nat) (v0 : Nat) (v1 : Int32) (v2 : Int32) (N : hn) : Option (Int32 × hn) :=
  (if (N.1 v0 2) < (8 : Int32) then hg (hn_ix 8 (N.1 v0 2) = true) <| hl (hn_wI N (v0 + 2) (N.1 v0 2).toNatClampNeg v1) fun N1 =>
  hg (hn_ix 8 (N1.1 v0 2) = true) <| hl (hn_wI N1 (v0 + 3) (N1.1 v0 2).toNatClampNeg v2) fun N2 =>
  hl (hn_wI N2 v0 2 ((N2.1 v0 2) + (1 : Int32))) fun N3 => some ((N3.1 v0 2), N3) else some ((-1 : Int32), N))
def F_Ps_see (c : Nat) (v1 : Int32) (v2 : Int32) (v3 : Int32) (N : hn) : Option (Int32 × hn) :=
  hbN (F_Chapel_hasPlace c c v1 v2 N) fun r2 N1 => (if r2 = 0 then some ((-1 : Int32), N1) else (if v3 < 0 then some ((-1 : Int32), N1)
  else (if v3 ≤ (7 : Int32) then hbN (F_Ps_placeOf c v1 v2 N1) fun r4 N3 => hbN (F_Hold_keepSeen c 36 r4 v3 N3) fun r6 N5 => some (r6, N5)
  else some ((-1 : Int32), N1))))
def F_Ps_spot (c : Nat) (v1 : Int32) (v2 : Int32) (v3 : Int32) (N : hn) : Option (Int32 × hn) :=
  hbN (F_Ps_isPane c v1 N) fun r2 N1 => (if r2 = 0 then some ((-1 : Int32), N1) else hbN (F_Ps_isTime c v2 v3 N1) fun r4 N3 => (if r4 = 0 then
  some ((-1 : Int32), N3) else hbN (F_Hold_isBroken c 36 v1 N3) fun r6 N5 => (if r6 = 0 then hbN (F_Ps_timeOf c v2 v3 N5) fun r8 N7 =>
  hvN (F_Light_turnTo c r8 N7) fun N9 => hg (hn_ix 12 v1 = true) <| some ((N9.1 34 v1.toNatClampNeg), N9) else some ((-1 : Int32), N5))))
def B_Walk_keepColoured_2 (c : Nat) (k22 : Int32 → Nat → Int32 → Int32 → hn → Option hn) (v1 : Int32) (v5 : Nat) (v6 : Int32) (v7 : Int32) (N : hn) : Option hn :=
  hg (hm_ib S0 v5 .int v7 = true) <| hl (hn_wI N v5 v7.toNatClampNeg (0 : Int32)) fun N1 => k22 v1 v5 v6 (v7 + (1 : Int32)) N1
def B_Walk_keepColoured_1 (c : Nat) (k22 : Int32 → Nat → Int32 → Int32 → hn → Option hn) (v1 : Int32) (v5 : Nat) (v6 : Int32) (v7 : Int32) (N : hn) : Option hn :=
  (if (64 : Int32) ≤ v7 then some N else hbN (F_Chapel_hasPlace c c (v7 - v7 / (8 : Int32) * (8 : Int32)) (v7 / (8 : Int32)) N) fun r2 N1 =>
  (if r2 = 0 then B_Walk_keepColoured_2 c k22 v1 v5 v6 v7 N1 else hbN (F_Light_colourOn c v7 v1 N1) fun r4 N3 => (if r4 = v6 then
  k22 v1 v5 v6 (v7 + (1 : Int32)) N3 else B_Walk_keepColoured_2 c k22 v1 v5 v6 v7 N3)))
def F_Walk_keepColoured_1 (c : Nat) (n : Nat) : Int32 → Nat → Int32 → Int32 → hn → Option hn := hm_it (B_Walk_keepColoured_1 c ) (fun _ _ _ _ _ => none) n
def F_Walk_keepColoured (c : Nat) (v1 : Int32) (v2 : Int32) (v3 : Int32) (v4 : Int32) (v5 : Nat) (N : hn) : Option hn :=
  hvN (F_Light_turnTo c (v2 + v4) N) fun N1 => hl (((v3 >>> (((3 : Int32) * v4) &&& 31)) &&& (7 : Int32)) : Int32) fun x2 =>
  F_Walk_keepColoured_1 c hN v1 v5 x2 (0 : Int32) N1
def B_Walk_waysAround_4 (c : Nat) (s0 : Int32) (s1 : Int32) (N : hn) : Option (Int32 × hn) :=
  hl ((s1 + s0) : Int32) fun x1 => some (x1, N)
def B_Walk_waysAround_3 (c : Nat) (v0 : Nat) (v1 : Int32) (s0 : Int32) (s1 : Int32) (N : hn) : Option (Int32 × hn) :=
  hl ((s1 + s0) : Int32) fun x1 => (if (56 : Int32) ≤ v1 then B_Walk_waysAround_4 c (0 : Int32) x1 N
  else hg (hm_ib S0 v0 .int (v1 + (8 : Int32)) = true) <| B_Walk_waysAround_4 c (N.1 v0 (v1 + (8 : Int32)).toNatClampNeg) x1 N)
def B_Walk_waysAround_2 (c : Nat) (v0 : Nat) (v1 : Int32) (s0 : Int32) (s1 : Int32) (N : hn) : Option (Int32 × hn) :=
  hl ((s1 + s0) : Int32) fun x1 => (if v1 < (8 : Int32) then B_Walk_waysAround_3 c v0 v1 (0 : Int32) x1 N
  else hg (hm_ib S0 v0 .int (v1 - (8 : Int32)) = true) <| B_Walk_waysAround_3 c v0 v1 (N.1 v0 (v1 - (8 : Int32)).toNatClampNeg) x1 N)
def B_Walk_waysAround_1 (c : Nat) (v0 : Nat) (v1 : Int32) (s0 : Int32) (s1 : Int32) (N : hn) : Option (Int32 × hn) :=
  hl ((s1 + s0) : Int32) fun x1 => (if (7 : Int32) ≤ (v1 - v1 / (8 : Int32) * (8 : Int32)) then B_Walk_waysAround_2 c v0 v1 (0 : Int32) x1 N
  else hg (hm_ib S0 v0 .int (v1 + (1 : Int32)) = true) <| B_Walk_waysAround_2 c v0 v1 (N.1 v0 (v1 + (1 : Int32)).toNatClampNeg) x1 N)
def F_Walk_waysAround (c : Nat) (v0 : Nat) (v1 : Int32) (N : hn) : Option (Int32 × hn) :=
  hg (hm_ib S0 v0 .int v1 = true) <| hl ((N.1 v0 v1.toNatClampNeg) : Int32) fun x1 => (if (v1 - v1 / (8 : Int32) * (8 : Int32)) ≤ 0 then
  B_Walk_waysAround_1 c v0 v1 (0 : Int32) x1 N else hg (hm_ib S0 v0 .int (v1 - (1 : Int32)) = true) <|
  B_Walk_waysAround_1 c v0 v1 (N.1 v0 (v1 - (1 : Int32)).toNatClampNeg) x1 N)
def B_Walk_go_3 (c : Nat) (k35 : Int32 → Int32 → Int32 → Int32 → Int32 → Nat → Int32 → Int32 → hn → Option hn) (k51 : Int32 → Int32 → Int32 → Int32 → Int32 → Nat → Int32 → Int32 → Int32 → hn → Option hn) (v2 : Int32) (v3 : Int32) (v4 : Int32) (v5 : Int32) (v6 : Int32) (v7 : Nat) (v8 : Int32) (v9 : Int32) (v10 : Int32) (N : hn) : Option hn :=
  (if (64 : Int32) ≤ v10 then hg (hm_cpok S0 58 (0 : Int32) v7 (0 : Int32) (64 : Int32) = true) <|
  hl (hn_cp N 58 (0 : Int32) v7 (0 : Int32) (64 : Int32)) fun N1 => hvN (F_Walk_keepColoured c v2 v3 v4 (v5 + (v9 * v8)) v7 N1) fun N2 =>
  k35 v2 v3 v4 v5 v6 v7 v8 (v9 + (1 : Int32)) N2 else hbN (F_Walk_waysAround c v7 v10 N) fun r4 N3 => hg (hn_ix 64 v10 = true) <|
  hl (hn_wI N3 58 v10.toNatClampNeg r4) fun N5 => k51 v2 v3 v4 v5 v6 v7 v8 v9 (v10 + (1 : Int32)) N5)
def F_Walk_go_3 (c : Nat) (k35 : Int32 → Int32 → Int32 → Int32 → Int32 → Nat → Int32 → Int32 → hn → Option hn) (n : Nat) : Int32 → Int32 → Int32 → Int32 → Int32 → Nat → Int32 → Int32 → Int32 → hn → Option hn := hm_it (B_Walk_go_3 c k35) (fun _ _ _ _ _ _ _ _ _ _ => none) n
def B_Walk_go_2 (c : Nat) (k35 : Int32 → Int32 → Int32 → Int32 → Int32 → Nat → Int32 → Int32 → hn → Option hn) (v2 : Int32) (v3 : Int32) (v4 : Int32) (v5 : Int32) (v6 : Int32) (v7 : Nat) (v8 : Int32) (v9 : Int32) (N : hn) : Option hn :=
  (if (hm_abs (v6 - v5)) < v9 then some N else F_Walk_go_3 c k35 hN v2 v3 v4 v5 v6 v7 v8 v9 (0 : Int32) N)
def F_Walk_go_2 (c : Nat) (n : Nat) : Int32 → Int32 → Int32 → Int32 → Int32 → Nat → Int32 → Int32 → hn → Option hn := hm_it (B_Walk_go_2 c ) (fun _ _ _ _ _ _ _ _ _ => none) n
def B_Walk_go_1 (c : Nat) (v2 : Int32) (v3 : Int32) (v4 : Int32) (v5 : Int32) (v6 : Int32) (v7 : Nat) (s0 : Int32) (N : hn) : Option hn :=
  hvN (F_J7_fill_53178 c v7 (1 : Int32) N) fun N1 => hvN (F_Walk_keepColoured c v2 v3 v4 v5 v7 N1) fun N2 =>
  F_Walk_go_2 c hN v2 v3 v4 v5 v6 v7 s0 (1 : Int32) N2
def F_Walk_go (c : Nat) (v2 : Int32) (v3 : Int32) (v4 : Int32) (v5 : Int32) (v6 : Int32) (v7 : Nat) (N : hn) : Option hn :=
  (if v6 < v5 then B_Walk_go_1 c v2 v3 v4 v5 v6 v7 (-1 : Int32) N else B_Walk_go_1 c v2 v3 v4 v5 v6 v7 (1 : Int32) N)
def B_Walk_rowsOf_1 (c : Nat) (k24 : Int32 → Int32 → hn → Option (Int32 × hn)) (v6 : Int32) (v7 : Int32) (N : hn) : Option (Int32 × hn) :=
  (if (64 : Int32) ≤ v7 then some (v6, N) else hg (hn_ix 64 v7 = true) <| hl ((v6 + (N.1 56 v7.toNatClampNeg)) : Int32) fun x1 =>
  k24 x1 (v7 + (1 : Int32)) N)
def F_Walk_rowsOf_1 (c : Nat) (n : Nat) : Int32 → Int32 → hn → Option (Int32 × hn) := hm_it (B_Walk_rowsOf_1 c ) (fun _ _ _ => none) n
def F_Walk_rowsOf (c : Nat) (v2 : Int32) (v3 : Int32) (v4 : Int32) (v5 : Int32) (N : hn) : Option (Int32 × hn) :=
  hvN (F_Walk_go c v2 v3 v5 (0 : Int32) (v4 - (1 : Int32)) 56 N) fun N1 => F_Walk_rowsOf_1 c hN (0 : Int32) (0 : Int32) N1
def F_Ps_stains (c : Nat) (v1 : Int32) (v2 : Int32) (v3 : Int32) (v4 : Int32) (N : hn) : Option (Int32 × hn) :=
  hbN (F_Ps_isStained c v1 v2 v3 v4 N) fun r2 N1 => (if r2 = 0 then some ((-1 : Int32), N1) else hbN (F_Hold_lit c 36 N1) fun r4 N3 =>
  hbN (F_Ps_timeOf c v1 v2 N3) fun r6 N5 => hbN (F_Walk_rowsOf c r4 r6 v3 v4 N5) fun r8 N7 => some (r8, N7))
def F_Ps_stall (c : Nat) (v1 : Int32) (v2 : Int32) (v3 : Int32) (v4 : Int32) (v5 : Int32) (N : hn) : Option (Int32 × hn) :=
  hbN (F_Ps_isGuild c v1 N) fun r2 N1 => (if r2 = 0 then some ((-1 : Int32), N1) else hbN (F_Ps_isTime c v2 v3 N1) fun r4 N3 => (if r4 = 0 then
  some ((-1 : Int32), N3) else hbN (F_Ps_isTime c v2 v4 N3) fun r6 N5 => (if r6 = 0 then some ((-1 : Int32), N5) else (if v3 ≤ v4 then
  hl (((v4 - v3) + (1 : Int32)) : Int32) fun x7 => (if v5 < (-1 : Int32) then some ((-1 : Int32), N5) else (if v5 < x7 then
  hbN (F_Hold_panesOf c 36 v1 N5) fun r9 N8 => hbN (F_Hold_lit c 36 N8) fun r11 N10 => hbN (F_Ps_timeOf c v2 v3 N10) fun r13 N12 =>
  hvN (F_Way_find c (r9 &&& r11) r13 x7 N12) fun N14 => (if v5 = (-1 : Int32) then some ((N14.1 51 3), N14) else hg (hn_ix 24 v5 = true) <|
  some ((N14.1 54 v5.toNatClampNeg), N14)) else some ((-1 : Int32), N5))) else some ((-1 : Int32), N5)))))
def F_Walk_meet (c : Nat) (v2 : Int32) (v3 : Int32) (v4 : Int32) (v5 : Int32) (v6 : Int32) (N : hn) : Option hn :=
  hvN (F_Walk_go c v2 v3 v5 (v4 - (1 : Int32)) v6 57 N) fun N1 => hvN (F_Walk_go c v2 v3 v5 (0 : Int32) v6 56 N1) fun N2 => some N2
def F_Ps_stood (c : Nat) (v1 : Int32) (v2 : Int32) (v3 : Int32) (v4 : Int32) (v5 : Int32) (v6 : Int32) (N : hn) : Option (Int32 × hn) :=
  hbN (F_Ps_isStained c v1 v2 v3 v4 N) fun r2 N1 => (if r2 = 0 then some ((-1 : Int32), N1) else (if v5 < 0 then some ((-1 : Int32), N1)
  else (if v5 < v3 then hbN (F_Hold_lit c 36 N1) fun r4 N3 => hbN (F_Ps_timeOf c v1 v2 N3) fun r6 N5 =>
  hvN (F_Walk_meet c r4 r6 v3 v4 v5 N5) fun N7 => (if v6 = 0 then hbN (F_Ps_ownersOnAll c N7) fun r9 N8 => some (r9, N8)
  else hbN (F_Ps_ownersOnSome c N7) fun r11 N10 => some (r11, N10)) else some ((-1 : Int32), N1))))
def F_History_takeBack (c : Nat) (v1 : Nat) (N : hn) : Option (Int32 × hn) :=
  (if (N.1 40 2) = 0 then some ((0 : Int32), N) else hl (hn_wI N 40 2 ((N.1 40 2) - (1 : Int32))) fun N1 =>
  hl (hn_wI N1 40 3 ((((N1.1 40 3) + (20 : Int32)) - (1 : Int32)) - (((N1.1 40 3) + (20 : Int32)) - (1 : Int32)) / (20 : Int32) * (20 : Int32))) fun N2 =>
  hg (hn_ix 20 (N2.1 40 3) = true) <| (if (N2.1 42 (N2.1 40 3).toNatClampNeg) = (-1 : Int32) then hg (hn_ix 20 (N2.1 40 3) = true) <|
  hvN (F_Hold_turn c v1 (N2.1 41 (N2.1 40 3).toNatClampNeg) N2) fun N4 => some ((1 : Int32), N4) else hg (hn_ix 20 (N2.1 40 3) = true) <|
  hvN (F_Hold_swap c v1 (N2.1 41 (N2.1 40 3).toNatClampNeg) (N2.1 42 (N2.1 40 3).toNatClampNeg) N2) fun N3 => some ((1 : Int32), N3)))
def F_Ps_undo (c : Nat)  (N : hn) : Option (Int32 × hn) :=
  hbN (F_History_takeBack c 36 N) fun r2 N1 => hg (r2 = 0 ∨ r2 = 1) <| some (r2, N1)
def B_Ps_when_2 (c : Nat) (k22 : Int32 → Int32 → Int32 → Int32 → Int32 → hn → Option (Int32 × hn)) (v1 : Int32) (v2 : Int32) (v3 : Int32) (v4 : Int32) (v5 : Int32) (v6 : Int32) (N : hn) : Option (Int32 × hn) :=
  (if v6 = v3 then k22 v1 v2 v3 (v4 + (1 : Int32)) (v5 + (1 : Int32)) N else k22 v1 v2 v3 v4 (v5 + (1 : Int32)) N)
def B_Ps_when_1 (c : Nat) (k22 : Int32 → Int32 → Int32 → Int32 → Int32 → hn → Option (Int32 × hn)) (v1 : Int32) (v2 : Int32) (v3 : Int32) (v4 : Int32) (v5 : Int32) (N : hn) : Option (Int32 × hn) :=
  (if (1248 : Int32) ≤ v5 then (if v1 = 0 then some (v2, N) else (if v1 = (1 : Int32) then some (v3, N) else some (v4, N)))
  else hbN (F_Ps_candlesAt c v5 N) fun r2 N1 => (if v3 ≤ r2 then B_Ps_when_2 c k22 v1 v2 v3 v4 v5 r2 N1
  else B_Ps_when_2 c k22 v1 v5 r2 (0 : Int32) v5 r2 N1))
def F_Ps_when_1 (c : Nat) (n : Nat) : Int32 → Int32 → Int32 → Int32 → Int32 → hn → Option (Int32 × hn) := hm_it (B_Ps_when_1 c ) (fun _ _ _ _ _ _ => none) n
def F_Ps_when (c : Nat) (v1 : Int32) (N : hn) : Option (Int32 × hn) :=
  (if v1 < 0 then some ((-1 : Int32), N) else (if v1 ≤ (2 : Int32) then F_Ps_when_1 c hN v1 (0 : Int32) (9 : Int32) (0 : Int32) (0 : Int32) N
  else some ((-1 : Int32), N)))
def F_Ps_worth (c : Nat) (v1 : Int32) (v2 : Int32) (N : hn) : Option (Int32 × hn) :=
  hbN (F_Ps_isGuild c v1 N) fun r2 N1 => (if r2 = 0 then some ((-1 : Int32), N1) else hbN (F_Ps_isPane c v2 N1) fun r4 N3 => (if r4 = 0 then
  some ((-1 : Int32), N3) else hbN (F_Ps_yearNow c N3) fun r6 N5 => hbN (F_Rents_worthTo c c r6 v1 v2 N5) fun r8 N7 => some (r8, N7)))
def F_Ps_yields (c : Nat) (v1 : Int32) (N : hn) : Option (Int32 × hn) :=
  hbN (F_Ps_isPane c v1 N) fun r2 N1 => (if r2 = 0 then some ((-1 : Int32), N1) else hbN (F_Ps_yearNow c N1) fun r4 N3 =>
  hbN (F_Rents_given c r4 v1 N3) fun r6 N5 => some (r6, N5))
def F_Md_both (c : Nat) (v0 : Int32) (v1 : Int32) (v2 : Int32) (N : hn) : Option (Int32 × hn) :=
  (if v0 = (4 : Int32) then some ((v1 + v2), N) else if v0 = (5 : Int32) then some ((v1 - v2), N) else if v0 = (6 : Int32) then some ((v1 * v2), N)
  else if v0 = (7 : Int32) then (if v2 ≤ v1 then some ((0 : Int32), N) else some ((1 : Int32), N)) else if v0 = (8 : Int32) then (if v1 = v2 then
  some ((1 : Int32), N) else some ((0 : Int32), N)) else if v0 = (9 : Int32) then (if v1 = 0 then some ((0 : Int32), N) else (if v2 = 0 then
  some ((0 : Int32), N) else some ((1 : Int32), N))) else (if v1 = 0 then (if v2 = 0 then some ((0 : Int32), N) else some ((1 : Int32), N))
  else some ((1 : Int32), N)))
def B_Md_worthAt_4 (c : Nat) (k4 : Int32 → Int32 → hn → Option (Int32 × hn)) (v2 : Int32) (v3 : Int32) (s0 : Int32) (s1 : Int32) (N : hn) : Option (Int32 × hn) :=
  hg (hn_ix 1100 s1 = true) <| hl (hn_wI N 87 s1.toNatClampNeg s0) fun N1 => k4 v2 (v3 + (1 : Int32)) N1
def B_Md_worthAt_3 (c : Nat) (k4 : Int32 → Int32 → hn → Option (Int32 × hn)) (v2 : Int32) (v3 : Int32) (s0 : Int32) (s1 : Int32) (N : hn) : Option (Int32 × hn) :=
  hg (hn_ix 1100 s1 = true) <| hl (hn_wI N 87 s1.toNatClampNeg s0) fun N1 => k4 (v2 + (1 : Int32)) (v3 + (1 : Int32)) N1
def B_Md_worthAt_2 (c : Nat) (k4 : Int32 → Int32 → hn → Option (Int32 × hn)) (v2 : Int32) (v3 : Int32) (v4 : Int32) (N : hn) : Option (Int32 × hn) :=
  (if v4 = (1 : Int32) then hg (hn_ix 2200 v3 = true) <| B_Md_worthAt_3 c k4 v2 v3 (N.1 84 v3.toNatClampNeg) v2 N else hg (hn_ix 2200 v3 = true) <|
  hg (hn_ix 7 (N.1 84 v3.toNatClampNeg) = true) <| B_Md_worthAt_3 c k4 v2 v3 (N.1 86 (N.1 84 v3.toNatClampNeg).toNatClampNeg) v2 N)
def B_Md_worthAt_1 (c : Nat) (k4 : Int32 → Int32 → hn → Option (Int32 × hn)) (v2 : Int32) (v3 : Int32) (N : hn) : Option (Int32 × hn) :=
  hg (hn_ix 2200 v3 = true) <| (if (N.1 83 v3.toNatClampNeg) = 0 then hg (hn_ix 1100 (0 : Int32) = true) <|
  some ((N.1 87 (0 : Int32).toNatClampNeg), N) else hl ((N.1 83 v3.toNatClampNeg) : Int32) fun x1 => (if x1 = (1 : Int32) then
  B_Md_worthAt_2 c k4 v2 v3 x1 N else (if x1 = (2 : Int32) then B_Md_worthAt_2 c k4 v2 v3 x1 N else (if x1 = (3 : Int32) then
  hg (hn_ix 1100 (v2 - (1 : Int32)) = true) <| (if (N.1 87 (v2 - (1 : Int32)).toNatClampNeg) = 0 then
  B_Md_worthAt_4 c k4 v2 v3 (1 : Int32) (v2 - (1 : Int32)) N else B_Md_worthAt_4 c k4 v2 v3 (0 : Int32) (v2 - (1 : Int32)) N)
  else hg (hn_ix 1100 ((v2 + (-1 : Int32)) - (1 : Int32)) = true) <| hg (hn_ix 1100 (v2 + (-1 : Int32)) = true) <|
  hbN (F_Md_both c x1 (N.1 87 ((v2 + (-1 : Int32)) - (1 : Int32)).toNatClampNeg) (N.1 87 (v2 + (-1 : Int32)).toNatClampNeg) N) fun r3 N2 =>
  hl (hn_wI N2 87 ((v2 + (-1 : Int32)) - (1 : Int32)).toNatClampNeg r3) fun N4 => k4 (v2 + (-1 : Int32)) (v3 + (1 : Int32)) N4))))
def F_Md_worthAt_1 (c : Nat) (n : Nat) : Int32 → Int32 → hn → Option (Int32 × hn) := hm_it (B_Md_worthAt_1 c ) (fun _ _ _ => none) n
def F_Md_worthAt (c : Nat) (v1 : Int32) (N : hn) : Option (Int32 × hn) :=
  F_Md_worthAt_1 c hN (0 : Int32) v1 N
def F_Md_isDark (c : Nat) (v1 : Int32) (v2 : Int32) (N : hn) : Option (Int32 × hn) :=
  hg (hn_ix 7 (0 : Int32) = true) <| hl (hn_wI N 86 (0 : Int32).toNatClampNeg v1) fun N1 => hg (hn_ix 7 (1 : Int32) = true) <|
  hl (hn_wI N1 86 (1 : Int32).toNatClampNeg v2) fun N2 => hg (hn_ix 160 (67 : Int32) = true) <| (if 0 ≤ (N2.1 82 (67 : Int32).toNatClampNeg) then
  hbN (F_Md_worthAt c (N2.1 82 (67 : Int32).toNatClampNeg) N2) fun r4 N3 => (if r4 = 0 then some ((0 : Int32), N3) else some ((1 : Int32), N3))
  else (if v2 < (6 : Int32) then some ((1 : Int32), N2) else (if v2 ≤ (18 : Int32) then some ((0 : Int32), N2) else some ((1 : Int32), N2))))
def F_Md_panes (c : Nat)  (N : hn) : Option (Int32 × hn) :=
  hg (hn_ix 160 (4 : Int32) = true) <| some ((N.1 82 (4 : Int32).toNatClampNeg), N)
def F_Md_isBroken (c : Nat) (v1 : Int32) (N : hn) : Option (Int32 × hn) :=
  hg (hn_ix 1000 (12 : Int32) = true) <| (if (((N.1 88 (12 : Int32).toNatClampNeg) >>> (v1 &&& 31)) &&& (1 : Int32)) = (1 : Int32) then
  some ((1 : Int32), N) else some ((0 : Int32), N))
def F_Md_ownerOf (c : Nat) (v1 : Int32) (N : hn) : Option (Int32 × hn) :=
  hg (hn_ix 1000 ((0 : Int32) + v1) = true) <| some ((N.1 88 ((0 : Int32) + v1).toNatClampNeg), N)
def F_Md_paneOf (c : Nat) (v1 : Int32) (v2 : Int32) (N : hn) : Option (Int32 × hn) :=
  hg (hn_ix 160 (((17 : Int32) + ((4 : Int32) * v1)) + v2) = true) <| some ((N.1 82 (((17 : Int32) + ((4 : Int32) * v1)) + v2).toNatClampNeg), N)
def F_Md_isOn (c : Nat) (v1 : Int32) (v2 : Int32) (N : hn) : Option (Int32 × hn) :=
  (if v1 < 0 then some ((0 : Int32), N) else hg (hn_ix 160 (0 : Int32) = true) <| (if (N.1 82 (0 : Int32).toNatClampNeg) ≤ v1 then
  some ((0 : Int32), N) else (if v2 < 0 then some ((0 : Int32), N) else hg (hn_ix 160 (1 : Int32) = true) <|
  (if (N.1 82 (1 : Int32).toNatClampNeg) ≤ v2 then some ((0 : Int32), N) else some ((1 : Int32), N)))))
def B_Md_findLight_4 (c : Nat) (k10 : Int32 → Int32 → Int32 → Int32 → hn → Option hn) (v1 : Int32) (v2 : Int32) (v3 : Int32) (v4 : Int32) (s0 : Int32) (s1 : Int32) (N : hn) : Option hn :=
  hg (hn_ix 12 s1 = true) <| hl (hn_wI N 90 s1.toNatClampNeg s0) fun N1 => k10 v1 v2 v3 (v4 + (1 : Int32)) N1
def B_Md_findLight_3 (c : Nat) (k10 : Int32 → Int32 → Int32 → Int32 → hn → Option hn) (v1 : Int32) (v2 : Int32) (v3 : Int32) (v4 : Int32) (v5 : Int32) (s0 : Int32) (N : hn) : Option hn :=
  hbN (F_Md_isOn c v5 s0 N) fun r2 N1 => (if r2 = 0 then B_Md_findLight_4 c k10 v1 v2 v3 v4 (-1 : Int32) v4 N1
  else B_Md_findLight_4 c k10 v1 v2 v3 v4 (((8 : Int32) * s0) + v5) v4 N1)
def B_Md_findLight_2 (c : Nat) (k10 : Int32 → Int32 → Int32 → Int32 → hn → Option hn) (v1 : Int32) (v2 : Int32) (v3 : Int32) (v4 : Int32) (s0 : Int32) (s1 : Int32) (N : hn) : Option hn :=
  hl ((s1 + s0) : Int32) fun x1 => hg (hn_ix 160 (66 : Int32) = true) <| (if 0 ≤ (N.1 82 (66 : Int32).toNatClampNeg) then
  hbN (F_Md_worthAt c (N.1 82 (66 : Int32).toNatClampNeg) N) fun r3 N2 => B_Md_findLight_3 c k10 v1 v2 v3 v4 x1 r3 N2
  else hbN (F_Md_paneOf c v4 (1 : Int32) N) fun r5 N4 => B_Md_findLight_3 c k10 v1 v2 v3 v4 x1 r5 N4)
def B_Md_findLight_1 (c : Nat) (k10 : Int32 → Int32 → Int32 → Int32 → hn → Option hn) (v1 : Int32) (v2 : Int32) (v3 : Int32) (v4 : Int32) (N : hn) : Option hn :=
  hbN (F_Md_panes c N) fun r2 N1 => (if r2 ≤ v4 then some N1 else hg (hn_ix 12 v4 = true) <| hl (hn_wI N1 90 v4.toNatClampNeg (-1 : Int32)) fun N3 =>
  (if v3 = 0 then hbN (F_Md_isBroken c v4 N3) fun r5 N4 => (if r5 = 0 then hbN (F_Md_ownerOf c v4 N4) fun r7 N6 => (if (((N4.1 76 23) >>>
  (r7 &&& 31)) &&& (1 : Int32)) = 0 then hg (hn_ix 7 (0 : Int32) = true) <| hl (hn_wI N6 86 (0 : Int32).toNatClampNeg v1) fun N8 =>
  hg (hn_ix 7 (1 : Int32) = true) <| hl (hn_wI N8 86 (1 : Int32).toNatClampNeg v2) fun N9 => hbN (F_Md_paneOf c v4 (0 : Int32) N9) fun r11 N10 =>
  hg (hn_ix 7 (2 : Int32) = true) <| hl (hn_wI N10 86 (2 : Int32).toNatClampNeg r11) fun N12 => hbN (F_Md_paneOf c v4 (1 : Int32) N12) fun r14 N13 =>
  hg (hn_ix 7 (3 : Int32) = true) <| hl (hn_wI N13 86 (3 : Int32).toNatClampNeg r14) fun N15 => hbN (F_Md_paneOf c v4 (0 : Int32) N15) fun r17 N16 =>
  hg (hn_ix 160 (65 : Int32) = true) <| (if 0 ≤ (N16.1 82 (65 : Int32).toNatClampNeg) then
  hbN (F_Md_worthAt c (N16.1 82 (65 : Int32).toNatClampNeg) N16) fun r19 N18 => B_Md_findLight_2 c k10 v1 v2 v3 v4 r19 r17 N18
  else B_Md_findLight_2 c k10 v1 v2 v3 v4 (v2 - (12 : Int32)) r17 N16) else k10 v1 v2 v3 (v4 + (1 : Int32)) N6)
  else k10 v1 v2 v3 (v4 + (1 : Int32)) N4) else k10 v1 v2 v3 (v4 + (1 : Int32)) N3))
def F_Md_findLight_1 (c : Nat) (n : Nat) : Int32 → Int32 → Int32 → Int32 → hn → Option hn := hm_it (B_Md_findLight_1 c ) (fun _ _ _ _ _ => none) n
def F_Md_findLight (c : Nat) (v1 : Int32) (v2 : Int32) (N : hn) : Option hn :=
  hbN (F_Md_isDark c v1 v2 N) fun r2 N1 => F_Md_findLight_1 c hN v1 v2 r2 (0 : Int32) N1
def B_Md_lightAt_1 (c : Nat) (k11 : Int32 → Int32 → Int32 → Int32 → Int32 → Int32 → hn → Option (Int32 × hn)) (v1 : Int32) (v2 : Int32) (v3 : Int32) (v4 : Int32) (v5 : Int32) (v6 : Int32) (N : hn) : Option (Int32 × hn) :=
  hbN (F_Md_panes c N) fun r2 N1 => (if r2 ≤ v6 then (if v2 = 0 then some (v3, N1) else (if v2 = (1 : Int32) then some (v4, N1) else some (v5, N1)))
  else hg (hn_ix 12 v6 = true) <| (if (N1.1 90 v6.toNatClampNeg) = v1 then hbN (F_Md_ownerOf c v6 N1) fun r4 N3 =>
  hl ((v3 ||| ((1 : Int32) <<< (r4 &&& 31))) : Int32) fun x5 => hbN (F_Md_paneOf c v6 (3 : Int32) N3) fun r7 N6 => hl ((v4 ||| r7) : Int32) fun x8 =>
  k11 v1 v2 x5 x8 (v5 + (1 : Int32)) (v6 + (1 : Int32)) N6 else k11 v1 v2 v3 v4 v5 (v6 + (1 : Int32)) N1))
def F_Md_lightAt_1 (c : Nat) (n : Nat) : Int32 → Int32 → Int32 → Int32 → Int32 → Int32 → hn → Option (Int32 × hn) := hm_it (B_Md_lightAt_1 c ) (fun _ _ _ _ _ _ _ => none) n
def F_Md_lightAt (c : Nat) (v1 : Int32) (v2 : Int32) (N : hn) : Option (Int32 × hn) :=
  F_Md_lightAt_1 c hN v1 v2 (0 : Int32) (0 : Int32) (0 : Int32) (0 : Int32) N
def F_Md_rentAt (c : Nat) (v1 : Int32) (v2 : Int32) (v3 : Int32) (v4 : Int32) (N : hn) : Option (Int32 × hn) :=
  hg (hn_ix 160 (68 : Int32) = true) <| (if 0 ≤ (N.1 82 (68 : Int32).toNatClampNeg) then hg (hn_ix 7 (0 : Int32) = true) <|
  hl (hn_wI N 86 (0 : Int32).toNatClampNeg v1) fun N1 => hg (hn_ix 7 (1 : Int32) = true) <| hl (hn_wI N1 86 (1 : Int32).toNatClampNeg v2) fun N2 =>
  hg (hn_ix 7 (4 : Int32) = true) <| hl (hn_wI N2 86 (4 : Int32).toNatClampNeg (v3 - v3 / (8 : Int32) * (8 : Int32))) fun N3 =>
  hg (hn_ix 7 (5 : Int32) = true) <| hl (hn_wI N3 86 (5 : Int32).toNatClampNeg (v3 / (8 : Int32))) fun N4 => hg (hn_ix 7 (6 : Int32) = true) <|
  hl (hn_wI N4 86 (6 : Int32).toNatClampNeg v4) fun N5 => hg (hn_ix 160 (68 : Int32) = true) <|
  hbN (F_Md_worthAt c (N5.1 82 (68 : Int32).toNatClampNeg) N5) fun r7 N6 => (if 0 ≤ r7 then (if r7 ≤ (999 : Int32) then some (r7, N6)
  else some ((999 : Int32), N6)) else some ((0 : Int32), N6)) else some ((1 : Int32), N))
def B_Md_addsYields_1 (c : Nat) (k8 : Int32 → Int32 → Int32 → hn → Option hn) (v1 : Int32) (v2 : Int32) (v3 : Int32) (N : hn) : Option hn :=
  hbN (F_Md_panes c N) fun r2 N1 => (if r2 ≤ v3 then some N1 else hg (hn_ix 12 v3 = true) <| (if (N1.1 90 v3.toNatClampNeg) < 0 then
  k8 v1 v2 (v3 + (1 : Int32)) N1 else hbN (F_Md_lightAt c (N1.1 90 v3.toNatClampNeg) (2 : Int32) N1) fun r4 N3 => hg (hn_ix 12 v3 = true) <|
  hg (hn_ix 12 v3 = true) <| hbN (F_Md_rentAt c v1 v2 (N3.1 90 v3.toNatClampNeg) r4 N3) fun r6 N5 => hg (¬ r4 = 0) <|
  hl (hn_wI N5 91 v3.toNatClampNeg ((N3.1 91 v3.toNatClampNeg) + (r6 / r4))) fun N7 => k8 v1 v2 (v3 + (1 : Int32)) N7))
def F_Md_addsYields_1 (c : Nat) (n : Nat) : Int32 → Int32 → Int32 → hn → Option hn := hm_it (B_Md_addsYields_1 c ) (fun _ _ _ _ => none) n
def F_Md_addsYields (c : Nat) (v1 : Int32) (v2 : Int32) (N : hn) : Option hn :=
  hvN (F_Md_findLight c v1 v2 N) fun N1 => F_Md_addsYields_1 c hN v1 v2 (0 : Int32) N1
def F_Md_isSign (c : Nat) (v1 : Int32) (N : hn) : Option (Int32 × hn) :=
  (if (N.1 76 8) = 0 then hg (hn_ix 1002 (N.1 76 7) = true) <| (if (N.1 78 (N.1 76 7).toNatClampNeg) = (3 : Int32) then
  hg (hn_ix 1002 (N.1 76 7) = true) <| (if (lg_cmp (N.2 80 (N.1 76 7).toNatClampNeg) v1.toInt64) = 0 then some ((1 : Int32), N)
  else some ((0 : Int32), N)) else some ((0 : Int32), N)) else some ((0 : Int32), N))
def B_Md_hasSign_1 (c : Nat) (v2 : Int32) (s0 : Int32) (s1 : Int32) (N : hn) : Option (Int32 × hn) :=
  hl (hn_wI N 76 7 (s1 + s0)) fun N1 => hg (v2 = 0 ∨ v2 = 1) <| some (v2, N1)
def F_Md_hasSign (c : Nat) (v1 : Int32) (N : hn) : Option (Int32 × hn) :=
  hbN (F_Md_isSign c v1 N) fun r2 N1 => (if r2 = 0 then B_Md_hasSign_1 c r2 (0 : Int32) (N1.1 76 7) N1
  else B_Md_hasSign_1 c r2 (1 : Int32) (N1.1 76 7) N1)
def F_Md_emit (c : Nat) (v1 : Int32) (v2 : Int32) (N : hn) : Option hn :=
  hg (hn_ix 2200 ((1100 : Int32) + (N.1 76 13)) = true) <| hl (hn_wI N 83 ((1100 : Int32) + (N.1 76 13)).toNatClampNeg v1) fun N1 =>
  hg (hn_ix 2200 ((1100 : Int32) + (N1.1 76 13)) = true) <| hl (hn_wI N1 84 ((1100 : Int32) + (N1.1 76 13)).toNatClampNeg v2) fun N2 =>
  hl (hn_wI N2 76 13 ((N2.1 76 13) + (1 : Int32))) fun N3 => some N3
def B_Md_products_1 (c : Nat) (rP : Int32 → hn → Option hn) (k5 : Int32 → hn → Option hn) (v1 : Int32) (N : hn) : Option hn :=
  hbN (F_Md_hasSign c (42 : Int32) N) fun r2 N1 => (if r2 = 0 then some N1 else hvN (rP v1 N1) fun N3 =>
  hvN (F_Md_emit c (6 : Int32) (0 : Int32) N3) fun N4 => k5 v1 N4)
def F_Md_products_1 (c : Nat) (rP : Int32 → hn → Option hn) (n : Nat) : Int32 → hn → Option hn := hm_it (B_Md_products_1 c rP ) (fun _ _ => none) n
def F_Md_products (c : Nat) (rP : Int32 → hn → Option hn) (v1 : Int32) (N : hn) : Option hn :=
  hvN (rP v1 N) fun N1 => F_Md_products_1 c rP hN v1 N1
def B_Md_sums_3 (c : Nat) (rP : Int32 → hn → Option hn) (k5 : Int32 → hn → Option hn) (v1 : Int32) (s0 : Int32) (N : hn) : Option hn :=
  hvN (F_Md_emit c s0 (0 : Int32) N) fun N1 => k5 v1 N1
def B_Md_sums_2 (c : Nat) (rP : Int32 → hn → Option hn) (k5 : Int32 → hn → Option hn) (v1 : Int32) (N : hn) : Option hn :=
  hbN (F_Md_isSign c (43 : Int32) N) fun r2 N1 => hl (hn_wI N1 76 7 ((N1.1 76 7) + (1 : Int32))) fun N3 => hvN (F_Md_products c rP v1 N3) fun N4 =>
  (if r2 = 0 then B_Md_sums_3 c rP k5 v1 (5 : Int32) N4 else B_Md_sums_3 c rP k5 v1 (4 : Int32) N4)
def B_Md_sums_1 (c : Nat) (rP : Int32 → hn → Option hn) (k5 : Int32 → hn → Option hn) (v1 : Int32) (N : hn) : Option hn :=
  hbN (F_Md_isSign c (43 : Int32) N) fun r2 N1 => (if r2 = 0 then hbN (F_Md_isSign c (45 : Int32) N1) fun r4 N3 => (if r4 = 0 then some N3
  else B_Md_sums_2 c rP k5 v1 N3) else B_Md_sums_2 c rP k5 v1 N1)
def F_Md_sums_1 (c : Nat) (rP : Int32 → hn → Option hn) (n : Nat) : Int32 → hn → Option hn := hm_it (B_Md_sums_1 c rP ) (fun _ _ => none) n
def F_Md_sums (c : Nat) (rP : Int32 → hn → Option hn) (v1 : Int32) (N : hn) : Option hn :=
  hvN (F_Md_products c rP v1 N) fun N1 => F_Md_sums_1 c rP hN v1 N1
def B_Md_test_2 (c : Nat) (rP : Int32 → hn → Option hn) (s0 : Int32) (N : hn) : Option hn :=
  hvN (F_Md_emit c s0 (0 : Int32) N) fun N1 => some N1
def B_Md_test_1 (c : Nat) (rP : Int32 → hn → Option hn) (v1 : Int32) (v2 : Int32) (N : hn) : Option hn :=
  hvN (F_Md_sums c rP v1 N) fun N1 => (if v2 = 0 then B_Md_test_2 c rP (8 : Int32) N1 else B_Md_test_2 c rP (7 : Int32) N1)
def F_Md_test (c : Nat) (rP : Int32 → hn → Option hn) (v1 : Int32) (N : hn) : Option hn :=
  hvN (F_Md_sums c rP v1 N) fun N1 => hbN (F_Md_isSign c (60 : Int32) N1) fun r3 N2 => hbN (F_Md_hasSign c (60 : Int32) N2) fun r5 N4 =>
  (if r5 = 0 then hbN (F_Md_hasSign c (61 : Int32) N4) fun r7 N6 => (if r7 = 0 then some N6 else B_Md_test_1 c rP v1 r3 N6)
  else B_Md_test_1 c rP v1 r3 N4)
def F_Md_isWord (c : Nat) (v1 : Int32) (N : hn) : Option (Int32 × hn) :=
  (if (N.1 76 8) = 0 then hg (hn_ix 1002 (N.1 76 7) = true) <| (if (N.1 78 (N.1 76 7).toNatClampNeg) = (1 : Int32) then
  hg (hn_ix 1002 (N.1 76 7) = true) <| hg (hn_ix 22 v1 = true) <| (if (lg_cmp (N.2 80 (N.1 76 7).toNatClampNeg) (N.2 81 v1.toNatClampNeg)) = 0 then
  some ((1 : Int32), N) else some ((0 : Int32), N)) else some ((0 : Int32), N)) else some ((0 : Int32), N))
def B_Md_all_3 (c : Nat) (rP : Int32 → hn → Option hn) (k5 : Int32 → hn → Option hn) (v1 : Int32) (s0 : Int32) (N : hn) : Option hn :=
  hvN (F_Md_emit c s0 (0 : Int32) N) fun N1 => k5 v1 N1
def B_Md_all_2 (c : Nat) (rP : Int32 → hn → Option hn) (k5 : Int32 → hn → Option hn) (v1 : Int32) (N : hn) : Option hn :=
  hbN (F_Md_isWord c (13 : Int32) N) fun r2 N1 => hl (hn_wI N1 76 7 ((N1.1 76 7) + (1 : Int32))) fun N3 => hvN (F_Md_test c rP v1 N3) fun N4 =>
  (if r2 = 0 then B_Md_all_3 c rP k5 v1 (10 : Int32) N4 else B_Md_all_3 c rP k5 v1 (9 : Int32) N4)
def B_Md_all_1 (c : Nat) (rP : Int32 → hn → Option hn) (k5 : Int32 → hn → Option hn) (v1 : Int32) (N : hn) : Option hn :=
  hbN (F_Md_isWord c (13 : Int32) N) fun r2 N1 => (if r2 = 0 then hbN (F_Md_isWord c (14 : Int32) N1) fun r4 N3 => (if r4 = 0 then some N3
  else B_Md_all_2 c rP k5 v1 N3) else B_Md_all_2 c rP k5 v1 N1)
def F_Md_all_1 (c : Nat) (rP : Int32 → hn → Option hn) (n : Nat) : Int32 → hn → Option hn := hm_it (B_Md_all_1 c rP ) (fun _ _ => none) n
def F_Md_all (c : Nat) (rP : Int32 → hn → Option hn) (v1 : Int32) (N : hn) : Option hn :=
  hvN (F_Md_test c rP v1 N) fun N1 => F_Md_all_1 c rP hN v1 N1
def F_Md_isPane (c : Nat) (v1 : Int32) (N : hn) : Option (Int32 × hn) :=
  (if v1 < 0 then some ((0 : Int32), N) else hbN (F_Md_panes c N) fun r2 N1 => (if r2 ≤ v1 then some ((0 : Int32), N1) else some ((1 : Int32), N1)))
def F_Md_areUnlike (c : Nat) (v1 : Int32) (v2 : Int32) (N : hn) : Option (Int32 × hn) :=
  hbN (F_Md_isPane c v1 N) fun r2 N1 => (if r2 = 0 then some ((0 : Int32), N1) else hbN (F_Md_isPane c v2 N1) fun r4 N3 => (if r4 = 0 then
  some ((0 : Int32), N3) else hbN (F_Md_ownerOf c v1 N3) fun r6 N5 => hbN (F_Md_ownerOf c v2 N5) fun r8 N7 => (if r6 = r8 then some ((0 : Int32), N7)
  else some ((1 : Int32), N7))))
def B_Md_findYields_2 (c : Nat) (k23 : Int32 → hn → Option hn) (v1 : Int32) (N : hn) : Option hn :=
  (if (1248 : Int32) ≤ v1 then some N else hvN (F_Md_addsYields c (v1 / (24 : Int32)) (v1 - v1 / (24 : Int32) * (24 : Int32)) N) fun N1 =>
  k23 (v1 + (1 : Int32)) N1)
def F_Md_findYields_2 (c : Nat) (n : Nat) : Int32 → hn → Option hn := hm_it (B_Md_findYields_2 c ) (fun _ _ => none) n
def B_Md_findYields_1 (c : Nat) (k2 : Int32 → hn → Option hn) (v1 : Int32) (N : hn) : Option hn :=
  (if (12 : Int32) ≤ v1 then F_Md_findYields_2 c hN (0 : Int32) N else hg (hn_ix 12 v1 = true) <|
  hl (hn_wI N 91 v1.toNatClampNeg (0 : Int32)) fun N1 => k2 (v1 + (1 : Int32)) N1)
def F_Md_findYields_1 (c : Nat) (n : Nat) : Int32 → hn → Option hn := hm_it (B_Md_findYields_1 c ) (fun _ _ => none) n
def F_Md_findYields (c : Nat)  (N : hn) : Option hn :=
  F_Md_findYields_1 c hN (0 : Int32) N
def B_Md_bits_1 (c : Nat) (k4 : Int32 → Int32 → Int32 → hn → Option (Int32 × hn)) (v0 : Int32) (v1 : Int32) (v2 : Int32) (N : hn) : Option (Int32 × hn) :=
  (if (12 : Int32) ≤ v2 then some (v1, N) else hl ((v1 + ((v0 >>> (v2 &&& 31)) &&& (1 : Int32))) : Int32) fun x1 => k4 v0 x1 (v2 + (1 : Int32)) N)
def F_Md_bits_1 (c : Nat) (n : Nat) : Int32 → Int32 → Int32 → hn → Option (Int32 × hn) := hm_it (B_Md_bits_1 c ) (fun _ _ _ _ => none) n
def F_Md_bits (c : Nat) (v0 : Int32) (N : hn) : Option (Int32 × hn) :=
  F_Md_bits_1 c hN v0 (0 : Int32) (0 : Int32) N
def F_Md_worthOf (c : Nat) (v1 : Int32) (v2 : Int32) (N : hn) : Option (Int32 × hn) :=
  hg (hn_ix 12 v2 = true) <| hg (hn_ix 160 ((5 : Int32) + ((2 : Int32) * v1)) = true) <| hbN (F_Md_paneOf c v2 (3 : Int32) N) fun r2 N1 =>
  hbN (F_Md_bits c ((N.1 82 ((5 : Int32) + ((2 : Int32) * v1)).toNatClampNeg) &&& r2) N1) fun r4 N3 =>
  some (((N.1 91 v2.toNatClampNeg) * ((1 : Int32) + r4)), N3)
def F_Md_gainOf (c : Nat) (v1 : Int32) (v2 : Int32) (N : hn) : Option (Int32 × hn) :=
  hbN (F_Md_ownerOf c v1 N) fun r2 N1 => hbN (F_Md_ownerOf c v2 N1) fun r4 N3 => hbN (F_Md_worthOf c r2 v2 N3) fun r6 N5 =>
  hbN (F_Md_worthOf c r2 v1 N5) fun r8 N7 => hl ((r6 - r8) : Int32) fun x9 => hbN (F_Md_worthOf c r4 v1 N7) fun r11 N10 =>
  hbN (F_Md_worthOf c r4 v2 N10) fun r13 N12 => hl ((r11 - r13) : Int32) fun x14 => (if x9 ≤ 0 then some ((0 : Int32), N12) else (if x14 ≤ 0 then
  some ((0 : Int32), N12) else some ((x9 + x14), N12)))
def B_Md_tries_4 (c : Nat) (rP : Int32 → Int32 → hn → Option hn) (k84 : Int32 → Int32 → Int32 → hn → Option hn) (v1 : Int32) (v2 : Int32) (v3 : Int32) (s0 : Int32) (N : hn) : Option hn :=
  (if s0 ≤ 0 then k84 v1 v2 (v3 + (1 : Int32)) N else hg (hn_ix 12 v1 = true) <| hl (hn_wI N 92 v1.toNatClampNeg v3) fun N1 =>
  hg (hn_ix 12 v3 = true) <| hl (hn_wI N1 92 v3.toNatClampNeg v1) fun N2 => hvN (rP (v1 + (1 : Int32)) (v2 + s0) N2) fun N3 =>
  hg (hn_ix 12 v3 = true) <| hl (hn_wI N3 92 v3.toNatClampNeg (-1 : Int32)) fun N4 => k84 v1 v2 (v3 + (1 : Int32)) N4)
def B_Md_tries_3 (c : Nat) (rP : Int32 → Int32 → hn → Option hn) (k84 : Int32 → Int32 → Int32 → hn → Option hn) (v1 : Int32) (v2 : Int32) (v3 : Int32) (N : hn) : Option hn :=
  B_Md_tries_4 c rP k84 v1 v2 v3 (0 : Int32) N
def B_Md_tries_2 (c : Nat) (rP : Int32 → Int32 → hn → Option hn) (k84 : Int32 → Int32 → Int32 → hn → Option hn) (v1 : Int32) (v2 : Int32) (v3 : Int32) (N : hn) : Option hn :=
  hbN (F_Md_panes c N) fun r2 N1 => (if r2 ≤ v3 then hg (hn_ix 12 v1 = true) <| hl (hn_wI N1 92 v1.toNatClampNeg (-1 : Int32)) fun N3 => some N3
  else hg (hn_ix 12 v3 = true) <| (if 0 ≤ (N1.1 92 v3.toNatClampNeg) then B_Md_tries_3 c rP k84 v1 v2 v3 N1
  else hbN (F_Md_areUnlike c v1 v3 N1) fun r5 N4 => (if r5 = 0 then B_Md_tries_3 c rP k84 v1 v2 v3 N4 else hbN (F_Md_gainOf c v1 v3 N4) fun r7 N6 =>
  B_Md_tries_4 c rP k84 v1 v2 v3 r7 N6)))
def F_Md_tries_2 (c : Nat) (rP : Int32 → Int32 → hn → Option hn) (n : Nat) : Int32 → Int32 → Int32 → hn → Option hn := hm_it (B_Md_tries_2 c rP ) (fun _ _ _ _ => none) n
def B_Md_tries_1 (c : Nat) (rP : Int32 → Int32 → hn → Option hn) (k23 : Int32 → Int32 → hn → Option hn) (v1 : Int32) (v3 : Int32) (N : hn) : Option hn :=
  (if v1 ≤ v3 then some N else hg (hn_ix 12 v3 = true) <| hg (hn_ix 12 v3 = true) <|
  hl (hn_wI N 93 v3.toNatClampNeg (N.1 92 v3.toNatClampNeg)) fun N1 => k23 v1 (v3 + (1 : Int32)) N1)
def F_Md_tries_1 (c : Nat) (rP : Int32 → Int32 → hn → Option hn) (n : Nat) : Int32 → Int32 → hn → Option hn := hm_it (B_Md_tries_1 c rP ) (fun _ _ _ => none) n
def E_Md_tries (c : Nat) (rP : Int32 → Int32 → hn → Option hn) (v1 : Int32) (v2 : Int32) (N : hn) : Option hn :=
  hbN (F_Md_panes c N) fun r2 N1 => (if v1 = r2 then (if v2 ≤ (N1.1 76 28) then some N1 else hl (hn_wI N1 76 28 v2) fun N7 =>
  F_Md_tries_1 c rP hN v1 (0 : Int32) N7) else hg (hn_ix 12 v1 = true) <| (if (N1.1 92 v1.toNatClampNeg) < 0 then
  hl (hn_wI N1 92 v1.toNatClampNeg v1) fun N3 => hvN (rP (v1 + (1 : Int32)) v2 N3) fun N4 => hl ((v1 + (1 : Int32)) : Int32) fun x5 =>
  F_Md_tries_2 c rP hN v1 v2 x5 N4 else hvN (rP (v1 + (1 : Int32)) v2 N1) fun N6 => some N6))
def F_Md_tries (c : Nat) (n : Nat) : Int32 → Int32 → hn → Option hn := hm_it (E_Md_tries c) (fun _ _ _ => none) n
def B_Md_best_2 (c : Nat) (k26 : Int32 → Int32 → hn → Option (Int32 × hn)) (v1 : Int32) (v2 : Int32) (N : hn) : Option (Int32 × hn) :=
  (if (12 : Int32) ≤ v2 then hl (hn_wI N 76 28 (-1 : Int32)) fun N1 => hvN (F_Md_tries c hD (0 : Int32) (0 : Int32) N1) fun N2 =>
  (if v1 = (-1 : Int32) then some ((N2.1 76 28), N2) else hg (hn_ix 12 v1 = true) <| some ((N2.1 93 v1.toNatClampNeg), N2))
  else hg (hn_ix 12 v2 = true) <| hl (hn_wI N 92 v2.toNatClampNeg (-1 : Int32)) fun N3 => k26 v1 (v2 + (1 : Int32)) N3)
def F_Md_best_2 (c : Nat) (n : Nat) : Int32 → Int32 → hn → Option (Int32 × hn) := hm_it (B_Md_best_2 c ) (fun _ _ _ => none) n
def B_Md_best_1 (c : Nat) (v1 : Int32) (N : hn) : Option (Int32 × hn) :=
  hvN (F_Md_findYields c N) fun N1 => F_Md_best_2 c hN v1 (0 : Int32) N1
def F_Md_best (c : Nat) (v1 : Int32) (N : hn) : Option (Int32 × hn) :=
  hl (hn_wI N 76 0 (0 : Int32)) fun N1 => (if v1 = (-1 : Int32) then B_Md_best_1 c v1 N1 else hbN (F_Md_isPane c v1 N1) fun r3 N2 => (if r3 = 0 then
  some ((-1 : Int32), N2) else B_Md_best_1 c v1 N2))
def B_Md_copies_1 (c : Nat) (k3 : Int32 → Int32 → Int32 → Int32 → hn → Option hn) (v1 : Int32) (v2 : Int32) (v3 : Int32) (v4 : Int32) (N : hn) : Option hn :=
  (if v3 ≤ v4 then some N else hg (hn_ix 1000 (((40 : Int32) * v1) + v4) = true) <| hg (hn_ix 1000 (((40 : Int32) * v2) + v4) = true) <|
  hl (hn_wI N 88 (((40 : Int32) * v2) + v4).toNatClampNeg (N.1 88 (((40 : Int32) * v1) + v4).toNatClampNeg)) fun N1 =>
  k3 v1 v2 v3 (v4 + (1 : Int32)) N1)
def F_Md_copies_1 (c : Nat) (n : Nat) : Int32 → Int32 → Int32 → Int32 → hn → Option hn := hm_it (B_Md_copies_1 c ) (fun _ _ _ _ _ => none) n
def F_Md_copies (c : Nat) (v1 : Int32) (v2 : Int32) (v3 : Int32) (N : hn) : Option hn :=
  F_Md_copies_1 c hN v1 v2 v3 (0 : Int32) N
def B_Md_keeps_2 (c : Nat)  (N : hn) : Option hn :=
  hvN (F_Md_copies c (0 : Int32) ((5 : Int32) + (N.1 76 21)) (40 : Int32) N) fun N1 => hl (hn_wI N1 76 21 ((N1.1 76 21) + (1 : Int32))) fun N2 =>
  some N2
def B_Md_keeps_1 (c : Nat) (k11 : Int32 → hn → Option hn) (v1 : Int32) (N : hn) : Option hn :=
  (if (20 : Int32) ≤ v1 then hl (hn_wI N 76 21 ((N.1 76 21) - (1 : Int32))) fun N1 => B_Md_keeps_2 c N1
  else hvN (F_Md_copies c ((5 : Int32) + v1) (((5 : Int32) + v1) - (1 : Int32)) (40 : Int32) N) fun N2 => k11 (v1 + (1 : Int32)) N2)
def F_Md_keeps_1 (c : Nat) (n : Nat) : Int32 → hn → Option hn := hm_it (B_Md_keeps_1 c ) (fun _ _ => none) n
def F_Md_keeps (c : Nat)  (N : hn) : Option hn :=
  (if (N.1 76 21) = (20 : Int32) then F_Md_keeps_1 c hN (1 : Int32) N else B_Md_keeps_2 c N)
def F_Md_breaks (c : Nat) (v1 : Int32) (v2 : Int32) (N : hn) : Option (Int32 × hn) :=
  hl (hn_wI N 76 0 (0 : Int32)) fun N1 => hbN (F_Md_isPane c v1 N1) fun r3 N2 => (if r3 = 0 then some ((0 : Int32), N2)
  else hbN (F_Md_isBroken c v1 N2) fun r5 N4 => (if r5 = v2 then hvN (F_Md_keeps c N4) fun N6 => hg (hn_ix 1000 (12 : Int32) = true) <|
  hl (hn_wI N6 88 (12 : Int32).toNatClampNeg ((N6.1 88 (12 : Int32).toNatClampNeg) ^^^ ((1 : Int32) <<< (v1 &&& 31)))) fun N7 =>
  some ((1 : Int32), N7) else some ((0 : Int32), N4)))
def F_Md_within (c : Nat) (v0 : Int32) (v1 : Int32) (v2 : Int32) (N : hn) : Option (Int32 × hn) :=
  (if v0 < v1 then some ((0 : Int32), N) else (if v2 < v0 then some ((0 : Int32), N) else some ((1 : Int32), N)))
def F_Md_isTime (c : Nat) (v0 : Int32) (v1 : Int32) (N : hn) : Option (Int32 × hn) :=
  hbN (F_Md_within c v0 (0 : Int32) (51 : Int32) N) fun r2 N1 => (if r2 = 0 then some ((0 : Int32), N1)
  else hbN (F_Md_within c v1 (0 : Int32) (23 : Int32) N1) fun r4 N3 => (if r4 = 0 then some ((0 : Int32), N3) else some ((1 : Int32), N3)))
def F_Md_canStain (c : Nat) (v1 : Int32) (v2 : Int32) (v3 : Int32) (v4 : Int32) (N : hn) : Option (Int32 × hn) :=
  hbN (F_Md_isTime c v1 v2 N) fun r2 N1 => (if r2 = 0 then some ((0 : Int32), N1) else hbN (F_Md_within c v3 (1 : Int32) (6 : Int32) N1) fun r4 N3 =>
  (if r4 = 0 then some ((0 : Int32), N3) else (if (24 : Int32) < (v2 + v3) then some ((0 : Int32), N3) else (if v4 < 0 then some ((0 : Int32), N3)
  else (if ((1 : Int32) <<< (((3 : Int32) * v3) &&& 31)) ≤ v4 then some ((0 : Int32), N3) else some ((1 : Int32), N3))))))
def F_Md_seens (c : Nat)  (N : hn) : Option (Int32 × hn) :=
  hg (hn_ix 1000 (13 : Int32) = true) <| some ((N.1 88 (13 : Int32).toNatClampNeg), N)
def B_Md_candlesAt_2 (c : Nat) (k11 : Int32 → Int32 → hn → Option (Int32 × hn)) (v4 : Int32) (s0 : Int32) (s1 : Int32) (N : hn) : Option (Int32 × hn) :=
  hl ((s1 + s0) : Int32) fun x1 => k11 x1 (v4 + (1 : Int32)) N
def B_Md_candlesAt_1 (c : Nat) (k11 : Int32 → Int32 → hn → Option (Int32 × hn)) (v3 : Int32) (v4 : Int32) (N : hn) : Option (Int32 × hn) :=
  hbN (F_Md_seens c N) fun r2 N1 => (if r2 ≤ v4 then some (v3, N1) else hl (((14 : Int32) + ((3 : Int32) * v4)) : Int32) fun x3 =>
  hg (hn_ix 1000 (x3 + (1 : Int32)) = true) <| hg (hn_ix 1000 x3 = true) <|
  hbN (F_Md_lightAt c (((8 : Int32) * (N1.1 88 (x3 + (1 : Int32)).toNatClampNeg)) + (N1.1 88 x3.toNatClampNeg)) (1 : Int32) N1) fun r5 N4 =>
  hg (hn_ix 1000 (x3 + (2 : Int32)) = true) <| (if r5 = (N4.1 88 (x3 + (2 : Int32)).toNatClampNeg) then B_Md_candlesAt_2 c k11 v4 (0 : Int32) v3 N4
  else B_Md_candlesAt_2 c k11 v4 (1 : Int32) v3 N4))
def F_Md_candlesAt_1 (c : Nat) (n : Nat) : Int32 → Int32 → hn → Option (Int32 × hn) := hm_it (B_Md_candlesAt_1 c ) (fun _ _ _ => none) n
def F_Md_candlesAt (c : Nat) (v1 : Int32) (v2 : Int32) (N : hn) : Option (Int32 × hn) :=
  hvN (F_Md_findLight c v1 v2 N) fun N1 => F_Md_candlesAt_1 c hN (0 : Int32) (0 : Int32) N1
def F_Md_candles (c : Nat) (v1 : Int32) (v2 : Int32) (N : hn) : Option (Int32 × hn) :=
  hl (hn_wI N 76 0 (0 : Int32)) fun N1 => hbN (F_Md_isTime c v1 v2 N1) fun r3 N2 => (if r3 = 0 then some ((-1 : Int32), N2)
  else hbN (F_Md_candlesAt c v1 v2 N2) fun r5 N4 => some (r5, N4))
def F_Md_isLetter (c : Nat) (v0 : Int32) (N : hn) : Option (Int32 × hn) :=
  (if v0 < (97 : Int32) then some ((0 : Int32), N) else (if (122 : Int32) < v0 then some ((0 : Int32), N) else some ((1 : Int32), N)))
def F_Md_rank (c : Nat) (v0 : Int32) (N : hn) : Option (Int32 × hn) :=
  hbN (F_Md_isLetter c v0 N) fun r2 N1 => (if r2 = 0 then some ((v0 - (21 : Int32)), N1) else some ((v0 - (96 : Int32)), N1))
def F_Md_isDigit (c : Nat) (v0 : Int32) (N : hn) : Option (Int32 × hn) :=
  (if v0 < (48 : Int32) then some ((0 : Int32), N) else (if (57 : Int32) < v0 then some ((0 : Int32), N) else some ((1 : Int32), N)))
def F_Md_isSignOf (c : Nat) (v0 : Int32) (N : hn) : Option (Int32 × hn) :=
  (if v0 = (40 : Int32) then some ((1 : Int32), N) else (if v0 = (41 : Int32) then some ((1 : Int32), N) else (if v0 = (59 : Int32) then
  some ((1 : Int32), N) else (if v0 = (61 : Int32) then some ((1 : Int32), N) else (if v0 = (60 : Int32) then some ((1 : Int32), N)
  else (if v0 = (43 : Int32) then some ((1 : Int32), N) else (if v0 = (45 : Int32) then some ((1 : Int32), N) else (if v0 = (42 : Int32) then
  some ((1 : Int32), N) else some ((0 : Int32), N)))))))))
def B_Md_cutAll_11 (c : Nat) (k17 : Int32 → Int32 → hn → Option hn) (v1 : Int32) (v2 : Int32) (v5 : Int64) (N : hn) : Option hn :=
  hg (hn_ix 1002 v1 = true) <| hl (hn_wL N 80 v1.toNatClampNeg v5) fun N1 => k17 (v1 + (1 : Int32)) v2 N1
def B_Md_cutAll_10 (c : Nat) (k17 : Int32 → Int32 → hn → Option hn) (v1 : Int32) (v2 : Int32) (v5 : Int64) (s0 : Int32) (s1 : Int32) (N : hn) : Option hn :=
  hg (hn_ix 1002 s1 = true) <| hl (hn_wI N 78 s1.toNatClampNeg s0) fun N1 => B_Md_cutAll_11 c k17 v1 (v2 + (1 : Int32)) v5 N1
def B_Md_cutAll_9 (c : Nat) (k17 : Int32 → Int32 → hn → Option hn) (v1 : Int32) (v2 : Int32) (v5 : Int64) (s0 : Int32) (s1 : Int32) (N : hn) : Option hn :=
  hg (hn_ix 1002 s1 = true) <| hl (hn_wI N 78 s1.toNatClampNeg s0) fun N1 => B_Md_cutAll_11 c k17 v1 v2 v5 N1
def B_Md_cutAll_8 (c : Nat) (k17 : Int32 → Int32 → hn → Option hn) (v1 : Int32) (v2 : Int32) (v4 : Int32) (v5 : Int64) (N : hn) : Option hn :=
  (if (v2 - v4) ≤ (4 : Int32) then B_Md_cutAll_9 c k17 v1 v2 v5 (2 : Int32) v1 N else B_Md_cutAll_9 c k17 v1 v2 v5 (4 : Int32) v1 N)
def B_Md_cutAll_7 (c : Nat) (k17 : Int32 → Int32 → hn → Option hn) (k159 : Int32 → Int32 → Int32 → Int64 → hn → Option hn) (v1 : Int32) (v2 : Int32) (v4 : Int32) (s0 : Int64) (N : hn) : Option hn :=
  k159 v1 (v2 + (1 : Int32)) v4 s0 N
def B_Md_cutAll_6 (c : Nat) (k17 : Int32 → Int32 → hn → Option hn) (k159 : Int32 → Int32 → Int32 → Int64 → hn → Option hn) (v1 : Int32) (v2 : Int32) (v4 : Int32) (v5 : Int64) (N : hn) : Option hn :=
  (if (N.1 76 3) ≤ v2 then B_Md_cutAll_8 c k17 v1 v2 v4 v5 N else hg (hn_ix 1000 v2 = true) <|
  hbN (F_Md_isDigit c (N.1 77 v2.toNatClampNeg) N) fun r2 N1 => (if r2 = 0 then B_Md_cutAll_8 c k17 v1 v2 v4 v5 N1
  else (if (4 : Int32) ≤ (v2 - v4) then B_Md_cutAll_7 c k17 k159 v1 v2 v4 v5 N1 else hg (hn_ix 1000 v2 = true) <|
  B_Md_cutAll_7 c k17 k159 v1 v2 v4 ((((10 : Int64) * v5) + (N1.1 77 v2.toNatClampNeg).toInt64) - (48 : Int64)) N1)))
def F_Md_cutAll_6 (c : Nat) (k17 : Int32 → Int32 → hn → Option hn) (n : Nat) : Int32 → Int32 → Int32 → Int64 → hn → Option hn := hm_it (B_Md_cutAll_6 c k17) (fun _ _ _ _ _ => none) n
def B_Md_cutAll_5 (c : Nat) (k17 : Int32 → Int32 → hn → Option hn) (v1 : Int32) (v2 : Int32) (v5 : Int64) (s0 : Int32) (s1 : Int32) (N : hn) : Option hn :=
  hg (hn_ix 1002 s1 = true) <| hl (hn_wI N 78 s1.toNatClampNeg s0) fun N1 => B_Md_cutAll_11 c k17 v1 v2 v5 N1
def B_Md_cutAll_4 (c : Nat) (k17 : Int32 → Int32 → hn → Option hn) (v1 : Int32) (v2 : Int32) (v4 : Int32) (v5 : Int64) (N : hn) : Option hn :=
  (if (v2 - v4) ≤ (8 : Int32) then B_Md_cutAll_5 c k17 v1 v2 v5 (1 : Int32) v1 N else B_Md_cutAll_5 c k17 v1 v2 v5 (4 : Int32) v1 N)
def B_Md_cutAll_3 (c : Nat) (k17 : Int32 → Int32 → hn → Option hn) (k70 : Int32 → Int32 → Int32 → Int64 → hn → Option hn) (v1 : Int32) (v2 : Int32) (v4 : Int32) (s0 : Int64) (N : hn) : Option hn :=
  k70 v1 (v2 + (1 : Int32)) v4 s0 N
def B_Md_cutAll_2 (c : Nat) (k17 : Int32 → Int32 → hn → Option hn) (k70 : Int32 → Int32 → Int32 → Int64 → hn → Option hn) (v1 : Int32) (v2 : Int32) (v4 : Int32) (v5 : Int64) (N : hn) : Option hn :=
  (if (N.1 76 3) ≤ v2 then B_Md_cutAll_4 c k17 v1 v2 v4 v5 N else hg (hn_ix 1000 v2 = true) <|
  hbN (F_Md_isLetter c (N.1 77 v2.toNatClampNeg) N) fun r2 N1 => (if r2 = 0 then B_Md_cutAll_4 c k17 v1 v2 v4 v5 N1
  else (if (8 : Int32) ≤ (v2 - v4) then B_Md_cutAll_3 c k17 k70 v1 v2 v4 v5 N1 else hg (hn_ix 1000 v2 = true) <|
  hbN (F_Md_rank c (N1.1 77 v2.toNatClampNeg) N1) fun r4 N3 => B_Md_cutAll_3 c k17 k70 v1 v2 v4 (((37 : Int64) * v5) + r4.toInt64) N3)))
def F_Md_cutAll_2 (c : Nat) (k17 : Int32 → Int32 → hn → Option hn) (n : Nat) : Int32 → Int32 → Int32 → Int64 → hn → Option hn := hm_it (B_Md_cutAll_2 c k17) (fun _ _ _ _ _ => none) n
def B_Md_cutAll_1 (c : Nat) (k17 : Int32 → Int32 → hn → Option hn) (v1 : Int32) (v2 : Int32) (N : hn) : Option hn :=
  (if (N.1 76 3) ≤ v2 then hg (hn_ix 1002 v1 = true) <| hl (hn_wI N 78 v1.toNatClampNeg (0 : Int32)) fun N1 => hg (hn_ix 1002 v1 = true) <|
  hl (hn_wI N1 79 v1.toNatClampNeg (N1.1 76 3)) fun N2 => hl (hn_wI N2 76 7 (0 : Int32)) fun N3 => hl (hn_wI N3 76 8 (0 : Int32)) fun N4 => some N4
  else hg (hn_ix 1000 v2 = true) <| hl ((N.1 77 v2.toNatClampNeg) : Int32) fun x5 => (if x5 = (10 : Int32) then k17 v1 (v2 + (1 : Int32)) N
  else (if x5 = (32 : Int32) then k17 v1 (v2 + (1 : Int32)) N else hg (hn_ix 1002 v1 = true) <| hl (hn_wI N 79 v1.toNatClampNeg v2) fun N6 =>
  hbN (F_Md_isLetter c x5 N6) fun r8 N7 => (if r8 = 0 then hbN (F_Md_isDigit c x5 N7) fun r10 N9 => (if r10 = 0 then
  hl (x5.toInt64 : Int64) fun x11 => hbN (F_Md_isSignOf c x5 N9) fun r13 N12 => (if r13 = 0 then B_Md_cutAll_10 c k17 v1 v2 x11 (4 : Int32) v1 N12
  else B_Md_cutAll_10 c k17 v1 v2 x11 (3 : Int32) v1 N12) else F_Md_cutAll_6 c k17 hN v1 v2 v2 (0 : Int64) N9)
  else F_Md_cutAll_2 c k17 hN v1 v2 v2 (0 : Int64) N7))))
def F_Md_cutAll_1 (c : Nat) (n : Nat) : Int32 → Int32 → hn → Option hn := hm_it (B_Md_cutAll_1 c ) (fun _ _ _ => none) n
def F_Md_cutAll (c : Nat)  (N : hn) : Option hn :=
  hl (hn_wI N 76 3 (N.1 76 2)) fun N1 => hl (hn_wI N1 76 2 (0 : Int32)) fun N2 => F_Md_cutAll_1 c hN (0 : Int32) (0 : Int32) N2
def F_Md_wrong (c : Nat) (v1 : Int32) (N : hn) : Option hn :=
  (if (N.1 76 8) = 0 then hg (hn_ix 1002 (N.1 76 7) = true) <| hl (hn_wI N 76 8 (v1 + ((16 : Int32) * (N.1 79 (N.1 76 7).toNatClampNeg)))) fun N1 =>
  some N1 else some N)
def B_Md_takeNumber_3 (c : Nat)  (N : hn) : Option (Int32 × hn) :=
  (if (N.1 76 8) ≤ 0 then hl (hn_wI N 76 7 ((N.1 76 7) + (1 : Int32))) fun N1 => hg (hn_ix 1002 ((N1.1 76 7) - (1 : Int32)) = true) <|
  some ((N1.2 80 ((N1.1 76 7) - (1 : Int32)).toNatClampNeg).toInt32, N1) else some ((0 : Int32), N))
def B_Md_takeNumber_2 (c : Nat)  (N : hn) : Option (Int32 × hn) :=
  hvN (F_Md_wrong c (4 : Int32) N) fun N1 => B_Md_takeNumber_3 c N1
def B_Md_takeNumber_1 (c : Nat) (v1 : Int32) (v2 : Int32) (N : hn) : Option (Int32 × hn) :=
  (if (N.1 76 8) = 0 then hg (hn_ix 1002 (N.1 76 7) = true) <| (if (lg_cmp (N.2 80 (N.1 76 7).toNatClampNeg) v1.toInt64) < 0 then
  B_Md_takeNumber_2 c N else (if (lg_cmp (N.2 80 (N.1 76 7).toNatClampNeg) v2.toInt64) ≤ 0 then B_Md_takeNumber_3 c N else B_Md_takeNumber_2 c N))
  else B_Md_takeNumber_3 c N)
def F_Md_takeNumber (c : Nat) (v1 : Int32) (v2 : Int32) (N : hn) : Option (Int32 × hn) :=
  (if (N.1 76 8) = 0 then hg (hn_ix 1002 (N.1 76 7) = true) <| (if (N.1 78 (N.1 76 7).toNatClampNeg) = (2 : Int32) then B_Md_takeNumber_1 c v1 v2 N
  else hvN (F_Md_wrong c (1 : Int32) N) fun N1 => B_Md_takeNumber_3 c N1) else B_Md_takeNumber_1 c v1 v2 N)
def F_Md_readFloor (c : Nat)  (N : hn) : Option hn :=
  (if (N.1 76 15) = 0 then hl (hn_wI N 76 15 (1 : Int32)) fun N1 => hl (hn_wI N1 76 7 ((N1.1 76 7) + (1 : Int32))) fun N2 =>
  hbN (F_Md_takeNumber c (1 : Int32) (8 : Int32) N2) fun r4 N3 => hg (hn_ix 160 (80 : Int32) = true) <|
  hl (hn_wI N3 82 (80 : Int32).toNatClampNeg r4) fun N5 => hbN (F_Md_takeNumber c (1 : Int32) (8 : Int32) N5) fun r7 N6 =>
  hg (hn_ix 160 (81 : Int32) = true) <| hl (hn_wI N6 82 (81 : Int32).toNatClampNeg r7) fun N8 => some N8
  else hvN (F_Md_wrong c (3 : Int32) N) fun N9 => some N9)
def B_Md_isName_5 (c : Nat) (k28 : Int32 → Int32 → hn → Option (Int32 × hn)) (v2 : Int32) (s0 : Int32) (N : hn) : Option (Int32 × hn) :=
  k28 s0 (v2 + (1 : Int32)) N
def B_Md_isName_4 (c : Nat) (k28 : Int32 → Int32 → hn → Option (Int32 × hn)) (v2 : Int32) (N : hn) : Option (Int32 × hn) :=
  B_Md_isName_5 c k28 v2 (0 : Int32) N
def B_Md_isName_3 (c : Nat) (k28 : Int32 → Int32 → hn → Option (Int32 × hn)) (v1 : Int32) (v2 : Int32) (N : hn) : Option (Int32 × hn) :=
  (if (15 : Int32) ≤ v2 then hg (v1 = 0 ∨ v1 = 1) <| some (v1, N) else (if v1 = 0 then B_Md_isName_4 c k28 v2 N
  else hg (hn_ix 1002 (N.1 76 7) = true) <| hg (hn_ix 22 v2 = true) <|
  (if (lg_cmp (N.2 80 (N.1 76 7).toNatClampNeg) (N.2 81 v2.toNatClampNeg)) = 0 then B_Md_isName_4 c k28 v2 N
  else B_Md_isName_5 c k28 v2 (1 : Int32) N)))
def F_Md_isName_3 (c : Nat) (n : Nat) : Int32 → Int32 → hn → Option (Int32 × hn) := hm_it (B_Md_isName_3 c ) (fun _ _ _ => none) n
def B_Md_isName_2 (c : Nat) (s0 : Int32) (N : hn) : Option (Int32 × hn) :=
  F_Md_isName_3 c hN s0 (0 : Int32) N
def B_Md_isName_1 (c : Nat)  (N : hn) : Option (Int32 × hn) :=
  B_Md_isName_2 c (0 : Int32) N
def F_Md_isName (c : Nat)  (N : hn) : Option (Int32 × hn) :=
  (if (N.1 76 8) = 0 then hg (hn_ix 1002 (N.1 76 7) = true) <| (if (N.1 78 (N.1 76 7).toNatClampNeg) = (1 : Int32) then B_Md_isName_2 c (1 : Int32) N
  else B_Md_isName_1 c N) else B_Md_isName_1 c N)
def B_Md_find_1 (c : Nat) (k2 : Int32 → hn → Option (Int32 × hn)) (v1 : Int32) (N : hn) : Option (Int32 × hn) :=
  hg (hn_ix 160 (83 : Int32) = true) <| (if (N.1 82 (83 : Int32).toNatClampNeg) ≤ v1 then some ((-1 : Int32), N) else hg (hn_ix 6 v1 = true) <|
  hg (hn_ix 1002 (N.1 76 7) = true) <| (if (lg_cmp (N.2 85 v1.toNatClampNeg) (N.2 80 (N.1 76 7).toNatClampNeg)) = 0 then some (v1, N)
  else k2 (v1 + (1 : Int32)) N))
def F_Md_find_1 (c : Nat) (n : Nat) : Int32 → hn → Option (Int32 × hn) := hm_it (B_Md_find_1 c ) (fun _ _ => none) n
def F_Md_find (c : Nat)  (N : hn) : Option (Int32 × hn) :=
  F_Md_find_1 c hN (0 : Int32) N
def B_Md_hasWord_1 (c : Nat) (v2 : Int32) (s0 : Int32) (s1 : Int32) (N : hn) : Option (Int32 × hn) :=
  hl (hn_wI N 76 7 (s1 + s0)) fun N1 => hg (v2 = 0 ∨ v2 = 1) <| some (v2, N1)
def F_Md_hasWord (c : Nat) (v1 : Int32) (N : hn) : Option (Int32 × hn) :=
  hbN (F_Md_isWord c v1 N) fun r2 N1 => (if r2 = 0 then B_Md_hasWord_1 c r2 (0 : Int32) (N1.1 76 7) N1
  else B_Md_hasWord_1 c r2 (1 : Int32) (N1.1 76 7) N1)
def F_Md_takeWord (c : Nat) (v1 : Int32) (N : hn) : Option hn :=
  hbN (F_Md_hasWord c v1 N) fun r2 N1 => (if r2 = 0 then hvN (F_Md_wrong c (1 : Int32) N1) fun N3 => some N3 else some N1)
def F_Md_takeAfter (c : Nat) (v1 : Int32) (v2 : Int32) (v3 : Int32) (N : hn) : Option (Int32 × hn) :=
  hvN (F_Md_takeWord c v1 N) fun N1 => hbN (F_Md_takeNumber c v2 v3 N1) fun r3 N2 => some (r3, N2)
def B_Md_readGuild_1 (c : Nat) (v1 : Int32) (N : hn) : Option hn :=
  (if (N.1 76 8) ≤ 0 then hg (hn_ix 1002 (N.1 76 7) = true) <| hg (hn_ix 6 v1 = true) <|
  hl (hn_wL N 85 v1.toNatClampNeg (N.2 80 (N.1 76 7).toNatClampNeg)) fun N1 => hl (hn_wI N1 76 7 ((N1.1 76 7) + (1 : Int32))) fun N2 =>
  hbN (F_Md_takeAfter c (2 : Int32) (0 : Int32) (7 : Int32) N2) fun r4 N3 => hg (hn_ix 160 ((85 : Int32) + ((2 : Int32) * v1)) = true) <|
  hl (hn_wI N3 82 ((85 : Int32) + ((2 : Int32) * v1)).toNatClampNeg r4) fun N5 =>
  hbN (F_Md_takeAfter c (3 : Int32) (0 : Int32) (9999 : Int32) N5) fun r7 N6 =>
  hg (hn_ix 160 (((85 : Int32) + ((2 : Int32) * v1)) + (1 : Int32)) = true) <|
  hl (hn_wI N6 82 (((85 : Int32) + ((2 : Int32) * v1)) + (1 : Int32)).toNatClampNeg r7) fun N8 => hg (hn_ix 160 (83 : Int32) = true) <|
  hl (hn_wI N8 82 (83 : Int32).toNatClampNeg ((N8.1 82 (83 : Int32).toNatClampNeg) + (1 : Int32))) fun N9 => some N9 else some N)
def F_Md_readGuild (c : Nat)  (N : hn) : Option hn :=
  hg (hn_ix 160 (83 : Int32) = true) <| hl ((N.1 82 (83 : Int32).toNatClampNeg) : Int32) fun x1 => (if x1 = (6 : Int32) then
  hvN (F_Md_wrong c (5 : Int32) N) fun N9 => some N9 else hl (hn_wI N 76 7 ((N.1 76 7) + (1 : Int32))) fun N2 => hbN (F_Md_isName c N2) fun r4 N3 =>
  (if r4 = 0 then hvN (F_Md_wrong c (1 : Int32) N3) fun N8 => B_Md_readGuild_1 c x1 N8 else hbN (F_Md_find c N3) fun r6 N5 => (if r6 < 0 then
  B_Md_readGuild_1 c x1 N5 else hvN (F_Md_wrong c (3 : Int32) N5) fun N7 => B_Md_readGuild_1 c x1 N7)))
def B_Md_readPane_4 (c : Nat) (v2 : Int32) (N : hn) : Option hn :=
  (if (N.1 76 8) ≤ 0 then hbN (F_Md_find c N) fun r2 N1 => hg (hn_ix 160 (v2 + (2 : Int32)) = true) <|
  hl (hn_wI N1 82 (v2 + (2 : Int32)).toNatClampNeg r2) fun N3 => hl (hn_wI N3 76 7 ((N3.1 76 7) + (1 : Int32))) fun N4 =>
  hbN (F_Md_takeAfter c (6 : Int32) (1 : Int32) (7 : Int32) N4) fun r6 N5 => hg (hn_ix 160 (v2 + (3 : Int32)) = true) <|
  hl (hn_wI N5 82 (v2 + (3 : Int32)).toNatClampNeg r6) fun N7 => hg (hn_ix 160 (84 : Int32) = true) <|
  hl (hn_wI N7 82 (84 : Int32).toNatClampNeg ((N7.1 82 (84 : Int32).toNatClampNeg) + (1 : Int32))) fun N8 => some N8 else some N)
def B_Md_readPane_3 (c : Nat) (v2 : Int32) (N : hn) : Option hn :=
  (if (N.1 76 8) = 0 then hbN (F_Md_find c N) fun r2 N1 => (if 0 ≤ r2 then B_Md_readPane_4 c v2 N1 else hvN (F_Md_wrong c (2 : Int32) N1) fun N3 =>
  B_Md_readPane_4 c v2 N3) else B_Md_readPane_4 c v2 N)
def B_Md_readPane_2 (c : Nat) (v2 : Int32) (N : hn) : Option hn :=
  hbN (F_Md_takeNumber c (0 : Int32) (3 : Int32) N) fun r2 N1 => hg (hn_ix 160 (v2 + (1 : Int32)) = true) <|
  hl (hn_wI N1 82 (v2 + (1 : Int32)).toNatClampNeg r2) fun N3 => hvN (F_Md_takeWord c (5 : Int32) N3) fun N4 => (if (N4.1 76 8) = 0 then
  hbN (F_Md_isName c N4) fun r6 N5 => (if r6 = 0 then hvN (F_Md_wrong c (1 : Int32) N5) fun N7 => B_Md_readPane_4 c v2 N7
  else B_Md_readPane_3 c v2 N5) else B_Md_readPane_3 c v2 N4)
def B_Md_readPane_1 (c : Nat) (k52 : Int32 → Int32 → Int32 → hn → Option hn) (v1 : Int32) (v2 : Int32) (v3 : Int32) (N : hn) : Option hn :=
  (if v1 ≤ v3 then B_Md_readPane_2 c v2 N else (if (N.1 76 8) = 0 then hl (((97 : Int32) + ((4 : Int32) * v3)) : Int32) fun x1 =>
  hg (hn_ix 1002 (N.1 76 7) = true) <| (if (N.1 78 (N.1 76 7).toNatClampNeg) = (2 : Int32) then hg (hn_ix 160 x1 = true) <|
  hg (hn_ix 160 v2 = true) <| (if (N.1 82 x1.toNatClampNeg) = (N.1 82 v2.toNatClampNeg) then hg (hn_ix 160 (x1 + (1 : Int32)) = true) <|
  hg (hn_ix 1002 (N.1 76 7) = true) <| (if (lg_cmp (N.1 82 (x1 + (1 : Int32)).toNatClampNeg).toInt64 (N.2 80 (N.1 76 7).toNatClampNeg)) = 0 then
  hvN (F_Md_wrong c (3 : Int32) N) fun N2 => k52 v1 v2 (v3 + (1 : Int32)) N2 else k52 v1 v2 (v3 + (1 : Int32)) N) else k52 v1 v2 (v3 + (1 : Int32)) N)
  else k52 v1 v2 (v3 + (1 : Int32)) N) else B_Md_readPane_2 c v2 N))
def F_Md_readPane_1 (c : Nat) (n : Nat) : Int32 → Int32 → Int32 → hn → Option hn := hm_it (B_Md_readPane_1 c ) (fun _ _ _ _ => none) n
def F_Md_readPane (c : Nat)  (N : hn) : Option hn :=
  hg (hn_ix 160 (84 : Int32) = true) <| hl ((N.1 82 (84 : Int32).toNatClampNeg) : Int32) fun x1 => (if x1 = (12 : Int32) then
  hvN (F_Md_wrong c (5 : Int32) N) fun N7 => some N7 else hl (hn_wI N 76 7 ((N.1 76 7) + (1 : Int32))) fun N2 =>
  hl (((97 : Int32) + ((4 : Int32) * x1)) : Int32) fun x3 => hbN (F_Md_takeNumber c (0 : Int32) (7 : Int32) N2) fun r5 N4 =>
  hg (hn_ix 160 x3 = true) <| hl (hn_wI N4 82 x3.toNatClampNeg r5) fun N6 => F_Md_readPane_1 c hN x1 x3 (0 : Int32) N6)
def F_Md_readCloud (c : Nat)  (N : hn) : Option hn :=
  (if (N.1 76 16) = 0 then hl (hn_wI N 76 16 (1 : Int32)) fun N1 => hl (hn_wI N1 76 7 ((N1.1 76 7) + (1 : Int32))) fun N2 =>
  hbN (F_Md_takeNumber c (0 : Int32) (8 : Int32) N2) fun r4 N3 => hg (hn_ix 160 (82 : Int32) = true) <|
  hl (hn_wI N3 82 (82 : Int32).toNatClampNeg r4) fun N5 => some N5 else hvN (F_Md_wrong c (3 : Int32) N) fun N6 => some N6)
def B_Md_factHere_6 (c : Nat) (k4 : Int32 → Int32 → hn → Option (Int32 × hn)) (v2 : Int32) (s0 : Int32) (N : hn) : Option (Int32 × hn) :=
  k4 s0 (v2 + (1 : Int32)) N
def B_Md_factHere_5 (c : Nat) (k4 : Int32 → Int32 → hn → Option (Int32 × hn)) (v1 : Int32) (v2 : Int32) (N : hn) : Option (Int32 × hn) :=
  B_Md_factHere_6 c k4 v2 v1 N
def B_Md_factHere_4 (c : Nat) (k4 : Int32 → Int32 → hn → Option (Int32 × hn)) (v1 : Int32) (v2 : Int32) (s0 : Int32) (N : hn) : Option (Int32 × hn) :=
  (if s0 = 0 then B_Md_factHere_5 c k4 v1 v2 N else hbN (F_Md_isWord c ((15 : Int32) + v2) N) fun r2 N1 => (if r2 = 0 then
  B_Md_factHere_5 c k4 v1 v2 N1 else B_Md_factHere_6 c k4 v2 v2 N1))
def B_Md_factHere_3 (c : Nat) (k4 : Int32 → Int32 → hn → Option (Int32 × hn)) (v1 : Int32) (v2 : Int32) (N : hn) : Option (Int32 × hn) :=
  B_Md_factHere_4 c k4 v1 v2 (0 : Int32) N
def B_Md_factHere_2 (c : Nat) (k4 : Int32 → Int32 → hn → Option (Int32 × hn)) (v1 : Int32) (v2 : Int32) (N : hn) : Option (Int32 × hn) :=
  (if v2 < (4 : Int32) then B_Md_factHere_3 c k4 v1 v2 N else (if (N.1 76 17) = (3 : Int32) then B_Md_factHere_4 c k4 v1 v2 (1 : Int32) N
  else B_Md_factHere_3 c k4 v1 v2 N))
def B_Md_factHere_1 (c : Nat) (k4 : Int32 → Int32 → hn → Option (Int32 × hn)) (v1 : Int32) (v2 : Int32) (N : hn) : Option (Int32 × hn) :=
  (if (7 : Int32) ≤ v2 then some (v1, N) else (if v2 < (2 : Int32) then B_Md_factHere_4 c k4 v1 v2 (1 : Int32) N else (if (4 : Int32) ≤ v2 then
  B_Md_factHere_2 c k4 v1 v2 N else (if (N.1 76 17) < (2 : Int32) then B_Md_factHere_4 c k4 v1 v2 (1 : Int32) N else B_Md_factHere_2 c k4 v1 v2 N))))
def F_Md_factHere_1 (c : Nat) (n : Nat) : Int32 → Int32 → hn → Option (Int32 × hn) := hm_it (B_Md_factHere_1 c ) (fun _ _ _ => none) n
def F_Md_factHere (c : Nat)  (N : hn) : Option (Int32 × hn) :=
  F_Md_factHere_1 c hN (-1 : Int32) (0 : Int32) N
def F_Md_takeSign (c : Nat) (v1 : Int32) (N : hn) : Option hn :=
  hbN (F_Md_isSign c v1 N) fun r2 N1 => (if r2 = 0 then hvN (F_Md_wrong c (1 : Int32) N1) fun N3 => some N3
  else hl (hn_wI N1 76 7 ((N1.1 76 7) + (1 : Int32))) fun N4 => some N4)
def B_Md_takePart_5 (c : Nat) (rP : Int32 → hn → Option hn) (s0 : Int32) (s1 : Int32) (N : hn) : Option hn :=
  hvN (F_Md_emit c s1 s0 N) fun N1 => hl (hn_wI N1 76 7 ((N1.1 76 7) + (1 : Int32))) fun N2 => some N2
def B_Md_takePart_4 (c : Nat) (rP : Int32 → hn → Option hn) (v2 : Int32) (v3 : Int32) (s0 : Int32) (N : hn) : Option hn :=
  (if v2 = 0 then B_Md_takePart_5 c rP v3 s0 N else hg (hn_ix 1002 (N.1 76 7) = true) <|
  B_Md_takePart_5 c rP (N.2 80 (N.1 76 7).toNatClampNeg).toInt32 s0 N)
def B_Md_takePart_3 (c : Nat) (rP : Int32 → hn → Option hn) (v1 : Int32) (v2 : Int32) (v3 : Int32) (N : hn) : Option hn :=
  (if (N.1 76 8) ≤ 0 then hbN (F_Md_hasWord c (12 : Int32) N) fun r2 N1 => (if r2 = 0 then hbN (F_Md_hasSign c (40 : Int32) N1) fun r4 N3 =>
  (if r4 = 0 then (if v2 = 0 then B_Md_takePart_4 c rP v2 v3 (2 : Int32) N3 else B_Md_takePart_4 c rP v2 v3 (1 : Int32) N3)
  else hvN (F_Md_all c rP (v1 + (1 : Int32)) N3) fun N5 => hvN (F_Md_takeSign c (41 : Int32) N5) fun N6 => some N6)
  else hvN (rP (v1 + (1 : Int32)) N1) fun N7 => hvN (F_Md_emit c (3 : Int32) (0 : Int32) N7) fun N8 => some N8) else some N)
def B_Md_takePart_2 (c : Nat) (rP : Int32 → hn → Option hn) (v1 : Int32) (v2 : Int32) (v3 : Int32) (N : hn) : Option hn :=
  (if v1 = (5 : Int32) then hvN (F_Md_wrong c (5 : Int32) N) fun N1 => B_Md_takePart_3 c rP v1 v2 v3 N1 else B_Md_takePart_3 c rP v1 v2 v3 N)
def B_Md_takePart_1 (c : Nat) (rP : Int32 → hn → Option hn) (v1 : Int32) (s0 : Int32) (N : hn) : Option hn :=
  hbN (F_Md_factHere c N) fun r2 N1 => (if 0 ≤ r2 then B_Md_takePart_2 c rP v1 s0 r2 N1 else (if s0 = 0 then
  hbN (F_Md_isSign c (40 : Int32) N1) fun r4 N3 => (if r4 = 0 then hbN (F_Md_isWord c (12 : Int32) N3) fun r6 N5 => (if r6 = 0 then
  hvN (F_Md_wrong c (1 : Int32) N5) fun N7 => B_Md_takePart_3 c rP v1 s0 r2 N7 else B_Md_takePart_2 c rP v1 s0 r2 N5)
  else B_Md_takePart_2 c rP v1 s0 r2 N3) else B_Md_takePart_2 c rP v1 s0 r2 N1))
def E_Md_takePart (c : Nat) (rP : Int32 → hn → Option hn) (v1 : Int32) (N : hn) : Option hn :=
  (if (N.1 76 8) ≤ 0 then hg (hn_ix 1002 (N.1 76 7) = true) <| (if (N.1 78 (N.1 76 7).toNatClampNeg) = (2 : Int32) then
  B_Md_takePart_1 c rP v1 (1 : Int32) N else B_Md_takePart_1 c rP v1 (0 : Int32) N) else some N)
def F_Md_takePart (c : Nat) (n : Nat) : Int32 → hn → Option hn := hm_it (E_Md_takePart c) (fun _ _ => none) n
def B_Md_readLaw_2 (c : Nat) (k7 : Int32 → hn → Option hn) (v1 : Int32) (s0 : Int32) (N : hn) : Option hn :=
  hl (hn_wI N 76 17 s0) fun N1 => k7 (v1 + (1 : Int32)) N1
def B_Md_readLaw_1 (c : Nat) (k7 : Int32 → hn → Option hn) (v1 : Int32) (N : hn) : Option hn :=
  (if (4 : Int32) ≤ v1 then (if 0 ≤ (N.1 76 17) then hl (((145 : Int32) + (N.1 76 17)) : Int32) fun x1 => hg (hn_ix 160 x1 = true) <|
  (if (N.1 82 x1.toNatClampNeg) < 0 then hl (hn_wI N 76 7 ((N.1 76 7) + (1 : Int32))) fun N2 => hg (hn_ix 160 x1 = true) <|
  hl (hn_wI N2 82 x1.toNatClampNeg (N2.1 76 13)) fun N3 => hvN (F_Md_all c (F_Md_takePart c hD) (0 : Int32) N3) fun N4 =>
  hvN (F_Md_emit c (0 : Int32) (0 : Int32) N4) fun N5 => some N5 else hvN (F_Md_wrong c (3 : Int32) N) fun N6 => some N6)
  else hvN (F_Md_wrong c (1 : Int32) N) fun N7 => some N7) else hbN (F_Md_isWord c ((7 : Int32) + v1) N) fun r9 N8 => (if r9 = 0 then
  B_Md_readLaw_2 c k7 v1 (N8.1 76 17) N8 else B_Md_readLaw_2 c k7 v1 v1 N8))
def F_Md_readLaw_1 (c : Nat) (n : Nat) : Int32 → hn → Option hn := hm_it (B_Md_readLaw_1 c ) (fun _ _ => none) n
def F_Md_readLaw (c : Nat)  (N : hn) : Option hn :=
  hl (hn_wI N 76 17 (-1 : Int32)) fun N1 => F_Md_readLaw_1 c hN (0 : Int32) N1
def F_Md_readLine (c : Nat)  (N : hn) : Option hn :=
  hbN (F_Md_isWord c (0 : Int32) N) fun r2 N1 => (if r2 = 0 then hbN (F_Md_isWord c (1 : Int32) N1) fun r4 N3 => (if r4 = 0 then
  hbN (F_Md_isWord c (4 : Int32) N3) fun r6 N5 => (if r6 = 0 then hbN (F_Md_isWord c (11 : Int32) N5) fun r8 N7 => (if r8 = 0 then
  hvN (F_Md_readLaw c N7) fun N9 => some N9 else hvN (F_Md_readCloud c N7) fun N10 => some N10) else hvN (F_Md_readPane c N5) fun N11 => some N11)
  else hvN (F_Md_readGuild c N3) fun N12 => some N12) else hvN (F_Md_readFloor c N1) fun N13 => some N13)
def B_Md_chapel_8 (c : Nat) (k246 : Int32 → hn → Option (Int32 × hn)) (v1 : Int32) (N : hn) : Option (Int32 × hn) :=
  (if (4 : Int32) ≤ v1 then some ((0 : Int32), N) else hg (hn_ix 4 v1 = true) <|
  hl (hn_wI N 89 v1.toNatClampNeg (vp_nar .boolean (0 : Int32))) fun N1 => k246 (v1 + (1 : Int32)) N1)
def F_Md_chapel_8 (c : Nat) (n : Nat) : Int32 → hn → Option (Int32 × hn) := hm_it (B_Md_chapel_8 c ) (fun _ _ => none) n
def B_Md_chapel_7 (c : Nat) (k190 : Int32 → hn → Option (Int32 × hn)) (v1 : Int32) (N : hn) : Option (Int32 × hn) :=
  (if (12 : Int32) ≤ v1 then hg (hn_ix 1000 (12 : Int32) = true) <| hl (hn_wI N 88 (12 : Int32).toNatClampNeg (0 : Int32)) fun N1 =>
  hg (hn_ix 1000 (13 : Int32) = true) <| hl (hn_wI N1 88 (13 : Int32).toNatClampNeg (0 : Int32)) fun N2 => hl (hn_wI N2 76 21 (0 : Int32)) fun N3 =>
  F_Md_chapel_8 c hN (0 : Int32) N3 else hg (hn_ix 160 (((17 : Int32) + ((4 : Int32) * v1)) + (2 : Int32)) = true) <|
  hg (hn_ix 1000 ((0 : Int32) + v1) = true) <|
  hl (hn_wI N 88 ((0 : Int32) + v1).toNatClampNeg (N.1 82 (((17 : Int32) + ((4 : Int32) * v1)) + (2 : Int32)).toNatClampNeg)) fun N4 =>
  k190 (v1 + (1 : Int32)) N4)
def F_Md_chapel_7 (c : Nat) (n : Nat) : Int32 → hn → Option (Int32 × hn) := hm_it (B_Md_chapel_7 c ) (fun _ _ => none) n
def B_Md_chapel_6 (c : Nat) (k142 : Int32 → hn → Option (Int32 × hn)) (v1 : Int32) (N : hn) : Option (Int32 × hn) :=
  (if (N.1 76 13) ≤ v1 then F_Md_chapel_7 c hN (0 : Int32) N else hg (hn_ix 2200 ((1100 : Int32) + v1) = true) <| hg (hn_ix 2200 v1 = true) <|
  hl (hn_wI N 83 v1.toNatClampNeg (N.1 83 ((1100 : Int32) + v1).toNatClampNeg)) fun N1 => hg (hn_ix 2200 ((1100 : Int32) + v1) = true) <|
  hg (hn_ix 2200 v1 = true) <| hl (hn_wI N1 84 v1.toNatClampNeg (N1.1 84 ((1100 : Int32) + v1).toNatClampNeg)) fun N2 => k142 (v1 + (1 : Int32)) N2)
def F_Md_chapel_6 (c : Nat) (n : Nat) : Int32 → hn → Option (Int32 × hn) := hm_it (B_Md_chapel_6 c ) (fun _ _ => none) n
def B_Md_chapel_5 (c : Nat) (k113 : Int32 → hn → Option (Int32 × hn)) (v1 : Int32) (N : hn) : Option (Int32 × hn) :=
  (if (80 : Int32) ≤ v1 then F_Md_chapel_6 c hN (0 : Int32) N else hg (hn_ix 160 ((80 : Int32) + v1) = true) <| hg (hn_ix 160 v1 = true) <|
  hl (hn_wI N 82 v1.toNatClampNeg (N.1 82 ((80 : Int32) + v1).toNatClampNeg)) fun N1 => k113 (v1 + (1 : Int32)) N1)
def F_Md_chapel_5 (c : Nat) (n : Nat) : Int32 → hn → Option (Int32 × hn) := hm_it (B_Md_chapel_5 c ) (fun _ _ => none) n
def B_Md_chapel_4 (c : Nat)  (N : hn) : Option (Int32 × hn) :=
  (if (N.1 76 8) ≤ 0 then F_Md_chapel_5 c hN (0 : Int32) N else some ((N.1 76 8), N))
def B_Md_chapel_3 (c : Nat) (k67 : hn → Option (Int32 × hn))  (N : hn) : Option (Int32 × hn) :=
  (if (N.1 76 8) = 0 then hg (hn_ix 1002 (N.1 76 7) = true) <| (if (N.1 78 (N.1 76 7).toNatClampNeg) = 0 then B_Md_chapel_4 c N
  else hvN (F_Md_readLine c N) fun N1 => hvN (F_Md_takeSign c (59 : Int32) N1) fun N2 => k67 N2) else B_Md_chapel_4 c N)
def F_Md_chapel_3 (c : Nat) (n : Nat) : hn → Option (Int32 × hn) := hm_it (B_Md_chapel_3 c ) (fun _ => none) n
def B_Md_chapel_2 (c : Nat) (k26 : Int32 → hn → Option (Int32 × hn)) (v1 : Int32) (s0 : Int32) (s1 : Int32) (N : hn) : Option (Int32 × hn) :=
  hg (hn_ix 160 s1 = true) <| hl (hn_wI N 82 s1.toNatClampNeg s0) fun N1 => k26 (v1 + (1 : Int32)) N1
def B_Md_chapel_1 (c : Nat) (k26 : Int32 → hn → Option (Int32 × hn)) (v1 : Int32) (N : hn) : Option (Int32 × hn) :=
  (if (80 : Int32) ≤ v1 then F_Md_chapel_3 c hN N else (if (2 : Int32) ≤ v1 then (if v1 < (65 : Int32) then
  B_Md_chapel_2 c k26 v1 (0 : Int32) ((80 : Int32) + v1) N else B_Md_chapel_2 c k26 v1 (-1 : Int32) ((80 : Int32) + v1) N)
  else B_Md_chapel_2 c k26 v1 (4 : Int32) ((80 : Int32) + v1) N))
def F_Md_chapel_1 (c : Nat) (n : Nat) : Int32 → hn → Option (Int32 × hn) := hm_it (B_Md_chapel_1 c ) (fun _ _ => none) n
def F_Md_chapel (c : Nat)  (N : hn) : Option (Int32 × hn) :=
  hl (hn_wI N 76 0 (0 : Int32)) fun N1 => hvN (F_Md_cutAll c N1) fun N2 => hl (hn_wI N2 76 13 (0 : Int32)) fun N3 =>
  hl (hn_wI N3 76 15 (0 : Int32)) fun N4 => hl (hn_wI N4 76 16 (0 : Int32)) fun N5 => F_Md_chapel_1 c hN (0 : Int32) N5
def F_Md_clear (c : Nat)  (N : hn) : Option (Int32 × hn) :=
  hl (hn_wI N 76 0 (0 : Int32)) fun N1 => hg (hn_ix 1000 (13 : Int32) = true) <| hl (hn_wI N1 88 (13 : Int32).toNatClampNeg (0 : Int32)) fun N2 =>
  some ((1 : Int32), N2)
def F_Md_guilds (c : Nat)  (N : hn) : Option (Int32 × hn) :=
  hg (hn_ix 160 (3 : Int32) = true) <| some ((N.1 82 (3 : Int32).toNatClampNeg), N)
def F_Md_isGuild (c : Nat) (v1 : Int32) (N : hn) : Option (Int32 × hn) :=
  (if v1 < 0 then some ((0 : Int32), N) else hbN (F_Md_guilds c N) fun r2 N1 => (if r2 ≤ v1 then some ((0 : Int32), N1) else some ((1 : Int32), N1)))
def F_Md_draw (c : Nat) (v1 : Int32) (N : hn) : Option (Int32 × hn) :=
  hl (hn_wL N 76 34 ((((N.2 76 34) * (1103515245 : Int64)) + (12345 : Int64)) - (((N.2 76 34) * (1103515245 : Int64)) + (12345 : Int64)) / (2147483648 : Int64) * (2147483648 : Int64))) fun N1 =>
  hg (¬ v1.toInt64 = 0) <| some ((((N1.2 76 34) / (65536 : Int64)) - ((N1.2 76 34) / (65536 : Int64)) / v1.toInt64 * v1.toInt64).toInt32, N1)
def B_Md_rentsOf_2 (c : Nat) (k4 : Int32 → Int32 → Int32 → hn → Option (Int32 × hn)) (v1 : Int32) (v3 : Int32) (s0 : Int32) (s1 : Int32) (N : hn) : Option (Int32 × hn) :=
  hl ((s1 + s0) : Int32) fun x1 => k4 v1 x1 (v3 + (1 : Int32)) N
def B_Md_rentsOf_1 (c : Nat) (k4 : Int32 → Int32 → Int32 → hn → Option (Int32 × hn)) (v1 : Int32) (v2 : Int32) (v3 : Int32) (N : hn) : Option (Int32 × hn) :=
  hbN (F_Md_panes c N) fun r2 N1 => (if r2 ≤ v3 then some (v2, N1) else hbN (F_Md_ownerOf c v3 N1) fun r4 N3 => (if r4 = v1 then
  hg (hn_ix 12 v3 = true) <| B_Md_rentsOf_2 c k4 v1 v3 (N3.1 91 v3.toNatClampNeg) v2 N3 else B_Md_rentsOf_2 c k4 v1 v3 (0 : Int32) v2 N3))
def F_Md_rentsOf_1 (c : Nat) (n : Nat) : Int32 → Int32 → Int32 → hn → Option (Int32 × hn) := hm_it (B_Md_rentsOf_1 c ) (fun _ _ _ _ => none) n
def F_Md_rentsOf (c : Nat) (v1 : Int32) (N : hn) : Option (Int32 × hn) :=
  F_Md_rentsOf_1 c hN v1 (0 : Int32) (0 : Int32) N
def B_Md_clouded_6 (c : Nat) (k116 : Int32 → Int32 → Int32 → hn → Option (Int32 × hn)) (v2 : Int32) (v4 : Int32) (s0 : Int32) (s1 : Int32) (N : hn) : Option (Int32 × hn) :=
  hl ((s1 + s0) : Int32) fun x1 => k116 v2 x1 (v4 + (1 : Int32)) N
def B_Md_clouded_5 (c : Nat) (k116 : Int32 → Int32 → Int32 → hn → Option (Int32 × hn)) (v2 : Int32) (v3 : Int32) (v4 : Int32) (N : hn) : Option (Int32 × hn) :=
  hbN (F_Md_guilds c N) fun r2 N1 => (if r2 ≤ v4 then (if v2 = (-1 : Int32) then some (v3, N1) else hbN (F_Md_rentsOf c v2 N1) fun r4 N3 =>
  some (r4, N3)) else hbN (F_Md_rentsOf c v4 N1) fun r6 N5 => hg (hn_ix 160 (((5 : Int32) + ((2 : Int32) * v4)) + (1 : Int32)) = true) <|
  (if (N5.1 82 (((5 : Int32) + ((2 : Int32) * v4)) + (1 : Int32)).toNatClampNeg) ≤ r6 then B_Md_clouded_6 c k116 v2 v4 (0 : Int32) v3 N5
  else B_Md_clouded_6 c k116 v2 v4 (1 : Int32) v3 N5))
def F_Md_clouded_5 (c : Nat) (n : Nat) : Int32 → Int32 → Int32 → hn → Option (Int32 × hn) := hm_it (B_Md_clouded_5 c ) (fun _ _ _ _ => none) n
def B_Md_clouded_4 (c : Nat) (k71 : Int32 → Int32 → hn → Option (Int32 × hn)) (v2 : Int32) (v3 : Int32) (N : hn) : Option (Int32 × hn) :=
  (if (1248 : Int32) ≤ v3 then F_Md_clouded_5 c hN v2 (0 : Int32) (0 : Int32) N else hbN (F_Md_draw c (8 : Int32) N) fun r2 N1 =>
  hg (hn_ix 160 (2 : Int32) = true) <| (if r2 < (N1.1 82 (2 : Int32).toNatClampNeg) then k71 v2 (v3 + (1 : Int32)) N1
  else hvN (F_Md_addsYields c (v3 / (24 : Int32)) (v3 - v3 / (24 : Int32) * (24 : Int32)) N1) fun N3 => k71 v2 (v3 + (1 : Int32)) N3))
def F_Md_clouded_4 (c : Nat) (n : Nat) : Int32 → Int32 → hn → Option (Int32 × hn) := hm_it (B_Md_clouded_4 c ) (fun _ _ _ => none) n
def B_Md_clouded_3 (c : Nat) (k50 : Int32 → Int32 → hn → Option (Int32 × hn)) (v2 : Int32) (v3 : Int32) (N : hn) : Option (Int32 × hn) :=
  (if (12 : Int32) ≤ v3 then F_Md_clouded_4 c hN v2 (0 : Int32) N else hg (hn_ix 12 v3 = true) <|
  hl (hn_wI N 91 v3.toNatClampNeg (0 : Int32)) fun N1 => k50 v2 (v3 + (1 : Int32)) N1)
def F_Md_clouded_3 (c : Nat) (n : Nat) : Int32 → Int32 → hn → Option (Int32 × hn) := hm_it (B_Md_clouded_3 c ) (fun _ _ _ => none) n
def B_Md_clouded_2 (c : Nat) (v1 : Int32) (v2 : Int32) (s0 : Int32) (N : hn) : Option (Int32 × hn) :=
  hl (hn_wI N 76 0 s0) fun N1 => (if (N1.1 76 0) ≤ 0 then hl (hn_wL N1 76 34 v1.toInt64) fun N2 => F_Md_clouded_3 c hN v2 (0 : Int32) N2
  else some ((0 : Int32), N1))
def B_Md_clouded_1 (c : Nat) (v1 : Int32) (v2 : Int32) (N : hn) : Option (Int32 × hn) :=
  B_Md_clouded_2 c v1 v2 (1 : Int32) N
def F_Md_clouded (c : Nat) (v1 : Int32) (v2 : Int32) (N : hn) : Option (Int32 × hn) :=
  hbN (F_Md_within c v1 (0 : Int32) (9999 : Int32) N) fun r2 N1 => (if r2 = 0 then B_Md_clouded_1 c v1 v2 N1 else (if v2 = (-1 : Int32) then
  B_Md_clouded_2 c v1 v2 (0 : Int32) N1 else hbN (F_Md_isGuild c v2 N1) fun r4 N3 => (if r4 = 0 then B_Md_clouded_1 c v1 v2 N3
  else B_Md_clouded_2 c v1 v2 (0 : Int32) N3)))
def F_Md_count (c : Nat) (v1 : Int32) (N : hn) : Option (Int32 × hn) :=
  hl (hn_wI N 76 0 (0 : Int32)) fun N1 => (if v1 = (0 : Int32) then hg (hn_ix 160 (0 : Int32) = true) <|
  some ((N1.1 82 (0 : Int32).toNatClampNeg), N1) else if v1 = (1 : Int32) then hg (hn_ix 160 (1 : Int32) = true) <|
  some ((N1.1 82 (1 : Int32).toNatClampNeg), N1) else if v1 = (2 : Int32) then hbN (F_Md_guilds c N1) fun r3 N2 => some (r3, N2)
  else if v1 = (3 : Int32) then hbN (F_Md_panes c N1) fun r5 N4 => some (r5, N4) else if v1 = (4 : Int32) then hg (hn_ix 1000 (12 : Int32) = true) <|
  hbN (F_Md_bits c (N1.1 88 (12 : Int32).toNatClampNeg) N1) fun r7 N6 => some (r7, N6) else if v1 = (5 : Int32) then some ((N1.1 76 21), N1)
  else if v1 = (6 : Int32) then hbN (F_Md_seens c N1) fun r9 N8 => some (r9, N8) else if v1 = (7 : Int32) then hg (hn_ix 160 (2 : Int32) = true) <|
  some ((N1.1 82 (2 : Int32).toNatClampNeg), N1) else if v1 = (8 : Int32) then some ((N1.1 76 2), N1) else some ((-1 : Int32), N1))
def F_Md_exchange (c : Nat) (v1 : Int32) (v2 : Int32) (N : hn) : Option (Int32 × hn) :=
  hl (hn_wI N 76 0 (0 : Int32)) fun N1 => hbN (F_Md_areUnlike c v1 v2 N1) fun r3 N2 => (if r3 = 0 then some ((0 : Int32), N2)
  else hvN (F_Md_keeps c N2) fun N4 => hbN (F_Md_ownerOf c v1 N4) fun r6 N5 => hbN (F_Md_ownerOf c v2 N5) fun r8 N7 =>
  hg (hn_ix 1000 ((0 : Int32) + v1) = true) <| hl (hn_wI N7 88 ((0 : Int32) + v1).toNatClampNeg r8) fun N9 =>
  hg (hn_ix 1000 ((0 : Int32) + v2) = true) <| hl (hn_wI N9 88 ((0 : Int32) + v2).toNatClampNeg r6) fun N10 => some ((1 : Int32), N10))
def B_Md_findFalls_6 (c : Nat) (k25 : Int32 → Int32 → hn → Option hn) (k43 : Int32 → Int32 → Int32 → Int32 → hn → Option hn) (k58 : Int32 → Int32 → Int32 → Int32 → Int32 → Int32 → hn → Option hn) (v1 : Int32) (v2 : Int32) (v3 : Int32) (v4 : Int32) (v6 : Int32) (s0 : Int32) (N : hn) : Option hn :=
  k58 v1 v2 v3 v4 s0 (v6 + (1 : Int32)) N
def B_Md_findFalls_5 (c : Nat) (k25 : Int32 → Int32 → hn → Option hn) (k43 : Int32 → Int32 → Int32 → Int32 → hn → Option hn) (k58 : Int32 → Int32 → Int32 → Int32 → Int32 → Int32 → hn → Option hn) (v1 : Int32) (v2 : Int32) (v3 : Int32) (v4 : Int32) (v6 : Int32) (N : hn) : Option hn :=
  B_Md_findFalls_6 c k25 k43 k58 v1 v2 v3 v4 v6 (0 : Int32) N
def B_Md_findFalls_4 (c : Nat) (k25 : Int32 → Int32 → hn → Option hn) (k43 : Int32 → Int32 → Int32 → Int32 → hn → Option hn) (k58 : Int32 → Int32 → Int32 → Int32 → Int32 → Int32 → hn → Option hn) (v1 : Int32) (v2 : Int32) (v3 : Int32) (v4 : Int32) (v5 : Int32) (v6 : Int32) (N : hn) : Option hn :=
  hbN (F_Md_panes c N) fun r2 N1 => (if r2 ≤ v6 then hg (hn_ix 6 v4 = true) <| (if (N1.1 94 v4.toNatClampNeg) = 0 then (if v5 = 0 then
  k43 v1 v2 v3 (v4 + (1 : Int32)) N1 else hbN (F_Md_rentsOf c v4 N1) fun r4 N3 =>
  hg (hn_ix 160 (((5 : Int32) + ((2 : Int32) * v4)) + (1 : Int32)) = true) <|
  (if (N3.1 82 (((5 : Int32) + ((2 : Int32) * v4)) + (1 : Int32)).toNatClampNeg) ≤ r4 then k43 v1 v2 v3 (v4 + (1 : Int32)) N3
  else hg (hn_ix 6 v4 = true) <| hl (hn_wI N3 94 v4.toNatClampNeg v1) fun N5 => hl ((v3 ||| ((1 : Int32) <<< (v4 &&& 31))) : Int32) fun x6 =>
  k43 v1 (1 : Int32) x6 (v4 + (1 : Int32)) N5)) else k43 v1 v2 v3 (v4 + (1 : Int32)) N1) else (if v5 = 0 then hbN (F_Md_ownerOf c v6 N1) fun r8 N7 =>
  (if r8 = v4 then hbN (F_Md_isBroken c v6 N7) fun r10 N9 => (if r10 = 0 then B_Md_findFalls_6 c k25 k43 k58 v1 v2 v3 v4 v6 (1 : Int32) N9
  else B_Md_findFalls_5 c k25 k43 k58 v1 v2 v3 v4 v6 N9) else B_Md_findFalls_5 c k25 k43 k58 v1 v2 v3 v4 v6 N7)
  else B_Md_findFalls_6 c k25 k43 k58 v1 v2 v3 v4 v6 (1 : Int32) N1))
def F_Md_findFalls_4 (c : Nat) (k25 : Int32 → Int32 → hn → Option hn) (k43 : Int32 → Int32 → Int32 → Int32 → hn → Option hn) (n : Nat) : Int32 → Int32 → Int32 → Int32 → Int32 → Int32 → hn → Option hn := hm_it (B_Md_findFalls_4 c k25 k43) (fun _ _ _ _ _ _ _ => none) n
def B_Md_findFalls_3 (c : Nat) (k25 : Int32 → Int32 → hn → Option hn) (k43 : Int32 → Int32 → Int32 → Int32 → hn → Option hn) (v1 : Int32) (v2 : Int32) (v3 : Int32) (v4 : Int32) (N : hn) : Option hn :=
  hbN (F_Md_guilds c N) fun r2 N1 => (if r2 ≤ v4 then hl (hn_wI N1 76 23 ((N1.1 76 23) ||| v3)) fun N3 => k25 v1 v2 N3
  else F_Md_findFalls_4 c k25 k43 hN v1 v2 v3 v4 (0 : Int32) (0 : Int32) N1)
def F_Md_findFalls_3 (c : Nat) (k25 : Int32 → Int32 → hn → Option hn) (n : Nat) : Int32 → Int32 → Int32 → Int32 → hn → Option hn := hm_it (B_Md_findFalls_3 c k25) (fun _ _ _ _ _ => none) n
def B_Md_findFalls_2 (c : Nat) (k25 : Int32 → Int32 → hn → Option hn) (v1 : Int32) (v2 : Int32) (N : hn) : Option hn :=
  (if v2 = 0 then hl (hn_wI N 76 23 (0 : Int32)) fun N1 => some N1 else hvN (F_Md_findYields c N) fun N2 =>
  F_Md_findFalls_3 c k25 hN (v1 + (1 : Int32)) (0 : Int32) (0 : Int32) (0 : Int32) N2)
def F_Md_findFalls_2 (c : Nat) (n : Nat) : Int32 → Int32 → hn → Option hn := hm_it (B_Md_findFalls_2 c ) (fun _ _ _ => none) n
def B_Md_findFalls_1 (c : Nat) (k2 : Int32 → hn → Option hn) (v1 : Int32) (N : hn) : Option hn :=
  (if (6 : Int32) ≤ v1 then F_Md_findFalls_2 c hN (0 : Int32) (1 : Int32) N else hg (hn_ix 6 v1 = true) <|
  hl (hn_wI N 94 v1.toNatClampNeg (0 : Int32)) fun N1 => k2 (v1 + (1 : Int32)) N1)
def F_Md_findFalls_1 (c : Nat) (n : Nat) : Int32 → hn → Option hn := hm_it (B_Md_findFalls_1 c ) (fun _ _ => none) n
def F_Md_findFalls (c : Nat)  (N : hn) : Option hn :=
  F_Md_findFalls_1 c hN (0 : Int32) N
def B_Md_fallen_2 (c : Nat) (k13 : Int32 → Int32 → hn → Option (Int32 × hn)) (v2 : Int32) (s0 : Int32) (s1 : Int32) (N : hn) : Option (Int32 × hn) :=
  hl ((s1 ||| s0) : Int32) fun x1 => k13 x1 (v2 + (1 : Int32)) N
def B_Md_fallen_1 (c : Nat) (k13 : Int32 → Int32 → hn → Option (Int32 × hn)) (v1 : Int32) (v2 : Int32) (N : hn) : Option (Int32 × hn) :=
  hbN (F_Md_guilds c N) fun r2 N1 => (if r2 ≤ v2 then some (v1, N1) else hg (hn_ix 6 v2 = true) <| (if (N1.1 94 v2.toNatClampNeg) ≤ 0 then
  B_Md_fallen_2 c k13 v2 (0 : Int32) v1 N1 else B_Md_fallen_2 c k13 v2 ((1 : Int32) <<< (v2 &&& 31)) v1 N1))
def F_Md_fallen_1 (c : Nat) (n : Nat) : Int32 → Int32 → hn → Option (Int32 × hn) := hm_it (B_Md_fallen_1 c ) (fun _ _ _ => none) n
def F_Md_fallen (c : Nat)  (N : hn) : Option (Int32 × hn) :=
  hl (hn_wI N 76 0 (0 : Int32)) fun N1 => hvN (F_Md_findFalls c N1) fun N2 => F_Md_fallen_1 c hN (0 : Int32) (0 : Int32) N2
def F_Md_falls (c : Nat) (v1 : Int32) (N : hn) : Option (Int32 × hn) :=
  hl (hn_wI N 76 0 (0 : Int32)) fun N1 => hbN (F_Md_isGuild c v1 N1) fun r3 N2 => (if r3 = 0 then some ((-1 : Int32), N2)
  else hvN (F_Md_findFalls c N2) fun N4 => hg (hn_ix 6 v1 = true) <| some ((N4.1 94 v1.toNatClampNeg), N4))
def B_Md_lay_2 (c : Nat) (k3 : Int64 → Int32 → hn → Option hn) (v1 : Int64) (v3 : Int32) (v4 : Int32) (N : hn) : Option hn :=
  (if (1000 : Int32) ≤ (N.1 76 2) then k3 v1 (v3 + (-8 : Int32)) N else hg (hn_ix 1000 (N.1 76 2) = true) <|
  hl (hn_wI N 77 (N.1 76 2).toNatClampNeg v4) fun N1 => hl (hn_wI N1 76 2 ((N1.1 76 2) + (1 : Int32))) fun N2 => k3 v1 (v3 + (-8 : Int32)) N2)
def B_Md_lay_1 (c : Nat) (k3 : Int64 → Int32 → hn → Option hn) (v1 : Int64) (v3 : Int32) (N : hn) : Option hn :=
  (if v3 < 0 then some N else hl (((v1 >>> (v3.toInt64 &&& 63)).toInt32 &&& (255 : Int32)) : Int32) fun x1 => (if x1 = (10 : Int32) then
  B_Md_lay_2 c k3 v1 v3 x1 N else (if x1 < (32 : Int32) then k3 v1 (v3 + (-8 : Int32)) N else (if (126 : Int32) < x1 then k3 v1 (v3 + (-8 : Int32)) N
  else B_Md_lay_2 c k3 v1 v3 x1 N))))
def F_Md_lay_1 (c : Nat) (n : Nat) : Int64 → Int32 → hn → Option hn := hm_it (B_Md_lay_1 c ) (fun _ _ _ => none) n
def F_Md_lay (c : Nat) (v1 : Int64) (N : hn) : Option hn :=
  F_Md_lay_1 c hN v1 (56 : Int32) N
def F_Md_feed (c : Nat) (v1 : Int64) (v3 : Int64) (v5 : Int64) (N : hn) : Option (Int32 × hn) :=
  hl (hn_wI N 76 0 (0 : Int32)) fun N1 => hvN (F_Md_lay c v1 N1) fun N2 => hvN (F_Md_lay c v3 N2) fun N3 => hvN (F_Md_lay c v5 N3) fun N4 =>
  some ((N4.1 76 2), N4)
def F_Md_isPlace (c : Nat) (v1 : Int32) (N : hn) : Option (Int32 × hn) :=
  hbN (F_Md_isOn c (v1 - v1 / (8 : Int32) * (8 : Int32)) (v1 / (8 : Int32)) N) fun r2 N1 => hg (r2 = 0 ∨ r2 = 1) <| some (r2, N1)
def B_Md_findMay_7 (c : Nat) (k101 : Int32 → Int32 → Int32 → hn → Option hn) (v4 : Int32) (v5 : Int32) (v6 : Int32) (s0 : Int32) (s1 : Int32) (N : hn) : Option hn :=
  hg (hn_ix 1536 s1 = true) <| hl (hn_wI N 95 s1.toNatClampNeg s0) fun N1 => k101 v4 v5 (v6 + (1 : Int32)) N1
def B_Md_findMay_6 (c : Nat) (k101 : Int32 → Int32 → Int32 → hn → Option hn) (v4 : Int32) (v5 : Int32) (v6 : Int32) (N : hn) : Option hn :=
  (if (64 : Int32) ≤ v6 then some N else (if v5 = 0 then hbN (F_Md_isPlace c v6 N) fun r2 N1 => (if r2 = 0 then
  B_Md_findMay_7 c k101 v4 v5 v6 (100000000 : Int32) (((64 : Int32) * v4) + v6) N1
  else B_Md_findMay_7 c k101 v4 v5 v6 (0 : Int32) (((64 : Int32) * v4) + v6) N1) else some N))
def F_Md_findMay_6 (c : Nat) (n : Nat) : Int32 → Int32 → Int32 → hn → Option hn := hm_it (B_Md_findMay_6 c ) (fun _ _ _ _ => none) n
def B_Md_findMay_5 (c : Nat) (k12 : Int32 → Int32 → Int32 → Int32 → hn → Option hn) (v1 : Int32) (v4 : Int32) (v5 : Int32) (v6 : Int32) (s0 : Int32) (s1 : Int32) (N : hn) : Option hn :=
  hg (hn_ix 1536 s1 = true) <| hl (hn_wI N 95 s1.toNatClampNeg s0) fun N1 => k12 v1 v4 v5 (v6 + (1 : Int32)) N1
def B_Md_findMay_4 (c : Nat) (k12 : Int32 → Int32 → Int32 → Int32 → hn → Option hn) (v1 : Int32) (v4 : Int32) (v6 : Int32) (v7 : Int32) (s0 : Int32) (N : hn) : Option hn :=
  (if v7 = 0 then B_Md_findMay_5 c k12 v1 v4 s0 v6 (100000000 : Int32) (((64 : Int32) * v4) + v6) N
  else B_Md_findMay_5 c k12 v1 v4 s0 v6 (0 : Int32) (((64 : Int32) * v4) + v6) N)
def B_Md_findMay_3 (c : Nat) (k12 : Int32 → Int32 → Int32 → Int32 → hn → Option hn) (v1 : Int32) (v4 : Int32) (v5 : Int32) (v6 : Int32) (s0 : Int32) (N : hn) : Option hn :=
  (if v5 = 0 then (if s0 = 0 then B_Md_findMay_4 c k12 v1 v4 v6 s0 (0 : Int32) N else B_Md_findMay_4 c k12 v1 v4 v6 s0 (1 : Int32) N)
  else B_Md_findMay_4 c k12 v1 v4 v6 s0 (1 : Int32) N)
def B_Md_findMay_2 (c : Nat) (k12 : Int32 → Int32 → Int32 → Int32 → hn → Option hn) (v1 : Int32) (v4 : Int32) (v5 : Int32) (v6 : Int32) (N : hn) : Option hn :=
  B_Md_findMay_3 c k12 v1 v4 v5 v6 (0 : Int32) N
def B_Md_findMay_1 (c : Nat) (k12 : Int32 → Int32 → Int32 → Int32 → hn → Option hn) (v1 : Int32) (v4 : Int32) (v5 : Int32) (v6 : Int32) (N : hn) : Option hn :=
  (if (64 : Int32) ≤ v6 then F_Md_findMay_6 c hN v4 v5 (0 : Int32) N else hbN (F_Md_isPlace c v6 N) fun r2 N1 => (if r2 = 0 then
  B_Md_findMay_2 c k12 v1 v4 v5 v6 N1 else hbN (F_Md_lightAt c v6 (0 : Int32) N1) fun r4 N3 => (if ((r4 >>>
  (v1 &&& 31)) &&& (1 : Int32)) = (1 : Int32) then B_Md_findMay_3 c k12 v1 v4 v5 v6 (1 : Int32) N3 else B_Md_findMay_2 c k12 v1 v4 v5 v6 N3)))
def F_Md_findMay_1 (c : Nat) (n : Nat) : Int32 → Int32 → Int32 → Int32 → hn → Option hn := hm_it (B_Md_findMay_1 c ) (fun _ _ _ _ _ => none) n
def F_Md_findMay (c : Nat) (v1 : Int32) (v2 : Int32) (v3 : Int32) (v4 : Int32) (N : hn) : Option hn :=
  hvN (F_Md_findLight c v2 v3 N) fun N1 => F_Md_findMay_1 c hN v1 v4 (0 : Int32) (0 : Int32) N1
def B_Md_steps_2 (c : Nat) (s0 : Int32) (s1 : Int32) (N : hn) : Option (Int32 × hn) :=
  some ((s1 + s0), N)
def B_Md_steps_1 (c : Nat) (v3 : Int32) (s0 : Int32) (N : hn) : Option (Int32 × hn) :=
  (if 0 ≤ v3 then B_Md_steps_2 c v3 s0 N else B_Md_steps_2 c (-v3) s0 N)
def F_Md_steps (c : Nat) (v0 : Int32) (v1 : Int32) (N : hn) : Option (Int32 × hn) :=
  hl (((v0 - v0 / (8 : Int32) * (8 : Int32)) - (v1 - v1 / (8 : Int32) * (8 : Int32))) : Int32) fun x1 =>
  hl (((v0 / (8 : Int32)) - (v1 / (8 : Int32))) : Int32) fun x2 => (if 0 ≤ x1 then B_Md_steps_1 c x2 x1 N else B_Md_steps_1 c x2 (-x1) N)
def B_Md_near_2 (c : Nat) (k6 : Nat → Int32 → Int32 → Int32 → Int32 → hn → Option (Int32 × hn)) (v1 : Nat) (v2 : Int32) (v3 : Int32) (v5 : Int32) (s0 : Int32) (s1 : Int32) (N : hn) : Option (Int32 × hn) :=
  hl ((s1 + s0) : Int32) fun x1 => k6 v1 v2 v3 x1 (v5 + (1 : Int32)) N
def B_Md_near_1 (c : Nat) (k6 : Nat → Int32 → Int32 → Int32 → Int32 → hn → Option (Int32 × hn)) (v1 : Nat) (v2 : Int32) (v3 : Int32) (v4 : Int32) (v5 : Int32) (N : hn) : Option (Int32 × hn) :=
  (if (64 : Int32) ≤ v5 then some (v4, N) else hbN (F_Md_steps c v3 v5 N) fun r2 N1 => (if (1 : Int32) < r2 then
  B_Md_near_2 c k6 v1 v2 v3 v5 (0 : Int32) v4 N1 else hg (hm_ib S0 v1 .int (((64 : Int32) * v2) + v5) = true) <|
  B_Md_near_2 c k6 v1 v2 v3 v5 (N1.1 v1 (((64 : Int32) * v2) + v5).toNatClampNeg) v4 N1))
def F_Md_near_1 (c : Nat) (n : Nat) : Nat → Int32 → Int32 → Int32 → Int32 → hn → Option (Int32 × hn) := hm_it (B_Md_near_1 c ) (fun _ _ _ _ _ _ => none) n
def F_Md_near (c : Nat) (v1 : Nat) (v2 : Int32) (v3 : Int32) (N : hn) : Option (Int32 × hn) :=
  F_Md_near_1 c hN v1 v2 v3 (0 : Int32) (0 : Int32) N
def B_Md_findStains_11 (c : Nat) (k258 : Int32 → Int32 → hn → Option (Int32 × hn)) (v5 : Int32) (v6 : Int32) (N : hn) : Option (Int32 × hn) :=
  (if (64 : Int32) ≤ v6 then some (v5, N) else hg (hn_ix 384 v6 = true) <| hl ((v5 + (N.1 97 v6.toNatClampNeg)) : Int32) fun x1 =>
  k258 x1 (v6 + (1 : Int32)) N)
def F_Md_findStains_11 (c : Nat) (n : Nat) : Int32 → Int32 → hn → Option (Int32 × hn) := hm_it (B_Md_findStains_11 c ) (fun _ _ _ => none) n
def B_Md_findStains_10 (c : Nat) (k178 : Int32 → hn → Option (Int32 × hn)) (k186 : Int32 → Int32 → hn → Option (Int32 × hn)) (v5 : Int32) (v6 : Int32) (s0 : Int32) (s1 : Int32) (N : hn) : Option (Int32 × hn) :=
  hg (hn_ix 384 s1 = true) <| hl (hn_wI N 97 s1.toNatClampNeg s0) fun N1 => k186 v5 (v6 + (1 : Int32)) N1
def B_Md_findStains_9 (c : Nat) (k178 : Int32 → hn → Option (Int32 × hn)) (k186 : Int32 → Int32 → hn → Option (Int32 × hn)) (v5 : Int32) (v6 : Int32) (N : hn) : Option (Int32 × hn) :=
  (if (64 : Int32) ≤ v6 then k178 (v5 + (-1 : Int32)) N else hg (hn_ix 384 (((64 : Int32) * v5) + v6) = true) <|
  (if (N.1 97 (((64 : Int32) * v5) + v6).toNatClampNeg) = 0 then B_Md_findStains_10 c k178 k186 v5 v6 (0 : Int32) (((64 : Int32) * v5) + v6) N
  else hbN (F_Md_near c 97 (v5 + (1 : Int32)) v6 N) fun r2 N1 => B_Md_findStains_10 c k178 k186 v5 v6 r2 (((64 : Int32) * v5) + v6) N1))
def F_Md_findStains_9 (c : Nat) (k178 : Int32 → hn → Option (Int32 × hn)) (n : Nat) : Int32 → Int32 → hn → Option (Int32 × hn) := hm_it (B_Md_findStains_9 c k178) (fun _ _ _ => none) n
def B_Md_findStains_8 (c : Nat) (k178 : Int32 → hn → Option (Int32 × hn)) (v5 : Int32) (N : hn) : Option (Int32 × hn) :=
  (if v5 < 0 then F_Md_findStains_11 c hN (0 : Int32) (0 : Int32) N else F_Md_findStains_9 c k178 hN v5 (0 : Int32) N)
def F_Md_findStains_8 (c : Nat) (n : Nat) : Int32 → hn → Option (Int32 × hn) := hm_it (B_Md_findStains_8 c ) (fun _ _ => none) n
def B_Md_findStains_7 (c : Nat) (k3 : Int32 → Int32 → Int32 → Int32 → Int32 → hn → Option (Int32 × hn)) (k21 : Int32 → Int32 → Int32 → Int32 → Int32 → Int32 → hn → Option (Int32 × hn)) (v1 : Int32) (v2 : Int32) (v3 : Int32) (v4 : Int32) (v5 : Int32) (v6 : Int32) (s0 : Int32) (s1 : Int32) (N : hn) : Option (Int32 × hn) :=
  hg (hn_ix 384 s1 = true) <| hl (hn_wI N 97 s1.toNatClampNeg s0) fun N1 => k21 v1 v2 v3 v4 v5 (v6 + (1 : Int32)) N1
def B_Md_findStains_6 (c : Nat) (k3 : Int32 → Int32 → Int32 → Int32 → Int32 → hn → Option (Int32 × hn)) (k21 : Int32 → Int32 → Int32 → Int32 → Int32 → Int32 → hn → Option (Int32 × hn)) (v1 : Int32) (v2 : Int32) (v3 : Int32) (v4 : Int32) (v5 : Int32) (v6 : Int32) (v7 : Int32) (s0 : Int32) (s1 : Int32) (N : hn) : Option (Int32 × hn) :=
  hg (hn_ix 384 s1 = true) <| hl (hn_wI N 96 s1.toNatClampNeg s0) fun N1 => (if v7 = 0 then
  B_Md_findStains_7 c k3 k21 v1 v2 v3 v4 v5 v6 (0 : Int32) (((64 : Int32) * v5) + v6) N1
  else B_Md_findStains_7 c k3 k21 v1 v2 v3 v4 v5 v6 (1 : Int32) (((64 : Int32) * v5) + v6) N1)
def B_Md_findStains_5 (c : Nat) (k3 : Int32 → Int32 → Int32 → Int32 → Int32 → hn → Option (Int32 × hn)) (k21 : Int32 → Int32 → Int32 → Int32 → Int32 → Int32 → hn → Option (Int32 × hn)) (v1 : Int32) (v2 : Int32) (v3 : Int32) (v4 : Int32) (v5 : Int32) (v6 : Int32) (v7 : Int32) (s0 : Int32) (s1 : Int32) (N : hn) : Option (Int32 × hn) :=
  hg (hn_ix 384 s1 = true) <| hl (hn_wI N 98 s1.toNatClampNeg s0) fun N1 => (if v7 = 0 then
  B_Md_findStains_6 c k3 k21 v1 v2 v3 v4 v5 v6 v7 (0 : Int32) (((64 : Int32) * v5) + v6) N1 else (if v5 = 0 then
  B_Md_findStains_6 c k3 k21 v1 v2 v3 v4 v5 v6 v7 (1 : Int32) (((64 : Int32) * v5) + v6) N1
  else hbN (F_Md_near c 96 (v5 - (1 : Int32)) v6 N1) fun r3 N2 => B_Md_findStains_6 c k3 k21 v1 v2 v3 v4 v5 v6 v7 r3 (((64 : Int32) * v5) + v6) N2))
def B_Md_findStains_4 (c : Nat) (k3 : Int32 → Int32 → Int32 → Int32 → Int32 → hn → Option (Int32 × hn)) (k21 : Int32 → Int32 → Int32 → Int32 → Int32 → Int32 → hn → Option (Int32 × hn)) (v1 : Int32) (v2 : Int32) (v3 : Int32) (v4 : Int32) (v5 : Int32) (v6 : Int32) (s0 : Int32) (N : hn) : Option (Int32 × hn) :=
  (if s0 = 0 then B_Md_findStains_5 c k3 k21 v1 v2 v3 v4 v5 v6 s0 (0 : Int32) (((64 : Int32) * v5) + v6) N
  else hbN (F_Md_lightAt c v6 (0 : Int32) N) fun r2 N1 => B_Md_findStains_5 c k3 k21 v1 v2 v3 v4 v5 v6 s0 r2 (((64 : Int32) * v5) + v6) N1)
def B_Md_findStains_3 (c : Nat) (k3 : Int32 → Int32 → Int32 → Int32 → Int32 → hn → Option (Int32 × hn)) (k21 : Int32 → Int32 → Int32 → Int32 → Int32 → Int32 → hn → Option (Int32 × hn)) (v1 : Int32) (v2 : Int32) (v3 : Int32) (v4 : Int32) (v5 : Int32) (v6 : Int32) (N : hn) : Option (Int32 × hn) :=
  B_Md_findStains_4 c k3 k21 v1 v2 v3 v4 v5 v6 (0 : Int32) N
def B_Md_findStains_2 (c : Nat) (k3 : Int32 → Int32 → Int32 → Int32 → Int32 → hn → Option (Int32 × hn)) (k21 : Int32 → Int32 → Int32 → Int32 → Int32 → Int32 → hn → Option (Int32 × hn)) (v1 : Int32) (v2 : Int32) (v3 : Int32) (v4 : Int32) (v5 : Int32) (v6 : Int32) (N : hn) : Option (Int32 × hn) :=
  (if (64 : Int32) ≤ v6 then k3 v1 v2 v3 v4 (v5 + (1 : Int32)) N else hbN (F_Md_isPlace c v6 N) fun r2 N1 => (if r2 = 0 then
  B_Md_findStains_3 c k3 k21 v1 v2 v3 v4 v5 v6 N1 else hbN (F_Md_lightAt c v6 (1 : Int32) N1) fun r4 N3 => (if r4 = ((v4 >>>
  (((3 : Int32) * v5) &&& 31)) &&& (7 : Int32)) then B_Md_findStains_4 c k3 k21 v1 v2 v3 v4 v5 v6 (1 : Int32) N3
  else B_Md_findStains_3 c k3 k21 v1 v2 v3 v4 v5 v6 N3)))
def F_Md_findStains_2 (c : Nat) (k3 : Int32 → Int32 → Int32 → Int32 → Int32 → hn → Option (Int32 × hn)) (n : Nat) : Int32 → Int32 → Int32 → Int32 → Int32 → Int32 → hn → Option (Int32 × hn) := hm_it (B_Md_findStains_2 c k3) (fun _ _ _ _ _ _ _ => none) n
def B_Md_findStains_1 (c : Nat) (k3 : Int32 → Int32 → Int32 → Int32 → Int32 → hn → Option (Int32 × hn)) (v1 : Int32) (v2 : Int32) (v3 : Int32) (v4 : Int32) (v5 : Int32) (N : hn) : Option (Int32 × hn) :=
  (if v3 ≤ v5 then hl ((v3 - (2 : Int32)) : Int32) fun x1 => F_Md_findStains_8 c hN x1 N else hvN (F_Md_findLight c v1 (v2 + v5) N) fun N2 =>
  F_Md_findStains_2 c k3 hN v1 v2 v3 v4 v5 (0 : Int32) N2)
def F_Md_findStains_1 (c : Nat) (n : Nat) : Int32 → Int32 → Int32 → Int32 → Int32 → hn → Option (Int32 × hn) := hm_it (B_Md_findStains_1 c ) (fun _ _ _ _ _ _ => none) n
def F_Md_findStains (c : Nat) (v1 : Int32) (v2 : Int32) (v3 : Int32) (v4 : Int32) (N : hn) : Option (Int32 × hn) :=
  F_Md_findStains_1 c hN v1 v2 v3 v4 (0 : Int32) N
def F_Md_gain (c : Nat) (v1 : Int32) (v2 : Int32) (N : hn) : Option (Int32 × hn) :=
  hl (hn_wI N 76 0 (0 : Int32)) fun N1 => hbN (F_Md_areUnlike c v1 v2 N1) fun r3 N2 => (if r3 = 0 then some ((-1 : Int32), N2)
  else hvN (F_Md_findYields c N2) fun N4 => hbN (F_Md_gainOf c v1 v2 N4) fun r6 N5 => some (r6, N5))
def B_Md_guild_2 (c : Nat) (k29 : Int32 → Int32 → Int32 → Int32 → hn → Option (Int32 × hn)) (v1 : Int32) (v2 : Int32) (v4 : Int32) (s0 : Int32) (s1 : Int32) (N : hn) : Option (Int32 × hn) :=
  hl ((s1 ||| s0) : Int32) fun x1 => k29 v1 v2 x1 (v4 + (1 : Int32)) N
def B_Md_guild_1 (c : Nat) (k29 : Int32 → Int32 → Int32 → Int32 → hn → Option (Int32 × hn)) (v1 : Int32) (v2 : Int32) (v3 : Int32) (v4 : Int32) (N : hn) : Option (Int32 × hn) :=
  hbN (F_Md_panes c N) fun r2 N1 => (if r2 ≤ v4 then (if (2 : Int32) ≤ v2 then some (v3, N1)
  else hg (hn_ix 160 (((5 : Int32) + ((2 : Int32) * v1)) + v2) = true) <|
  some ((N1.1 82 (((5 : Int32) + ((2 : Int32) * v1)) + v2).toNatClampNeg), N1)) else hbN (F_Md_ownerOf c v4 N1) fun r4 N3 => (if r4 = v1 then
  B_Md_guild_2 c k29 v1 v2 v4 ((1 : Int32) <<< (v4 &&& 31)) v3 N3 else B_Md_guild_2 c k29 v1 v2 v4 (0 : Int32) v3 N3))
def F_Md_guild_1 (c : Nat) (n : Nat) : Int32 → Int32 → Int32 → Int32 → hn → Option (Int32 × hn) := hm_it (B_Md_guild_1 c ) (fun _ _ _ _ _ => none) n
def F_Md_guild (c : Nat) (v1 : Int32) (v2 : Int32) (N : hn) : Option (Int32 × hn) :=
  hl (hn_wI N 76 0 (0 : Int32)) fun N1 => hbN (F_Md_isGuild c v1 N1) fun r3 N2 => (if r3 = 0 then some ((-1 : Int32), N2)
  else hbN (F_Md_within c v2 (0 : Int32) (2 : Int32) N2) fun r5 N4 => (if r5 = 0 then some ((-1 : Int32), N4)
  else F_Md_guild_1 c hN v1 v2 (0 : Int32) (0 : Int32) N4))
def B_Md_leastFrom_3 (c : Nat) (k7 : Int32 → Int32 → Int32 → Int32 → hn → Option (Int32 × hn)) (v1 : Int32) (v2 : Int32) (v4 : Int32) (s0 : Int32) (N : hn) : Option (Int32 × hn) :=
  k7 v1 v2 s0 (v4 + (1 : Int32)) N
def B_Md_leastFrom_2 (c : Nat) (k7 : Int32 → Int32 → Int32 → Int32 → hn → Option (Int32 × hn)) (v1 : Int32) (v2 : Int32) (v3 : Int32) (v4 : Int32) (s0 : Int32) (N : hn) : Option (Int32 × hn) :=
  (if v3 ≤ s0 then B_Md_leastFrom_3 c k7 v1 v2 v4 v3 N else B_Md_leastFrom_3 c k7 v1 v2 v4 s0 N)
def B_Md_leastFrom_1 (c : Nat) (k7 : Int32 → Int32 → Int32 → Int32 → hn → Option (Int32 × hn)) (v1 : Int32) (v2 : Int32) (v3 : Int32) (v4 : Int32) (N : hn) : Option (Int32 × hn) :=
  (if (64 : Int32) ≤ v4 then some (v3, N) else hg (hn_ix 1536 (((64 : Int32) * (v1 + (1 : Int32))) + v4) = true) <|
  (if (N.1 95 (((64 : Int32) * (v1 + (1 : Int32))) + v4).toNatClampNeg) < (100000000 : Int32) then hbN (F_Md_steps c v2 v4 N) fun r2 N1 =>
  B_Md_leastFrom_2 c k7 v1 v2 v3 v4 ((N.1 95 (((64 : Int32) * (v1 + (1 : Int32))) + v4).toNatClampNeg) + r2) N1
  else B_Md_leastFrom_2 c k7 v1 v2 v3 v4 (100000000 : Int32) N))
def F_Md_leastFrom_1 (c : Nat) (n : Nat) : Int32 → Int32 → Int32 → Int32 → hn → Option (Int32 × hn) := hm_it (B_Md_leastFrom_1 c ) (fun _ _ _ _ _ => none) n
def F_Md_leastFrom (c : Nat) (v1 : Int32) (v2 : Int32) (N : hn) : Option (Int32 × hn) :=
  F_Md_leastFrom_1 c hN v1 v2 (100000000 : Int32) (0 : Int32) N
def B_Md_mark_1 (c : Nat) (v1 : Int32) (v2 : Int32) (N : hn) : Option (Int32 × hn) :=
  (if v2 = 0 then hg (hn_ix 4 v1 = true) <| hl (hn_wI N 89 v1.toNatClampNeg (vp_nar .boolean (1 : Int32))) fun N1 =>
  hvN (F_Md_copies c (0 : Int32) ((1 : Int32) + v1) (40 : Int32) N1) fun N2 => some ((1 : Int32), N2)
  else hvN (F_Md_copies c ((1 : Int32) + v1) (0 : Int32) (40 : Int32) N) fun N3 => hl (hn_wI N3 76 21 (0 : Int32)) fun N4 => some ((1 : Int32), N4))
def F_Md_mark (c : Nat) (v1 : Int32) (v2 : Int32) (N : hn) : Option (Int32 × hn) :=
  hl (hn_wI N 76 0 (0 : Int32)) fun N1 => hbN (F_Md_within c v1 (0 : Int32) (3 : Int32) N1) fun r3 N2 => (if r3 = 0 then some ((0 : Int32), N2)
  else (if v2 = 0 then B_Md_mark_1 c v1 v2 N2 else hg (hn_ix 4 v1 = true) <| (if (N2.1 89 v1.toNatClampNeg) = 0 then some ((0 : Int32), N2)
  else B_Md_mark_1 c v1 v2 N2)))
def F_Md_pane (c : Nat) (v1 : Int32) (v2 : Int32) (N : hn) : Option (Int32 × hn) :=
  hl (hn_wI N 76 0 (0 : Int32)) fun N1 => hbN (F_Md_isPane c v1 N1) fun r3 N2 => (if r3 = 0 then some ((-1 : Int32), N2)
  else hbN (F_Md_within c v2 (0 : Int32) (4 : Int32) N2) fun r5 N4 => (if r5 = 0 then some ((-1 : Int32), N4) else (if v2 = (2 : Int32) then
  hbN (F_Md_ownerOf c v1 N4) fun r11 N10 => some (r11, N10) else (if v2 = (4 : Int32) then hbN (F_Md_isBroken c v1 N4) fun r9 N8 => (if r9 = 0 then
  some ((0 : Int32), N8) else some ((1 : Int32), N8)) else hbN (F_Md_paneOf c v1 v2 N4) fun r7 N6 => some (r7, N6)))))
def F_Md_place (c : Nat) (v1 : Int32) (v2 : Int32) (v3 : Int32) (v4 : Int32) (v5 : Int32) (N : hn) : Option (Int32 × hn) :=
  hl (hn_wI N 76 0 (0 : Int32)) fun N1 => hbN (F_Md_isOn c v1 v2 N1) fun r3 N2 => (if r3 = 0 then some ((-1 : Int32), N2)
  else hbN (F_Md_isTime c v3 v4 N2) fun r5 N4 => (if r5 = 0 then some ((-1 : Int32), N4)
  else hbN (F_Md_within c v5 (0 : Int32) (2 : Int32) N4) fun r7 N6 => (if r7 = 0 then some ((-1 : Int32), N6)
  else hvN (F_Md_findLight c v3 v4 N6) fun N8 => hbN (F_Md_lightAt c (((8 : Int32) * v2) + v1) v5 N8) fun r10 N9 => some (r10, N9))))
def F_Md_rents (c : Nat) (v1 : Int32) (N : hn) : Option (Int32 × hn) :=
  hl (hn_wI N 76 0 (0 : Int32)) fun N1 => hbN (F_Md_isGuild c v1 N1) fun r3 N2 => (if r3 = 0 then some ((-1 : Int32), N2)
  else hvN (F_Md_findYields c N2) fun N4 => hbN (F_Md_rentsOf c v1 N4) fun r6 N5 => some (r6, N5))
def F_Md_see (c : Nat) (v1 : Int32) (v2 : Int32) (v3 : Int32) (N : hn) : Option (Int32 × hn) :=
  hl (hn_wI N 76 0 (0 : Int32)) fun N1 => hbN (F_Md_isOn c v1 v2 N1) fun r3 N2 => (if r3 = 0 then some ((-1 : Int32), N2)
  else hbN (F_Md_within c v3 (0 : Int32) (7 : Int32) N2) fun r5 N4 => (if r5 = 0 then some ((-1 : Int32), N4) else hbN (F_Md_seens c N4) fun r7 N6 =>
  (if r7 = (8 : Int32) then some ((-1 : Int32), N6) else hbN (F_Md_seens c N6) fun r9 N8 =>
  hl (((14 : Int32) + ((3 : Int32) * r9)) : Int32) fun x10 => hg (hn_ix 1000 x10 = true) <| hl (hn_wI N8 88 x10.toNatClampNeg v1) fun N11 =>
  hg (hn_ix 1000 (x10 + (1 : Int32)) = true) <| hl (hn_wI N11 88 (x10 + (1 : Int32)).toNatClampNeg v2) fun N12 =>
  hg (hn_ix 1000 (x10 + (2 : Int32)) = true) <| hl (hn_wI N12 88 (x10 + (2 : Int32)).toNatClampNeg v3) fun N13 =>
  hg (hn_ix 1000 (13 : Int32) = true) <| hl (hn_wI N13 88 (13 : Int32).toNatClampNeg ((N13.1 88 (13 : Int32).toNatClampNeg) + (1 : Int32))) fun N14 =>
  hbN (F_Md_seens c N14) fun r16 N15 => some (r16, N15))))
def F_Md_spot (c : Nat) (v1 : Int32) (v2 : Int32) (v3 : Int32) (N : hn) : Option (Int32 × hn) :=
  hl (hn_wI N 76 0 (0 : Int32)) fun N1 => hbN (F_Md_isPane c v1 N1) fun r3 N2 => (if r3 = 0 then some ((-1 : Int32), N2)
  else hbN (F_Md_isTime c v2 v3 N2) fun r5 N4 => (if r5 = 0 then some ((-1 : Int32), N4) else hvN (F_Md_findLight c v2 v3 N4) fun N6 =>
  hg (hn_ix 12 v1 = true) <| some ((N6.1 90 v1.toNatClampNeg), N6)))
def F_Md_stains (c : Nat) (v1 : Int32) (v2 : Int32) (v3 : Int32) (v4 : Int32) (N : hn) : Option (Int32 × hn) :=
  hl (hn_wI N 76 0 (0 : Int32)) fun N1 => hbN (F_Md_canStain c v1 v2 v3 v4 N1) fun r3 N2 => (if r3 = 0 then some ((-1 : Int32), N2)
  else hbN (F_Md_findStains c v1 v2 v3 v4 N2) fun r5 N4 => some (r5, N4))
def B_Md_stall_10 (c : Nat) (k251 : Int32 → Int32 → Int32 → hn → Option (Int32 × hn)) (k278 : Int32 → Int32 → Int32 → Int32 → Int32 → hn → Option (Int32 × hn)) (v5 : Int32) (v8 : Int32) (v9 : Int32) (v10 : Int32) (v11 : Int32) (N : hn) : Option (Int32 × hn) :=
  hg (hn_ix 1536 (((64 : Int32) * v9) + v10) = true) <| (if (100000000 : Int32) ≤ (N.1 95 (((64 : Int32) * v9) + v10).toNatClampNeg) then
  k278 v5 v8 v9 (v10 + (1 : Int32)) v11 N else hbN (F_Md_steps c v8 v10 N) fun r2 N1 =>
  (if ((N.1 95 (((64 : Int32) * v9) + v10).toNatClampNeg) + r2) = v11 then k251 v5 v10 (v9 + (1 : Int32)) N1
  else k278 v5 v8 v9 (v10 + (1 : Int32)) v11 N1))
def F_Md_stall_10 (c : Nat) (k251 : Int32 → Int32 → Int32 → hn → Option (Int32 × hn)) (n : Nat) : Int32 → Int32 → Int32 → Int32 → Int32 → hn → Option (Int32 × hn) := hm_it (B_Md_stall_10 c k251) (fun _ _ _ _ _ _ => none) n
def B_Md_stall_9 (c : Nat) (k251 : Int32 → Int32 → Int32 → hn → Option (Int32 × hn)) (v5 : Int32) (v8 : Int32) (v9 : Int32) (N : hn) : Option (Int32 × hn) :=
  (if v5 < v9 then some (v8, N) else hg (hn_ix 1536 (((64 : Int32) * (v9 - (1 : Int32))) + v8) = true) <|
  hl ((N.1 95 (((64 : Int32) * (v9 - (1 : Int32))) + v8).toNatClampNeg) : Int32) fun x1 => F_Md_stall_10 c k251 hN v5 v8 v9 (0 : Int32) x1 N)
def F_Md_stall_9 (c : Nat) (n : Nat) : Int32 → Int32 → Int32 → hn → Option (Int32 × hn) := hm_it (B_Md_stall_9 c ) (fun _ _ _ _ => none) n
def B_Md_stall_8 (c : Nat) (k179 : Int32 → Int32 → Int32 → Int32 → hn → Option (Int32 × hn)) (v5 : Int32) (v8 : Int32) (v9 : Int32) (s0 : Int32) (N : hn) : Option (Int32 × hn) :=
  k179 v5 s0 v8 (v9 + (1 : Int32)) N
def B_Md_stall_7 (c : Nat) (k179 : Int32 → Int32 → Int32 → Int32 → hn → Option (Int32 × hn)) (v5 : Int32) (v7 : Int32) (v9 : Int32) (s0 : Int32) (N : hn) : Option (Int32 × hn) :=
  hg (hn_ix 1536 v9 = true) <| (if v7 ≤ (N.1 95 v9.toNatClampNeg) then B_Md_stall_8 c k179 v5 s0 v9 v7 N
  else B_Md_stall_8 c k179 v5 s0 v9 (N.1 95 v9.toNatClampNeg) N)
def B_Md_stall_6 (c : Nat) (k179 : Int32 → Int32 → Int32 → Int32 → hn → Option (Int32 × hn)) (v5 : Int32) (v7 : Int32) (v8 : Int32) (v9 : Int32) (N : hn) : Option (Int32 × hn) :=
  (if (64 : Int32) ≤ v9 then (if v5 = (-1 : Int32) then some (v7, N) else F_Md_stall_9 c hN v5 v8 (1 : Int32) N) else hg (hn_ix 1536 v9 = true) <|
  (if v7 ≤ (N.1 95 v9.toNatClampNeg) then B_Md_stall_7 c k179 v5 v7 v9 v8 N else B_Md_stall_7 c k179 v5 v7 v9 v9 N))
def F_Md_stall_6 (c : Nat) (n : Nat) : Int32 → Int32 → Int32 → Int32 → hn → Option (Int32 × hn) := hm_it (B_Md_stall_6 c ) (fun _ _ _ _ _ => none) n
def B_Md_stall_5 (c : Nat) (k95 : Int32 → Int32 → hn → Option (Int32 × hn)) (k103 : Int32 → Int32 → Int32 → hn → Option (Int32 × hn)) (v5 : Int32) (v7 : Int32) (v8 : Int32) (s0 : Int32) (s1 : Int32) (N : hn) : Option (Int32 × hn) :=
  hg (hn_ix 1536 s1 = true) <| hl (hn_wI N 95 s1.toNatClampNeg s0) fun N1 => k103 v5 v7 (v8 + (1 : Int32)) N1
def B_Md_stall_4 (c : Nat) (k95 : Int32 → Int32 → hn → Option (Int32 × hn)) (k103 : Int32 → Int32 → Int32 → hn → Option (Int32 × hn)) (v5 : Int32) (v7 : Int32) (v8 : Int32) (N : hn) : Option (Int32 × hn) :=
  (if (64 : Int32) ≤ v8 then k95 v5 (v7 + (-1 : Int32)) N else hg (hn_ix 1536 (((64 : Int32) * v7) + v8) = true) <|
  (if (N.1 95 (((64 : Int32) * v7) + v8).toNatClampNeg) < (100000000 : Int32) then hbN (F_Md_leastFrom c v7 v8 N) fun r2 N1 =>
  B_Md_stall_5 c k95 k103 v5 v7 v8 r2 (((64 : Int32) * v7) + v8) N1
  else B_Md_stall_5 c k95 k103 v5 v7 v8 (100000000 : Int32) (((64 : Int32) * v7) + v8) N))
def F_Md_stall_4 (c : Nat) (k95 : Int32 → Int32 → hn → Option (Int32 × hn)) (n : Nat) : Int32 → Int32 → Int32 → hn → Option (Int32 × hn) := hm_it (B_Md_stall_4 c k95) (fun _ _ _ _ => none) n
def B_Md_stall_3 (c : Nat) (k95 : Int32 → Int32 → hn → Option (Int32 × hn)) (v5 : Int32) (v7 : Int32) (N : hn) : Option (Int32 × hn) :=
  (if v7 < 0 then F_Md_stall_6 c hN v5 (100000000 : Int32) (-1 : Int32) (0 : Int32) N else F_Md_stall_4 c k95 hN v5 v7 (0 : Int32) N)
def F_Md_stall_3 (c : Nat) (n : Nat) : Int32 → Int32 → hn → Option (Int32 × hn) := hm_it (B_Md_stall_3 c ) (fun _ _ _ => none) n
def B_Md_stall_2 (c : Nat) (k64 : Int32 → Int32 → Int32 → Int32 → Int32 → Int32 → hn → Option (Int32 × hn)) (v1 : Int32) (v2 : Int32) (v3 : Int32) (v5 : Int32) (v6 : Int32) (v7 : Int32) (N : hn) : Option (Int32 × hn) :=
  (if v6 ≤ v7 then hl ((v6 - (2 : Int32)) : Int32) fun x1 => F_Md_stall_3 c hN v5 x1 N else hvN (F_Md_findMay c v1 v2 (v3 + v7) v7 N) fun N2 =>
  k64 v1 v2 v3 v5 v6 (v7 + (1 : Int32)) N2)
def F_Md_stall_2 (c : Nat) (n : Nat) : Int32 → Int32 → Int32 → Int32 → Int32 → Int32 → hn → Option (Int32 × hn) := hm_it (B_Md_stall_2 c ) (fun _ _ _ _ _ _ _ => none) n
def B_Md_stall_1 (c : Nat) (v1 : Int32) (v2 : Int32) (v3 : Int32) (v4 : Int32) (v5 : Int32) (N : hn) : Option (Int32 × hn) :=
  hl (((v4 - v3) + (1 : Int32)) : Int32) fun x1 => F_Md_stall_2 c hN v1 v2 v3 v5 x1 (0 : Int32) N
def F_Md_stall (c : Nat) (v1 : Int32) (v2 : Int32) (v3 : Int32) (v4 : Int32) (v5 : Int32) (N : hn) : Option (Int32 × hn) :=
  hl (hn_wI N 76 0 (0 : Int32)) fun N1 => hbN (F_Md_isGuild c v1 N1) fun r3 N2 => (if r3 = 0 then some ((-1 : Int32), N2)
  else hbN (F_Md_isTime c v2 v3 N2) fun r5 N4 => (if r5 = 0 then some ((-1 : Int32), N4) else hbN (F_Md_within c v4 v3 (23 : Int32) N4) fun r7 N6 =>
  (if r7 = 0 then some ((-1 : Int32), N6) else (if v5 = (-1 : Int32) then B_Md_stall_1 c v1 v2 v3 v4 v5 N6
  else hbN (F_Md_within c v5 (0 : Int32) (v4 - v3) N6) fun r9 N8 => (if r9 = 0 then some ((-1 : Int32), N8) else B_Md_stall_1 c v1 v2 v3 v4 v5 N8)))))
def B_Md_stood_1 (c : Nat) (k63 : Int32 → Int32 → Int32 → Int32 → Int32 → hn → Option (Int32 × hn)) (v5 : Int32) (v6 : Int32) (v7 : Int32) (v8 : Int32) (v9 : Int32) (N : hn) : Option (Int32 × hn) :=
  (if (((64 : Int32) * v5) + (64 : Int32)) ≤ v9 then (if v6 = 0 then some (v8, N) else some (v7, N)) else hg (hn_ix 384 v9 = true) <|
  (if (N.1 96 v9.toNatClampNeg) ≤ 0 then k63 v5 v6 v7 v8 (v9 + (1 : Int32)) N else hg (hn_ix 384 v9 = true) <| (if (N.1 97 v9.toNatClampNeg) ≤ 0 then
  k63 v5 v6 v7 v8 (v9 + (1 : Int32)) N else hg (hn_ix 384 v9 = true) <| hl ((v7 ||| (N.1 98 v9.toNatClampNeg)) : Int32) fun x1 =>
  hl ((v8 &&& (N.1 98 v9.toNatClampNeg)) : Int32) fun x2 => k63 v5 v6 x1 x2 (v9 + (1 : Int32)) N)))
def F_Md_stood_1 (c : Nat) (n : Nat) : Int32 → Int32 → Int32 → Int32 → Int32 → hn → Option (Int32 × hn) := hm_it (B_Md_stood_1 c ) (fun _ _ _ _ _ _ => none) n
def F_Md_stood (c : Nat) (v1 : Int32) (v2 : Int32) (v3 : Int32) (v4 : Int32) (v5 : Int32) (v6 : Int32) (N : hn) : Option (Int32 × hn) :=
  hl (hn_wI N 76 0 (0 : Int32)) fun N1 => hbN (F_Md_canStain c v1 v2 v3 v4 N1) fun r3 N2 => (if r3 = 0 then some ((-1 : Int32), N2)
  else hbN (F_Md_within c v5 (0 : Int32) (v3 - (1 : Int32)) N2) fun r5 N4 => (if r5 = 0 then some ((-1 : Int32), N4)
  else hbN (F_Md_findStains c v1 v2 v3 v4 N4) fun r7 N6 => (if r7 = 0 then some ((-1 : Int32), N6) else hbN (F_Md_guilds c N6) fun r9 N8 =>
  hl ((((1 : Int32) <<< (r9 &&& 31)) - (1 : Int32)) : Int32) fun x10 => hl (((64 : Int32) * v5) : Int32) fun x11 =>
  F_Md_stood_1 c hN v5 v6 (0 : Int32) x10 x11 N8)))
def F_Md_thrown (c : Nat)  (N : hn) : Option (Int32 × hn) :=
  some ((N.1 76 0), N)
def F_Md_undo (c : Nat)  (N : hn) : Option (Int32 × hn) :=
  hl (hn_wI N 76 0 (0 : Int32)) fun N1 => (if (N1.1 76 21) = 0 then some ((0 : Int32), N1)
  else hl (hn_wI N1 76 21 ((N1.1 76 21) - (1 : Int32))) fun N2 =>
  hvN (F_Md_copies c ((5 : Int32) + (N2.1 76 21)) (0 : Int32) (13 : Int32) N2) fun N3 => some ((1 : Int32), N3))
def B_Md_when_4 (c : Nat) (k28 : Int32 → Int32 → Int32 → Int32 → Int32 → hn → Option (Int32 × hn)) (v1 : Int32) (v3 : Int32) (v4 : Int32) (v5 : Int32) (s0 : Int32) (N : hn) : Option (Int32 × hn) :=
  k28 v1 s0 v3 v4 (v5 + (1 : Int32)) N
def B_Md_when_3 (c : Nat) (k28 : Int32 → Int32 → Int32 → Int32 → Int32 → hn → Option (Int32 × hn)) (v1 : Int32) (v2 : Int32) (v3 : Int32) (v5 : Int32) (v6 : Int32) (s0 : Int32) (N : hn) : Option (Int32 × hn) :=
  (if v2 ≤ v6 then B_Md_when_4 c k28 v1 v3 s0 v5 v2 N else B_Md_when_4 c k28 v1 v3 s0 v5 v6 N)
def B_Md_when_2 (c : Nat) (k28 : Int32 → Int32 → Int32 → Int32 → Int32 → hn → Option (Int32 × hn)) (v1 : Int32) (v2 : Int32) (v4 : Int32) (v5 : Int32) (v6 : Int32) (s0 : Int32) (N : hn) : Option (Int32 × hn) :=
  (if v2 ≤ v6 then (if v6 = v2 then B_Md_when_3 c k28 v1 v2 s0 v5 v6 (v4 + (1 : Int32)) N else B_Md_when_3 c k28 v1 v2 s0 v5 v6 v4 N)
  else B_Md_when_3 c k28 v1 v2 s0 v5 v6 (1 : Int32) N)
def B_Md_when_1 (c : Nat) (k28 : Int32 → Int32 → Int32 → Int32 → Int32 → hn → Option (Int32 × hn)) (v1 : Int32) (v2 : Int32) (v3 : Int32) (v4 : Int32) (v5 : Int32) (N : hn) : Option (Int32 × hn) :=
  (if (1248 : Int32) ≤ v5 then (if v1 = 0 then some (v3, N) else (if v1 = (1 : Int32) then some (v2, N) else some (v4, N)))
  else hbN (F_Md_candlesAt c (v5 / (24 : Int32)) (v5 - v5 / (24 : Int32) * (24 : Int32)) N) fun r2 N1 => (if v2 ≤ r2 then
  B_Md_when_2 c k28 v1 v2 v4 v5 r2 v3 N1 else B_Md_when_2 c k28 v1 v2 v4 v5 r2 v5 N1))
def F_Md_when_1 (c : Nat) (n : Nat) : Int32 → Int32 → Int32 → Int32 → Int32 → hn → Option (Int32 × hn) := hm_it (B_Md_when_1 c ) (fun _ _ _ _ _ _ => none) n
def F_Md_when (c : Nat) (v1 : Int32) (N : hn) : Option (Int32 × hn) :=
  hl (hn_wI N 76 0 (0 : Int32)) fun N1 => hbN (F_Md_within c v1 (0 : Int32) (2 : Int32) N1) fun r3 N2 => (if r3 = 0 then some ((-1 : Int32), N2)
  else F_Md_when_1 c hN v1 (100000000 : Int32) (0 : Int32) (0 : Int32) (0 : Int32) N2)
def F_Md_worth (c : Nat) (v1 : Int32) (v2 : Int32) (N : hn) : Option (Int32 × hn) :=
  hl (hn_wI N 76 0 (0 : Int32)) fun N1 => hbN (F_Md_isGuild c v1 N1) fun r3 N2 => (if r3 = 0 then some ((-1 : Int32), N2)
  else hbN (F_Md_isPane c v2 N2) fun r5 N4 => (if r5 = 0 then some ((-1 : Int32), N4) else hvN (F_Md_findYields c N4) fun N6 =>
  hbN (F_Md_worthOf c v1 v2 N6) fun r8 N7 => some (r8, N7)))
def F_Md_yields (c : Nat) (v1 : Int32) (N : hn) : Option (Int32 × hn) :=
  hl (hn_wI N 76 0 (0 : Int32)) fun N1 => hbN (F_Md_isPane c v1 N1) fun r3 N2 => (if r3 = 0 then some ((-1 : Int32), N2)
  else hvN (F_Md_findYields c N2) fun N4 => hg (hn_ix 12 v1 = true) <| some ((N4.1 91 v1.toNatClampNeg), N4))
