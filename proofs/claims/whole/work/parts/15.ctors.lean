/-! by program: constructors -/
def g_Tape_init (l : List hm_Sh) (v0 : Nat) (M : hm_M) : Option hm_M :=
  hl (hm_wR M v0 0 (l.length + 1)) fun M1 => hl (hm_wI M1 v0 1 (0 : Int32)) fun M3 => hl (hm_wI M3 v0 2 (0 : Int32)) fun M5 =>
  hl (hm_wI M5 v0 3 (0 : Int32)) fun M7 => hl (hm_wI M7 v0 4 (1 : Int32)) fun M9 => hl (hm_wI M9 v0 5 (0 : Int32)) fun M11 =>
  hl (hm_wL M11 v0 6 (0 : Int64)) fun M13 => some M13
def g_Laws_init (l : List hm_Sh) (v0 : Nat) (M : hm_M) : Option hm_M :=
  hl (hm_wR M v0 0 (l.length + 1)) fun M1 => hl (hm_wI M1 v0 1 (0 : Int32)) fun M3 => hl (hm_wR M3 v0 2 (l.length + 2)) fun M5 =>
  hl (hm_wR M5 v0 3 (l.length + 3)) fun M7 => hl (hm_wR M7 v0 4 (l.length + 4)) fun M9 => hl (hm_wR M9 v0 5 (l.length + 5)) fun M11 => some M11
def g_Chapel_init (l : List hm_Sh) (v0 : Nat) (M : hm_M) : Option hm_M :=
  hl (hm_wR M v0 5 (l.length + 1)) fun M1 => hl (hm_wR M1 v0 6 (l.length + 2)) fun M3 => hl (hm_wR M3 v0 7 (l.length + 3)) fun M5 =>
  hl (hm_wR M5 v0 8 (l.length + 4)) fun M7 => hl (hm_wR M7 v0 9 (l.length + 5)) fun M9 => hl (hm_wR M9 v0 10 (l.length + 6)) fun M11 =>
  hl (hm_wR M11 v0 11 (l.length + 7)) fun M13 =>
  hv (g_Laws_init (l ++ ([.inl (.long, 6), .inl (.int, 6), .inl (.int, 6), .inl (.int, 12), .inl (.int, 12), .inl (.int, 12), .inl (.int, 12), .inr 3] : List hm_Sh)) (l.length + 8) M13) fun M16 =>
  hl (hm_wR M16 v0 12 (l.length + 8)) fun M17 =>
  hv (f_Chapel_begin (hm_sl (l ++ ([.inl (.long, 6), .inl (.int, 6), .inl (.int, 6), .inl (.int, 12), .inl (.int, 12), .inl (.int, 12), .inl (.int, 12), .inr 3, .inl (.int, 1000), .inl (.int, 4), .inl (.int, 4), .inl (.int, 32), .inl (.int, 7)] : List hm_Sh))) v0 M17) fun M20 =>
  some M20
def g_Reader_init (l : List hm_Sh) (v0 : Nat) (M : hm_M) : Option hm_M :=
  hv (g_Tape_init (l ++ ([.inr 7] : List hm_Sh)) (l.length + 1) M) fun M2 => hl (hm_wR M2 v0 0 (l.length + 1)) fun M3 =>
  hv (g_Chapel_init (l ++ ([.inr 7, .inl (.byte, 1000), .inr 0] : List hm_Sh)) (l.length + 3) M3) fun M6 =>
  hl (hm_wR M6 v0 1 (l.length + 3)) fun M7 => hl (hm_wI M7 v0 2 (0 : Int32)) fun M9 => hl (hm_wI M9 v0 3 (0 : Int32)) fun M11 =>
  hl (hm_wI M11 v0 4 (135 : Int32)) fun M13 => some M13
def g_Light_init (l : List hm_Sh) (v0 : Nat) (M : hm_M) : Option hm_M :=
  hv (g_Chapel_init (l ++ ([.inr 0] : List hm_Sh)) (l.length + 1) M) fun M2 => hl (hm_wR M2 v0 0 (l.length + 1)) fun M3 =>
  hl (hm_wR M3 v0 1 (l.length + 15)) fun M5 => hl (hm_wR M5 v0 2 (l.length + 16)) fun M7 => hl (hm_wI M7 v0 3 (-1 : Int32)) fun M9 => some M9
def g_Hold_init (l : List hm_Sh) (v0 : Nat) (M : hm_M) : Option hm_M :=
  hl (hm_wR M v0 0 (l.length + 1)) fun M1 => hg (M1.2.2 v0 0 ≠ 0) <| hg (M1.2.2 v0 0 = (l.length + 1)) <|
  hl (hm_wI M1 (l.length + 1) (0 : Int32).toNatClampNeg (-1 : Int32)) fun M5 => hg (M5.2.2 v0 0 ≠ 0) <| hg (M5.2.2 v0 0 = (l.length + 1)) <|
  hl (hm_wI M5 (l.length + 1) (1 : Int32).toNatClampNeg (-1 : Int32)) fun M9 => hg (M9.2.2 v0 0 ≠ 0) <| hg (M9.2.2 v0 0 = (l.length + 1)) <|
  hl (hm_wI M9 (l.length + 1) (2 : Int32).toNatClampNeg (-1 : Int32)) fun M13 => hg (M13.2.2 v0 0 ≠ 0) <| hg (M13.2.2 v0 0 = (l.length + 1)) <|
  hl (hm_wI M13 (l.length + 1) (3 : Int32).toNatClampNeg (-1 : Int32)) fun M17 => hg (M17.2.2 v0 0 ≠ 0) <| hg (M17.2.2 v0 0 = (l.length + 1)) <|
  hl (hm_wI M17 (l.length + 1) (4 : Int32).toNatClampNeg (-1 : Int32)) fun M21 => hg (M21.2.2 v0 0 ≠ 0) <| hg (M21.2.2 v0 0 = (l.length + 1)) <|
  hl (hm_wI M21 (l.length + 1) (5 : Int32).toNatClampNeg (-1 : Int32)) fun M25 => hg (M25.2.2 v0 0 ≠ 0) <| hg (M25.2.2 v0 0 = (l.length + 1)) <|
  hl (hm_wI M25 (l.length + 1) (6 : Int32).toNatClampNeg (-1 : Int32)) fun M29 => hg (M29.2.2 v0 0 ≠ 0) <| hg (M29.2.2 v0 0 = (l.length + 1)) <|
  hl (hm_wI M29 (l.length + 1) (7 : Int32).toNatClampNeg (-1 : Int32)) fun M33 => hg (M33.2.2 v0 0 ≠ 0) <| hg (M33.2.2 v0 0 = (l.length + 1)) <|
  hl (hm_wI M33 (l.length + 1) (8 : Int32).toNatClampNeg (-1 : Int32)) fun M37 => hg (M37.2.2 v0 0 ≠ 0) <| hg (M37.2.2 v0 0 = (l.length + 1)) <|
  hl (hm_wI M37 (l.length + 1) (9 : Int32).toNatClampNeg (-1 : Int32)) fun M41 => hg (M41.2.2 v0 0 ≠ 0) <| hg (M41.2.2 v0 0 = (l.length + 1)) <|
  hl (hm_wI M41 (l.length + 1) (10 : Int32).toNatClampNeg (-1 : Int32)) fun M45 => hg (M45.2.2 v0 0 ≠ 0) <| hg (M45.2.2 v0 0 = (l.length + 1)) <|
  hl (hm_wI M45 (l.length + 1) (11 : Int32).toNatClampNeg (-1 : Int32)) fun M49 => hl (hm_wI M49 v0 1 (0 : Int32)) fun M51 =>
  hl (hm_wI M51 v0 2 (0 : Int32)) fun M53 => hl (hm_wR M53 v0 3 (l.length + 2)) fun M55 => hl (hm_wR M55 v0 4 (l.length + 3)) fun M57 =>
  hl (hm_wI M57 v0 5 (0 : Int32)) fun M59 => some M59
def g_History_init (l : List hm_Sh) (v0 : Nat) (M : hm_M) : Option hm_M :=
  hl (hm_wR M v0 0 (l.length + 1)) fun M1 => hl (hm_wR M1 v0 1 (l.length + 2)) fun M3 => hl (hm_wI M3 v0 2 (0 : Int32)) fun M5 =>
  hl (hm_wI M5 v0 3 (0 : Int32)) fun M7 => some M7
def g_Rents_init (l : List hm_Sh) (v0 : Nat) (M : hm_M) : Option hm_M :=
  hl (hm_wR M v0 0 (l.length + 1)) fun M1 => hl (hm_wR M1 v0 1 (l.length + 2)) fun M3 => hl (hm_wI M3 v0 2 (0 : Int32)) fun M5 =>
  hl (hm_wI M5 v0 3 (0 : Int32)) fun M7 => hl (hm_wR M7 v0 4 (l.length + 3)) fun M9 => some M9
def g_Trade_init (l : List hm_Sh) (v0 : Nat) (M : hm_M) : Option hm_M :=
  hl (hm_wR M v0 0 (l.length + 1)) fun M1 => hl (hm_wR M1 v0 1 (l.length + 2)) fun M3 => hl (hm_wR M3 v0 2 (l.length + 3)) fun M5 =>
  hl (hm_wI M5 v0 3 (0 : Int32)) fun M7 => some M7
def g_Way_init (l : List hm_Sh) (v0 : Nat) (M : hm_M) : Option hm_M :=
  hl (hm_wR M v0 0 (l.length + 1)) fun M1 => hl (hm_wR M1 v0 1 (l.length + 2)) fun M3 => hl (hm_wR M3 v0 2 (l.length + 3)) fun M5 =>
  hl (hm_wI M5 v0 3 (0 : Int32)) fun M7 => some M7
def g_Walk_init (l : List hm_Sh) (v0 : Nat) (M : hm_M) : Option hm_M :=
  hl (hm_wR M v0 0 (l.length + 1)) fun M1 => hl (hm_wR M1 v0 1 (l.length + 2)) fun M3 => hl (hm_wR M3 v0 2 (l.length + 3)) fun M5 => some M5
def g_Ps_init (l : List hm_Sh) (v0 : Nat) (M : hm_M) : Option hm_M :=
  hv (g_Reader_init (l ++ ([.inr 5] : List hm_Sh)) (l.length + 1) M) fun M2 => hl (hm_wR M2 v0 0 (l.length + 1)) fun M3 =>
  hv (g_Light_init (l ++ ([.inr 5, .inr 7, .inl (.byte, 1000), .inr 0, .inl (.long, 6), .inl (.int, 6), .inl (.int, 6), .inl (.int, 12), .inl (.int, 12), .inl (.int, 12), .inl (.int, 12), .inr 3, .inl (.int, 1000), .inl (.int, 4), .inl (.int, 4), .inl (.int, 32), .inl (.int, 7), .inr 4] : List hm_Sh)) (l.length + 18) M3) fun M6 =>
  hl (hm_wR M6 v0 1 (l.length + 18)) fun M7 =>
  hv (g_Hold_init (l ++ ([.inr 5, .inr 7, .inl (.byte, 1000), .inr 0, .inl (.long, 6), .inl (.int, 6), .inl (.int, 6), .inl (.int, 12), .inl (.int, 12), .inl (.int, 12), .inl (.int, 12), .inr 3, .inl (.int, 1000), .inl (.int, 4), .inl (.int, 4), .inl (.int, 32), .inl (.int, 7), .inr 4, .inr 0, .inl (.long, 6), .inl (.int, 6), .inl (.int, 6), .inl (.int, 12), .inl (.int, 12), .inl (.int, 12), .inl (.int, 12), .inr 3, .inl (.int, 1000), .inl (.int, 4), .inl (.int, 4), .inl (.int, 32), .inl (.int, 7), .inl (.int, 12), .inl (.long, 2496), .inr 2] : List hm_Sh)) (l.length + 35) M7) fun M10 =>
  hl (hm_wR M10 v0 2 (l.length + 35)) fun M11 =>
  hv (g_History_init (l ++ ([.inr 5, .inr 7, .inl (.byte, 1000), .inr 0, .inl (.long, 6), .inl (.int, 6), .inl (.int, 6), .inl (.int, 12), .inl (.int, 12), .inl (.int, 12), .inl (.int, 12), .inr 3, .inl (.int, 1000), .inl (.int, 4), .inl (.int, 4), .inl (.int, 32), .inl (.int, 7), .inr 4, .inr 0, .inl (.long, 6), .inl (.int, 6), .inl (.int, 6), .inl (.int, 12), .inl (.int, 12), .inl (.int, 12), .inl (.int, 12), .inr 3, .inl (.int, 1000), .inl (.int, 4), .inl (.int, 4), .inl (.int, 32), .inl (.int, 7), .inl (.int, 12), .inl (.long, 2496), .inr 2, .inl (.int, 12), .inl (.int, 8), .inl (.int, 8), .inr 1] : List hm_Sh)) (l.length + 39) M11) fun M14 =>
  hl (hm_wR M14 v0 3 (l.length + 39)) fun M15 =>
  hv (g_Rents_init (l ++ ([.inr 5, .inr 7, .inl (.byte, 1000), .inr 0, .inl (.long, 6), .inl (.int, 6), .inl (.int, 6), .inl (.int, 12), .inl (.int, 12), .inl (.int, 12), .inl (.int, 12), .inr 3, .inl (.int, 1000), .inl (.int, 4), .inl (.int, 4), .inl (.int, 32), .inl (.int, 7), .inr 4, .inr 0, .inl (.long, 6), .inl (.int, 6), .inl (.int, 6), .inl (.int, 12), .inl (.int, 12), .inl (.int, 12), .inl (.int, 12), .inr 3, .inl (.int, 1000), .inl (.int, 4), .inl (.int, 4), .inl (.int, 32), .inl (.int, 7), .inl (.int, 12), .inl (.long, 2496), .inr 2, .inl (.int, 12), .inl (.int, 8), .inl (.int, 8), .inr 1, .inl (.int, 20), .inl (.int, 20), .inr 6] : List hm_Sh)) (l.length + 42) M15) fun M18 =>
  hl (hm_wR M18 v0 4 (l.length + 42)) fun M19 =>
  hv (g_Trade_init (l ++ ([.inr 5, .inr 7, .inl (.byte, 1000), .inr 0, .inl (.long, 6), .inl (.int, 6), .inl (.int, 6), .inl (.int, 12), .inl (.int, 12), .inl (.int, 12), .inl (.int, 12), .inr 3, .inl (.int, 1000), .inl (.int, 4), .inl (.int, 4), .inl (.int, 32), .inl (.int, 7), .inr 4, .inr 0, .inl (.long, 6), .inl (.int, 6), .inl (.int, 6), .inl (.int, 12), .inl (.int, 12), .inl (.int, 12), .inl (.int, 12), .inr 3, .inl (.int, 1000), .inl (.int, 4), .inl (.int, 4), .inl (.int, 32), .inl (.int, 7), .inl (.int, 12), .inl (.long, 2496), .inr 2, .inl (.int, 12), .inl (.int, 8), .inl (.int, 8), .inr 1, .inl (.int, 20), .inl (.int, 20), .inr 6, .inl (.int, 204), .inl (.int, 16), .inl (.int, 6), .inr 8] : List hm_Sh)) (l.length + 46) M19) fun M22 =>
  hl (hm_wR M22 v0 5 (l.length + 46)) fun M23 =>
  hv (g_Way_init (l ++ ([.inr 5, .inr 7, .inl (.byte, 1000), .inr 0, .inl (.long, 6), .inl (.int, 6), .inl (.int, 6), .inl (.int, 12), .inl (.int, 12), .inl (.int, 12), .inl (.int, 12), .inr 3, .inl (.int, 1000), .inl (.int, 4), .inl (.int, 4), .inl (.int, 32), .inl (.int, 7), .inr 4, .inr 0, .inl (.long, 6), .inl (.int, 6), .inl (.int, 6), .inl (.int, 12), .inl (.int, 12), .inl (.int, 12), .inl (.int, 12), .inr 3, .inl (.int, 1000), .inl (.int, 4), .inl (.int, 4), .inl (.int, 32), .inl (.int, 7), .inl (.int, 12), .inl (.long, 2496), .inr 2, .inl (.int, 12), .inl (.int, 8), .inl (.int, 8), .inr 1, .inl (.int, 20), .inl (.int, 20), .inr 6, .inl (.int, 204), .inl (.int, 16), .inl (.int, 6), .inr 8, .inl (.int, 144), .inl (.int, 4096), .inl (.int, 12), .inr 10] : List hm_Sh)) (l.length + 50) M23) fun M26 =>
  hl (hm_wR M26 v0 6 (l.length + 50)) fun M27 =>
  hv (g_Walk_init (l ++ ([.inr 5, .inr 7, .inl (.byte, 1000), .inr 0, .inl (.long, 6), .inl (.int, 6), .inl (.int, 6), .inl (.int, 12), .inl (.int, 12), .inl (.int, 12), .inl (.int, 12), .inr 3, .inl (.int, 1000), .inl (.int, 4), .inl (.int, 4), .inl (.int, 32), .inl (.int, 7), .inr 4, .inr 0, .inl (.long, 6), .inl (.int, 6), .inl (.int, 6), .inl (.int, 12), .inl (.int, 12), .inl (.int, 12), .inl (.int, 12), .inr 3, .inl (.int, 1000), .inl (.int, 4), .inl (.int, 4), .inl (.int, 32), .inl (.int, 7), .inl (.int, 12), .inl (.long, 2496), .inr 2, .inl (.int, 12), .inl (.int, 8), .inl (.int, 8), .inr 1, .inl (.int, 20), .inl (.int, 20), .inr 6, .inl (.int, 204), .inl (.int, 16), .inl (.int, 6), .inr 8, .inl (.int, 144), .inl (.int, 4096), .inl (.int, 12), .inr 10, .inl (.long, 24), .inl (.int, 1536), .inl (.int, 24), .inr 9] : List hm_Sh)) (l.length + 54) M27) fun M30 =>
  hl (hm_wR M30 v0 7 (l.length + 54)) fun M31 => hl (hm_wR M31 v0 8 (l.length + 58)) fun M33 => hg (M33.2.2 v0 8 ≠ 0) <|
  hg (M33.2.2 v0 8 = (l.length + 58)) <|
  hv (g_Hold_init (l ++ ([.inr 5, .inr 7, .inl (.byte, 1000), .inr 0, .inl (.long, 6), .inl (.int, 6), .inl (.int, 6), .inl (.int, 12), .inl (.int, 12), .inl (.int, 12), .inl (.int, 12), .inr 3, .inl (.int, 1000), .inl (.int, 4), .inl (.int, 4), .inl (.int, 32), .inl (.int, 7), .inr 4, .inr 0, .inl (.long, 6), .inl (.int, 6), .inl (.int, 6), .inl (.int, 12), .inl (.int, 12), .inl (.int, 12), .inl (.int, 12), .inr 3, .inl (.int, 1000), .inl (.int, 4), .inl (.int, 4), .inl (.int, 32), .inl (.int, 7), .inl (.int, 12), .inl (.long, 2496), .inr 2, .inl (.int, 12), .inl (.int, 8), .inl (.int, 8), .inr 1, .inl (.int, 20), .inl (.int, 20), .inr 6, .inl (.int, 204), .inl (.int, 16), .inl (.int, 6), .inr 8, .inl (.int, 144), .inl (.int, 4096), .inl (.int, 12), .inr 10, .inl (.long, 24), .inl (.int, 1536), .inl (.int, 24), .inr 9, .inl (.int, 64), .inl (.int, 64), .inl (.int, 64), .inl (.object "PaneSpots$Hold", 4), .inr 2] : List hm_Sh)) (l.length + 59) M33) fun M38 =>
  hl (hm_wR M38 (l.length + 58) (0 : Int32).toNatClampNeg (l.length + 59)) fun M39 => hg (M39.2.2 v0 8 ≠ 0) <| hg (M39.2.2 v0 8 = (l.length + 58)) <|
  hv (g_Hold_init (l ++ ([.inr 5, .inr 7, .inl (.byte, 1000), .inr 0, .inl (.long, 6), .inl (.int, 6), .inl (.int, 6), .inl (.int, 12), .inl (.int, 12), .inl (.int, 12), .inl (.int, 12), .inr 3, .inl (.int, 1000), .inl (.int, 4), .inl (.int, 4), .inl (.int, 32), .inl (.int, 7), .inr 4, .inr 0, .inl (.long, 6), .inl (.int, 6), .inl (.int, 6), .inl (.int, 12), .inl (.int, 12), .inl (.int, 12), .inl (.int, 12), .inr 3, .inl (.int, 1000), .inl (.int, 4), .inl (.int, 4), .inl (.int, 32), .inl (.int, 7), .inl (.int, 12), .inl (.long, 2496), .inr 2, .inl (.int, 12), .inl (.int, 8), .inl (.int, 8), .inr 1, .inl (.int, 20), .inl (.int, 20), .inr 6, .inl (.int, 204), .inl (.int, 16), .inl (.int, 6), .inr 8, .inl (.int, 144), .inl (.int, 4096), .inl (.int, 12), .inr 10, .inl (.long, 24), .inl (.int, 1536), .inl (.int, 24), .inr 9, .inl (.int, 64), .inl (.int, 64), .inl (.int, 64), .inl (.object "PaneSpots$Hold", 4), .inr 2, .inl (.int, 12), .inl (.int, 8), .inl (.int, 8), .inr 2] : List hm_Sh)) (l.length + 63) M39) fun M44 =>
  hl (hm_wR M44 (l.length + 58) (1 : Int32).toNatClampNeg (l.length + 63)) fun M45 => hg (M45.2.2 v0 8 ≠ 0) <| hg (M45.2.2 v0 8 = (l.length + 58)) <|
  hv (g_Hold_init (l ++ ([.inr 5, .inr 7, .inl (.byte, 1000), .inr 0, .inl (.long, 6), .inl (.int, 6), .inl (.int, 6), .inl (.int, 12), .inl (.int, 12), .inl (.int, 12), .inl (.int, 12), .inr 3, .inl (.int, 1000), .inl (.int, 4), .inl (.int, 4), .inl (.int, 32), .inl (.int, 7), .inr 4, .inr 0, .inl (.long, 6), .inl (.int, 6), .inl (.int, 6), .inl (.int, 12), .inl (.int, 12), .inl (.int, 12), .inl (.int, 12), .inr 3, .inl (.int, 1000), .inl (.int, 4), .inl (.int, 4), .inl (.int, 32), .inl (.int, 7), .inl (.int, 12), .inl (.long, 2496), .inr 2, .inl (.int, 12), .inl (.int, 8), .inl (.int, 8), .inr 1, .inl (.int, 20), .inl (.int, 20), .inr 6, .inl (.int, 204), .inl (.int, 16), .inl (.int, 6), .inr 8, .inl (.int, 144), .inl (.int, 4096), .inl (.int, 12), .inr 10, .inl (.long, 24), .inl (.int, 1536), .inl (.int, 24), .inr 9, .inl (.int, 64), .inl (.int, 64), .inl (.int, 64), .inl (.object "PaneSpots$Hold", 4), .inr 2, .inl (.int, 12), .inl (.int, 8), .inl (.int, 8), .inr 2, .inl (.int, 12), .inl (.int, 8), .inl (.int, 8), .inr 2] : List hm_Sh)) (l.length + 67) M45) fun M50 =>
  hl (hm_wR M50 (l.length + 58) (2 : Int32).toNatClampNeg (l.length + 67)) fun M51 => hg (M51.2.2 v0 8 ≠ 0) <| hg (M51.2.2 v0 8 = (l.length + 58)) <|
  hv (g_Hold_init (l ++ ([.inr 5, .inr 7, .inl (.byte, 1000), .inr 0, .inl (.long, 6), .inl (.int, 6), .inl (.int, 6), .inl (.int, 12), .inl (.int, 12), .inl (.int, 12), .inl (.int, 12), .inr 3, .inl (.int, 1000), .inl (.int, 4), .inl (.int, 4), .inl (.int, 32), .inl (.int, 7), .inr 4, .inr 0, .inl (.long, 6), .inl (.int, 6), .inl (.int, 6), .inl (.int, 12), .inl (.int, 12), .inl (.int, 12), .inl (.int, 12), .inr 3, .inl (.int, 1000), .inl (.int, 4), .inl (.int, 4), .inl (.int, 32), .inl (.int, 7), .inl (.int, 12), .inl (.long, 2496), .inr 2, .inl (.int, 12), .inl (.int, 8), .inl (.int, 8), .inr 1, .inl (.int, 20), .inl (.int, 20), .inr 6, .inl (.int, 204), .inl (.int, 16), .inl (.int, 6), .inr 8, .inl (.int, 144), .inl (.int, 4096), .inl (.int, 12), .inr 10, .inl (.long, 24), .inl (.int, 1536), .inl (.int, 24), .inr 9, .inl (.int, 64), .inl (.int, 64), .inl (.int, 64), .inl (.object "PaneSpots$Hold", 4), .inr 2, .inl (.int, 12), .inl (.int, 8), .inl (.int, 8), .inr 2, .inl (.int, 12), .inl (.int, 8), .inl (.int, 8), .inr 2, .inl (.int, 12), .inl (.int, 8), .inl (.int, 8), .inr 2] : List hm_Sh)) (l.length + 71) M51) fun M56 =>
  hl (hm_wR M56 (l.length + 58) (3 : Int32).toNatClampNeg (l.length + 71)) fun M57 => hl (hm_wI M57 v0 9 (0 : Int32)) fun M59 => some M59
def g_Md_init (l : List hm_Sh) (v0 : Nat) (M : hm_M) : Option hm_M :=
  hl (hm_wR M v0 1 (l.length + 1)) fun M1 => hl (hm_wR M1 v0 4 (l.length + 2)) fun M3 => hl (hm_wR M3 v0 5 (l.length + 3)) fun M5 =>
  hl (hm_wR M5 v0 6 (l.length + 4)) fun M7 => hl (hm_wL M7 (l.length + 5) (0 : Int32).toNatClampNeg (11873910 : Int64)) fun M9 =>
  hl (hm_wL M9 (l.length + 5) (1 : Int32).toNatClampNeg (14195609 : Int64)) fun M11 =>
  hl (hm_wL M11 (l.length + 5) (2 : Int32).toNatClampNeg (22961072 : Int64)) fun M13 =>
  hl (hm_wL M13 (l.length + 5) (3 : Int32).toNatClampNeg (791486 : Int64)) fun M15 =>
  hl (hm_wL M15 (l.length + 5) (4 : Int32).toNatClampNeg (812340 : Int64)) fun M17 =>
  hl (hm_wL M17 (l.length + 5) (5 : Int32).toNatClampNeg (561 : Int64)) fun M19 =>
  hl (hm_wL M19 (l.length + 5) (6 : Int32).toNatClampNeg (236773452 : Int64)) fun M21 =>
  hl (hm_wL M21 (l.length + 5) (7 : Int32).toNatClampNeg (255357 : Int64)) fun M23 =>
  hl (hm_wL M23 (l.length + 5) (8 : Int32).toNatClampNeg (209658 : Int64)) fun M25 =>
  hl (hm_wL M25 (l.length + 5) (9 : Int32).toNatClampNeg (204658 : Int64)) fun M27 =>
  hl (hm_wL M27 (l.length + 5) (10 : Int32).toNatClampNeg (919137 : Int64)) fun M29 =>
  hl (hm_wL M29 (l.length + 5) (11 : Int32).toNatClampNeg (6251635 : Int64)) fun M31 =>
  hl (hm_wL M31 (l.length + 5) (12 : Int32).toNatClampNeg (19741 : Int64)) fun M33 =>
  hl (hm_wL M33 (l.length + 5) (13 : Int32).toNatClampNeg (1891 : Int64)) fun M35 =>
  hl (hm_wL M35 (l.length + 5) (14 : Int32).toNatClampNeg (573 : Int64)) fun M37 =>
  hl (hm_wL M37 (l.length + 5) (15 : Int32).toNatClampNeg (1172060 : Int64)) fun M39 =>
  hl (hm_wL M39 (l.length + 5) (16 : Int32).toNatClampNeg (426554 : Int64)) fun M41 =>
  hl (hm_wL M41 (l.length + 5) (17 : Int32).toNatClampNeg (236781366 : Int64)) fun M43 =>
  hl (hm_wL M43 (l.length + 5) (18 : Int32).toNatClampNeg (25220 : Int64)) fun M45 =>
  hl (hm_wL M45 (l.length + 5) (19 : Int32).toNatClampNeg (24 : Int64)) fun M47 =>
  hl (hm_wL M47 (l.length + 5) (20 : Int32).toNatClampNeg (25 : Int64)) fun M49 =>
  hl (hm_wL M49 (l.length + 5) (21 : Int32).toNatClampNeg (24853015 : Int64)) fun M51 => hl (hm_wR M51 v0 9 (l.length + 5)) fun M53 =>
  hl (hm_wR M53 v0 10 (l.length + 6)) fun M55 => hl (hm_wR M55 v0 11 (l.length + 7)) fun M57 => hl (hm_wR M57 v0 12 (l.length + 8)) fun M59 =>
  hl (hm_wR M59 v0 14 (l.length + 9)) fun M61 => hl (hm_wR M61 v0 18 (l.length + 10)) fun M63 => hl (hm_wR M63 v0 19 (l.length + 11)) fun M65 =>
  hl (hm_wR M65 v0 20 (l.length + 12)) fun M67 => hl (hm_wR M67 v0 22 (l.length + 13)) fun M69 => hl (hm_wR M69 v0 24 (l.length + 14)) fun M71 =>
  hl (hm_wR M71 v0 25 (l.length + 15)) fun M73 => hl (hm_wR M73 v0 26 (l.length + 16)) fun M75 => hl (hm_wR M75 v0 27 (l.length + 17)) fun M77 =>
  hl (hm_wR M77 v0 29 (l.length + 18)) fun M79 => hl (hm_wR M79 v0 30 (l.length + 19)) fun M81 => hl (hm_wR M81 v0 31 (l.length + 20)) fun M83 =>
  hl (hm_wR M83 v0 32 (l.length + 21)) fun M85 => hl (hm_wR M85 v0 33 (l.length + 22)) fun M87 => hg (M87.2.2 v0 10 ≠ 0) <|
  hg (M87.2.2 v0 10 = (l.length + 6)) <| hl (hm_wI M87 (l.length + 6) (0 : Int32).toNatClampNeg (4 : Int32)) fun M91 => hg (M91.2.2 v0 10 ≠ 0) <|
  hg (M91.2.2 v0 10 = (l.length + 6)) <| hl (hm_wI M91 (l.length + 6) (1 : Int32).toNatClampNeg (4 : Int32)) fun M95 => hg (M95.2.2 v0 10 ≠ 0) <|
  hg (M95.2.2 v0 10 = (l.length + 6)) <| hl (hm_wI M95 (l.length + 6) (65 : Int32).toNatClampNeg (-1 : Int32)) fun M99 => hg (M99.2.2 v0 10 ≠ 0) <|
  hg (M99.2.2 v0 10 = (l.length + 6)) <| hl (hm_wI M99 (l.length + 6) (66 : Int32).toNatClampNeg (-1 : Int32)) fun M103 => hg (M103.2.2 v0 10 ≠ 0) <|
  hg (M103.2.2 v0 10 = (l.length + 6)) <| hl (hm_wI M103 (l.length + 6) (67 : Int32).toNatClampNeg (-1 : Int32)) fun M107 =>
  hg (M107.2.2 v0 10 ≠ 0) <| hg (M107.2.2 v0 10 = (l.length + 6)) <|
  hl (hm_wI M107 (l.length + 6) (68 : Int32).toNatClampNeg (-1 : Int32)) fun M111 => some M111
set_option maxRecDepth 100000 in
set_option maxHeartbeats 4000000 in
theorem kA_Tape_init {l : List hm_Sh} {v0 : Nat} {M M' : hm_M} (h0 : hm_sl l v0 = some (.inr 7)) (hB : hm_MB M l.length) (h9 : l.length + 2 < 900000) (hF : g_Tape_init l v0 M = some M') : hm_KA yX7_init cX7_init 1 1 l (l ++ [.inl (.byte, 1000)]) [.ref v0] M M' 1 1000 := by
  have hv0 := (hm_sl_rng _ _ h0)
  refine hm_enterA mm_Tape_init rfl (Nat.le_of_ble_eq_true rfl) (fun X hI0 hA => ?_)
  have hC := hA.1
  have hI := hI0
  show hm_U X 0 [(0, .ref v0)] [] M _
  unfold g_Tape_init at hF
  refine jv_aload_n hC 0 dX7_init_0 rfl ?_
  refine jv_objInit hC ol_X7_3 oi_inst oi_code dX7_init_1 (by decide) (Nat.le_of_ble_eq_true rfl) ?_
  refine jv_aload_n hC 0 dX7_init_4 rfl ?_
  refine jv_sipush hC dX7_init_5 c16_1000 ?_
  refine jv_newarrW hA l.length rfl (l ++ ([.inl (.byte, 1000)] : List hm_Sh)) (rfl) hB (Nat.lt_of_le_of_lt (Nat.add_le_add_left (Nat.le_of_ble_eq_true rfl : 1 ≤ 2) l.length) h9) dX7_init_8 rfl (Or.inr (Or.inr (Or.inl rfl))) ac_byte (by decide) (by decide) (by decide) (by decide) (by decide) (List.forall_mem_cons.mpr ⟨(hm_le_ref hv0.2), (fun _ h => nomatch h)⟩) (List.forall_mem_cons.mpr ⟨(hm_le_ref hv0.2), (fun _ h => nomatch h)⟩) (fun X hA => ?_)
  have hB : hm_MB M (l.length + 1) := hB.mono (Nat.le_succ _)
  have hC := hA.1
  have hI := hI0.ext hA.2.1
  refine jv_nf 10 [.ref (l.length + 1), .ref v0] rfl rfl ?_
  refine jv_putRF hC fl_X7_9 ow_7 hI dX7_init_10 rfl (hm_sl_app h0) (Nat.succ_ne_zero _) ?_
  obtain ⟨M1, e2, hF⟩ := hl_some hF
  refine jv_mem e2 ?_
  have hB : hm_MB M1 (l.length + 1) := by rw [e2]; exact hB.wR (hm_lea hv0.2 1) (hm_leb l.length (Nat.le_of_ble_eq_true rfl : 1 ≤ 1))
  refine jv_aload_n hC 0 dX7_init_13 rfl ?_
  refine jv_iconst hC dX7_init_14 c32_0 ?_
  refine jv_putI hC fl_X7_15 dX7_init_15 rfl rfl rfl (hm_sl_app h0) ?_
  obtain ⟨M3, e4, hF⟩ := hl_some hF
  refine jv_mem e4 ?_
  have hB : hm_MB M3 (l.length + 1) := by rw [e4]; exact hB.wI (hm_lea hv0.2 1)
  refine jv_aload_n hC 0 dX7_init_18 rfl ?_
  refine jv_pc 19 rfl ?_
  refine jv_iconst hC dX7_init_19 c32_0 ?_
  refine jv_putI hC fl_X7_19 dX7_init_20 rfl rfl rfl (hm_sl_app h0) ?_
  obtain ⟨M5, e6, hF⟩ := hl_some hF
  refine jv_mem e6 ?_
  have hB : hm_MB M5 (l.length + 1) := by rw [e6]; exact hB.wI (hm_lea hv0.2 1)
  refine jv_aload_n hC 0 dX7_init_23 rfl ?_
  refine jv_iconst hC dX7_init_24 c32_0 ?_
  refine jv_putI hC fl_X7_22 dX7_init_25 rfl rfl rfl (hm_sl_app h0) ?_
  obtain ⟨M7, e8, hF⟩ := hl_some hF
  refine jv_mem e8 ?_
  have hB : hm_MB M7 (l.length + 1) := by rw [e8]; exact hB.wI (hm_lea hv0.2 1)
  refine jv_aload_n hC 0 dX7_init_28 rfl ?_
  refine jv_pc 29 rfl ?_
  refine jv_iconst hC dX7_init_29 c32_1 ?_
  refine jv_putI hC fl_X7_25 dX7_init_30 rfl rfl rfl (hm_sl_app h0) ?_
  obtain ⟨M9, e10, hF⟩ := hl_some hF
  refine jv_mem e10 ?_
  have hB : hm_MB M9 (l.length + 1) := by rw [e10]; exact hB.wI (hm_lea hv0.2 1)
  refine jv_aload_n hC 0 dX7_init_33 rfl ?_
  refine jv_iconst hC dX7_init_34 c32_0 ?_
  refine jv_putI hC fl_X7_28 dX7_init_35 rfl rfl rfl (hm_sl_app h0) ?_
  obtain ⟨M11, e12, hF⟩ := hl_some hF
  refine jv_mem e12 ?_
  have hB : hm_MB M11 (l.length + 1) := by rw [e12]; exact hB.wI (hm_lea hv0.2 1)
  refine jv_aload_n hC 0 dX7_init_38 rfl ?_
  refine jv_pc 39 rfl ?_
  refine jv_lconst hC (v := 0) dX7_init_39 (by decide) ?_
  refine jv_putL hC fl_X7_31 dX7_init_40 rfl (hm_sl_app h0) ?_
  obtain ⟨M13, e14, hF⟩ := hl_some hF
  refine jv_mem e14 ?_
  have hB : hm_MB M13 (l.length + 1) := by rw [e14]; exact hB.wL (hm_lea hv0.2 1)
  obtain rfl := hr_somev hF
  exact jv_vretA hA (by decide) (by decide) dX7_init_43
set_option maxRecDepth 100000 in
set_option maxHeartbeats 4000000 in
theorem mB_Tape_init {l : List hm_Sh} {v0 : Nat} {M M' : hm_M} (h0 : hm_sl l v0 = some (.inr 7)) (hB : hm_MB M l.length) (h9 : l.length + 2 < 900000) (hF : g_Tape_init l v0 M = some M') : hm_MB M' (l ++ ([.inl (.byte, 1000)] : List hm_Sh)).length := by
  have hv0 := (hm_sl_rng _ _ h0)
  unfold g_Tape_init at hF
  have hB : hm_MB M (l.length + 1) := hB.mono (Nat.le_succ _)
  obtain ⟨M1, e2, hF⟩ := hl_some hF
  have hB : hm_MB M1 (l.length + 1) := by rw [e2]; exact hB.wR (hm_lea hv0.2 1) (hm_leb l.length (Nat.le_of_ble_eq_true rfl : 1 ≤ 1))
  obtain ⟨M3, e4, hF⟩ := hl_some hF
  have hB : hm_MB M3 (l.length + 1) := by rw [e4]; exact hB.wI (hm_lea hv0.2 1)
  obtain ⟨M5, e6, hF⟩ := hl_some hF
  have hB : hm_MB M5 (l.length + 1) := by rw [e6]; exact hB.wI (hm_lea hv0.2 1)
  obtain ⟨M7, e8, hF⟩ := hl_some hF
  have hB : hm_MB M7 (l.length + 1) := by rw [e8]; exact hB.wI (hm_lea hv0.2 1)
  obtain ⟨M9, e10, hF⟩ := hl_some hF
  have hB : hm_MB M9 (l.length + 1) := by rw [e10]; exact hB.wI (hm_lea hv0.2 1)
  obtain ⟨M11, e12, hF⟩ := hl_some hF
  have hB : hm_MB M11 (l.length + 1) := by rw [e12]; exact hB.wI (hm_lea hv0.2 1)
  obtain ⟨M13, e14, hF⟩ := hl_some hF
  have hB : hm_MB M13 (l.length + 1) := by rw [e14]; exact hB.wL (hm_lea hv0.2 1)
  obtain rfl := hr_somev hF
  rw [List.length_append]; exact hB
set_option maxRecDepth 100000 in
set_option maxHeartbeats 4000000 in
theorem kA_Laws_init {l : List hm_Sh} {v0 : Nat} {M M' : hm_M} (h0 : hm_sl l v0 = some (.inr 3)) (hB : hm_MB M l.length) (h9 : l.length + 6 < 900000) (hF : g_Laws_init l v0 M = some M') : hm_KA yX3_init cX3_init 1 1 l (l ++ [.inl (.int, 1000), .inl (.int, 4), .inl (.int, 4), .inl (.int, 32), .inl (.int, 7)]) [.ref v0] M M' 5 1047 := by
  have hv0 := (hm_sl_rng _ _ h0)
  refine hm_enterA mm_Laws_init rfl (Nat.le_of_ble_eq_true rfl) (fun X hI0 hA => ?_)
  have hC := hA.1
  have hI := hI0
  show hm_U X 0 [(0, .ref v0)] [] M _
  unfold g_Laws_init at hF
  refine jv_aload_n hC 0 dX3_init_0 rfl ?_
  refine jv_objInit hC ol_X3_3 oi_inst oi_code dX3_init_1 (by decide) (Nat.le_of_ble_eq_true rfl) ?_
  refine jv_aload_n hC 0 dX3_init_4 rfl ?_
  refine jv_sipush hC dX3_init_5 c16_1000 ?_
  refine jv_newarrW hA l.length rfl (l ++ ([.inl (.int, 1000)] : List hm_Sh)) (rfl) hB (Nat.lt_of_le_of_lt (Nat.add_le_add_left (Nat.le_of_ble_eq_true rfl : 1 ≤ 6) l.length) h9) dX3_init_8 rfl (Or.inl rfl) ac_int (by decide) (by decide) (by decide) (by decide) (by decide) (List.forall_mem_cons.mpr ⟨(hm_le_ref hv0.2), (fun _ h => nomatch h)⟩) (List.forall_mem_cons.mpr ⟨(hm_le_ref hv0.2), (fun _ h => nomatch h)⟩) (fun X hA => ?_)
  have hB : hm_MB M (l.length + 1) := hB.mono (Nat.le_succ _)
  have hC := hA.1
  have hI := hI0.ext hA.2.1
  refine jv_nf 10 [.ref (l.length + 1), .ref v0] rfl rfl ?_
  refine jv_putRF hC fl_X3_9 ow_3 hI dX3_init_10 rfl (hm_sl_app h0) (Nat.succ_ne_zero _) ?_
  obtain ⟨M1, e2, hF⟩ := hl_some hF
  refine jv_mem e2 ?_
  have hB : hm_MB M1 (l.length + 1) := by rw [e2]; exact hB.wR (hm_lea hv0.2 1) (hm_leb l.length (Nat.le_of_ble_eq_true rfl : 1 ≤ 1))
  refine jv_aload_n hC 0 dX3_init_13 rfl ?_
  refine jv_iconst hC dX3_init_14 c32_0 ?_
  refine jv_putI hC fl_X3_15 dX3_init_15 rfl rfl rfl (hm_sl_app h0) ?_
  obtain ⟨M3, e4, hF⟩ := hl_some hF
  refine jv_mem e4 ?_
  have hB : hm_MB M3 (l.length + 1) := by rw [e4]; exact hB.wI (hm_lea hv0.2 1)
  refine jv_aload_n hC 0 dX3_init_18 rfl ?_
  refine jv_pc 19 rfl ?_
  refine jv_iconst hC dX3_init_19 c32_4 ?_
  refine jv_newarrW hA (l.length + 1) List.length_append (l ++ ([.inl (.int, 1000), .inl (.int, 4)] : List hm_Sh)) (List.append_assoc _ _ _) hB (Nat.lt_of_le_of_lt (Nat.add_le_add_left (Nat.le_of_ble_eq_true rfl : 2 ≤ 6) l.length) h9) dX3_init_20 rfl (Or.inl rfl) ac_int (by decide) (by decide) (by decide) (by decide) (by decide) (List.forall_mem_cons.mpr ⟨(hm_le_ref (hm_lea hv0.2 1)), (fun _ h => nomatch h)⟩) (List.forall_mem_cons.mpr ⟨(hm_le_ref (hm_lea hv0.2 1)), (fun _ h => nomatch h)⟩) (fun X hA => ?_)
  have hB : hm_MB M3 (l.length + 2) := hB.mono (Nat.le_succ _)
  have hC := hA.1
  have hI := hI0.ext hA.2.1
  refine jv_nf 22 [.ref (l.length + 2), .ref v0] rfl rfl ?_
  refine jv_putRF hC fl_X3_19 ow_3 hI dX3_init_22 rfl (hm_sl_app h0) (Nat.succ_ne_zero _) ?_
  obtain ⟨M5, e6, hF⟩ := hl_some hF
  refine jv_mem e6 ?_
  have hB : hm_MB M5 (l.length + 2) := by rw [e6]; exact hB.wR (hm_lea hv0.2 2) (hm_leb l.length (Nat.le_of_ble_eq_true rfl : 2 ≤ 2))
  refine jv_aload_n hC 0 dX3_init_25 rfl ?_
  refine jv_iconst hC dX3_init_26 c32_4 ?_
  refine jv_newarrW hA (l.length + 2) List.length_append (l ++ ([.inl (.int, 1000), .inl (.int, 4), .inl (.int, 4)] : List hm_Sh)) (List.append_assoc _ _ _) hB (Nat.lt_of_le_of_lt (Nat.add_le_add_left (Nat.le_of_ble_eq_true rfl : 3 ≤ 6) l.length) h9) dX3_init_27 rfl (Or.inl rfl) ac_int (by decide) (by decide) (by decide) (by decide) (by decide) (List.forall_mem_cons.mpr ⟨(hm_le_ref (hm_lea hv0.2 2)), (fun _ h => nomatch h)⟩) (List.forall_mem_cons.mpr ⟨(hm_le_ref (hm_lea hv0.2 2)), (fun _ h => nomatch h)⟩) (fun X hA => ?_)
  have hB : hm_MB M5 (l.length + 3) := hB.mono (Nat.le_succ _)
  have hC := hA.1
  have hI := hI0.ext hA.2.1
  refine jv_nf 29 [.ref (l.length + 3), .ref v0] rfl rfl ?_
  refine jv_putRF hC fl_X3_22 ow_3 hI dX3_init_29 rfl (hm_sl_app h0) (Nat.succ_ne_zero _) ?_
  obtain ⟨M7, e8, hF⟩ := hl_some hF
  refine jv_mem e8 ?_
  have hB : hm_MB M7 (l.length + 3) := by rw [e8]; exact hB.wR (hm_lea hv0.2 3) (hm_leb l.length (Nat.le_of_ble_eq_true rfl : 3 ≤ 3))
  refine jv_aload_n hC 0 dX3_init_32 rfl ?_
  refine jv_bipush hC dX3_init_33 c8_32 ?_
  refine jv_newarrW hA (l.length + 3) List.length_append (l ++ ([.inl (.int, 1000), .inl (.int, 4), .inl (.int, 4), .inl (.int, 32)] : List hm_Sh)) (List.append_assoc _ _ _) hB (Nat.lt_of_le_of_lt (Nat.add_le_add_left (Nat.le_of_ble_eq_true rfl : 4 ≤ 6) l.length) h9) dX3_init_35 rfl (Or.inl rfl) ac_int (by decide) (by decide) (by decide) (by decide) (by decide) (List.forall_mem_cons.mpr ⟨(hm_le_ref (hm_lea hv0.2 3)), (fun _ h => nomatch h)⟩) (List.forall_mem_cons.mpr ⟨(hm_le_ref (hm_lea hv0.2 3)), (fun _ h => nomatch h)⟩) (fun X hA => ?_)
  have hB : hm_MB M7 (l.length + 4) := hB.mono (Nat.le_succ _)
  have hC := hA.1
  have hI := hI0.ext hA.2.1
  refine jv_nf 37 [.ref (l.length + 4), .ref v0] rfl rfl ?_
  refine jv_putRF hC fl_X3_25 ow_3 hI dX3_init_37 rfl (hm_sl_app h0) (Nat.succ_ne_zero _) ?_
  obtain ⟨M9, e10, hF⟩ := hl_some hF
  refine jv_mem e10 ?_
  have hB : hm_MB M9 (l.length + 4) := by rw [e10]; exact hB.wR (hm_lea hv0.2 4) (hm_leb l.length (Nat.le_of_ble_eq_true rfl : 4 ≤ 4))
  refine jv_aload_n hC 0 dX3_init_40 rfl ?_
  refine jv_bipush hC dX3_init_41 c8_7 ?_
  refine jv_newarrW hA (l.length + 4) List.length_append (l ++ ([.inl (.int, 1000), .inl (.int, 4), .inl (.int, 4), .inl (.int, 32), .inl (.int, 7)] : List hm_Sh)) (List.append_assoc _ _ _) hB (Nat.lt_of_le_of_lt (Nat.add_le_add_left (Nat.le_of_ble_eq_true rfl : 5 ≤ 6) l.length) h9) dX3_init_43 rfl (Or.inl rfl) ac_int (by decide) (by decide) (by decide) (by decide) (by decide) (List.forall_mem_cons.mpr ⟨(hm_le_ref (hm_lea hv0.2 4)), (fun _ h => nomatch h)⟩) (List.forall_mem_cons.mpr ⟨(hm_le_ref (hm_lea hv0.2 4)), (fun _ h => nomatch h)⟩) (fun X hA => ?_)
  have hB : hm_MB M9 (l.length + 5) := hB.mono (Nat.le_succ _)
  have hC := hA.1
  have hI := hI0.ext hA.2.1
  refine jv_nf 45 [.ref (l.length + 5), .ref v0] rfl rfl ?_
  refine jv_putRF hC fl_X3_28 ow_3 hI dX3_init_45 rfl (hm_sl_app h0) (Nat.succ_ne_zero _) ?_
  obtain ⟨M11, e12, hF⟩ := hl_some hF
  refine jv_mem e12 ?_
  have hB : hm_MB M11 (l.length + 5) := by rw [e12]; exact hB.wR (hm_lea hv0.2 5) (hm_leb l.length (Nat.le_of_ble_eq_true rfl : 5 ≤ 5))
  obtain rfl := hr_somev hF
  exact jv_vretA hA (by decide) (by decide) dX3_init_48
set_option maxRecDepth 100000 in
set_option maxHeartbeats 4000000 in
theorem mB_Laws_init {l : List hm_Sh} {v0 : Nat} {M M' : hm_M} (h0 : hm_sl l v0 = some (.inr 3)) (hB : hm_MB M l.length) (h9 : l.length + 6 < 900000) (hF : g_Laws_init l v0 M = some M') : hm_MB M' (l ++ ([.inl (.int, 1000), .inl (.int, 4), .inl (.int, 4), .inl (.int, 32), .inl (.int, 7)] : List hm_Sh)).length := by
  have hv0 := (hm_sl_rng _ _ h0)
  unfold g_Laws_init at hF
  have hB : hm_MB M (l.length + 1) := hB.mono (Nat.le_succ _)
  obtain ⟨M1, e2, hF⟩ := hl_some hF
  have hB : hm_MB M1 (l.length + 1) := by rw [e2]; exact hB.wR (hm_lea hv0.2 1) (hm_leb l.length (Nat.le_of_ble_eq_true rfl : 1 ≤ 1))
  obtain ⟨M3, e4, hF⟩ := hl_some hF
  have hB : hm_MB M3 (l.length + 1) := by rw [e4]; exact hB.wI (hm_lea hv0.2 1)
  have hB : hm_MB M3 (l.length + 2) := hB.mono (Nat.le_succ _)
  obtain ⟨M5, e6, hF⟩ := hl_some hF
  have hB : hm_MB M5 (l.length + 2) := by rw [e6]; exact hB.wR (hm_lea hv0.2 2) (hm_leb l.length (Nat.le_of_ble_eq_true rfl : 2 ≤ 2))
  have hB : hm_MB M5 (l.length + 3) := hB.mono (Nat.le_succ _)
  obtain ⟨M7, e8, hF⟩ := hl_some hF
  have hB : hm_MB M7 (l.length + 3) := by rw [e8]; exact hB.wR (hm_lea hv0.2 3) (hm_leb l.length (Nat.le_of_ble_eq_true rfl : 3 ≤ 3))
  have hB : hm_MB M7 (l.length + 4) := hB.mono (Nat.le_succ _)
  obtain ⟨M9, e10, hF⟩ := hl_some hF
  have hB : hm_MB M9 (l.length + 4) := by rw [e10]; exact hB.wR (hm_lea hv0.2 4) (hm_leb l.length (Nat.le_of_ble_eq_true rfl : 4 ≤ 4))
  have hB : hm_MB M9 (l.length + 5) := hB.mono (Nat.le_succ _)
  obtain ⟨M11, e12, hF⟩ := hl_some hF
  have hB : hm_MB M11 (l.length + 5) := by rw [e12]; exact hB.wR (hm_lea hv0.2 5) (hm_leb l.length (Nat.le_of_ble_eq_true rfl : 5 ≤ 5))
  obtain rfl := hr_somev hF
  rw [List.length_append]; exact hB
set_option maxRecDepth 100000 in
set_option maxHeartbeats 4000000 in
theorem kA_Chapel_init {l : List hm_Sh} {v0 : Nat} {M M' : hm_M} (h0 : hm_sl l v0 = some (.inr 0)) (hB : hm_MB M l.length) (h9 : l.length + 14 < 900000) (hF : g_Chapel_init l v0 M = some M') : hm_KA yX0_init cX0_init 1 3 l (l ++ [.inl (.long, 6), .inl (.int, 6), .inl (.int, 6), .inl (.int, 12), .inl (.int, 12), .inl (.int, 12), .inl (.int, 12), .inr 3, .inl (.int, 1000), .inl (.int, 4), .inl (.int, 4), .inl (.int, 32), .inl (.int, 7)]) [.ref v0] M M' 13 1119 := by
  have hv0 := (hm_sl_rng _ _ h0)
  refine hm_enterA mm_Chapel_init rfl (Nat.le_of_ble_eq_true rfl) (fun X hI0 hA => ?_)
  have hC := hA.1
  have hI := hI0
  show hm_U X 0 [(0, .ref v0)] [] M _
  unfold g_Chapel_init at hF
  refine jv_aload_n hC 0 dX0_init_0 rfl ?_
  refine jv_objInit hC ol_X0_3 oi_inst oi_code dX0_init_1 (by decide) (Nat.le_of_ble_eq_true rfl) ?_
  refine jv_aload_n hC 0 dX0_init_4 rfl ?_
  refine jv_bipush hC dX0_init_5 c8_6 ?_
  refine jv_newarrW hA l.length rfl (l ++ ([.inl (.long, 6)] : List hm_Sh)) (rfl) hB (Nat.lt_of_le_of_lt (Nat.add_le_add_left (Nat.le_of_ble_eq_true rfl : 1 ≤ 14) l.length) h9) dX0_init_7 rfl (Or.inr (Or.inl rfl)) ac_long (by decide) (by decide) (by decide) (by decide) (by decide) (List.forall_mem_cons.mpr ⟨(hm_le_ref hv0.2), (fun _ h => nomatch h)⟩) (List.forall_mem_cons.mpr ⟨(hm_le_ref hv0.2), (fun _ h => nomatch h)⟩) (fun X hA => ?_)
  have hB : hm_MB M (l.length + 1) := hB.mono (Nat.le_succ _)
  have hC := hA.1
  have hI := hI0.ext hA.2.1
  refine jv_nf 9 [.ref (l.length + 1), .ref v0] rfl rfl ?_
  refine jv_putRF hC fl_X0_9 ow_0 hI dX0_init_9 rfl (hm_sl_app h0) (Nat.succ_ne_zero _) ?_
  obtain ⟨M1, e2, hF⟩ := hl_some hF
  refine jv_mem e2 ?_
  have hB : hm_MB M1 (l.length + 1) := by rw [e2]; exact hB.wR (hm_lea hv0.2 1) (hm_leb l.length (Nat.le_of_ble_eq_true rfl : 1 ≤ 1))
  refine jv_aload_n hC 0 dX0_init_12 rfl ?_
  refine jv_bipush hC dX0_init_13 c8_6 ?_
  refine jv_newarrW hA (l.length + 1) List.length_append (l ++ ([.inl (.long, 6), .inl (.int, 6)] : List hm_Sh)) (List.append_assoc _ _ _) hB (Nat.lt_of_le_of_lt (Nat.add_le_add_left (Nat.le_of_ble_eq_true rfl : 2 ≤ 14) l.length) h9) dX0_init_15 rfl (Or.inl rfl) ac_int (by decide) (by decide) (by decide) (by decide) (by decide) (List.forall_mem_cons.mpr ⟨(hm_le_ref (hm_lea hv0.2 1)), (fun _ h => nomatch h)⟩) (List.forall_mem_cons.mpr ⟨(hm_le_ref (hm_lea hv0.2 1)), (fun _ h => nomatch h)⟩) (fun X hA => ?_)
  have hB : hm_MB M1 (l.length + 2) := hB.mono (Nat.le_succ _)
  have hC := hA.1
  have hI := hI0.ext hA.2.1
  refine jv_nf 17 [.ref (l.length + 2), .ref v0] rfl rfl ?_
  refine jv_putRF hC fl_X0_15 ow_0 hI dX0_init_17 rfl (hm_sl_app h0) (Nat.succ_ne_zero _) ?_
  obtain ⟨M3, e4, hF⟩ := hl_some hF
  refine jv_mem e4 ?_
  have hB : hm_MB M3 (l.length + 2) := by rw [e4]; exact hB.wR (hm_lea hv0.2 2) (hm_leb l.length (Nat.le_of_ble_eq_true rfl : 2 ≤ 2))
  refine jv_aload_n hC 0 dX0_init_20 rfl ?_
  refine jv_bipush hC dX0_init_21 c8_6 ?_
  refine jv_newarrW hA (l.length + 2) List.length_append (l ++ ([.inl (.long, 6), .inl (.int, 6), .inl (.int, 6)] : List hm_Sh)) (List.append_assoc _ _ _) hB (Nat.lt_of_le_of_lt (Nat.add_le_add_left (Nat.le_of_ble_eq_true rfl : 3 ≤ 14) l.length) h9) dX0_init_23 rfl (Or.inl rfl) ac_int (by decide) (by decide) (by decide) (by decide) (by decide) (List.forall_mem_cons.mpr ⟨(hm_le_ref (hm_lea hv0.2 2)), (fun _ h => nomatch h)⟩) (List.forall_mem_cons.mpr ⟨(hm_le_ref (hm_lea hv0.2 2)), (fun _ h => nomatch h)⟩) (fun X hA => ?_)
  have hB : hm_MB M3 (l.length + 3) := hB.mono (Nat.le_succ _)
  have hC := hA.1
  have hI := hI0.ext hA.2.1
  refine jv_nf 25 [.ref (l.length + 3), .ref v0] rfl rfl ?_
  refine jv_putRF hC fl_X0_19 ow_0 hI dX0_init_25 rfl (hm_sl_app h0) (Nat.succ_ne_zero _) ?_
  obtain ⟨M5, e6, hF⟩ := hl_some hF
  refine jv_mem e6 ?_
  have hB : hm_MB M5 (l.length + 3) := by rw [e6]; exact hB.wR (hm_lea hv0.2 3) (hm_leb l.length (Nat.le_of_ble_eq_true rfl : 3 ≤ 3))
  refine jv_aload_n hC 0 dX0_init_28 rfl ?_
  refine jv_bipush hC dX0_init_29 c8_12 ?_
  refine jv_newarrW hA (l.length + 3) List.length_append (l ++ ([.inl (.long, 6), .inl (.int, 6), .inl (.int, 6), .inl (.int, 12)] : List hm_Sh)) (List.append_assoc _ _ _) hB (Nat.lt_of_le_of_lt (Nat.add_le_add_left (Nat.le_of_ble_eq_true rfl : 4 ≤ 14) l.length) h9) dX0_init_31 rfl (Or.inl rfl) ac_int (by decide) (by decide) (by decide) (by decide) (by decide) (List.forall_mem_cons.mpr ⟨(hm_le_ref (hm_lea hv0.2 3)), (fun _ h => nomatch h)⟩) (List.forall_mem_cons.mpr ⟨(hm_le_ref (hm_lea hv0.2 3)), (fun _ h => nomatch h)⟩) (fun X hA => ?_)
  have hB : hm_MB M5 (l.length + 4) := hB.mono (Nat.le_succ _)
  have hC := hA.1
  have hI := hI0.ext hA.2.1
  refine jv_nf 33 [.ref (l.length + 4), .ref v0] rfl rfl ?_
  refine jv_putRF hC fl_X0_22 ow_0 hI dX0_init_33 rfl (hm_sl_app h0) (Nat.succ_ne_zero _) ?_
  obtain ⟨M7, e8, hF⟩ := hl_some hF
  refine jv_mem e8 ?_
  have hB : hm_MB M7 (l.length + 4) := by rw [e8]; exact hB.wR (hm_lea hv0.2 4) (hm_leb l.length (Nat.le_of_ble_eq_true rfl : 4 ≤ 4))
  refine jv_aload_n hC 0 dX0_init_36 rfl ?_
  refine jv_bipush hC dX0_init_37 c8_12 ?_
  refine jv_newarrW hA (l.length + 4) List.length_append (l ++ ([.inl (.long, 6), .inl (.int, 6), .inl (.int, 6), .inl (.int, 12), .inl (.int, 12)] : List hm_Sh)) (List.append_assoc _ _ _) hB (Nat.lt_of_le_of_lt (Nat.add_le_add_left (Nat.le_of_ble_eq_true rfl : 5 ≤ 14) l.length) h9) dX0_init_39 rfl (Or.inl rfl) ac_int (by decide) (by decide) (by decide) (by decide) (by decide) (List.forall_mem_cons.mpr ⟨(hm_le_ref (hm_lea hv0.2 4)), (fun _ h => nomatch h)⟩) (List.forall_mem_cons.mpr ⟨(hm_le_ref (hm_lea hv0.2 4)), (fun _ h => nomatch h)⟩) (fun X hA => ?_)
  have hB : hm_MB M7 (l.length + 5) := hB.mono (Nat.le_succ _)
  have hC := hA.1
  have hI := hI0.ext hA.2.1
  refine jv_nf 41 [.ref (l.length + 5), .ref v0] rfl rfl ?_
  refine jv_putRF hC fl_X0_25 ow_0 hI dX0_init_41 rfl (hm_sl_app h0) (Nat.succ_ne_zero _) ?_
  obtain ⟨M9, e10, hF⟩ := hl_some hF
  refine jv_mem e10 ?_
  have hB : hm_MB M9 (l.length + 5) := by rw [e10]; exact hB.wR (hm_lea hv0.2 5) (hm_leb l.length (Nat.le_of_ble_eq_true rfl : 5 ≤ 5))
  refine jv_aload_n hC 0 dX0_init_44 rfl ?_
  refine jv_bipush hC dX0_init_45 c8_12 ?_
  refine jv_newarrW hA (l.length + 5) List.length_append (l ++ ([.inl (.long, 6), .inl (.int, 6), .inl (.int, 6), .inl (.int, 12), .inl (.int, 12), .inl (.int, 12)] : List hm_Sh)) (List.append_assoc _ _ _) hB (Nat.lt_of_le_of_lt (Nat.add_le_add_left (Nat.le_of_ble_eq_true rfl : 6 ≤ 14) l.length) h9) dX0_init_47 rfl (Or.inl rfl) ac_int (by decide) (by decide) (by decide) (by decide) (by decide) (List.forall_mem_cons.mpr ⟨(hm_le_ref (hm_lea hv0.2 5)), (fun _ h => nomatch h)⟩) (List.forall_mem_cons.mpr ⟨(hm_le_ref (hm_lea hv0.2 5)), (fun _ h => nomatch h)⟩) (fun X hA => ?_)
  have hB : hm_MB M9 (l.length + 6) := hB.mono (Nat.le_succ _)
  have hC := hA.1
  have hI := hI0.ext hA.2.1
  refine jv_nf 49 [.ref (l.length + 6), .ref v0] rfl rfl ?_
  refine jv_putRF hC fl_X0_28 ow_0 hI dX0_init_49 rfl (hm_sl_app h0) (Nat.succ_ne_zero _) ?_
  obtain ⟨M11, e12, hF⟩ := hl_some hF
  refine jv_mem e12 ?_
  have hB : hm_MB M11 (l.length + 6) := by rw [e12]; exact hB.wR (hm_lea hv0.2 6) (hm_leb l.length (Nat.le_of_ble_eq_true rfl : 6 ≤ 6))
  refine jv_aload_n hC 0 dX0_init_52 rfl ?_
  refine jv_bipush hC dX0_init_53 c8_12 ?_
  refine jv_newarrW hA (l.length + 6) List.length_append (l ++ ([.inl (.long, 6), .inl (.int, 6), .inl (.int, 6), .inl (.int, 12), .inl (.int, 12), .inl (.int, 12), .inl (.int, 12)] : List hm_Sh)) (List.append_assoc _ _ _) hB (Nat.lt_of_le_of_lt (Nat.add_le_add_left (Nat.le_of_ble_eq_true rfl : 7 ≤ 14) l.length) h9) dX0_init_55 rfl (Or.inl rfl) ac_int (by decide) (by decide) (by decide) (by decide) (by decide) (List.forall_mem_cons.mpr ⟨(hm_le_ref (hm_lea hv0.2 6)), (fun _ h => nomatch h)⟩) (List.forall_mem_cons.mpr ⟨(hm_le_ref (hm_lea hv0.2 6)), (fun _ h => nomatch h)⟩) (fun X hA => ?_)
  have hB : hm_MB M11 (l.length + 7) := hB.mono (Nat.le_succ _)
  have hC := hA.1
  have hI := hI0.ext hA.2.1
  refine jv_nf 57 [.ref (l.length + 7), .ref v0] rfl rfl ?_
  refine jv_putRF hC fl_X0_31 ow_0 hI dX0_init_57 rfl (hm_sl_app h0) (Nat.succ_ne_zero _) ?_
  obtain ⟨M13, e14, hF⟩ := hl_some hF
  refine jv_mem e14 ?_
  have hB : hm_MB M13 (l.length + 7) := by rw [e14]; exact hB.wR (hm_lea hv0.2 7) (hm_leb l.length (Nat.le_of_ble_eq_true rfl : 7 ≤ 7))
  refine jv_aload_n hC 0 dX0_init_60 rfl ?_
  refine jv_newobjW hA (l.length + 7) List.length_append (l ++ ([.inl (.long, 6), .inl (.int, 6), .inl (.int, 6), .inl (.int, 12), .inl (.int, 12), .inl (.int, 12), .inl (.int, 12), .inr 3] : List hm_Sh)) (List.append_assoc _ _ _) hB (Nat.lt_of_le_of_lt (Nat.add_le_add_left (Nat.le_of_ble_eq_true rfl : 8 ≤ 14) l.length) h9) nw_X0_34 dX0_init_61 (by decide) (by decide) (List.forall_mem_cons.mpr ⟨(hm_le_ref (hm_lea hv0.2 7)), (fun _ h => nomatch h)⟩) (List.forall_mem_cons.mpr ⟨(hm_le_ref (hm_lea hv0.2 7)), (fun _ h => nomatch h)⟩) (fun X hA => ?_)
  have hB : hm_MB M13 (l.length + 8) := hB.mono (Nat.le_succ _)
  have hC := hA.1
  have hI := hI0.ext hA.2.1
  refine jv_nf 64 [.ref (l.length + 8), .ref v0] rfl rfl ?_
  refine jv_dup hC dX0_init_64 rfl ?_
  obtain ⟨M16, c15, hF⟩ := hv_some hF
  refine jv_callIW hA (l.length + 8) List.length_append (l ++ ([.inl (.long, 6), .inl (.int, 6), .inl (.int, 6), .inl (.int, 12), .inl (.int, 12), .inl (.int, 12), .inl (.int, 12), .inr 3, .inl (.int, 1000), .inl (.int, 4), .inl (.int, 4), .inl (.int, 32), .inl (.int, 7)] : List hm_Sh)) (List.append_assoc _ _ _) (kA_Laws_init (hm_sl_new rfl) (by rw [List.length_append]; exact hB) (hm_l9 h9 (Nat.le_of_ble_eq_true rfl)) c15) mm_Laws_init ni_Laws_init rfl ml_X0_36 dX0_init_65 (Nat.le_of_ble_eq_true rfl) rfl rfl (Nat.le_of_ble_eq_true rfl) (by decide) (by decide) (List.forall_mem_cons.mpr ⟨(hm_le_ref (hm_lea hv0.2 8)), (fun _ h => nomatch h)⟩) (List.forall_mem_cons.mpr ⟨(hm_le_ref (hm_leb l.length (Nat.le_of_ble_eq_true rfl : 8 ≤ 8))), (List.forall_mem_cons.mpr ⟨(hm_le_ref (hm_lea hv0.2 8)), (fun _ h => nomatch h)⟩)⟩) (fun X hA => ?_)
  have hB : hm_MB M16 (l.length + 13) := by have h := mB_Laws_init (hm_sl_new rfl) (by rw [List.length_append]; exact hB) (hm_l9 h9 (Nat.le_of_ble_eq_true rfl)) c15; rw [List.length_append, List.length_append] at h; exact h
  have hC := hA.1
  have hI := hI0.ext hA.2.1
  refine jv_nf 68 [.ref (l.length + 8), .ref v0] rfl rfl ?_
  refine jv_putRF hC fl_X0_37 ow_0 hI dX0_init_68 rfl (hm_sl_app h0) (Nat.succ_ne_zero _) ?_
  obtain ⟨M17, e18, hF⟩ := hl_some hF
  refine jv_mem e18 ?_
  have hB : hm_MB M17 (l.length + 13) := by rw [e18]; exact hB.wR (hm_lea hv0.2 13) (hm_leb l.length (Nat.le_of_ble_eq_true rfl : 8 ≤ 13))
  refine jv_aload_n hC 0 dX0_init_71 rfl ?_
  obtain ⟨M20, c19, hF⟩ := hv_some hF
  refine jv_callV hC (st := []) [] (k_Chapel_begin c19) mm_Chapel_begin mi_Chapel_begin ml_X0_41 dX0_init_72 (hm_sl_app h0) rfl (Nat.le_of_ble_eq_true rfl) rfl rfl (Nat.le_of_ble_eq_true rfl) ?_
  have hB : hm_MB M20 (l.length + 13) := mb_Chapel_begin hB (hm_lea hv0.2 13) c19
  refine jv_nf 75 [] rfl rfl ?_
  obtain rfl := hr_somev hF
  exact jv_vretA hA (by decide) (by decide) dX0_init_75
set_option maxRecDepth 100000 in
set_option maxHeartbeats 4000000 in
theorem mB_Chapel_init {l : List hm_Sh} {v0 : Nat} {M M' : hm_M} (h0 : hm_sl l v0 = some (.inr 0)) (hB : hm_MB M l.length) (h9 : l.length + 14 < 900000) (hF : g_Chapel_init l v0 M = some M') : hm_MB M' (l ++ ([.inl (.long, 6), .inl (.int, 6), .inl (.int, 6), .inl (.int, 12), .inl (.int, 12), .inl (.int, 12), .inl (.int, 12), .inr 3, .inl (.int, 1000), .inl (.int, 4), .inl (.int, 4), .inl (.int, 32), .inl (.int, 7)] : List hm_Sh)).length := by
  have hv0 := (hm_sl_rng _ _ h0)
  unfold g_Chapel_init at hF
  have hB : hm_MB M (l.length + 1) := hB.mono (Nat.le_succ _)
  obtain ⟨M1, e2, hF⟩ := hl_some hF
  have hB : hm_MB M1 (l.length + 1) := by rw [e2]; exact hB.wR (hm_lea hv0.2 1) (hm_leb l.length (Nat.le_of_ble_eq_true rfl : 1 ≤ 1))
  have hB : hm_MB M1 (l.length + 2) := hB.mono (Nat.le_succ _)
  obtain ⟨M3, e4, hF⟩ := hl_some hF
  have hB : hm_MB M3 (l.length + 2) := by rw [e4]; exact hB.wR (hm_lea hv0.2 2) (hm_leb l.length (Nat.le_of_ble_eq_true rfl : 2 ≤ 2))
  have hB : hm_MB M3 (l.length + 3) := hB.mono (Nat.le_succ _)
  obtain ⟨M5, e6, hF⟩ := hl_some hF
  have hB : hm_MB M5 (l.length + 3) := by rw [e6]; exact hB.wR (hm_lea hv0.2 3) (hm_leb l.length (Nat.le_of_ble_eq_true rfl : 3 ≤ 3))
  have hB : hm_MB M5 (l.length + 4) := hB.mono (Nat.le_succ _)
  obtain ⟨M7, e8, hF⟩ := hl_some hF
  have hB : hm_MB M7 (l.length + 4) := by rw [e8]; exact hB.wR (hm_lea hv0.2 4) (hm_leb l.length (Nat.le_of_ble_eq_true rfl : 4 ≤ 4))
  have hB : hm_MB M7 (l.length + 5) := hB.mono (Nat.le_succ _)
  obtain ⟨M9, e10, hF⟩ := hl_some hF
  have hB : hm_MB M9 (l.length + 5) := by rw [e10]; exact hB.wR (hm_lea hv0.2 5) (hm_leb l.length (Nat.le_of_ble_eq_true rfl : 5 ≤ 5))
  have hB : hm_MB M9 (l.length + 6) := hB.mono (Nat.le_succ _)
  obtain ⟨M11, e12, hF⟩ := hl_some hF
  have hB : hm_MB M11 (l.length + 6) := by rw [e12]; exact hB.wR (hm_lea hv0.2 6) (hm_leb l.length (Nat.le_of_ble_eq_true rfl : 6 ≤ 6))
  have hB : hm_MB M11 (l.length + 7) := hB.mono (Nat.le_succ _)
  obtain ⟨M13, e14, hF⟩ := hl_some hF
  have hB : hm_MB M13 (l.length + 7) := by rw [e14]; exact hB.wR (hm_lea hv0.2 7) (hm_leb l.length (Nat.le_of_ble_eq_true rfl : 7 ≤ 7))
  have hB : hm_MB M13 (l.length + 8) := hB.mono (Nat.le_succ _)
  obtain ⟨M16, c15, hF⟩ := hv_some hF
  have hB : hm_MB M16 (l.length + 13) := by have h := mB_Laws_init (hm_sl_new rfl) (by rw [List.length_append]; exact hB) (hm_l9 h9 (Nat.le_of_ble_eq_true rfl)) c15; rw [List.length_append, List.length_append] at h; exact h
  obtain ⟨M17, e18, hF⟩ := hl_some hF
  have hB : hm_MB M17 (l.length + 13) := by rw [e18]; exact hB.wR (hm_lea hv0.2 13) (hm_leb l.length (Nat.le_of_ble_eq_true rfl : 8 ≤ 13))
  obtain ⟨M20, c19, hF⟩ := hv_some hF
  have hB : hm_MB M20 (l.length + 13) := mb_Chapel_begin hB (hm_lea hv0.2 13) c19
  obtain rfl := hr_somev hF
  rw [List.length_append]; exact hB
set_option maxRecDepth 100000 in
set_option maxHeartbeats 4000000 in
theorem kA_Reader_init {l : List hm_Sh} {v0 : Nat} {M M' : hm_M} (h0 : hm_sl l v0 = some (.inr 5)) (hB : hm_MB M l.length) (h9 : l.length + 17 < 900000) (hF : g_Reader_init l v0 M = some M') : hm_KA yX5_init cX5_init 1 4 l (l ++ [.inr 7, .inl (.byte, 1000), .inr 0, .inl (.long, 6), .inl (.int, 6), .inl (.int, 6), .inl (.int, 12), .inl (.int, 12), .inl (.int, 12), .inl (.int, 12), .inr 3, .inl (.int, 1000), .inl (.int, 4), .inl (.int, 4), .inl (.int, 32), .inl (.int, 7)]) [.ref v0] M M' 16 2139 := by
  have hv0 := (hm_sl_rng _ _ h0)
  refine hm_enterA mm_Reader_init rfl (Nat.le_of_ble_eq_true rfl) (fun X hI0 hA => ?_)
  have hC := hA.1
  have hI := hI0
  show hm_U X 0 [(0, .ref v0)] [] M _
  unfold g_Reader_init at hF
  refine jv_aload_n hC 0 dX5_init_0 rfl ?_
  refine jv_objInit hC ol_X5_3 oi_inst oi_code dX5_init_1 (by decide) (Nat.le_of_ble_eq_true rfl) ?_
  refine jv_aload_n hC 0 dX5_init_4 rfl ?_
  refine jv_newobjW hA l.length rfl (l ++ ([.inr 7] : List hm_Sh)) (rfl) hB (Nat.lt_of_le_of_lt (Nat.add_le_add_left (Nat.le_of_ble_eq_true rfl : 1 ≤ 17) l.length) h9) nw_X5_9 dX5_init_5 (by decide) (by decide) (List.forall_mem_cons.mpr ⟨(hm_le_ref hv0.2), (fun _ h => nomatch h)⟩) (List.forall_mem_cons.mpr ⟨(hm_le_ref hv0.2), (fun _ h => nomatch h)⟩) (fun X hA => ?_)
  have hB : hm_MB M (l.length + 1) := hB.mono (Nat.le_succ _)
  have hC := hA.1
  have hI := hI0.ext hA.2.1
  refine jv_nf 8 [.ref (l.length + 1), .ref v0] rfl rfl ?_
  refine jv_dup hC dX5_init_8 rfl ?_
  obtain ⟨M2, c1, hF⟩ := hv_some hF
  refine jv_callIW hA (l.length + 1) List.length_append (l ++ ([.inr 7, .inl (.byte, 1000)] : List hm_Sh)) (List.append_assoc _ _ _) (kA_Tape_init (hm_sl_new rfl) (by rw [List.length_append]; exact hB) (hm_l9 h9 (Nat.le_of_ble_eq_true rfl)) c1) mm_Tape_init ni_Tape_init rfl ml_X5_11 dX5_init_9 (Nat.le_of_ble_eq_true rfl) rfl rfl (Nat.le_of_ble_eq_true rfl) (by decide) (by decide) (List.forall_mem_cons.mpr ⟨(hm_le_ref (hm_lea hv0.2 1)), (fun _ h => nomatch h)⟩) (List.forall_mem_cons.mpr ⟨(hm_le_ref (hm_leb l.length (Nat.le_of_ble_eq_true rfl : 1 ≤ 1))), (List.forall_mem_cons.mpr ⟨(hm_le_ref (hm_lea hv0.2 1)), (fun _ h => nomatch h)⟩)⟩) (fun X hA => ?_)
  have hB : hm_MB M2 (l.length + 2) := by have h := mB_Tape_init (hm_sl_new rfl) (by rw [List.length_append]; exact hB) (hm_l9 h9 (Nat.le_of_ble_eq_true rfl)) c1; rw [List.length_append, List.length_append] at h; exact h
  have hC := hA.1
  have hI := hI0.ext hA.2.1
  refine jv_nf 12 [.ref (l.length + 1), .ref v0] rfl rfl ?_
  refine jv_putRF hC fl_X5_12 ow_5 hI dX5_init_12 rfl (hm_sl_app h0) (Nat.succ_ne_zero _) ?_
  obtain ⟨M3, e4, hF⟩ := hl_some hF
  refine jv_mem e4 ?_
  have hB : hm_MB M3 (l.length + 2) := by rw [e4]; exact hB.wR (hm_lea hv0.2 2) (hm_leb l.length (Nat.le_of_ble_eq_true rfl : 1 ≤ 2))
  refine jv_aload_n hC 0 dX5_init_15 rfl ?_
  refine jv_newobjW hA (l.length + 2) List.length_append (l ++ ([.inr 7, .inl (.byte, 1000), .inr 0] : List hm_Sh)) (List.append_assoc _ _ _) hB (Nat.lt_of_le_of_lt (Nat.add_le_add_left (Nat.le_of_ble_eq_true rfl : 3 ≤ 17) l.length) h9) nw_X5_18 dX5_init_16 (by decide) (by decide) (List.forall_mem_cons.mpr ⟨(hm_le_ref (hm_lea hv0.2 2)), (fun _ h => nomatch h)⟩) (List.forall_mem_cons.mpr ⟨(hm_le_ref (hm_lea hv0.2 2)), (fun _ h => nomatch h)⟩) (fun X hA => ?_)
  have hB : hm_MB M3 (l.length + 3) := hB.mono (Nat.le_succ _)
  have hC := hA.1
  have hI := hI0.ext hA.2.1
  refine jv_nf 19 [.ref (l.length + 3), .ref v0] rfl rfl ?_
  refine jv_dup hC dX5_init_19 rfl ?_
  obtain ⟨M6, c5, hF⟩ := hv_some hF
  refine jv_callIW hA (l.length + 3) List.length_append (l ++ ([.inr 7, .inl (.byte, 1000), .inr 0, .inl (.long, 6), .inl (.int, 6), .inl (.int, 6), .inl (.int, 12), .inl (.int, 12), .inl (.int, 12), .inl (.int, 12), .inr 3, .inl (.int, 1000), .inl (.int, 4), .inl (.int, 4), .inl (.int, 32), .inl (.int, 7)] : List hm_Sh)) (List.append_assoc _ _ _) (kA_Chapel_init (hm_sl_new rfl) (by rw [List.length_append]; exact hB) (hm_l9 h9 (Nat.le_of_ble_eq_true rfl)) c5) mm_Chapel_init ni_Chapel_init rfl ml_X5_20 dX5_init_20 (Nat.le_of_ble_eq_true rfl) rfl rfl (Nat.le_of_ble_eq_true rfl) (by decide) (by decide) (List.forall_mem_cons.mpr ⟨(hm_le_ref (hm_lea hv0.2 3)), (fun _ h => nomatch h)⟩) (List.forall_mem_cons.mpr ⟨(hm_le_ref (hm_leb l.length (Nat.le_of_ble_eq_true rfl : 3 ≤ 3))), (List.forall_mem_cons.mpr ⟨(hm_le_ref (hm_lea hv0.2 3)), (fun _ h => nomatch h)⟩)⟩) (fun X hA => ?_)
  have hB : hm_MB M6 (l.length + 16) := by have h := mB_Chapel_init (hm_sl_new rfl) (by rw [List.length_append]; exact hB) (hm_l9 h9 (Nat.le_of_ble_eq_true rfl)) c5; rw [List.length_append, List.length_append] at h; exact h
  have hC := hA.1
  have hI := hI0.ext hA.2.1
  refine jv_nf 23 [.ref (l.length + 3), .ref v0] rfl rfl ?_
  refine jv_putR hC fl_X5_21 dX5_init_23 rfl (hm_sl_app h0) (Nat.succ_ne_zero _) ?_
  obtain ⟨M7, e8, hF⟩ := hl_some hF
  refine jv_mem e8 ?_
  have hB : hm_MB M7 (l.length + 16) := by rw [e8]; exact hB.wR (hm_lea hv0.2 16) (hm_leb l.length (Nat.le_of_ble_eq_true rfl : 3 ≤ 16))
  refine jv_aload_n hC 0 dX5_init_26 rfl ?_
  refine jv_iconst hC dX5_init_27 c32_0 ?_
  refine jv_putI hC fl_X5_25 dX5_init_28 rfl rfl rfl (hm_sl_app h0) ?_
  obtain ⟨M9, e10, hF⟩ := hl_some hF
  refine jv_mem e10 ?_
  have hB : hm_MB M9 (l.length + 16) := by rw [e10]; exact hB.wI (hm_lea hv0.2 16)
  refine jv_aload_n hC 0 dX5_init_31 rfl ?_
  refine jv_pc 32 rfl ?_
  refine jv_iconst hC dX5_init_32 c32_0 ?_
  refine jv_putI hC fl_X5_29 dX5_init_33 rfl rfl rfl (hm_sl_app h0) ?_
  obtain ⟨M11, e12, hF⟩ := hl_some hF
  refine jv_mem e12 ?_
  have hB : hm_MB M11 (l.length + 16) := by rw [e12]; exact hB.wI (hm_lea hv0.2 16)
  refine jv_aload_n hC 0 dX5_init_36 rfl ?_
  refine jv_sipush hC dX5_init_37 c16_135 ?_
  refine jv_putI hC fl_X5_32 dX5_init_40 rfl rfl rfl (hm_sl_app h0) ?_
  obtain ⟨M13, e14, hF⟩ := hl_some hF
  refine jv_mem e14 ?_
  have hB : hm_MB M13 (l.length + 16) := by rw [e14]; exact hB.wI (hm_lea hv0.2 16)
  obtain rfl := hr_somev hF
  exact jv_vretA hA (by decide) (by decide) dX5_init_43
set_option maxRecDepth 100000 in
set_option maxHeartbeats 4000000 in
theorem mB_Reader_init {l : List hm_Sh} {v0 : Nat} {M M' : hm_M} (h0 : hm_sl l v0 = some (.inr 5)) (hB : hm_MB M l.length) (h9 : l.length + 17 < 900000) (hF : g_Reader_init l v0 M = some M') : hm_MB M' (l ++ ([.inr 7, .inl (.byte, 1000), .inr 0, .inl (.long, 6), .inl (.int, 6), .inl (.int, 6), .inl (.int, 12), .inl (.int, 12), .inl (.int, 12), .inl (.int, 12), .inr 3, .inl (.int, 1000), .inl (.int, 4), .inl (.int, 4), .inl (.int, 32), .inl (.int, 7)] : List hm_Sh)).length := by
  have hv0 := (hm_sl_rng _ _ h0)
  unfold g_Reader_init at hF
  have hB : hm_MB M (l.length + 1) := hB.mono (Nat.le_succ _)
  obtain ⟨M2, c1, hF⟩ := hv_some hF
  have hB : hm_MB M2 (l.length + 2) := by have h := mB_Tape_init (hm_sl_new rfl) (by rw [List.length_append]; exact hB) (hm_l9 h9 (Nat.le_of_ble_eq_true rfl)) c1; rw [List.length_append, List.length_append] at h; exact h
  obtain ⟨M3, e4, hF⟩ := hl_some hF
  have hB : hm_MB M3 (l.length + 2) := by rw [e4]; exact hB.wR (hm_lea hv0.2 2) (hm_leb l.length (Nat.le_of_ble_eq_true rfl : 1 ≤ 2))
  have hB : hm_MB M3 (l.length + 3) := hB.mono (Nat.le_succ _)
  obtain ⟨M6, c5, hF⟩ := hv_some hF
  have hB : hm_MB M6 (l.length + 16) := by have h := mB_Chapel_init (hm_sl_new rfl) (by rw [List.length_append]; exact hB) (hm_l9 h9 (Nat.le_of_ble_eq_true rfl)) c5; rw [List.length_append, List.length_append] at h; exact h
  obtain ⟨M7, e8, hF⟩ := hl_some hF
  have hB : hm_MB M7 (l.length + 16) := by rw [e8]; exact hB.wR (hm_lea hv0.2 16) (hm_leb l.length (Nat.le_of_ble_eq_true rfl : 3 ≤ 16))
  obtain ⟨M9, e10, hF⟩ := hl_some hF
  have hB : hm_MB M9 (l.length + 16) := by rw [e10]; exact hB.wI (hm_lea hv0.2 16)
  obtain ⟨M11, e12, hF⟩ := hl_some hF
  have hB : hm_MB M11 (l.length + 16) := by rw [e12]; exact hB.wI (hm_lea hv0.2 16)
  obtain ⟨M13, e14, hF⟩ := hl_some hF
  have hB : hm_MB M13 (l.length + 16) := by rw [e14]; exact hB.wI (hm_lea hv0.2 16)
  obtain rfl := hr_somev hF
  rw [List.length_append]; exact hB
set_option maxRecDepth 100000 in
set_option maxHeartbeats 4000000 in
theorem kA_Light_init {l : List hm_Sh} {v0 : Nat} {M M' : hm_M} (h0 : hm_sl l v0 = some (.inr 4)) (hB : hm_MB M l.length) (h9 : l.length + 17 < 900000) (hF : g_Light_init l v0 M = some M') : hm_KA yX4_init cX4_init 1 4 l (l ++ [.inr 0, .inl (.long, 6), .inl (.int, 6), .inl (.int, 6), .inl (.int, 12), .inl (.int, 12), .inl (.int, 12), .inl (.int, 12), .inr 3, .inl (.int, 1000), .inl (.int, 4), .inl (.int, 4), .inl (.int, 32), .inl (.int, 7), .inl (.int, 12), .inl (.long, 2496)]) [.ref v0] M M' 16 3640 := by
  have hv0 := (hm_sl_rng _ _ h0)
  refine hm_enterA mm_Light_init rfl (Nat.le_of_ble_eq_true rfl) (fun X hI0 hA => ?_)
  have hC := hA.1
  have hI := hI0
  show hm_U X 0 [(0, .ref v0)] [] M _
  unfold g_Light_init at hF
  refine jv_aload_n hC 0 dX4_init_0 rfl ?_
  refine jv_objInit hC ol_X4_3 oi_inst oi_code dX4_init_1 (by decide) (Nat.le_of_ble_eq_true rfl) ?_
  refine jv_aload_n hC 0 dX4_init_4 rfl ?_
  refine jv_newobjW hA l.length rfl (l ++ ([.inr 0] : List hm_Sh)) (rfl) hB (Nat.lt_of_le_of_lt (Nat.add_le_add_left (Nat.le_of_ble_eq_true rfl : 1 ≤ 17) l.length) h9) nw_X4_9 dX4_init_5 (by decide) (by decide) (List.forall_mem_cons.mpr ⟨(hm_le_ref hv0.2), (fun _ h => nomatch h)⟩) (List.forall_mem_cons.mpr ⟨(hm_le_ref hv0.2), (fun _ h => nomatch h)⟩) (fun X hA => ?_)
  have hB : hm_MB M (l.length + 1) := hB.mono (Nat.le_succ _)
  have hC := hA.1
  have hI := hI0.ext hA.2.1
  refine jv_nf 8 [.ref (l.length + 1), .ref v0] rfl rfl ?_
  refine jv_dup hC dX4_init_8 rfl ?_
  obtain ⟨M2, c1, hF⟩ := hv_some hF
  refine jv_callIW hA (l.length + 1) List.length_append (l ++ ([.inr 0, .inl (.long, 6), .inl (.int, 6), .inl (.int, 6), .inl (.int, 12), .inl (.int, 12), .inl (.int, 12), .inl (.int, 12), .inr 3, .inl (.int, 1000), .inl (.int, 4), .inl (.int, 4), .inl (.int, 32), .inl (.int, 7)] : List hm_Sh)) (List.append_assoc _ _ _) (kA_Chapel_init (hm_sl_new rfl) (by rw [List.length_append]; exact hB) (hm_l9 h9 (Nat.le_of_ble_eq_true rfl)) c1) mm_Chapel_init ni_Chapel_init rfl ml_X4_11 dX4_init_9 (Nat.le_of_ble_eq_true rfl) rfl rfl (Nat.le_of_ble_eq_true rfl) (by decide) (by decide) (List.forall_mem_cons.mpr ⟨(hm_le_ref (hm_lea hv0.2 1)), (fun _ h => nomatch h)⟩) (List.forall_mem_cons.mpr ⟨(hm_le_ref (hm_leb l.length (Nat.le_of_ble_eq_true rfl : 1 ≤ 1))), (List.forall_mem_cons.mpr ⟨(hm_le_ref (hm_lea hv0.2 1)), (fun _ h => nomatch h)⟩)⟩) (fun X hA => ?_)
  have hB : hm_MB M2 (l.length + 14) := by have h := mB_Chapel_init (hm_sl_new rfl) (by rw [List.length_append]; exact hB) (hm_l9 h9 (Nat.le_of_ble_eq_true rfl)) c1; rw [List.length_append, List.length_append] at h; exact h
  have hC := hA.1
  have hI := hI0.ext hA.2.1
  refine jv_nf 12 [.ref (l.length + 1), .ref v0] rfl rfl ?_
  refine jv_putR hC fl_X4_12 dX4_init_12 rfl (hm_sl_app h0) (Nat.succ_ne_zero _) ?_
  obtain ⟨M3, e4, hF⟩ := hl_some hF
  refine jv_mem e4 ?_
  have hB : hm_MB M3 (l.length + 14) := by rw [e4]; exact hB.wR (hm_lea hv0.2 14) (hm_leb l.length (Nat.le_of_ble_eq_true rfl : 1 ≤ 14))
  refine jv_aload_n hC 0 dX4_init_15 rfl ?_
  refine jv_bipush hC dX4_init_16 c8_12 ?_
  refine jv_newarrW hA (l.length + 14) List.length_append (l ++ ([.inr 0, .inl (.long, 6), .inl (.int, 6), .inl (.int, 6), .inl (.int, 12), .inl (.int, 12), .inl (.int, 12), .inl (.int, 12), .inr 3, .inl (.int, 1000), .inl (.int, 4), .inl (.int, 4), .inl (.int, 32), .inl (.int, 7), .inl (.int, 12)] : List hm_Sh)) (List.append_assoc _ _ _) hB (Nat.lt_of_le_of_lt (Nat.add_le_add_left (Nat.le_of_ble_eq_true rfl : 15 ≤ 17) l.length) h9) dX4_init_18 rfl (Or.inl rfl) ac_int (by decide) (by decide) (by decide) (by decide) (by decide) (List.forall_mem_cons.mpr ⟨(hm_le_ref (hm_lea hv0.2 14)), (fun _ h => nomatch h)⟩) (List.forall_mem_cons.mpr ⟨(hm_le_ref (hm_lea hv0.2 14)), (fun _ h => nomatch h)⟩) (fun X hA => ?_)
  have hB : hm_MB M3 (l.length + 15) := hB.mono (Nat.le_succ _)
  have hC := hA.1
  have hI := hI0.ext hA.2.1
  refine jv_nf 20 [.ref (l.length + 15), .ref v0] rfl rfl ?_
  refine jv_putRF hC fl_X4_18 ow_4 hI dX4_init_20 rfl (hm_sl_app h0) (Nat.succ_ne_zero _) ?_
  obtain ⟨M5, e6, hF⟩ := hl_some hF
  refine jv_mem e6 ?_
  have hB : hm_MB M5 (l.length + 15) := by rw [e6]; exact hB.wR (hm_lea hv0.2 15) (hm_leb l.length (Nat.le_of_ble_eq_true rfl : 15 ≤ 15))
  refine jv_aload_n hC 0 dX4_init_23 rfl ?_
  refine jv_sipush hC dX4_init_24 c16_2496 ?_
  refine jv_newarrW hA (l.length + 15) List.length_append (l ++ ([.inr 0, .inl (.long, 6), .inl (.int, 6), .inl (.int, 6), .inl (.int, 12), .inl (.int, 12), .inl (.int, 12), .inl (.int, 12), .inr 3, .inl (.int, 1000), .inl (.int, 4), .inl (.int, 4), .inl (.int, 32), .inl (.int, 7), .inl (.int, 12), .inl (.long, 2496)] : List hm_Sh)) (List.append_assoc _ _ _) hB (Nat.lt_of_le_of_lt (Nat.add_le_add_left (Nat.le_of_ble_eq_true rfl : 16 ≤ 17) l.length) h9) dX4_init_27 rfl (Or.inr (Or.inl rfl)) ac_long (by decide) (by decide) (by decide) (by decide) (by decide) (List.forall_mem_cons.mpr ⟨(hm_le_ref (hm_lea hv0.2 15)), (fun _ h => nomatch h)⟩) (List.forall_mem_cons.mpr ⟨(hm_le_ref (hm_lea hv0.2 15)), (fun _ h => nomatch h)⟩) (fun X hA => ?_)
  have hB : hm_MB M5 (l.length + 16) := hB.mono (Nat.le_succ _)
  have hC := hA.1
  have hI := hI0.ext hA.2.1
  refine jv_nf 29 [.ref (l.length + 16), .ref v0] rfl rfl ?_
  refine jv_putRF hC fl_X4_22 ow_4 hI dX4_init_29 rfl (hm_sl_app h0) (Nat.succ_ne_zero _) ?_
  obtain ⟨M7, e8, hF⟩ := hl_some hF
  refine jv_mem e8 ?_
  have hB : hm_MB M7 (l.length + 16) := by rw [e8]; exact hB.wR (hm_lea hv0.2 16) (hm_leb l.length (Nat.le_of_ble_eq_true rfl : 16 ≤ 16))
  refine jv_aload_n hC 0 dX4_init_32 rfl ?_
  refine jv_iconst hC dX4_init_33 c32_m1 ?_
  refine jv_putI hC fl_X4_26 dX4_init_34 rfl rfl rfl (hm_sl_app h0) ?_
  obtain ⟨M9, e10, hF⟩ := hl_some hF
  refine jv_mem e10 ?_
  have hB : hm_MB M9 (l.length + 16) := by rw [e10]; exact hB.wI (hm_lea hv0.2 16)
  obtain rfl := hr_somev hF
  exact jv_vretA hA (by decide) (by decide) dX4_init_37
set_option maxRecDepth 100000 in
set_option maxHeartbeats 4000000 in
theorem mB_Light_init {l : List hm_Sh} {v0 : Nat} {M M' : hm_M} (h0 : hm_sl l v0 = some (.inr 4)) (hB : hm_MB M l.length) (h9 : l.length + 17 < 900000) (hF : g_Light_init l v0 M = some M') : hm_MB M' (l ++ ([.inr 0, .inl (.long, 6), .inl (.int, 6), .inl (.int, 6), .inl (.int, 12), .inl (.int, 12), .inl (.int, 12), .inl (.int, 12), .inr 3, .inl (.int, 1000), .inl (.int, 4), .inl (.int, 4), .inl (.int, 32), .inl (.int, 7), .inl (.int, 12), .inl (.long, 2496)] : List hm_Sh)).length := by
  have hv0 := (hm_sl_rng _ _ h0)
  unfold g_Light_init at hF
  have hB : hm_MB M (l.length + 1) := hB.mono (Nat.le_succ _)
  obtain ⟨M2, c1, hF⟩ := hv_some hF
  have hB : hm_MB M2 (l.length + 14) := by have h := mB_Chapel_init (hm_sl_new rfl) (by rw [List.length_append]; exact hB) (hm_l9 h9 (Nat.le_of_ble_eq_true rfl)) c1; rw [List.length_append, List.length_append] at h; exact h
  obtain ⟨M3, e4, hF⟩ := hl_some hF
  have hB : hm_MB M3 (l.length + 14) := by rw [e4]; exact hB.wR (hm_lea hv0.2 14) (hm_leb l.length (Nat.le_of_ble_eq_true rfl : 1 ≤ 14))
  have hB : hm_MB M3 (l.length + 15) := hB.mono (Nat.le_succ _)
  obtain ⟨M5, e6, hF⟩ := hl_some hF
  have hB : hm_MB M5 (l.length + 15) := by rw [e6]; exact hB.wR (hm_lea hv0.2 15) (hm_leb l.length (Nat.le_of_ble_eq_true rfl : 15 ≤ 15))
  have hB : hm_MB M5 (l.length + 16) := hB.mono (Nat.le_succ _)
  obtain ⟨M7, e8, hF⟩ := hl_some hF
  have hB : hm_MB M7 (l.length + 16) := by rw [e8]; exact hB.wR (hm_lea hv0.2 16) (hm_leb l.length (Nat.le_of_ble_eq_true rfl : 16 ≤ 16))
  obtain ⟨M9, e10, hF⟩ := hl_some hF
  have hB : hm_MB M9 (l.length + 16) := by rw [e10]; exact hB.wI (hm_lea hv0.2 16)
  obtain rfl := hr_somev hF
  rw [List.length_append]; exact hB
set_option maxRecDepth 100000 in
set_option maxHeartbeats 4000000 in
theorem kA_Hold_init {l : List hm_Sh} {v0 : Nat} {M M' : hm_M} (h0 : hm_sl l v0 = some (.inr 2)) (hB : hm_MB M l.length) (h9 : l.length + 4 < 900000) (hF : g_Hold_init l v0 M = some M') : hm_KA yX2_init cX2_init 2 1 l (l ++ [.inl (.int, 12), .inl (.int, 8), .inl (.int, 8)]) [.ref v0] M M' 3 28 := by
  have hv0 := (hm_sl_rng _ _ h0)
  refine hm_enterA mm_Hold_init rfl (Nat.le_of_ble_eq_true rfl) (fun X hI0 hA => ?_)
  have hC := hA.1
  have hI := hI0
  show hm_U X 0 [(0, .ref v0)] [] M _
  unfold g_Hold_init at hF
  refine jv_aload_n hC 0 dX2_init_0 rfl ?_
  refine jv_objInit hC ol_X2_3 oi_inst oi_code dX2_init_1 (by decide) (Nat.le_of_ble_eq_true rfl) ?_
  refine jv_aload_n hC 0 dX2_init_4 rfl ?_
  refine jv_bipush hC dX2_init_5 c8_12 ?_
  refine jv_newarrW hA l.length rfl (l ++ ([.inl (.int, 12)] : List hm_Sh)) (rfl) hB (Nat.lt_of_le_of_lt (Nat.add_le_add_left (Nat.le_of_ble_eq_true rfl : 1 ≤ 4) l.length) h9) dX2_init_7 rfl (Or.inl rfl) ac_int (by decide) (by decide) (by decide) (by decide) (by decide) (List.forall_mem_cons.mpr ⟨(hm_le_ref hv0.2), (fun _ h => nomatch h)⟩) (List.forall_mem_cons.mpr ⟨(hm_le_ref hv0.2), (fun _ h => nomatch h)⟩) (fun X hA => ?_)
  have hB : hm_MB M (l.length + 1) := hB.mono (Nat.le_succ _)
  have hC := hA.1
  have hI := hI0.ext hA.2.1
  refine jv_nf 9 [.ref (l.length + 1), .ref v0] rfl rfl ?_
  refine jv_putRF hC fl_X2_9 ow_2 hI dX2_init_9 rfl (hm_sl_app h0) (Nat.succ_ne_zero _) ?_
  obtain ⟨M1, e2, hF⟩ := hl_some hF
  refine jv_mem e2 ?_
  have hB : hm_MB M1 (l.length + 1) := by rw [e2]; exact hB.wR (hm_lea hv0.2 1) (hm_leb l.length (Nat.le_of_ble_eq_true rfl : 1 ≤ 1))
  refine jv_iconst hC dX2_init_12 c32_0 ?_
  refine jv_istore_n hC [(1, .int (0 : Int32)), (0, .ref v0)] dX2_init_13 (by decide) rfl ?_
  refine jv_iload_n hC 0 dX2_init_14 rfl ?_
  refine jv_bipush hC dX2_init_15 c8_12 ?_
  refine jv_pc 17 rfl ?_
  refine jv_icmp_ge hC 33 dX2_init_17 (by decide) (fun h => absurd h (by decide)) (fun _ => ?_)
  refine jv_aload_n hC 1 dX2_init_20 rfl ?_
  obtain ⟨g3, hF⟩ := hg_some hF
  obtain ⟨g4, hF⟩ := hg_some hF
  refine jv_getR hC fl_X2_9 dX2_init_21 rfl (hm_sl_app h0) g3 ?_
  refine jv_topR g4.symm ?_
  refine jv_iload_n hC 0 dX2_init_24 rfl ?_
  refine jv_iconst hC dX2_init_25 c32_m1 ?_
  refine jv_iastore hC dX2_init_26 (hm_sl_new rfl) (vi_0 (by decide)) ?_
  obtain ⟨M5, e6, hF⟩ := hl_some hF
  refine jv_mem e6 ?_
  have hB : hm_MB M5 (l.length + 1) := by rw [e6]; exact hB.wI (hm_leb l.length (Nat.le_of_ble_eq_true rfl : 1 ≤ 1))
  refine jv_pc 27 rfl ?_
  refine jv_iinc hC 0 [(1, .int (1 : Int32)), (0, .ref v0)] dX2_init_27 rfl c32_1 (by decide) rfl ?_
  refine jv_goto hC 14 dX2_init_30 (by decide) ?_
  refine jv_iload_n hC 0 dX2_init_14 rfl ?_
  refine jv_bipush hC dX2_init_15 c8_12 ?_
  refine jv_icmp_ge hC 33 dX2_init_17 (by decide) (fun h => absurd h (by decide)) (fun _ => ?_)
  refine jv_aload_n hC 1 dX2_init_20 rfl ?_
  obtain ⟨g7, hF⟩ := hg_some hF
  obtain ⟨g8, hF⟩ := hg_some hF
  refine jv_getR hC fl_X2_9 dX2_init_21 rfl (hm_sl_app h0) g7 ?_
  refine jv_topR g8.symm ?_
  refine jv_pc 24 rfl ?_
  refine jv_iload_n hC 0 dX2_init_24 rfl ?_
  refine jv_iconst hC dX2_init_25 c32_m1 ?_
  refine jv_iastore hC dX2_init_26 (hm_sl_new rfl) (vi_1 (by decide)) ?_
  obtain ⟨M9, e10, hF⟩ := hl_some hF
  refine jv_mem e10 ?_
  have hB : hm_MB M9 (l.length + 1) := by rw [e10]; exact hB.wI (hm_leb l.length (Nat.le_of_ble_eq_true rfl : 1 ≤ 1))
  refine jv_iinc hC 0 [(1, .int (2 : Int32)), (0, .ref v0)] dX2_init_27 rfl c32_1 (by decide) rfl ?_
  refine jv_goto hC 14 dX2_init_30 (by decide) ?_
  refine jv_iload_n hC 0 dX2_init_14 rfl ?_
  refine jv_bipush hC dX2_init_15 c8_12 ?_
  refine jv_icmp_ge hC 33 dX2_init_17 (by decide) (fun h => absurd h (by decide)) (fun _ => ?_)
  refine jv_aload_n hC 1 dX2_init_20 rfl ?_
  obtain ⟨g11, hF⟩ := hg_some hF
  obtain ⟨g12, hF⟩ := hg_some hF
  refine jv_getR hC fl_X2_9 dX2_init_21 rfl (hm_sl_app h0) g11 ?_
  refine jv_topR g12.symm ?_
  refine jv_pc 24 rfl ?_
  refine jv_iload_n hC 0 dX2_init_24 rfl ?_
  refine jv_iconst hC dX2_init_25 c32_m1 ?_
  refine jv_iastore hC dX2_init_26 (hm_sl_new rfl) (vi_2 (by decide)) ?_
  obtain ⟨M13, e14, hF⟩ := hl_some hF
  refine jv_mem e14 ?_
  have hB : hm_MB M13 (l.length + 1) := by rw [e14]; exact hB.wI (hm_leb l.length (Nat.le_of_ble_eq_true rfl : 1 ≤ 1))
  refine jv_iinc hC 0 [(1, .int (3 : Int32)), (0, .ref v0)] dX2_init_27 rfl c32_1 (by decide) rfl ?_
  refine jv_goto hC 14 dX2_init_30 (by decide) ?_
  refine jv_iload_n hC 0 dX2_init_14 rfl ?_
  refine jv_bipush hC dX2_init_15 c8_12 ?_
  refine jv_icmp_ge hC 33 dX2_init_17 (by decide) (fun h => absurd h (by decide)) (fun _ => ?_)
  refine jv_aload_n hC 1 dX2_init_20 rfl ?_
  obtain ⟨g15, hF⟩ := hg_some hF
  obtain ⟨g16, hF⟩ := hg_some hF
  refine jv_getR hC fl_X2_9 dX2_init_21 rfl (hm_sl_app h0) g15 ?_
  refine jv_topR g16.symm ?_
  refine jv_pc 24 rfl ?_
  refine jv_iload_n hC 0 dX2_init_24 rfl ?_
  refine jv_iconst hC dX2_init_25 c32_m1 ?_
  refine jv_iastore hC dX2_init_26 (hm_sl_new rfl) (vi_3 (by decide)) ?_
  obtain ⟨M17, e18, hF⟩ := hl_some hF
  refine jv_mem e18 ?_
  have hB : hm_MB M17 (l.length + 1) := by rw [e18]; exact hB.wI (hm_leb l.length (Nat.le_of_ble_eq_true rfl : 1 ≤ 1))
  refine jv_iinc hC 0 [(1, .int (4 : Int32)), (0, .ref v0)] dX2_init_27 rfl c32_1 (by decide) rfl ?_
  refine jv_goto hC 14 dX2_init_30 (by decide) ?_
  refine jv_iload_n hC 0 dX2_init_14 rfl ?_
  refine jv_bipush hC dX2_init_15 c8_12 ?_
  refine jv_icmp_ge hC 33 dX2_init_17 (by decide) (fun h => absurd h (by decide)) (fun _ => ?_)
  refine jv_aload_n hC 1 dX2_init_20 rfl ?_
  obtain ⟨g19, hF⟩ := hg_some hF
  obtain ⟨g20, hF⟩ := hg_some hF
  refine jv_getR hC fl_X2_9 dX2_init_21 rfl (hm_sl_app h0) g19 ?_
  refine jv_topR g20.symm ?_
  refine jv_pc 24 rfl ?_
  refine jv_iload_n hC 0 dX2_init_24 rfl ?_
  refine jv_iconst hC dX2_init_25 c32_m1 ?_
  refine jv_iastore hC dX2_init_26 (hm_sl_new rfl) (vi_4 (by decide)) ?_
  obtain ⟨M21, e22, hF⟩ := hl_some hF
  refine jv_mem e22 ?_
  have hB : hm_MB M21 (l.length + 1) := by rw [e22]; exact hB.wI (hm_leb l.length (Nat.le_of_ble_eq_true rfl : 1 ≤ 1))
  refine jv_iinc hC 0 [(1, .int (5 : Int32)), (0, .ref v0)] dX2_init_27 rfl c32_1 (by decide) rfl ?_
  refine jv_goto hC 14 dX2_init_30 (by decide) ?_
  refine jv_iload_n hC 0 dX2_init_14 rfl ?_
  refine jv_bipush hC dX2_init_15 c8_12 ?_
  refine jv_icmp_ge hC 33 dX2_init_17 (by decide) (fun h => absurd h (by decide)) (fun _ => ?_)
  refine jv_aload_n hC 1 dX2_init_20 rfl ?_
  obtain ⟨g23, hF⟩ := hg_some hF
  obtain ⟨g24, hF⟩ := hg_some hF
  refine jv_getR hC fl_X2_9 dX2_init_21 rfl (hm_sl_app h0) g23 ?_
  refine jv_topR g24.symm ?_
  refine jv_pc 24 rfl ?_
  refine jv_iload_n hC 0 dX2_init_24 rfl ?_
  refine jv_iconst hC dX2_init_25 c32_m1 ?_
  refine jv_iastore hC dX2_init_26 (hm_sl_new rfl) (vi_5 (by decide)) ?_
  obtain ⟨M25, e26, hF⟩ := hl_some hF
  refine jv_mem e26 ?_
  have hB : hm_MB M25 (l.length + 1) := by rw [e26]; exact hB.wI (hm_leb l.length (Nat.le_of_ble_eq_true rfl : 1 ≤ 1))
  refine jv_iinc hC 0 [(1, .int (6 : Int32)), (0, .ref v0)] dX2_init_27 rfl c32_1 (by decide) rfl ?_
  refine jv_goto hC 14 dX2_init_30 (by decide) ?_
  refine jv_iload_n hC 0 dX2_init_14 rfl ?_
  refine jv_bipush hC dX2_init_15 c8_12 ?_
  refine jv_icmp_ge hC 33 dX2_init_17 (by decide) (fun h => absurd h (by decide)) (fun _ => ?_)
  refine jv_aload_n hC 1 dX2_init_20 rfl ?_
  obtain ⟨g27, hF⟩ := hg_some hF
  obtain ⟨g28, hF⟩ := hg_some hF
  refine jv_getR hC fl_X2_9 dX2_init_21 rfl (hm_sl_app h0) g27 ?_
  refine jv_topR g28.symm ?_
  refine jv_pc 24 rfl ?_
  refine jv_iload_n hC 0 dX2_init_24 rfl ?_
  refine jv_iconst hC dX2_init_25 c32_m1 ?_
  refine jv_iastore hC dX2_init_26 (hm_sl_new rfl) (vi_6 (by decide)) ?_
  obtain ⟨M29, e30, hF⟩ := hl_some hF
  refine jv_mem e30 ?_
  have hB : hm_MB M29 (l.length + 1) := by rw [e30]; exact hB.wI (hm_leb l.length (Nat.le_of_ble_eq_true rfl : 1 ≤ 1))
  refine jv_iinc hC 0 [(1, .int (7 : Int32)), (0, .ref v0)] dX2_init_27 rfl c32_1 (by decide) rfl ?_
  refine jv_goto hC 14 dX2_init_30 (by decide) ?_
  refine jv_iload_n hC 0 dX2_init_14 rfl ?_
  refine jv_bipush hC dX2_init_15 c8_12 ?_
  refine jv_icmp_ge hC 33 dX2_init_17 (by decide) (fun h => absurd h (by decide)) (fun _ => ?_)
  refine jv_aload_n hC 1 dX2_init_20 rfl ?_
  obtain ⟨g31, hF⟩ := hg_some hF
  obtain ⟨g32, hF⟩ := hg_some hF
  refine jv_getR hC fl_X2_9 dX2_init_21 rfl (hm_sl_app h0) g31 ?_
  refine jv_topR g32.symm ?_
  refine jv_pc 24 rfl ?_
  refine jv_iload_n hC 0 dX2_init_24 rfl ?_
  refine jv_iconst hC dX2_init_25 c32_m1 ?_
  refine jv_iastore hC dX2_init_26 (hm_sl_new rfl) (vi_7 (by decide)) ?_
  obtain ⟨M33, e34, hF⟩ := hl_some hF
  refine jv_mem e34 ?_
  have hB : hm_MB M33 (l.length + 1) := by rw [e34]; exact hB.wI (hm_leb l.length (Nat.le_of_ble_eq_true rfl : 1 ≤ 1))
  refine jv_iinc hC 0 [(1, .int (8 : Int32)), (0, .ref v0)] dX2_init_27 rfl c32_1 (by decide) rfl ?_
  refine jv_goto hC 14 dX2_init_30 (by decide) ?_
  refine jv_iload_n hC 0 dX2_init_14 rfl ?_
  refine jv_bipush hC dX2_init_15 c8_12 ?_
  refine jv_icmp_ge hC 33 dX2_init_17 (by decide) (fun h => absurd h (by decide)) (fun _ => ?_)
  refine jv_aload_n hC 1 dX2_init_20 rfl ?_
  obtain ⟨g35, hF⟩ := hg_some hF
  obtain ⟨g36, hF⟩ := hg_some hF
  refine jv_getR hC fl_X2_9 dX2_init_21 rfl (hm_sl_app h0) g35 ?_
  refine jv_topR g36.symm ?_
  refine jv_pc 24 rfl ?_
  refine jv_iload_n hC 0 dX2_init_24 rfl ?_
  refine jv_iconst hC dX2_init_25 c32_m1 ?_
  refine jv_iastore hC dX2_init_26 (hm_sl_new rfl) (vi_8 (by decide)) ?_
  obtain ⟨M37, e38, hF⟩ := hl_some hF
  refine jv_mem e38 ?_
  have hB : hm_MB M37 (l.length + 1) := by rw [e38]; exact hB.wI (hm_leb l.length (Nat.le_of_ble_eq_true rfl : 1 ≤ 1))
  refine jv_iinc hC 0 [(1, .int (9 : Int32)), (0, .ref v0)] dX2_init_27 rfl c32_1 (by decide) rfl ?_
  refine jv_goto hC 14 dX2_init_30 (by decide) ?_
  refine jv_iload_n hC 0 dX2_init_14 rfl ?_
  refine jv_bipush hC dX2_init_15 c8_12 ?_
  refine jv_icmp_ge hC 33 dX2_init_17 (by decide) (fun h => absurd h (by decide)) (fun _ => ?_)
  refine jv_aload_n hC 1 dX2_init_20 rfl ?_
  obtain ⟨g39, hF⟩ := hg_some hF
  obtain ⟨g40, hF⟩ := hg_some hF
  refine jv_getR hC fl_X2_9 dX2_init_21 rfl (hm_sl_app h0) g39 ?_
  refine jv_topR g40.symm ?_
  refine jv_pc 24 rfl ?_
  refine jv_iload_n hC 0 dX2_init_24 rfl ?_
  refine jv_iconst hC dX2_init_25 c32_m1 ?_
  refine jv_iastore hC dX2_init_26 (hm_sl_new rfl) (vi_9 (by decide)) ?_
  obtain ⟨M41, e42, hF⟩ := hl_some hF
  refine jv_mem e42 ?_
  have hB : hm_MB M41 (l.length + 1) := by rw [e42]; exact hB.wI (hm_leb l.length (Nat.le_of_ble_eq_true rfl : 1 ≤ 1))
  refine jv_iinc hC 0 [(1, .int (10 : Int32)), (0, .ref v0)] dX2_init_27 rfl c32_1 (by decide) rfl ?_
  refine jv_goto hC 14 dX2_init_30 (by decide) ?_
  refine jv_iload_n hC 0 dX2_init_14 rfl ?_
  refine jv_bipush hC dX2_init_15 c8_12 ?_
  refine jv_icmp_ge hC 33 dX2_init_17 (by decide) (fun h => absurd h (by decide)) (fun _ => ?_)
  refine jv_aload_n hC 1 dX2_init_20 rfl ?_
  obtain ⟨g43, hF⟩ := hg_some hF
  obtain ⟨g44, hF⟩ := hg_some hF
  refine jv_getR hC fl_X2_9 dX2_init_21 rfl (hm_sl_app h0) g43 ?_
  refine jv_topR g44.symm ?_
  refine jv_pc 24 rfl ?_
  refine jv_iload_n hC 0 dX2_init_24 rfl ?_
  refine jv_iconst hC dX2_init_25 c32_m1 ?_
  refine jv_iastore hC dX2_init_26 (hm_sl_new rfl) (vi_10 (by decide)) ?_
  obtain ⟨M45, e46, hF⟩ := hl_some hF
  refine jv_mem e46 ?_
  have hB : hm_MB M45 (l.length + 1) := by rw [e46]; exact hB.wI (hm_leb l.length (Nat.le_of_ble_eq_true rfl : 1 ≤ 1))
  refine jv_iinc hC 0 [(1, .int (11 : Int32)), (0, .ref v0)] dX2_init_27 rfl c32_1 (by decide) rfl ?_
  refine jv_goto hC 14 dX2_init_30 (by decide) ?_
  refine jv_iload_n hC 0 dX2_init_14 rfl ?_
  refine jv_bipush hC dX2_init_15 c8_12 ?_
  refine jv_icmp_ge hC 33 dX2_init_17 (by decide) (fun h => absurd h (by decide)) (fun _ => ?_)
  refine jv_aload_n hC 1 dX2_init_20 rfl ?_
  obtain ⟨g47, hF⟩ := hg_some hF
  obtain ⟨g48, hF⟩ := hg_some hF
  refine jv_getR hC fl_X2_9 dX2_init_21 rfl (hm_sl_app h0) g47 ?_
  refine jv_topR g48.symm ?_
  refine jv_pc 24 rfl ?_
  refine jv_iload_n hC 0 dX2_init_24 rfl ?_
  refine jv_iconst hC dX2_init_25 c32_m1 ?_
  refine jv_iastore hC dX2_init_26 (hm_sl_new rfl) (vi_11 (by decide)) ?_
  obtain ⟨M49, e50, hF⟩ := hl_some hF
  refine jv_mem e50 ?_
  have hB : hm_MB M49 (l.length + 1) := by rw [e50]; exact hB.wI (hm_leb l.length (Nat.le_of_ble_eq_true rfl : 1 ≤ 1))
  refine jv_iinc hC 0 [(1, .int (12 : Int32)), (0, .ref v0)] dX2_init_27 rfl c32_1 (by decide) rfl ?_
  refine jv_goto hC 14 dX2_init_30 (by decide) ?_
  refine jv_iload_n hC 0 dX2_init_14 rfl ?_
  refine jv_bipush hC dX2_init_15 c8_12 ?_
  refine jv_icmp_ge hC 33 dX2_init_17 (by decide) (fun _ => ?_) (fun h => absurd (by decide) h)
  refine jv_aload_n hC 1 dX2_init_33 rfl ?_
  refine jv_iconst hC dX2_init_34 c32_0 ?_
  refine jv_putI hC fl_X2_15 dX2_init_35 rfl rfl rfl (hm_sl_app h0) ?_
  obtain ⟨M51, e52, hF⟩ := hl_some hF
  refine jv_mem e52 ?_
  have hB : hm_MB M51 (l.length + 1) := by rw [e52]; exact hB.wI (hm_lea hv0.2 1)
  refine jv_aload_n hC 1 dX2_init_38 rfl ?_
  refine jv_iconst hC dX2_init_39 c32_0 ?_
  refine jv_pc 40 rfl ?_
  refine jv_putI hC fl_X2_19 dX2_init_40 rfl rfl rfl (hm_sl_app h0) ?_
  obtain ⟨M53, e54, hF⟩ := hl_some hF
  refine jv_mem e54 ?_
  have hB : hm_MB M53 (l.length + 1) := by rw [e54]; exact hB.wI (hm_lea hv0.2 1)
  refine jv_aload_n hC 1 dX2_init_43 rfl ?_
  refine jv_bipush hC dX2_init_44 c8_8 ?_
  refine jv_newarrW hA (l.length + 1) List.length_append (l ++ ([.inl (.int, 12), .inl (.int, 8)] : List hm_Sh)) (List.append_assoc _ _ _) hB (Nat.lt_of_le_of_lt (Nat.add_le_add_left (Nat.le_of_ble_eq_true rfl : 2 ≤ 4) l.length) h9) dX2_init_46 rfl (Or.inl rfl) ac_int (by decide) (by decide) (by decide) (by decide) (by decide) (List.forall_mem_cons.mpr ⟨(hm_le_int), (List.forall_mem_cons.mpr ⟨(hm_le_ref (hm_lea hv0.2 1)), (fun _ h => nomatch h)⟩)⟩) (List.forall_mem_cons.mpr ⟨(hm_le_ref (hm_lea hv0.2 1)), (fun _ h => nomatch h)⟩) (fun X hA => ?_)
  have hB : hm_MB M53 (l.length + 2) := hB.mono (Nat.le_succ _)
  have hC := hA.1
  have hI := hI0.ext hA.2.1
  refine jv_nf 48 [.ref (l.length + 2), .ref v0] rfl rfl ?_
  refine jv_putRF hC fl_X2_22 ow_2 hI dX2_init_48 rfl (hm_sl_app h0) (Nat.succ_ne_zero _) ?_
  obtain ⟨M55, e56, hF⟩ := hl_some hF
  refine jv_mem e56 ?_
  have hB : hm_MB M55 (l.length + 2) := by rw [e56]; exact hB.wR (hm_lea hv0.2 2) (hm_leb l.length (Nat.le_of_ble_eq_true rfl : 2 ≤ 2))
  refine jv_aload_n hC 1 dX2_init_51 rfl ?_
  refine jv_bipush hC dX2_init_52 c8_8 ?_
  refine jv_newarrW hA (l.length + 2) List.length_append (l ++ ([.inl (.int, 12), .inl (.int, 8), .inl (.int, 8)] : List hm_Sh)) (List.append_assoc _ _ _) hB (Nat.lt_of_le_of_lt (Nat.add_le_add_left (Nat.le_of_ble_eq_true rfl : 3 ≤ 4) l.length) h9) dX2_init_54 rfl (Or.inl rfl) ac_int (by decide) (by decide) (by decide) (by decide) (by decide) (List.forall_mem_cons.mpr ⟨(hm_le_int), (List.forall_mem_cons.mpr ⟨(hm_le_ref (hm_lea hv0.2 2)), (fun _ h => nomatch h)⟩)⟩) (List.forall_mem_cons.mpr ⟨(hm_le_ref (hm_lea hv0.2 2)), (fun _ h => nomatch h)⟩) (fun X hA => ?_)
  have hB : hm_MB M55 (l.length + 3) := hB.mono (Nat.le_succ _)
  have hC := hA.1
  have hI := hI0.ext hA.2.1
  refine jv_nf 56 [.ref (l.length + 3), .ref v0] rfl rfl ?_
  refine jv_putRF hC fl_X2_25 ow_2 hI dX2_init_56 rfl (hm_sl_app h0) (Nat.succ_ne_zero _) ?_
  obtain ⟨M57, e58, hF⟩ := hl_some hF
  refine jv_mem e58 ?_
  have hB : hm_MB M57 (l.length + 3) := by rw [e58]; exact hB.wR (hm_lea hv0.2 3) (hm_leb l.length (Nat.le_of_ble_eq_true rfl : 3 ≤ 3))
  refine jv_aload_n hC 1 dX2_init_59 rfl ?_
  refine jv_iconst hC dX2_init_60 c32_0 ?_
  refine jv_putI hC fl_X2_28 dX2_init_61 rfl rfl rfl (hm_sl_app h0) ?_
  obtain ⟨M59, e60, hF⟩ := hl_some hF
  refine jv_mem e60 ?_
  have hB : hm_MB M59 (l.length + 3) := by rw [e60]; exact hB.wI (hm_lea hv0.2 3)
  obtain rfl := hr_somev hF
  exact jv_vretA hA (by decide) (by decide) dX2_init_64
set_option maxRecDepth 100000 in
set_option maxHeartbeats 4000000 in
theorem mB_Hold_init {l : List hm_Sh} {v0 : Nat} {M M' : hm_M} (h0 : hm_sl l v0 = some (.inr 2)) (hB : hm_MB M l.length) (h9 : l.length + 4 < 900000) (hF : g_Hold_init l v0 M = some M') : hm_MB M' (l ++ ([.inl (.int, 12), .inl (.int, 8), .inl (.int, 8)] : List hm_Sh)).length := by
  have hv0 := (hm_sl_rng _ _ h0)
  unfold g_Hold_init at hF
  have hB : hm_MB M (l.length + 1) := hB.mono (Nat.le_succ _)
  obtain ⟨M1, e2, hF⟩ := hl_some hF
  have hB : hm_MB M1 (l.length + 1) := by rw [e2]; exact hB.wR (hm_lea hv0.2 1) (hm_leb l.length (Nat.le_of_ble_eq_true rfl : 1 ≤ 1))
  obtain ⟨g3, hF⟩ := hg_some hF
  obtain ⟨g4, hF⟩ := hg_some hF
  obtain ⟨M5, e6, hF⟩ := hl_some hF
  have hB : hm_MB M5 (l.length + 1) := by rw [e6]; exact hB.wI (hm_leb l.length (Nat.le_of_ble_eq_true rfl : 1 ≤ 1))
  obtain ⟨g7, hF⟩ := hg_some hF
  obtain ⟨g8, hF⟩ := hg_some hF
  obtain ⟨M9, e10, hF⟩ := hl_some hF
  have hB : hm_MB M9 (l.length + 1) := by rw [e10]; exact hB.wI (hm_leb l.length (Nat.le_of_ble_eq_true rfl : 1 ≤ 1))
  obtain ⟨g11, hF⟩ := hg_some hF
  obtain ⟨g12, hF⟩ := hg_some hF
  obtain ⟨M13, e14, hF⟩ := hl_some hF
  have hB : hm_MB M13 (l.length + 1) := by rw [e14]; exact hB.wI (hm_leb l.length (Nat.le_of_ble_eq_true rfl : 1 ≤ 1))
  obtain ⟨g15, hF⟩ := hg_some hF
  obtain ⟨g16, hF⟩ := hg_some hF
  obtain ⟨M17, e18, hF⟩ := hl_some hF
  have hB : hm_MB M17 (l.length + 1) := by rw [e18]; exact hB.wI (hm_leb l.length (Nat.le_of_ble_eq_true rfl : 1 ≤ 1))
  obtain ⟨g19, hF⟩ := hg_some hF
  obtain ⟨g20, hF⟩ := hg_some hF
  obtain ⟨M21, e22, hF⟩ := hl_some hF
  have hB : hm_MB M21 (l.length + 1) := by rw [e22]; exact hB.wI (hm_leb l.length (Nat.le_of_ble_eq_true rfl : 1 ≤ 1))
  obtain ⟨g23, hF⟩ := hg_some hF
  obtain ⟨g24, hF⟩ := hg_some hF
  obtain ⟨M25, e26, hF⟩ := hl_some hF
  have hB : hm_MB M25 (l.length + 1) := by rw [e26]; exact hB.wI (hm_leb l.length (Nat.le_of_ble_eq_true rfl : 1 ≤ 1))
  obtain ⟨g27, hF⟩ := hg_some hF
  obtain ⟨g28, hF⟩ := hg_some hF
  obtain ⟨M29, e30, hF⟩ := hl_some hF
  have hB : hm_MB M29 (l.length + 1) := by rw [e30]; exact hB.wI (hm_leb l.length (Nat.le_of_ble_eq_true rfl : 1 ≤ 1))
  obtain ⟨g31, hF⟩ := hg_some hF
  obtain ⟨g32, hF⟩ := hg_some hF
  obtain ⟨M33, e34, hF⟩ := hl_some hF
  have hB : hm_MB M33 (l.length + 1) := by rw [e34]; exact hB.wI (hm_leb l.length (Nat.le_of_ble_eq_true rfl : 1 ≤ 1))
  obtain ⟨g35, hF⟩ := hg_some hF
  obtain ⟨g36, hF⟩ := hg_some hF
  obtain ⟨M37, e38, hF⟩ := hl_some hF
  have hB : hm_MB M37 (l.length + 1) := by rw [e38]; exact hB.wI (hm_leb l.length (Nat.le_of_ble_eq_true rfl : 1 ≤ 1))
  obtain ⟨g39, hF⟩ := hg_some hF
  obtain ⟨g40, hF⟩ := hg_some hF
  obtain ⟨M41, e42, hF⟩ := hl_some hF
  have hB : hm_MB M41 (l.length + 1) := by rw [e42]; exact hB.wI (hm_leb l.length (Nat.le_of_ble_eq_true rfl : 1 ≤ 1))
  obtain ⟨g43, hF⟩ := hg_some hF
  obtain ⟨g44, hF⟩ := hg_some hF
  obtain ⟨M45, e46, hF⟩ := hl_some hF
  have hB : hm_MB M45 (l.length + 1) := by rw [e46]; exact hB.wI (hm_leb l.length (Nat.le_of_ble_eq_true rfl : 1 ≤ 1))
  obtain ⟨g47, hF⟩ := hg_some hF
  obtain ⟨g48, hF⟩ := hg_some hF
  obtain ⟨M49, e50, hF⟩ := hl_some hF
  have hB : hm_MB M49 (l.length + 1) := by rw [e50]; exact hB.wI (hm_leb l.length (Nat.le_of_ble_eq_true rfl : 1 ≤ 1))
  obtain ⟨M51, e52, hF⟩ := hl_some hF
  have hB : hm_MB M51 (l.length + 1) := by rw [e52]; exact hB.wI (hm_lea hv0.2 1)
  obtain ⟨M53, e54, hF⟩ := hl_some hF
  have hB : hm_MB M53 (l.length + 1) := by rw [e54]; exact hB.wI (hm_lea hv0.2 1)
  have hB : hm_MB M53 (l.length + 2) := hB.mono (Nat.le_succ _)
  obtain ⟨M55, e56, hF⟩ := hl_some hF
  have hB : hm_MB M55 (l.length + 2) := by rw [e56]; exact hB.wR (hm_lea hv0.2 2) (hm_leb l.length (Nat.le_of_ble_eq_true rfl : 2 ≤ 2))
  have hB : hm_MB M55 (l.length + 3) := hB.mono (Nat.le_succ _)
  obtain ⟨M57, e58, hF⟩ := hl_some hF
  have hB : hm_MB M57 (l.length + 3) := by rw [e58]; exact hB.wR (hm_lea hv0.2 3) (hm_leb l.length (Nat.le_of_ble_eq_true rfl : 3 ≤ 3))
  obtain ⟨M59, e60, hF⟩ := hl_some hF
  have hB : hm_MB M59 (l.length + 3) := by rw [e60]; exact hB.wI (hm_lea hv0.2 3)
  obtain rfl := hr_somev hF
  rw [List.length_append]; exact hB
set_option maxRecDepth 100000 in
set_option maxHeartbeats 4000000 in
theorem kA_History_init {l : List hm_Sh} {v0 : Nat} {M M' : hm_M} (h0 : hm_sl l v0 = some (.inr 1)) (hB : hm_MB M l.length) (h9 : l.length + 3 < 900000) (hF : g_History_init l v0 M = some M') : hm_KA yX1_init cX1_init 1 1 l (l ++ [.inl (.int, 20), .inl (.int, 20)]) [.ref v0] M M' 2 40 := by
  have hv0 := (hm_sl_rng _ _ h0)
  refine hm_enterA mm_History_init rfl (Nat.le_of_ble_eq_true rfl) (fun X hI0 hA => ?_)
  have hC := hA.1
  have hI := hI0
  show hm_U X 0 [(0, .ref v0)] [] M _
  unfold g_History_init at hF
  refine jv_aload_n hC 0 dX1_init_0 rfl ?_
  refine jv_objInit hC ol_X1_3 oi_inst oi_code dX1_init_1 (by decide) (Nat.le_of_ble_eq_true rfl) ?_
  refine jv_aload_n hC 0 dX1_init_4 rfl ?_
  refine jv_bipush hC dX1_init_5 c8_20 ?_
  refine jv_newarrW hA l.length rfl (l ++ ([.inl (.int, 20)] : List hm_Sh)) (rfl) hB (Nat.lt_of_le_of_lt (Nat.add_le_add_left (Nat.le_of_ble_eq_true rfl : 1 ≤ 3) l.length) h9) dX1_init_7 rfl (Or.inl rfl) ac_int (by decide) (by decide) (by decide) (by decide) (by decide) (List.forall_mem_cons.mpr ⟨(hm_le_ref hv0.2), (fun _ h => nomatch h)⟩) (List.forall_mem_cons.mpr ⟨(hm_le_ref hv0.2), (fun _ h => nomatch h)⟩) (fun X hA => ?_)
  have hB : hm_MB M (l.length + 1) := hB.mono (Nat.le_succ _)
  have hC := hA.1
  have hI := hI0.ext hA.2.1
  refine jv_nf 9 [.ref (l.length + 1), .ref v0] rfl rfl ?_
  refine jv_putRF hC fl_X1_9 ow_1 hI dX1_init_9 rfl (hm_sl_app h0) (Nat.succ_ne_zero _) ?_
  obtain ⟨M1, e2, hF⟩ := hl_some hF
  refine jv_mem e2 ?_
  have hB : hm_MB M1 (l.length + 1) := by rw [e2]; exact hB.wR (hm_lea hv0.2 1) (hm_leb l.length (Nat.le_of_ble_eq_true rfl : 1 ≤ 1))
  refine jv_aload_n hC 0 dX1_init_12 rfl ?_
  refine jv_bipush hC dX1_init_13 c8_20 ?_
  refine jv_newarrW hA (l.length + 1) List.length_append (l ++ ([.inl (.int, 20), .inl (.int, 20)] : List hm_Sh)) (List.append_assoc _ _ _) hB (Nat.lt_of_le_of_lt (Nat.add_le_add_left (Nat.le_of_ble_eq_true rfl : 2 ≤ 3) l.length) h9) dX1_init_15 rfl (Or.inl rfl) ac_int (by decide) (by decide) (by decide) (by decide) (by decide) (List.forall_mem_cons.mpr ⟨(hm_le_ref (hm_lea hv0.2 1)), (fun _ h => nomatch h)⟩) (List.forall_mem_cons.mpr ⟨(hm_le_ref (hm_lea hv0.2 1)), (fun _ h => nomatch h)⟩) (fun X hA => ?_)
  have hB : hm_MB M1 (l.length + 2) := hB.mono (Nat.le_succ _)
  have hC := hA.1
  have hI := hI0.ext hA.2.1
  refine jv_nf 17 [.ref (l.length + 2), .ref v0] rfl rfl ?_
  refine jv_putRF hC fl_X1_15 ow_1 hI dX1_init_17 rfl (hm_sl_app h0) (Nat.succ_ne_zero _) ?_
  obtain ⟨M3, e4, hF⟩ := hl_some hF
  refine jv_mem e4 ?_
  have hB : hm_MB M3 (l.length + 2) := by rw [e4]; exact hB.wR (hm_lea hv0.2 2) (hm_leb l.length (Nat.le_of_ble_eq_true rfl : 2 ≤ 2))
  refine jv_aload_n hC 0 dX1_init_20 rfl ?_
  refine jv_iconst hC dX1_init_21 c32_0 ?_
  refine jv_putI hC fl_X1_18 dX1_init_22 rfl rfl rfl (hm_sl_app h0) ?_
  obtain ⟨M5, e6, hF⟩ := hl_some hF
  refine jv_mem e6 ?_
  have hB : hm_MB M5 (l.length + 2) := by rw [e6]; exact hB.wI (hm_lea hv0.2 2)
  refine jv_aload_n hC 0 dX1_init_25 rfl ?_
  refine jv_pc 26 rfl ?_
  refine jv_iconst hC dX1_init_26 c32_0 ?_
  refine jv_putI hC fl_X1_22 dX1_init_27 rfl rfl rfl (hm_sl_app h0) ?_
  obtain ⟨M7, e8, hF⟩ := hl_some hF
  refine jv_mem e8 ?_
  have hB : hm_MB M7 (l.length + 2) := by rw [e8]; exact hB.wI (hm_lea hv0.2 2)
  obtain rfl := hr_somev hF
  exact jv_vretA hA (by decide) (by decide) dX1_init_30
set_option maxRecDepth 100000 in
set_option maxHeartbeats 4000000 in
theorem mB_History_init {l : List hm_Sh} {v0 : Nat} {M M' : hm_M} (h0 : hm_sl l v0 = some (.inr 1)) (hB : hm_MB M l.length) (h9 : l.length + 3 < 900000) (hF : g_History_init l v0 M = some M') : hm_MB M' (l ++ ([.inl (.int, 20), .inl (.int, 20)] : List hm_Sh)).length := by
  have hv0 := (hm_sl_rng _ _ h0)
  unfold g_History_init at hF
  have hB : hm_MB M (l.length + 1) := hB.mono (Nat.le_succ _)
  obtain ⟨M1, e2, hF⟩ := hl_some hF
  have hB : hm_MB M1 (l.length + 1) := by rw [e2]; exact hB.wR (hm_lea hv0.2 1) (hm_leb l.length (Nat.le_of_ble_eq_true rfl : 1 ≤ 1))
  have hB : hm_MB M1 (l.length + 2) := hB.mono (Nat.le_succ _)
  obtain ⟨M3, e4, hF⟩ := hl_some hF
  have hB : hm_MB M3 (l.length + 2) := by rw [e4]; exact hB.wR (hm_lea hv0.2 2) (hm_leb l.length (Nat.le_of_ble_eq_true rfl : 2 ≤ 2))
  obtain ⟨M5, e6, hF⟩ := hl_some hF
  have hB : hm_MB M5 (l.length + 2) := by rw [e6]; exact hB.wI (hm_lea hv0.2 2)
  obtain ⟨M7, e8, hF⟩ := hl_some hF
  have hB : hm_MB M7 (l.length + 2) := by rw [e8]; exact hB.wI (hm_lea hv0.2 2)
  obtain rfl := hr_somev hF
  rw [List.length_append]; exact hB
set_option maxRecDepth 100000 in
set_option maxHeartbeats 4000000 in
theorem kA_Rents_init {l : List hm_Sh} {v0 : Nat} {M M' : hm_M} (h0 : hm_sl l v0 = some (.inr 6)) (hB : hm_MB M l.length) (h9 : l.length + 4 < 900000) (hF : g_Rents_init l v0 M = some M') : hm_KA yX6_init cX6_init 1 1 l (l ++ [.inl (.int, 204), .inl (.int, 16), .inl (.int, 6)]) [.ref v0] M M' 3 226 := by
  have hv0 := (hm_sl_rng _ _ h0)
  refine hm_enterA mm_Rents_init rfl (Nat.le_of_ble_eq_true rfl) (fun X hI0 hA => ?_)
  have hC := hA.1
  have hI := hI0
  show hm_U X 0 [(0, .ref v0)] [] M _
  unfold g_Rents_init at hF
  refine jv_aload_n hC 0 dX6_init_0 rfl ?_
  refine jv_objInit hC ol_X6_5 oi_inst oi_code dX6_init_1 (by decide) (Nat.le_of_ble_eq_true rfl) ?_
  refine jv_aload_n hC 0 dX6_init_4 rfl ?_
  refine jv_sipush hC dX6_init_5 c16_204 ?_
  refine jv_newarrW hA l.length rfl (l ++ ([.inl (.int, 204)] : List hm_Sh)) (rfl) hB (Nat.lt_of_le_of_lt (Nat.add_le_add_left (Nat.le_of_ble_eq_true rfl : 1 ≤ 4) l.length) h9) dX6_init_8 rfl (Or.inl rfl) ac_int (by decide) (by decide) (by decide) (by decide) (by decide) (List.forall_mem_cons.mpr ⟨(hm_le_ref hv0.2), (fun _ h => nomatch h)⟩) (List.forall_mem_cons.mpr ⟨(hm_le_ref hv0.2), (fun _ h => nomatch h)⟩) (fun X hA => ?_)
  have hB : hm_MB M (l.length + 1) := hB.mono (Nat.le_succ _)
  have hC := hA.1
  have hI := hI0.ext hA.2.1
  refine jv_nf 10 [.ref (l.length + 1), .ref v0] rfl rfl ?_
  refine jv_putRF hC fl_X6_11 ow_6 hI dX6_init_10 rfl (hm_sl_app h0) (Nat.succ_ne_zero _) ?_
  obtain ⟨M1, e2, hF⟩ := hl_some hF
  refine jv_mem e2 ?_
  have hB : hm_MB M1 (l.length + 1) := by rw [e2]; exact hB.wR (hm_lea hv0.2 1) (hm_leb l.length (Nat.le_of_ble_eq_true rfl : 1 ≤ 1))
  refine jv_aload_n hC 0 dX6_init_13 rfl ?_
  refine jv_bipush hC dX6_init_14 c8_16 ?_
  refine jv_newarrW hA (l.length + 1) List.length_append (l ++ ([.inl (.int, 204), .inl (.int, 16)] : List hm_Sh)) (List.append_assoc _ _ _) hB (Nat.lt_of_le_of_lt (Nat.add_le_add_left (Nat.le_of_ble_eq_true rfl : 2 ≤ 4) l.length) h9) dX6_init_16 rfl (Or.inl rfl) ac_int (by decide) (by decide) (by decide) (by decide) (by decide) (List.forall_mem_cons.mpr ⟨(hm_le_ref (hm_lea hv0.2 1)), (fun _ h => nomatch h)⟩) (List.forall_mem_cons.mpr ⟨(hm_le_ref (hm_lea hv0.2 1)), (fun _ h => nomatch h)⟩) (fun X hA => ?_)
  have hB : hm_MB M1 (l.length + 2) := hB.mono (Nat.le_succ _)
  have hC := hA.1
  have hI := hI0.ext hA.2.1
  refine jv_nf 18 [.ref (l.length + 2), .ref v0] rfl rfl ?_
  refine jv_putRF hC fl_X6_15 ow_6 hI dX6_init_18 rfl (hm_sl_app h0) (Nat.succ_ne_zero _) ?_
  obtain ⟨M3, e4, hF⟩ := hl_some hF
  refine jv_mem e4 ?_
  have hB : hm_MB M3 (l.length + 2) := by rw [e4]; exact hB.wR (hm_lea hv0.2 2) (hm_leb l.length (Nat.le_of_ble_eq_true rfl : 2 ≤ 2))
  refine jv_aload_n hC 0 dX6_init_21 rfl ?_
  refine jv_iconst hC dX6_init_22 c32_0 ?_
  refine jv_putI hC fl_X6_18 dX6_init_23 rfl rfl rfl (hm_sl_app h0) ?_
  obtain ⟨M5, e6, hF⟩ := hl_some hF
  refine jv_mem e6 ?_
  have hB : hm_MB M5 (l.length + 2) := by rw [e6]; exact hB.wI (hm_lea hv0.2 2)
  refine jv_aload_n hC 0 dX6_init_26 rfl ?_
  refine jv_pc 27 rfl ?_
  refine jv_iconst hC dX6_init_27 c32_0 ?_
  refine jv_putI hC fl_X6_22 dX6_init_28 rfl rfl rfl (hm_sl_app h0) ?_
  obtain ⟨M7, e8, hF⟩ := hl_some hF
  refine jv_mem e8 ?_
  have hB : hm_MB M7 (l.length + 2) := by rw [e8]; exact hB.wI (hm_lea hv0.2 2)
  refine jv_aload_n hC 0 dX6_init_31 rfl ?_
  refine jv_bipush hC dX6_init_32 c8_6 ?_
  refine jv_newarrW hA (l.length + 2) List.length_append (l ++ ([.inl (.int, 204), .inl (.int, 16), .inl (.int, 6)] : List hm_Sh)) (List.append_assoc _ _ _) hB (Nat.lt_of_le_of_lt (Nat.add_le_add_left (Nat.le_of_ble_eq_true rfl : 3 ≤ 4) l.length) h9) dX6_init_34 rfl (Or.inl rfl) ac_int (by decide) (by decide) (by decide) (by decide) (by decide) (List.forall_mem_cons.mpr ⟨(hm_le_ref (hm_lea hv0.2 2)), (fun _ h => nomatch h)⟩) (List.forall_mem_cons.mpr ⟨(hm_le_ref (hm_lea hv0.2 2)), (fun _ h => nomatch h)⟩) (fun X hA => ?_)
  have hB : hm_MB M7 (l.length + 3) := hB.mono (Nat.le_succ _)
  have hC := hA.1
  have hI := hI0.ext hA.2.1
  refine jv_nf 36 [.ref (l.length + 3), .ref v0] rfl rfl ?_
  refine jv_putRF hC fl_X6_25 ow_6 hI dX6_init_36 rfl (hm_sl_app h0) (Nat.succ_ne_zero _) ?_
  obtain ⟨M9, e10, hF⟩ := hl_some hF
  refine jv_mem e10 ?_
  have hB : hm_MB M9 (l.length + 3) := by rw [e10]; exact hB.wR (hm_lea hv0.2 3) (hm_leb l.length (Nat.le_of_ble_eq_true rfl : 3 ≤ 3))
  obtain rfl := hr_somev hF
  exact jv_vretA hA (by decide) (by decide) dX6_init_39
set_option maxRecDepth 100000 in
set_option maxHeartbeats 4000000 in
theorem mB_Rents_init {l : List hm_Sh} {v0 : Nat} {M M' : hm_M} (h0 : hm_sl l v0 = some (.inr 6)) (hB : hm_MB M l.length) (h9 : l.length + 4 < 900000) (hF : g_Rents_init l v0 M = some M') : hm_MB M' (l ++ ([.inl (.int, 204), .inl (.int, 16), .inl (.int, 6)] : List hm_Sh)).length := by
  have hv0 := (hm_sl_rng _ _ h0)
  unfold g_Rents_init at hF
  have hB : hm_MB M (l.length + 1) := hB.mono (Nat.le_succ _)
  obtain ⟨M1, e2, hF⟩ := hl_some hF
  have hB : hm_MB M1 (l.length + 1) := by rw [e2]; exact hB.wR (hm_lea hv0.2 1) (hm_leb l.length (Nat.le_of_ble_eq_true rfl : 1 ≤ 1))
  have hB : hm_MB M1 (l.length + 2) := hB.mono (Nat.le_succ _)
  obtain ⟨M3, e4, hF⟩ := hl_some hF
  have hB : hm_MB M3 (l.length + 2) := by rw [e4]; exact hB.wR (hm_lea hv0.2 2) (hm_leb l.length (Nat.le_of_ble_eq_true rfl : 2 ≤ 2))
  obtain ⟨M5, e6, hF⟩ := hl_some hF
  have hB : hm_MB M5 (l.length + 2) := by rw [e6]; exact hB.wI (hm_lea hv0.2 2)
  obtain ⟨M7, e8, hF⟩ := hl_some hF
  have hB : hm_MB M7 (l.length + 2) := by rw [e8]; exact hB.wI (hm_lea hv0.2 2)
  have hB : hm_MB M7 (l.length + 3) := hB.mono (Nat.le_succ _)
  obtain ⟨M9, e10, hF⟩ := hl_some hF
  have hB : hm_MB M9 (l.length + 3) := by rw [e10]; exact hB.wR (hm_lea hv0.2 3) (hm_leb l.length (Nat.le_of_ble_eq_true rfl : 3 ≤ 3))
  obtain rfl := hr_somev hF
  rw [List.length_append]; exact hB
set_option maxRecDepth 100000 in
set_option maxHeartbeats 4000000 in
theorem kA_Trade_init {l : List hm_Sh} {v0 : Nat} {M M' : hm_M} (h0 : hm_sl l v0 = some (.inr 8)) (hB : hm_MB M l.length) (h9 : l.length + 4 < 900000) (hF : g_Trade_init l v0 M = some M') : hm_KA yX8_init cX8_init 1 1 l (l ++ [.inl (.int, 144), .inl (.int, 4096), .inl (.int, 12)]) [.ref v0] M M' 3 4252 := by
  have hv0 := (hm_sl_rng _ _ h0)
  refine hm_enterA mm_Trade_init rfl (Nat.le_of_ble_eq_true rfl) (fun X hI0 hA => ?_)
  have hC := hA.1
  have hI := hI0
  show hm_U X 0 [(0, .ref v0)] [] M _
  unfold g_Trade_init at hF
  refine jv_aload_n hC 0 dX8_init_0 rfl ?_
  refine jv_objInit hC ol_X8_3 oi_inst oi_code dX8_init_1 (by decide) (Nat.le_of_ble_eq_true rfl) ?_
  refine jv_aload_n hC 0 dX8_init_4 rfl ?_
  refine jv_sipush hC dX8_init_5 c16_144 ?_
  refine jv_newarrW hA l.length rfl (l ++ ([.inl (.int, 144)] : List hm_Sh)) (rfl) hB (Nat.lt_of_le_of_lt (Nat.add_le_add_left (Nat.le_of_ble_eq_true rfl : 1 ≤ 4) l.length) h9) dX8_init_8 rfl (Or.inl rfl) ac_int (by decide) (by decide) (by decide) (by decide) (by decide) (List.forall_mem_cons.mpr ⟨(hm_le_ref hv0.2), (fun _ h => nomatch h)⟩) (List.forall_mem_cons.mpr ⟨(hm_le_ref hv0.2), (fun _ h => nomatch h)⟩) (fun X hA => ?_)
  have hB : hm_MB M (l.length + 1) := hB.mono (Nat.le_succ _)
  have hC := hA.1
  have hI := hI0.ext hA.2.1
  refine jv_nf 10 [.ref (l.length + 1), .ref v0] rfl rfl ?_
  refine jv_putRF hC fl_X8_9 ow_8 hI dX8_init_10 rfl (hm_sl_app h0) (Nat.succ_ne_zero _) ?_
  obtain ⟨M1, e2, hF⟩ := hl_some hF
  refine jv_mem e2 ?_
  have hB : hm_MB M1 (l.length + 1) := by rw [e2]; exact hB.wR (hm_lea hv0.2 1) (hm_leb l.length (Nat.le_of_ble_eq_true rfl : 1 ≤ 1))
  refine jv_aload_n hC 0 dX8_init_13 rfl ?_
  refine jv_sipush hC dX8_init_14 c16_4096 ?_
  refine jv_newarrW hA (l.length + 1) List.length_append (l ++ ([.inl (.int, 144), .inl (.int, 4096)] : List hm_Sh)) (List.append_assoc _ _ _) hB (Nat.lt_of_le_of_lt (Nat.add_le_add_left (Nat.le_of_ble_eq_true rfl : 2 ≤ 4) l.length) h9) dX8_init_17 rfl (Or.inl rfl) ac_int (by decide) (by decide) (by decide) (by decide) (by decide) (List.forall_mem_cons.mpr ⟨(hm_le_ref (hm_lea hv0.2 1)), (fun _ h => nomatch h)⟩) (List.forall_mem_cons.mpr ⟨(hm_le_ref (hm_lea hv0.2 1)), (fun _ h => nomatch h)⟩) (fun X hA => ?_)
  have hB : hm_MB M1 (l.length + 2) := hB.mono (Nat.le_succ _)
  have hC := hA.1
  have hI := hI0.ext hA.2.1
  refine jv_nf 19 [.ref (l.length + 2), .ref v0] rfl rfl ?_
  refine jv_putRF hC fl_X8_15 ow_8 hI dX8_init_19 rfl (hm_sl_app h0) (Nat.succ_ne_zero _) ?_
  obtain ⟨M3, e4, hF⟩ := hl_some hF
  refine jv_mem e4 ?_
  have hB : hm_MB M3 (l.length + 2) := by rw [e4]; exact hB.wR (hm_lea hv0.2 2) (hm_leb l.length (Nat.le_of_ble_eq_true rfl : 2 ≤ 2))
  refine jv_aload_n hC 0 dX8_init_22 rfl ?_
  refine jv_bipush hC dX8_init_23 c8_12 ?_
  refine jv_newarrW hA (l.length + 2) List.length_append (l ++ ([.inl (.int, 144), .inl (.int, 4096), .inl (.int, 12)] : List hm_Sh)) (List.append_assoc _ _ _) hB (Nat.lt_of_le_of_lt (Nat.add_le_add_left (Nat.le_of_ble_eq_true rfl : 3 ≤ 4) l.length) h9) dX8_init_25 rfl (Or.inl rfl) ac_int (by decide) (by decide) (by decide) (by decide) (by decide) (List.forall_mem_cons.mpr ⟨(hm_le_ref (hm_lea hv0.2 2)), (fun _ h => nomatch h)⟩) (List.forall_mem_cons.mpr ⟨(hm_le_ref (hm_lea hv0.2 2)), (fun _ h => nomatch h)⟩) (fun X hA => ?_)
  have hB : hm_MB M3 (l.length + 3) := hB.mono (Nat.le_succ _)
  have hC := hA.1
  have hI := hI0.ext hA.2.1
  refine jv_nf 27 [.ref (l.length + 3), .ref v0] rfl rfl ?_
  refine jv_putRF hC fl_X8_18 ow_8 hI dX8_init_27 rfl (hm_sl_app h0) (Nat.succ_ne_zero _) ?_
  obtain ⟨M5, e6, hF⟩ := hl_some hF
  refine jv_mem e6 ?_
  have hB : hm_MB M5 (l.length + 3) := by rw [e6]; exact hB.wR (hm_lea hv0.2 3) (hm_leb l.length (Nat.le_of_ble_eq_true rfl : 3 ≤ 3))
  refine jv_aload_n hC 0 dX8_init_30 rfl ?_
  refine jv_iconst hC dX8_init_31 c32_0 ?_
  refine jv_putI hC fl_X8_21 dX8_init_32 rfl rfl rfl (hm_sl_app h0) ?_
  obtain ⟨M7, e8, hF⟩ := hl_some hF
  refine jv_mem e8 ?_
  have hB : hm_MB M7 (l.length + 3) := by rw [e8]; exact hB.wI (hm_lea hv0.2 3)
  obtain rfl := hr_somev hF
  exact jv_vretA hA (by decide) (by decide) dX8_init_35
set_option maxRecDepth 100000 in
set_option maxHeartbeats 4000000 in
theorem mB_Trade_init {l : List hm_Sh} {v0 : Nat} {M M' : hm_M} (h0 : hm_sl l v0 = some (.inr 8)) (hB : hm_MB M l.length) (h9 : l.length + 4 < 900000) (hF : g_Trade_init l v0 M = some M') : hm_MB M' (l ++ ([.inl (.int, 144), .inl (.int, 4096), .inl (.int, 12)] : List hm_Sh)).length := by
  have hv0 := (hm_sl_rng _ _ h0)
  unfold g_Trade_init at hF
  have hB : hm_MB M (l.length + 1) := hB.mono (Nat.le_succ _)
  obtain ⟨M1, e2, hF⟩ := hl_some hF
  have hB : hm_MB M1 (l.length + 1) := by rw [e2]; exact hB.wR (hm_lea hv0.2 1) (hm_leb l.length (Nat.le_of_ble_eq_true rfl : 1 ≤ 1))
  have hB : hm_MB M1 (l.length + 2) := hB.mono (Nat.le_succ _)
  obtain ⟨M3, e4, hF⟩ := hl_some hF
  have hB : hm_MB M3 (l.length + 2) := by rw [e4]; exact hB.wR (hm_lea hv0.2 2) (hm_leb l.length (Nat.le_of_ble_eq_true rfl : 2 ≤ 2))
  have hB : hm_MB M3 (l.length + 3) := hB.mono (Nat.le_succ _)
  obtain ⟨M5, e6, hF⟩ := hl_some hF
  have hB : hm_MB M5 (l.length + 3) := by rw [e6]; exact hB.wR (hm_lea hv0.2 3) (hm_leb l.length (Nat.le_of_ble_eq_true rfl : 3 ≤ 3))
  obtain ⟨M7, e8, hF⟩ := hl_some hF
  have hB : hm_MB M7 (l.length + 3) := by rw [e8]; exact hB.wI (hm_lea hv0.2 3)
  obtain rfl := hr_somev hF
  rw [List.length_append]; exact hB
set_option maxRecDepth 100000 in
set_option maxHeartbeats 4000000 in
theorem kA_Way_init {l : List hm_Sh} {v0 : Nat} {M M' : hm_M} (h0 : hm_sl l v0 = some (.inr 10)) (hB : hm_MB M l.length) (h9 : l.length + 4 < 900000) (hF : g_Way_init l v0 M = some M') : hm_KA yX10_init cX10_init 1 1 l (l ++ [.inl (.long, 24), .inl (.int, 1536), .inl (.int, 24)]) [.ref v0] M M' 3 1584 := by
  have hv0 := (hm_sl_rng _ _ h0)
  refine hm_enterA mm_Way_init rfl (Nat.le_of_ble_eq_true rfl) (fun X hI0 hA => ?_)
  have hC := hA.1
  have hI := hI0
  show hm_U X 0 [(0, .ref v0)] [] M _
  unfold g_Way_init at hF
  refine jv_aload_n hC 0 dX10_init_0 rfl ?_
  refine jv_objInit hC ol_X10_3 oi_inst oi_code dX10_init_1 (by decide) (Nat.le_of_ble_eq_true rfl) ?_
  refine jv_aload_n hC 0 dX10_init_4 rfl ?_
  refine jv_bipush hC dX10_init_5 c8_24 ?_
  refine jv_newarrW hA l.length rfl (l ++ ([.inl (.long, 24)] : List hm_Sh)) (rfl) hB (Nat.lt_of_le_of_lt (Nat.add_le_add_left (Nat.le_of_ble_eq_true rfl : 1 ≤ 4) l.length) h9) dX10_init_7 rfl (Or.inr (Or.inl rfl)) ac_long (by decide) (by decide) (by decide) (by decide) (by decide) (List.forall_mem_cons.mpr ⟨(hm_le_ref hv0.2), (fun _ h => nomatch h)⟩) (List.forall_mem_cons.mpr ⟨(hm_le_ref hv0.2), (fun _ h => nomatch h)⟩) (fun X hA => ?_)
  have hB : hm_MB M (l.length + 1) := hB.mono (Nat.le_succ _)
  have hC := hA.1
  have hI := hI0.ext hA.2.1
  refine jv_nf 9 [.ref (l.length + 1), .ref v0] rfl rfl ?_
  refine jv_putRF hC fl_X10_9 ow_10 hI dX10_init_9 rfl (hm_sl_app h0) (Nat.succ_ne_zero _) ?_
  obtain ⟨M1, e2, hF⟩ := hl_some hF
  refine jv_mem e2 ?_
  have hB : hm_MB M1 (l.length + 1) := by rw [e2]; exact hB.wR (hm_lea hv0.2 1) (hm_leb l.length (Nat.le_of_ble_eq_true rfl : 1 ≤ 1))
  refine jv_aload_n hC 0 dX10_init_12 rfl ?_
  refine jv_sipush hC dX10_init_13 c16_1536 ?_
  refine jv_newarrW hA (l.length + 1) List.length_append (l ++ ([.inl (.long, 24), .inl (.int, 1536)] : List hm_Sh)) (List.append_assoc _ _ _) hB (Nat.lt_of_le_of_lt (Nat.add_le_add_left (Nat.le_of_ble_eq_true rfl : 2 ≤ 4) l.length) h9) dX10_init_16 rfl (Or.inl rfl) ac_int (by decide) (by decide) (by decide) (by decide) (by decide) (List.forall_mem_cons.mpr ⟨(hm_le_ref (hm_lea hv0.2 1)), (fun _ h => nomatch h)⟩) (List.forall_mem_cons.mpr ⟨(hm_le_ref (hm_lea hv0.2 1)), (fun _ h => nomatch h)⟩) (fun X hA => ?_)
  have hB : hm_MB M1 (l.length + 2) := hB.mono (Nat.le_succ _)
  have hC := hA.1
  have hI := hI0.ext hA.2.1
  refine jv_nf 18 [.ref (l.length + 2), .ref v0] rfl rfl ?_
  refine jv_putRF hC fl_X10_15 ow_10 hI dX10_init_18 rfl (hm_sl_app h0) (Nat.succ_ne_zero _) ?_
  obtain ⟨M3, e4, hF⟩ := hl_some hF
  refine jv_mem e4 ?_
  have hB : hm_MB M3 (l.length + 2) := by rw [e4]; exact hB.wR (hm_lea hv0.2 2) (hm_leb l.length (Nat.le_of_ble_eq_true rfl : 2 ≤ 2))
  refine jv_aload_n hC 0 dX10_init_21 rfl ?_
  refine jv_bipush hC dX10_init_22 c8_24 ?_
  refine jv_newarrW hA (l.length + 2) List.length_append (l ++ ([.inl (.long, 24), .inl (.int, 1536), .inl (.int, 24)] : List hm_Sh)) (List.append_assoc _ _ _) hB (Nat.lt_of_le_of_lt (Nat.add_le_add_left (Nat.le_of_ble_eq_true rfl : 3 ≤ 4) l.length) h9) dX10_init_24 rfl (Or.inl rfl) ac_int (by decide) (by decide) (by decide) (by decide) (by decide) (List.forall_mem_cons.mpr ⟨(hm_le_ref (hm_lea hv0.2 2)), (fun _ h => nomatch h)⟩) (List.forall_mem_cons.mpr ⟨(hm_le_ref (hm_lea hv0.2 2)), (fun _ h => nomatch h)⟩) (fun X hA => ?_)
  have hB : hm_MB M3 (l.length + 3) := hB.mono (Nat.le_succ _)
  have hC := hA.1
  have hI := hI0.ext hA.2.1
  refine jv_nf 26 [.ref (l.length + 3), .ref v0] rfl rfl ?_
  refine jv_putRF hC fl_X10_19 ow_10 hI dX10_init_26 rfl (hm_sl_app h0) (Nat.succ_ne_zero _) ?_
  obtain ⟨M5, e6, hF⟩ := hl_some hF
  refine jv_mem e6 ?_
  have hB : hm_MB M5 (l.length + 3) := by rw [e6]; exact hB.wR (hm_lea hv0.2 3) (hm_leb l.length (Nat.le_of_ble_eq_true rfl : 3 ≤ 3))
  refine jv_aload_n hC 0 dX10_init_29 rfl ?_
  refine jv_iconst hC dX10_init_30 c32_0 ?_
  refine jv_putI hC fl_X10_22 dX10_init_31 rfl rfl rfl (hm_sl_app h0) ?_
  obtain ⟨M7, e8, hF⟩ := hl_some hF
  refine jv_mem e8 ?_
  have hB : hm_MB M7 (l.length + 3) := by rw [e8]; exact hB.wI (hm_lea hv0.2 3)
  obtain rfl := hr_somev hF
  exact jv_vretA hA (by decide) (by decide) dX10_init_34
set_option maxRecDepth 100000 in
set_option maxHeartbeats 4000000 in
theorem mB_Way_init {l : List hm_Sh} {v0 : Nat} {M M' : hm_M} (h0 : hm_sl l v0 = some (.inr 10)) (hB : hm_MB M l.length) (h9 : l.length + 4 < 900000) (hF : g_Way_init l v0 M = some M') : hm_MB M' (l ++ ([.inl (.long, 24), .inl (.int, 1536), .inl (.int, 24)] : List hm_Sh)).length := by
  have hv0 := (hm_sl_rng _ _ h0)
  unfold g_Way_init at hF
  have hB : hm_MB M (l.length + 1) := hB.mono (Nat.le_succ _)
  obtain ⟨M1, e2, hF⟩ := hl_some hF
  have hB : hm_MB M1 (l.length + 1) := by rw [e2]; exact hB.wR (hm_lea hv0.2 1) (hm_leb l.length (Nat.le_of_ble_eq_true rfl : 1 ≤ 1))
  have hB : hm_MB M1 (l.length + 2) := hB.mono (Nat.le_succ _)
  obtain ⟨M3, e4, hF⟩ := hl_some hF
  have hB : hm_MB M3 (l.length + 2) := by rw [e4]; exact hB.wR (hm_lea hv0.2 2) (hm_leb l.length (Nat.le_of_ble_eq_true rfl : 2 ≤ 2))
  have hB : hm_MB M3 (l.length + 3) := hB.mono (Nat.le_succ _)
  obtain ⟨M5, e6, hF⟩ := hl_some hF
  have hB : hm_MB M5 (l.length + 3) := by rw [e6]; exact hB.wR (hm_lea hv0.2 3) (hm_leb l.length (Nat.le_of_ble_eq_true rfl : 3 ≤ 3))
  obtain ⟨M7, e8, hF⟩ := hl_some hF
  have hB : hm_MB M7 (l.length + 3) := by rw [e8]; exact hB.wI (hm_lea hv0.2 3)
  obtain rfl := hr_somev hF
  rw [List.length_append]; exact hB
set_option maxRecDepth 100000 in
set_option maxHeartbeats 4000000 in
theorem kA_Walk_init {l : List hm_Sh} {v0 : Nat} {M M' : hm_M} (h0 : hm_sl l v0 = some (.inr 9)) (hB : hm_MB M l.length) (h9 : l.length + 4 < 900000) (hF : g_Walk_init l v0 M = some M') : hm_KA yX9_init cX9_init 1 1 l (l ++ [.inl (.int, 64), .inl (.int, 64), .inl (.int, 64)]) [.ref v0] M M' 3 192 := by
  have hv0 := (hm_sl_rng _ _ h0)
  refine hm_enterA mm_Walk_init rfl (Nat.le_of_ble_eq_true rfl) (fun X hI0 hA => ?_)
  have hC := hA.1
  have hI := hI0
  show hm_U X 0 [(0, .ref v0)] [] M _
  unfold g_Walk_init at hF
  refine jv_aload_n hC 0 dX9_init_0 rfl ?_
  refine jv_objInit hC ol_X9_3 oi_inst oi_code dX9_init_1 (by decide) (Nat.le_of_ble_eq_true rfl) ?_
  refine jv_aload_n hC 0 dX9_init_4 rfl ?_
  refine jv_bipush hC dX9_init_5 c8_64 ?_
  refine jv_newarrW hA l.length rfl (l ++ ([.inl (.int, 64)] : List hm_Sh)) (rfl) hB (Nat.lt_of_le_of_lt (Nat.add_le_add_left (Nat.le_of_ble_eq_true rfl : 1 ≤ 4) l.length) h9) dX9_init_7 rfl (Or.inl rfl) ac_int (by decide) (by decide) (by decide) (by decide) (by decide) (List.forall_mem_cons.mpr ⟨(hm_le_ref hv0.2), (fun _ h => nomatch h)⟩) (List.forall_mem_cons.mpr ⟨(hm_le_ref hv0.2), (fun _ h => nomatch h)⟩) (fun X hA => ?_)
  have hB : hm_MB M (l.length + 1) := hB.mono (Nat.le_succ _)
  have hC := hA.1
  have hI := hI0.ext hA.2.1
  refine jv_nf 9 [.ref (l.length + 1), .ref v0] rfl rfl ?_
  refine jv_putRF hC fl_X9_9 ow_9 hI dX9_init_9 rfl (hm_sl_app h0) (Nat.succ_ne_zero _) ?_
  obtain ⟨M1, e2, hF⟩ := hl_some hF
  refine jv_mem e2 ?_
  have hB : hm_MB M1 (l.length + 1) := by rw [e2]; exact hB.wR (hm_lea hv0.2 1) (hm_leb l.length (Nat.le_of_ble_eq_true rfl : 1 ≤ 1))
  refine jv_aload_n hC 0 dX9_init_12 rfl ?_
  refine jv_bipush hC dX9_init_13 c8_64 ?_
  refine jv_newarrW hA (l.length + 1) List.length_append (l ++ ([.inl (.int, 64), .inl (.int, 64)] : List hm_Sh)) (List.append_assoc _ _ _) hB (Nat.lt_of_le_of_lt (Nat.add_le_add_left (Nat.le_of_ble_eq_true rfl : 2 ≤ 4) l.length) h9) dX9_init_15 rfl (Or.inl rfl) ac_int (by decide) (by decide) (by decide) (by decide) (by decide) (List.forall_mem_cons.mpr ⟨(hm_le_ref (hm_lea hv0.2 1)), (fun _ h => nomatch h)⟩) (List.forall_mem_cons.mpr ⟨(hm_le_ref (hm_lea hv0.2 1)), (fun _ h => nomatch h)⟩) (fun X hA => ?_)
  have hB : hm_MB M1 (l.length + 2) := hB.mono (Nat.le_succ _)
  have hC := hA.1
  have hI := hI0.ext hA.2.1
  refine jv_nf 17 [.ref (l.length + 2), .ref v0] rfl rfl ?_
  refine jv_putRF hC fl_X9_15 ow_9 hI dX9_init_17 rfl (hm_sl_app h0) (Nat.succ_ne_zero _) ?_
  obtain ⟨M3, e4, hF⟩ := hl_some hF
  refine jv_mem e4 ?_
  have hB : hm_MB M3 (l.length + 2) := by rw [e4]; exact hB.wR (hm_lea hv0.2 2) (hm_leb l.length (Nat.le_of_ble_eq_true rfl : 2 ≤ 2))
  refine jv_aload_n hC 0 dX9_init_20 rfl ?_
  refine jv_bipush hC dX9_init_21 c8_64 ?_
  refine jv_newarrW hA (l.length + 2) List.length_append (l ++ ([.inl (.int, 64), .inl (.int, 64), .inl (.int, 64)] : List hm_Sh)) (List.append_assoc _ _ _) hB (Nat.lt_of_le_of_lt (Nat.add_le_add_left (Nat.le_of_ble_eq_true rfl : 3 ≤ 4) l.length) h9) dX9_init_23 rfl (Or.inl rfl) ac_int (by decide) (by decide) (by decide) (by decide) (by decide) (List.forall_mem_cons.mpr ⟨(hm_le_ref (hm_lea hv0.2 2)), (fun _ h => nomatch h)⟩) (List.forall_mem_cons.mpr ⟨(hm_le_ref (hm_lea hv0.2 2)), (fun _ h => nomatch h)⟩) (fun X hA => ?_)
  have hB : hm_MB M3 (l.length + 3) := hB.mono (Nat.le_succ _)
  have hC := hA.1
  have hI := hI0.ext hA.2.1
  refine jv_nf 25 [.ref (l.length + 3), .ref v0] rfl rfl ?_
  refine jv_putRF hC fl_X9_18 ow_9 hI dX9_init_25 rfl (hm_sl_app h0) (Nat.succ_ne_zero _) ?_
  obtain ⟨M5, e6, hF⟩ := hl_some hF
  refine jv_mem e6 ?_
  have hB : hm_MB M5 (l.length + 3) := by rw [e6]; exact hB.wR (hm_lea hv0.2 3) (hm_leb l.length (Nat.le_of_ble_eq_true rfl : 3 ≤ 3))
  obtain rfl := hr_somev hF
  exact jv_vretA hA (by decide) (by decide) dX9_init_28
set_option maxRecDepth 100000 in
set_option maxHeartbeats 4000000 in
theorem mB_Walk_init {l : List hm_Sh} {v0 : Nat} {M M' : hm_M} (h0 : hm_sl l v0 = some (.inr 9)) (hB : hm_MB M l.length) (h9 : l.length + 4 < 900000) (hF : g_Walk_init l v0 M = some M') : hm_MB M' (l ++ ([.inl (.int, 64), .inl (.int, 64), .inl (.int, 64)] : List hm_Sh)).length := by
  have hv0 := (hm_sl_rng _ _ h0)
  unfold g_Walk_init at hF
  have hB : hm_MB M (l.length + 1) := hB.mono (Nat.le_succ _)
  obtain ⟨M1, e2, hF⟩ := hl_some hF
  have hB : hm_MB M1 (l.length + 1) := by rw [e2]; exact hB.wR (hm_lea hv0.2 1) (hm_leb l.length (Nat.le_of_ble_eq_true rfl : 1 ≤ 1))
  have hB : hm_MB M1 (l.length + 2) := hB.mono (Nat.le_succ _)
  obtain ⟨M3, e4, hF⟩ := hl_some hF
  have hB : hm_MB M3 (l.length + 2) := by rw [e4]; exact hB.wR (hm_lea hv0.2 2) (hm_leb l.length (Nat.le_of_ble_eq_true rfl : 2 ≤ 2))
  have hB : hm_MB M3 (l.length + 3) := hB.mono (Nat.le_succ _)
  obtain ⟨M5, e6, hF⟩ := hl_some hF
  have hB : hm_MB M5 (l.length + 3) := by rw [e6]; exact hB.wR (hm_lea hv0.2 3) (hm_leb l.length (Nat.le_of_ble_eq_true rfl : 3 ≤ 3))
  obtain rfl := hr_somev hF
  rw [List.length_append]; exact hB
set_option maxRecDepth 100000 in
set_option maxHeartbeats 4000000 in
theorem kA_Ps_init {l : List hm_Sh} {v0 : Nat} {M M' : hm_M} (h0 : hm_sl l v0 = some (.inr 11)) (hB : hm_MB M l.length) (h9 : l.length + 75 < 900000) (hF : g_Ps_init l v0 M = some M') : hm_KA yX11_init cX11_init 2 5 l (l ++ [.inr 5, .inr 7, .inl (.byte, 1000), .inr 0, .inl (.long, 6), .inl (.int, 6), .inl (.int, 6), .inl (.int, 12), .inl (.int, 12), .inl (.int, 12), .inl (.int, 12), .inr 3, .inl (.int, 1000), .inl (.int, 4), .inl (.int, 4), .inl (.int, 32), .inl (.int, 7), .inr 4, .inr 0, .inl (.long, 6), .inl (.int, 6), .inl (.int, 6), .inl (.int, 12), .inl (.int, 12), .inl (.int, 12), .inl (.int, 12), .inr 3, .inl (.int, 1000), .inl (.int, 4), .inl (.int, 4), .inl (.int, 32), .inl (.int, 7), .inl (.int, 12), .inl (.long, 2496), .inr 2, .inl (.int, 12), .inl (.int, 8), .inl (.int, 8), .inr 1, .inl (.int, 20), .inl (.int, 20), .inr 6, .inl (.int, 204), .inl (.int, 16), .inl (.int, 6), .inr 8, .inl (.int, 144), .inl (.int, 4096), .inl (.int, 12), .inr 10, .inl (.long, 24), .inl (.int, 1536), .inl (.int, 24), .inr 9, .inl (.int, 64), .inl (.int, 64), .inl (.int, 64), .inl (.object "PaneSpots$Hold", 4), .inr 2, .inl (.int, 12), .inl (.int, 8), .inl (.int, 8), .inr 2, .inl (.int, 12), .inl (.int, 8), .inl (.int, 8), .inr 2, .inl (.int, 12), .inl (.int, 8), .inl (.int, 8), .inr 2, .inl (.int, 12), .inl (.int, 8), .inl (.int, 8)]) [.ref v0] M M' 74 12276 := by
  have hv0 := (hm_sl_rng _ _ h0)
  refine hm_enterA mm_Ps_init rfl (Nat.le_of_ble_eq_true rfl) (fun X hI0 hA => ?_)
  have hC := hA.1
  have hI := hI0
  show hm_U X 0 [(0, .ref v0)] [] M _
  unfold g_Ps_init at hF
  refine jv_aload_n hC 0 dX11_init_0 rfl ?_
  refine jv_objInit hC ol_X11_3 oi_inst oi_code dX11_init_1 (by decide) (Nat.le_of_ble_eq_true rfl) ?_
  refine jv_aload_n hC 0 dX11_init_4 rfl ?_
  refine jv_newobjW hA l.length rfl (l ++ ([.inr 5] : List hm_Sh)) (rfl) hB (Nat.lt_of_le_of_lt (Nat.add_le_add_left (Nat.le_of_ble_eq_true rfl : 1 ≤ 75) l.length) h9) nw_X11_9 dX11_init_5 (by decide) (by decide) (List.forall_mem_cons.mpr ⟨(hm_le_ref hv0.2), (fun _ h => nomatch h)⟩) (List.forall_mem_cons.mpr ⟨(hm_le_ref hv0.2), (fun _ h => nomatch h)⟩) (fun X hA => ?_)
  have hB : hm_MB M (l.length + 1) := hB.mono (Nat.le_succ _)
  have hC := hA.1
  have hI := hI0.ext hA.2.1
  refine jv_nf 8 [.ref (l.length + 1), .ref v0] rfl rfl ?_
  refine jv_dup hC dX11_init_8 rfl ?_
  obtain ⟨M2, c1, hF⟩ := hv_some hF
  refine jv_callIW hA (l.length + 1) List.length_append (l ++ ([.inr 5, .inr 7, .inl (.byte, 1000), .inr 0, .inl (.long, 6), .inl (.int, 6), .inl (.int, 6), .inl (.int, 12), .inl (.int, 12), .inl (.int, 12), .inl (.int, 12), .inr 3, .inl (.int, 1000), .inl (.int, 4), .inl (.int, 4), .inl (.int, 32), .inl (.int, 7)] : List hm_Sh)) (List.append_assoc _ _ _) (kA_Reader_init (hm_sl_new rfl) (by rw [List.length_append]; exact hB) (hm_l9 h9 (Nat.le_of_ble_eq_true rfl)) c1) mm_Reader_init ni_Reader_init rfl ml_X11_11 dX11_init_9 (Nat.le_of_ble_eq_true rfl) rfl rfl (Nat.le_of_ble_eq_true rfl) (by decide) (by decide) (List.forall_mem_cons.mpr ⟨(hm_le_ref (hm_lea hv0.2 1)), (fun _ h => nomatch h)⟩) (List.forall_mem_cons.mpr ⟨(hm_le_ref (hm_leb l.length (Nat.le_of_ble_eq_true rfl : 1 ≤ 1))), (List.forall_mem_cons.mpr ⟨(hm_le_ref (hm_lea hv0.2 1)), (fun _ h => nomatch h)⟩)⟩) (fun X hA => ?_)
  have hB : hm_MB M2 (l.length + 17) := by have h := mB_Reader_init (hm_sl_new rfl) (by rw [List.length_append]; exact hB) (hm_l9 h9 (Nat.le_of_ble_eq_true rfl)) c1; rw [List.length_append, List.length_append] at h; exact h
  have hC := hA.1
  have hI := hI0.ext hA.2.1
  refine jv_nf 12 [.ref (l.length + 1), .ref v0] rfl rfl ?_
  refine jv_putRF hC fl_X11_12 ow_11 hI dX11_init_12 rfl (hm_sl_app h0) (Nat.succ_ne_zero _) ?_
  obtain ⟨M3, e4, hF⟩ := hl_some hF
  refine jv_mem e4 ?_
  have hB : hm_MB M3 (l.length + 17) := by rw [e4]; exact hB.wR (hm_lea hv0.2 17) (hm_leb l.length (Nat.le_of_ble_eq_true rfl : 1 ≤ 17))
  refine jv_aload_n hC 0 dX11_init_15 rfl ?_
  refine jv_newobjW hA (l.length + 17) List.length_append (l ++ ([.inr 5, .inr 7, .inl (.byte, 1000), .inr 0, .inl (.long, 6), .inl (.int, 6), .inl (.int, 6), .inl (.int, 12), .inl (.int, 12), .inl (.int, 12), .inl (.int, 12), .inr 3, .inl (.int, 1000), .inl (.int, 4), .inl (.int, 4), .inl (.int, 32), .inl (.int, 7), .inr 4] : List hm_Sh)) (List.append_assoc _ _ _) hB (Nat.lt_of_le_of_lt (Nat.add_le_add_left (Nat.le_of_ble_eq_true rfl : 18 ≤ 75) l.length) h9) nw_X11_16 dX11_init_16 (by decide) (by decide) (List.forall_mem_cons.mpr ⟨(hm_le_ref (hm_lea hv0.2 17)), (fun _ h => nomatch h)⟩) (List.forall_mem_cons.mpr ⟨(hm_le_ref (hm_lea hv0.2 17)), (fun _ h => nomatch h)⟩) (fun X hA => ?_)
  have hB : hm_MB M3 (l.length + 18) := hB.mono (Nat.le_succ _)
  have hC := hA.1
  have hI := hI0.ext hA.2.1
  refine jv_nf 19 [.ref (l.length + 18), .ref v0] rfl rfl ?_
  refine jv_dup hC dX11_init_19 rfl ?_
  obtain ⟨M6, c5, hF⟩ := hv_some hF
  refine jv_callIW hA (l.length + 18) List.length_append (l ++ ([.inr 5, .inr 7, .inl (.byte, 1000), .inr 0, .inl (.long, 6), .inl (.int, 6), .inl (.int, 6), .inl (.int, 12), .inl (.int, 12), .inl (.int, 12), .inl (.int, 12), .inr 3, .inl (.int, 1000), .inl (.int, 4), .inl (.int, 4), .inl (.int, 32), .inl (.int, 7), .inr 4, .inr 0, .inl (.long, 6), .inl (.int, 6), .inl (.int, 6), .inl (.int, 12), .inl (.int, 12), .inl (.int, 12), .inl (.int, 12), .inr 3, .inl (.int, 1000), .inl (.int, 4), .inl (.int, 4), .inl (.int, 32), .inl (.int, 7), .inl (.int, 12), .inl (.long, 2496)] : List hm_Sh)) (List.append_assoc _ _ _) (kA_Light_init (hm_sl_new rfl) (by rw [List.length_append]; exact hB) (hm_l9 h9 (Nat.le_of_ble_eq_true rfl)) c5) mm_Light_init ni_Light_init rfl ml_X11_18 dX11_init_20 (Nat.le_of_ble_eq_true rfl) rfl rfl (Nat.le_of_ble_eq_true rfl) (by decide) (by decide) (List.forall_mem_cons.mpr ⟨(hm_le_ref (hm_lea hv0.2 18)), (fun _ h => nomatch h)⟩) (List.forall_mem_cons.mpr ⟨(hm_le_ref (hm_leb l.length (Nat.le_of_ble_eq_true rfl : 18 ≤ 18))), (List.forall_mem_cons.mpr ⟨(hm_le_ref (hm_lea hv0.2 18)), (fun _ h => nomatch h)⟩)⟩) (fun X hA => ?_)
  have hB : hm_MB M6 (l.length + 34) := by have h := mB_Light_init (hm_sl_new rfl) (by rw [List.length_append]; exact hB) (hm_l9 h9 (Nat.le_of_ble_eq_true rfl)) c5; rw [List.length_append, List.length_append] at h; exact h
  have hC := hA.1
  have hI := hI0.ext hA.2.1
  refine jv_nf 23 [.ref (l.length + 18), .ref v0] rfl rfl ?_
  refine jv_putRF hC fl_X11_19 ow_11 hI dX11_init_23 rfl (hm_sl_app h0) (Nat.succ_ne_zero _) ?_
  obtain ⟨M7, e8, hF⟩ := hl_some hF
  refine jv_mem e8 ?_
  have hB : hm_MB M7 (l.length + 34) := by rw [e8]; exact hB.wR (hm_lea hv0.2 34) (hm_leb l.length (Nat.le_of_ble_eq_true rfl : 18 ≤ 34))
  refine jv_aload_n hC 0 dX11_init_26 rfl ?_
  refine jv_newobjW hA (l.length + 34) List.length_append (l ++ ([.inr 5, .inr 7, .inl (.byte, 1000), .inr 0, .inl (.long, 6), .inl (.int, 6), .inl (.int, 6), .inl (.int, 12), .inl (.int, 12), .inl (.int, 12), .inl (.int, 12), .inr 3, .inl (.int, 1000), .inl (.int, 4), .inl (.int, 4), .inl (.int, 32), .inl (.int, 7), .inr 4, .inr 0, .inl (.long, 6), .inl (.int, 6), .inl (.int, 6), .inl (.int, 12), .inl (.int, 12), .inl (.int, 12), .inl (.int, 12), .inr 3, .inl (.int, 1000), .inl (.int, 4), .inl (.int, 4), .inl (.int, 32), .inl (.int, 7), .inl (.int, 12), .inl (.long, 2496), .inr 2] : List hm_Sh)) (List.append_assoc _ _ _) hB (Nat.lt_of_le_of_lt (Nat.add_le_add_left (Nat.le_of_ble_eq_true rfl : 35 ≤ 75) l.length) h9) nw_X11_23 dX11_init_27 (by decide) (by decide) (List.forall_mem_cons.mpr ⟨(hm_le_ref (hm_lea hv0.2 34)), (fun _ h => nomatch h)⟩) (List.forall_mem_cons.mpr ⟨(hm_le_ref (hm_lea hv0.2 34)), (fun _ h => nomatch h)⟩) (fun X hA => ?_)
  have hB : hm_MB M7 (l.length + 35) := hB.mono (Nat.le_succ _)
  have hC := hA.1
  have hI := hI0.ext hA.2.1
  refine jv_nf 30 [.ref (l.length + 35), .ref v0] rfl rfl ?_
  refine jv_dup hC dX11_init_30 rfl ?_
  obtain ⟨M10, c9, hF⟩ := hv_some hF
  refine jv_callIW hA (l.length + 35) List.length_append (l ++ ([.inr 5, .inr 7, .inl (.byte, 1000), .inr 0, .inl (.long, 6), .inl (.int, 6), .inl (.int, 6), .inl (.int, 12), .inl (.int, 12), .inl (.int, 12), .inl (.int, 12), .inr 3, .inl (.int, 1000), .inl (.int, 4), .inl (.int, 4), .inl (.int, 32), .inl (.int, 7), .inr 4, .inr 0, .inl (.long, 6), .inl (.int, 6), .inl (.int, 6), .inl (.int, 12), .inl (.int, 12), .inl (.int, 12), .inl (.int, 12), .inr 3, .inl (.int, 1000), .inl (.int, 4), .inl (.int, 4), .inl (.int, 32), .inl (.int, 7), .inl (.int, 12), .inl (.long, 2496), .inr 2, .inl (.int, 12), .inl (.int, 8), .inl (.int, 8)] : List hm_Sh)) (List.append_assoc _ _ _) (kA_Hold_init (hm_sl_new rfl) (by rw [List.length_append]; exact hB) (hm_l9 h9 (Nat.le_of_ble_eq_true rfl)) c9) mm_Hold_init ni_Hold_init rfl ml_X11_25 dX11_init_31 (Nat.le_of_ble_eq_true rfl) rfl rfl (Nat.le_of_ble_eq_true rfl) (by decide) (by decide) (List.forall_mem_cons.mpr ⟨(hm_le_ref (hm_lea hv0.2 35)), (fun _ h => nomatch h)⟩) (List.forall_mem_cons.mpr ⟨(hm_le_ref (hm_leb l.length (Nat.le_of_ble_eq_true rfl : 35 ≤ 35))), (List.forall_mem_cons.mpr ⟨(hm_le_ref (hm_lea hv0.2 35)), (fun _ h => nomatch h)⟩)⟩) (fun X hA => ?_)
  have hB : hm_MB M10 (l.length + 38) := by have h := mB_Hold_init (hm_sl_new rfl) (by rw [List.length_append]; exact hB) (hm_l9 h9 (Nat.le_of_ble_eq_true rfl)) c9; rw [List.length_append, List.length_append] at h; exact h
  have hC := hA.1
  have hI := hI0.ext hA.2.1
  refine jv_nf 34 [.ref (l.length + 35), .ref v0] rfl rfl ?_
  refine jv_putRF hC fl_X11_26 ow_11 hI dX11_init_34 rfl (hm_sl_app h0) (Nat.succ_ne_zero _) ?_
  obtain ⟨M11, e12, hF⟩ := hl_some hF
  refine jv_mem e12 ?_
  have hB : hm_MB M11 (l.length + 38) := by rw [e12]; exact hB.wR (hm_lea hv0.2 38) (hm_leb l.length (Nat.le_of_ble_eq_true rfl : 35 ≤ 38))
  refine jv_aload_n hC 0 dX11_init_37 rfl ?_
  refine jv_newobjW hA (l.length + 38) List.length_append (l ++ ([.inr 5, .inr 7, .inl (.byte, 1000), .inr 0, .inl (.long, 6), .inl (.int, 6), .inl (.int, 6), .inl (.int, 12), .inl (.int, 12), .inl (.int, 12), .inl (.int, 12), .inr 3, .inl (.int, 1000), .inl (.int, 4), .inl (.int, 4), .inl (.int, 32), .inl (.int, 7), .inr 4, .inr 0, .inl (.long, 6), .inl (.int, 6), .inl (.int, 6), .inl (.int, 12), .inl (.int, 12), .inl (.int, 12), .inl (.int, 12), .inr 3, .inl (.int, 1000), .inl (.int, 4), .inl (.int, 4), .inl (.int, 32), .inl (.int, 7), .inl (.int, 12), .inl (.long, 2496), .inr 2, .inl (.int, 12), .inl (.int, 8), .inl (.int, 8), .inr 1] : List hm_Sh)) (List.append_assoc _ _ _) hB (Nat.lt_of_le_of_lt (Nat.add_le_add_left (Nat.le_of_ble_eq_true rfl : 39 ≤ 75) l.length) h9) nw_X11_30 dX11_init_38 (by decide) (by decide) (List.forall_mem_cons.mpr ⟨(hm_le_ref (hm_lea hv0.2 38)), (fun _ h => nomatch h)⟩) (List.forall_mem_cons.mpr ⟨(hm_le_ref (hm_lea hv0.2 38)), (fun _ h => nomatch h)⟩) (fun X hA => ?_)
  have hB : hm_MB M11 (l.length + 39) := hB.mono (Nat.le_succ _)
  have hC := hA.1
  have hI := hI0.ext hA.2.1
  refine jv_nf 41 [.ref (l.length + 39), .ref v0] rfl rfl ?_
  refine jv_dup hC dX11_init_41 rfl ?_
  obtain ⟨M14, c13, hF⟩ := hv_some hF
  refine jv_callIW hA (l.length + 39) List.length_append (l ++ ([.inr 5, .inr 7, .inl (.byte, 1000), .inr 0, .inl (.long, 6), .inl (.int, 6), .inl (.int, 6), .inl (.int, 12), .inl (.int, 12), .inl (.int, 12), .inl (.int, 12), .inr 3, .inl (.int, 1000), .inl (.int, 4), .inl (.int, 4), .inl (.int, 32), .inl (.int, 7), .inr 4, .inr 0, .inl (.long, 6), .inl (.int, 6), .inl (.int, 6), .inl (.int, 12), .inl (.int, 12), .inl (.int, 12), .inl (.int, 12), .inr 3, .inl (.int, 1000), .inl (.int, 4), .inl (.int, 4), .inl (.int, 32), .inl (.int, 7), .inl (.int, 12), .inl (.long, 2496), .inr 2, .inl (.int, 12), .inl (.int, 8), .inl (.int, 8), .inr 1, .inl (.int, 20), .inl (.int, 20)] : List hm_Sh)) (List.append_assoc _ _ _) (kA_History_init (hm_sl_new rfl) (by rw [List.length_append]; exact hB) (hm_l9 h9 (Nat.le_of_ble_eq_true rfl)) c13) mm_History_init ni_History_init rfl ml_X11_32 dX11_init_42 (Nat.le_of_ble_eq_true rfl) rfl rfl (Nat.le_of_ble_eq_true rfl) (by decide) (by decide) (List.forall_mem_cons.mpr ⟨(hm_le_ref (hm_lea hv0.2 39)), (fun _ h => nomatch h)⟩) (List.forall_mem_cons.mpr ⟨(hm_le_ref (hm_leb l.length (Nat.le_of_ble_eq_true rfl : 39 ≤ 39))), (List.forall_mem_cons.mpr ⟨(hm_le_ref (hm_lea hv0.2 39)), (fun _ h => nomatch h)⟩)⟩) (fun X hA => ?_)
  have hB : hm_MB M14 (l.length + 41) := by have h := mB_History_init (hm_sl_new rfl) (by rw [List.length_append]; exact hB) (hm_l9 h9 (Nat.le_of_ble_eq_true rfl)) c13; rw [List.length_append, List.length_append] at h; exact h
  have hC := hA.1
  have hI := hI0.ext hA.2.1
  refine jv_nf 45 [.ref (l.length + 39), .ref v0] rfl rfl ?_
  refine jv_putRF hC fl_X11_33 ow_11 hI dX11_init_45 rfl (hm_sl_app h0) (Nat.succ_ne_zero _) ?_
  obtain ⟨M15, e16, hF⟩ := hl_some hF
  refine jv_mem e16 ?_
  have hB : hm_MB M15 (l.length + 41) := by rw [e16]; exact hB.wR (hm_lea hv0.2 41) (hm_leb l.length (Nat.le_of_ble_eq_true rfl : 39 ≤ 41))
  refine jv_aload_n hC 0 dX11_init_48 rfl ?_
  refine jv_newobjW hA (l.length + 41) List.length_append (l ++ ([.inr 5, .inr 7, .inl (.byte, 1000), .inr 0, .inl (.long, 6), .inl (.int, 6), .inl (.int, 6), .inl (.int, 12), .inl (.int, 12), .inl (.int, 12), .inl (.int, 12), .inr 3, .inl (.int, 1000), .inl (.int, 4), .inl (.int, 4), .inl (.int, 32), .inl (.int, 7), .inr 4, .inr 0, .inl (.long, 6), .inl (.int, 6), .inl (.int, 6), .inl (.int, 12), .inl (.int, 12), .inl (.int, 12), .inl (.int, 12), .inr 3, .inl (.int, 1000), .inl (.int, 4), .inl (.int, 4), .inl (.int, 32), .inl (.int, 7), .inl (.int, 12), .inl (.long, 2496), .inr 2, .inl (.int, 12), .inl (.int, 8), .inl (.int, 8), .inr 1, .inl (.int, 20), .inl (.int, 20), .inr 6] : List hm_Sh)) (List.append_assoc _ _ _) hB (Nat.lt_of_le_of_lt (Nat.add_le_add_left (Nat.le_of_ble_eq_true rfl : 42 ≤ 75) l.length) h9) nw_X11_37 dX11_init_49 (by decide) (by decide) (List.forall_mem_cons.mpr ⟨(hm_le_ref (hm_lea hv0.2 41)), (fun _ h => nomatch h)⟩) (List.forall_mem_cons.mpr ⟨(hm_le_ref (hm_lea hv0.2 41)), (fun _ h => nomatch h)⟩) (fun X hA => ?_)
  have hB : hm_MB M15 (l.length + 42) := hB.mono (Nat.le_succ _)
  have hC := hA.1
  have hI := hI0.ext hA.2.1
  refine jv_nf 52 [.ref (l.length + 42), .ref v0] rfl rfl ?_
  refine jv_dup hC dX11_init_52 rfl ?_
  obtain ⟨M18, c17, hF⟩ := hv_some hF
  refine jv_callIW hA (l.length + 42) List.length_append (l ++ ([.inr 5, .inr 7, .inl (.byte, 1000), .inr 0, .inl (.long, 6), .inl (.int, 6), .inl (.int, 6), .inl (.int, 12), .inl (.int, 12), .inl (.int, 12), .inl (.int, 12), .inr 3, .inl (.int, 1000), .inl (.int, 4), .inl (.int, 4), .inl (.int, 32), .inl (.int, 7), .inr 4, .inr 0, .inl (.long, 6), .inl (.int, 6), .inl (.int, 6), .inl (.int, 12), .inl (.int, 12), .inl (.int, 12), .inl (.int, 12), .inr 3, .inl (.int, 1000), .inl (.int, 4), .inl (.int, 4), .inl (.int, 32), .inl (.int, 7), .inl (.int, 12), .inl (.long, 2496), .inr 2, .inl (.int, 12), .inl (.int, 8), .inl (.int, 8), .inr 1, .inl (.int, 20), .inl (.int, 20), .inr 6, .inl (.int, 204), .inl (.int, 16), .inl (.int, 6)] : List hm_Sh)) (List.append_assoc _ _ _) (kA_Rents_init (hm_sl_new rfl) (by rw [List.length_append]; exact hB) (hm_l9 h9 (Nat.le_of_ble_eq_true rfl)) c17) mm_Rents_init ni_Rents_init rfl ml_X11_39 dX11_init_53 (Nat.le_of_ble_eq_true rfl) rfl rfl (Nat.le_of_ble_eq_true rfl) (by decide) (by decide) (List.forall_mem_cons.mpr ⟨(hm_le_ref (hm_lea hv0.2 42)), (fun _ h => nomatch h)⟩) (List.forall_mem_cons.mpr ⟨(hm_le_ref (hm_leb l.length (Nat.le_of_ble_eq_true rfl : 42 ≤ 42))), (List.forall_mem_cons.mpr ⟨(hm_le_ref (hm_lea hv0.2 42)), (fun _ h => nomatch h)⟩)⟩) (fun X hA => ?_)
  have hB : hm_MB M18 (l.length + 45) := by have h := mB_Rents_init (hm_sl_new rfl) (by rw [List.length_append]; exact hB) (hm_l9 h9 (Nat.le_of_ble_eq_true rfl)) c17; rw [List.length_append, List.length_append] at h; exact h
  have hC := hA.1
  have hI := hI0.ext hA.2.1
  refine jv_nf 56 [.ref (l.length + 42), .ref v0] rfl rfl ?_
  refine jv_putRF hC fl_X11_40 ow_11 hI dX11_init_56 rfl (hm_sl_app h0) (Nat.succ_ne_zero _) ?_
  obtain ⟨M19, e20, hF⟩ := hl_some hF
  refine jv_mem e20 ?_
  have hB : hm_MB M19 (l.length + 45) := by rw [e20]; exact hB.wR (hm_lea hv0.2 45) (hm_leb l.length (Nat.le_of_ble_eq_true rfl : 42 ≤ 45))
  refine jv_aload_n hC 0 dX11_init_59 rfl ?_
  refine jv_newobjW hA (l.length + 45) List.length_append (l ++ ([.inr 5, .inr 7, .inl (.byte, 1000), .inr 0, .inl (.long, 6), .inl (.int, 6), .inl (.int, 6), .inl (.int, 12), .inl (.int, 12), .inl (.int, 12), .inl (.int, 12), .inr 3, .inl (.int, 1000), .inl (.int, 4), .inl (.int, 4), .inl (.int, 32), .inl (.int, 7), .inr 4, .inr 0, .inl (.long, 6), .inl (.int, 6), .inl (.int, 6), .inl (.int, 12), .inl (.int, 12), .inl (.int, 12), .inl (.int, 12), .inr 3, .inl (.int, 1000), .inl (.int, 4), .inl (.int, 4), .inl (.int, 32), .inl (.int, 7), .inl (.int, 12), .inl (.long, 2496), .inr 2, .inl (.int, 12), .inl (.int, 8), .inl (.int, 8), .inr 1, .inl (.int, 20), .inl (.int, 20), .inr 6, .inl (.int, 204), .inl (.int, 16), .inl (.int, 6), .inr 8] : List hm_Sh)) (List.append_assoc _ _ _) hB (Nat.lt_of_le_of_lt (Nat.add_le_add_left (Nat.le_of_ble_eq_true rfl : 46 ≤ 75) l.length) h9) nw_X11_44 dX11_init_60 (by decide) (by decide) (List.forall_mem_cons.mpr ⟨(hm_le_ref (hm_lea hv0.2 45)), (fun _ h => nomatch h)⟩) (List.forall_mem_cons.mpr ⟨(hm_le_ref (hm_lea hv0.2 45)), (fun _ h => nomatch h)⟩) (fun X hA => ?_)
  have hB : hm_MB M19 (l.length + 46) := hB.mono (Nat.le_succ _)
  have hC := hA.1
  have hI := hI0.ext hA.2.1
  refine jv_nf 63 [.ref (l.length + 46), .ref v0] rfl rfl ?_
  refine jv_dup hC dX11_init_63 rfl ?_
  obtain ⟨M22, c21, hF⟩ := hv_some hF
  refine jv_callIW hA (l.length + 46) List.length_append (l ++ ([.inr 5, .inr 7, .inl (.byte, 1000), .inr 0, .inl (.long, 6), .inl (.int, 6), .inl (.int, 6), .inl (.int, 12), .inl (.int, 12), .inl (.int, 12), .inl (.int, 12), .inr 3, .inl (.int, 1000), .inl (.int, 4), .inl (.int, 4), .inl (.int, 32), .inl (.int, 7), .inr 4, .inr 0, .inl (.long, 6), .inl (.int, 6), .inl (.int, 6), .inl (.int, 12), .inl (.int, 12), .inl (.int, 12), .inl (.int, 12), .inr 3, .inl (.int, 1000), .inl (.int, 4), .inl (.int, 4), .inl (.int, 32), .inl (.int, 7), .inl (.int, 12), .inl (.long, 2496), .inr 2, .inl (.int, 12), .inl (.int, 8), .inl (.int, 8), .inr 1, .inl (.int, 20), .inl (.int, 20), .inr 6, .inl (.int, 204), .inl (.int, 16), .inl (.int, 6), .inr 8, .inl (.int, 144), .inl (.int, 4096), .inl (.int, 12)] : List hm_Sh)) (List.append_assoc _ _ _) (kA_Trade_init (hm_sl_new rfl) (by rw [List.length_append]; exact hB) (hm_l9 h9 (Nat.le_of_ble_eq_true rfl)) c21) mm_Trade_init ni_Trade_init rfl ml_X11_46 dX11_init_64 (Nat.le_of_ble_eq_true rfl) rfl rfl (Nat.le_of_ble_eq_true rfl) (by decide) (by decide) (List.forall_mem_cons.mpr ⟨(hm_le_ref (hm_lea hv0.2 46)), (fun _ h => nomatch h)⟩) (List.forall_mem_cons.mpr ⟨(hm_le_ref (hm_leb l.length (Nat.le_of_ble_eq_true rfl : 46 ≤ 46))), (List.forall_mem_cons.mpr ⟨(hm_le_ref (hm_lea hv0.2 46)), (fun _ h => nomatch h)⟩)⟩) (fun X hA => ?_)
  have hB : hm_MB M22 (l.length + 49) := by have h := mB_Trade_init (hm_sl_new rfl) (by rw [List.length_append]; exact hB) (hm_l9 h9 (Nat.le_of_ble_eq_true rfl)) c21; rw [List.length_append, List.length_append] at h; exact h
  have hC := hA.1
  have hI := hI0.ext hA.2.1
  refine jv_nf 67 [.ref (l.length + 46), .ref v0] rfl rfl ?_
  refine jv_putRF hC fl_X11_47 ow_11 hI dX11_init_67 rfl (hm_sl_app h0) (Nat.succ_ne_zero _) ?_
  obtain ⟨M23, e24, hF⟩ := hl_some hF
  refine jv_mem e24 ?_
  have hB : hm_MB M23 (l.length + 49) := by rw [e24]; exact hB.wR (hm_lea hv0.2 49) (hm_leb l.length (Nat.le_of_ble_eq_true rfl : 46 ≤ 49))
  refine jv_aload_n hC 0 dX11_init_70 rfl ?_
  refine jv_newobjW hA (l.length + 49) List.length_append (l ++ ([.inr 5, .inr 7, .inl (.byte, 1000), .inr 0, .inl (.long, 6), .inl (.int, 6), .inl (.int, 6), .inl (.int, 12), .inl (.int, 12), .inl (.int, 12), .inl (.int, 12), .inr 3, .inl (.int, 1000), .inl (.int, 4), .inl (.int, 4), .inl (.int, 32), .inl (.int, 7), .inr 4, .inr 0, .inl (.long, 6), .inl (.int, 6), .inl (.int, 6), .inl (.int, 12), .inl (.int, 12), .inl (.int, 12), .inl (.int, 12), .inr 3, .inl (.int, 1000), .inl (.int, 4), .inl (.int, 4), .inl (.int, 32), .inl (.int, 7), .inl (.int, 12), .inl (.long, 2496), .inr 2, .inl (.int, 12), .inl (.int, 8), .inl (.int, 8), .inr 1, .inl (.int, 20), .inl (.int, 20), .inr 6, .inl (.int, 204), .inl (.int, 16), .inl (.int, 6), .inr 8, .inl (.int, 144), .inl (.int, 4096), .inl (.int, 12), .inr 10] : List hm_Sh)) (List.append_assoc _ _ _) hB (Nat.lt_of_le_of_lt (Nat.add_le_add_left (Nat.le_of_ble_eq_true rfl : 50 ≤ 75) l.length) h9) nw_X11_51 dX11_init_71 (by decide) (by decide) (List.forall_mem_cons.mpr ⟨(hm_le_ref (hm_lea hv0.2 49)), (fun _ h => nomatch h)⟩) (List.forall_mem_cons.mpr ⟨(hm_le_ref (hm_lea hv0.2 49)), (fun _ h => nomatch h)⟩) (fun X hA => ?_)
  have hB : hm_MB M23 (l.length + 50) := hB.mono (Nat.le_succ _)
  have hC := hA.1
  have hI := hI0.ext hA.2.1
  refine jv_nf 74 [.ref (l.length + 50), .ref v0] rfl rfl ?_
  refine jv_dup hC dX11_init_74 rfl ?_
  obtain ⟨M26, c25, hF⟩ := hv_some hF
  refine jv_callIW hA (l.length + 50) List.length_append (l ++ ([.inr 5, .inr 7, .inl (.byte, 1000), .inr 0, .inl (.long, 6), .inl (.int, 6), .inl (.int, 6), .inl (.int, 12), .inl (.int, 12), .inl (.int, 12), .inl (.int, 12), .inr 3, .inl (.int, 1000), .inl (.int, 4), .inl (.int, 4), .inl (.int, 32), .inl (.int, 7), .inr 4, .inr 0, .inl (.long, 6), .inl (.int, 6), .inl (.int, 6), .inl (.int, 12), .inl (.int, 12), .inl (.int, 12), .inl (.int, 12), .inr 3, .inl (.int, 1000), .inl (.int, 4), .inl (.int, 4), .inl (.int, 32), .inl (.int, 7), .inl (.int, 12), .inl (.long, 2496), .inr 2, .inl (.int, 12), .inl (.int, 8), .inl (.int, 8), .inr 1, .inl (.int, 20), .inl (.int, 20), .inr 6, .inl (.int, 204), .inl (.int, 16), .inl (.int, 6), .inr 8, .inl (.int, 144), .inl (.int, 4096), .inl (.int, 12), .inr 10, .inl (.long, 24), .inl (.int, 1536), .inl (.int, 24)] : List hm_Sh)) (List.append_assoc _ _ _) (kA_Way_init (hm_sl_new rfl) (by rw [List.length_append]; exact hB) (hm_l9 h9 (Nat.le_of_ble_eq_true rfl)) c25) mm_Way_init ni_Way_init rfl ml_X11_53 dX11_init_75 (Nat.le_of_ble_eq_true rfl) rfl rfl (Nat.le_of_ble_eq_true rfl) (by decide) (by decide) (List.forall_mem_cons.mpr ⟨(hm_le_ref (hm_lea hv0.2 50)), (fun _ h => nomatch h)⟩) (List.forall_mem_cons.mpr ⟨(hm_le_ref (hm_leb l.length (Nat.le_of_ble_eq_true rfl : 50 ≤ 50))), (List.forall_mem_cons.mpr ⟨(hm_le_ref (hm_lea hv0.2 50)), (fun _ h => nomatch h)⟩)⟩) (fun X hA => ?_)
  have hB : hm_MB M26 (l.length + 53) := by have h := mB_Way_init (hm_sl_new rfl) (by rw [List.length_append]; exact hB) (hm_l9 h9 (Nat.le_of_ble_eq_true rfl)) c25; rw [List.length_append, List.length_append] at h; exact h
  have hC := hA.1
  have hI := hI0.ext hA.2.1
  refine jv_nf 78 [.ref (l.length + 50), .ref v0] rfl rfl ?_
  refine jv_putRF hC fl_X11_54 ow_11 hI dX11_init_78 rfl (hm_sl_app h0) (Nat.succ_ne_zero _) ?_
  obtain ⟨M27, e28, hF⟩ := hl_some hF
  refine jv_mem e28 ?_
  have hB : hm_MB M27 (l.length + 53) := by rw [e28]; exact hB.wR (hm_lea hv0.2 53) (hm_leb l.length (Nat.le_of_ble_eq_true rfl : 50 ≤ 53))
  refine jv_aload_n hC 0 dX11_init_81 rfl ?_
  refine jv_newobjW hA (l.length + 53) List.length_append (l ++ ([.inr 5, .inr 7, .inl (.byte, 1000), .inr 0, .inl (.long, 6), .inl (.int, 6), .inl (.int, 6), .inl (.int, 12), .inl (.int, 12), .inl (.int, 12), .inl (.int, 12), .inr 3, .inl (.int, 1000), .inl (.int, 4), .inl (.int, 4), .inl (.int, 32), .inl (.int, 7), .inr 4, .inr 0, .inl (.long, 6), .inl (.int, 6), .inl (.int, 6), .inl (.int, 12), .inl (.int, 12), .inl (.int, 12), .inl (.int, 12), .inr 3, .inl (.int, 1000), .inl (.int, 4), .inl (.int, 4), .inl (.int, 32), .inl (.int, 7), .inl (.int, 12), .inl (.long, 2496), .inr 2, .inl (.int, 12), .inl (.int, 8), .inl (.int, 8), .inr 1, .inl (.int, 20), .inl (.int, 20), .inr 6, .inl (.int, 204), .inl (.int, 16), .inl (.int, 6), .inr 8, .inl (.int, 144), .inl (.int, 4096), .inl (.int, 12), .inr 10, .inl (.long, 24), .inl (.int, 1536), .inl (.int, 24), .inr 9] : List hm_Sh)) (List.append_assoc _ _ _) hB (Nat.lt_of_le_of_lt (Nat.add_le_add_left (Nat.le_of_ble_eq_true rfl : 54 ≤ 75) l.length) h9) nw_X11_58 dX11_init_82 (by decide) (by decide) (List.forall_mem_cons.mpr ⟨(hm_le_ref (hm_lea hv0.2 53)), (fun _ h => nomatch h)⟩) (List.forall_mem_cons.mpr ⟨(hm_le_ref (hm_lea hv0.2 53)), (fun _ h => nomatch h)⟩) (fun X hA => ?_)
  have hB : hm_MB M27 (l.length + 54) := hB.mono (Nat.le_succ _)
  have hC := hA.1
  have hI := hI0.ext hA.2.1
  refine jv_nf 85 [.ref (l.length + 54), .ref v0] rfl rfl ?_
  refine jv_dup hC dX11_init_85 rfl ?_
  obtain ⟨M30, c29, hF⟩ := hv_some hF
  refine jv_callIW hA (l.length + 54) List.length_append (l ++ ([.inr 5, .inr 7, .inl (.byte, 1000), .inr 0, .inl (.long, 6), .inl (.int, 6), .inl (.int, 6), .inl (.int, 12), .inl (.int, 12), .inl (.int, 12), .inl (.int, 12), .inr 3, .inl (.int, 1000), .inl (.int, 4), .inl (.int, 4), .inl (.int, 32), .inl (.int, 7), .inr 4, .inr 0, .inl (.long, 6), .inl (.int, 6), .inl (.int, 6), .inl (.int, 12), .inl (.int, 12), .inl (.int, 12), .inl (.int, 12), .inr 3, .inl (.int, 1000), .inl (.int, 4), .inl (.int, 4), .inl (.int, 32), .inl (.int, 7), .inl (.int, 12), .inl (.long, 2496), .inr 2, .inl (.int, 12), .inl (.int, 8), .inl (.int, 8), .inr 1, .inl (.int, 20), .inl (.int, 20), .inr 6, .inl (.int, 204), .inl (.int, 16), .inl (.int, 6), .inr 8, .inl (.int, 144), .inl (.int, 4096), .inl (.int, 12), .inr 10, .inl (.long, 24), .inl (.int, 1536), .inl (.int, 24), .inr 9, .inl (.int, 64), .inl (.int, 64), .inl (.int, 64)] : List hm_Sh)) (List.append_assoc _ _ _) (kA_Walk_init (hm_sl_new rfl) (by rw [List.length_append]; exact hB) (hm_l9 h9 (Nat.le_of_ble_eq_true rfl)) c29) mm_Walk_init ni_Walk_init rfl ml_X11_60 dX11_init_86 (Nat.le_of_ble_eq_true rfl) rfl rfl (Nat.le_of_ble_eq_true rfl) (by decide) (by decide) (List.forall_mem_cons.mpr ⟨(hm_le_ref (hm_lea hv0.2 54)), (fun _ h => nomatch h)⟩) (List.forall_mem_cons.mpr ⟨(hm_le_ref (hm_leb l.length (Nat.le_of_ble_eq_true rfl : 54 ≤ 54))), (List.forall_mem_cons.mpr ⟨(hm_le_ref (hm_lea hv0.2 54)), (fun _ h => nomatch h)⟩)⟩) (fun X hA => ?_)
  have hB : hm_MB M30 (l.length + 57) := by have h := mB_Walk_init (hm_sl_new rfl) (by rw [List.length_append]; exact hB) (hm_l9 h9 (Nat.le_of_ble_eq_true rfl)) c29; rw [List.length_append, List.length_append] at h; exact h
  have hC := hA.1
  have hI := hI0.ext hA.2.1
  refine jv_nf 89 [.ref (l.length + 54), .ref v0] rfl rfl ?_
  refine jv_putRF hC fl_X11_61 ow_11 hI dX11_init_89 rfl (hm_sl_app h0) (Nat.succ_ne_zero _) ?_
  obtain ⟨M31, e32, hF⟩ := hl_some hF
  refine jv_mem e32 ?_
  have hB : hm_MB M31 (l.length + 57) := by rw [e32]; exact hB.wR (hm_lea hv0.2 57) (hm_leb l.length (Nat.le_of_ble_eq_true rfl : 54 ≤ 57))
  refine jv_aload_n hC 0 dX11_init_92 rfl ?_
  refine jv_iconst hC dX11_init_93 c32_4 ?_
  refine jv_anewW hA (l.length + 57) List.length_append (l ++ ([.inr 5, .inr 7, .inl (.byte, 1000), .inr 0, .inl (.long, 6), .inl (.int, 6), .inl (.int, 6), .inl (.int, 12), .inl (.int, 12), .inl (.int, 12), .inl (.int, 12), .inr 3, .inl (.int, 1000), .inl (.int, 4), .inl (.int, 4), .inl (.int, 32), .inl (.int, 7), .inr 4, .inr 0, .inl (.long, 6), .inl (.int, 6), .inl (.int, 6), .inl (.int, 12), .inl (.int, 12), .inl (.int, 12), .inl (.int, 12), .inr 3, .inl (.int, 1000), .inl (.int, 4), .inl (.int, 4), .inl (.int, 32), .inl (.int, 7), .inl (.int, 12), .inl (.long, 2496), .inr 2, .inl (.int, 12), .inl (.int, 8), .inl (.int, 8), .inr 1, .inl (.int, 20), .inl (.int, 20), .inr 6, .inl (.int, 204), .inl (.int, 16), .inl (.int, 6), .inr 8, .inl (.int, 144), .inl (.int, 4096), .inl (.int, 12), .inr 10, .inl (.long, 24), .inl (.int, 1536), .inl (.int, 24), .inr 9, .inl (.int, 64), .inl (.int, 64), .inl (.int, 64), .inl (.object "PaneSpots$Hold", 4)] : List hm_Sh)) (List.append_assoc _ _ _) hB (Nat.lt_of_le_of_lt (Nat.add_le_add_left (Nat.le_of_ble_eq_true rfl : 58 ≤ 75) l.length) h9) dX11_init_94 cw_X11_23 (by decide) (by decide) (by decide) (by decide) (by decide) (List.forall_mem_cons.mpr ⟨(hm_le_ref (hm_lea hv0.2 57)), (fun _ h => nomatch h)⟩) (List.forall_mem_cons.mpr ⟨(hm_le_ref (hm_lea hv0.2 57)), (fun _ h => nomatch h)⟩) (fun X hA => ?_)
  have hB : hm_MB M31 (l.length + 58) := hB.mono (Nat.le_succ _)
  have hC := hA.1
  have hI := hI0.ext hA.2.1
  refine jv_nf 97 [.ref (l.length + 58), .ref v0] rfl rfl ?_
  refine jv_putRF hC fl_X11_65 ow_11 hI dX11_init_97 rfl (hm_sl_app h0) (Nat.succ_ne_zero _) ?_
  obtain ⟨M33, e34, hF⟩ := hl_some hF
  refine jv_mem e34 ?_
  have hB : hm_MB M33 (l.length + 58) := by rw [e34]; exact hB.wR (hm_lea hv0.2 58) (hm_leb l.length (Nat.le_of_ble_eq_true rfl : 58 ≤ 58))
  refine jv_iconst hC dX11_init_100 c32_0 ?_
  refine jv_istore_n hC [(1, .int (0 : Int32)), (0, .ref v0)] dX11_init_101 (by decide) rfl ?_
  refine jv_iload_n hC 0 dX11_init_102 rfl ?_
  refine jv_iconst hC dX11_init_103 c32_4 ?_
  refine jv_pc 104 rfl ?_
  refine jv_icmp_ge hC 126 dX11_init_104 (by decide) (fun h => absurd h (by decide)) (fun _ => ?_)
  refine jv_aload_n hC 1 dX11_init_107 rfl ?_
  obtain ⟨g35, hF⟩ := hg_some hF
  obtain ⟨g36, hF⟩ := hg_some hF
  refine jv_getR hC fl_X11_65 dX11_init_108 rfl (hm_sl_app h0) g35 ?_
  refine jv_topR g36.symm ?_
  refine jv_iload_n hC 0 dX11_init_111 rfl ?_
  refine jv_newobjW hA (l.length + 58) List.length_append (l ++ ([.inr 5, .inr 7, .inl (.byte, 1000), .inr 0, .inl (.long, 6), .inl (.int, 6), .inl (.int, 6), .inl (.int, 12), .inl (.int, 12), .inl (.int, 12), .inl (.int, 12), .inr 3, .inl (.int, 1000), .inl (.int, 4), .inl (.int, 4), .inl (.int, 32), .inl (.int, 7), .inr 4, .inr 0, .inl (.long, 6), .inl (.int, 6), .inl (.int, 6), .inl (.int, 12), .inl (.int, 12), .inl (.int, 12), .inl (.int, 12), .inr 3, .inl (.int, 1000), .inl (.int, 4), .inl (.int, 4), .inl (.int, 32), .inl (.int, 7), .inl (.int, 12), .inl (.long, 2496), .inr 2, .inl (.int, 12), .inl (.int, 8), .inl (.int, 8), .inr 1, .inl (.int, 20), .inl (.int, 20), .inr 6, .inl (.int, 204), .inl (.int, 16), .inl (.int, 6), .inr 8, .inl (.int, 144), .inl (.int, 4096), .inl (.int, 12), .inr 10, .inl (.long, 24), .inl (.int, 1536), .inl (.int, 24), .inr 9, .inl (.int, 64), .inl (.int, 64), .inl (.int, 64), .inl (.object "PaneSpots$Hold", 4), .inr 2] : List hm_Sh)) (List.append_assoc _ _ _) hB (Nat.lt_of_le_of_lt (Nat.add_le_add_left (Nat.le_of_ble_eq_true rfl : 59 ≤ 75) l.length) h9) nw_X11_23 dX11_init_112 (by decide) (by decide) (List.forall_mem_cons.mpr ⟨(hm_le_int), (List.forall_mem_cons.mpr ⟨(hm_le_ref (hm_lea hv0.2 58)), (fun _ h => nomatch h)⟩)⟩) (List.forall_mem_cons.mpr ⟨(hm_le_int), (List.forall_mem_cons.mpr ⟨(hm_le_ref (hm_leb l.length (Nat.le_of_ble_eq_true rfl : 58 ≤ 58))), (fun _ h => nomatch h)⟩)⟩) (fun X hA => ?_)
  have hB : hm_MB M33 (l.length + 59) := hB.mono (Nat.le_succ _)
  have hC := hA.1
  have hI := hI0.ext hA.2.1
  refine jv_nf 115 [.ref (l.length + 59), .int (0 : Int32), .ref (l.length + 58)] rfl rfl ?_
  refine jv_dup hC dX11_init_115 rfl ?_
  obtain ⟨M38, c37, hF⟩ := hv_some hF
  refine jv_callIW hA (l.length + 59) List.length_append (l ++ ([.inr 5, .inr 7, .inl (.byte, 1000), .inr 0, .inl (.long, 6), .inl (.int, 6), .inl (.int, 6), .inl (.int, 12), .inl (.int, 12), .inl (.int, 12), .inl (.int, 12), .inr 3, .inl (.int, 1000), .inl (.int, 4), .inl (.int, 4), .inl (.int, 32), .inl (.int, 7), .inr 4, .inr 0, .inl (.long, 6), .inl (.int, 6), .inl (.int, 6), .inl (.int, 12), .inl (.int, 12), .inl (.int, 12), .inl (.int, 12), .inr 3, .inl (.int, 1000), .inl (.int, 4), .inl (.int, 4), .inl (.int, 32), .inl (.int, 7), .inl (.int, 12), .inl (.long, 2496), .inr 2, .inl (.int, 12), .inl (.int, 8), .inl (.int, 8), .inr 1, .inl (.int, 20), .inl (.int, 20), .inr 6, .inl (.int, 204), .inl (.int, 16), .inl (.int, 6), .inr 8, .inl (.int, 144), .inl (.int, 4096), .inl (.int, 12), .inr 10, .inl (.long, 24), .inl (.int, 1536), .inl (.int, 24), .inr 9, .inl (.int, 64), .inl (.int, 64), .inl (.int, 64), .inl (.object "PaneSpots$Hold", 4), .inr 2, .inl (.int, 12), .inl (.int, 8), .inl (.int, 8)] : List hm_Sh)) (List.append_assoc _ _ _) (kA_Hold_init (hm_sl_new rfl) (by rw [List.length_append]; exact hB) (hm_l9 h9 (Nat.le_of_ble_eq_true rfl)) c37) mm_Hold_init ni_Hold_init rfl ml_X11_25 dX11_init_116 (Nat.le_of_ble_eq_true rfl) rfl rfl (Nat.le_of_ble_eq_true rfl) (by decide) (by decide) (List.forall_mem_cons.mpr ⟨(hm_le_int), (List.forall_mem_cons.mpr ⟨(hm_le_ref (hm_lea hv0.2 59)), (fun _ h => nomatch h)⟩)⟩) (List.forall_mem_cons.mpr ⟨(hm_le_ref (hm_leb l.length (Nat.le_of_ble_eq_true rfl : 59 ≤ 59))), (List.forall_mem_cons.mpr ⟨(hm_le_int), (List.forall_mem_cons.mpr ⟨(hm_le_ref (hm_leb l.length (Nat.le_of_ble_eq_true rfl : 58 ≤ 59))), (fun _ h => nomatch h)⟩)⟩)⟩) (fun X hA => ?_)
  have hB : hm_MB M38 (l.length + 62) := by have h := mB_Hold_init (hm_sl_new rfl) (by rw [List.length_append]; exact hB) (hm_l9 h9 (Nat.le_of_ble_eq_true rfl)) c37; rw [List.length_append, List.length_append] at h; exact h
  have hC := hA.1
  have hI := hI0.ext hA.2.1
  refine jv_nf 119 [.ref (l.length + 59), .int (0 : Int32), .ref (l.length + 58)] rfl rfl ?_
  refine jv_aastore hC dX11_init_119 (hm_sl_new rfl) (hm_sl_new rfl) (vi_0 (by decide)) ?_
  obtain ⟨M39, e40, hF⟩ := hl_some hF
  refine jv_mem e40 ?_
  have hB : hm_MB M39 (l.length + 62) := by rw [e40]; exact hB.wR (hm_leb l.length (Nat.le_of_ble_eq_true rfl : 58 ≤ 62)) (hm_leb l.length (Nat.le_of_ble_eq_true rfl : 59 ≤ 62))
  refine jv_iinc hC 0 [(1, .int (1 : Int32)), (0, .ref v0)] dX11_init_120 rfl c32_1 (by decide) rfl ?_
  refine jv_goto hC 102 dX11_init_123 (by decide) ?_
  refine jv_iload_n hC 0 dX11_init_102 rfl ?_
  refine jv_iconst hC dX11_init_103 c32_4 ?_
  refine jv_icmp_ge hC 126 dX11_init_104 (by decide) (fun h => absurd h (by decide)) (fun _ => ?_)
  refine jv_aload_n hC 1 dX11_init_107 rfl ?_
  obtain ⟨g41, hF⟩ := hg_some hF
  obtain ⟨g42, hF⟩ := hg_some hF
  refine jv_getR hC fl_X11_65 dX11_init_108 rfl (hm_sl_app h0) g41 ?_
  refine jv_topR g42.symm ?_
  refine jv_pc 111 rfl ?_
  refine jv_iload_n hC 0 dX11_init_111 rfl ?_
  refine jv_newobjW hA (l.length + 62) List.length_append (l ++ ([.inr 5, .inr 7, .inl (.byte, 1000), .inr 0, .inl (.long, 6), .inl (.int, 6), .inl (.int, 6), .inl (.int, 12), .inl (.int, 12), .inl (.int, 12), .inl (.int, 12), .inr 3, .inl (.int, 1000), .inl (.int, 4), .inl (.int, 4), .inl (.int, 32), .inl (.int, 7), .inr 4, .inr 0, .inl (.long, 6), .inl (.int, 6), .inl (.int, 6), .inl (.int, 12), .inl (.int, 12), .inl (.int, 12), .inl (.int, 12), .inr 3, .inl (.int, 1000), .inl (.int, 4), .inl (.int, 4), .inl (.int, 32), .inl (.int, 7), .inl (.int, 12), .inl (.long, 2496), .inr 2, .inl (.int, 12), .inl (.int, 8), .inl (.int, 8), .inr 1, .inl (.int, 20), .inl (.int, 20), .inr 6, .inl (.int, 204), .inl (.int, 16), .inl (.int, 6), .inr 8, .inl (.int, 144), .inl (.int, 4096), .inl (.int, 12), .inr 10, .inl (.long, 24), .inl (.int, 1536), .inl (.int, 24), .inr 9, .inl (.int, 64), .inl (.int, 64), .inl (.int, 64), .inl (.object "PaneSpots$Hold", 4), .inr 2, .inl (.int, 12), .inl (.int, 8), .inl (.int, 8), .inr 2] : List hm_Sh)) (List.append_assoc _ _ _) hB (Nat.lt_of_le_of_lt (Nat.add_le_add_left (Nat.le_of_ble_eq_true rfl : 63 ≤ 75) l.length) h9) nw_X11_23 dX11_init_112 (by decide) (by decide) (List.forall_mem_cons.mpr ⟨(hm_le_int), (List.forall_mem_cons.mpr ⟨(hm_le_ref (hm_lea hv0.2 62)), (fun _ h => nomatch h)⟩)⟩) (List.forall_mem_cons.mpr ⟨(hm_le_int), (List.forall_mem_cons.mpr ⟨(hm_le_ref (hm_leb l.length (Nat.le_of_ble_eq_true rfl : 58 ≤ 62))), (fun _ h => nomatch h)⟩)⟩) (fun X hA => ?_)
  have hB : hm_MB M39 (l.length + 63) := hB.mono (Nat.le_succ _)
  have hC := hA.1
  have hI := hI0.ext hA.2.1
  refine jv_nf 115 [.ref (l.length + 63), .int (1 : Int32), .ref (l.length + 58)] rfl rfl ?_
  refine jv_dup hC dX11_init_115 rfl ?_
  obtain ⟨M44, c43, hF⟩ := hv_some hF
  refine jv_callIW hA (l.length + 63) List.length_append (l ++ ([.inr 5, .inr 7, .inl (.byte, 1000), .inr 0, .inl (.long, 6), .inl (.int, 6), .inl (.int, 6), .inl (.int, 12), .inl (.int, 12), .inl (.int, 12), .inl (.int, 12), .inr 3, .inl (.int, 1000), .inl (.int, 4), .inl (.int, 4), .inl (.int, 32), .inl (.int, 7), .inr 4, .inr 0, .inl (.long, 6), .inl (.int, 6), .inl (.int, 6), .inl (.int, 12), .inl (.int, 12), .inl (.int, 12), .inl (.int, 12), .inr 3, .inl (.int, 1000), .inl (.int, 4), .inl (.int, 4), .inl (.int, 32), .inl (.int, 7), .inl (.int, 12), .inl (.long, 2496), .inr 2, .inl (.int, 12), .inl (.int, 8), .inl (.int, 8), .inr 1, .inl (.int, 20), .inl (.int, 20), .inr 6, .inl (.int, 204), .inl (.int, 16), .inl (.int, 6), .inr 8, .inl (.int, 144), .inl (.int, 4096), .inl (.int, 12), .inr 10, .inl (.long, 24), .inl (.int, 1536), .inl (.int, 24), .inr 9, .inl (.int, 64), .inl (.int, 64), .inl (.int, 64), .inl (.object "PaneSpots$Hold", 4), .inr 2, .inl (.int, 12), .inl (.int, 8), .inl (.int, 8), .inr 2, .inl (.int, 12), .inl (.int, 8), .inl (.int, 8)] : List hm_Sh)) (List.append_assoc _ _ _) (kA_Hold_init (hm_sl_new rfl) (by rw [List.length_append]; exact hB) (hm_l9 h9 (Nat.le_of_ble_eq_true rfl)) c43) mm_Hold_init ni_Hold_init rfl ml_X11_25 dX11_init_116 (Nat.le_of_ble_eq_true rfl) rfl rfl (Nat.le_of_ble_eq_true rfl) (by decide) (by decide) (List.forall_mem_cons.mpr ⟨(hm_le_int), (List.forall_mem_cons.mpr ⟨(hm_le_ref (hm_lea hv0.2 63)), (fun _ h => nomatch h)⟩)⟩) (List.forall_mem_cons.mpr ⟨(hm_le_ref (hm_leb l.length (Nat.le_of_ble_eq_true rfl : 63 ≤ 63))), (List.forall_mem_cons.mpr ⟨(hm_le_int), (List.forall_mem_cons.mpr ⟨(hm_le_ref (hm_leb l.length (Nat.le_of_ble_eq_true rfl : 58 ≤ 63))), (fun _ h => nomatch h)⟩)⟩)⟩) (fun X hA => ?_)
  have hB : hm_MB M44 (l.length + 66) := by have h := mB_Hold_init (hm_sl_new rfl) (by rw [List.length_append]; exact hB) (hm_l9 h9 (Nat.le_of_ble_eq_true rfl)) c43; rw [List.length_append, List.length_append] at h; exact h
  have hC := hA.1
  have hI := hI0.ext hA.2.1
  refine jv_nf 119 [.ref (l.length + 63), .int (1 : Int32), .ref (l.length + 58)] rfl rfl ?_
  refine jv_aastore hC dX11_init_119 (hm_sl_new rfl) (hm_sl_new rfl) (vi_1 (by decide)) ?_
  obtain ⟨M45, e46, hF⟩ := hl_some hF
  refine jv_mem e46 ?_
  have hB : hm_MB M45 (l.length + 66) := by rw [e46]; exact hB.wR (hm_leb l.length (Nat.le_of_ble_eq_true rfl : 58 ≤ 66)) (hm_leb l.length (Nat.le_of_ble_eq_true rfl : 63 ≤ 66))
  refine jv_iinc hC 0 [(1, .int (2 : Int32)), (0, .ref v0)] dX11_init_120 rfl c32_1 (by decide) rfl ?_
  refine jv_goto hC 102 dX11_init_123 (by decide) ?_
  refine jv_iload_n hC 0 dX11_init_102 rfl ?_
  refine jv_iconst hC dX11_init_103 c32_4 ?_
  refine jv_icmp_ge hC 126 dX11_init_104 (by decide) (fun h => absurd h (by decide)) (fun _ => ?_)
  refine jv_aload_n hC 1 dX11_init_107 rfl ?_
  obtain ⟨g47, hF⟩ := hg_some hF
  obtain ⟨g48, hF⟩ := hg_some hF
  refine jv_getR hC fl_X11_65 dX11_init_108 rfl (hm_sl_app h0) g47 ?_
  refine jv_topR g48.symm ?_
  refine jv_pc 111 rfl ?_
  refine jv_iload_n hC 0 dX11_init_111 rfl ?_
  refine jv_newobjW hA (l.length + 66) List.length_append (l ++ ([.inr 5, .inr 7, .inl (.byte, 1000), .inr 0, .inl (.long, 6), .inl (.int, 6), .inl (.int, 6), .inl (.int, 12), .inl (.int, 12), .inl (.int, 12), .inl (.int, 12), .inr 3, .inl (.int, 1000), .inl (.int, 4), .inl (.int, 4), .inl (.int, 32), .inl (.int, 7), .inr 4, .inr 0, .inl (.long, 6), .inl (.int, 6), .inl (.int, 6), .inl (.int, 12), .inl (.int, 12), .inl (.int, 12), .inl (.int, 12), .inr 3, .inl (.int, 1000), .inl (.int, 4), .inl (.int, 4), .inl (.int, 32), .inl (.int, 7), .inl (.int, 12), .inl (.long, 2496), .inr 2, .inl (.int, 12), .inl (.int, 8), .inl (.int, 8), .inr 1, .inl (.int, 20), .inl (.int, 20), .inr 6, .inl (.int, 204), .inl (.int, 16), .inl (.int, 6), .inr 8, .inl (.int, 144), .inl (.int, 4096), .inl (.int, 12), .inr 10, .inl (.long, 24), .inl (.int, 1536), .inl (.int, 24), .inr 9, .inl (.int, 64), .inl (.int, 64), .inl (.int, 64), .inl (.object "PaneSpots$Hold", 4), .inr 2, .inl (.int, 12), .inl (.int, 8), .inl (.int, 8), .inr 2, .inl (.int, 12), .inl (.int, 8), .inl (.int, 8), .inr 2] : List hm_Sh)) (List.append_assoc _ _ _) hB (Nat.lt_of_le_of_lt (Nat.add_le_add_left (Nat.le_of_ble_eq_true rfl : 67 ≤ 75) l.length) h9) nw_X11_23 dX11_init_112 (by decide) (by decide) (List.forall_mem_cons.mpr ⟨(hm_le_int), (List.forall_mem_cons.mpr ⟨(hm_le_ref (hm_lea hv0.2 66)), (fun _ h => nomatch h)⟩)⟩) (List.forall_mem_cons.mpr ⟨(hm_le_int), (List.forall_mem_cons.mpr ⟨(hm_le_ref (hm_leb l.length (Nat.le_of_ble_eq_true rfl : 58 ≤ 66))), (fun _ h => nomatch h)⟩)⟩) (fun X hA => ?_)
  have hB : hm_MB M45 (l.length + 67) := hB.mono (Nat.le_succ _)
  have hC := hA.1
  have hI := hI0.ext hA.2.1
  refine jv_nf 115 [.ref (l.length + 67), .int (2 : Int32), .ref (l.length + 58)] rfl rfl ?_
  refine jv_dup hC dX11_init_115 rfl ?_
  obtain ⟨M50, c49, hF⟩ := hv_some hF
  refine jv_callIW hA (l.length + 67) List.length_append (l ++ ([.inr 5, .inr 7, .inl (.byte, 1000), .inr 0, .inl (.long, 6), .inl (.int, 6), .inl (.int, 6), .inl (.int, 12), .inl (.int, 12), .inl (.int, 12), .inl (.int, 12), .inr 3, .inl (.int, 1000), .inl (.int, 4), .inl (.int, 4), .inl (.int, 32), .inl (.int, 7), .inr 4, .inr 0, .inl (.long, 6), .inl (.int, 6), .inl (.int, 6), .inl (.int, 12), .inl (.int, 12), .inl (.int, 12), .inl (.int, 12), .inr 3, .inl (.int, 1000), .inl (.int, 4), .inl (.int, 4), .inl (.int, 32), .inl (.int, 7), .inl (.int, 12), .inl (.long, 2496), .inr 2, .inl (.int, 12), .inl (.int, 8), .inl (.int, 8), .inr 1, .inl (.int, 20), .inl (.int, 20), .inr 6, .inl (.int, 204), .inl (.int, 16), .inl (.int, 6), .inr 8, .inl (.int, 144), .inl (.int, 4096), .inl (.int, 12), .inr 10, .inl (.long, 24), .inl (.int, 1536), .inl (.int, 24), .inr 9, .inl (.int, 64), .inl (.int, 64), .inl (.int, 64), .inl (.object "PaneSpots$Hold", 4), .inr 2, .inl (.int, 12), .inl (.int, 8), .inl (.int, 8), .inr 2, .inl (.int, 12), .inl (.int, 8), .inl (.int, 8), .inr 2, .inl (.int, 12), .inl (.int, 8), .inl (.int, 8)] : List hm_Sh)) (List.append_assoc _ _ _) (kA_Hold_init (hm_sl_new rfl) (by rw [List.length_append]; exact hB) (hm_l9 h9 (Nat.le_of_ble_eq_true rfl)) c49) mm_Hold_init ni_Hold_init rfl ml_X11_25 dX11_init_116 (Nat.le_of_ble_eq_true rfl) rfl rfl (Nat.le_of_ble_eq_true rfl) (by decide) (by decide) (List.forall_mem_cons.mpr ⟨(hm_le_int), (List.forall_mem_cons.mpr ⟨(hm_le_ref (hm_lea hv0.2 67)), (fun _ h => nomatch h)⟩)⟩) (List.forall_mem_cons.mpr ⟨(hm_le_ref (hm_leb l.length (Nat.le_of_ble_eq_true rfl : 67 ≤ 67))), (List.forall_mem_cons.mpr ⟨(hm_le_int), (List.forall_mem_cons.mpr ⟨(hm_le_ref (hm_leb l.length (Nat.le_of_ble_eq_true rfl : 58 ≤ 67))), (fun _ h => nomatch h)⟩)⟩)⟩) (fun X hA => ?_)
  have hB : hm_MB M50 (l.length + 70) := by have h := mB_Hold_init (hm_sl_new rfl) (by rw [List.length_append]; exact hB) (hm_l9 h9 (Nat.le_of_ble_eq_true rfl)) c49; rw [List.length_append, List.length_append] at h; exact h
  have hC := hA.1
  have hI := hI0.ext hA.2.1
  refine jv_nf 119 [.ref (l.length + 67), .int (2 : Int32), .ref (l.length + 58)] rfl rfl ?_
  refine jv_aastore hC dX11_init_119 (hm_sl_new rfl) (hm_sl_new rfl) (vi_2 (by decide)) ?_
  obtain ⟨M51, e52, hF⟩ := hl_some hF
  refine jv_mem e52 ?_
  have hB : hm_MB M51 (l.length + 70) := by rw [e52]; exact hB.wR (hm_leb l.length (Nat.le_of_ble_eq_true rfl : 58 ≤ 70)) (hm_leb l.length (Nat.le_of_ble_eq_true rfl : 67 ≤ 70))
  refine jv_iinc hC 0 [(1, .int (3 : Int32)), (0, .ref v0)] dX11_init_120 rfl c32_1 (by decide) rfl ?_
  refine jv_goto hC 102 dX11_init_123 (by decide) ?_
  refine jv_iload_n hC 0 dX11_init_102 rfl ?_
  refine jv_iconst hC dX11_init_103 c32_4 ?_
  refine jv_icmp_ge hC 126 dX11_init_104 (by decide) (fun h => absurd h (by decide)) (fun _ => ?_)
  refine jv_aload_n hC 1 dX11_init_107 rfl ?_
  obtain ⟨g53, hF⟩ := hg_some hF
  obtain ⟨g54, hF⟩ := hg_some hF
  refine jv_getR hC fl_X11_65 dX11_init_108 rfl (hm_sl_app h0) g53 ?_
  refine jv_topR g54.symm ?_
  refine jv_pc 111 rfl ?_
  refine jv_iload_n hC 0 dX11_init_111 rfl ?_
  refine jv_newobjW hA (l.length + 70) List.length_append (l ++ ([.inr 5, .inr 7, .inl (.byte, 1000), .inr 0, .inl (.long, 6), .inl (.int, 6), .inl (.int, 6), .inl (.int, 12), .inl (.int, 12), .inl (.int, 12), .inl (.int, 12), .inr 3, .inl (.int, 1000), .inl (.int, 4), .inl (.int, 4), .inl (.int, 32), .inl (.int, 7), .inr 4, .inr 0, .inl (.long, 6), .inl (.int, 6), .inl (.int, 6), .inl (.int, 12), .inl (.int, 12), .inl (.int, 12), .inl (.int, 12), .inr 3, .inl (.int, 1000), .inl (.int, 4), .inl (.int, 4), .inl (.int, 32), .inl (.int, 7), .inl (.int, 12), .inl (.long, 2496), .inr 2, .inl (.int, 12), .inl (.int, 8), .inl (.int, 8), .inr 1, .inl (.int, 20), .inl (.int, 20), .inr 6, .inl (.int, 204), .inl (.int, 16), .inl (.int, 6), .inr 8, .inl (.int, 144), .inl (.int, 4096), .inl (.int, 12), .inr 10, .inl (.long, 24), .inl (.int, 1536), .inl (.int, 24), .inr 9, .inl (.int, 64), .inl (.int, 64), .inl (.int, 64), .inl (.object "PaneSpots$Hold", 4), .inr 2, .inl (.int, 12), .inl (.int, 8), .inl (.int, 8), .inr 2, .inl (.int, 12), .inl (.int, 8), .inl (.int, 8), .inr 2, .inl (.int, 12), .inl (.int, 8), .inl (.int, 8), .inr 2] : List hm_Sh)) (List.append_assoc _ _ _) hB (Nat.lt_of_le_of_lt (Nat.add_le_add_left (Nat.le_of_ble_eq_true rfl : 71 ≤ 75) l.length) h9) nw_X11_23 dX11_init_112 (by decide) (by decide) (List.forall_mem_cons.mpr ⟨(hm_le_int), (List.forall_mem_cons.mpr ⟨(hm_le_ref (hm_lea hv0.2 70)), (fun _ h => nomatch h)⟩)⟩) (List.forall_mem_cons.mpr ⟨(hm_le_int), (List.forall_mem_cons.mpr ⟨(hm_le_ref (hm_leb l.length (Nat.le_of_ble_eq_true rfl : 58 ≤ 70))), (fun _ h => nomatch h)⟩)⟩) (fun X hA => ?_)
  have hB : hm_MB M51 (l.length + 71) := hB.mono (Nat.le_succ _)
  have hC := hA.1
  have hI := hI0.ext hA.2.1
  refine jv_nf 115 [.ref (l.length + 71), .int (3 : Int32), .ref (l.length + 58)] rfl rfl ?_
  refine jv_dup hC dX11_init_115 rfl ?_
  obtain ⟨M56, c55, hF⟩ := hv_some hF
  refine jv_callIW hA (l.length + 71) List.length_append (l ++ ([.inr 5, .inr 7, .inl (.byte, 1000), .inr 0, .inl (.long, 6), .inl (.int, 6), .inl (.int, 6), .inl (.int, 12), .inl (.int, 12), .inl (.int, 12), .inl (.int, 12), .inr 3, .inl (.int, 1000), .inl (.int, 4), .inl (.int, 4), .inl (.int, 32), .inl (.int, 7), .inr 4, .inr 0, .inl (.long, 6), .inl (.int, 6), .inl (.int, 6), .inl (.int, 12), .inl (.int, 12), .inl (.int, 12), .inl (.int, 12), .inr 3, .inl (.int, 1000), .inl (.int, 4), .inl (.int, 4), .inl (.int, 32), .inl (.int, 7), .inl (.int, 12), .inl (.long, 2496), .inr 2, .inl (.int, 12), .inl (.int, 8), .inl (.int, 8), .inr 1, .inl (.int, 20), .inl (.int, 20), .inr 6, .inl (.int, 204), .inl (.int, 16), .inl (.int, 6), .inr 8, .inl (.int, 144), .inl (.int, 4096), .inl (.int, 12), .inr 10, .inl (.long, 24), .inl (.int, 1536), .inl (.int, 24), .inr 9, .inl (.int, 64), .inl (.int, 64), .inl (.int, 64), .inl (.object "PaneSpots$Hold", 4), .inr 2, .inl (.int, 12), .inl (.int, 8), .inl (.int, 8), .inr 2, .inl (.int, 12), .inl (.int, 8), .inl (.int, 8), .inr 2, .inl (.int, 12), .inl (.int, 8), .inl (.int, 8), .inr 2, .inl (.int, 12), .inl (.int, 8), .inl (.int, 8)] : List hm_Sh)) (List.append_assoc _ _ _) (kA_Hold_init (hm_sl_new rfl) (by rw [List.length_append]; exact hB) (hm_l9 h9 (Nat.le_of_ble_eq_true rfl)) c55) mm_Hold_init ni_Hold_init rfl ml_X11_25 dX11_init_116 (Nat.le_of_ble_eq_true rfl) rfl rfl (Nat.le_of_ble_eq_true rfl) (by decide) (by decide) (List.forall_mem_cons.mpr ⟨(hm_le_int), (List.forall_mem_cons.mpr ⟨(hm_le_ref (hm_lea hv0.2 71)), (fun _ h => nomatch h)⟩)⟩) (List.forall_mem_cons.mpr ⟨(hm_le_ref (hm_leb l.length (Nat.le_of_ble_eq_true rfl : 71 ≤ 71))), (List.forall_mem_cons.mpr ⟨(hm_le_int), (List.forall_mem_cons.mpr ⟨(hm_le_ref (hm_leb l.length (Nat.le_of_ble_eq_true rfl : 58 ≤ 71))), (fun _ h => nomatch h)⟩)⟩)⟩) (fun X hA => ?_)
  have hB : hm_MB M56 (l.length + 74) := by have h := mB_Hold_init (hm_sl_new rfl) (by rw [List.length_append]; exact hB) (hm_l9 h9 (Nat.le_of_ble_eq_true rfl)) c55; rw [List.length_append, List.length_append] at h; exact h
  have hC := hA.1
  have hI := hI0.ext hA.2.1
  refine jv_nf 119 [.ref (l.length + 71), .int (3 : Int32), .ref (l.length + 58)] rfl rfl ?_
  refine jv_aastore hC dX11_init_119 (hm_sl_new rfl) (hm_sl_new rfl) (vi_3 (by decide)) ?_
  obtain ⟨M57, e58, hF⟩ := hl_some hF
  refine jv_mem e58 ?_
  have hB : hm_MB M57 (l.length + 74) := by rw [e58]; exact hB.wR (hm_leb l.length (Nat.le_of_ble_eq_true rfl : 58 ≤ 74)) (hm_leb l.length (Nat.le_of_ble_eq_true rfl : 71 ≤ 74))
  refine jv_iinc hC 0 [(1, .int (4 : Int32)), (0, .ref v0)] dX11_init_120 rfl c32_1 (by decide) rfl ?_
  refine jv_goto hC 102 dX11_init_123 (by decide) ?_
  refine jv_iload_n hC 0 dX11_init_102 rfl ?_
  refine jv_iconst hC dX11_init_103 c32_4 ?_
  refine jv_icmp_ge hC 126 dX11_init_104 (by decide) (fun _ => ?_) (fun h => absurd (by decide) h)
  refine jv_aload_n hC 1 dX11_init_126 rfl ?_
  refine jv_iconst hC dX11_init_127 c32_0 ?_
  refine jv_putI hC fl_X11_69 dX11_init_128 rfl rfl rfl (hm_sl_app h0) ?_
  obtain ⟨M59, e60, hF⟩ := hl_some hF
  refine jv_mem e60 ?_
  have hB : hm_MB M59 (l.length + 74) := by rw [e60]; exact hB.wI (hm_lea hv0.2 74)
  obtain rfl := hr_somev hF
  exact jv_vretA hA (by decide) (by decide) dX11_init_131
set_option maxRecDepth 100000 in
set_option maxHeartbeats 4000000 in
theorem mB_Ps_init {l : List hm_Sh} {v0 : Nat} {M M' : hm_M} (h0 : hm_sl l v0 = some (.inr 11)) (hB : hm_MB M l.length) (h9 : l.length + 75 < 900000) (hF : g_Ps_init l v0 M = some M') : hm_MB M' (l ++ ([.inr 5, .inr 7, .inl (.byte, 1000), .inr 0, .inl (.long, 6), .inl (.int, 6), .inl (.int, 6), .inl (.int, 12), .inl (.int, 12), .inl (.int, 12), .inl (.int, 12), .inr 3, .inl (.int, 1000), .inl (.int, 4), .inl (.int, 4), .inl (.int, 32), .inl (.int, 7), .inr 4, .inr 0, .inl (.long, 6), .inl (.int, 6), .inl (.int, 6), .inl (.int, 12), .inl (.int, 12), .inl (.int, 12), .inl (.int, 12), .inr 3, .inl (.int, 1000), .inl (.int, 4), .inl (.int, 4), .inl (.int, 32), .inl (.int, 7), .inl (.int, 12), .inl (.long, 2496), .inr 2, .inl (.int, 12), .inl (.int, 8), .inl (.int, 8), .inr 1, .inl (.int, 20), .inl (.int, 20), .inr 6, .inl (.int, 204), .inl (.int, 16), .inl (.int, 6), .inr 8, .inl (.int, 144), .inl (.int, 4096), .inl (.int, 12), .inr 10, .inl (.long, 24), .inl (.int, 1536), .inl (.int, 24), .inr 9, .inl (.int, 64), .inl (.int, 64), .inl (.int, 64), .inl (.object "PaneSpots$Hold", 4), .inr 2, .inl (.int, 12), .inl (.int, 8), .inl (.int, 8), .inr 2, .inl (.int, 12), .inl (.int, 8), .inl (.int, 8), .inr 2, .inl (.int, 12), .inl (.int, 8), .inl (.int, 8), .inr 2, .inl (.int, 12), .inl (.int, 8), .inl (.int, 8)] : List hm_Sh)).length := by
  have hv0 := (hm_sl_rng _ _ h0)
  unfold g_Ps_init at hF
  have hB : hm_MB M (l.length + 1) := hB.mono (Nat.le_succ _)
  obtain ⟨M2, c1, hF⟩ := hv_some hF
  have hB : hm_MB M2 (l.length + 17) := by have h := mB_Reader_init (hm_sl_new rfl) (by rw [List.length_append]; exact hB) (hm_l9 h9 (Nat.le_of_ble_eq_true rfl)) c1; rw [List.length_append, List.length_append] at h; exact h
  obtain ⟨M3, e4, hF⟩ := hl_some hF
  have hB : hm_MB M3 (l.length + 17) := by rw [e4]; exact hB.wR (hm_lea hv0.2 17) (hm_leb l.length (Nat.le_of_ble_eq_true rfl : 1 ≤ 17))
  have hB : hm_MB M3 (l.length + 18) := hB.mono (Nat.le_succ _)
  obtain ⟨M6, c5, hF⟩ := hv_some hF
  have hB : hm_MB M6 (l.length + 34) := by have h := mB_Light_init (hm_sl_new rfl) (by rw [List.length_append]; exact hB) (hm_l9 h9 (Nat.le_of_ble_eq_true rfl)) c5; rw [List.length_append, List.length_append] at h; exact h
  obtain ⟨M7, e8, hF⟩ := hl_some hF
  have hB : hm_MB M7 (l.length + 34) := by rw [e8]; exact hB.wR (hm_lea hv0.2 34) (hm_leb l.length (Nat.le_of_ble_eq_true rfl : 18 ≤ 34))
  have hB : hm_MB M7 (l.length + 35) := hB.mono (Nat.le_succ _)
  obtain ⟨M10, c9, hF⟩ := hv_some hF
  have hB : hm_MB M10 (l.length + 38) := by have h := mB_Hold_init (hm_sl_new rfl) (by rw [List.length_append]; exact hB) (hm_l9 h9 (Nat.le_of_ble_eq_true rfl)) c9; rw [List.length_append, List.length_append] at h; exact h
  obtain ⟨M11, e12, hF⟩ := hl_some hF
  have hB : hm_MB M11 (l.length + 38) := by rw [e12]; exact hB.wR (hm_lea hv0.2 38) (hm_leb l.length (Nat.le_of_ble_eq_true rfl : 35 ≤ 38))
  have hB : hm_MB M11 (l.length + 39) := hB.mono (Nat.le_succ _)
  obtain ⟨M14, c13, hF⟩ := hv_some hF
  have hB : hm_MB M14 (l.length + 41) := by have h := mB_History_init (hm_sl_new rfl) (by rw [List.length_append]; exact hB) (hm_l9 h9 (Nat.le_of_ble_eq_true rfl)) c13; rw [List.length_append, List.length_append] at h; exact h
  obtain ⟨M15, e16, hF⟩ := hl_some hF
  have hB : hm_MB M15 (l.length + 41) := by rw [e16]; exact hB.wR (hm_lea hv0.2 41) (hm_leb l.length (Nat.le_of_ble_eq_true rfl : 39 ≤ 41))
  have hB : hm_MB M15 (l.length + 42) := hB.mono (Nat.le_succ _)
  obtain ⟨M18, c17, hF⟩ := hv_some hF
  have hB : hm_MB M18 (l.length + 45) := by have h := mB_Rents_init (hm_sl_new rfl) (by rw [List.length_append]; exact hB) (hm_l9 h9 (Nat.le_of_ble_eq_true rfl)) c17; rw [List.length_append, List.length_append] at h; exact h
  obtain ⟨M19, e20, hF⟩ := hl_some hF
  have hB : hm_MB M19 (l.length + 45) := by rw [e20]; exact hB.wR (hm_lea hv0.2 45) (hm_leb l.length (Nat.le_of_ble_eq_true rfl : 42 ≤ 45))
  have hB : hm_MB M19 (l.length + 46) := hB.mono (Nat.le_succ _)
  obtain ⟨M22, c21, hF⟩ := hv_some hF
  have hB : hm_MB M22 (l.length + 49) := by have h := mB_Trade_init (hm_sl_new rfl) (by rw [List.length_append]; exact hB) (hm_l9 h9 (Nat.le_of_ble_eq_true rfl)) c21; rw [List.length_append, List.length_append] at h; exact h
  obtain ⟨M23, e24, hF⟩ := hl_some hF
  have hB : hm_MB M23 (l.length + 49) := by rw [e24]; exact hB.wR (hm_lea hv0.2 49) (hm_leb l.length (Nat.le_of_ble_eq_true rfl : 46 ≤ 49))
  have hB : hm_MB M23 (l.length + 50) := hB.mono (Nat.le_succ _)
  obtain ⟨M26, c25, hF⟩ := hv_some hF
  have hB : hm_MB M26 (l.length + 53) := by have h := mB_Way_init (hm_sl_new rfl) (by rw [List.length_append]; exact hB) (hm_l9 h9 (Nat.le_of_ble_eq_true rfl)) c25; rw [List.length_append, List.length_append] at h; exact h
  obtain ⟨M27, e28, hF⟩ := hl_some hF
  have hB : hm_MB M27 (l.length + 53) := by rw [e28]; exact hB.wR (hm_lea hv0.2 53) (hm_leb l.length (Nat.le_of_ble_eq_true rfl : 50 ≤ 53))
  have hB : hm_MB M27 (l.length + 54) := hB.mono (Nat.le_succ _)
  obtain ⟨M30, c29, hF⟩ := hv_some hF
  have hB : hm_MB M30 (l.length + 57) := by have h := mB_Walk_init (hm_sl_new rfl) (by rw [List.length_append]; exact hB) (hm_l9 h9 (Nat.le_of_ble_eq_true rfl)) c29; rw [List.length_append, List.length_append] at h; exact h
  obtain ⟨M31, e32, hF⟩ := hl_some hF
  have hB : hm_MB M31 (l.length + 57) := by rw [e32]; exact hB.wR (hm_lea hv0.2 57) (hm_leb l.length (Nat.le_of_ble_eq_true rfl : 54 ≤ 57))
  have hB : hm_MB M31 (l.length + 58) := hB.mono (Nat.le_succ _)
  obtain ⟨M33, e34, hF⟩ := hl_some hF
  have hB : hm_MB M33 (l.length + 58) := by rw [e34]; exact hB.wR (hm_lea hv0.2 58) (hm_leb l.length (Nat.le_of_ble_eq_true rfl : 58 ≤ 58))
  obtain ⟨g35, hF⟩ := hg_some hF
  obtain ⟨g36, hF⟩ := hg_some hF
  have hB : hm_MB M33 (l.length + 59) := hB.mono (Nat.le_succ _)
  obtain ⟨M38, c37, hF⟩ := hv_some hF
  have hB : hm_MB M38 (l.length + 62) := by have h := mB_Hold_init (hm_sl_new rfl) (by rw [List.length_append]; exact hB) (hm_l9 h9 (Nat.le_of_ble_eq_true rfl)) c37; rw [List.length_append, List.length_append] at h; exact h
  obtain ⟨M39, e40, hF⟩ := hl_some hF
  have hB : hm_MB M39 (l.length + 62) := by rw [e40]; exact hB.wR (hm_leb l.length (Nat.le_of_ble_eq_true rfl : 58 ≤ 62)) (hm_leb l.length (Nat.le_of_ble_eq_true rfl : 59 ≤ 62))
  obtain ⟨g41, hF⟩ := hg_some hF
  obtain ⟨g42, hF⟩ := hg_some hF
  have hB : hm_MB M39 (l.length + 63) := hB.mono (Nat.le_succ _)
  obtain ⟨M44, c43, hF⟩ := hv_some hF
  have hB : hm_MB M44 (l.length + 66) := by have h := mB_Hold_init (hm_sl_new rfl) (by rw [List.length_append]; exact hB) (hm_l9 h9 (Nat.le_of_ble_eq_true rfl)) c43; rw [List.length_append, List.length_append] at h; exact h
  obtain ⟨M45, e46, hF⟩ := hl_some hF
  have hB : hm_MB M45 (l.length + 66) := by rw [e46]; exact hB.wR (hm_leb l.length (Nat.le_of_ble_eq_true rfl : 58 ≤ 66)) (hm_leb l.length (Nat.le_of_ble_eq_true rfl : 63 ≤ 66))
  obtain ⟨g47, hF⟩ := hg_some hF
  obtain ⟨g48, hF⟩ := hg_some hF
  have hB : hm_MB M45 (l.length + 67) := hB.mono (Nat.le_succ _)
  obtain ⟨M50, c49, hF⟩ := hv_some hF
  have hB : hm_MB M50 (l.length + 70) := by have h := mB_Hold_init (hm_sl_new rfl) (by rw [List.length_append]; exact hB) (hm_l9 h9 (Nat.le_of_ble_eq_true rfl)) c49; rw [List.length_append, List.length_append] at h; exact h
  obtain ⟨M51, e52, hF⟩ := hl_some hF
  have hB : hm_MB M51 (l.length + 70) := by rw [e52]; exact hB.wR (hm_leb l.length (Nat.le_of_ble_eq_true rfl : 58 ≤ 70)) (hm_leb l.length (Nat.le_of_ble_eq_true rfl : 67 ≤ 70))
  obtain ⟨g53, hF⟩ := hg_some hF
  obtain ⟨g54, hF⟩ := hg_some hF
  have hB : hm_MB M51 (l.length + 71) := hB.mono (Nat.le_succ _)
  obtain ⟨M56, c55, hF⟩ := hv_some hF
  have hB : hm_MB M56 (l.length + 74) := by have h := mB_Hold_init (hm_sl_new rfl) (by rw [List.length_append]; exact hB) (hm_l9 h9 (Nat.le_of_ble_eq_true rfl)) c55; rw [List.length_append, List.length_append] at h; exact h
  obtain ⟨M57, e58, hF⟩ := hl_some hF
  have hB : hm_MB M57 (l.length + 74) := by rw [e58]; exact hB.wR (hm_leb l.length (Nat.le_of_ble_eq_true rfl : 58 ≤ 74)) (hm_leb l.length (Nat.le_of_ble_eq_true rfl : 71 ≤ 74))
  obtain ⟨M59, e60, hF⟩ := hl_some hF
  have hB : hm_MB M59 (l.length + 74) := by rw [e60]; exact hB.wI (hm_lea hv0.2 74)
  obtain rfl := hr_somev hF
  rw [List.length_append]; exact hB
set_option maxRecDepth 100000 in
set_option maxHeartbeats 4000000 in
theorem kA_Md_init {l : List hm_Sh} {v0 : Nat} {M M' : hm_M} (h0 : hm_sl l v0 = some (.inr 12)) (hB : hm_MB M l.length) (h9 : l.length + 23 < 900000) (hF : g_Md_init l v0 M = some M') : hm_KA yX12_init cX12_init 2 1 l (l ++ [.inl (.int, 1000), .inl (.int, 1002), .inl (.int, 1002), .inl (.long, 1002), .inl (.long, 22), .inl (.int, 160), .inl (.int, 2200), .inl (.int, 2200), .inl (.long, 6), .inl (.int, 7), .inl (.int, 1100), .inl (.int, 1000), .inl (.boolean, 4), .inl (.int, 12), .inl (.int, 12), .inl (.int, 12), .inl (.int, 12), .inl (.int, 6), .inl (.int, 1536), .inl (.int, 384), .inl (.int, 384), .inl (.int, 384)]) [.ref v0] M M' 22 13447 := by
  have hv0 := (hm_sl_rng _ _ h0)
  refine hm_enterA mm_Md_init rfl (Nat.le_of_ble_eq_true rfl) (fun X hI0 hA => ?_)
  have hC := hA.1
  have hI := hI0
  show hm_U X 0 [(0, .ref v0)] [] M _
  unfold g_Md_init at hF
  refine jv_aload_n hC 0 dX12_init_0 rfl ?_
  refine jv_objInit hC ol_X12_18 oi_inst oi_code dX12_init_1 (by decide) (Nat.le_of_ble_eq_true rfl) ?_
  refine jv_aload_n hC 0 dX12_init_4 rfl ?_
  refine jv_sipush hC dX12_init_5 c16_1000 ?_
  refine jv_newarrW hA l.length rfl (l ++ ([.inl (.int, 1000)] : List hm_Sh)) (rfl) hB (Nat.lt_of_le_of_lt (Nat.add_le_add_left (Nat.le_of_ble_eq_true rfl : 1 ≤ 23) l.length) h9) dX12_init_8 rfl (Or.inl rfl) ac_int (by decide) (by decide) (by decide) (by decide) (by decide) (List.forall_mem_cons.mpr ⟨(hm_le_ref hv0.2), (fun _ h => nomatch h)⟩) (List.forall_mem_cons.mpr ⟨(hm_le_ref hv0.2), (fun _ h => nomatch h)⟩) (fun X hA => ?_)
  have hB : hm_MB M (l.length + 1) := hB.mono (Nat.le_succ _)
  have hC := hA.1
  have hI := hI0.ext hA.2.1
  refine jv_nf 10 [.ref (l.length + 1), .ref v0] rfl rfl ?_
  refine jv_putRF hC fl_X12_14 ow_12 hI dX12_init_10 rfl (hm_sl_app h0) (Nat.succ_ne_zero _) ?_
  obtain ⟨M1, e2, hF⟩ := hl_some hF
  refine jv_mem e2 ?_
  have hB : hm_MB M1 (l.length + 1) := by rw [e2]; exact hB.wR (hm_lea hv0.2 1) (hm_leb l.length (Nat.le_of_ble_eq_true rfl : 1 ≤ 1))
  refine jv_aload_n hC 0 dX12_init_13 rfl ?_
  refine jv_sipush hC dX12_init_14 c16_1002 ?_
  refine jv_newarrW hA (l.length + 1) List.length_append (l ++ ([.inl (.int, 1000), .inl (.int, 1002)] : List hm_Sh)) (List.append_assoc _ _ _) hB (Nat.lt_of_le_of_lt (Nat.add_le_add_left (Nat.le_of_ble_eq_true rfl : 2 ≤ 23) l.length) h9) dX12_init_17 rfl (Or.inl rfl) ac_int (by decide) (by decide) (by decide) (by decide) (by decide) (List.forall_mem_cons.mpr ⟨(hm_le_ref (hm_lea hv0.2 1)), (fun _ h => nomatch h)⟩) (List.forall_mem_cons.mpr ⟨(hm_le_ref (hm_lea hv0.2 1)), (fun _ h => nomatch h)⟩) (fun X hA => ?_)
  have hB : hm_MB M1 (l.length + 2) := hB.mono (Nat.le_succ _)
  have hC := hA.1
  have hI := hI0.ext hA.2.1
  refine jv_nf 19 [.ref (l.length + 2), .ref v0] rfl rfl ?_
  refine jv_putRF hC fl_X12_24 ow_12 hI dX12_init_19 rfl (hm_sl_app h0) (Nat.succ_ne_zero _) ?_
  obtain ⟨M3, e4, hF⟩ := hl_some hF
  refine jv_mem e4 ?_
  have hB : hm_MB M3 (l.length + 2) := by rw [e4]; exact hB.wR (hm_lea hv0.2 2) (hm_leb l.length (Nat.le_of_ble_eq_true rfl : 2 ≤ 2))
  refine jv_aload_n hC 0 dX12_init_22 rfl ?_
  refine jv_sipush hC dX12_init_23 c16_1002 ?_
  refine jv_newarrW hA (l.length + 2) List.length_append (l ++ ([.inl (.int, 1000), .inl (.int, 1002), .inl (.int, 1002)] : List hm_Sh)) (List.append_assoc _ _ _) hB (Nat.lt_of_le_of_lt (Nat.add_le_add_left (Nat.le_of_ble_eq_true rfl : 3 ≤ 23) l.length) h9) dX12_init_26 rfl (Or.inl rfl) ac_int (by decide) (by decide) (by decide) (by decide) (by decide) (List.forall_mem_cons.mpr ⟨(hm_le_ref (hm_lea hv0.2 2)), (fun _ h => nomatch h)⟩) (List.forall_mem_cons.mpr ⟨(hm_le_ref (hm_lea hv0.2 2)), (fun _ h => nomatch h)⟩) (fun X hA => ?_)
  have hB : hm_MB M3 (l.length + 3) := hB.mono (Nat.le_succ _)
  have hC := hA.1
  have hI := hI0.ext hA.2.1
  refine jv_nf 28 [.ref (l.length + 3), .ref v0] rfl rfl ?_
  refine jv_putRF hC fl_X12_27 ow_12 hI dX12_init_28 rfl (hm_sl_app h0) (Nat.succ_ne_zero _) ?_
  obtain ⟨M5, e6, hF⟩ := hl_some hF
  refine jv_mem e6 ?_
  have hB : hm_MB M5 (l.length + 3) := by rw [e6]; exact hB.wR (hm_lea hv0.2 3) (hm_leb l.length (Nat.le_of_ble_eq_true rfl : 3 ≤ 3))
  refine jv_aload_n hC 0 dX12_init_31 rfl ?_
  refine jv_sipush hC dX12_init_32 c16_1002 ?_
  refine jv_newarrW hA (l.length + 3) List.length_append (l ++ ([.inl (.int, 1000), .inl (.int, 1002), .inl (.int, 1002), .inl (.long, 1002)] : List hm_Sh)) (List.append_assoc _ _ _) hB (Nat.lt_of_le_of_lt (Nat.add_le_add_left (Nat.le_of_ble_eq_true rfl : 4 ≤ 23) l.length) h9) dX12_init_35 rfl (Or.inr (Or.inl rfl)) ac_long (by decide) (by decide) (by decide) (by decide) (by decide) (List.forall_mem_cons.mpr ⟨(hm_le_ref (hm_lea hv0.2 3)), (fun _ h => nomatch h)⟩) (List.forall_mem_cons.mpr ⟨(hm_le_ref (hm_lea hv0.2 3)), (fun _ h => nomatch h)⟩) (fun X hA => ?_)
  have hB : hm_MB M5 (l.length + 4) := hB.mono (Nat.le_succ _)
  have hC := hA.1
  have hI := hI0.ext hA.2.1
  refine jv_nf 37 [.ref (l.length + 4), .ref v0] rfl rfl ?_
  refine jv_putRF hC fl_X12_30 ow_12 hI dX12_init_37 rfl (hm_sl_app h0) (Nat.succ_ne_zero _) ?_
  obtain ⟨M7, e8, hF⟩ := hl_some hF
  refine jv_mem e8 ?_
  have hB : hm_MB M7 (l.length + 4) := by rw [e8]; exact hB.wR (hm_lea hv0.2 4) (hm_leb l.length (Nat.le_of_ble_eq_true rfl : 4 ≤ 4))
  refine jv_aload_n hC 0 dX12_init_40 rfl ?_
  refine jv_bipush hC dX12_init_41 c8_22 ?_
  refine jv_newarrW hA (l.length + 4) List.length_append (l ++ ([.inl (.int, 1000), .inl (.int, 1002), .inl (.int, 1002), .inl (.long, 1002), .inl (.long, 22)] : List hm_Sh)) (List.append_assoc _ _ _) hB (Nat.lt_of_le_of_lt (Nat.add_le_add_left (Nat.le_of_ble_eq_true rfl : 5 ≤ 23) l.length) h9) dX12_init_43 rfl (Or.inr (Or.inl rfl)) ac_long (by decide) (by decide) (by decide) (by decide) (by decide) (List.forall_mem_cons.mpr ⟨(hm_le_ref (hm_lea hv0.2 4)), (fun _ h => nomatch h)⟩) (List.forall_mem_cons.mpr ⟨(hm_le_ref (hm_lea hv0.2 4)), (fun _ h => nomatch h)⟩) (fun X hA => ?_)
  have hB : hm_MB M7 (l.length + 5) := hB.mono (Nat.le_succ _)
  have hC := hA.1
  have hI := hI0.ext hA.2.1
  refine jv_nf 45 [.ref (l.length + 5), .ref v0] rfl rfl ?_
  refine jv_dup hC dX12_init_45 rfl ?_
  refine jv_iconst hC dX12_init_46 c32_0 ?_
  refine jv_ldc2 hC cl_X12_34 dX12_init_47 ?_
  refine jv_lastore hC dX12_init_50 (hm_sl_new rfl) (vi_0 (by decide)) ?_
  obtain ⟨M9, e10, hF⟩ := hl_some hF
  refine jv_mem e10 ?_
  have hB : hm_MB M9 (l.length + 5) := by rw [e10]; exact hB.wL (hm_leb l.length (Nat.le_of_ble_eq_true rfl : 5 ≤ 5))
  refine jv_dup hC dX12_init_51 rfl ?_
  refine jv_pc 52 rfl ?_
  refine jv_iconst hC dX12_init_52 c32_1 ?_
  refine jv_ldc2 hC cl_X12_36 dX12_init_53 ?_
  refine jv_lastore hC dX12_init_56 (hm_sl_new rfl) (vi_1 (by decide)) ?_
  obtain ⟨M11, e12, hF⟩ := hl_some hF
  refine jv_mem e12 ?_
  have hB : hm_MB M11 (l.length + 5) := by rw [e12]; exact hB.wL (hm_leb l.length (Nat.le_of_ble_eq_true rfl : 5 ≤ 5))
  refine jv_dup hC dX12_init_57 rfl ?_
  refine jv_iconst hC dX12_init_58 c32_2 ?_
  refine jv_ldc2 hC cl_X12_38 dX12_init_59 ?_
  refine jv_pc 62 rfl ?_
  refine jv_lastore hC dX12_init_62 (hm_sl_new rfl) (vi_2 (by decide)) ?_
  obtain ⟨M13, e14, hF⟩ := hl_some hF
  refine jv_mem e14 ?_
  have hB : hm_MB M13 (l.length + 5) := by rw [e14]; exact hB.wL (hm_leb l.length (Nat.le_of_ble_eq_true rfl : 5 ≤ 5))
  refine jv_dup hC dX12_init_63 rfl ?_
  refine jv_iconst hC dX12_init_64 c32_3 ?_
  refine jv_ldc2 hC cl_X12_40 dX12_init_65 ?_
  refine jv_lastore hC dX12_init_68 (hm_sl_new rfl) (vi_3 (by decide)) ?_
  obtain ⟨M15, e16, hF⟩ := hl_some hF
  refine jv_mem e16 ?_
  have hB : hm_MB M15 (l.length + 5) := by rw [e16]; exact hB.wL (hm_leb l.length (Nat.le_of_ble_eq_true rfl : 5 ≤ 5))
  refine jv_dup hC dX12_init_69 rfl ?_
  refine jv_pc 70 rfl ?_
  refine jv_iconst hC dX12_init_70 c32_4 ?_
  refine jv_ldc2 hC cl_X12_42 dX12_init_71 ?_
  refine jv_lastore hC dX12_init_74 (hm_sl_new rfl) (vi_4 (by decide)) ?_
  obtain ⟨M17, e18, hF⟩ := hl_some hF
  refine jv_mem e18 ?_
  have hB : hm_MB M17 (l.length + 5) := by rw [e18]; exact hB.wL (hm_leb l.length (Nat.le_of_ble_eq_true rfl : 5 ≤ 5))
  refine jv_dup hC dX12_init_75 rfl ?_
  refine jv_iconst hC dX12_init_76 c32_5 ?_
  refine jv_ldc2 hC cl_X12_44 dX12_init_77 ?_
  refine jv_pc 80 rfl ?_
  refine jv_lastore hC dX12_init_80 (hm_sl_new rfl) (vi_5 (by decide)) ?_
  obtain ⟨M19, e20, hF⟩ := hl_some hF
  refine jv_mem e20 ?_
  have hB : hm_MB M19 (l.length + 5) := by rw [e20]; exact hB.wL (hm_leb l.length (Nat.le_of_ble_eq_true rfl : 5 ≤ 5))
  refine jv_dup hC dX12_init_81 rfl ?_
  refine jv_bipush hC dX12_init_82 c8_6 ?_
  refine jv_ldc2 hC cl_X12_46 dX12_init_84 ?_
  refine jv_lastore hC dX12_init_87 (hm_sl_new rfl) (vi_6 (by decide)) ?_
  obtain ⟨M21, e22, hF⟩ := hl_some hF
  refine jv_mem e22 ?_
  have hB : hm_MB M21 (l.length + 5) := by rw [e22]; exact hB.wL (hm_leb l.length (Nat.le_of_ble_eq_true rfl : 5 ≤ 5))
  refine jv_dup hC dX12_init_88 rfl ?_
  refine jv_pc 89 rfl ?_
  refine jv_bipush hC dX12_init_89 c8_7 ?_
  refine jv_ldc2 hC cl_X12_48 dX12_init_91 ?_
  refine jv_lastore hC dX12_init_94 (hm_sl_new rfl) (vi_7 (by decide)) ?_
  obtain ⟨M23, e24, hF⟩ := hl_some hF
  refine jv_mem e24 ?_
  have hB : hm_MB M23 (l.length + 5) := by rw [e24]; exact hB.wL (hm_leb l.length (Nat.le_of_ble_eq_true rfl : 5 ≤ 5))
  refine jv_dup hC dX12_init_95 rfl ?_
  refine jv_bipush hC dX12_init_96 c8_8 ?_
  refine jv_ldc2 hC cl_X12_50 dX12_init_98 ?_
  refine jv_pc 101 rfl ?_
  refine jv_lastore hC dX12_init_101 (hm_sl_new rfl) (vi_8 (by decide)) ?_
  obtain ⟨M25, e26, hF⟩ := hl_some hF
  refine jv_mem e26 ?_
  have hB : hm_MB M25 (l.length + 5) := by rw [e26]; exact hB.wL (hm_leb l.length (Nat.le_of_ble_eq_true rfl : 5 ≤ 5))
  refine jv_dup hC dX12_init_102 rfl ?_
  refine jv_bipush hC dX12_init_103 c8_9 ?_
  refine jv_ldc2 hC cl_X12_52 dX12_init_105 ?_
  refine jv_lastore hC dX12_init_108 (hm_sl_new rfl) (vi_9 (by decide)) ?_
  obtain ⟨M27, e28, hF⟩ := hl_some hF
  refine jv_mem e28 ?_
  have hB : hm_MB M27 (l.length + 5) := by rw [e28]; exact hB.wL (hm_leb l.length (Nat.le_of_ble_eq_true rfl : 5 ≤ 5))
  refine jv_dup hC dX12_init_109 rfl ?_
  refine jv_pc 110 rfl ?_
  refine jv_bipush hC dX12_init_110 c8_10 ?_
  refine jv_ldc2 hC cl_X12_54 dX12_init_112 ?_
  refine jv_lastore hC dX12_init_115 (hm_sl_new rfl) (vi_10 (by decide)) ?_
  obtain ⟨M29, e30, hF⟩ := hl_some hF
  refine jv_mem e30 ?_
  have hB : hm_MB M29 (l.length + 5) := by rw [e30]; exact hB.wL (hm_leb l.length (Nat.le_of_ble_eq_true rfl : 5 ≤ 5))
  refine jv_dup hC dX12_init_116 rfl ?_
  refine jv_bipush hC dX12_init_117 c8_11 ?_
  refine jv_ldc2 hC cl_X12_56 dX12_init_119 ?_
  refine jv_pc 122 rfl ?_
  refine jv_lastore hC dX12_init_122 (hm_sl_new rfl) (vi_11 (by decide)) ?_
  obtain ⟨M31, e32, hF⟩ := hl_some hF
  refine jv_mem e32 ?_
  have hB : hm_MB M31 (l.length + 5) := by rw [e32]; exact hB.wL (hm_leb l.length (Nat.le_of_ble_eq_true rfl : 5 ≤ 5))
  refine jv_dup hC dX12_init_123 rfl ?_
  refine jv_bipush hC dX12_init_124 c8_12 ?_
  refine jv_ldc2 hC cl_X12_58 dX12_init_126 ?_
  refine jv_lastore hC dX12_init_129 (hm_sl_new rfl) (vi_12 (by decide)) ?_
  obtain ⟨M33, e34, hF⟩ := hl_some hF
  refine jv_mem e34 ?_
  have hB : hm_MB M33 (l.length + 5) := by rw [e34]; exact hB.wL (hm_leb l.length (Nat.le_of_ble_eq_true rfl : 5 ≤ 5))
  refine jv_dup hC dX12_init_130 rfl ?_
  refine jv_pc 131 rfl ?_
  refine jv_bipush hC dX12_init_131 c8_13 ?_
  refine jv_ldc2 hC cl_X12_60 dX12_init_133 ?_
  refine jv_lastore hC dX12_init_136 (hm_sl_new rfl) (vi_13 (by decide)) ?_
  obtain ⟨M35, e36, hF⟩ := hl_some hF
  refine jv_mem e36 ?_
  have hB : hm_MB M35 (l.length + 5) := by rw [e36]; exact hB.wL (hm_leb l.length (Nat.le_of_ble_eq_true rfl : 5 ≤ 5))
  refine jv_dup hC dX12_init_137 rfl ?_
  refine jv_bipush hC dX12_init_138 c8_14 ?_
  refine jv_ldc2 hC cl_X12_62 dX12_init_140 ?_
  refine jv_pc 143 rfl ?_
  refine jv_lastore hC dX12_init_143 (hm_sl_new rfl) (vi_14 (by decide)) ?_
  obtain ⟨M37, e38, hF⟩ := hl_some hF
  refine jv_mem e38 ?_
  have hB : hm_MB M37 (l.length + 5) := by rw [e38]; exact hB.wL (hm_leb l.length (Nat.le_of_ble_eq_true rfl : 5 ≤ 5))
  refine jv_dup hC dX12_init_144 rfl ?_
  refine jv_bipush hC dX12_init_145 c8_15 ?_
  refine jv_ldc2 hC cl_X12_64 dX12_init_147 ?_
  refine jv_lastore hC dX12_init_150 (hm_sl_new rfl) (vi_15 (by decide)) ?_
  obtain ⟨M39, e40, hF⟩ := hl_some hF
  refine jv_mem e40 ?_
  have hB : hm_MB M39 (l.length + 5) := by rw [e40]; exact hB.wL (hm_leb l.length (Nat.le_of_ble_eq_true rfl : 5 ≤ 5))
  refine jv_dup hC dX12_init_151 rfl ?_
  refine jv_pc 152 rfl ?_
  refine jv_bipush hC dX12_init_152 c8_16 ?_
  refine jv_ldc2 hC cl_X12_66 dX12_init_154 ?_
  refine jv_lastore hC dX12_init_157 (hm_sl_new rfl) (vi_16 (by decide)) ?_
  obtain ⟨M41, e42, hF⟩ := hl_some hF
  refine jv_mem e42 ?_
  have hB : hm_MB M41 (l.length + 5) := by rw [e42]; exact hB.wL (hm_leb l.length (Nat.le_of_ble_eq_true rfl : 5 ≤ 5))
  refine jv_dup hC dX12_init_158 rfl ?_
  refine jv_bipush hC dX12_init_159 c8_17 ?_
  refine jv_ldc2 hC cl_X12_68 dX12_init_161 ?_
  refine jv_pc 164 rfl ?_
  refine jv_lastore hC dX12_init_164 (hm_sl_new rfl) (vi_17 (by decide)) ?_
  obtain ⟨M43, e44, hF⟩ := hl_some hF
  refine jv_mem e44 ?_
  have hB : hm_MB M43 (l.length + 5) := by rw [e44]; exact hB.wL (hm_leb l.length (Nat.le_of_ble_eq_true rfl : 5 ≤ 5))
  refine jv_dup hC dX12_init_165 rfl ?_
  refine jv_bipush hC dX12_init_166 c8_18 ?_
  refine jv_ldc2 hC cl_X12_70 dX12_init_168 ?_
  refine jv_lastore hC dX12_init_171 (hm_sl_new rfl) (vi_18 (by decide)) ?_
  obtain ⟨M45, e46, hF⟩ := hl_some hF
  refine jv_mem e46 ?_
  have hB : hm_MB M45 (l.length + 5) := by rw [e46]; exact hB.wL (hm_leb l.length (Nat.le_of_ble_eq_true rfl : 5 ≤ 5))
  refine jv_dup hC dX12_init_172 rfl ?_
  refine jv_pc 173 rfl ?_
  refine jv_bipush hC dX12_init_173 c8_19 ?_
  refine jv_ldc2 hC cl_X12_72 dX12_init_175 ?_
  refine jv_lastore hC dX12_init_178 (hm_sl_new rfl) (vi_19 (by decide)) ?_
  obtain ⟨M47, e48, hF⟩ := hl_some hF
  refine jv_mem e48 ?_
  have hB : hm_MB M47 (l.length + 5) := by rw [e48]; exact hB.wL (hm_leb l.length (Nat.le_of_ble_eq_true rfl : 5 ≤ 5))
  refine jv_dup hC dX12_init_179 rfl ?_
  refine jv_bipush hC dX12_init_180 c8_20 ?_
  refine jv_ldc2 hC cl_X12_74 dX12_init_182 ?_
  refine jv_pc 185 rfl ?_
  refine jv_lastore hC dX12_init_185 (hm_sl_new rfl) (vi_20 (by decide)) ?_
  obtain ⟨M49, e50, hF⟩ := hl_some hF
  refine jv_mem e50 ?_
  have hB : hm_MB M49 (l.length + 5) := by rw [e50]; exact hB.wL (hm_leb l.length (Nat.le_of_ble_eq_true rfl : 5 ≤ 5))
  refine jv_dup hC dX12_init_186 rfl ?_
  refine jv_bipush hC dX12_init_187 c8_21 ?_
  refine jv_ldc2 hC cl_X12_76 dX12_init_189 ?_
  refine jv_lastore hC dX12_init_192 (hm_sl_new rfl) (vi_21 (by decide)) ?_
  obtain ⟨M51, e52, hF⟩ := hl_some hF
  refine jv_mem e52 ?_
  have hB : hm_MB M51 (l.length + 5) := by rw [e52]; exact hB.wL (hm_leb l.length (Nat.le_of_ble_eq_true rfl : 5 ≤ 5))
  refine jv_putRF hC fl_X12_78 ow_12 hI dX12_init_193 rfl (hm_sl_app h0) (Nat.succ_ne_zero _) ?_
  obtain ⟨M53, e54, hF⟩ := hl_some hF
  refine jv_mem e54 ?_
  have hB : hm_MB M53 (l.length + 5) := by rw [e54]; exact hB.wR (hm_lea hv0.2 5) (hm_leb l.length (Nat.le_of_ble_eq_true rfl : 5 ≤ 5))
  refine jv_pc 196 rfl ?_
  refine jv_aload_n hC 0 dX12_init_196 rfl ?_
  refine jv_sipush hC dX12_init_197 c16_160 ?_
  refine jv_newarrW hA (l.length + 5) List.length_append (l ++ ([.inl (.int, 1000), .inl (.int, 1002), .inl (.int, 1002), .inl (.long, 1002), .inl (.long, 22), .inl (.int, 160)] : List hm_Sh)) (List.append_assoc _ _ _) hB (Nat.lt_of_le_of_lt (Nat.add_le_add_left (Nat.le_of_ble_eq_true rfl : 6 ≤ 23) l.length) h9) dX12_init_200 rfl (Or.inl rfl) ac_int (by decide) (by decide) (by decide) (by decide) (by decide) (List.forall_mem_cons.mpr ⟨(hm_le_ref (hm_lea hv0.2 5)), (fun _ h => nomatch h)⟩) (List.forall_mem_cons.mpr ⟨(hm_le_ref (hm_lea hv0.2 5)), (fun _ h => nomatch h)⟩) (fun X hA => ?_)
  have hB : hm_MB M53 (l.length + 6) := hB.mono (Nat.le_succ _)
  have hC := hA.1
  have hI := hI0.ext hA.2.1
  refine jv_nf 202 [.ref (l.length + 6), .ref v0] rfl rfl ?_
  refine jv_putRF hC fl_X12_81 ow_12 hI dX12_init_202 rfl (hm_sl_app h0) (Nat.succ_ne_zero _) ?_
  obtain ⟨M55, e56, hF⟩ := hl_some hF
  refine jv_mem e56 ?_
  have hB : hm_MB M55 (l.length + 6) := by rw [e56]; exact hB.wR (hm_lea hv0.2 6) (hm_leb l.length (Nat.le_of_ble_eq_true rfl : 6 ≤ 6))
  refine jv_aload_n hC 0 dX12_init_205 rfl ?_
  refine jv_sipush hC dX12_init_206 c16_2200 ?_
  refine jv_newarrW hA (l.length + 6) List.length_append (l ++ ([.inl (.int, 1000), .inl (.int, 1002), .inl (.int, 1002), .inl (.long, 1002), .inl (.long, 22), .inl (.int, 160), .inl (.int, 2200)] : List hm_Sh)) (List.append_assoc _ _ _) hB (Nat.lt_of_le_of_lt (Nat.add_le_add_left (Nat.le_of_ble_eq_true rfl : 7 ≤ 23) l.length) h9) dX12_init_209 rfl (Or.inl rfl) ac_int (by decide) (by decide) (by decide) (by decide) (by decide) (List.forall_mem_cons.mpr ⟨(hm_le_ref (hm_lea hv0.2 6)), (fun _ h => nomatch h)⟩) (List.forall_mem_cons.mpr ⟨(hm_le_ref (hm_lea hv0.2 6)), (fun _ h => nomatch h)⟩) (fun X hA => ?_)
  have hB : hm_MB M55 (l.length + 7) := hB.mono (Nat.le_succ _)
  have hC := hA.1
  have hI := hI0.ext hA.2.1
  refine jv_nf 211 [.ref (l.length + 7), .ref v0] rfl rfl ?_
  refine jv_putRF hC fl_X12_84 ow_12 hI dX12_init_211 rfl (hm_sl_app h0) (Nat.succ_ne_zero _) ?_
  obtain ⟨M57, e58, hF⟩ := hl_some hF
  refine jv_mem e58 ?_
  have hB : hm_MB M57 (l.length + 7) := by rw [e58]; exact hB.wR (hm_lea hv0.2 7) (hm_leb l.length (Nat.le_of_ble_eq_true rfl : 7 ≤ 7))
  refine jv_aload_n hC 0 dX12_init_214 rfl ?_
  refine jv_sipush hC dX12_init_215 c16_2200 ?_
  refine jv_newarrW hA (l.length + 7) List.length_append (l ++ ([.inl (.int, 1000), .inl (.int, 1002), .inl (.int, 1002), .inl (.long, 1002), .inl (.long, 22), .inl (.int, 160), .inl (.int, 2200), .inl (.int, 2200)] : List hm_Sh)) (List.append_assoc _ _ _) hB (Nat.lt_of_le_of_lt (Nat.add_le_add_left (Nat.le_of_ble_eq_true rfl : 8 ≤ 23) l.length) h9) dX12_init_218 rfl (Or.inl rfl) ac_int (by decide) (by decide) (by decide) (by decide) (by decide) (List.forall_mem_cons.mpr ⟨(hm_le_ref (hm_lea hv0.2 7)), (fun _ h => nomatch h)⟩) (List.forall_mem_cons.mpr ⟨(hm_le_ref (hm_lea hv0.2 7)), (fun _ h => nomatch h)⟩) (fun X hA => ?_)
  have hB : hm_MB M57 (l.length + 8) := hB.mono (Nat.le_succ _)
  have hC := hA.1
  have hI := hI0.ext hA.2.1
  refine jv_nf 220 [.ref (l.length + 8), .ref v0] rfl rfl ?_
  refine jv_putRF hC fl_X12_87 ow_12 hI dX12_init_220 rfl (hm_sl_app h0) (Nat.succ_ne_zero _) ?_
  obtain ⟨M59, e60, hF⟩ := hl_some hF
  refine jv_mem e60 ?_
  have hB : hm_MB M59 (l.length + 8) := by rw [e60]; exact hB.wR (hm_lea hv0.2 8) (hm_leb l.length (Nat.le_of_ble_eq_true rfl : 8 ≤ 8))
  refine jv_aload_n hC 0 dX12_init_223 rfl ?_
  refine jv_bipush hC dX12_init_224 c8_6 ?_
  refine jv_newarrW hA (l.length + 8) List.length_append (l ++ ([.inl (.int, 1000), .inl (.int, 1002), .inl (.int, 1002), .inl (.long, 1002), .inl (.long, 22), .inl (.int, 160), .inl (.int, 2200), .inl (.int, 2200), .inl (.long, 6)] : List hm_Sh)) (List.append_assoc _ _ _) hB (Nat.lt_of_le_of_lt (Nat.add_le_add_left (Nat.le_of_ble_eq_true rfl : 9 ≤ 23) l.length) h9) dX12_init_226 rfl (Or.inr (Or.inl rfl)) ac_long (by decide) (by decide) (by decide) (by decide) (by decide) (List.forall_mem_cons.mpr ⟨(hm_le_ref (hm_lea hv0.2 8)), (fun _ h => nomatch h)⟩) (List.forall_mem_cons.mpr ⟨(hm_le_ref (hm_lea hv0.2 8)), (fun _ h => nomatch h)⟩) (fun X hA => ?_)
  have hB : hm_MB M59 (l.length + 9) := hB.mono (Nat.le_succ _)
  have hC := hA.1
  have hI := hI0.ext hA.2.1
  refine jv_nf 228 [.ref (l.length + 9), .ref v0] rfl rfl ?_
  refine jv_putRF hC fl_X12_90 ow_12 hI dX12_init_228 rfl (hm_sl_app h0) (Nat.succ_ne_zero _) ?_
  obtain ⟨M61, e62, hF⟩ := hl_some hF
  refine jv_mem e62 ?_
  have hB : hm_MB M61 (l.length + 9) := by rw [e62]; exact hB.wR (hm_lea hv0.2 9) (hm_leb l.length (Nat.le_of_ble_eq_true rfl : 9 ≤ 9))
  refine jv_aload_n hC 0 dX12_init_231 rfl ?_
  refine jv_bipush hC dX12_init_232 c8_7 ?_
  refine jv_newarrW hA (l.length + 9) List.length_append (l ++ ([.inl (.int, 1000), .inl (.int, 1002), .inl (.int, 1002), .inl (.long, 1002), .inl (.long, 22), .inl (.int, 160), .inl (.int, 2200), .inl (.int, 2200), .inl (.long, 6), .inl (.int, 7)] : List hm_Sh)) (List.append_assoc _ _ _) hB (Nat.lt_of_le_of_lt (Nat.add_le_add_left (Nat.le_of_ble_eq_true rfl : 10 ≤ 23) l.length) h9) dX12_init_234 rfl (Or.inl rfl) ac_int (by decide) (by decide) (by decide) (by decide) (by decide) (List.forall_mem_cons.mpr ⟨(hm_le_ref (hm_lea hv0.2 9)), (fun _ h => nomatch h)⟩) (List.forall_mem_cons.mpr ⟨(hm_le_ref (hm_lea hv0.2 9)), (fun _ h => nomatch h)⟩) (fun X hA => ?_)
  have hB : hm_MB M61 (l.length + 10) := hB.mono (Nat.le_succ _)
  have hC := hA.1
  have hI := hI0.ext hA.2.1
  refine jv_nf 236 [.ref (l.length + 10), .ref v0] rfl rfl ?_
  refine jv_putRF hC fl_X12_93 ow_12 hI dX12_init_236 rfl (hm_sl_app h0) (Nat.succ_ne_zero _) ?_
  obtain ⟨M63, e64, hF⟩ := hl_some hF
  refine jv_mem e64 ?_
  have hB : hm_MB M63 (l.length + 10) := by rw [e64]; exact hB.wR (hm_lea hv0.2 10) (hm_leb l.length (Nat.le_of_ble_eq_true rfl : 10 ≤ 10))
  refine jv_aload_n hC 0 dX12_init_239 rfl ?_
  refine jv_sipush hC dX12_init_240 c16_1100 ?_
  refine jv_newarrW hA (l.length + 10) List.length_append (l ++ ([.inl (.int, 1000), .inl (.int, 1002), .inl (.int, 1002), .inl (.long, 1002), .inl (.long, 22), .inl (.int, 160), .inl (.int, 2200), .inl (.int, 2200), .inl (.long, 6), .inl (.int, 7), .inl (.int, 1100)] : List hm_Sh)) (List.append_assoc _ _ _) hB (Nat.lt_of_le_of_lt (Nat.add_le_add_left (Nat.le_of_ble_eq_true rfl : 11 ≤ 23) l.length) h9) dX12_init_243 rfl (Or.inl rfl) ac_int (by decide) (by decide) (by decide) (by decide) (by decide) (List.forall_mem_cons.mpr ⟨(hm_le_ref (hm_lea hv0.2 10)), (fun _ h => nomatch h)⟩) (List.forall_mem_cons.mpr ⟨(hm_le_ref (hm_lea hv0.2 10)), (fun _ h => nomatch h)⟩) (fun X hA => ?_)
  have hB : hm_MB M63 (l.length + 11) := hB.mono (Nat.le_succ _)
  have hC := hA.1
  have hI := hI0.ext hA.2.1
  refine jv_nf 245 [.ref (l.length + 11), .ref v0] rfl rfl ?_
  refine jv_putRF hC fl_X12_96 ow_12 hI dX12_init_245 rfl (hm_sl_app h0) (Nat.succ_ne_zero _) ?_
  obtain ⟨M65, e66, hF⟩ := hl_some hF
  refine jv_mem e66 ?_
  have hB : hm_MB M65 (l.length + 11) := by rw [e66]; exact hB.wR (hm_lea hv0.2 11) (hm_leb l.length (Nat.le_of_ble_eq_true rfl : 11 ≤ 11))
  refine jv_aload_n hC 0 dX12_init_248 rfl ?_
  refine jv_sipush hC dX12_init_249 c16_1000 ?_
  refine jv_newarrW hA (l.length + 11) List.length_append (l ++ ([.inl (.int, 1000), .inl (.int, 1002), .inl (.int, 1002), .inl (.long, 1002), .inl (.long, 22), .inl (.int, 160), .inl (.int, 2200), .inl (.int, 2200), .inl (.long, 6), .inl (.int, 7), .inl (.int, 1100), .inl (.int, 1000)] : List hm_Sh)) (List.append_assoc _ _ _) hB (Nat.lt_of_le_of_lt (Nat.add_le_add_left (Nat.le_of_ble_eq_true rfl : 12 ≤ 23) l.length) h9) dX12_init_252 rfl (Or.inl rfl) ac_int (by decide) (by decide) (by decide) (by decide) (by decide) (List.forall_mem_cons.mpr ⟨(hm_le_ref (hm_lea hv0.2 11)), (fun _ h => nomatch h)⟩) (List.forall_mem_cons.mpr ⟨(hm_le_ref (hm_lea hv0.2 11)), (fun _ h => nomatch h)⟩) (fun X hA => ?_)
  have hB : hm_MB M65 (l.length + 12) := hB.mono (Nat.le_succ _)
  have hC := hA.1
  have hI := hI0.ext hA.2.1
  refine jv_nf 254 [.ref (l.length + 12), .ref v0] rfl rfl ?_
  refine jv_putRF hC fl_X12_99 ow_12 hI dX12_init_254 rfl (hm_sl_app h0) (Nat.succ_ne_zero _) ?_
  obtain ⟨M67, e68, hF⟩ := hl_some hF
  refine jv_mem e68 ?_
  have hB : hm_MB M67 (l.length + 12) := by rw [e68]; exact hB.wR (hm_lea hv0.2 12) (hm_leb l.length (Nat.le_of_ble_eq_true rfl : 12 ≤ 12))
  refine jv_aload_n hC 0 dX12_init_257 rfl ?_
  refine jv_iconst hC dX12_init_258 c32_4 ?_
  refine jv_newarrW hA (l.length + 12) List.length_append (l ++ ([.inl (.int, 1000), .inl (.int, 1002), .inl (.int, 1002), .inl (.long, 1002), .inl (.long, 22), .inl (.int, 160), .inl (.int, 2200), .inl (.int, 2200), .inl (.long, 6), .inl (.int, 7), .inl (.int, 1100), .inl (.int, 1000), .inl (.boolean, 4)] : List hm_Sh)) (List.append_assoc _ _ _) hB (Nat.lt_of_le_of_lt (Nat.add_le_add_left (Nat.le_of_ble_eq_true rfl : 13 ≤ 23) l.length) h9) dX12_init_259 rfl (Or.inr (Or.inr (Or.inr rfl))) ac_boolean (by decide) (by decide) (by decide) (by decide) (by decide) (List.forall_mem_cons.mpr ⟨(hm_le_ref (hm_lea hv0.2 12)), (fun _ h => nomatch h)⟩) (List.forall_mem_cons.mpr ⟨(hm_le_ref (hm_lea hv0.2 12)), (fun _ h => nomatch h)⟩) (fun X hA => ?_)
  have hB : hm_MB M67 (l.length + 13) := hB.mono (Nat.le_succ _)
  have hC := hA.1
  have hI := hI0.ext hA.2.1
  refine jv_nf 261 [.ref (l.length + 13), .ref v0] rfl rfl ?_
  refine jv_putRF hC fl_X12_102 ow_12 hI dX12_init_261 rfl (hm_sl_app h0) (Nat.succ_ne_zero _) ?_
  obtain ⟨M69, e70, hF⟩ := hl_some hF
  refine jv_mem e70 ?_
  have hB : hm_MB M69 (l.length + 13) := by rw [e70]; exact hB.wR (hm_lea hv0.2 13) (hm_leb l.length (Nat.le_of_ble_eq_true rfl : 13 ≤ 13))
  refine jv_aload_n hC 0 dX12_init_264 rfl ?_
  refine jv_bipush hC dX12_init_265 c8_12 ?_
  refine jv_newarrW hA (l.length + 13) List.length_append (l ++ ([.inl (.int, 1000), .inl (.int, 1002), .inl (.int, 1002), .inl (.long, 1002), .inl (.long, 22), .inl (.int, 160), .inl (.int, 2200), .inl (.int, 2200), .inl (.long, 6), .inl (.int, 7), .inl (.int, 1100), .inl (.int, 1000), .inl (.boolean, 4), .inl (.int, 12)] : List hm_Sh)) (List.append_assoc _ _ _) hB (Nat.lt_of_le_of_lt (Nat.add_le_add_left (Nat.le_of_ble_eq_true rfl : 14 ≤ 23) l.length) h9) dX12_init_267 rfl (Or.inl rfl) ac_int (by decide) (by decide) (by decide) (by decide) (by decide) (List.forall_mem_cons.mpr ⟨(hm_le_ref (hm_lea hv0.2 13)), (fun _ h => nomatch h)⟩) (List.forall_mem_cons.mpr ⟨(hm_le_ref (hm_lea hv0.2 13)), (fun _ h => nomatch h)⟩) (fun X hA => ?_)
  have hB : hm_MB M69 (l.length + 14) := hB.mono (Nat.le_succ _)
  have hC := hA.1
  have hI := hI0.ext hA.2.1
  refine jv_nf 269 [.ref (l.length + 14), .ref v0] rfl rfl ?_
  refine jv_putRF hC fl_X12_106 ow_12 hI dX12_init_269 rfl (hm_sl_app h0) (Nat.succ_ne_zero _) ?_
  obtain ⟨M71, e72, hF⟩ := hl_some hF
  refine jv_mem e72 ?_
  have hB : hm_MB M71 (l.length + 14) := by rw [e72]; exact hB.wR (hm_lea hv0.2 14) (hm_leb l.length (Nat.le_of_ble_eq_true rfl : 14 ≤ 14))
  refine jv_aload_n hC 0 dX12_init_272 rfl ?_
  refine jv_bipush hC dX12_init_273 c8_12 ?_
  refine jv_newarrW hA (l.length + 14) List.length_append (l ++ ([.inl (.int, 1000), .inl (.int, 1002), .inl (.int, 1002), .inl (.long, 1002), .inl (.long, 22), .inl (.int, 160), .inl (.int, 2200), .inl (.int, 2200), .inl (.long, 6), .inl (.int, 7), .inl (.int, 1100), .inl (.int, 1000), .inl (.boolean, 4), .inl (.int, 12), .inl (.int, 12)] : List hm_Sh)) (List.append_assoc _ _ _) hB (Nat.lt_of_le_of_lt (Nat.add_le_add_left (Nat.le_of_ble_eq_true rfl : 15 ≤ 23) l.length) h9) dX12_init_275 rfl (Or.inl rfl) ac_int (by decide) (by decide) (by decide) (by decide) (by decide) (List.forall_mem_cons.mpr ⟨(hm_le_ref (hm_lea hv0.2 14)), (fun _ h => nomatch h)⟩) (List.forall_mem_cons.mpr ⟨(hm_le_ref (hm_lea hv0.2 14)), (fun _ h => nomatch h)⟩) (fun X hA => ?_)
  have hB : hm_MB M71 (l.length + 15) := hB.mono (Nat.le_succ _)
  have hC := hA.1
  have hI := hI0.ext hA.2.1
  refine jv_nf 277 [.ref (l.length + 15), .ref v0] rfl rfl ?_
  refine jv_putRF hC fl_X12_109 ow_12 hI dX12_init_277 rfl (hm_sl_app h0) (Nat.succ_ne_zero _) ?_
  obtain ⟨M73, e74, hF⟩ := hl_some hF
  refine jv_mem e74 ?_
  have hB : hm_MB M73 (l.length + 15) := by rw [e74]; exact hB.wR (hm_lea hv0.2 15) (hm_leb l.length (Nat.le_of_ble_eq_true rfl : 15 ≤ 15))
  refine jv_aload_n hC 0 dX12_init_280 rfl ?_
  refine jv_bipush hC dX12_init_281 c8_12 ?_
  refine jv_newarrW hA (l.length + 15) List.length_append (l ++ ([.inl (.int, 1000), .inl (.int, 1002), .inl (.int, 1002), .inl (.long, 1002), .inl (.long, 22), .inl (.int, 160), .inl (.int, 2200), .inl (.int, 2200), .inl (.long, 6), .inl (.int, 7), .inl (.int, 1100), .inl (.int, 1000), .inl (.boolean, 4), .inl (.int, 12), .inl (.int, 12), .inl (.int, 12)] : List hm_Sh)) (List.append_assoc _ _ _) hB (Nat.lt_of_le_of_lt (Nat.add_le_add_left (Nat.le_of_ble_eq_true rfl : 16 ≤ 23) l.length) h9) dX12_init_283 rfl (Or.inl rfl) ac_int (by decide) (by decide) (by decide) (by decide) (by decide) (List.forall_mem_cons.mpr ⟨(hm_le_ref (hm_lea hv0.2 15)), (fun _ h => nomatch h)⟩) (List.forall_mem_cons.mpr ⟨(hm_le_ref (hm_lea hv0.2 15)), (fun _ h => nomatch h)⟩) (fun X hA => ?_)
  have hB : hm_MB M73 (l.length + 16) := hB.mono (Nat.le_succ _)
  have hC := hA.1
  have hI := hI0.ext hA.2.1
  refine jv_nf 285 [.ref (l.length + 16), .ref v0] rfl rfl ?_
  refine jv_putRF hC fl_X12_112 ow_12 hI dX12_init_285 rfl (hm_sl_app h0) (Nat.succ_ne_zero _) ?_
  obtain ⟨M75, e76, hF⟩ := hl_some hF
  refine jv_mem e76 ?_
  have hB : hm_MB M75 (l.length + 16) := by rw [e76]; exact hB.wR (hm_lea hv0.2 16) (hm_leb l.length (Nat.le_of_ble_eq_true rfl : 16 ≤ 16))
  refine jv_aload_n hC 0 dX12_init_288 rfl ?_
  refine jv_bipush hC dX12_init_289 c8_12 ?_
  refine jv_newarrW hA (l.length + 16) List.length_append (l ++ ([.inl (.int, 1000), .inl (.int, 1002), .inl (.int, 1002), .inl (.long, 1002), .inl (.long, 22), .inl (.int, 160), .inl (.int, 2200), .inl (.int, 2200), .inl (.long, 6), .inl (.int, 7), .inl (.int, 1100), .inl (.int, 1000), .inl (.boolean, 4), .inl (.int, 12), .inl (.int, 12), .inl (.int, 12), .inl (.int, 12)] : List hm_Sh)) (List.append_assoc _ _ _) hB (Nat.lt_of_le_of_lt (Nat.add_le_add_left (Nat.le_of_ble_eq_true rfl : 17 ≤ 23) l.length) h9) dX12_init_291 rfl (Or.inl rfl) ac_int (by decide) (by decide) (by decide) (by decide) (by decide) (List.forall_mem_cons.mpr ⟨(hm_le_ref (hm_lea hv0.2 16)), (fun _ h => nomatch h)⟩) (List.forall_mem_cons.mpr ⟨(hm_le_ref (hm_lea hv0.2 16)), (fun _ h => nomatch h)⟩) (fun X hA => ?_)
  have hB : hm_MB M75 (l.length + 17) := hB.mono (Nat.le_succ _)
  have hC := hA.1
  have hI := hI0.ext hA.2.1
  refine jv_nf 293 [.ref (l.length + 17), .ref v0] rfl rfl ?_
  refine jv_putRF hC fl_X12_115 ow_12 hI dX12_init_293 rfl (hm_sl_app h0) (Nat.succ_ne_zero _) ?_
  obtain ⟨M77, e78, hF⟩ := hl_some hF
  refine jv_mem e78 ?_
  have hB : hm_MB M77 (l.length + 17) := by rw [e78]; exact hB.wR (hm_lea hv0.2 17) (hm_leb l.length (Nat.le_of_ble_eq_true rfl : 17 ≤ 17))
  refine jv_aload_n hC 0 dX12_init_296 rfl ?_
  refine jv_bipush hC dX12_init_297 c8_6 ?_
  refine jv_newarrW hA (l.length + 17) List.length_append (l ++ ([.inl (.int, 1000), .inl (.int, 1002), .inl (.int, 1002), .inl (.long, 1002), .inl (.long, 22), .inl (.int, 160), .inl (.int, 2200), .inl (.int, 2200), .inl (.long, 6), .inl (.int, 7), .inl (.int, 1100), .inl (.int, 1000), .inl (.boolean, 4), .inl (.int, 12), .inl (.int, 12), .inl (.int, 12), .inl (.int, 12), .inl (.int, 6)] : List hm_Sh)) (List.append_assoc _ _ _) hB (Nat.lt_of_le_of_lt (Nat.add_le_add_left (Nat.le_of_ble_eq_true rfl : 18 ≤ 23) l.length) h9) dX12_init_299 rfl (Or.inl rfl) ac_int (by decide) (by decide) (by decide) (by decide) (by decide) (List.forall_mem_cons.mpr ⟨(hm_le_ref (hm_lea hv0.2 17)), (fun _ h => nomatch h)⟩) (List.forall_mem_cons.mpr ⟨(hm_le_ref (hm_lea hv0.2 17)), (fun _ h => nomatch h)⟩) (fun X hA => ?_)
  have hB : hm_MB M77 (l.length + 18) := hB.mono (Nat.le_succ _)
  have hC := hA.1
  have hI := hI0.ext hA.2.1
  refine jv_nf 301 [.ref (l.length + 18), .ref v0] rfl rfl ?_
  refine jv_putRF hC fl_X12_118 ow_12 hI dX12_init_301 rfl (hm_sl_app h0) (Nat.succ_ne_zero _) ?_
  obtain ⟨M79, e80, hF⟩ := hl_some hF
  refine jv_mem e80 ?_
  have hB : hm_MB M79 (l.length + 18) := by rw [e80]; exact hB.wR (hm_lea hv0.2 18) (hm_leb l.length (Nat.le_of_ble_eq_true rfl : 18 ≤ 18))
  refine jv_aload_n hC 0 dX12_init_304 rfl ?_
  refine jv_sipush hC dX12_init_305 c16_1536 ?_
  refine jv_newarrW hA (l.length + 18) List.length_append (l ++ ([.inl (.int, 1000), .inl (.int, 1002), .inl (.int, 1002), .inl (.long, 1002), .inl (.long, 22), .inl (.int, 160), .inl (.int, 2200), .inl (.int, 2200), .inl (.long, 6), .inl (.int, 7), .inl (.int, 1100), .inl (.int, 1000), .inl (.boolean, 4), .inl (.int, 12), .inl (.int, 12), .inl (.int, 12), .inl (.int, 12), .inl (.int, 6), .inl (.int, 1536)] : List hm_Sh)) (List.append_assoc _ _ _) hB (Nat.lt_of_le_of_lt (Nat.add_le_add_left (Nat.le_of_ble_eq_true rfl : 19 ≤ 23) l.length) h9) dX12_init_308 rfl (Or.inl rfl) ac_int (by decide) (by decide) (by decide) (by decide) (by decide) (List.forall_mem_cons.mpr ⟨(hm_le_ref (hm_lea hv0.2 18)), (fun _ h => nomatch h)⟩) (List.forall_mem_cons.mpr ⟨(hm_le_ref (hm_lea hv0.2 18)), (fun _ h => nomatch h)⟩) (fun X hA => ?_)
  have hB : hm_MB M79 (l.length + 19) := hB.mono (Nat.le_succ _)
  have hC := hA.1
  have hI := hI0.ext hA.2.1
  refine jv_nf 310 [.ref (l.length + 19), .ref v0] rfl rfl ?_
  refine jv_putRF hC fl_X12_121 ow_12 hI dX12_init_310 rfl (hm_sl_app h0) (Nat.succ_ne_zero _) ?_
  obtain ⟨M81, e82, hF⟩ := hl_some hF
  refine jv_mem e82 ?_
  have hB : hm_MB M81 (l.length + 19) := by rw [e82]; exact hB.wR (hm_lea hv0.2 19) (hm_leb l.length (Nat.le_of_ble_eq_true rfl : 19 ≤ 19))
  refine jv_aload_n hC 0 dX12_init_313 rfl ?_
  refine jv_sipush hC dX12_init_314 c16_384 ?_
  refine jv_newarrW hA (l.length + 19) List.length_append (l ++ ([.inl (.int, 1000), .inl (.int, 1002), .inl (.int, 1002), .inl (.long, 1002), .inl (.long, 22), .inl (.int, 160), .inl (.int, 2200), .inl (.int, 2200), .inl (.long, 6), .inl (.int, 7), .inl (.int, 1100), .inl (.int, 1000), .inl (.boolean, 4), .inl (.int, 12), .inl (.int, 12), .inl (.int, 12), .inl (.int, 12), .inl (.int, 6), .inl (.int, 1536), .inl (.int, 384)] : List hm_Sh)) (List.append_assoc _ _ _) hB (Nat.lt_of_le_of_lt (Nat.add_le_add_left (Nat.le_of_ble_eq_true rfl : 20 ≤ 23) l.length) h9) dX12_init_317 rfl (Or.inl rfl) ac_int (by decide) (by decide) (by decide) (by decide) (by decide) (List.forall_mem_cons.mpr ⟨(hm_le_ref (hm_lea hv0.2 19)), (fun _ h => nomatch h)⟩) (List.forall_mem_cons.mpr ⟨(hm_le_ref (hm_lea hv0.2 19)), (fun _ h => nomatch h)⟩) (fun X hA => ?_)
  have hB : hm_MB M81 (l.length + 20) := hB.mono (Nat.le_succ _)
  have hC := hA.1
  have hI := hI0.ext hA.2.1
  refine jv_nf 319 [.ref (l.length + 20), .ref v0] rfl rfl ?_
  refine jv_putRF hC fl_X12_124 ow_12 hI dX12_init_319 rfl (hm_sl_app h0) (Nat.succ_ne_zero _) ?_
  obtain ⟨M83, e84, hF⟩ := hl_some hF
  refine jv_mem e84 ?_
  have hB : hm_MB M83 (l.length + 20) := by rw [e84]; exact hB.wR (hm_lea hv0.2 20) (hm_leb l.length (Nat.le_of_ble_eq_true rfl : 20 ≤ 20))
  refine jv_aload_n hC 0 dX12_init_322 rfl ?_
  refine jv_sipush hC dX12_init_323 c16_384 ?_
  refine jv_newarrW hA (l.length + 20) List.length_append (l ++ ([.inl (.int, 1000), .inl (.int, 1002), .inl (.int, 1002), .inl (.long, 1002), .inl (.long, 22), .inl (.int, 160), .inl (.int, 2200), .inl (.int, 2200), .inl (.long, 6), .inl (.int, 7), .inl (.int, 1100), .inl (.int, 1000), .inl (.boolean, 4), .inl (.int, 12), .inl (.int, 12), .inl (.int, 12), .inl (.int, 12), .inl (.int, 6), .inl (.int, 1536), .inl (.int, 384), .inl (.int, 384)] : List hm_Sh)) (List.append_assoc _ _ _) hB (Nat.lt_of_le_of_lt (Nat.add_le_add_left (Nat.le_of_ble_eq_true rfl : 21 ≤ 23) l.length) h9) dX12_init_326 rfl (Or.inl rfl) ac_int (by decide) (by decide) (by decide) (by decide) (by decide) (List.forall_mem_cons.mpr ⟨(hm_le_ref (hm_lea hv0.2 20)), (fun _ h => nomatch h)⟩) (List.forall_mem_cons.mpr ⟨(hm_le_ref (hm_lea hv0.2 20)), (fun _ h => nomatch h)⟩) (fun X hA => ?_)
  have hB : hm_MB M83 (l.length + 21) := hB.mono (Nat.le_succ _)
  have hC := hA.1
  have hI := hI0.ext hA.2.1
  refine jv_nf 328 [.ref (l.length + 21), .ref v0] rfl rfl ?_
  refine jv_putRF hC fl_X12_127 ow_12 hI dX12_init_328 rfl (hm_sl_app h0) (Nat.succ_ne_zero _) ?_
  obtain ⟨M85, e86, hF⟩ := hl_some hF
  refine jv_mem e86 ?_
  have hB : hm_MB M85 (l.length + 21) := by rw [e86]; exact hB.wR (hm_lea hv0.2 21) (hm_leb l.length (Nat.le_of_ble_eq_true rfl : 21 ≤ 21))
  refine jv_aload_n hC 0 dX12_init_331 rfl ?_
  refine jv_sipush hC dX12_init_332 c16_384 ?_
  refine jv_newarrW hA (l.length + 21) List.length_append (l ++ ([.inl (.int, 1000), .inl (.int, 1002), .inl (.int, 1002), .inl (.long, 1002), .inl (.long, 22), .inl (.int, 160), .inl (.int, 2200), .inl (.int, 2200), .inl (.long, 6), .inl (.int, 7), .inl (.int, 1100), .inl (.int, 1000), .inl (.boolean, 4), .inl (.int, 12), .inl (.int, 12), .inl (.int, 12), .inl (.int, 12), .inl (.int, 6), .inl (.int, 1536), .inl (.int, 384), .inl (.int, 384), .inl (.int, 384)] : List hm_Sh)) (List.append_assoc _ _ _) hB (Nat.lt_of_le_of_lt (Nat.add_le_add_left (Nat.le_of_ble_eq_true rfl : 22 ≤ 23) l.length) h9) dX12_init_335 rfl (Or.inl rfl) ac_int (by decide) (by decide) (by decide) (by decide) (by decide) (List.forall_mem_cons.mpr ⟨(hm_le_ref (hm_lea hv0.2 21)), (fun _ h => nomatch h)⟩) (List.forall_mem_cons.mpr ⟨(hm_le_ref (hm_lea hv0.2 21)), (fun _ h => nomatch h)⟩) (fun X hA => ?_)
  have hB : hm_MB M85 (l.length + 22) := hB.mono (Nat.le_succ _)
  have hC := hA.1
  have hI := hI0.ext hA.2.1
  refine jv_nf 337 [.ref (l.length + 22), .ref v0] rfl rfl ?_
  refine jv_putRF hC fl_X12_130 ow_12 hI dX12_init_337 rfl (hm_sl_app h0) (Nat.succ_ne_zero _) ?_
  obtain ⟨M87, e88, hF⟩ := hl_some hF
  refine jv_mem e88 ?_
  have hB : hm_MB M87 (l.length + 22) := by rw [e88]; exact hB.wR (hm_lea hv0.2 22) (hm_leb l.length (Nat.le_of_ble_eq_true rfl : 22 ≤ 22))
  refine jv_aload_n hC 0 dX12_init_340 rfl ?_
  obtain ⟨g89, hF⟩ := hg_some hF
  obtain ⟨g90, hF⟩ := hg_some hF
  refine jv_getR hC fl_X12_81 dX12_init_341 rfl (hm_sl_app h0) g89 ?_
  refine jv_topR g90.symm ?_
  refine jv_iconst hC dX12_init_344 c32_0 ?_
  refine jv_iconst hC dX12_init_345 c32_4 ?_
  refine jv_pc 346 rfl ?_
  refine jv_iastore hC dX12_init_346 (hm_sl_new rfl) (vi_0 (by decide)) ?_
  obtain ⟨M91, e92, hF⟩ := hl_some hF
  refine jv_mem e92 ?_
  have hB : hm_MB M91 (l.length + 22) := by rw [e92]; exact hB.wI (hm_leb l.length (Nat.le_of_ble_eq_true rfl : 6 ≤ 22))
  refine jv_aload_n hC 0 dX12_init_347 rfl ?_
  obtain ⟨g93, hF⟩ := hg_some hF
  obtain ⟨g94, hF⟩ := hg_some hF
  refine jv_getR hC fl_X12_81 dX12_init_348 rfl (hm_sl_app h0) g93 ?_
  refine jv_topR g94.symm ?_
  refine jv_iconst hC dX12_init_351 c32_1 ?_
  refine jv_iconst hC dX12_init_352 c32_4 ?_
  refine jv_iastore hC dX12_init_353 (hm_sl_new rfl) (vi_1 (by decide)) ?_
  obtain ⟨M95, e96, hF⟩ := hl_some hF
  refine jv_mem e96 ?_
  have hB : hm_MB M95 (l.length + 22) := by rw [e96]; exact hB.wI (hm_leb l.length (Nat.le_of_ble_eq_true rfl : 6 ≤ 22))
  refine jv_pc 354 rfl ?_
  refine jv_iconst hC dX12_init_354 c32_0 ?_
  refine jv_istore_n hC [(1, .int (0 : Int32)), (0, .ref v0)] dX12_init_355 (by decide) rfl ?_
  refine jv_iload_n hC 0 dX12_init_356 rfl ?_
  refine jv_iconst hC dX12_init_357 c32_4 ?_
  refine jv_icmp_ge hC 377 dX12_init_358 (by decide) (fun h => absurd h (by decide)) (fun _ => ?_)
  refine jv_aload_n hC 1 dX12_init_361 rfl ?_
  refine jv_pc 362 rfl ?_
  obtain ⟨g97, hF⟩ := hg_some hF
  obtain ⟨g98, hF⟩ := hg_some hF
  refine jv_getR hC fl_X12_81 dX12_init_362 rfl (hm_sl_app h0) g97 ?_
  refine jv_topR g98.symm ?_
  refine jv_bipush hC dX12_init_365 c8_65 ?_
  refine jv_iload_n hC 0 dX12_init_367 rfl ?_
  refine jv_iadd hC dX12_init_368 ?_
  refine jv_topI (y := (65 : Int32)) (by decide) ?_
  refine jv_iconst hC dX12_init_369 c32_m1 ?_
  refine jv_iastore hC dX12_init_370 (hm_sl_new rfl) (vi_65 (by decide)) ?_
  obtain ⟨M99, e100, hF⟩ := hl_some hF
  refine jv_mem e100 ?_
  have hB : hm_MB M99 (l.length + 22) := by rw [e100]; exact hB.wI (hm_leb l.length (Nat.le_of_ble_eq_true rfl : 6 ≤ 22))
  refine jv_pc 371 rfl ?_
  refine jv_iinc hC 0 [(1, .int (1 : Int32)), (0, .ref v0)] dX12_init_371 rfl c32_1 (by decide) rfl ?_
  refine jv_goto hC 356 dX12_init_374 (by decide) ?_
  refine jv_iload_n hC 0 dX12_init_356 rfl ?_
  refine jv_iconst hC dX12_init_357 c32_4 ?_
  refine jv_icmp_ge hC 377 dX12_init_358 (by decide) (fun h => absurd h (by decide)) (fun _ => ?_)
  refine jv_aload_n hC 1 dX12_init_361 rfl ?_
  obtain ⟨g101, hF⟩ := hg_some hF
  obtain ⟨g102, hF⟩ := hg_some hF
  refine jv_getR hC fl_X12_81 dX12_init_362 rfl (hm_sl_app h0) g101 ?_
  refine jv_topR g102.symm ?_
  refine jv_pc 365 rfl ?_
  refine jv_bipush hC dX12_init_365 c8_65 ?_
  refine jv_iload_n hC 0 dX12_init_367 rfl ?_
  refine jv_iadd hC dX12_init_368 ?_
  refine jv_topI (y := (66 : Int32)) (by decide) ?_
  refine jv_iconst hC dX12_init_369 c32_m1 ?_
  refine jv_iastore hC dX12_init_370 (hm_sl_new rfl) (vi_66 (by decide)) ?_
  obtain ⟨M103, e104, hF⟩ := hl_some hF
  refine jv_mem e104 ?_
  have hB : hm_MB M103 (l.length + 22) := by rw [e104]; exact hB.wI (hm_leb l.length (Nat.le_of_ble_eq_true rfl : 6 ≤ 22))
  refine jv_iinc hC 0 [(1, .int (2 : Int32)), (0, .ref v0)] dX12_init_371 rfl c32_1 (by decide) rfl ?_
  refine jv_pc 374 rfl ?_
  refine jv_goto hC 356 dX12_init_374 (by decide) ?_
  refine jv_iload_n hC 0 dX12_init_356 rfl ?_
  refine jv_iconst hC dX12_init_357 c32_4 ?_
  refine jv_icmp_ge hC 377 dX12_init_358 (by decide) (fun h => absurd h (by decide)) (fun _ => ?_)
  refine jv_aload_n hC 1 dX12_init_361 rfl ?_
  obtain ⟨g105, hF⟩ := hg_some hF
  obtain ⟨g106, hF⟩ := hg_some hF
  refine jv_getR hC fl_X12_81 dX12_init_362 rfl (hm_sl_app h0) g105 ?_
  refine jv_topR g106.symm ?_
  refine jv_pc 365 rfl ?_
  refine jv_bipush hC dX12_init_365 c8_65 ?_
  refine jv_iload_n hC 0 dX12_init_367 rfl ?_
  refine jv_iadd hC dX12_init_368 ?_
  refine jv_topI (y := (67 : Int32)) (by decide) ?_
  refine jv_iconst hC dX12_init_369 c32_m1 ?_
  refine jv_iastore hC dX12_init_370 (hm_sl_new rfl) (vi_67 (by decide)) ?_
  obtain ⟨M107, e108, hF⟩ := hl_some hF
  refine jv_mem e108 ?_
  have hB : hm_MB M107 (l.length + 22) := by rw [e108]; exact hB.wI (hm_leb l.length (Nat.le_of_ble_eq_true rfl : 6 ≤ 22))
  refine jv_iinc hC 0 [(1, .int (3 : Int32)), (0, .ref v0)] dX12_init_371 rfl c32_1 (by decide) rfl ?_
  refine jv_pc 374 rfl ?_
  refine jv_goto hC 356 dX12_init_374 (by decide) ?_
  refine jv_iload_n hC 0 dX12_init_356 rfl ?_
  refine jv_iconst hC dX12_init_357 c32_4 ?_
  refine jv_icmp_ge hC 377 dX12_init_358 (by decide) (fun h => absurd h (by decide)) (fun _ => ?_)
  refine jv_aload_n hC 1 dX12_init_361 rfl ?_
  obtain ⟨g109, hF⟩ := hg_some hF
  obtain ⟨g110, hF⟩ := hg_some hF
  refine jv_getR hC fl_X12_81 dX12_init_362 rfl (hm_sl_app h0) g109 ?_
  refine jv_topR g110.symm ?_
  refine jv_pc 365 rfl ?_
  refine jv_bipush hC dX12_init_365 c8_65 ?_
  refine jv_iload_n hC 0 dX12_init_367 rfl ?_
  refine jv_iadd hC dX12_init_368 ?_
  refine jv_topI (y := (68 : Int32)) (by decide) ?_
  refine jv_iconst hC dX12_init_369 c32_m1 ?_
  refine jv_iastore hC dX12_init_370 (hm_sl_new rfl) (vi_68 (by decide)) ?_
  obtain ⟨M111, e112, hF⟩ := hl_some hF
  refine jv_mem e112 ?_
  have hB : hm_MB M111 (l.length + 22) := by rw [e112]; exact hB.wI (hm_leb l.length (Nat.le_of_ble_eq_true rfl : 6 ≤ 22))
  refine jv_iinc hC 0 [(1, .int (4 : Int32)), (0, .ref v0)] dX12_init_371 rfl c32_1 (by decide) rfl ?_
  refine jv_pc 374 rfl ?_
  refine jv_goto hC 356 dX12_init_374 (by decide) ?_
  refine jv_iload_n hC 0 dX12_init_356 rfl ?_
  refine jv_iconst hC dX12_init_357 c32_4 ?_
  refine jv_icmp_ge hC 377 dX12_init_358 (by decide) (fun _ => ?_) (fun h => absurd (by decide) h)
  obtain rfl := hr_somev hF
  exact jv_vretA hA (by decide) (by decide) dX12_init_377
set_option maxRecDepth 100000 in
set_option maxHeartbeats 4000000 in
theorem mB_Md_init {l : List hm_Sh} {v0 : Nat} {M M' : hm_M} (h0 : hm_sl l v0 = some (.inr 12)) (hB : hm_MB M l.length) (h9 : l.length + 23 < 900000) (hF : g_Md_init l v0 M = some M') : hm_MB M' (l ++ ([.inl (.int, 1000), .inl (.int, 1002), .inl (.int, 1002), .inl (.long, 1002), .inl (.long, 22), .inl (.int, 160), .inl (.int, 2200), .inl (.int, 2200), .inl (.long, 6), .inl (.int, 7), .inl (.int, 1100), .inl (.int, 1000), .inl (.boolean, 4), .inl (.int, 12), .inl (.int, 12), .inl (.int, 12), .inl (.int, 12), .inl (.int, 6), .inl (.int, 1536), .inl (.int, 384), .inl (.int, 384), .inl (.int, 384)] : List hm_Sh)).length := by
  have hv0 := (hm_sl_rng _ _ h0)
  unfold g_Md_init at hF
  have hB : hm_MB M (l.length + 1) := hB.mono (Nat.le_succ _)
  obtain ⟨M1, e2, hF⟩ := hl_some hF
  have hB : hm_MB M1 (l.length + 1) := by rw [e2]; exact hB.wR (hm_lea hv0.2 1) (hm_leb l.length (Nat.le_of_ble_eq_true rfl : 1 ≤ 1))
  have hB : hm_MB M1 (l.length + 2) := hB.mono (Nat.le_succ _)
  obtain ⟨M3, e4, hF⟩ := hl_some hF
  have hB : hm_MB M3 (l.length + 2) := by rw [e4]; exact hB.wR (hm_lea hv0.2 2) (hm_leb l.length (Nat.le_of_ble_eq_true rfl : 2 ≤ 2))
  have hB : hm_MB M3 (l.length + 3) := hB.mono (Nat.le_succ _)
  obtain ⟨M5, e6, hF⟩ := hl_some hF
  have hB : hm_MB M5 (l.length + 3) := by rw [e6]; exact hB.wR (hm_lea hv0.2 3) (hm_leb l.length (Nat.le_of_ble_eq_true rfl : 3 ≤ 3))
  have hB : hm_MB M5 (l.length + 4) := hB.mono (Nat.le_succ _)
  obtain ⟨M7, e8, hF⟩ := hl_some hF
  have hB : hm_MB M7 (l.length + 4) := by rw [e8]; exact hB.wR (hm_lea hv0.2 4) (hm_leb l.length (Nat.le_of_ble_eq_true rfl : 4 ≤ 4))
  have hB : hm_MB M7 (l.length + 5) := hB.mono (Nat.le_succ _)
  obtain ⟨M9, e10, hF⟩ := hl_some hF
  have hB : hm_MB M9 (l.length + 5) := by rw [e10]; exact hB.wL (hm_leb l.length (Nat.le_of_ble_eq_true rfl : 5 ≤ 5))
  obtain ⟨M11, e12, hF⟩ := hl_some hF
  have hB : hm_MB M11 (l.length + 5) := by rw [e12]; exact hB.wL (hm_leb l.length (Nat.le_of_ble_eq_true rfl : 5 ≤ 5))
  obtain ⟨M13, e14, hF⟩ := hl_some hF
  have hB : hm_MB M13 (l.length + 5) := by rw [e14]; exact hB.wL (hm_leb l.length (Nat.le_of_ble_eq_true rfl : 5 ≤ 5))
  obtain ⟨M15, e16, hF⟩ := hl_some hF
  have hB : hm_MB M15 (l.length + 5) := by rw [e16]; exact hB.wL (hm_leb l.length (Nat.le_of_ble_eq_true rfl : 5 ≤ 5))
  obtain ⟨M17, e18, hF⟩ := hl_some hF
  have hB : hm_MB M17 (l.length + 5) := by rw [e18]; exact hB.wL (hm_leb l.length (Nat.le_of_ble_eq_true rfl : 5 ≤ 5))
  obtain ⟨M19, e20, hF⟩ := hl_some hF
  have hB : hm_MB M19 (l.length + 5) := by rw [e20]; exact hB.wL (hm_leb l.length (Nat.le_of_ble_eq_true rfl : 5 ≤ 5))
  obtain ⟨M21, e22, hF⟩ := hl_some hF
  have hB : hm_MB M21 (l.length + 5) := by rw [e22]; exact hB.wL (hm_leb l.length (Nat.le_of_ble_eq_true rfl : 5 ≤ 5))
  obtain ⟨M23, e24, hF⟩ := hl_some hF
  have hB : hm_MB M23 (l.length + 5) := by rw [e24]; exact hB.wL (hm_leb l.length (Nat.le_of_ble_eq_true rfl : 5 ≤ 5))
  obtain ⟨M25, e26, hF⟩ := hl_some hF
  have hB : hm_MB M25 (l.length + 5) := by rw [e26]; exact hB.wL (hm_leb l.length (Nat.le_of_ble_eq_true rfl : 5 ≤ 5))
  obtain ⟨M27, e28, hF⟩ := hl_some hF
  have hB : hm_MB M27 (l.length + 5) := by rw [e28]; exact hB.wL (hm_leb l.length (Nat.le_of_ble_eq_true rfl : 5 ≤ 5))
  obtain ⟨M29, e30, hF⟩ := hl_some hF
  have hB : hm_MB M29 (l.length + 5) := by rw [e30]; exact hB.wL (hm_leb l.length (Nat.le_of_ble_eq_true rfl : 5 ≤ 5))
  obtain ⟨M31, e32, hF⟩ := hl_some hF
  have hB : hm_MB M31 (l.length + 5) := by rw [e32]; exact hB.wL (hm_leb l.length (Nat.le_of_ble_eq_true rfl : 5 ≤ 5))
  obtain ⟨M33, e34, hF⟩ := hl_some hF
  have hB : hm_MB M33 (l.length + 5) := by rw [e34]; exact hB.wL (hm_leb l.length (Nat.le_of_ble_eq_true rfl : 5 ≤ 5))
  obtain ⟨M35, e36, hF⟩ := hl_some hF
  have hB : hm_MB M35 (l.length + 5) := by rw [e36]; exact hB.wL (hm_leb l.length (Nat.le_of_ble_eq_true rfl : 5 ≤ 5))
  obtain ⟨M37, e38, hF⟩ := hl_some hF
  have hB : hm_MB M37 (l.length + 5) := by rw [e38]; exact hB.wL (hm_leb l.length (Nat.le_of_ble_eq_true rfl : 5 ≤ 5))
  obtain ⟨M39, e40, hF⟩ := hl_some hF
  have hB : hm_MB M39 (l.length + 5) := by rw [e40]; exact hB.wL (hm_leb l.length (Nat.le_of_ble_eq_true rfl : 5 ≤ 5))
  obtain ⟨M41, e42, hF⟩ := hl_some hF
  have hB : hm_MB M41 (l.length + 5) := by rw [e42]; exact hB.wL (hm_leb l.length (Nat.le_of_ble_eq_true rfl : 5 ≤ 5))
  obtain ⟨M43, e44, hF⟩ := hl_some hF
  have hB : hm_MB M43 (l.length + 5) := by rw [e44]; exact hB.wL (hm_leb l.length (Nat.le_of_ble_eq_true rfl : 5 ≤ 5))
  obtain ⟨M45, e46, hF⟩ := hl_some hF
  have hB : hm_MB M45 (l.length + 5) := by rw [e46]; exact hB.wL (hm_leb l.length (Nat.le_of_ble_eq_true rfl : 5 ≤ 5))
  obtain ⟨M47, e48, hF⟩ := hl_some hF
  have hB : hm_MB M47 (l.length + 5) := by rw [e48]; exact hB.wL (hm_leb l.length (Nat.le_of_ble_eq_true rfl : 5 ≤ 5))
  obtain ⟨M49, e50, hF⟩ := hl_some hF
  have hB : hm_MB M49 (l.length + 5) := by rw [e50]; exact hB.wL (hm_leb l.length (Nat.le_of_ble_eq_true rfl : 5 ≤ 5))
  obtain ⟨M51, e52, hF⟩ := hl_some hF
  have hB : hm_MB M51 (l.length + 5) := by rw [e52]; exact hB.wL (hm_leb l.length (Nat.le_of_ble_eq_true rfl : 5 ≤ 5))
  obtain ⟨M53, e54, hF⟩ := hl_some hF
  have hB : hm_MB M53 (l.length + 5) := by rw [e54]; exact hB.wR (hm_lea hv0.2 5) (hm_leb l.length (Nat.le_of_ble_eq_true rfl : 5 ≤ 5))
  have hB : hm_MB M53 (l.length + 6) := hB.mono (Nat.le_succ _)
  obtain ⟨M55, e56, hF⟩ := hl_some hF
  have hB : hm_MB M55 (l.length + 6) := by rw [e56]; exact hB.wR (hm_lea hv0.2 6) (hm_leb l.length (Nat.le_of_ble_eq_true rfl : 6 ≤ 6))
  have hB : hm_MB M55 (l.length + 7) := hB.mono (Nat.le_succ _)
  obtain ⟨M57, e58, hF⟩ := hl_some hF
  have hB : hm_MB M57 (l.length + 7) := by rw [e58]; exact hB.wR (hm_lea hv0.2 7) (hm_leb l.length (Nat.le_of_ble_eq_true rfl : 7 ≤ 7))
  have hB : hm_MB M57 (l.length + 8) := hB.mono (Nat.le_succ _)
  obtain ⟨M59, e60, hF⟩ := hl_some hF
  have hB : hm_MB M59 (l.length + 8) := by rw [e60]; exact hB.wR (hm_lea hv0.2 8) (hm_leb l.length (Nat.le_of_ble_eq_true rfl : 8 ≤ 8))
  have hB : hm_MB M59 (l.length + 9) := hB.mono (Nat.le_succ _)
  obtain ⟨M61, e62, hF⟩ := hl_some hF
  have hB : hm_MB M61 (l.length + 9) := by rw [e62]; exact hB.wR (hm_lea hv0.2 9) (hm_leb l.length (Nat.le_of_ble_eq_true rfl : 9 ≤ 9))
  have hB : hm_MB M61 (l.length + 10) := hB.mono (Nat.le_succ _)
  obtain ⟨M63, e64, hF⟩ := hl_some hF
  have hB : hm_MB M63 (l.length + 10) := by rw [e64]; exact hB.wR (hm_lea hv0.2 10) (hm_leb l.length (Nat.le_of_ble_eq_true rfl : 10 ≤ 10))
  have hB : hm_MB M63 (l.length + 11) := hB.mono (Nat.le_succ _)
  obtain ⟨M65, e66, hF⟩ := hl_some hF
  have hB : hm_MB M65 (l.length + 11) := by rw [e66]; exact hB.wR (hm_lea hv0.2 11) (hm_leb l.length (Nat.le_of_ble_eq_true rfl : 11 ≤ 11))
  have hB : hm_MB M65 (l.length + 12) := hB.mono (Nat.le_succ _)
  obtain ⟨M67, e68, hF⟩ := hl_some hF
  have hB : hm_MB M67 (l.length + 12) := by rw [e68]; exact hB.wR (hm_lea hv0.2 12) (hm_leb l.length (Nat.le_of_ble_eq_true rfl : 12 ≤ 12))
  have hB : hm_MB M67 (l.length + 13) := hB.mono (Nat.le_succ _)
  obtain ⟨M69, e70, hF⟩ := hl_some hF
  have hB : hm_MB M69 (l.length + 13) := by rw [e70]; exact hB.wR (hm_lea hv0.2 13) (hm_leb l.length (Nat.le_of_ble_eq_true rfl : 13 ≤ 13))
  have hB : hm_MB M69 (l.length + 14) := hB.mono (Nat.le_succ _)
  obtain ⟨M71, e72, hF⟩ := hl_some hF
  have hB : hm_MB M71 (l.length + 14) := by rw [e72]; exact hB.wR (hm_lea hv0.2 14) (hm_leb l.length (Nat.le_of_ble_eq_true rfl : 14 ≤ 14))
  have hB : hm_MB M71 (l.length + 15) := hB.mono (Nat.le_succ _)
  obtain ⟨M73, e74, hF⟩ := hl_some hF
  have hB : hm_MB M73 (l.length + 15) := by rw [e74]; exact hB.wR (hm_lea hv0.2 15) (hm_leb l.length (Nat.le_of_ble_eq_true rfl : 15 ≤ 15))
  have hB : hm_MB M73 (l.length + 16) := hB.mono (Nat.le_succ _)
  obtain ⟨M75, e76, hF⟩ := hl_some hF
  have hB : hm_MB M75 (l.length + 16) := by rw [e76]; exact hB.wR (hm_lea hv0.2 16) (hm_leb l.length (Nat.le_of_ble_eq_true rfl : 16 ≤ 16))
  have hB : hm_MB M75 (l.length + 17) := hB.mono (Nat.le_succ _)
  obtain ⟨M77, e78, hF⟩ := hl_some hF
  have hB : hm_MB M77 (l.length + 17) := by rw [e78]; exact hB.wR (hm_lea hv0.2 17) (hm_leb l.length (Nat.le_of_ble_eq_true rfl : 17 ≤ 17))
  have hB : hm_MB M77 (l.length + 18) := hB.mono (Nat.le_succ _)
  obtain ⟨M79, e80, hF⟩ := hl_some hF
  have hB : hm_MB M79 (l.length + 18) := by rw [e80]; exact hB.wR (hm_lea hv0.2 18) (hm_leb l.length (Nat.le_of_ble_eq_true rfl : 18 ≤ 18))
  have hB : hm_MB M79 (l.length + 19) := hB.mono (Nat.le_succ _)
  obtain ⟨M81, e82, hF⟩ := hl_some hF
  have hB : hm_MB M81 (l.length + 19) := by rw [e82]; exact hB.wR (hm_lea hv0.2 19) (hm_leb l.length (Nat.le_of_ble_eq_true rfl : 19 ≤ 19))
  have hB : hm_MB M81 (l.length + 20) := hB.mono (Nat.le_succ _)
  obtain ⟨M83, e84, hF⟩ := hl_some hF
  have hB : hm_MB M83 (l.length + 20) := by rw [e84]; exact hB.wR (hm_lea hv0.2 20) (hm_leb l.length (Nat.le_of_ble_eq_true rfl : 20 ≤ 20))
  have hB : hm_MB M83 (l.length + 21) := hB.mono (Nat.le_succ _)
  obtain ⟨M85, e86, hF⟩ := hl_some hF
  have hB : hm_MB M85 (l.length + 21) := by rw [e86]; exact hB.wR (hm_lea hv0.2 21) (hm_leb l.length (Nat.le_of_ble_eq_true rfl : 21 ≤ 21))
  have hB : hm_MB M85 (l.length + 22) := hB.mono (Nat.le_succ _)
  obtain ⟨M87, e88, hF⟩ := hl_some hF
  have hB : hm_MB M87 (l.length + 22) := by rw [e88]; exact hB.wR (hm_lea hv0.2 22) (hm_leb l.length (Nat.le_of_ble_eq_true rfl : 22 ≤ 22))
  obtain ⟨g89, hF⟩ := hg_some hF
  obtain ⟨g90, hF⟩ := hg_some hF
  obtain ⟨M91, e92, hF⟩ := hl_some hF
  have hB : hm_MB M91 (l.length + 22) := by rw [e92]; exact hB.wI (hm_leb l.length (Nat.le_of_ble_eq_true rfl : 6 ≤ 22))
  obtain ⟨g93, hF⟩ := hg_some hF
  obtain ⟨g94, hF⟩ := hg_some hF
  obtain ⟨M95, e96, hF⟩ := hl_some hF
  have hB : hm_MB M95 (l.length + 22) := by rw [e96]; exact hB.wI (hm_leb l.length (Nat.le_of_ble_eq_true rfl : 6 ≤ 22))
  obtain ⟨g97, hF⟩ := hg_some hF
  obtain ⟨g98, hF⟩ := hg_some hF
  obtain ⟨M99, e100, hF⟩ := hl_some hF
  have hB : hm_MB M99 (l.length + 22) := by rw [e100]; exact hB.wI (hm_leb l.length (Nat.le_of_ble_eq_true rfl : 6 ≤ 22))
  obtain ⟨g101, hF⟩ := hg_some hF
  obtain ⟨g102, hF⟩ := hg_some hF
  obtain ⟨M103, e104, hF⟩ := hl_some hF
  have hB : hm_MB M103 (l.length + 22) := by rw [e104]; exact hB.wI (hm_leb l.length (Nat.le_of_ble_eq_true rfl : 6 ≤ 22))
  obtain ⟨g105, hF⟩ := hg_some hF
  obtain ⟨g106, hF⟩ := hg_some hF
  obtain ⟨M107, e108, hF⟩ := hl_some hF
  have hB : hm_MB M107 (l.length + 22) := by rw [e108]; exact hB.wI (hm_leb l.length (Nat.le_of_ble_eq_true rfl : 6 ≤ 22))
  obtain ⟨g109, hF⟩ := hg_some hF
  obtain ⟨g110, hF⟩ := hg_some hF
  obtain ⟨M111, e112, hF⟩ := hl_some hF
  have hB : hm_MB M111 (l.length + 22) := by rw [e112]; exact hB.wI (hm_leb l.length (Nat.le_of_ble_eq_true rfl : 6 ≤ 22))
  obtain rfl := hr_somev hF
  rw [List.length_append]; exact hB
