/-! by program: the words of allocation -/
theorem ac_int : Cond.arrayClass .int ∈ gW := gW_c1 108 rfl rfl
theorem ac_long : Cond.arrayClass .long ∈ gW := gW_c1 107 rfl rfl
theorem ac_byte : Cond.arrayClass .byte ∈ gW := gW_c1 75 rfl rfl
theorem ac_boolean : Cond.arrayClass .boolean ∈ gW := gW_c6 86 rfl rfl
theorem oi_inst : Cond.instanceMethod objectInit ∈ gW := gW_c1 33 rfl rfl
theorem oi_code : Cond.code objectInit ⟨#[0xb1]⟩ 1 none ∈ gW := gW_c1 34 rfl rfl
theorem ol_X11_3 : Cond.methodLink RX11 3 objectInit ∈ gW := gW_c1 32 rfl rfl
theorem ol_X0_3 : Cond.methodLink RX0 3 objectInit ∈ gW := gW_c1 81 rfl rfl
theorem ol_X1_3 : Cond.methodLink RX1 3 objectInit ∈ gW := gW_c2 35 rfl rfl
theorem ol_X2_3 : Cond.methodLink RX2 3 objectInit ∈ gW := gW_c2 3 rfl rfl
theorem ol_X3_3 : Cond.methodLink RX3 3 objectInit ∈ gW := gW_c1 87 rfl rfl
theorem ol_X4_3 : Cond.methodLink RX4 3 objectInit ∈ gW := gW_c1 216 rfl rfl
theorem ol_X5_3 : Cond.methodLink RX5 3 objectInit ∈ gW := gW_c1 40 rfl rfl
theorem ol_X6_5 : Cond.methodLink RX6 5 objectInit ∈ gW := gW_c2 55 rfl rfl
theorem ol_X7_3 : Cond.methodLink RX7 3 objectInit ∈ gW := gW_c1 46 rfl rfl
theorem ol_X8_3 : Cond.methodLink RX8 3 objectInit ∈ gW := gW_c2 78 rfl rfl
theorem ol_X9_3 : Cond.methodLink RX9 3 objectInit ∈ gW := gW_c2 120 rfl rfl
theorem ol_X10_3 : Cond.methodLink RX10 3 objectInit ∈ gW := gW_c2 99 rfl rfl
theorem ol_X12_18 : Cond.methodLink RX12 18 objectInit ∈ gW := gW_c5 197 rfl rfl
theorem nw_X11_9 : hm_NW RX11 9 5 5 := ⟨rfl, RX5, TX5, rfl, iw_5, tyX5_ok, by decide +kernel, gW_c1 35 rfl rfl, gW_c1 36 rfl rfl, gW_c1 2 rfl rfl⟩
theorem nw_X11_16 : hm_NW RX11 16 4 4 := ⟨rfl, RX4, TX4, rfl, iw_4, tyX4_ok, by decide +kernel, gW_c1 211 rfl rfl, gW_c1 212 rfl rfl, gW_c1 6 rfl rfl⟩
theorem nw_X11_23 : hm_NW RX11 23 2 6 := ⟨rfl, RX2, TX2, rfl, iw_2, tyX2_ok, by decide +kernel, gW_c1 238 rfl rfl, gW_c1 239 rfl rfl, gW_c1 7 rfl rfl⟩
theorem nw_X11_30 : hm_NW RX11 30 1 4 := ⟨rfl, RX1, TX1, rfl, iw_1, tyX1_ok, by decide +kernel, gW_c2 30 rfl rfl, gW_c2 31 rfl rfl, gW_c1 8 rfl rfl⟩
theorem nw_X11_37 : hm_NW RX11 37 6 5 := ⟨rfl, RX6, TX6, rfl, iw_6, tyX6_ok, by decide +kernel, gW_c2 50 rfl rfl, gW_c2 51 rfl rfl, gW_c1 9 rfl rfl⟩
theorem nw_X11_44 : hm_NW RX11 44 8 4 := ⟨rfl, RX8, TX8, rfl, iw_8, tyX8_ok, by decide +kernel, gW_c2 73 rfl rfl, gW_c2 74 rfl rfl, gW_c1 10 rfl rfl⟩
theorem nw_X11_51 : hm_NW RX11 51 10 4 := ⟨rfl, RX10, TX10, rfl, iw_10, tyX10_ok, by decide +kernel, gW_c2 94 rfl rfl, gW_c2 95 rfl rfl, gW_c1 11 rfl rfl⟩
theorem nw_X11_58 : hm_NW RX11 58 9 3 := ⟨rfl, RX9, TX9, rfl, iw_9, tyX9_ok, by decide +kernel, gW_c2 115 rfl rfl, gW_c2 116 rfl rfl, gW_c1 12 rfl rfl⟩
theorem nw_X0_34 : hm_NW RX0 34 3 6 := ⟨rfl, RX3, TX3, rfl, iw_3, tyX3_ok, by decide +kernel, gW_c1 82 rfl rfl, gW_c1 83 rfl rfl, gW_c1 5 rfl rfl⟩
theorem nw_X4_9 : hm_NW RX4 9 0 13 := ⟨rfl, RX0, TX0, rfl, iw_0, tyX0_ok, by decide +kernel, gW_c1 217 rfl rfl, gW_c1 77 rfl rfl, gW_c1 4 rfl rfl⟩
theorem nw_X5_9 : hm_NW RX5 9 7 7 := ⟨rfl, RX7, TX7, rfl, iw_7, tyX7_ok, by decide +kernel, gW_c1 41 rfl rfl, gW_c1 42 rfl rfl, gW_c1 3 rfl rfl⟩
theorem nw_X5_18 : hm_NW RX5 18 0 13 := ⟨rfl, RX0, TX0, rfl, iw_0, tyX0_ok, by decide +kernel, gW_c1 76 rfl rfl, gW_c1 77 rfl rfl, gW_c1 4 rfl rfl⟩
theorem ml_X11_11 : Cond.methodLink RX11 11 yX5_init ∈ gW := gW_c1 37 rfl rfl
theorem ml_X11_18 : Cond.methodLink RX11 18 yX4_init ∈ gW := gW_c1 213 rfl rfl
theorem ml_X11_25 : Cond.methodLink RX11 25 yX2_init ∈ gW := gW_c2 0 rfl rfl
theorem ml_X11_32 : Cond.methodLink RX11 32 yX1_init ∈ gW := gW_c2 32 rfl rfl
theorem ml_X11_39 : Cond.methodLink RX11 39 yX6_init ∈ gW := gW_c2 52 rfl rfl
theorem ml_X11_46 : Cond.methodLink RX11 46 yX8_init ∈ gW := gW_c2 75 rfl rfl
theorem ml_X11_53 : Cond.methodLink RX11 53 yX10_init ∈ gW := gW_c2 96 rfl rfl
theorem ml_X11_60 : Cond.methodLink RX11 60 yX9_init ∈ gW := gW_c2 117 rfl rfl
theorem ml_X0_36 : Cond.methodLink RX0 36 yX3_init ∈ gW := gW_c1 84 rfl rfl
theorem ml_X4_11 : Cond.methodLink RX4 11 yX0_init ∈ gW := gW_c1 218 rfl rfl
theorem ml_X5_11 : Cond.methodLink RX5 11 yX7_init ∈ gW := gW_c1 43 rfl rfl
theorem ml_X5_20 : Cond.methodLink RX5 20 yX0_init ∈ gW := gW_c1 78 rfl rfl
theorem ni_Tape_init : Cond.instanceMethod yX7_init ∈ gW := gW_c1 44 rfl rfl
theorem ni_Laws_init : Cond.instanceMethod yX3_init ∈ gW := gW_c1 85 rfl rfl
theorem ni_Chapel_init : Cond.instanceMethod yX0_init ∈ gW := gW_c1 79 rfl rfl
theorem ni_Reader_init : Cond.instanceMethod yX5_init ∈ gW := gW_c1 38 rfl rfl
theorem ni_Light_init : Cond.instanceMethod yX4_init ∈ gW := gW_c1 214 rfl rfl
theorem ni_Hold_init : Cond.instanceMethod yX2_init ∈ gW := gW_c2 1 rfl rfl
theorem ni_History_init : Cond.instanceMethod yX1_init ∈ gW := gW_c2 33 rfl rfl
theorem ni_Rents_init : Cond.instanceMethod yX6_init ∈ gW := gW_c2 53 rfl rfl
theorem ni_Trade_init : Cond.instanceMethod yX8_init ∈ gW := gW_c2 76 rfl rfl
theorem ni_Way_init : Cond.instanceMethod yX10_init ∈ gW := gW_c2 97 rfl rfl
theorem ni_Walk_init : Cond.instanceMethod yX9_init ∈ gW := gW_c2 118 rfl rfl
theorem ni_Ps_init : Cond.instanceMethod yX11_init ∈ gW := gW_c1 30 rfl rfl
theorem ni_Md_init : Cond.instanceMethod yX12_init ∈ gW := gW_c5 195 rfl rfl
theorem ow_0 {C : String} {T : u_T} (h : vwCl[0]? = some (C, T, hm_N 0)) : C = RX0 := (congrArg (fun o : Option vw_C => (o.getD ("", TX0, 0)).1) h).symm
theorem ow_1 {C : String} {T : u_T} (h : vwCl[1]? = some (C, T, hm_N 1)) : C = RX1 := (congrArg (fun o : Option vw_C => (o.getD ("", TX0, 0)).1) h).symm
theorem ow_2 {C : String} {T : u_T} (h : vwCl[2]? = some (C, T, hm_N 2)) : C = RX2 := (congrArg (fun o : Option vw_C => (o.getD ("", TX0, 0)).1) h).symm
theorem ow_3 {C : String} {T : u_T} (h : vwCl[3]? = some (C, T, hm_N 3)) : C = RX3 := (congrArg (fun o : Option vw_C => (o.getD ("", TX0, 0)).1) h).symm
theorem ow_4 {C : String} {T : u_T} (h : vwCl[4]? = some (C, T, hm_N 4)) : C = RX4 := (congrArg (fun o : Option vw_C => (o.getD ("", TX0, 0)).1) h).symm
theorem ow_5 {C : String} {T : u_T} (h : vwCl[5]? = some (C, T, hm_N 5)) : C = RX5 := (congrArg (fun o : Option vw_C => (o.getD ("", TX0, 0)).1) h).symm
theorem ow_6 {C : String} {T : u_T} (h : vwCl[6]? = some (C, T, hm_N 6)) : C = RX6 := (congrArg (fun o : Option vw_C => (o.getD ("", TX0, 0)).1) h).symm
theorem ow_7 {C : String} {T : u_T} (h : vwCl[7]? = some (C, T, hm_N 7)) : C = RX7 := (congrArg (fun o : Option vw_C => (o.getD ("", TX0, 0)).1) h).symm
theorem ow_8 {C : String} {T : u_T} (h : vwCl[8]? = some (C, T, hm_N 8)) : C = RX8 := (congrArg (fun o : Option vw_C => (o.getD ("", TX0, 0)).1) h).symm
theorem ow_9 {C : String} {T : u_T} (h : vwCl[9]? = some (C, T, hm_N 9)) : C = RX9 := (congrArg (fun o : Option vw_C => (o.getD ("", TX0, 0)).1) h).symm
theorem ow_10 {C : String} {T : u_T} (h : vwCl[10]? = some (C, T, hm_N 10)) : C = RX10 := (congrArg (fun o : Option vw_C => (o.getD ("", TX0, 0)).1) h).symm
theorem ow_11 {C : String} {T : u_T} (h : vwCl[11]? = some (C, T, hm_N 11)) : C = RX11 := (congrArg (fun o : Option vw_C => (o.getD ("", TX0, 0)).1) h).symm
theorem ow_12 {C : String} {T : u_T} (h : vwCl[12]? = some (C, T, hm_N 12)) : C = RX12 := (congrArg (fun o : Option vw_C => (o.getD ("", TX0, 0)).1) h).symm
theorem cw_X11_23 : Cond.classLink RX11 23 "PaneSpots$Hold" ∈ gW := gW_c1 238 rfl rfl
theorem vi_0 {n : Nat} (h : 0 < n) : vp_in (0 : Int32) n := by
  rintro (h1 | h1)
  · exact absurd h1 (by decide)
  · exact absurd h1 (by have : (0 : Int32).toNatClampNeg = 0 := by decide
                        omega)
theorem vi_1 {n : Nat} (h : 1 < n) : vp_in (1 : Int32) n := by
  rintro (h1 | h1)
  · exact absurd h1 (by decide)
  · exact absurd h1 (by have : (1 : Int32).toNatClampNeg = 1 := by decide
                        omega)
theorem vi_2 {n : Nat} (h : 2 < n) : vp_in (2 : Int32) n := by
  rintro (h1 | h1)
  · exact absurd h1 (by decide)
  · exact absurd h1 (by have : (2 : Int32).toNatClampNeg = 2 := by decide
                        omega)
theorem vi_3 {n : Nat} (h : 3 < n) : vp_in (3 : Int32) n := by
  rintro (h1 | h1)
  · exact absurd h1 (by decide)
  · exact absurd h1 (by have : (3 : Int32).toNatClampNeg = 3 := by decide
                        omega)
theorem vi_4 {n : Nat} (h : 4 < n) : vp_in (4 : Int32) n := by
  rintro (h1 | h1)
  · exact absurd h1 (by decide)
  · exact absurd h1 (by have : (4 : Int32).toNatClampNeg = 4 := by decide
                        omega)
theorem vi_5 {n : Nat} (h : 5 < n) : vp_in (5 : Int32) n := by
  rintro (h1 | h1)
  · exact absurd h1 (by decide)
  · exact absurd h1 (by have : (5 : Int32).toNatClampNeg = 5 := by decide
                        omega)
theorem vi_6 {n : Nat} (h : 6 < n) : vp_in (6 : Int32) n := by
  rintro (h1 | h1)
  · exact absurd h1 (by decide)
  · exact absurd h1 (by have : (6 : Int32).toNatClampNeg = 6 := by decide
                        omega)
theorem vi_7 {n : Nat} (h : 7 < n) : vp_in (7 : Int32) n := by
  rintro (h1 | h1)
  · exact absurd h1 (by decide)
  · exact absurd h1 (by have : (7 : Int32).toNatClampNeg = 7 := by decide
                        omega)
theorem vi_8 {n : Nat} (h : 8 < n) : vp_in (8 : Int32) n := by
  rintro (h1 | h1)
  · exact absurd h1 (by decide)
  · exact absurd h1 (by have : (8 : Int32).toNatClampNeg = 8 := by decide
                        omega)
theorem vi_9 {n : Nat} (h : 9 < n) : vp_in (9 : Int32) n := by
  rintro (h1 | h1)
  · exact absurd h1 (by decide)
  · exact absurd h1 (by have : (9 : Int32).toNatClampNeg = 9 := by decide
                        omega)
theorem vi_10 {n : Nat} (h : 10 < n) : vp_in (10 : Int32) n := by
  rintro (h1 | h1)
  · exact absurd h1 (by decide)
  · exact absurd h1 (by have : (10 : Int32).toNatClampNeg = 10 := by decide
                        omega)
theorem vi_11 {n : Nat} (h : 11 < n) : vp_in (11 : Int32) n := by
  rintro (h1 | h1)
  · exact absurd h1 (by decide)
  · exact absurd h1 (by have : (11 : Int32).toNatClampNeg = 11 := by decide
                        omega)
theorem vi_12 {n : Nat} (h : 12 < n) : vp_in (12 : Int32) n := by
  rintro (h1 | h1)
  · exact absurd h1 (by decide)
  · exact absurd h1 (by have : (12 : Int32).toNatClampNeg = 12 := by decide
                        omega)
theorem vi_13 {n : Nat} (h : 13 < n) : vp_in (13 : Int32) n := by
  rintro (h1 | h1)
  · exact absurd h1 (by decide)
  · exact absurd h1 (by have : (13 : Int32).toNatClampNeg = 13 := by decide
                        omega)
theorem vi_14 {n : Nat} (h : 14 < n) : vp_in (14 : Int32) n := by
  rintro (h1 | h1)
  · exact absurd h1 (by decide)
  · exact absurd h1 (by have : (14 : Int32).toNatClampNeg = 14 := by decide
                        omega)
theorem vi_15 {n : Nat} (h : 15 < n) : vp_in (15 : Int32) n := by
  rintro (h1 | h1)
  · exact absurd h1 (by decide)
  · exact absurd h1 (by have : (15 : Int32).toNatClampNeg = 15 := by decide
                        omega)
theorem vi_16 {n : Nat} (h : 16 < n) : vp_in (16 : Int32) n := by
  rintro (h1 | h1)
  · exact absurd h1 (by decide)
  · exact absurd h1 (by have : (16 : Int32).toNatClampNeg = 16 := by decide
                        omega)
theorem vi_17 {n : Nat} (h : 17 < n) : vp_in (17 : Int32) n := by
  rintro (h1 | h1)
  · exact absurd h1 (by decide)
  · exact absurd h1 (by have : (17 : Int32).toNatClampNeg = 17 := by decide
                        omega)
theorem vi_18 {n : Nat} (h : 18 < n) : vp_in (18 : Int32) n := by
  rintro (h1 | h1)
  · exact absurd h1 (by decide)
  · exact absurd h1 (by have : (18 : Int32).toNatClampNeg = 18 := by decide
                        omega)
theorem vi_19 {n : Nat} (h : 19 < n) : vp_in (19 : Int32) n := by
  rintro (h1 | h1)
  · exact absurd h1 (by decide)
  · exact absurd h1 (by have : (19 : Int32).toNatClampNeg = 19 := by decide
                        omega)
theorem vi_20 {n : Nat} (h : 20 < n) : vp_in (20 : Int32) n := by
  rintro (h1 | h1)
  · exact absurd h1 (by decide)
  · exact absurd h1 (by have : (20 : Int32).toNatClampNeg = 20 := by decide
                        omega)
theorem vi_21 {n : Nat} (h : 21 < n) : vp_in (21 : Int32) n := by
  rintro (h1 | h1)
  · exact absurd h1 (by decide)
  · exact absurd h1 (by have : (21 : Int32).toNatClampNeg = 21 := by decide
                        omega)
theorem vi_65 {n : Nat} (h : 65 < n) : vp_in (65 : Int32) n := by
  rintro (h1 | h1)
  · exact absurd h1 (by decide)
  · exact absurd h1 (by have : (65 : Int32).toNatClampNeg = 65 := by decide
                        omega)
theorem vi_66 {n : Nat} (h : 66 < n) : vp_in (66 : Int32) n := by
  rintro (h1 | h1)
  · exact absurd h1 (by decide)
  · exact absurd h1 (by have : (66 : Int32).toNatClampNeg = 66 := by decide
                        omega)
theorem vi_67 {n : Nat} (h : 67 < n) : vp_in (67 : Int32) n := by
  rintro (h1 | h1)
  · exact absurd h1 (by decide)
  · exact absurd h1 (by have : (67 : Int32).toNatClampNeg = 67 := by decide
                        omega)
theorem vi_68 {n : Nat} (h : 68 < n) : vp_in (68 : Int32) n := by
  rintro (h1 | h1)
  · exact absurd h1 (by decide)
  · exact absurd h1 (by have : (68 : Int32).toNatClampNeg = 68 := by decide
                        omega)
