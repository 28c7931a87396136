/-! by program: the law's cases -/
theorem mi_Ps_best : hm_MI yX11_best := ⟨gW_c4 142 rfl rfl, gW_c4 143 rfl rfl⟩
theorem mi_Ps_breaks : hm_MI yX11_breaks := ⟨gW_c4 178 rfl rfl, gW_c4 179 rfl rfl⟩
theorem mi_Ps_candles : hm_MI yX11_candles := ⟨gW_c5 20 rfl rfl, gW_c5 21 rfl rfl⟩
theorem mi_Ps_chapel : hm_MI yX11_chapel := ⟨gW_c2 175 rfl rfl, gW_c2 176 rfl rfl⟩
theorem mi_Ps_clear : hm_MI yX11_clear := ⟨gW_c5 38 rfl rfl, gW_c5 39 rfl rfl⟩
theorem mi_Ps_count : hm_MI yX11_count := ⟨gW_c5 100 rfl rfl, gW_c5 101 rfl rfl⟩
theorem mi_Ps_exchange : hm_MI yX11_exchange := ⟨gW_c4 165 rfl rfl, gW_c4 166 rfl rfl⟩
theorem mi_Ps_fallen : hm_MI yX11_fallen := ⟨gW_c4 186 rfl rfl, gW_c4 187 rfl rfl⟩
theorem mi_Ps_falls : hm_MI yX11_falls := ⟨gW_c4 201 rfl rfl, gW_c4 202 rfl rfl⟩
theorem mi_Ps_feed : hm_MI yX11_feed := ⟨gW_c2 164 rfl rfl, gW_c2 165 rfl rfl⟩
theorem mi_Ps_gain : hm_MI yX11_gain := ⟨gW_c4 129 rfl rfl, gW_c4 130 rfl rfl⟩
theorem mi_Ps_guild : hm_MI yX11_guild := ⟨gW_c3 209 rfl rfl, gW_c3 210 rfl rfl⟩
theorem mi_Ps_mark : hm_MI yX11_mark := ⟨gW_c5 92 rfl rfl, gW_c5 93 rfl rfl⟩
theorem mi_Ps_pane : hm_MI yX11_pane := ⟨gW_c3 221 rfl rfl, gW_c3 222 rfl rfl⟩
theorem mi_Ps_place : hm_MI yX11_place := ⟨gW_c4 42 rfl rfl, gW_c4 43 rfl rfl⟩
theorem mi_Ps_rents : hm_MI yX11_rents := ⟨gW_c4 112 rfl rfl, gW_c4 113 rfl rfl⟩
theorem mi_Ps_see : hm_MI yX11_see := ⟨gW_c5 12 rfl rfl, gW_c5 13 rfl rfl⟩
theorem mi_Ps_spot : hm_MI yX11_spot := ⟨gW_c3 233 rfl rfl, gW_c3 234 rfl rfl⟩
theorem mi_Ps_stains : hm_MI yX11_stains := ⟨gW_c5 42 rfl rfl, gW_c5 43 rfl rfl⟩
theorem mi_Ps_stall : hm_MI yX11_stall := ⟨gW_c4 215 rfl rfl, gW_c4 216 rfl rfl⟩
theorem mi_Ps_stood : hm_MI yX11_stood := ⟨gW_c5 72 rfl rfl, gW_c5 73 rfl rfl⟩
theorem mi_Ps_undo : hm_MI yX11_undo := ⟨gW_c4 205 rfl rfl, gW_c4 206 rfl rfl⟩
theorem mi_Ps_when : hm_MI yX11_when := ⟨gW_c5 34 rfl rfl, gW_c5 35 rfl rfl⟩
theorem mi_Ps_worth : hm_MI yX11_worth := ⟨gW_c4 121 rfl rfl, gW_c4 122 rfl rfl⟩
theorem mi_Ps_yields : hm_MI yX11_yields := ⟨gW_c4 70 rfl rfl, gW_c4 71 rfl rfl⟩
theorem mi_Md_best : hm_MI yX12_best := ⟨gW_c7 87 rfl rfl, gW_c7 88 rfl rfl⟩
theorem mi_Md_breaks : hm_MI yX12_breaks := ⟨gW_c7 107 rfl rfl, gW_c7 108 rfl rfl⟩
theorem mi_Md_candles : hm_MI yX12_candles := ⟨gW_c7 159 rfl rfl, gW_c7 160 rfl rfl⟩
theorem mi_Md_chapel : hm_MI yX12_chapel := ⟨gW_c6 88 rfl rfl, gW_c6 89 rfl rfl⟩
theorem mi_Md_clear : hm_MI yX12_clear := ⟨gW_c7 155 rfl rfl, gW_c7 156 rfl rfl⟩
theorem mi_Md_clouded : hm_MI yX12_clouded := ⟨gW_c7 191 rfl rfl, gW_c7 192 rfl rfl⟩
theorem mi_Md_count : hm_MI yX12_count := ⟨gW_c7 207 rfl rfl, gW_c7 208 rfl rfl⟩
theorem mi_Md_exchange : hm_MI yX12_exchange := ⟨gW_c7 95 rfl rfl, gW_c7 96 rfl rfl⟩
theorem mi_Md_fallen : hm_MI yX12_fallen := ⟨gW_c7 111 rfl rfl, gW_c7 112 rfl rfl⟩
theorem mi_Md_falls : hm_MI yX12_falls := ⟨gW_c7 119 rfl rfl, gW_c7 120 rfl rfl⟩
theorem mi_Md_feed : hm_MI yX12_feed := ⟨gW_c5 185 rfl rfl, gW_c5 186 rfl rfl⟩
theorem mi_Md_gain : hm_MI yX12_gain := ⟨gW_c7 75 rfl rfl, gW_c7 76 rfl rfl⟩
theorem mi_Md_guild : hm_MI yX12_guild := ⟨gW_c6 207 rfl rfl, gW_c6 208 rfl rfl⟩
theorem mi_Md_mark : hm_MI yX12_mark := ⟨gW_c7 203 rfl rfl, gW_c7 204 rfl rfl⟩
theorem mi_Md_pane : hm_MI yX12_pane := ⟨gW_c6 230 rfl rfl, gW_c6 231 rfl rfl⟩
theorem mi_Md_place : hm_MI yX12_place := ⟨gW_c7 32 rfl rfl, gW_c7 33 rfl rfl⟩
theorem mi_Md_rents : hm_MI yX12_rents := ⟨gW_c7 56 rfl rfl, gW_c7 57 rfl rfl⟩
theorem mi_Md_see : hm_MI yX12_see := ⟨gW_c7 147 rfl rfl, gW_c7 148 rfl rfl⟩
theorem mi_Md_spot : hm_MI yX12_spot := ⟨gW_c7 6 rfl rfl, gW_c7 7 rfl rfl⟩
theorem mi_Md_stains : hm_MI yX12_stains := ⟨gW_c7 171 rfl rfl, gW_c7 172 rfl rfl⟩
theorem mi_Md_stall : hm_MI yX12_stall := ⟨gW_c7 127 rfl rfl, gW_c7 128 rfl rfl⟩
theorem mi_Md_stood : hm_MI yX12_stood := ⟨gW_c7 187 rfl rfl, gW_c7 188 rfl rfl⟩
theorem mi_Md_thrown : hm_MI yX12_thrown := ⟨gW_c5 181 rfl rfl, gW_c5 182 rfl rfl⟩
theorem mi_Md_undo : hm_MI yX12_undo := ⟨gW_c7 123 rfl rfl, gW_c7 124 rfl rfl⟩
theorem mi_Md_when : hm_MI yX12_when := ⟨gW_c7 167 rfl rfl, gW_c7 168 rfl rfl⟩
theorem mi_Md_worth : hm_MI yX12_worth := ⟨gW_c7 64 rfl rfl, gW_c7 65 rfl rfl⟩
theorem mi_Md_yields : hm_MI yX12_yields := ⟨gW_c7 40 rfl rfl, gW_c7 41 rfl rfl⟩
theorem ml_L_21 : Cond.methodLink RL 21 yX11_feed ∈ gW := gW_c2 163 rfl rfl
theorem ml_L_25 : Cond.methodLink RL 25 yX12_feed ∈ gW := gW_c5 184 rfl rfl
theorem ml_L_26 : Cond.methodLink RL 26 yX11_chapel ∈ gW := gW_c2 174 rfl rfl
theorem ml_L_30 : Cond.methodLink RL 30 yX12_chapel ∈ gW := gW_c6 87 rfl rfl
theorem ml_L_31 : Cond.methodLink RL 31 yX11_guild ∈ gW := gW_c3 208 rfl rfl
theorem ml_L_34 : Cond.methodLink RL 34 yX12_guild ∈ gW := gW_c6 206 rfl rfl
theorem ml_L_35 : Cond.methodLink RL 35 yX11_pane ∈ gW := gW_c3 220 rfl rfl
theorem ml_L_38 : Cond.methodLink RL 38 yX12_pane ∈ gW := gW_c6 229 rfl rfl
theorem ml_L_39 : Cond.methodLink RL 39 yX11_spot ∈ gW := gW_c3 232 rfl rfl
theorem ml_L_43 : Cond.methodLink RL 43 yX12_spot ∈ gW := gW_c7 5 rfl rfl
theorem ml_L_44 : Cond.methodLink RL 44 yX11_place ∈ gW := gW_c4 41 rfl rfl
theorem ml_L_48 : Cond.methodLink RL 48 yX12_place ∈ gW := gW_c7 31 rfl rfl
theorem ml_L_49 : Cond.methodLink RL 49 yX11_yields ∈ gW := gW_c4 69 rfl rfl
theorem ml_L_53 : Cond.methodLink RL 53 yX12_yields ∈ gW := gW_c7 39 rfl rfl
theorem ml_L_54 : Cond.methodLink RL 54 yX11_rents ∈ gW := gW_c4 111 rfl rfl
theorem ml_L_57 : Cond.methodLink RL 57 yX12_rents ∈ gW := gW_c7 55 rfl rfl
theorem ml_L_58 : Cond.methodLink RL 58 yX11_worth ∈ gW := gW_c4 120 rfl rfl
theorem ml_L_61 : Cond.methodLink RL 61 yX12_worth ∈ gW := gW_c7 63 rfl rfl
theorem ml_L_62 : Cond.methodLink RL 62 yX11_gain ∈ gW := gW_c4 128 rfl rfl
theorem ml_L_65 : Cond.methodLink RL 65 yX12_gain ∈ gW := gW_c7 74 rfl rfl
theorem ml_L_66 : Cond.methodLink RL 66 yX11_best ∈ gW := gW_c4 141 rfl rfl
theorem ml_L_69 : Cond.methodLink RL 69 yX12_best ∈ gW := gW_c7 86 rfl rfl
theorem ml_L_70 : Cond.methodLink RL 70 yX11_exchange ∈ gW := gW_c4 164 rfl rfl
theorem ml_L_74 : Cond.methodLink RL 74 yX12_exchange ∈ gW := gW_c7 94 rfl rfl
theorem ml_L_75 : Cond.methodLink RL 75 yX11_breaks ∈ gW := gW_c4 177 rfl rfl
theorem ml_L_79 : Cond.methodLink RL 79 yX12_breaks ∈ gW := gW_c7 106 rfl rfl
theorem ml_L_80 : Cond.methodLink RL 80 yX11_fallen ∈ gW := gW_c4 185 rfl rfl
theorem ml_L_83 : Cond.methodLink RL 83 yX12_fallen ∈ gW := gW_c7 110 rfl rfl
theorem ml_L_84 : Cond.methodLink RL 84 yX11_falls ∈ gW := gW_c4 200 rfl rfl
theorem ml_L_87 : Cond.methodLink RL 87 yX12_falls ∈ gW := gW_c7 118 rfl rfl
theorem ml_L_88 : Cond.methodLink RL 88 yX11_undo ∈ gW := gW_c4 204 rfl rfl
theorem ml_L_92 : Cond.methodLink RL 92 yX12_undo ∈ gW := gW_c7 122 rfl rfl
theorem ml_L_93 : Cond.methodLink RL 93 yX11_stall ∈ gW := gW_c4 214 rfl rfl
theorem ml_L_96 : Cond.methodLink RL 96 yX12_stall ∈ gW := gW_c7 126 rfl rfl
theorem ml_L_97 : Cond.methodLink RL 97 yX11_see ∈ gW := gW_c5 11 rfl rfl
theorem ml_L_100 : Cond.methodLink RL 100 yX12_see ∈ gW := gW_c7 146 rfl rfl
theorem ml_L_101 : Cond.methodLink RL 101 yX11_candles ∈ gW := gW_c5 19 rfl rfl
theorem ml_L_104 : Cond.methodLink RL 104 yX12_candles ∈ gW := gW_c7 158 rfl rfl
theorem ml_L_105 : Cond.methodLink RL 105 yX11_when ∈ gW := gW_c5 33 rfl rfl
theorem ml_L_108 : Cond.methodLink RL 108 yX12_when ∈ gW := gW_c7 166 rfl rfl
theorem ml_L_109 : Cond.methodLink RL 109 yX11_clear ∈ gW := gW_c5 37 rfl rfl
theorem ml_L_112 : Cond.methodLink RL 112 yX12_clear ∈ gW := gW_c7 154 rfl rfl
theorem ml_L_113 : Cond.methodLink RL 113 yX11_stains ∈ gW := gW_c5 41 rfl rfl
theorem ml_L_117 : Cond.methodLink RL 117 yX12_stains ∈ gW := gW_c7 170 rfl rfl
theorem ml_L_118 : Cond.methodLink RL 118 yX11_stood ∈ gW := gW_c5 71 rfl rfl
theorem ml_L_122 : Cond.methodLink RL 122 yX12_stood ∈ gW := gW_c7 186 rfl rfl
theorem ml_L_128 : Cond.methodLink RL 128 yX12_clouded ∈ gW := gW_c7 190 rfl rfl
theorem ml_L_129 : Cond.methodLink RL 129 yX12_thrown ∈ gW := gW_c5 180 rfl rfl
theorem ml_L_132 : Cond.methodLink RL 132 yX11_mark ∈ gW := gW_c5 91 rfl rfl
theorem ml_L_135 : Cond.methodLink RL 135 yX12_mark ∈ gW := gW_c7 202 rfl rfl
theorem ml_L_136 : Cond.methodLink RL 136 yX11_count ∈ gW := gW_c5 99 rfl rfl
theorem ml_L_139 : Cond.methodLink RL 139 yX12_count ∈ gW := gW_c7 206 rfl rfl
theorem cl_L_19 : Cond.constantLong RL 19 (4294967295) ∈ gW := gW_c7 210 rfl rfl
def fL_0 (S : hm_S) (xs : Nat → Int32) (L : Nat) (i : Int32) (M : hm_M) : Option hm_M :=
  hg (hm_in (i + (1 : Int32)) L = true) <| hg (hm_in (i + (2 : Int32)) L = true) <| hg (hm_in (i + (3 : Int32)) L = true) <|
  hg (hm_in (i + (4 : Int32)) L = true) <| hg (hm_in (i + (5 : Int32)) L = true) <| hg (hm_in (i + (6 : Int32)) L = true) <|
  hg (S 1 = some (.inr 11)) <|
  hb (f_Ps_feed S 1 (((xs (i + (1 : Int32)).toNatClampNeg).toInt64 <<< ((32 : Int32).toInt64 &&& 63)) ||| ((xs (i + (2 : Int32)).toNatClampNeg).toInt64 &&& (4294967295 : Int64))) (((xs (i + (3 : Int32)).toNatClampNeg).toInt64 <<< ((32 : Int32).toInt64 &&& 63)) ||| ((xs (i + (4 : Int32)).toNatClampNeg).toInt64 &&& (4294967295 : Int64))) (((xs (i + (5 : Int32)).toNatClampNeg).toInt64 <<< ((32 : Int32).toInt64 &&& 63)) ||| ((xs (i + (6 : Int32)).toNatClampNeg).toInt64 &&& (4294967295 : Int64))) M) fun r10 M9 =>
  hg (S 76 = some (.inr 12)) <|
  hb (f_Md_feed S 76 (((xs (i + (1 : Int32)).toNatClampNeg).toInt64 <<< ((32 : Int32).toInt64 &&& 63)) ||| ((xs (i + (2 : Int32)).toNatClampNeg).toInt64 &&& (4294967295 : Int64))) (((xs (i + (3 : Int32)).toNatClampNeg).toInt64 <<< ((32 : Int32).toInt64 &&& 63)) ||| ((xs (i + (4 : Int32)).toNatClampNeg).toInt64 &&& (4294967295 : Int64))) (((xs (i + (5 : Int32)).toNatClampNeg).toInt64 <<< ((32 : Int32).toInt64 &&& 63)) ||| ((xs (i + (6 : Int32)).toNatClampNeg).toInt64 &&& (4294967295 : Int64))) M9) fun r14 M13 =>
  (if r10 = r14 then some M13 else none)
def fL_1 (S : hm_S) (xs : Nat → Int32) (L : Nat) (i : Int32) (M : hm_M) : Option hm_M :=
  hg (S 1 = some (.inr 11)) <| hb (f_Ps_chapel S 1 M) fun r4 M3 => hg (S 76 = some (.inr 12)) <| hb (f_Md_chapel S 76 M3) fun r8 M7 =>
  (if r4 = r8 then some M7 else none)
def fL_2 (S : hm_S) (xs : Nat → Int32) (L : Nat) (i : Int32) (M : hm_M) : Option hm_M :=
  hg (hm_in (i + (1 : Int32)) L = true) <| hg (hm_in (i + (2 : Int32)) L = true) <| hg (S 1 = some (.inr 11)) <|
  hb (f_Ps_guild S 1 (xs (i + (1 : Int32)).toNatClampNeg) (xs (i + (2 : Int32)).toNatClampNeg) M) fun r6 M5 => hg (S 76 = some (.inr 12)) <|
  hb (f_Md_guild S 76 (xs (i + (1 : Int32)).toNatClampNeg) (xs (i + (2 : Int32)).toNatClampNeg) M5) fun r10 M9 => (if r6 = r10 then some M9 else none)
def fL_3 (S : hm_S) (xs : Nat → Int32) (L : Nat) (i : Int32) (M : hm_M) : Option hm_M :=
  hg (hm_in (i + (1 : Int32)) L = true) <| hg (hm_in (i + (2 : Int32)) L = true) <| hg (S 1 = some (.inr 11)) <|
  hb (f_Ps_pane S 1 (xs (i + (1 : Int32)).toNatClampNeg) (xs (i + (2 : Int32)).toNatClampNeg) M) fun r6 M5 => hg (S 76 = some (.inr 12)) <|
  hb (f_Md_pane S 76 (xs (i + (1 : Int32)).toNatClampNeg) (xs (i + (2 : Int32)).toNatClampNeg) M5) fun r10 M9 => (if r6 = r10 then some M9 else none)
def fL_4 (S : hm_S) (xs : Nat → Int32) (L : Nat) (i : Int32) (M : hm_M) : Option hm_M :=
  hg (hm_in (i + (1 : Int32)) L = true) <| hg (hm_in (i + (2 : Int32)) L = true) <| hg (hm_in (i + (3 : Int32)) L = true) <|
  hg (S 1 = some (.inr 11)) <|
  hb (f_Ps_spot S 1 (xs (i + (1 : Int32)).toNatClampNeg) (xs (i + (2 : Int32)).toNatClampNeg) (xs (i + (3 : Int32)).toNatClampNeg) M) fun r7 M6 =>
  hg (S 76 = some (.inr 12)) <|
  hb (f_Md_spot S 76 (xs (i + (1 : Int32)).toNatClampNeg) (xs (i + (2 : Int32)).toNatClampNeg) (xs (i + (3 : Int32)).toNatClampNeg) M6) fun r11 M10 =>
  (if r7 = r11 then some M10 else none)
def fL_5 (S : hm_S) (xs : Nat → Int32) (L : Nat) (i : Int32) (M : hm_M) : Option hm_M :=
  hg (hm_in (i + (1 : Int32)) L = true) <| hg (hm_in (i + (2 : Int32)) L = true) <| hg (hm_in (i + (3 : Int32)) L = true) <|
  hg (hm_in (i + (4 : Int32)) L = true) <| hg (hm_in (i + (5 : Int32)) L = true) <| hg (S 1 = some (.inr 11)) <|
  hb (f_Ps_place S 1 (xs (i + (1 : Int32)).toNatClampNeg) (xs (i + (2 : Int32)).toNatClampNeg) (xs (i + (3 : Int32)).toNatClampNeg) (xs (i + (4 : Int32)).toNatClampNeg) (xs (i + (5 : Int32)).toNatClampNeg) M) fun r9 M8 =>
  hg (S 76 = some (.inr 12)) <|
  hb (f_Md_place S 76 (xs (i + (1 : Int32)).toNatClampNeg) (xs (i + (2 : Int32)).toNatClampNeg) (xs (i + (3 : Int32)).toNatClampNeg) (xs (i + (4 : Int32)).toNatClampNeg) (xs (i + (5 : Int32)).toNatClampNeg) M8) fun r13 M12 =>
  (if r9 = r13 then some M12 else none)
def fL_6 (S : hm_S) (xs : Nat → Int32) (L : Nat) (i : Int32) (M : hm_M) : Option hm_M :=
  hg (hm_in (i + (1 : Int32)) L = true) <| hg (S 1 = some (.inr 11)) <| hb (f_Ps_yields S 1 (xs (i + (1 : Int32)).toNatClampNeg) M) fun r5 M4 =>
  hg (S 76 = some (.inr 12)) <| hb (f_Md_yields S 76 (xs (i + (1 : Int32)).toNatClampNeg) M4) fun r9 M8 => (if r5 = r9 then some M8 else none)
def fL_7 (S : hm_S) (xs : Nat → Int32) (L : Nat) (i : Int32) (M : hm_M) : Option hm_M :=
  hg (hm_in (i + (1 : Int32)) L = true) <| hg (S 1 = some (.inr 11)) <| hb (f_Ps_rents S 1 (xs (i + (1 : Int32)).toNatClampNeg) M) fun r5 M4 =>
  hg (S 76 = some (.inr 12)) <| hb (f_Md_rents S 76 (xs (i + (1 : Int32)).toNatClampNeg) M4) fun r9 M8 => (if r5 = r9 then some M8 else none)
def fL_8 (S : hm_S) (xs : Nat → Int32) (L : Nat) (i : Int32) (M : hm_M) : Option hm_M :=
  hg (hm_in (i + (1 : Int32)) L = true) <| hg (hm_in (i + (2 : Int32)) L = true) <| hg (S 1 = some (.inr 11)) <|
  hb (f_Ps_worth S 1 (xs (i + (1 : Int32)).toNatClampNeg) (xs (i + (2 : Int32)).toNatClampNeg) M) fun r6 M5 => hg (S 76 = some (.inr 12)) <|
  hb (f_Md_worth S 76 (xs (i + (1 : Int32)).toNatClampNeg) (xs (i + (2 : Int32)).toNatClampNeg) M5) fun r10 M9 => (if r6 = r10 then some M9 else none)
def fL_9 (S : hm_S) (xs : Nat → Int32) (L : Nat) (i : Int32) (M : hm_M) : Option hm_M :=
  hg (hm_in (i + (1 : Int32)) L = true) <| hg (hm_in (i + (2 : Int32)) L = true) <| hg (S 1 = some (.inr 11)) <|
  hb (f_Ps_gain S 1 (xs (i + (1 : Int32)).toNatClampNeg) (xs (i + (2 : Int32)).toNatClampNeg) M) fun r6 M5 => hg (S 76 = some (.inr 12)) <|
  hb (f_Md_gain S 76 (xs (i + (1 : Int32)).toNatClampNeg) (xs (i + (2 : Int32)).toNatClampNeg) M5) fun r10 M9 => (if r6 = r10 then some M9 else none)
def fL_10 (S : hm_S) (xs : Nat → Int32) (L : Nat) (i : Int32) (M : hm_M) : Option hm_M :=
  hg (hm_in (i + (1 : Int32)) L = true) <| hg (S 1 = some (.inr 11)) <| hb (f_Ps_best S 1 (xs (i + (1 : Int32)).toNatClampNeg) M) fun r5 M4 =>
  hg (S 76 = some (.inr 12)) <| hb (f_Md_best S 76 (xs (i + (1 : Int32)).toNatClampNeg) M4) fun r9 M8 => (if r5 = r9 then some M8 else none)
def fL_11 (S : hm_S) (xs : Nat → Int32) (L : Nat) (i : Int32) (M : hm_M) : Option hm_M :=
  hg (hm_in (i + (1 : Int32)) L = true) <| hg (hm_in (i + (2 : Int32)) L = true) <| hg (S 1 = some (.inr 11)) <|
  hb (f_Ps_exchange S 1 (xs (i + (1 : Int32)).toNatClampNeg) (xs (i + (2 : Int32)).toNatClampNeg) M) fun r6 M5 => hg (S 76 = some (.inr 12)) <|
  hb (f_Md_exchange S 76 (xs (i + (1 : Int32)).toNatClampNeg) (xs (i + (2 : Int32)).toNatClampNeg) M5) fun r10 M9 => (if r6 = r10 then some M9
  else none)
def fL_12 (S : hm_S) (xs : Nat → Int32) (L : Nat) (i : Int32) (M : hm_M) : Option hm_M :=
  hg (hm_in (i + (1 : Int32)) L = true) <| hg (hm_in (i + (2 : Int32)) L = true) <| (if (xs (i + (2 : Int32)).toNatClampNeg) = 0 then
  hg (S 1 = some (.inr 11)) <| hb (f_Ps_breaks S 1 (xs (i + (1 : Int32)).toNatClampNeg) (0 : Int32) M) fun r7 M6 =>
  (if (xs (i + (2 : Int32)).toNatClampNeg) = 0 then hg (S 76 = some (.inr 12)) <|
  hb (f_Md_breaks S 76 (xs (i + (1 : Int32)).toNatClampNeg) (0 : Int32) M6) fun r12 M11 => (if r7 = r12 then some M11 else none)
  else hg (S 76 = some (.inr 12)) <| hb (f_Md_breaks S 76 (xs (i + (1 : Int32)).toNatClampNeg) (1 : Int32) M6) fun r17 M16 => (if r7 = r17 then
  some M16 else none)) else hg (S 1 = some (.inr 11)) <| hb (f_Ps_breaks S 1 (xs (i + (1 : Int32)).toNatClampNeg) (1 : Int32) M) fun r22 M21 =>
  (if (xs (i + (2 : Int32)).toNatClampNeg) = 0 then hg (S 76 = some (.inr 12)) <|
  hb (f_Md_breaks S 76 (xs (i + (1 : Int32)).toNatClampNeg) (0 : Int32) M21) fun r27 M26 => (if r22 = r27 then some M26 else none)
  else hg (S 76 = some (.inr 12)) <| hb (f_Md_breaks S 76 (xs (i + (1 : Int32)).toNatClampNeg) (1 : Int32) M21) fun r32 M31 => (if r22 = r32 then
  some M31 else none)))
def fL_13 (S : hm_S) (xs : Nat → Int32) (L : Nat) (i : Int32) (M : hm_M) : Option hm_M :=
  hg (S 1 = some (.inr 11)) <| hb (f_Ps_fallen S 1 M) fun r4 M3 => hg (S 76 = some (.inr 12)) <| hb (f_Md_fallen S 76 M3) fun r8 M7 =>
  (if r4 = r8 then some M7 else none)
def fL_14 (S : hm_S) (xs : Nat → Int32) (L : Nat) (i : Int32) (M : hm_M) : Option hm_M :=
  hg (hm_in (i + (1 : Int32)) L = true) <| hg (S 1 = some (.inr 11)) <| hb (f_Ps_falls S 1 (xs (i + (1 : Int32)).toNatClampNeg) M) fun r5 M4 =>
  hg (S 76 = some (.inr 12)) <| hb (f_Md_falls S 76 (xs (i + (1 : Int32)).toNatClampNeg) M4) fun r9 M8 => (if r5 = r9 then some M8 else none)
def fL_15 (S : hm_S) (xs : Nat → Int32) (L : Nat) (i : Int32) (M : hm_M) : Option hm_M :=
  hg (S 1 = some (.inr 11)) <| hb (f_Ps_undo S 1 M) fun r4 M3 => hg (S 76 = some (.inr 12)) <| hb (f_Md_undo S 76 M3) fun r8 M7 => (if r4 = r8 then
  some M7 else none)
def fL_16 (S : hm_S) (xs : Nat → Int32) (L : Nat) (i : Int32) (M : hm_M) : Option hm_M :=
  hg (hm_in (i + (1 : Int32)) L = true) <| hg (hm_in (i + (2 : Int32)) L = true) <| hg (hm_in (i + (3 : Int32)) L = true) <|
  hg (hm_in (i + (4 : Int32)) L = true) <| hg (hm_in (i + (5 : Int32)) L = true) <| hg (S 1 = some (.inr 11)) <|
  hb (f_Ps_stall S 1 (xs (i + (1 : Int32)).toNatClampNeg) (xs (i + (2 : Int32)).toNatClampNeg) (xs (i + (3 : Int32)).toNatClampNeg) (xs (i + (4 : Int32)).toNatClampNeg) (xs (i + (5 : Int32)).toNatClampNeg) M) fun r9 M8 =>
  hg (S 76 = some (.inr 12)) <|
  hb (f_Md_stall S 76 (xs (i + (1 : Int32)).toNatClampNeg) (xs (i + (2 : Int32)).toNatClampNeg) (xs (i + (3 : Int32)).toNatClampNeg) (xs (i + (4 : Int32)).toNatClampNeg) (xs (i + (5 : Int32)).toNatClampNeg) M8) fun r13 M12 =>
  (if r9 = r13 then some M12 else none)
def fL_17 (S : hm_S) (xs : Nat → Int32) (L : Nat) (i : Int32) (M : hm_M) : Option hm_M :=
  hg (hm_in (i + (1 : Int32)) L = true) <| hg (hm_in (i + (2 : Int32)) L = true) <| hg (hm_in (i + (3 : Int32)) L = true) <|
  hg (S 1 = some (.inr 11)) <|
  hb (f_Ps_see S 1 (xs (i + (1 : Int32)).toNatClampNeg) (xs (i + (2 : Int32)).toNatClampNeg) (xs (i + (3 : Int32)).toNatClampNeg) M) fun r7 M6 =>
  hg (S 76 = some (.inr 12)) <|
  hb (f_Md_see S 76 (xs (i + (1 : Int32)).toNatClampNeg) (xs (i + (2 : Int32)).toNatClampNeg) (xs (i + (3 : Int32)).toNatClampNeg) M6) fun r11 M10 =>
  (if r7 = r11 then some M10 else none)
def fL_18 (S : hm_S) (xs : Nat → Int32) (L : Nat) (i : Int32) (M : hm_M) : Option hm_M :=
  hg (hm_in (i + (1 : Int32)) L = true) <| hg (hm_in (i + (2 : Int32)) L = true) <| hg (S 1 = some (.inr 11)) <|
  hb (f_Ps_candles S 1 (xs (i + (1 : Int32)).toNatClampNeg) (xs (i + (2 : Int32)).toNatClampNeg) M) fun r6 M5 => hg (S 76 = some (.inr 12)) <|
  hb (f_Md_candles S 76 (xs (i + (1 : Int32)).toNatClampNeg) (xs (i + (2 : Int32)).toNatClampNeg) M5) fun r10 M9 => (if r6 = r10 then some M9
  else none)
def fL_19 (S : hm_S) (xs : Nat → Int32) (L : Nat) (i : Int32) (M : hm_M) : Option hm_M :=
  hg (hm_in (i + (1 : Int32)) L = true) <| hg (S 1 = some (.inr 11)) <| hb (f_Ps_when S 1 (xs (i + (1 : Int32)).toNatClampNeg) M) fun r5 M4 =>
  hg (S 76 = some (.inr 12)) <| hb (f_Md_when S 76 (xs (i + (1 : Int32)).toNatClampNeg) M4) fun r9 M8 => (if r5 = r9 then some M8 else none)
def fL_20 (S : hm_S) (xs : Nat → Int32) (L : Nat) (i : Int32) (M : hm_M) : Option hm_M :=
  hg (S 1 = some (.inr 11)) <| hb (f_Ps_clear S 1 M) fun r4 M3 => hg (S 76 = some (.inr 12)) <| hb (f_Md_clear S 76 M3) fun r8 M7 => (if r4 = r8 then
  some M7 else none)
def fL_21 (S : hm_S) (xs : Nat → Int32) (L : Nat) (i : Int32) (M : hm_M) : Option hm_M :=
  hg (hm_in (i + (1 : Int32)) L = true) <| hg (hm_in (i + (2 : Int32)) L = true) <| hg (hm_in (i + (3 : Int32)) L = true) <|
  hg (hm_in (i + (4 : Int32)) L = true) <| hg (S 1 = some (.inr 11)) <|
  hb (f_Ps_stains S 1 (xs (i + (1 : Int32)).toNatClampNeg) (xs (i + (2 : Int32)).toNatClampNeg) (xs (i + (3 : Int32)).toNatClampNeg) (xs (i + (4 : Int32)).toNatClampNeg) M) fun r8 M7 =>
  hg (S 76 = some (.inr 12)) <|
  hb (f_Md_stains S 76 (xs (i + (1 : Int32)).toNatClampNeg) (xs (i + (2 : Int32)).toNatClampNeg) (xs (i + (3 : Int32)).toNatClampNeg) (xs (i + (4 : Int32)).toNatClampNeg) M7) fun r12 M11 =>
  (if r8 = r12 then some M11 else none)
def fL_22 (S : hm_S) (xs : Nat → Int32) (L : Nat) (i : Int32) (M : hm_M) : Option hm_M :=
  hg (hm_in (i + (1 : Int32)) L = true) <| hg (hm_in (i + (2 : Int32)) L = true) <| hg (hm_in (i + (3 : Int32)) L = true) <|
  hg (hm_in (i + (4 : Int32)) L = true) <| hg (hm_in (i + (5 : Int32)) L = true) <| hg (hm_in (i + (6 : Int32)) L = true) <|
  (if (xs (i + (6 : Int32)).toNatClampNeg) = 0 then hg (S 1 = some (.inr 11)) <|
  hb (f_Ps_stood S 1 (xs (i + (1 : Int32)).toNatClampNeg) (xs (i + (2 : Int32)).toNatClampNeg) (xs (i + (3 : Int32)).toNatClampNeg) (xs (i + (4 : Int32)).toNatClampNeg) (xs (i + (5 : Int32)).toNatClampNeg) (0 : Int32) M) fun r11 M10 =>
  (if (xs (i + (6 : Int32)).toNatClampNeg) = 0 then hg (S 76 = some (.inr 12)) <|
  hb (f_Md_stood S 76 (xs (i + (1 : Int32)).toNatClampNeg) (xs (i + (2 : Int32)).toNatClampNeg) (xs (i + (3 : Int32)).toNatClampNeg) (xs (i + (4 : Int32)).toNatClampNeg) (xs (i + (5 : Int32)).toNatClampNeg) (0 : Int32) M10) fun r16 M15 =>
  (if r11 = r16 then some M15 else none) else hg (S 76 = some (.inr 12)) <|
  hb (f_Md_stood S 76 (xs (i + (1 : Int32)).toNatClampNeg) (xs (i + (2 : Int32)).toNatClampNeg) (xs (i + (3 : Int32)).toNatClampNeg) (xs (i + (4 : Int32)).toNatClampNeg) (xs (i + (5 : Int32)).toNatClampNeg) (1 : Int32) M10) fun r21 M20 =>
  (if r11 = r21 then some M20 else none)) else hg (S 1 = some (.inr 11)) <|
  hb (f_Ps_stood S 1 (xs (i + (1 : Int32)).toNatClampNeg) (xs (i + (2 : Int32)).toNatClampNeg) (xs (i + (3 : Int32)).toNatClampNeg) (xs (i + (4 : Int32)).toNatClampNeg) (xs (i + (5 : Int32)).toNatClampNeg) (1 : Int32) M) fun r26 M25 =>
  (if (xs (i + (6 : Int32)).toNatClampNeg) = 0 then hg (S 76 = some (.inr 12)) <|
  hb (f_Md_stood S 76 (xs (i + (1 : Int32)).toNatClampNeg) (xs (i + (2 : Int32)).toNatClampNeg) (xs (i + (3 : Int32)).toNatClampNeg) (xs (i + (4 : Int32)).toNatClampNeg) (xs (i + (5 : Int32)).toNatClampNeg) (0 : Int32) M25) fun r31 M30 =>
  (if r26 = r31 then some M30 else none) else hg (S 76 = some (.inr 12)) <|
  hb (f_Md_stood S 76 (xs (i + (1 : Int32)).toNatClampNeg) (xs (i + (2 : Int32)).toNatClampNeg) (xs (i + (3 : Int32)).toNatClampNeg) (xs (i + (4 : Int32)).toNatClampNeg) (xs (i + (5 : Int32)).toNatClampNeg) (1 : Int32) M25) fun r36 M35 =>
  (if r26 = r36 then some M35 else none)))
def fL_23r (S : hm_S) (xs : Nat → Int32) (L : Nat) (i k : Int32) (M : hm_M) : Option hm_M :=
  hg (hm_in (i + (1 : Int32)) L = true) <| hg (hm_in (i + (2 : Int32)) L = true) <| hg (S 76 = some (.inr 12)) <|
  hb (f_Md_clouded S 76 (xs (i + (1 : Int32)).toNatClampNeg) (xs (i + (2 : Int32)).toNatClampNeg) M) fun r6 M5 =>
  hb (f_Md_thrown S 76 M5) fun r9 M8 => (if r9 = k then (if k = 0 then hg (hm_ib S 99 .long (0 : Int32) = true) <|
  (if (lg_cmp (M8.2.1 99 (0 : Int32).toNatClampNeg) r6.toInt64) = 0 then some M8 else none) else some M8) else none)
def fL_24 (S : hm_S) (xs : Nat → Int32) (L : Nat) (i : Int32) (M : hm_M) : Option hm_M :=
  hg (hm_in (i + (1 : Int32)) L = true) <| hg (hm_in (i + (2 : Int32)) L = true) <| (if (xs (i + (2 : Int32)).toNatClampNeg) = 0 then
  hg (S 1 = some (.inr 11)) <| hb (f_Ps_mark S 1 (xs (i + (1 : Int32)).toNatClampNeg) (0 : Int32) M) fun r7 M6 =>
  (if (xs (i + (2 : Int32)).toNatClampNeg) = 0 then hg (S 76 = some (.inr 12)) <|
  hb (f_Md_mark S 76 (xs (i + (1 : Int32)).toNatClampNeg) (0 : Int32) M6) fun r12 M11 => (if r7 = r12 then some M11 else none)
  else hg (S 76 = some (.inr 12)) <| hb (f_Md_mark S 76 (xs (i + (1 : Int32)).toNatClampNeg) (1 : Int32) M6) fun r17 M16 => (if r7 = r17 then some M16
  else none)) else hg (S 1 = some (.inr 11)) <| hb (f_Ps_mark S 1 (xs (i + (1 : Int32)).toNatClampNeg) (1 : Int32) M) fun r22 M21 =>
  (if (xs (i + (2 : Int32)).toNatClampNeg) = 0 then hg (S 76 = some (.inr 12)) <|
  hb (f_Md_mark S 76 (xs (i + (1 : Int32)).toNatClampNeg) (0 : Int32) M21) fun r27 M26 => (if r22 = r27 then some M26 else none)
  else hg (S 76 = some (.inr 12)) <| hb (f_Md_mark S 76 (xs (i + (1 : Int32)).toNatClampNeg) (1 : Int32) M21) fun r32 M31 => (if r22 = r32 then
  some M31 else none)))
def fL_25 (S : hm_S) (xs : Nat → Int32) (L : Nat) (i : Int32) (M : hm_M) : Option hm_M :=
  hg (hm_in (i + (1 : Int32)) L = true) <| hg (S 1 = some (.inr 11)) <| hb (f_Ps_count S 1 (xs (i + (1 : Int32)).toNatClampNeg) M) fun r5 M4 =>
  hg (S 76 = some (.inr 12)) <| hb (f_Md_count S 76 (xs (i + (1 : Int32)).toNatClampNeg) M4) fun r9 M8 => (if r5 = r9 then some M8 else none)
set_option maxRecDepth 100000 in
set_option maxHeartbeats 4000000 in
theorem uL_0 {X : hm_X} {q L : Nat} {xs : Nat → Int32} {n : Nat} {S : hm_S} (hL : hm_LC (q + 1) L xs n S X) {i : Int32} {M M' : hm_M} (hF : fL_0 S xs L i M = some M') (kk : ∀ X' : hm_X, hm_LC q L xs n S X' → hm_U X' 1313 [(0, .ref 999999), (1, .ref 1), (2, .ref 76), (3, .ref 99), (4, .int i)] [] M' (hm_QL X')) : hm_U X 160 [(0, .ref 999999), (1, .ref 1), (2, .ref 76), (3, .ref 99), (4, .int i)] [] M (hm_QL X) := by
  have hC := hL.1
  unfold fL_0 at hF
  refine jv_aload_n hC 1 dL_law_160 rfl ?_
  refine jv_aload_n hC 0 dL_law_161 rfl ?_
  refine jv_iload hC 4 dL_law_162 rfl ?_
  refine jv_iconst hC dL_law_164 c32_1 ?_
  refine jv_iadd hC dL_law_165 ?_
  obtain ⟨g1, hF⟩ := hg_some hF
  refine jv_sld hL g1 dL_law_166 ?_
  refine jv_i2l hC dL_law_167 ?_
  refine jv_pc 168 rfl ?_
  refine jv_bipush hC dL_law_168 c8_32 ?_
  refine jv_lshl hC dL_law_170 ?_
  refine jv_aload_n hC 0 dL_law_171 rfl ?_
  refine jv_iload hC 4 dL_law_172 rfl ?_
  refine jv_iconst hC dL_law_174 c32_2 ?_
  refine jv_iadd hC dL_law_175 ?_
  obtain ⟨g2, hF⟩ := hg_some hF
  refine jv_sld hL g2 dL_law_176 ?_
  refine jv_i2l hC dL_law_177 ?_
  refine jv_pc 178 rfl ?_
  refine jv_ldc2 hC cl_L_19 dL_law_178 ?_
  refine jv_land hC dL_law_181 ?_
  refine jv_lor hC dL_law_182 ?_
  refine jv_aload_n hC 0 dL_law_183 rfl ?_
  refine jv_iload hC 4 dL_law_184 rfl ?_
  refine jv_iconst hC dL_law_186 c32_3 ?_
  refine jv_iadd hC dL_law_187 ?_
  obtain ⟨g3, hF⟩ := hg_some hF
  refine jv_sld hL g3 dL_law_188 ?_
  refine jv_pc 189 rfl ?_
  refine jv_i2l hC dL_law_189 ?_
  refine jv_bipush hC dL_law_190 c8_32 ?_
  refine jv_lshl hC dL_law_192 ?_
  refine jv_aload_n hC 0 dL_law_193 rfl ?_
  refine jv_iload hC 4 dL_law_194 rfl ?_
  refine jv_iconst hC dL_law_196 c32_4 ?_
  refine jv_iadd hC dL_law_197 ?_
  obtain ⟨g4, hF⟩ := hg_some hF
  refine jv_sld hL g4 dL_law_198 ?_
  refine jv_pc 199 rfl ?_
  refine jv_i2l hC dL_law_199 ?_
  refine jv_ldc2 hC cl_L_19 dL_law_200 ?_
  refine jv_land hC dL_law_203 ?_
  refine jv_lor hC dL_law_204 ?_
  refine jv_aload_n hC 0 dL_law_205 rfl ?_
  refine jv_iload hC 4 dL_law_206 rfl ?_
  refine jv_iconst hC dL_law_208 c32_5 ?_
  refine jv_iadd hC dL_law_209 ?_
  refine jv_pc 210 rfl ?_
  obtain ⟨g5, hF⟩ := hg_some hF
  refine jv_sld hL g5 dL_law_210 ?_
  refine jv_i2l hC dL_law_211 ?_
  refine jv_bipush hC dL_law_212 c8_32 ?_
  refine jv_lshl hC dL_law_214 ?_
  refine jv_aload_n hC 0 dL_law_215 rfl ?_
  refine jv_iload hC 4 dL_law_216 rfl ?_
  refine jv_bipush hC dL_law_218 c8_6 ?_
  refine jv_iadd hC dL_law_220 ?_
  refine jv_pc 221 rfl ?_
  obtain ⟨g6, hF⟩ := hg_some hF
  refine jv_sld hL g6 dL_law_221 ?_
  refine jv_i2l hC dL_law_222 ?_
  refine jv_ldc2 hC cl_L_19 dL_law_223 ?_
  refine jv_land hC dL_law_226 ?_
  refine jv_lor hC dL_law_227 ?_
  obtain ⟨g7, hF⟩ := hg_some hF
  obtain ⟨r10, M9, c8, hF⟩ := hb_some hF
  refine jv_callV hC (st := []) [.long (((xs (i + (1 : Int32)).toNatClampNeg).toInt64 <<< ((32 : Int32).toInt64 &&& 63)) ||| ((xs (i + (2 : Int32)).toNatClampNeg).toInt64 &&& (4294967295 : Int64))), .long (((xs (i + (3 : Int32)).toNatClampNeg).toInt64 <<< ((32 : Int32).toInt64 &&& 63)) ||| ((xs (i + (4 : Int32)).toNatClampNeg).toInt64 &&& (4294967295 : Int64))), .long (((xs (i + (5 : Int32)).toNatClampNeg).toInt64 <<< ((32 : Int32).toInt64 &&& 63)) ||| ((xs (i + (6 : Int32)).toNatClampNeg).toInt64 &&& (4294967295 : Int64)))] (k_Ps_feed c8) mm_Ps_feed mi_Ps_feed ml_L_21 dL_law_228 g7 rfl (Nat.le_of_ble_eq_true rfl) rfl rfl (Nat.le_of_ble_eq_true rfl) ?_
  refine jv_nf 231 [.int r10] rfl rfl ?_
  refine jv_aload_n hC 2 dL_law_231 rfl ?_
  refine jv_aload_n hC 0 dL_law_232 rfl ?_
  refine jv_iload hC 4 dL_law_233 rfl ?_
  refine jv_iconst hC dL_law_235 c32_1 ?_
  refine jv_iadd hC dL_law_236 ?_
  refine jv_sld hL g1 dL_law_237 ?_
  refine jv_i2l hC dL_law_238 ?_
  refine jv_pc 239 rfl ?_
  refine jv_bipush hC dL_law_239 c8_32 ?_
  refine jv_lshl hC dL_law_241 ?_
  refine jv_aload_n hC 0 dL_law_242 rfl ?_
  refine jv_iload hC 4 dL_law_243 rfl ?_
  refine jv_iconst hC dL_law_245 c32_2 ?_
  refine jv_iadd hC dL_law_246 ?_
  refine jv_sld hL g2 dL_law_247 ?_
  refine jv_i2l hC dL_law_248 ?_
  refine jv_pc 249 rfl ?_
  refine jv_ldc2 hC cl_L_19 dL_law_249 ?_
  refine jv_land hC dL_law_252 ?_
  refine jv_lor hC dL_law_253 ?_
  refine jv_aload_n hC 0 dL_law_254 rfl ?_
  refine jv_iload hC 4 dL_law_255 rfl ?_
  refine jv_iconst hC dL_law_257 c32_3 ?_
  refine jv_iadd hC dL_law_258 ?_
  refine jv_sld hL g3 dL_law_259 ?_
  refine jv_pc 260 rfl ?_
  refine jv_i2l hC dL_law_260 ?_
  refine jv_bipush hC dL_law_261 c8_32 ?_
  refine jv_lshl hC dL_law_263 ?_
  refine jv_aload_n hC 0 dL_law_264 rfl ?_
  refine jv_iload hC 4 dL_law_265 rfl ?_
  refine jv_iconst hC dL_law_267 c32_4 ?_
  refine jv_iadd hC dL_law_268 ?_
  refine jv_sld hL g4 dL_law_269 ?_
  refine jv_pc 270 rfl ?_
  refine jv_i2l hC dL_law_270 ?_
  refine jv_ldc2 hC cl_L_19 dL_law_271 ?_
  refine jv_land hC dL_law_274 ?_
  refine jv_lor hC dL_law_275 ?_
  refine jv_aload_n hC 0 dL_law_276 rfl ?_
  refine jv_iload hC 4 dL_law_277 rfl ?_
  refine jv_iconst hC dL_law_279 c32_5 ?_
  refine jv_iadd hC dL_law_280 ?_
  refine jv_pc 281 rfl ?_
  refine jv_sld hL g5 dL_law_281 ?_
  refine jv_i2l hC dL_law_282 ?_
  refine jv_bipush hC dL_law_283 c8_32 ?_
  refine jv_lshl hC dL_law_285 ?_
  refine jv_aload_n hC 0 dL_law_286 rfl ?_
  refine jv_iload hC 4 dL_law_287 rfl ?_
  refine jv_bipush hC dL_law_289 c8_6 ?_
  refine jv_iadd hC dL_law_291 ?_
  refine jv_pc 292 rfl ?_
  refine jv_sld hL g6 dL_law_292 ?_
  refine jv_i2l hC dL_law_293 ?_
  refine jv_ldc2 hC cl_L_19 dL_law_294 ?_
  refine jv_land hC dL_law_297 ?_
  refine jv_lor hC dL_law_298 ?_
  obtain ⟨g11, hF⟩ := hg_some hF
  obtain ⟨r14, M13, c12, hF⟩ := hb_some hF
  refine jv_callV hC (st := [.int r10]) [.long (((xs (i + (1 : Int32)).toNatClampNeg).toInt64 <<< ((32 : Int32).toInt64 &&& 63)) ||| ((xs (i + (2 : Int32)).toNatClampNeg).toInt64 &&& (4294967295 : Int64))), .long (((xs (i + (3 : Int32)).toNatClampNeg).toInt64 <<< ((32 : Int32).toInt64 &&& 63)) ||| ((xs (i + (4 : Int32)).toNatClampNeg).toInt64 &&& (4294967295 : Int64))), .long (((xs (i + (5 : Int32)).toNatClampNeg).toInt64 <<< ((32 : Int32).toInt64 &&& 63)) ||| ((xs (i + (6 : Int32)).toNatClampNeg).toInt64 &&& (4294967295 : Int64)))] (k_Md_feed c12) mm_Md_feed mi_Md_feed ml_L_25 dL_law_299 g11 rfl (Nat.le_of_ble_eq_true rfl) rfl rfl (Nat.le_of_ble_eq_true rfl) ?_
  refine jv_nf 302 [.int r14, .int r10] rfl rfl ?_
  refine jv_icmp_eq hC 1313 dL_law_302 (by decide) (fun h15 => ?_) (fun h15 => ?_)
  · have hF := hi_pos h15 hF
    obtain rfl := hr_somev hF
    exact jv_pc 1313 rfl (kk X hL.down)
  · have hF := hi_neg h15 hF
    refine jv_iconst hC dL_law_305 c32_0 ?_
    cases hF
set_option maxRecDepth 100000 in
set_option maxHeartbeats 4000000 in
theorem uL_1 {X : hm_X} {q L : Nat} {xs : Nat → Int32} {n : Nat} {S : hm_S} (hL : hm_LC (q + 1) L xs n S X) {i : Int32} {M M' : hm_M} (hF : fL_1 S xs L i M = some M') (kk : ∀ X' : hm_X, hm_LC q L xs n S X' → hm_U X' 1313 [(0, .ref 999999), (1, .ref 1), (2, .ref 76), (3, .ref 99), (4, .int i)] [] M' (hm_QL X')) : hm_U X 307 [(0, .ref 999999), (1, .ref 1), (2, .ref 76), (3, .ref 99), (4, .int i)] [] M (hm_QL X) := by
  have hC := hL.1
  unfold fL_1 at hF
  refine jv_aload_n hC 1 dL_law_307 rfl ?_
  obtain ⟨g1, hF⟩ := hg_some hF
  obtain ⟨r4, M3, c2, hF⟩ := hb_some hF
  refine jv_callV hC (st := []) [] (k_Ps_chapel c2) mm_Ps_chapel mi_Ps_chapel ml_L_26 dL_law_308 g1 rfl (Nat.le_of_ble_eq_true rfl) rfl rfl (Nat.le_of_ble_eq_true rfl) ?_
  refine jv_nf 311 [.int r4] rfl rfl ?_
  refine jv_aload_n hC 2 dL_law_311 rfl ?_
  obtain ⟨g5, hF⟩ := hg_some hF
  obtain ⟨r8, M7, c6, hF⟩ := hb_some hF
  refine jv_callV hC (st := [.int r4]) [] (k_Md_chapel c6) mm_Md_chapel mi_Md_chapel ml_L_30 dL_law_312 g5 rfl (Nat.le_of_ble_eq_true rfl) rfl rfl (Nat.le_of_ble_eq_true rfl) ?_
  refine jv_nf 315 [.int r8, .int r4] rfl rfl ?_
  refine jv_icmp_eq hC 1313 dL_law_315 (by decide) (fun h9 => ?_) (fun h9 => ?_)
  · have hF := hi_pos h9 hF
    obtain rfl := hr_somev hF
    exact jv_pc 1313 rfl (kk X hL.down)
  · have hF := hi_neg h9 hF
    refine jv_iconst hC dL_law_318 c32_0 ?_
    cases hF
set_option maxRecDepth 100000 in
set_option maxHeartbeats 4000000 in
theorem uL_2 {X : hm_X} {q L : Nat} {xs : Nat → Int32} {n : Nat} {S : hm_S} (hL : hm_LC (q + 1) L xs n S X) {i : Int32} {M M' : hm_M} (hF : fL_2 S xs L i M = some M') (kk : ∀ X' : hm_X, hm_LC q L xs n S X' → hm_U X' 1313 [(0, .ref 999999), (1, .ref 1), (2, .ref 76), (3, .ref 99), (4, .int i)] [] M' (hm_QL X')) : hm_U X 320 [(0, .ref 999999), (1, .ref 1), (2, .ref 76), (3, .ref 99), (4, .int i)] [] M (hm_QL X) := by
  have hC := hL.1
  unfold fL_2 at hF
  refine jv_aload_n hC 1 dL_law_320 rfl ?_
  refine jv_aload_n hC 0 dL_law_321 rfl ?_
  refine jv_iload hC 4 dL_law_322 rfl ?_
  refine jv_iconst hC dL_law_324 c32_1 ?_
  refine jv_iadd hC dL_law_325 ?_
  obtain ⟨g1, hF⟩ := hg_some hF
  refine jv_sld hL g1 dL_law_326 ?_
  refine jv_aload_n hC 0 dL_law_327 rfl ?_
  refine jv_pc 328 rfl ?_
  refine jv_iload hC 4 dL_law_328 rfl ?_
  refine jv_iconst hC dL_law_330 c32_2 ?_
  refine jv_iadd hC dL_law_331 ?_
  obtain ⟨g2, hF⟩ := hg_some hF
  refine jv_sld hL g2 dL_law_332 ?_
  obtain ⟨g3, hF⟩ := hg_some hF
  obtain ⟨r6, M5, c4, hF⟩ := hb_some hF
  refine jv_callV hC (st := []) [.int (xs (i + (1 : Int32)).toNatClampNeg), .int (xs (i + (2 : Int32)).toNatClampNeg)] (k_Ps_guild c4) mm_Ps_guild mi_Ps_guild ml_L_31 dL_law_333 g3 rfl (Nat.le_of_ble_eq_true rfl) rfl rfl (Nat.le_of_ble_eq_true rfl) ?_
  refine jv_nf 336 [.int r6] rfl rfl ?_
  refine jv_aload_n hC 2 dL_law_336 rfl ?_
  refine jv_aload_n hC 0 dL_law_337 rfl ?_
  refine jv_iload hC 4 dL_law_338 rfl ?_
  refine jv_iconst hC dL_law_340 c32_1 ?_
  refine jv_iadd hC dL_law_341 ?_
  refine jv_sld hL g1 dL_law_342 ?_
  refine jv_aload_n hC 0 dL_law_343 rfl ?_
  refine jv_pc 344 rfl ?_
  refine jv_iload hC 4 dL_law_344 rfl ?_
  refine jv_iconst hC dL_law_346 c32_2 ?_
  refine jv_iadd hC dL_law_347 ?_
  refine jv_sld hL g2 dL_law_348 ?_
  obtain ⟨g7, hF⟩ := hg_some hF
  obtain ⟨r10, M9, c8, hF⟩ := hb_some hF
  refine jv_callV hC (st := [.int r6]) [.int (xs (i + (1 : Int32)).toNatClampNeg), .int (xs (i + (2 : Int32)).toNatClampNeg)] (k_Md_guild c8) mm_Md_guild mi_Md_guild ml_L_34 dL_law_349 g7 rfl (Nat.le_of_ble_eq_true rfl) rfl rfl (Nat.le_of_ble_eq_true rfl) ?_
  refine jv_nf 352 [.int r10, .int r6] rfl rfl ?_
  refine jv_icmp_eq hC 1313 dL_law_352 (by decide) (fun h11 => ?_) (fun h11 => ?_)
  · have hF := hi_pos h11 hF
    obtain rfl := hr_somev hF
    exact jv_pc 1313 rfl (kk X hL.down)
  · have hF := hi_neg h11 hF
    refine jv_iconst hC dL_law_355 c32_0 ?_
    cases hF
set_option maxRecDepth 100000 in
set_option maxHeartbeats 4000000 in
theorem uL_3 {X : hm_X} {q L : Nat} {xs : Nat → Int32} {n : Nat} {S : hm_S} (hL : hm_LC (q + 1) L xs n S X) {i : Int32} {M M' : hm_M} (hF : fL_3 S xs L i M = some M') (kk : ∀ X' : hm_X, hm_LC q L xs n S X' → hm_U X' 1313 [(0, .ref 999999), (1, .ref 1), (2, .ref 76), (3, .ref 99), (4, .int i)] [] M' (hm_QL X')) : hm_U X 357 [(0, .ref 999999), (1, .ref 1), (2, .ref 76), (3, .ref 99), (4, .int i)] [] M (hm_QL X) := by
  have hC := hL.1
  unfold fL_3 at hF
  refine jv_aload_n hC 1 dL_law_357 rfl ?_
  refine jv_aload_n hC 0 dL_law_358 rfl ?_
  refine jv_iload hC 4 dL_law_359 rfl ?_
  refine jv_iconst hC dL_law_361 c32_1 ?_
  refine jv_iadd hC dL_law_362 ?_
  obtain ⟨g1, hF⟩ := hg_some hF
  refine jv_sld hL g1 dL_law_363 ?_
  refine jv_aload_n hC 0 dL_law_364 rfl ?_
  refine jv_pc 365 rfl ?_
  refine jv_iload hC 4 dL_law_365 rfl ?_
  refine jv_iconst hC dL_law_367 c32_2 ?_
  refine jv_iadd hC dL_law_368 ?_
  obtain ⟨g2, hF⟩ := hg_some hF
  refine jv_sld hL g2 dL_law_369 ?_
  obtain ⟨g3, hF⟩ := hg_some hF
  obtain ⟨r6, M5, c4, hF⟩ := hb_some hF
  refine jv_callV hC (st := []) [.int (xs (i + (1 : Int32)).toNatClampNeg), .int (xs (i + (2 : Int32)).toNatClampNeg)] (k_Ps_pane c4) mm_Ps_pane mi_Ps_pane ml_L_35 dL_law_370 g3 rfl (Nat.le_of_ble_eq_true rfl) rfl rfl (Nat.le_of_ble_eq_true rfl) ?_
  refine jv_nf 373 [.int r6] rfl rfl ?_
  refine jv_aload_n hC 2 dL_law_373 rfl ?_
  refine jv_aload_n hC 0 dL_law_374 rfl ?_
  refine jv_iload hC 4 dL_law_375 rfl ?_
  refine jv_iconst hC dL_law_377 c32_1 ?_
  refine jv_iadd hC dL_law_378 ?_
  refine jv_sld hL g1 dL_law_379 ?_
  refine jv_aload_n hC 0 dL_law_380 rfl ?_
  refine jv_pc 381 rfl ?_
  refine jv_iload hC 4 dL_law_381 rfl ?_
  refine jv_iconst hC dL_law_383 c32_2 ?_
  refine jv_iadd hC dL_law_384 ?_
  refine jv_sld hL g2 dL_law_385 ?_
  obtain ⟨g7, hF⟩ := hg_some hF
  obtain ⟨r10, M9, c8, hF⟩ := hb_some hF
  refine jv_callV hC (st := [.int r6]) [.int (xs (i + (1 : Int32)).toNatClampNeg), .int (xs (i + (2 : Int32)).toNatClampNeg)] (k_Md_pane c8) mm_Md_pane mi_Md_pane ml_L_38 dL_law_386 g7 rfl (Nat.le_of_ble_eq_true rfl) rfl rfl (Nat.le_of_ble_eq_true rfl) ?_
  refine jv_nf 389 [.int r10, .int r6] rfl rfl ?_
  refine jv_icmp_eq hC 1313 dL_law_389 (by decide) (fun h11 => ?_) (fun h11 => ?_)
  · have hF := hi_pos h11 hF
    obtain rfl := hr_somev hF
    exact jv_pc 1313 rfl (kk X hL.down)
  · have hF := hi_neg h11 hF
    refine jv_iconst hC dL_law_392 c32_0 ?_
    cases hF
set_option maxRecDepth 100000 in
set_option maxHeartbeats 4000000 in
theorem uL_4 {X : hm_X} {q L : Nat} {xs : Nat → Int32} {n : Nat} {S : hm_S} (hL : hm_LC (q + 1) L xs n S X) {i : Int32} {M M' : hm_M} (hF : fL_4 S xs L i M = some M') (kk : ∀ X' : hm_X, hm_LC q L xs n S X' → hm_U X' 1313 [(0, .ref 999999), (1, .ref 1), (2, .ref 76), (3, .ref 99), (4, .int i)] [] M' (hm_QL X')) : hm_U X 394 [(0, .ref 999999), (1, .ref 1), (2, .ref 76), (3, .ref 99), (4, .int i)] [] M (hm_QL X) := by
  have hC := hL.1
  unfold fL_4 at hF
  refine jv_aload_n hC 1 dL_law_394 rfl ?_
  refine jv_aload_n hC 0 dL_law_395 rfl ?_
  refine jv_iload hC 4 dL_law_396 rfl ?_
  refine jv_iconst hC dL_law_398 c32_1 ?_
  refine jv_iadd hC dL_law_399 ?_
  obtain ⟨g1, hF⟩ := hg_some hF
  refine jv_sld hL g1 dL_law_400 ?_
  refine jv_aload_n hC 0 dL_law_401 rfl ?_
  refine jv_pc 402 rfl ?_
  refine jv_iload hC 4 dL_law_402 rfl ?_
  refine jv_iconst hC dL_law_404 c32_2 ?_
  refine jv_iadd hC dL_law_405 ?_
  obtain ⟨g2, hF⟩ := hg_some hF
  refine jv_sld hL g2 dL_law_406 ?_
  refine jv_aload_n hC 0 dL_law_407 rfl ?_
  refine jv_iload hC 4 dL_law_408 rfl ?_
  refine jv_iconst hC dL_law_410 c32_3 ?_
  refine jv_iadd hC dL_law_411 ?_
  refine jv_pc 412 rfl ?_
  obtain ⟨g3, hF⟩ := hg_some hF
  refine jv_sld hL g3 dL_law_412 ?_
  obtain ⟨g4, hF⟩ := hg_some hF
  obtain ⟨r7, M6, c5, hF⟩ := hb_some hF
  refine jv_callV hC (st := []) [.int (xs (i + (1 : Int32)).toNatClampNeg), .int (xs (i + (2 : Int32)).toNatClampNeg), .int (xs (i + (3 : Int32)).toNatClampNeg)] (k_Ps_spot c5) mm_Ps_spot mi_Ps_spot ml_L_39 dL_law_413 g4 rfl (Nat.le_of_ble_eq_true rfl) rfl rfl (Nat.le_of_ble_eq_true rfl) ?_
  refine jv_nf 416 [.int r7] rfl rfl ?_
  refine jv_aload_n hC 2 dL_law_416 rfl ?_
  refine jv_aload_n hC 0 dL_law_417 rfl ?_
  refine jv_iload hC 4 dL_law_418 rfl ?_
  refine jv_iconst hC dL_law_420 c32_1 ?_
  refine jv_iadd hC dL_law_421 ?_
  refine jv_sld hL g1 dL_law_422 ?_
  refine jv_aload_n hC 0 dL_law_423 rfl ?_
  refine jv_pc 424 rfl ?_
  refine jv_iload hC 4 dL_law_424 rfl ?_
  refine jv_iconst hC dL_law_426 c32_2 ?_
  refine jv_iadd hC dL_law_427 ?_
  refine jv_sld hL g2 dL_law_428 ?_
  refine jv_aload_n hC 0 dL_law_429 rfl ?_
  refine jv_iload hC 4 dL_law_430 rfl ?_
  refine jv_iconst hC dL_law_432 c32_3 ?_
  refine jv_iadd hC dL_law_433 ?_
  refine jv_pc 434 rfl ?_
  refine jv_sld hL g3 dL_law_434 ?_
  obtain ⟨g8, hF⟩ := hg_some hF
  obtain ⟨r11, M10, c9, hF⟩ := hb_some hF
  refine jv_callV hC (st := [.int r7]) [.int (xs (i + (1 : Int32)).toNatClampNeg), .int (xs (i + (2 : Int32)).toNatClampNeg), .int (xs (i + (3 : Int32)).toNatClampNeg)] (k_Md_spot c9) mm_Md_spot mi_Md_spot ml_L_43 dL_law_435 g8 rfl (Nat.le_of_ble_eq_true rfl) rfl rfl (Nat.le_of_ble_eq_true rfl) ?_
  refine jv_nf 438 [.int r11, .int r7] rfl rfl ?_
  refine jv_icmp_eq hC 1313 dL_law_438 (by decide) (fun h12 => ?_) (fun h12 => ?_)
  · have hF := hi_pos h12 hF
    obtain rfl := hr_somev hF
    exact jv_pc 1313 rfl (kk X hL.down)
  · have hF := hi_neg h12 hF
    refine jv_iconst hC dL_law_441 c32_0 ?_
    cases hF
set_option maxRecDepth 100000 in
set_option maxHeartbeats 4000000 in
theorem uL_5 {X : hm_X} {q L : Nat} {xs : Nat → Int32} {n : Nat} {S : hm_S} (hL : hm_LC (q + 1) L xs n S X) {i : Int32} {M M' : hm_M} (hF : fL_5 S xs L i M = some M') (kk : ∀ X' : hm_X, hm_LC q L xs n S X' → hm_U X' 1313 [(0, .ref 999999), (1, .ref 1), (2, .ref 76), (3, .ref 99), (4, .int i)] [] M' (hm_QL X')) : hm_U X 443 [(0, .ref 999999), (1, .ref 1), (2, .ref 76), (3, .ref 99), (4, .int i)] [] M (hm_QL X) := by
  have hC := hL.1
  unfold fL_5 at hF
  refine jv_aload_n hC 1 dL_law_443 rfl ?_
  refine jv_aload_n hC 0 dL_law_444 rfl ?_
  refine jv_iload hC 4 dL_law_445 rfl ?_
  refine jv_iconst hC dL_law_447 c32_1 ?_
  refine jv_iadd hC dL_law_448 ?_
  obtain ⟨g1, hF⟩ := hg_some hF
  refine jv_sld hL g1 dL_law_449 ?_
  refine jv_aload_n hC 0 dL_law_450 rfl ?_
  refine jv_pc 451 rfl ?_
  refine jv_iload hC 4 dL_law_451 rfl ?_
  refine jv_iconst hC dL_law_453 c32_2 ?_
  refine jv_iadd hC dL_law_454 ?_
  obtain ⟨g2, hF⟩ := hg_some hF
  refine jv_sld hL g2 dL_law_455 ?_
  refine jv_aload_n hC 0 dL_law_456 rfl ?_
  refine jv_iload hC 4 dL_law_457 rfl ?_
  refine jv_iconst hC dL_law_459 c32_3 ?_
  refine jv_iadd hC dL_law_460 ?_
  refine jv_pc 461 rfl ?_
  obtain ⟨g3, hF⟩ := hg_some hF
  refine jv_sld hL g3 dL_law_461 ?_
  refine jv_aload_n hC 0 dL_law_462 rfl ?_
  refine jv_iload hC 4 dL_law_463 rfl ?_
  refine jv_iconst hC dL_law_465 c32_4 ?_
  refine jv_iadd hC dL_law_466 ?_
  obtain ⟨g4, hF⟩ := hg_some hF
  refine jv_sld hL g4 dL_law_467 ?_
  refine jv_aload_n hC 0 dL_law_468 rfl ?_
  refine jv_iload hC 4 dL_law_469 rfl ?_
  refine jv_pc 471 rfl ?_
  refine jv_iconst hC dL_law_471 c32_5 ?_
  refine jv_iadd hC dL_law_472 ?_
  obtain ⟨g5, hF⟩ := hg_some hF
  refine jv_sld hL g5 dL_law_473 ?_
  obtain ⟨g6, hF⟩ := hg_some hF
  obtain ⟨r9, M8, c7, hF⟩ := hb_some hF
  refine jv_callV hC (st := []) [.int (xs (i + (1 : Int32)).toNatClampNeg), .int (xs (i + (2 : Int32)).toNatClampNeg), .int (xs (i + (3 : Int32)).toNatClampNeg), .int (xs (i + (4 : Int32)).toNatClampNeg), .int (xs (i + (5 : Int32)).toNatClampNeg)] (k_Ps_place c7) mm_Ps_place mi_Ps_place ml_L_44 dL_law_474 g6 rfl (Nat.le_of_ble_eq_true rfl) rfl rfl (Nat.le_of_ble_eq_true rfl) ?_
  refine jv_nf 477 [.int r9] rfl rfl ?_
  refine jv_aload_n hC 2 dL_law_477 rfl ?_
  refine jv_aload_n hC 0 dL_law_478 rfl ?_
  refine jv_iload hC 4 dL_law_479 rfl ?_
  refine jv_iconst hC dL_law_481 c32_1 ?_
  refine jv_iadd hC dL_law_482 ?_
  refine jv_sld hL g1 dL_law_483 ?_
  refine jv_aload_n hC 0 dL_law_484 rfl ?_
  refine jv_pc 485 rfl ?_
  refine jv_iload hC 4 dL_law_485 rfl ?_
  refine jv_iconst hC dL_law_487 c32_2 ?_
  refine jv_iadd hC dL_law_488 ?_
  refine jv_sld hL g2 dL_law_489 ?_
  refine jv_aload_n hC 0 dL_law_490 rfl ?_
  refine jv_iload hC 4 dL_law_491 rfl ?_
  refine jv_iconst hC dL_law_493 c32_3 ?_
  refine jv_iadd hC dL_law_494 ?_
  refine jv_pc 495 rfl ?_
  refine jv_sld hL g3 dL_law_495 ?_
  refine jv_aload_n hC 0 dL_law_496 rfl ?_
  refine jv_iload hC 4 dL_law_497 rfl ?_
  refine jv_iconst hC dL_law_499 c32_4 ?_
  refine jv_iadd hC dL_law_500 ?_
  refine jv_sld hL g4 dL_law_501 ?_
  refine jv_aload_n hC 0 dL_law_502 rfl ?_
  refine jv_iload hC 4 dL_law_503 rfl ?_
  refine jv_pc 505 rfl ?_
  refine jv_iconst hC dL_law_505 c32_5 ?_
  refine jv_iadd hC dL_law_506 ?_
  refine jv_sld hL g5 dL_law_507 ?_
  obtain ⟨g10, hF⟩ := hg_some hF
  obtain ⟨r13, M12, c11, hF⟩ := hb_some hF
  refine jv_callV hC (st := [.int r9]) [.int (xs (i + (1 : Int32)).toNatClampNeg), .int (xs (i + (2 : Int32)).toNatClampNeg), .int (xs (i + (3 : Int32)).toNatClampNeg), .int (xs (i + (4 : Int32)).toNatClampNeg), .int (xs (i + (5 : Int32)).toNatClampNeg)] (k_Md_place c11) mm_Md_place mi_Md_place ml_L_48 dL_law_508 g10 rfl (Nat.le_of_ble_eq_true rfl) rfl rfl (Nat.le_of_ble_eq_true rfl) ?_
  refine jv_nf 511 [.int r13, .int r9] rfl rfl ?_
  refine jv_icmp_eq hC 1313 dL_law_511 (by decide) (fun h14 => ?_) (fun h14 => ?_)
  · have hF := hi_pos h14 hF
    obtain rfl := hr_somev hF
    exact jv_pc 1313 rfl (kk X hL.down)
  · have hF := hi_neg h14 hF
    refine jv_iconst hC dL_law_514 c32_0 ?_
    cases hF
set_option maxRecDepth 100000 in
set_option maxHeartbeats 4000000 in
theorem uL_6 {X : hm_X} {q L : Nat} {xs : Nat → Int32} {n : Nat} {S : hm_S} (hL : hm_LC (q + 1) L xs n S X) {i : Int32} {M M' : hm_M} (hF : fL_6 S xs L i M = some M') (kk : ∀ X' : hm_X, hm_LC q L xs n S X' → hm_U X' 1313 [(0, .ref 999999), (1, .ref 1), (2, .ref 76), (3, .ref 99), (4, .int i)] [] M' (hm_QL X')) : hm_U X 516 [(0, .ref 999999), (1, .ref 1), (2, .ref 76), (3, .ref 99), (4, .int i)] [] M (hm_QL X) := by
  have hC := hL.1
  unfold fL_6 at hF
  refine jv_aload_n hC 1 dL_law_516 rfl ?_
  refine jv_aload_n hC 0 dL_law_517 rfl ?_
  refine jv_iload hC 4 dL_law_518 rfl ?_
  refine jv_iconst hC dL_law_520 c32_1 ?_
  refine jv_iadd hC dL_law_521 ?_
  obtain ⟨g1, hF⟩ := hg_some hF
  refine jv_sld hL g1 dL_law_522 ?_
  obtain ⟨g2, hF⟩ := hg_some hF
  obtain ⟨r5, M4, c3, hF⟩ := hb_some hF
  refine jv_callV hC (st := []) [.int (xs (i + (1 : Int32)).toNatClampNeg)] (k_Ps_yields c3) mm_Ps_yields mi_Ps_yields ml_L_49 dL_law_523 g2 rfl (Nat.le_of_ble_eq_true rfl) rfl rfl (Nat.le_of_ble_eq_true rfl) ?_
  refine jv_nf 526 [.int r5] rfl rfl ?_
  refine jv_aload_n hC 2 dL_law_526 rfl ?_
  refine jv_aload_n hC 0 dL_law_527 rfl ?_
  refine jv_iload hC 4 dL_law_528 rfl ?_
  refine jv_iconst hC dL_law_530 c32_1 ?_
  refine jv_iadd hC dL_law_531 ?_
  refine jv_sld hL g1 dL_law_532 ?_
  obtain ⟨g6, hF⟩ := hg_some hF
  obtain ⟨r9, M8, c7, hF⟩ := hb_some hF
  refine jv_callV hC (st := [.int r5]) [.int (xs (i + (1 : Int32)).toNatClampNeg)] (k_Md_yields c7) mm_Md_yields mi_Md_yields ml_L_53 dL_law_533 g6 rfl (Nat.le_of_ble_eq_true rfl) rfl rfl (Nat.le_of_ble_eq_true rfl) ?_
  refine jv_nf 536 [.int r9, .int r5] rfl rfl ?_
  refine jv_icmp_eq hC 1313 dL_law_536 (by decide) (fun h10 => ?_) (fun h10 => ?_)
  · have hF := hi_pos h10 hF
    obtain rfl := hr_somev hF
    exact jv_pc 1313 rfl (kk X hL.down)
  · have hF := hi_neg h10 hF
    refine jv_iconst hC dL_law_539 c32_0 ?_
    cases hF
set_option maxRecDepth 100000 in
set_option maxHeartbeats 4000000 in
theorem uL_7 {X : hm_X} {q L : Nat} {xs : Nat → Int32} {n : Nat} {S : hm_S} (hL : hm_LC (q + 1) L xs n S X) {i : Int32} {M M' : hm_M} (hF : fL_7 S xs L i M = some M') (kk : ∀ X' : hm_X, hm_LC q L xs n S X' → hm_U X' 1313 [(0, .ref 999999), (1, .ref 1), (2, .ref 76), (3, .ref 99), (4, .int i)] [] M' (hm_QL X')) : hm_U X 541 [(0, .ref 999999), (1, .ref 1), (2, .ref 76), (3, .ref 99), (4, .int i)] [] M (hm_QL X) := by
  have hC := hL.1
  unfold fL_7 at hF
  refine jv_aload_n hC 1 dL_law_541 rfl ?_
  refine jv_aload_n hC 0 dL_law_542 rfl ?_
  refine jv_iload hC 4 dL_law_543 rfl ?_
  refine jv_iconst hC dL_law_545 c32_1 ?_
  refine jv_iadd hC dL_law_546 ?_
  obtain ⟨g1, hF⟩ := hg_some hF
  refine jv_sld hL g1 dL_law_547 ?_
  obtain ⟨g2, hF⟩ := hg_some hF
  obtain ⟨r5, M4, c3, hF⟩ := hb_some hF
  refine jv_callV hC (st := []) [.int (xs (i + (1 : Int32)).toNatClampNeg)] (k_Ps_rents c3) mm_Ps_rents mi_Ps_rents ml_L_54 dL_law_548 g2 rfl (Nat.le_of_ble_eq_true rfl) rfl rfl (Nat.le_of_ble_eq_true rfl) ?_
  refine jv_nf 551 [.int r5] rfl rfl ?_
  refine jv_aload_n hC 2 dL_law_551 rfl ?_
  refine jv_aload_n hC 0 dL_law_552 rfl ?_
  refine jv_iload hC 4 dL_law_553 rfl ?_
  refine jv_iconst hC dL_law_555 c32_1 ?_
  refine jv_iadd hC dL_law_556 ?_
  refine jv_sld hL g1 dL_law_557 ?_
  obtain ⟨g6, hF⟩ := hg_some hF
  obtain ⟨r9, M8, c7, hF⟩ := hb_some hF
  refine jv_callV hC (st := [.int r5]) [.int (xs (i + (1 : Int32)).toNatClampNeg)] (k_Md_rents c7) mm_Md_rents mi_Md_rents ml_L_57 dL_law_558 g6 rfl (Nat.le_of_ble_eq_true rfl) rfl rfl (Nat.le_of_ble_eq_true rfl) ?_
  refine jv_nf 561 [.int r9, .int r5] rfl rfl ?_
  refine jv_icmp_eq hC 1313 dL_law_561 (by decide) (fun h10 => ?_) (fun h10 => ?_)
  · have hF := hi_pos h10 hF
    obtain rfl := hr_somev hF
    exact jv_pc 1313 rfl (kk X hL.down)
  · have hF := hi_neg h10 hF
    refine jv_iconst hC dL_law_564 c32_0 ?_
    cases hF
set_option maxRecDepth 100000 in
set_option maxHeartbeats 4000000 in
theorem uL_8 {X : hm_X} {q L : Nat} {xs : Nat → Int32} {n : Nat} {S : hm_S} (hL : hm_LC (q + 1) L xs n S X) {i : Int32} {M M' : hm_M} (hF : fL_8 S xs L i M = some M') (kk : ∀ X' : hm_X, hm_LC q L xs n S X' → hm_U X' 1313 [(0, .ref 999999), (1, .ref 1), (2, .ref 76), (3, .ref 99), (4, .int i)] [] M' (hm_QL X')) : hm_U X 566 [(0, .ref 999999), (1, .ref 1), (2, .ref 76), (3, .ref 99), (4, .int i)] [] M (hm_QL X) := by
  have hC := hL.1
  unfold fL_8 at hF
  refine jv_aload_n hC 1 dL_law_566 rfl ?_
  refine jv_aload_n hC 0 dL_law_567 rfl ?_
  refine jv_iload hC 4 dL_law_568 rfl ?_
  refine jv_iconst hC dL_law_570 c32_1 ?_
  refine jv_iadd hC dL_law_571 ?_
  obtain ⟨g1, hF⟩ := hg_some hF
  refine jv_sld hL g1 dL_law_572 ?_
  refine jv_aload_n hC 0 dL_law_573 rfl ?_
  refine jv_pc 574 rfl ?_
  refine jv_iload hC 4 dL_law_574 rfl ?_
  refine jv_iconst hC dL_law_576 c32_2 ?_
  refine jv_iadd hC dL_law_577 ?_
  obtain ⟨g2, hF⟩ := hg_some hF
  refine jv_sld hL g2 dL_law_578 ?_
  obtain ⟨g3, hF⟩ := hg_some hF
  obtain ⟨r6, M5, c4, hF⟩ := hb_some hF
  refine jv_callV hC (st := []) [.int (xs (i + (1 : Int32)).toNatClampNeg), .int (xs (i + (2 : Int32)).toNatClampNeg)] (k_Ps_worth c4) mm_Ps_worth mi_Ps_worth ml_L_58 dL_law_579 g3 rfl (Nat.le_of_ble_eq_true rfl) rfl rfl (Nat.le_of_ble_eq_true rfl) ?_
  refine jv_nf 582 [.int r6] rfl rfl ?_
  refine jv_aload_n hC 2 dL_law_582 rfl ?_
  refine jv_aload_n hC 0 dL_law_583 rfl ?_
  refine jv_iload hC 4 dL_law_584 rfl ?_
  refine jv_iconst hC dL_law_586 c32_1 ?_
  refine jv_iadd hC dL_law_587 ?_
  refine jv_sld hL g1 dL_law_588 ?_
  refine jv_aload_n hC 0 dL_law_589 rfl ?_
  refine jv_pc 590 rfl ?_
  refine jv_iload hC 4 dL_law_590 rfl ?_
  refine jv_iconst hC dL_law_592 c32_2 ?_
  refine jv_iadd hC dL_law_593 ?_
  refine jv_sld hL g2 dL_law_594 ?_
  obtain ⟨g7, hF⟩ := hg_some hF
  obtain ⟨r10, M9, c8, hF⟩ := hb_some hF
  refine jv_callV hC (st := [.int r6]) [.int (xs (i + (1 : Int32)).toNatClampNeg), .int (xs (i + (2 : Int32)).toNatClampNeg)] (k_Md_worth c8) mm_Md_worth mi_Md_worth ml_L_61 dL_law_595 g7 rfl (Nat.le_of_ble_eq_true rfl) rfl rfl (Nat.le_of_ble_eq_true rfl) ?_
  refine jv_nf 598 [.int r10, .int r6] rfl rfl ?_
  refine jv_icmp_eq hC 1313 dL_law_598 (by decide) (fun h11 => ?_) (fun h11 => ?_)
  · have hF := hi_pos h11 hF
    obtain rfl := hr_somev hF
    exact jv_pc 1313 rfl (kk X hL.down)
  · have hF := hi_neg h11 hF
    refine jv_iconst hC dL_law_601 c32_0 ?_
    cases hF
set_option maxRecDepth 100000 in
set_option maxHeartbeats 4000000 in
theorem uL_9 {X : hm_X} {q L : Nat} {xs : Nat → Int32} {n : Nat} {S : hm_S} (hL : hm_LC (q + 1) L xs n S X) {i : Int32} {M M' : hm_M} (hF : fL_9 S xs L i M = some M') (kk : ∀ X' : hm_X, hm_LC q L xs n S X' → hm_U X' 1313 [(0, .ref 999999), (1, .ref 1), (2, .ref 76), (3, .ref 99), (4, .int i)] [] M' (hm_QL X')) : hm_U X 603 [(0, .ref 999999), (1, .ref 1), (2, .ref 76), (3, .ref 99), (4, .int i)] [] M (hm_QL X) := by
  have hC := hL.1
  unfold fL_9 at hF
  refine jv_aload_n hC 1 dL_law_603 rfl ?_
  refine jv_aload_n hC 0 dL_law_604 rfl ?_
  refine jv_iload hC 4 dL_law_605 rfl ?_
  refine jv_iconst hC dL_law_607 c32_1 ?_
  refine jv_iadd hC dL_law_608 ?_
  obtain ⟨g1, hF⟩ := hg_some hF
  refine jv_sld hL g1 dL_law_609 ?_
  refine jv_aload_n hC 0 dL_law_610 rfl ?_
  refine jv_pc 611 rfl ?_
  refine jv_iload hC 4 dL_law_611 rfl ?_
  refine jv_iconst hC dL_law_613 c32_2 ?_
  refine jv_iadd hC dL_law_614 ?_
  obtain ⟨g2, hF⟩ := hg_some hF
  refine jv_sld hL g2 dL_law_615 ?_
  obtain ⟨g3, hF⟩ := hg_some hF
  obtain ⟨r6, M5, c4, hF⟩ := hb_some hF
  refine jv_callV hC (st := []) [.int (xs (i + (1 : Int32)).toNatClampNeg), .int (xs (i + (2 : Int32)).toNatClampNeg)] (k_Ps_gain c4) mm_Ps_gain mi_Ps_gain ml_L_62 dL_law_616 g3 rfl (Nat.le_of_ble_eq_true rfl) rfl rfl (Nat.le_of_ble_eq_true rfl) ?_
  refine jv_nf 619 [.int r6] rfl rfl ?_
  refine jv_aload_n hC 2 dL_law_619 rfl ?_
  refine jv_aload_n hC 0 dL_law_620 rfl ?_
  refine jv_iload hC 4 dL_law_621 rfl ?_
  refine jv_iconst hC dL_law_623 c32_1 ?_
  refine jv_iadd hC dL_law_624 ?_
  refine jv_sld hL g1 dL_law_625 ?_
  refine jv_aload_n hC 0 dL_law_626 rfl ?_
  refine jv_pc 627 rfl ?_
  refine jv_iload hC 4 dL_law_627 rfl ?_
  refine jv_iconst hC dL_law_629 c32_2 ?_
  refine jv_iadd hC dL_law_630 ?_
  refine jv_sld hL g2 dL_law_631 ?_
  obtain ⟨g7, hF⟩ := hg_some hF
  obtain ⟨r10, M9, c8, hF⟩ := hb_some hF
  refine jv_callV hC (st := [.int r6]) [.int (xs (i + (1 : Int32)).toNatClampNeg), .int (xs (i + (2 : Int32)).toNatClampNeg)] (k_Md_gain c8) mm_Md_gain mi_Md_gain ml_L_65 dL_law_632 g7 rfl (Nat.le_of_ble_eq_true rfl) rfl rfl (Nat.le_of_ble_eq_true rfl) ?_
  refine jv_nf 635 [.int r10, .int r6] rfl rfl ?_
  refine jv_icmp_eq hC 1313 dL_law_635 (by decide) (fun h11 => ?_) (fun h11 => ?_)
  · have hF := hi_pos h11 hF
    obtain rfl := hr_somev hF
    exact jv_pc 1313 rfl (kk X hL.down)
  · have hF := hi_neg h11 hF
    refine jv_iconst hC dL_law_638 c32_0 ?_
    cases hF
set_option maxRecDepth 100000 in
set_option maxHeartbeats 4000000 in
theorem uL_10 {X : hm_X} {q L : Nat} {xs : Nat → Int32} {n : Nat} {S : hm_S} (hL : hm_LC (q + 1) L xs n S X) {i : Int32} {M M' : hm_M} (hF : fL_10 S xs L i M = some M') (kk : ∀ X' : hm_X, hm_LC q L xs n S X' → hm_U X' 1313 [(0, .ref 999999), (1, .ref 1), (2, .ref 76), (3, .ref 99), (4, .int i)] [] M' (hm_QL X')) : hm_U X 640 [(0, .ref 999999), (1, .ref 1), (2, .ref 76), (3, .ref 99), (4, .int i)] [] M (hm_QL X) := by
  have hC := hL.1
  unfold fL_10 at hF
  refine jv_aload_n hC 1 dL_law_640 rfl ?_
  refine jv_aload_n hC 0 dL_law_641 rfl ?_
  refine jv_iload hC 4 dL_law_642 rfl ?_
  refine jv_iconst hC dL_law_644 c32_1 ?_
  refine jv_iadd hC dL_law_645 ?_
  obtain ⟨g1, hF⟩ := hg_some hF
  refine jv_sld hL g1 dL_law_646 ?_
  obtain ⟨g2, hF⟩ := hg_some hF
  obtain ⟨r5, M4, c3, hF⟩ := hb_some hF
  refine jv_callV hC (st := []) [.int (xs (i + (1 : Int32)).toNatClampNeg)] (k_Ps_best c3) mm_Ps_best mi_Ps_best ml_L_66 dL_law_647 g2 rfl (Nat.le_of_ble_eq_true rfl) rfl rfl (Nat.le_of_ble_eq_true rfl) ?_
  refine jv_nf 650 [.int r5] rfl rfl ?_
  refine jv_aload_n hC 2 dL_law_650 rfl ?_
  refine jv_aload_n hC 0 dL_law_651 rfl ?_
  refine jv_iload hC 4 dL_law_652 rfl ?_
  refine jv_iconst hC dL_law_654 c32_1 ?_
  refine jv_iadd hC dL_law_655 ?_
  refine jv_sld hL g1 dL_law_656 ?_
  obtain ⟨g6, hF⟩ := hg_some hF
  obtain ⟨r9, M8, c7, hF⟩ := hb_some hF
  refine jv_callV hC (st := [.int r5]) [.int (xs (i + (1 : Int32)).toNatClampNeg)] (k_Md_best c7) mm_Md_best mi_Md_best ml_L_69 dL_law_657 g6 rfl (Nat.le_of_ble_eq_true rfl) rfl rfl (Nat.le_of_ble_eq_true rfl) ?_
  refine jv_nf 660 [.int r9, .int r5] rfl rfl ?_
  refine jv_icmp_eq hC 1313 dL_law_660 (by decide) (fun h10 => ?_) (fun h10 => ?_)
  · have hF := hi_pos h10 hF
    obtain rfl := hr_somev hF
    exact jv_pc 1313 rfl (kk X hL.down)
  · have hF := hi_neg h10 hF
    refine jv_iconst hC dL_law_663 c32_0 ?_
    cases hF
set_option maxRecDepth 100000 in
set_option maxHeartbeats 4000000 in
theorem uL_11 {X : hm_X} {q L : Nat} {xs : Nat → Int32} {n : Nat} {S : hm_S} (hL : hm_LC (q + 1) L xs n S X) {i : Int32} {M M' : hm_M} (hF : fL_11 S xs L i M = some M') (kk : ∀ X' : hm_X, hm_LC q L xs n S X' → hm_U X' 1313 [(0, .ref 999999), (1, .ref 1), (2, .ref 76), (3, .ref 99), (4, .int i)] [] M' (hm_QL X')) : hm_U X 665 [(0, .ref 999999), (1, .ref 1), (2, .ref 76), (3, .ref 99), (4, .int i)] [] M (hm_QL X) := by
  have hC := hL.1
  unfold fL_11 at hF
  refine jv_aload_n hC 1 dL_law_665 rfl ?_
  refine jv_aload_n hC 0 dL_law_666 rfl ?_
  refine jv_iload hC 4 dL_law_667 rfl ?_
  refine jv_iconst hC dL_law_669 c32_1 ?_
  refine jv_iadd hC dL_law_670 ?_
  obtain ⟨g1, hF⟩ := hg_some hF
  refine jv_sld hL g1 dL_law_671 ?_
  refine jv_aload_n hC 0 dL_law_672 rfl ?_
  refine jv_pc 673 rfl ?_
  refine jv_iload hC 4 dL_law_673 rfl ?_
  refine jv_iconst hC dL_law_675 c32_2 ?_
  refine jv_iadd hC dL_law_676 ?_
  obtain ⟨g2, hF⟩ := hg_some hF
  refine jv_sld hL g2 dL_law_677 ?_
  obtain ⟨g3, hF⟩ := hg_some hF
  obtain ⟨r6, M5, c4, hF⟩ := hb_some hF
  refine jv_callV hC (st := []) [.int (xs (i + (1 : Int32)).toNatClampNeg), .int (xs (i + (2 : Int32)).toNatClampNeg)] (k_Ps_exchange c4) mm_Ps_exchange mi_Ps_exchange ml_L_70 dL_law_678 g3 rfl (Nat.le_of_ble_eq_true rfl) rfl rfl (Nat.le_of_ble_eq_true rfl) ?_
  refine jv_nf 681 [.int r6] rfl rfl ?_
  refine jv_aload_n hC 2 dL_law_681 rfl ?_
  refine jv_aload_n hC 0 dL_law_682 rfl ?_
  refine jv_iload hC 4 dL_law_683 rfl ?_
  refine jv_iconst hC dL_law_685 c32_1 ?_
  refine jv_iadd hC dL_law_686 ?_
  refine jv_sld hL g1 dL_law_687 ?_
  refine jv_aload_n hC 0 dL_law_688 rfl ?_
  refine jv_pc 689 rfl ?_
  refine jv_iload hC 4 dL_law_689 rfl ?_
  refine jv_iconst hC dL_law_691 c32_2 ?_
  refine jv_iadd hC dL_law_692 ?_
  refine jv_sld hL g2 dL_law_693 ?_
  obtain ⟨g7, hF⟩ := hg_some hF
  obtain ⟨r10, M9, c8, hF⟩ := hb_some hF
  refine jv_callV hC (st := [.int r6]) [.int (xs (i + (1 : Int32)).toNatClampNeg), .int (xs (i + (2 : Int32)).toNatClampNeg)] (k_Md_exchange c8) mm_Md_exchange mi_Md_exchange ml_L_74 dL_law_694 g7 rfl (Nat.le_of_ble_eq_true rfl) rfl rfl (Nat.le_of_ble_eq_true rfl) ?_
  refine jv_nf 697 [.int r10, .int r6] rfl rfl ?_
  refine jv_icmp_eq hC 1313 dL_law_697 (by decide) (fun h11 => ?_) (fun h11 => ?_)
  · have hF := hi_pos h11 hF
    obtain rfl := hr_somev hF
    exact jv_pc 1313 rfl (kk X hL.down)
  · have hF := hi_neg h11 hF
    refine jv_iconst hC dL_law_700 c32_0 ?_
    cases hF
set_option maxRecDepth 100000 in
set_option maxHeartbeats 4000000 in
theorem uL_12 {X : hm_X} {q L : Nat} {xs : Nat → Int32} {n : Nat} {S : hm_S} (hL : hm_LC (q + 1) L xs n S X) {i : Int32} {M M' : hm_M} (hF : fL_12 S xs L i M = some M') (kk : ∀ X' : hm_X, hm_LC q L xs n S X' → hm_U X' 1313 [(0, .ref 999999), (1, .ref 1), (2, .ref 76), (3, .ref 99), (4, .int i)] [] M' (hm_QL X')) : hm_U X 702 [(0, .ref 999999), (1, .ref 1), (2, .ref 76), (3, .ref 99), (4, .int i)] [] M (hm_QL X) := by
  have hC := hL.1
  unfold fL_12 at hF
  refine jv_aload_n hC 1 dL_law_702 rfl ?_
  refine jv_aload_n hC 0 dL_law_703 rfl ?_
  refine jv_iload hC 4 dL_law_704 rfl ?_
  refine jv_iconst hC dL_law_706 c32_1 ?_
  refine jv_iadd hC dL_law_707 ?_
  obtain ⟨g1, hF⟩ := hg_some hF
  refine jv_sld hL g1 dL_law_708 ?_
  refine jv_aload_n hC 0 dL_law_709 rfl ?_
  refine jv_pc 710 rfl ?_
  refine jv_iload hC 4 dL_law_710 rfl ?_
  refine jv_iconst hC dL_law_712 c32_2 ?_
  refine jv_iadd hC dL_law_713 ?_
  obtain ⟨g2, hF⟩ := hg_some hF
  refine jv_sld hL g2 dL_law_714 ?_
  refine jv_if_eq hC 722 dL_law_715 (by decide) (fun h3 => ?_) (fun h3 => ?_)
  · have hF := hi_pos h3 hF
    refine jv_iconst hC dL_law_722 c32_0 ?_
    obtain ⟨g4, hF⟩ := hg_some hF
    obtain ⟨r7, M6, c5, hF⟩ := hb_some hF
    refine jv_callV hC (st := []) [.int (xs (i + (1 : Int32)).toNatClampNeg), .int (0 : Int32)] (k_Ps_breaks c5) mm_Ps_breaks mi_Ps_breaks ml_L_75 dL_law_723 g4 rfl (Nat.le_of_ble_eq_true rfl) rfl rfl (Nat.le_of_ble_eq_true rfl) ?_
    refine jv_nf 726 [.int r7] rfl rfl ?_
    refine jv_aload_n hC 2 dL_law_726 rfl ?_
    refine jv_aload_n hC 0 dL_law_727 rfl ?_
    refine jv_iload hC 4 dL_law_728 rfl ?_
    refine jv_iconst hC dL_law_730 c32_1 ?_
    refine jv_iadd hC dL_law_731 ?_
    refine jv_sld hL g1 dL_law_732 ?_
    refine jv_aload_n hC 0 dL_law_733 rfl ?_
    refine jv_pc 734 rfl ?_
    refine jv_iload hC 4 dL_law_734 rfl ?_
    refine jv_iconst hC dL_law_736 c32_2 ?_
    refine jv_iadd hC dL_law_737 ?_
    refine jv_sld hL g2 dL_law_738 ?_
    refine jv_if_eq hC 746 dL_law_739 (by decide) (fun h8 => ?_) (fun h8 => ?_)
    · have hF := hi_pos h8 hF
      refine jv_iconst hC dL_law_746 c32_0 ?_
      obtain ⟨g9, hF⟩ := hg_some hF
      obtain ⟨r12, M11, c10, hF⟩ := hb_some hF
      refine jv_callV hC (st := [.int r7]) [.int (xs (i + (1 : Int32)).toNatClampNeg), .int (0 : Int32)] (k_Md_breaks c10) mm_Md_breaks mi_Md_breaks ml_L_79 dL_law_747 g9 rfl (Nat.le_of_ble_eq_true rfl) rfl rfl (Nat.le_of_ble_eq_true rfl) ?_
      refine jv_nf 750 [.int r12, .int r7] rfl rfl ?_
      refine jv_icmp_eq hC 1313 dL_law_750 (by decide) (fun h13 => ?_) (fun h13 => ?_)
      · have hF := hi_pos h13 hF
        obtain rfl := hr_somev hF
        exact jv_pc 1313 rfl (kk X hL.down)
      · have hF := hi_neg h13 hF
        refine jv_iconst hC dL_law_753 c32_0 ?_
        cases hF
    · have hF := hi_neg h8 hF
      refine jv_iconst hC dL_law_742 c32_1 ?_
      refine jv_goto hC 747 dL_law_743 (by decide) ?_
      obtain ⟨g14, hF⟩ := hg_some hF
      obtain ⟨r17, M16, c15, hF⟩ := hb_some hF
      refine jv_callV hC (st := [.int r7]) [.int (xs (i + (1 : Int32)).toNatClampNeg), .int (1 : Int32)] (k_Md_breaks c15) mm_Md_breaks mi_Md_breaks ml_L_79 dL_law_747 g14 rfl (Nat.le_of_ble_eq_true rfl) rfl rfl (Nat.le_of_ble_eq_true rfl) ?_
      refine jv_nf 750 [.int r17, .int r7] rfl rfl ?_
      refine jv_icmp_eq hC 1313 dL_law_750 (by decide) (fun h18 => ?_) (fun h18 => ?_)
      · have hF := hi_pos h18 hF
        obtain rfl := hr_somev hF
        exact jv_pc 1313 rfl (kk X hL.down)
      · have hF := hi_neg h18 hF
        refine jv_iconst hC dL_law_753 c32_0 ?_
        cases hF
  · have hF := hi_neg h3 hF
    refine jv_iconst hC dL_law_718 c32_1 ?_
    refine jv_goto hC 723 dL_law_719 (by decide) ?_
    obtain ⟨g19, hF⟩ := hg_some hF
    obtain ⟨r22, M21, c20, hF⟩ := hb_some hF
    refine jv_callV hC (st := []) [.int (xs (i + (1 : Int32)).toNatClampNeg), .int (1 : Int32)] (k_Ps_breaks c20) mm_Ps_breaks mi_Ps_breaks ml_L_75 dL_law_723 g19 rfl (Nat.le_of_ble_eq_true rfl) rfl rfl (Nat.le_of_ble_eq_true rfl) ?_
    refine jv_nf 726 [.int r22] rfl rfl ?_
    refine jv_aload_n hC 2 dL_law_726 rfl ?_
    refine jv_aload_n hC 0 dL_law_727 rfl ?_
    refine jv_iload hC 4 dL_law_728 rfl ?_
    refine jv_iconst hC dL_law_730 c32_1 ?_
    refine jv_iadd hC dL_law_731 ?_
    refine jv_sld hL g1 dL_law_732 ?_
    refine jv_aload_n hC 0 dL_law_733 rfl ?_
    refine jv_pc 734 rfl ?_
    refine jv_iload hC 4 dL_law_734 rfl ?_
    refine jv_iconst hC dL_law_736 c32_2 ?_
    refine jv_iadd hC dL_law_737 ?_
    refine jv_sld hL g2 dL_law_738 ?_
    refine jv_if_eq hC 746 dL_law_739 (by decide) (fun h23 => ?_) (fun h23 => ?_)
    · have hF := hi_pos h23 hF
      refine jv_iconst hC dL_law_746 c32_0 ?_
      obtain ⟨g24, hF⟩ := hg_some hF
      obtain ⟨r27, M26, c25, hF⟩ := hb_some hF
      refine jv_callV hC (st := [.int r22]) [.int (xs (i + (1 : Int32)).toNatClampNeg), .int (0 : Int32)] (k_Md_breaks c25) mm_Md_breaks mi_Md_breaks ml_L_79 dL_law_747 g24 rfl (Nat.le_of_ble_eq_true rfl) rfl rfl (Nat.le_of_ble_eq_true rfl) ?_
      refine jv_nf 750 [.int r27, .int r22] rfl rfl ?_
      refine jv_icmp_eq hC 1313 dL_law_750 (by decide) (fun h28 => ?_) (fun h28 => ?_)
      · have hF := hi_pos h28 hF
        obtain rfl := hr_somev hF
        exact jv_pc 1313 rfl (kk X hL.down)
      · have hF := hi_neg h28 hF
        refine jv_iconst hC dL_law_753 c32_0 ?_
        cases hF
    · have hF := hi_neg h23 hF
      refine jv_iconst hC dL_law_742 c32_1 ?_
      refine jv_goto hC 747 dL_law_743 (by decide) ?_
      obtain ⟨g29, hF⟩ := hg_some hF
      obtain ⟨r32, M31, c30, hF⟩ := hb_some hF
      refine jv_callV hC (st := [.int r22]) [.int (xs (i + (1 : Int32)).toNatClampNeg), .int (1 : Int32)] (k_Md_breaks c30) mm_Md_breaks mi_Md_breaks ml_L_79 dL_law_747 g29 rfl (Nat.le_of_ble_eq_true rfl) rfl rfl (Nat.le_of_ble_eq_true rfl) ?_
      refine jv_nf 750 [.int r32, .int r22] rfl rfl ?_
      refine jv_icmp_eq hC 1313 dL_law_750 (by decide) (fun h33 => ?_) (fun h33 => ?_)
      · have hF := hi_pos h33 hF
        obtain rfl := hr_somev hF
        exact jv_pc 1313 rfl (kk X hL.down)
      · have hF := hi_neg h33 hF
        refine jv_iconst hC dL_law_753 c32_0 ?_
        cases hF
set_option maxRecDepth 100000 in
set_option maxHeartbeats 4000000 in
theorem uL_13 {X : hm_X} {q L : Nat} {xs : Nat → Int32} {n : Nat} {S : hm_S} (hL : hm_LC (q + 1) L xs n S X) {i : Int32} {M M' : hm_M} (hF : fL_13 S xs L i M = some M') (kk : ∀ X' : hm_X, hm_LC q L xs n S X' → hm_U X' 1313 [(0, .ref 999999), (1, .ref 1), (2, .ref 76), (3, .ref 99), (4, .int i)] [] M' (hm_QL X')) : hm_U X 755 [(0, .ref 999999), (1, .ref 1), (2, .ref 76), (3, .ref 99), (4, .int i)] [] M (hm_QL X) := by
  have hC := hL.1
  unfold fL_13 at hF
  refine jv_aload_n hC 1 dL_law_755 rfl ?_
  obtain ⟨g1, hF⟩ := hg_some hF
  obtain ⟨r4, M3, c2, hF⟩ := hb_some hF
  refine jv_callV hC (st := []) [] (k_Ps_fallen c2) mm_Ps_fallen mi_Ps_fallen ml_L_80 dL_law_756 g1 rfl (Nat.le_of_ble_eq_true rfl) rfl rfl (Nat.le_of_ble_eq_true rfl) ?_
  refine jv_nf 759 [.int r4] rfl rfl ?_
  refine jv_aload_n hC 2 dL_law_759 rfl ?_
  obtain ⟨g5, hF⟩ := hg_some hF
  obtain ⟨r8, M7, c6, hF⟩ := hb_some hF
  refine jv_callV hC (st := [.int r4]) [] (k_Md_fallen c6) mm_Md_fallen mi_Md_fallen ml_L_83 dL_law_760 g5 rfl (Nat.le_of_ble_eq_true rfl) rfl rfl (Nat.le_of_ble_eq_true rfl) ?_
  refine jv_nf 763 [.int r8, .int r4] rfl rfl ?_
  refine jv_icmp_eq hC 1313 dL_law_763 (by decide) (fun h9 => ?_) (fun h9 => ?_)
  · have hF := hi_pos h9 hF
    obtain rfl := hr_somev hF
    exact jv_pc 1313 rfl (kk X hL.down)
  · have hF := hi_neg h9 hF
    refine jv_iconst hC dL_law_766 c32_0 ?_
    cases hF
set_option maxRecDepth 100000 in
set_option maxHeartbeats 4000000 in
theorem uL_14 {X : hm_X} {q L : Nat} {xs : Nat → Int32} {n : Nat} {S : hm_S} (hL : hm_LC (q + 1) L xs n S X) {i : Int32} {M M' : hm_M} (hF : fL_14 S xs L i M = some M') (kk : ∀ X' : hm_X, hm_LC q L xs n S X' → hm_U X' 1313 [(0, .ref 999999), (1, .ref 1), (2, .ref 76), (3, .ref 99), (4, .int i)] [] M' (hm_QL X')) : hm_U X 768 [(0, .ref 999999), (1, .ref 1), (2, .ref 76), (3, .ref 99), (4, .int i)] [] M (hm_QL X) := by
  have hC := hL.1
  unfold fL_14 at hF
  refine jv_aload_n hC 1 dL_law_768 rfl ?_
  refine jv_aload_n hC 0 dL_law_769 rfl ?_
  refine jv_iload hC 4 dL_law_770 rfl ?_
  refine jv_iconst hC dL_law_772 c32_1 ?_
  refine jv_iadd hC dL_law_773 ?_
  obtain ⟨g1, hF⟩ := hg_some hF
  refine jv_sld hL g1 dL_law_774 ?_
  obtain ⟨g2, hF⟩ := hg_some hF
  obtain ⟨r5, M4, c3, hF⟩ := hb_some hF
  refine jv_callV hC (st := []) [.int (xs (i + (1 : Int32)).toNatClampNeg)] (k_Ps_falls c3) mm_Ps_falls mi_Ps_falls ml_L_84 dL_law_775 g2 rfl (Nat.le_of_ble_eq_true rfl) rfl rfl (Nat.le_of_ble_eq_true rfl) ?_
  refine jv_nf 778 [.int r5] rfl rfl ?_
  refine jv_aload_n hC 2 dL_law_778 rfl ?_
  refine jv_aload_n hC 0 dL_law_779 rfl ?_
  refine jv_iload hC 4 dL_law_780 rfl ?_
  refine jv_iconst hC dL_law_782 c32_1 ?_
  refine jv_iadd hC dL_law_783 ?_
  refine jv_sld hL g1 dL_law_784 ?_
  obtain ⟨g6, hF⟩ := hg_some hF
  obtain ⟨r9, M8, c7, hF⟩ := hb_some hF
  refine jv_callV hC (st := [.int r5]) [.int (xs (i + (1 : Int32)).toNatClampNeg)] (k_Md_falls c7) mm_Md_falls mi_Md_falls ml_L_87 dL_law_785 g6 rfl (Nat.le_of_ble_eq_true rfl) rfl rfl (Nat.le_of_ble_eq_true rfl) ?_
  refine jv_nf 788 [.int r9, .int r5] rfl rfl ?_
  refine jv_icmp_eq hC 1313 dL_law_788 (by decide) (fun h10 => ?_) (fun h10 => ?_)
  · have hF := hi_pos h10 hF
    obtain rfl := hr_somev hF
    exact jv_pc 1313 rfl (kk X hL.down)
  · have hF := hi_neg h10 hF
    refine jv_iconst hC dL_law_791 c32_0 ?_
    cases hF
set_option maxRecDepth 100000 in
set_option maxHeartbeats 4000000 in
theorem uL_15 {X : hm_X} {q L : Nat} {xs : Nat → Int32} {n : Nat} {S : hm_S} (hL : hm_LC (q + 1) L xs n S X) {i : Int32} {M M' : hm_M} (hF : fL_15 S xs L i M = some M') (kk : ∀ X' : hm_X, hm_LC q L xs n S X' → hm_U X' 1313 [(0, .ref 999999), (1, .ref 1), (2, .ref 76), (3, .ref 99), (4, .int i)] [] M' (hm_QL X')) : hm_U X 793 [(0, .ref 999999), (1, .ref 1), (2, .ref 76), (3, .ref 99), (4, .int i)] [] M (hm_QL X) := by
  have hC := hL.1
  unfold fL_15 at hF
  refine jv_aload_n hC 1 dL_law_793 rfl ?_
  obtain ⟨g1, hF⟩ := hg_some hF
  obtain ⟨r4, M3, c2, hF⟩ := hb_some hF
  refine jv_callV hC (st := []) [] (k_Ps_undo c2) mm_Ps_undo mi_Ps_undo ml_L_88 dL_law_794 g1 rfl (Nat.le_of_ble_eq_true rfl) rfl rfl (Nat.le_of_ble_eq_true rfl) ?_
  refine jv_nf 797 [.int r4] rfl rfl ?_
  refine jv_aload_n hC 2 dL_law_797 rfl ?_
  obtain ⟨g5, hF⟩ := hg_some hF
  obtain ⟨r8, M7, c6, hF⟩ := hb_some hF
  refine jv_callV hC (st := [.int r4]) [] (k_Md_undo c6) mm_Md_undo mi_Md_undo ml_L_92 dL_law_798 g5 rfl (Nat.le_of_ble_eq_true rfl) rfl rfl (Nat.le_of_ble_eq_true rfl) ?_
  refine jv_nf 801 [.int r8, .int r4] rfl rfl ?_
  refine jv_icmp_eq hC 1313 dL_law_801 (by decide) (fun h9 => ?_) (fun h9 => ?_)
  · have hF := hi_pos h9 hF
    obtain rfl := hr_somev hF
    exact jv_pc 1313 rfl (kk X hL.down)
  · have hF := hi_neg h9 hF
    refine jv_iconst hC dL_law_804 c32_0 ?_
    cases hF
set_option maxRecDepth 100000 in
set_option maxHeartbeats 4000000 in
theorem uL_16 {X : hm_X} {q L : Nat} {xs : Nat → Int32} {n : Nat} {S : hm_S} (hL : hm_LC (q + 1) L xs n S X) {i : Int32} {M M' : hm_M} (hF : fL_16 S xs L i M = some M') (kk : ∀ X' : hm_X, hm_LC q L xs n S X' → hm_U X' 1313 [(0, .ref 999999), (1, .ref 1), (2, .ref 76), (3, .ref 99), (4, .int i)] [] M' (hm_QL X')) : hm_U X 806 [(0, .ref 999999), (1, .ref 1), (2, .ref 76), (3, .ref 99), (4, .int i)] [] M (hm_QL X) := by
  have hC := hL.1
  unfold fL_16 at hF
  refine jv_aload_n hC 1 dL_law_806 rfl ?_
  refine jv_aload_n hC 0 dL_law_807 rfl ?_
  refine jv_iload hC 4 dL_law_808 rfl ?_
  refine jv_iconst hC dL_law_810 c32_1 ?_
  refine jv_iadd hC dL_law_811 ?_
  obtain ⟨g1, hF⟩ := hg_some hF
  refine jv_sld hL g1 dL_law_812 ?_
  refine jv_aload_n hC 0 dL_law_813 rfl ?_
  refine jv_pc 814 rfl ?_
  refine jv_iload hC 4 dL_law_814 rfl ?_
  refine jv_iconst hC dL_law_816 c32_2 ?_
  refine jv_iadd hC dL_law_817 ?_
  obtain ⟨g2, hF⟩ := hg_some hF
  refine jv_sld hL g2 dL_law_818 ?_
  refine jv_aload_n hC 0 dL_law_819 rfl ?_
  refine jv_iload hC 4 dL_law_820 rfl ?_
  refine jv_iconst hC dL_law_822 c32_3 ?_
  refine jv_iadd hC dL_law_823 ?_
  refine jv_pc 824 rfl ?_
  obtain ⟨g3, hF⟩ := hg_some hF
  refine jv_sld hL g3 dL_law_824 ?_
  refine jv_aload_n hC 0 dL_law_825 rfl ?_
  refine jv_iload hC 4 dL_law_826 rfl ?_
  refine jv_iconst hC dL_law_828 c32_4 ?_
  refine jv_iadd hC dL_law_829 ?_
  obtain ⟨g4, hF⟩ := hg_some hF
  refine jv_sld hL g4 dL_law_830 ?_
  refine jv_aload_n hC 0 dL_law_831 rfl ?_
  refine jv_iload hC 4 dL_law_832 rfl ?_
  refine jv_pc 834 rfl ?_
  refine jv_iconst hC dL_law_834 c32_5 ?_
  refine jv_iadd hC dL_law_835 ?_
  obtain ⟨g5, hF⟩ := hg_some hF
  refine jv_sld hL g5 dL_law_836 ?_
  obtain ⟨g6, hF⟩ := hg_some hF
  obtain ⟨r9, M8, c7, hF⟩ := hb_some hF
  refine jv_callV hC (st := []) [.int (xs (i + (1 : Int32)).toNatClampNeg), .int (xs (i + (2 : Int32)).toNatClampNeg), .int (xs (i + (3 : Int32)).toNatClampNeg), .int (xs (i + (4 : Int32)).toNatClampNeg), .int (xs (i + (5 : Int32)).toNatClampNeg)] (k_Ps_stall c7) mm_Ps_stall mi_Ps_stall ml_L_93 dL_law_837 g6 rfl (Nat.le_of_ble_eq_true rfl) rfl rfl (Nat.le_of_ble_eq_true rfl) ?_
  refine jv_nf 840 [.int r9] rfl rfl ?_
  refine jv_aload_n hC 2 dL_law_840 rfl ?_
  refine jv_aload_n hC 0 dL_law_841 rfl ?_
  refine jv_iload hC 4 dL_law_842 rfl ?_
  refine jv_iconst hC dL_law_844 c32_1 ?_
  refine jv_iadd hC dL_law_845 ?_
  refine jv_sld hL g1 dL_law_846 ?_
  refine jv_aload_n hC 0 dL_law_847 rfl ?_
  refine jv_pc 848 rfl ?_
  refine jv_iload hC 4 dL_law_848 rfl ?_
  refine jv_iconst hC dL_law_850 c32_2 ?_
  refine jv_iadd hC dL_law_851 ?_
  refine jv_sld hL g2 dL_law_852 ?_
  refine jv_aload_n hC 0 dL_law_853 rfl ?_
  refine jv_iload hC 4 dL_law_854 rfl ?_
  refine jv_iconst hC dL_law_856 c32_3 ?_
  refine jv_iadd hC dL_law_857 ?_
  refine jv_pc 858 rfl ?_
  refine jv_sld hL g3 dL_law_858 ?_
  refine jv_aload_n hC 0 dL_law_859 rfl ?_
  refine jv_iload hC 4 dL_law_860 rfl ?_
  refine jv_iconst hC dL_law_862 c32_4 ?_
  refine jv_iadd hC dL_law_863 ?_
  refine jv_sld hL g4 dL_law_864 ?_
  refine jv_aload_n hC 0 dL_law_865 rfl ?_
  refine jv_iload hC 4 dL_law_866 rfl ?_
  refine jv_pc 868 rfl ?_
  refine jv_iconst hC dL_law_868 c32_5 ?_
  refine jv_iadd hC dL_law_869 ?_
  refine jv_sld hL g5 dL_law_870 ?_
  obtain ⟨g10, hF⟩ := hg_some hF
  obtain ⟨r13, M12, c11, hF⟩ := hb_some hF
  refine jv_callV hC (st := [.int r9]) [.int (xs (i + (1 : Int32)).toNatClampNeg), .int (xs (i + (2 : Int32)).toNatClampNeg), .int (xs (i + (3 : Int32)).toNatClampNeg), .int (xs (i + (4 : Int32)).toNatClampNeg), .int (xs (i + (5 : Int32)).toNatClampNeg)] (k_Md_stall c11) mm_Md_stall mi_Md_stall ml_L_96 dL_law_871 g10 rfl (Nat.le_of_ble_eq_true rfl) rfl rfl (Nat.le_of_ble_eq_true rfl) ?_
  refine jv_nf 874 [.int r13, .int r9] rfl rfl ?_
  refine jv_icmp_eq hC 1313 dL_law_874 (by decide) (fun h14 => ?_) (fun h14 => ?_)
  · have hF := hi_pos h14 hF
    obtain rfl := hr_somev hF
    exact jv_pc 1313 rfl (kk X hL.down)
  · have hF := hi_neg h14 hF
    refine jv_iconst hC dL_law_877 c32_0 ?_
    cases hF
set_option maxRecDepth 100000 in
set_option maxHeartbeats 4000000 in
theorem uL_17 {X : hm_X} {q L : Nat} {xs : Nat → Int32} {n : Nat} {S : hm_S} (hL : hm_LC (q + 1) L xs n S X) {i : Int32} {M M' : hm_M} (hF : fL_17 S xs L i M = some M') (kk : ∀ X' : hm_X, hm_LC q L xs n S X' → hm_U X' 1313 [(0, .ref 999999), (1, .ref 1), (2, .ref 76), (3, .ref 99), (4, .int i)] [] M' (hm_QL X')) : hm_U X 879 [(0, .ref 999999), (1, .ref 1), (2, .ref 76), (3, .ref 99), (4, .int i)] [] M (hm_QL X) := by
  have hC := hL.1
  unfold fL_17 at hF
  refine jv_aload_n hC 1 dL_law_879 rfl ?_
  refine jv_aload_n hC 0 dL_law_880 rfl ?_
  refine jv_iload hC 4 dL_law_881 rfl ?_
  refine jv_iconst hC dL_law_883 c32_1 ?_
  refine jv_iadd hC dL_law_884 ?_
  obtain ⟨g1, hF⟩ := hg_some hF
  refine jv_sld hL g1 dL_law_885 ?_
  refine jv_aload_n hC 0 dL_law_886 rfl ?_
  refine jv_pc 887 rfl ?_
  refine jv_iload hC 4 dL_law_887 rfl ?_
  refine jv_iconst hC dL_law_889 c32_2 ?_
  refine jv_iadd hC dL_law_890 ?_
  obtain ⟨g2, hF⟩ := hg_some hF
  refine jv_sld hL g2 dL_law_891 ?_
  refine jv_aload_n hC 0 dL_law_892 rfl ?_
  refine jv_iload hC 4 dL_law_893 rfl ?_
  refine jv_iconst hC dL_law_895 c32_3 ?_
  refine jv_iadd hC dL_law_896 ?_
  refine jv_pc 897 rfl ?_
  obtain ⟨g3, hF⟩ := hg_some hF
  refine jv_sld hL g3 dL_law_897 ?_
  obtain ⟨g4, hF⟩ := hg_some hF
  obtain ⟨r7, M6, c5, hF⟩ := hb_some hF
  refine jv_callV hC (st := []) [.int (xs (i + (1 : Int32)).toNatClampNeg), .int (xs (i + (2 : Int32)).toNatClampNeg), .int (xs (i + (3 : Int32)).toNatClampNeg)] (k_Ps_see c5) mm_Ps_see mi_Ps_see ml_L_97 dL_law_898 g4 rfl (Nat.le_of_ble_eq_true rfl) rfl rfl (Nat.le_of_ble_eq_true rfl) ?_
  refine jv_nf 901 [.int r7] rfl rfl ?_
  refine jv_aload_n hC 2 dL_law_901 rfl ?_
  refine jv_aload_n hC 0 dL_law_902 rfl ?_
  refine jv_iload hC 4 dL_law_903 rfl ?_
  refine jv_iconst hC dL_law_905 c32_1 ?_
  refine jv_iadd hC dL_law_906 ?_
  refine jv_sld hL g1 dL_law_907 ?_
  refine jv_aload_n hC 0 dL_law_908 rfl ?_
  refine jv_pc 909 rfl ?_
  refine jv_iload hC 4 dL_law_909 rfl ?_
  refine jv_iconst hC dL_law_911 c32_2 ?_
  refine jv_iadd hC dL_law_912 ?_
  refine jv_sld hL g2 dL_law_913 ?_
  refine jv_aload_n hC 0 dL_law_914 rfl ?_
  refine jv_iload hC 4 dL_law_915 rfl ?_
  refine jv_iconst hC dL_law_917 c32_3 ?_
  refine jv_iadd hC dL_law_918 ?_
  refine jv_pc 919 rfl ?_
  refine jv_sld hL g3 dL_law_919 ?_
  obtain ⟨g8, hF⟩ := hg_some hF
  obtain ⟨r11, M10, c9, hF⟩ := hb_some hF
  refine jv_callV hC (st := [.int r7]) [.int (xs (i + (1 : Int32)).toNatClampNeg), .int (xs (i + (2 : Int32)).toNatClampNeg), .int (xs (i + (3 : Int32)).toNatClampNeg)] (k_Md_see c9) mm_Md_see mi_Md_see ml_L_100 dL_law_920 g8 rfl (Nat.le_of_ble_eq_true rfl) rfl rfl (Nat.le_of_ble_eq_true rfl) ?_
  refine jv_nf 923 [.int r11, .int r7] rfl rfl ?_
  refine jv_icmp_eq hC 1313 dL_law_923 (by decide) (fun h12 => ?_) (fun h12 => ?_)
  · have hF := hi_pos h12 hF
    obtain rfl := hr_somev hF
    exact jv_pc 1313 rfl (kk X hL.down)
  · have hF := hi_neg h12 hF
    refine jv_iconst hC dL_law_926 c32_0 ?_
    cases hF
set_option maxRecDepth 100000 in
set_option maxHeartbeats 4000000 in
theorem uL_18 {X : hm_X} {q L : Nat} {xs : Nat → Int32} {n : Nat} {S : hm_S} (hL : hm_LC (q + 1) L xs n S X) {i : Int32} {M M' : hm_M} (hF : fL_18 S xs L i M = some M') (kk : ∀ X' : hm_X, hm_LC q L xs n S X' → hm_U X' 1313 [(0, .ref 999999), (1, .ref 1), (2, .ref 76), (3, .ref 99), (4, .int i)] [] M' (hm_QL X')) : hm_U X 928 [(0, .ref 999999), (1, .ref 1), (2, .ref 76), (3, .ref 99), (4, .int i)] [] M (hm_QL X) := by
  have hC := hL.1
  unfold fL_18 at hF
  refine jv_aload_n hC 1 dL_law_928 rfl ?_
  refine jv_aload_n hC 0 dL_law_929 rfl ?_
  refine jv_iload hC 4 dL_law_930 rfl ?_
  refine jv_iconst hC dL_law_932 c32_1 ?_
  refine jv_iadd hC dL_law_933 ?_
  obtain ⟨g1, hF⟩ := hg_some hF
  refine jv_sld hL g1 dL_law_934 ?_
  refine jv_aload_n hC 0 dL_law_935 rfl ?_
  refine jv_pc 936 rfl ?_
  refine jv_iload hC 4 dL_law_936 rfl ?_
  refine jv_iconst hC dL_law_938 c32_2 ?_
  refine jv_iadd hC dL_law_939 ?_
  obtain ⟨g2, hF⟩ := hg_some hF
  refine jv_sld hL g2 dL_law_940 ?_
  obtain ⟨g3, hF⟩ := hg_some hF
  obtain ⟨r6, M5, c4, hF⟩ := hb_some hF
  refine jv_callV hC (st := []) [.int (xs (i + (1 : Int32)).toNatClampNeg), .int (xs (i + (2 : Int32)).toNatClampNeg)] (k_Ps_candles c4) mm_Ps_candles mi_Ps_candles ml_L_101 dL_law_941 g3 rfl (Nat.le_of_ble_eq_true rfl) rfl rfl (Nat.le_of_ble_eq_true rfl) ?_
  refine jv_nf 944 [.int r6] rfl rfl ?_
  refine jv_aload_n hC 2 dL_law_944 rfl ?_
  refine jv_aload_n hC 0 dL_law_945 rfl ?_
  refine jv_iload hC 4 dL_law_946 rfl ?_
  refine jv_iconst hC dL_law_948 c32_1 ?_
  refine jv_iadd hC dL_law_949 ?_
  refine jv_sld hL g1 dL_law_950 ?_
  refine jv_aload_n hC 0 dL_law_951 rfl ?_
  refine jv_pc 952 rfl ?_
  refine jv_iload hC 4 dL_law_952 rfl ?_
  refine jv_iconst hC dL_law_954 c32_2 ?_
  refine jv_iadd hC dL_law_955 ?_
  refine jv_sld hL g2 dL_law_956 ?_
  obtain ⟨g7, hF⟩ := hg_some hF
  obtain ⟨r10, M9, c8, hF⟩ := hb_some hF
  refine jv_callV hC (st := [.int r6]) [.int (xs (i + (1 : Int32)).toNatClampNeg), .int (xs (i + (2 : Int32)).toNatClampNeg)] (k_Md_candles c8) mm_Md_candles mi_Md_candles ml_L_104 dL_law_957 g7 rfl (Nat.le_of_ble_eq_true rfl) rfl rfl (Nat.le_of_ble_eq_true rfl) ?_
  refine jv_nf 960 [.int r10, .int r6] rfl rfl ?_
  refine jv_icmp_eq hC 1313 dL_law_960 (by decide) (fun h11 => ?_) (fun h11 => ?_)
  · have hF := hi_pos h11 hF
    obtain rfl := hr_somev hF
    exact jv_pc 1313 rfl (kk X hL.down)
  · have hF := hi_neg h11 hF
    refine jv_iconst hC dL_law_963 c32_0 ?_
    cases hF
set_option maxRecDepth 100000 in
set_option maxHeartbeats 4000000 in
theorem uL_19 {X : hm_X} {q L : Nat} {xs : Nat → Int32} {n : Nat} {S : hm_S} (hL : hm_LC (q + 1) L xs n S X) {i : Int32} {M M' : hm_M} (hF : fL_19 S xs L i M = some M') (kk : ∀ X' : hm_X, hm_LC q L xs n S X' → hm_U X' 1313 [(0, .ref 999999), (1, .ref 1), (2, .ref 76), (3, .ref 99), (4, .int i)] [] M' (hm_QL X')) : hm_U X 965 [(0, .ref 999999), (1, .ref 1), (2, .ref 76), (3, .ref 99), (4, .int i)] [] M (hm_QL X) := by
  have hC := hL.1
  unfold fL_19 at hF
  refine jv_aload_n hC 1 dL_law_965 rfl ?_
  refine jv_aload_n hC 0 dL_law_966 rfl ?_
  refine jv_iload hC 4 dL_law_967 rfl ?_
  refine jv_iconst hC dL_law_969 c32_1 ?_
  refine jv_iadd hC dL_law_970 ?_
  obtain ⟨g1, hF⟩ := hg_some hF
  refine jv_sld hL g1 dL_law_971 ?_
  obtain ⟨g2, hF⟩ := hg_some hF
  obtain ⟨r5, M4, c3, hF⟩ := hb_some hF
  refine jv_callV hC (st := []) [.int (xs (i + (1 : Int32)).toNatClampNeg)] (k_Ps_when c3) mm_Ps_when mi_Ps_when ml_L_105 dL_law_972 g2 rfl (Nat.le_of_ble_eq_true rfl) rfl rfl (Nat.le_of_ble_eq_true rfl) ?_
  refine jv_nf 975 [.int r5] rfl rfl ?_
  refine jv_aload_n hC 2 dL_law_975 rfl ?_
  refine jv_aload_n hC 0 dL_law_976 rfl ?_
  refine jv_iload hC 4 dL_law_977 rfl ?_
  refine jv_iconst hC dL_law_979 c32_1 ?_
  refine jv_iadd hC dL_law_980 ?_
  refine jv_sld hL g1 dL_law_981 ?_
  obtain ⟨g6, hF⟩ := hg_some hF
  obtain ⟨r9, M8, c7, hF⟩ := hb_some hF
  refine jv_callV hC (st := [.int r5]) [.int (xs (i + (1 : Int32)).toNatClampNeg)] (k_Md_when c7) mm_Md_when mi_Md_when ml_L_108 dL_law_982 g6 rfl (Nat.le_of_ble_eq_true rfl) rfl rfl (Nat.le_of_ble_eq_true rfl) ?_
  refine jv_nf 985 [.int r9, .int r5] rfl rfl ?_
  refine jv_icmp_eq hC 1313 dL_law_985 (by decide) (fun h10 => ?_) (fun h10 => ?_)
  · have hF := hi_pos h10 hF
    obtain rfl := hr_somev hF
    exact jv_pc 1313 rfl (kk X hL.down)
  · have hF := hi_neg h10 hF
    refine jv_iconst hC dL_law_988 c32_0 ?_
    cases hF
set_option maxRecDepth 100000 in
set_option maxHeartbeats 4000000 in
theorem uL_20 {X : hm_X} {q L : Nat} {xs : Nat → Int32} {n : Nat} {S : hm_S} (hL : hm_LC (q + 1) L xs n S X) {i : Int32} {M M' : hm_M} (hF : fL_20 S xs L i M = some M') (kk : ∀ X' : hm_X, hm_LC q L xs n S X' → hm_U X' 1313 [(0, .ref 999999), (1, .ref 1), (2, .ref 76), (3, .ref 99), (4, .int i)] [] M' (hm_QL X')) : hm_U X 990 [(0, .ref 999999), (1, .ref 1), (2, .ref 76), (3, .ref 99), (4, .int i)] [] M (hm_QL X) := by
  have hC := hL.1
  unfold fL_20 at hF
  refine jv_aload_n hC 1 dL_law_990 rfl ?_
  obtain ⟨g1, hF⟩ := hg_some hF
  obtain ⟨r4, M3, c2, hF⟩ := hb_some hF
  refine jv_callV hC (st := []) [] (k_Ps_clear c2) mm_Ps_clear mi_Ps_clear ml_L_109 dL_law_991 g1 rfl (Nat.le_of_ble_eq_true rfl) rfl rfl (Nat.le_of_ble_eq_true rfl) ?_
  refine jv_nf 994 [.int r4] rfl rfl ?_
  refine jv_aload_n hC 2 dL_law_994 rfl ?_
  obtain ⟨g5, hF⟩ := hg_some hF
  obtain ⟨r8, M7, c6, hF⟩ := hb_some hF
  refine jv_callV hC (st := [.int r4]) [] (k_Md_clear c6) mm_Md_clear mi_Md_clear ml_L_112 dL_law_995 g5 rfl (Nat.le_of_ble_eq_true rfl) rfl rfl (Nat.le_of_ble_eq_true rfl) ?_
  refine jv_nf 998 [.int r8, .int r4] rfl rfl ?_
  refine jv_icmp_eq hC 1313 dL_law_998 (by decide) (fun h9 => ?_) (fun h9 => ?_)
  · have hF := hi_pos h9 hF
    obtain rfl := hr_somev hF
    exact jv_pc 1313 rfl (kk X hL.down)
  · have hF := hi_neg h9 hF
    refine jv_iconst hC dL_law_1001 c32_0 ?_
    cases hF
set_option maxRecDepth 100000 in
set_option maxHeartbeats 4000000 in
theorem uL_21 {X : hm_X} {q L : Nat} {xs : Nat → Int32} {n : Nat} {S : hm_S} (hL : hm_LC (q + 1) L xs n S X) {i : Int32} {M M' : hm_M} (hF : fL_21 S xs L i M = some M') (kk : ∀ X' : hm_X, hm_LC q L xs n S X' → hm_U X' 1313 [(0, .ref 999999), (1, .ref 1), (2, .ref 76), (3, .ref 99), (4, .int i)] [] M' (hm_QL X')) : hm_U X 1003 [(0, .ref 999999), (1, .ref 1), (2, .ref 76), (3, .ref 99), (4, .int i)] [] M (hm_QL X) := by
  have hC := hL.1
  unfold fL_21 at hF
  refine jv_aload_n hC 1 dL_law_1003 rfl ?_
  refine jv_aload_n hC 0 dL_law_1004 rfl ?_
  refine jv_iload hC 4 dL_law_1005 rfl ?_
  refine jv_iconst hC dL_law_1007 c32_1 ?_
  refine jv_iadd hC dL_law_1008 ?_
  obtain ⟨g1, hF⟩ := hg_some hF
  refine jv_sld hL g1 dL_law_1009 ?_
  refine jv_aload_n hC 0 dL_law_1010 rfl ?_
  refine jv_pc 1011 rfl ?_
  refine jv_iload hC 4 dL_law_1011 rfl ?_
  refine jv_iconst hC dL_law_1013 c32_2 ?_
  refine jv_iadd hC dL_law_1014 ?_
  obtain ⟨g2, hF⟩ := hg_some hF
  refine jv_sld hL g2 dL_law_1015 ?_
  refine jv_aload_n hC 0 dL_law_1016 rfl ?_
  refine jv_iload hC 4 dL_law_1017 rfl ?_
  refine jv_iconst hC dL_law_1019 c32_3 ?_
  refine jv_iadd hC dL_law_1020 ?_
  refine jv_pc 1021 rfl ?_
  obtain ⟨g3, hF⟩ := hg_some hF
  refine jv_sld hL g3 dL_law_1021 ?_
  refine jv_aload_n hC 0 dL_law_1022 rfl ?_
  refine jv_iload hC 4 dL_law_1023 rfl ?_
  refine jv_iconst hC dL_law_1025 c32_4 ?_
  refine jv_iadd hC dL_law_1026 ?_
  obtain ⟨g4, hF⟩ := hg_some hF
  refine jv_sld hL g4 dL_law_1027 ?_
  obtain ⟨g5, hF⟩ := hg_some hF
  obtain ⟨r8, M7, c6, hF⟩ := hb_some hF
  refine jv_callV hC (st := []) [.int (xs (i + (1 : Int32)).toNatClampNeg), .int (xs (i + (2 : Int32)).toNatClampNeg), .int (xs (i + (3 : Int32)).toNatClampNeg), .int (xs (i + (4 : Int32)).toNatClampNeg)] (k_Ps_stains c6) mm_Ps_stains mi_Ps_stains ml_L_113 dL_law_1028 g5 rfl (Nat.le_of_ble_eq_true rfl) rfl rfl (Nat.le_of_ble_eq_true rfl) ?_
  refine jv_nf 1031 [.int r8] rfl rfl ?_
  refine jv_aload_n hC 2 dL_law_1031 rfl ?_
  refine jv_aload_n hC 0 dL_law_1032 rfl ?_
  refine jv_iload hC 4 dL_law_1033 rfl ?_
  refine jv_iconst hC dL_law_1035 c32_1 ?_
  refine jv_iadd hC dL_law_1036 ?_
  refine jv_sld hL g1 dL_law_1037 ?_
  refine jv_aload_n hC 0 dL_law_1038 rfl ?_
  refine jv_pc 1039 rfl ?_
  refine jv_iload hC 4 dL_law_1039 rfl ?_
  refine jv_iconst hC dL_law_1041 c32_2 ?_
  refine jv_iadd hC dL_law_1042 ?_
  refine jv_sld hL g2 dL_law_1043 ?_
  refine jv_aload_n hC 0 dL_law_1044 rfl ?_
  refine jv_iload hC 4 dL_law_1045 rfl ?_
  refine jv_iconst hC dL_law_1047 c32_3 ?_
  refine jv_iadd hC dL_law_1048 ?_
  refine jv_pc 1049 rfl ?_
  refine jv_sld hL g3 dL_law_1049 ?_
  refine jv_aload_n hC 0 dL_law_1050 rfl ?_
  refine jv_iload hC 4 dL_law_1051 rfl ?_
  refine jv_iconst hC dL_law_1053 c32_4 ?_
  refine jv_iadd hC dL_law_1054 ?_
  refine jv_sld hL g4 dL_law_1055 ?_
  obtain ⟨g9, hF⟩ := hg_some hF
  obtain ⟨r12, M11, c10, hF⟩ := hb_some hF
  refine jv_callV hC (st := [.int r8]) [.int (xs (i + (1 : Int32)).toNatClampNeg), .int (xs (i + (2 : Int32)).toNatClampNeg), .int (xs (i + (3 : Int32)).toNatClampNeg), .int (xs (i + (4 : Int32)).toNatClampNeg)] (k_Md_stains c10) mm_Md_stains mi_Md_stains ml_L_117 dL_law_1056 g9 rfl (Nat.le_of_ble_eq_true rfl) rfl rfl (Nat.le_of_ble_eq_true rfl) ?_
  refine jv_nf 1059 [.int r12, .int r8] rfl rfl ?_
  refine jv_icmp_eq hC 1313 dL_law_1059 (by decide) (fun h13 => ?_) (fun h13 => ?_)
  · have hF := hi_pos h13 hF
    obtain rfl := hr_somev hF
    exact jv_pc 1313 rfl (kk X hL.down)
  · have hF := hi_neg h13 hF
    refine jv_iconst hC dL_law_1062 c32_0 ?_
    cases hF
set_option maxRecDepth 100000 in
set_option maxHeartbeats 4000000 in
theorem uL_22 {X : hm_X} {q L : Nat} {xs : Nat → Int32} {n : Nat} {S : hm_S} (hL : hm_LC (q + 1) L xs n S X) {i : Int32} {M M' : hm_M} (hF : fL_22 S xs L i M = some M') (kk : ∀ X' : hm_X, hm_LC q L xs n S X' → hm_U X' 1313 [(0, .ref 999999), (1, .ref 1), (2, .ref 76), (3, .ref 99), (4, .int i)] [] M' (hm_QL X')) : hm_U X 1064 [(0, .ref 999999), (1, .ref 1), (2, .ref 76), (3, .ref 99), (4, .int i)] [] M (hm_QL X) := by
  have hC := hL.1
  unfold fL_22 at hF
  refine jv_aload_n hC 1 dL_law_1064 rfl ?_
  refine jv_aload_n hC 0 dL_law_1065 rfl ?_
  refine jv_iload hC 4 dL_law_1066 rfl ?_
  refine jv_iconst hC dL_law_1068 c32_1 ?_
  refine jv_iadd hC dL_law_1069 ?_
  obtain ⟨g1, hF⟩ := hg_some hF
  refine jv_sld hL g1 dL_law_1070 ?_
  refine jv_aload_n hC 0 dL_law_1071 rfl ?_
  refine jv_pc 1072 rfl ?_
  refine jv_iload hC 4 dL_law_1072 rfl ?_
  refine jv_iconst hC dL_law_1074 c32_2 ?_
  refine jv_iadd hC dL_law_1075 ?_
  obtain ⟨g2, hF⟩ := hg_some hF
  refine jv_sld hL g2 dL_law_1076 ?_
  refine jv_aload_n hC 0 dL_law_1077 rfl ?_
  refine jv_iload hC 4 dL_law_1078 rfl ?_
  refine jv_iconst hC dL_law_1080 c32_3 ?_
  refine jv_iadd hC dL_law_1081 ?_
  refine jv_pc 1082 rfl ?_
  obtain ⟨g3, hF⟩ := hg_some hF
  refine jv_sld hL g3 dL_law_1082 ?_
  refine jv_aload_n hC 0 dL_law_1083 rfl ?_
  refine jv_iload hC 4 dL_law_1084 rfl ?_
  refine jv_iconst hC dL_law_1086 c32_4 ?_
  refine jv_iadd hC dL_law_1087 ?_
  obtain ⟨g4, hF⟩ := hg_some hF
  refine jv_sld hL g4 dL_law_1088 ?_
  refine jv_aload_n hC 0 dL_law_1089 rfl ?_
  refine jv_iload hC 4 dL_law_1090 rfl ?_
  refine jv_pc 1092 rfl ?_
  refine jv_iconst hC dL_law_1092 c32_5 ?_
  refine jv_iadd hC dL_law_1093 ?_
  obtain ⟨g5, hF⟩ := hg_some hF
  refine jv_sld hL g5 dL_law_1094 ?_
  refine jv_aload_n hC 0 dL_law_1095 rfl ?_
  refine jv_iload hC 4 dL_law_1096 rfl ?_
  refine jv_bipush hC dL_law_1098 c8_6 ?_
  refine jv_iadd hC dL_law_1100 ?_
  obtain ⟨g6, hF⟩ := hg_some hF
  refine jv_sld hL g6 dL_law_1101 ?_
  refine jv_pc 1102 rfl ?_
  refine jv_if_eq hC 1109 dL_law_1102 (by decide) (fun h7 => ?_) (fun h7 => ?_)
  · have hF := hi_pos h7 hF
    refine jv_iconst hC dL_law_1109 c32_0 ?_
    obtain ⟨g8, hF⟩ := hg_some hF
    obtain ⟨r11, M10, c9, hF⟩ := hb_some hF
    refine jv_callV hC (st := []) [.int (xs (i + (1 : Int32)).toNatClampNeg), .int (xs (i + (2 : Int32)).toNatClampNeg), .int (xs (i + (3 : Int32)).toNatClampNeg), .int (xs (i + (4 : Int32)).toNatClampNeg), .int (xs (i + (5 : Int32)).toNatClampNeg), .int (0 : Int32)] (k_Ps_stood c9) mm_Ps_stood mi_Ps_stood ml_L_118 dL_law_1110 g8 rfl (Nat.le_of_ble_eq_true rfl) rfl rfl (Nat.le_of_ble_eq_true rfl) ?_
    refine jv_nf 1113 [.int r11] rfl rfl ?_
    refine jv_aload_n hC 2 dL_law_1113 rfl ?_
    refine jv_aload_n hC 0 dL_law_1114 rfl ?_
    refine jv_iload hC 4 dL_law_1115 rfl ?_
    refine jv_iconst hC dL_law_1117 c32_1 ?_
    refine jv_iadd hC dL_law_1118 ?_
    refine jv_sld hL g1 dL_law_1119 ?_
    refine jv_aload_n hC 0 dL_law_1120 rfl ?_
    refine jv_pc 1121 rfl ?_
    refine jv_iload hC 4 dL_law_1121 rfl ?_
    refine jv_iconst hC dL_law_1123 c32_2 ?_
    refine jv_iadd hC dL_law_1124 ?_
    refine jv_sld hL g2 dL_law_1125 ?_
    refine jv_aload_n hC 0 dL_law_1126 rfl ?_
    refine jv_iload hC 4 dL_law_1127 rfl ?_
    refine jv_iconst hC dL_law_1129 c32_3 ?_
    refine jv_iadd hC dL_law_1130 ?_
    refine jv_pc 1131 rfl ?_
    refine jv_sld hL g3 dL_law_1131 ?_
    refine jv_aload_n hC 0 dL_law_1132 rfl ?_
    refine jv_iload hC 4 dL_law_1133 rfl ?_
    refine jv_iconst hC dL_law_1135 c32_4 ?_
    refine jv_iadd hC dL_law_1136 ?_
    refine jv_sld hL g4 dL_law_1137 ?_
    refine jv_aload_n hC 0 dL_law_1138 rfl ?_
    refine jv_iload hC 4 dL_law_1139 rfl ?_
    refine jv_pc 1141 rfl ?_
    refine jv_iconst hC dL_law_1141 c32_5 ?_
    refine jv_iadd hC dL_law_1142 ?_
    refine jv_sld hL g5 dL_law_1143 ?_
    refine jv_aload_n hC 0 dL_law_1144 rfl ?_
    refine jv_iload hC 4 dL_law_1145 rfl ?_
    refine jv_bipush hC dL_law_1147 c8_6 ?_
    refine jv_iadd hC dL_law_1149 ?_
    refine jv_sld hL g6 dL_law_1150 ?_
    refine jv_pc 1151 rfl ?_
    refine jv_if_eq hC 1158 dL_law_1151 (by decide) (fun h12 => ?_) (fun h12 => ?_)
    · have hF := hi_pos h12 hF
      refine jv_iconst hC dL_law_1158 c32_0 ?_
      obtain ⟨g13, hF⟩ := hg_some hF
      obtain ⟨r16, M15, c14, hF⟩ := hb_some hF
      refine jv_callV hC (st := [.int r11]) [.int (xs (i + (1 : Int32)).toNatClampNeg), .int (xs (i + (2 : Int32)).toNatClampNeg), .int (xs (i + (3 : Int32)).toNatClampNeg), .int (xs (i + (4 : Int32)).toNatClampNeg), .int (xs (i + (5 : Int32)).toNatClampNeg), .int (0 : Int32)] (k_Md_stood c14) mm_Md_stood mi_Md_stood ml_L_122 dL_law_1159 g13 rfl (Nat.le_of_ble_eq_true rfl) rfl rfl (Nat.le_of_ble_eq_true rfl) ?_
      refine jv_nf 1162 [.int r16, .int r11] rfl rfl ?_
      refine jv_icmp_eq hC 1313 dL_law_1162 (by decide) (fun h17 => ?_) (fun h17 => ?_)
      · have hF := hi_pos h17 hF
        obtain rfl := hr_somev hF
        exact jv_pc 1313 rfl (kk X hL.down)
      · have hF := hi_neg h17 hF
        refine jv_iconst hC dL_law_1165 c32_0 ?_
        cases hF
    · have hF := hi_neg h12 hF
      refine jv_iconst hC dL_law_1154 c32_1 ?_
      refine jv_goto hC 1159 dL_law_1155 (by decide) ?_
      obtain ⟨g18, hF⟩ := hg_some hF
      obtain ⟨r21, M20, c19, hF⟩ := hb_some hF
      refine jv_callV hC (st := [.int r11]) [.int (xs (i + (1 : Int32)).toNatClampNeg), .int (xs (i + (2 : Int32)).toNatClampNeg), .int (xs (i + (3 : Int32)).toNatClampNeg), .int (xs (i + (4 : Int32)).toNatClampNeg), .int (xs (i + (5 : Int32)).toNatClampNeg), .int (1 : Int32)] (k_Md_stood c19) mm_Md_stood mi_Md_stood ml_L_122 dL_law_1159 g18 rfl (Nat.le_of_ble_eq_true rfl) rfl rfl (Nat.le_of_ble_eq_true rfl) ?_
      refine jv_nf 1162 [.int r21, .int r11] rfl rfl ?_
      refine jv_icmp_eq hC 1313 dL_law_1162 (by decide) (fun h22 => ?_) (fun h22 => ?_)
      · have hF := hi_pos h22 hF
        obtain rfl := hr_somev hF
        exact jv_pc 1313 rfl (kk X hL.down)
      · have hF := hi_neg h22 hF
        refine jv_iconst hC dL_law_1165 c32_0 ?_
        cases hF
  · have hF := hi_neg h7 hF
    refine jv_iconst hC dL_law_1105 c32_1 ?_
    refine jv_goto hC 1110 dL_law_1106 (by decide) ?_
    obtain ⟨g23, hF⟩ := hg_some hF
    obtain ⟨r26, M25, c24, hF⟩ := hb_some hF
    refine jv_callV hC (st := []) [.int (xs (i + (1 : Int32)).toNatClampNeg), .int (xs (i + (2 : Int32)).toNatClampNeg), .int (xs (i + (3 : Int32)).toNatClampNeg), .int (xs (i + (4 : Int32)).toNatClampNeg), .int (xs (i + (5 : Int32)).toNatClampNeg), .int (1 : Int32)] (k_Ps_stood c24) mm_Ps_stood mi_Ps_stood ml_L_118 dL_law_1110 g23 rfl (Nat.le_of_ble_eq_true rfl) rfl rfl (Nat.le_of_ble_eq_true rfl) ?_
    refine jv_nf 1113 [.int r26] rfl rfl ?_
    refine jv_aload_n hC 2 dL_law_1113 rfl ?_
    refine jv_aload_n hC 0 dL_law_1114 rfl ?_
    refine jv_iload hC 4 dL_law_1115 rfl ?_
    refine jv_iconst hC dL_law_1117 c32_1 ?_
    refine jv_iadd hC dL_law_1118 ?_
    refine jv_sld hL g1 dL_law_1119 ?_
    refine jv_aload_n hC 0 dL_law_1120 rfl ?_
    refine jv_pc 1121 rfl ?_
    refine jv_iload hC 4 dL_law_1121 rfl ?_
    refine jv_iconst hC dL_law_1123 c32_2 ?_
    refine jv_iadd hC dL_law_1124 ?_
    refine jv_sld hL g2 dL_law_1125 ?_
    refine jv_aload_n hC 0 dL_law_1126 rfl ?_
    refine jv_iload hC 4 dL_law_1127 rfl ?_
    refine jv_iconst hC dL_law_1129 c32_3 ?_
    refine jv_iadd hC dL_law_1130 ?_
    refine jv_pc 1131 rfl ?_
    refine jv_sld hL g3 dL_law_1131 ?_
    refine jv_aload_n hC 0 dL_law_1132 rfl ?_
    refine jv_iload hC 4 dL_law_1133 rfl ?_
    refine jv_iconst hC dL_law_1135 c32_4 ?_
    refine jv_iadd hC dL_law_1136 ?_
    refine jv_sld hL g4 dL_law_1137 ?_
    refine jv_aload_n hC 0 dL_law_1138 rfl ?_
    refine jv_iload hC 4 dL_law_1139 rfl ?_
    refine jv_pc 1141 rfl ?_
    refine jv_iconst hC dL_law_1141 c32_5 ?_
    refine jv_iadd hC dL_law_1142 ?_
    refine jv_sld hL g5 dL_law_1143 ?_
    refine jv_aload_n hC 0 dL_law_1144 rfl ?_
    refine jv_iload hC 4 dL_law_1145 rfl ?_
    refine jv_bipush hC dL_law_1147 c8_6 ?_
    refine jv_iadd hC dL_law_1149 ?_
    refine jv_sld hL g6 dL_law_1150 ?_
    refine jv_pc 1151 rfl ?_
    refine jv_if_eq hC 1158 dL_law_1151 (by decide) (fun h27 => ?_) (fun h27 => ?_)
    · have hF := hi_pos h27 hF
      refine jv_iconst hC dL_law_1158 c32_0 ?_
      obtain ⟨g28, hF⟩ := hg_some hF
      obtain ⟨r31, M30, c29, hF⟩ := hb_some hF
      refine jv_callV hC (st := [.int r26]) [.int (xs (i + (1 : Int32)).toNatClampNeg), .int (xs (i + (2 : Int32)).toNatClampNeg), .int (xs (i + (3 : Int32)).toNatClampNeg), .int (xs (i + (4 : Int32)).toNatClampNeg), .int (xs (i + (5 : Int32)).toNatClampNeg), .int (0 : Int32)] (k_Md_stood c29) mm_Md_stood mi_Md_stood ml_L_122 dL_law_1159 g28 rfl (Nat.le_of_ble_eq_true rfl) rfl rfl (Nat.le_of_ble_eq_true rfl) ?_
      refine jv_nf 1162 [.int r31, .int r26] rfl rfl ?_
      refine jv_icmp_eq hC 1313 dL_law_1162 (by decide) (fun h32 => ?_) (fun h32 => ?_)
      · have hF := hi_pos h32 hF
        obtain rfl := hr_somev hF
        exact jv_pc 1313 rfl (kk X hL.down)
      · have hF := hi_neg h32 hF
        refine jv_iconst hC dL_law_1165 c32_0 ?_
        cases hF
    · have hF := hi_neg h27 hF
      refine jv_iconst hC dL_law_1154 c32_1 ?_
      refine jv_goto hC 1159 dL_law_1155 (by decide) ?_
      obtain ⟨g33, hF⟩ := hg_some hF
      obtain ⟨r36, M35, c34, hF⟩ := hb_some hF
      refine jv_callV hC (st := [.int r26]) [.int (xs (i + (1 : Int32)).toNatClampNeg), .int (xs (i + (2 : Int32)).toNatClampNeg), .int (xs (i + (3 : Int32)).toNatClampNeg), .int (xs (i + (4 : Int32)).toNatClampNeg), .int (xs (i + (5 : Int32)).toNatClampNeg), .int (1 : Int32)] (k_Md_stood c34) mm_Md_stood mi_Md_stood ml_L_122 dL_law_1159 g33 rfl (Nat.le_of_ble_eq_true rfl) rfl rfl (Nat.le_of_ble_eq_true rfl) ?_
      refine jv_nf 1162 [.int r36, .int r26] rfl rfl ?_
      refine jv_icmp_eq hC 1313 dL_law_1162 (by decide) (fun h37 => ?_) (fun h37 => ?_)
      · have hF := hi_pos h37 hF
        obtain rfl := hr_somev hF
        exact jv_pc 1313 rfl (kk X hL.down)
      · have hF := hi_neg h37 hF
        refine jv_iconst hC dL_law_1165 c32_0 ?_
        cases hF
set_option maxRecDepth 100000 in
set_option maxHeartbeats 4000000 in
theorem uL_23r {X : hm_X} {q L : Nat} {xs : Nat → Int32} {n : Nat} {S : hm_S} (hL : hm_LC q L xs n S X) {i k : Int32} {M M' : hm_M} (hF : fL_23r S xs L i k M = some M') (kk : hm_U X 1313 [(0, .ref 999999), (1, .ref 1), (2, .ref 76), (3, .ref 99), (4, .int i)] [] M' (hm_QL X)) : hm_U X 1184 [(0, .ref 999999), (1, .ref 1), (2, .ref 76), (3, .ref 99), (4, .int i)] [.int k] M (hm_QL X) := by
  have hC := hL.1
  unfold fL_23r at hF
  refine jv_istore hC [(5, .int k), (0, .ref 999999), (1, .ref 1), (2, .ref 76), (3, .ref 99), (4, .int i)] dL_law_1184 (by decide) rfl ?_
  refine jv_aload_n hC 3 dL_law_1186 rfl ?_
  refine jv_aload_n hC 1 dL_law_1187 rfl ?_
  refine jv_iload hC 5 dL_law_1188 rfl ?_
  refine jv_iconst hC dL_law_1190 c32_1 ?_
  refine jv_iadd hC dL_law_1191 ?_
  obtain ⟨g1, hF⟩ := hg_some hF
  refine jv_sld hL g1 dL_law_1192 ?_
  refine jv_pc 1193 rfl ?_
  refine jv_aload_n hC 1 dL_law_1193 rfl ?_
  refine jv_iload hC 5 dL_law_1194 rfl ?_
  refine jv_iconst hC dL_law_1196 c32_2 ?_
  refine jv_iadd hC dL_law_1197 ?_
  obtain ⟨g2, hF⟩ := hg_some hF
  refine jv_sld hL g2 dL_law_1198 ?_
  obtain ⟨g3, hF⟩ := hg_some hF
  obtain ⟨r6, M5, c4, hF⟩ := hb_some hF
  refine jv_callV hC (st := []) [.int (xs (i + (1 : Int32)).toNatClampNeg), .int (xs (i + (2 : Int32)).toNatClampNeg)] (k_Md_clouded c4) mm_Md_clouded mi_Md_clouded ml_L_128 dL_law_1199 g3 rfl (Nat.le_of_ble_eq_true rfl) rfl rfl (Nat.le_of_ble_eq_true rfl) ?_
  refine jv_nf 1202 [.int r6] rfl rfl ?_
  refine jv_istore hC [(6, .int r6), (5, .int k), (0, .ref 999999), (1, .ref 1), (2, .ref 76), (3, .ref 99), (4, .int i)] dL_law_1202 (by decide) rfl ?_
  refine jv_aload_n hC 4 dL_law_1204 rfl ?_
  obtain ⟨r9, M8, c7, hF⟩ := hb_some hF
  refine jv_callV hC (st := []) [] (k_Md_thrown c7) mm_Md_thrown mi_Md_thrown ml_L_129 dL_law_1205 g3 rfl (Nat.le_of_ble_eq_true rfl) rfl rfl (Nat.le_of_ble_eq_true rfl) ?_
  refine jv_nf 1208 [.int r9] rfl rfl ?_
  refine jv_iload hC 1 dL_law_1208 rfl ?_
  refine jv_icmp_eq hC 1215 dL_law_1210 (by decide) (fun h10 => ?_) (fun h10 => ?_)
  · have hF := hi_pos h10 hF
    refine jv_iload hC 1 dL_law_1215 rfl ?_
    refine jv_if_ne hC 1232 dL_law_1217 (by decide) (fun h11 => ?_) (fun h11 => ?_)
    · have hF := hi_neg h11 hF
      refine jv_goto hC 1313 dL_law_1232 (by decide) ?_
      refine jv_sub [2, 3, 4, 5, 6] (ls' := [(0, .ref 999999), (1, .ref 1), (2, .ref 76), (3, .ref 99), (4, .int i)]) rfl ?_
      obtain rfl := hr_somev hF
      exact jv_pc 1313 rfl kk
    · have hF := hi_pos h11 hF
      refine jv_aload_n hC 5 dL_law_1220 rfl ?_
      refine jv_iconst hC dL_law_1221 c32_0 ?_
      obtain ⟨g12, hF⟩ := hg_some hF
      obtain ⟨n13, sn13, in13⟩ := hm_ib_ok g12
      refine jv_laload hC dL_law_1222 sn13 in13 ?_
      refine jv_iload hC 0 dL_law_1223 rfl ?_
      refine jv_i2l hC dL_law_1225 ?_
      refine jv_lcmp hC dL_law_1226 ?_
      refine jv_if_eq hC 1232 dL_law_1227 (by decide) (fun h14 => ?_) (fun h14 => ?_)
      · have hF := hi_pos h14 hF
        refine jv_goto hC 1313 dL_law_1232 (by decide) ?_
        refine jv_sub [2, 3, 4, 5, 6] (ls' := [(0, .ref 999999), (1, .ref 1), (2, .ref 76), (3, .ref 99), (4, .int i)]) rfl ?_
        obtain rfl := hr_somev hF
        exact jv_pc 1313 rfl kk
      · have hF := hi_neg h14 hF
        refine jv_iconst hC dL_law_1230 c32_0 ?_
        cases hF
  · have hF := hi_neg h10 hF
    refine jv_iconst hC dL_law_1213 c32_0 ?_
    cases hF
set_option maxRecDepth 100000 in
set_option maxHeartbeats 4000000 in
theorem uL_23 {X : hm_X} {q L : Nat} {xs : Nat → Int32} {n : Nat} {S : hm_S} (hL : hm_LC (q + 1) L xs n S X) {i : Int32} {M M' M1 : hm_M} {k : Int32} (hF : (hg (hm_in (i + (1 : Int32)) L = true) <| hg (hm_in (i + (2 : Int32)) L = true) <| some M) = some M) (hk : ∀ (l : Launch) (_ : l.stackTraces = false) (dC : Nat → ClassId) (dI : Nat → Nat → Nat) (dA : FieldType → ClassId) (ad : Nat → Nat) (sz : Nat), Met l yL_clouded (.codeWith yL_clouded cL_clouded 5 (some .int) [(0, 10, 13, 13)] :: gW) (hm_roomA 41 1 6) (hm_PcT dC dI dA ad n S sz [.ref 1, .int (xs (i + (1 : Int32)).toNatClampNeg), .int (xs (i + (2 : Int32)).toNatClampNeg), .ref 99] M) (hm_Qc dC dI dA ad n S (hm_An ad n sz) (some (.int k)) M1) 1 6 (hm_An ad n sz)) (hF1 : fL_23r S xs L i k M1 = some M') (kk : ∀ X' : hm_X, hm_LC q L xs n S X' → hm_U X' 1313 [(0, .ref 999999), (1, .ref 1), (2, .ref 76), (3, .ref 99), (4, .int i)] [] M' (hm_QL X')) : hm_U X 1167 [(0, .ref 999999), (1, .ref 1), (2, .ref 76), (3, .ref 99), (4, .int i)] [] M (hm_QL X) := by
  have hC := hL.1
  refine jv_aload_n hC 1 dL_law_1167 rfl ?_
  refine jv_aload_n hC 0 dL_law_1168 rfl ?_
  refine jv_iload hC 4 dL_law_1169 rfl ?_
  refine jv_iconst hC dL_law_1171 c32_1 ?_
  refine jv_iadd hC dL_law_1172 ?_
  obtain ⟨g1, hF⟩ := hg_some hF
  refine jv_sld hL g1 dL_law_1173 ?_
  refine jv_aload_n hC 0 dL_law_1174 rfl ?_
  refine jv_pc 1175 rfl ?_
  refine jv_iload hC 4 dL_law_1175 rfl ?_
  refine jv_iconst hC dL_law_1177 c32_2 ?_
  refine jv_iadd hC dL_law_1178 ?_
  obtain ⟨g2, hF⟩ := hg_some hF
  refine jv_sld hL g2 dL_law_1179 ?_
  refine jv_aload_n hC 3 dL_law_1180 rfl ?_
  refine jv_pc 1181 rfl ?_
  exact jv_callLC hL dL_law_1181 hk (fun X' hL' _ => uL_23r hL' hF1 (kk X' hL'))
set_option maxRecDepth 100000 in
set_option maxHeartbeats 4000000 in
theorem uL_24 {X : hm_X} {q L : Nat} {xs : Nat → Int32} {n : Nat} {S : hm_S} (hL : hm_LC (q + 1) L xs n S X) {i : Int32} {M M' : hm_M} (hF : fL_24 S xs L i M = some M') (kk : ∀ X' : hm_X, hm_LC q L xs n S X' → hm_U X' 1313 [(0, .ref 999999), (1, .ref 1), (2, .ref 76), (3, .ref 99), (4, .int i)] [] M' (hm_QL X')) : hm_U X 1235 [(0, .ref 999999), (1, .ref 1), (2, .ref 76), (3, .ref 99), (4, .int i)] [] M (hm_QL X) := by
  have hC := hL.1
  unfold fL_24 at hF
  refine jv_aload_n hC 1 dL_law_1235 rfl ?_
  refine jv_aload_n hC 0 dL_law_1236 rfl ?_
  refine jv_iload hC 4 dL_law_1237 rfl ?_
  refine jv_iconst hC dL_law_1239 c32_1 ?_
  refine jv_iadd hC dL_law_1240 ?_
  obtain ⟨g1, hF⟩ := hg_some hF
  refine jv_sld hL g1 dL_law_1241 ?_
  refine jv_aload_n hC 0 dL_law_1242 rfl ?_
  refine jv_pc 1243 rfl ?_
  refine jv_iload hC 4 dL_law_1243 rfl ?_
  refine jv_iconst hC dL_law_1245 c32_2 ?_
  refine jv_iadd hC dL_law_1246 ?_
  obtain ⟨g2, hF⟩ := hg_some hF
  refine jv_sld hL g2 dL_law_1247 ?_
  refine jv_if_eq hC 1255 dL_law_1248 (by decide) (fun h3 => ?_) (fun h3 => ?_)
  · have hF := hi_pos h3 hF
    refine jv_iconst hC dL_law_1255 c32_0 ?_
    obtain ⟨g4, hF⟩ := hg_some hF
    obtain ⟨r7, M6, c5, hF⟩ := hb_some hF
    refine jv_callV hC (st := []) [.int (xs (i + (1 : Int32)).toNatClampNeg), .int (0 : Int32)] (k_Ps_mark c5) mm_Ps_mark mi_Ps_mark ml_L_132 dL_law_1256 g4 rfl (Nat.le_of_ble_eq_true rfl) rfl rfl (Nat.le_of_ble_eq_true rfl) ?_
    refine jv_nf 1259 [.int r7] rfl rfl ?_
    refine jv_aload_n hC 2 dL_law_1259 rfl ?_
    refine jv_aload_n hC 0 dL_law_1260 rfl ?_
    refine jv_iload hC 4 dL_law_1261 rfl ?_
    refine jv_iconst hC dL_law_1263 c32_1 ?_
    refine jv_iadd hC dL_law_1264 ?_
    refine jv_sld hL g1 dL_law_1265 ?_
    refine jv_aload_n hC 0 dL_law_1266 rfl ?_
    refine jv_pc 1267 rfl ?_
    refine jv_iload hC 4 dL_law_1267 rfl ?_
    refine jv_iconst hC dL_law_1269 c32_2 ?_
    refine jv_iadd hC dL_law_1270 ?_
    refine jv_sld hL g2 dL_law_1271 ?_
    refine jv_if_eq hC 1279 dL_law_1272 (by decide) (fun h8 => ?_) (fun h8 => ?_)
    · have hF := hi_pos h8 hF
      refine jv_iconst hC dL_law_1279 c32_0 ?_
      obtain ⟨g9, hF⟩ := hg_some hF
      obtain ⟨r12, M11, c10, hF⟩ := hb_some hF
      refine jv_callV hC (st := [.int r7]) [.int (xs (i + (1 : Int32)).toNatClampNeg), .int (0 : Int32)] (k_Md_mark c10) mm_Md_mark mi_Md_mark ml_L_135 dL_law_1280 g9 rfl (Nat.le_of_ble_eq_true rfl) rfl rfl (Nat.le_of_ble_eq_true rfl) ?_
      refine jv_nf 1283 [.int r12, .int r7] rfl rfl ?_
      refine jv_icmp_eq hC 1313 dL_law_1283 (by decide) (fun h13 => ?_) (fun h13 => ?_)
      · have hF := hi_pos h13 hF
        obtain rfl := hr_somev hF
        exact jv_pc 1313 rfl (kk X hL.down)
      · have hF := hi_neg h13 hF
        refine jv_iconst hC dL_law_1286 c32_0 ?_
        cases hF
    · have hF := hi_neg h8 hF
      refine jv_iconst hC dL_law_1275 c32_1 ?_
      refine jv_goto hC 1280 dL_law_1276 (by decide) ?_
      obtain ⟨g14, hF⟩ := hg_some hF
      obtain ⟨r17, M16, c15, hF⟩ := hb_some hF
      refine jv_callV hC (st := [.int r7]) [.int (xs (i + (1 : Int32)).toNatClampNeg), .int (1 : Int32)] (k_Md_mark c15) mm_Md_mark mi_Md_mark ml_L_135 dL_law_1280 g14 rfl (Nat.le_of_ble_eq_true rfl) rfl rfl (Nat.le_of_ble_eq_true rfl) ?_
      refine jv_nf 1283 [.int r17, .int r7] rfl rfl ?_
      refine jv_icmp_eq hC 1313 dL_law_1283 (by decide) (fun h18 => ?_) (fun h18 => ?_)
      · have hF := hi_pos h18 hF
        obtain rfl := hr_somev hF
        exact jv_pc 1313 rfl (kk X hL.down)
      · have hF := hi_neg h18 hF
        refine jv_iconst hC dL_law_1286 c32_0 ?_
        cases hF
  · have hF := hi_neg h3 hF
    refine jv_iconst hC dL_law_1251 c32_1 ?_
    refine jv_goto hC 1256 dL_law_1252 (by decide) ?_
    obtain ⟨g19, hF⟩ := hg_some hF
    obtain ⟨r22, M21, c20, hF⟩ := hb_some hF
    refine jv_callV hC (st := []) [.int (xs (i + (1 : Int32)).toNatClampNeg), .int (1 : Int32)] (k_Ps_mark c20) mm_Ps_mark mi_Ps_mark ml_L_132 dL_law_1256 g19 rfl (Nat.le_of_ble_eq_true rfl) rfl rfl (Nat.le_of_ble_eq_true rfl) ?_
    refine jv_nf 1259 [.int r22] rfl rfl ?_
    refine jv_aload_n hC 2 dL_law_1259 rfl ?_
    refine jv_aload_n hC 0 dL_law_1260 rfl ?_
    refine jv_iload hC 4 dL_law_1261 rfl ?_
    refine jv_iconst hC dL_law_1263 c32_1 ?_
    refine jv_iadd hC dL_law_1264 ?_
    refine jv_sld hL g1 dL_law_1265 ?_
    refine jv_aload_n hC 0 dL_law_1266 rfl ?_
    refine jv_pc 1267 rfl ?_
    refine jv_iload hC 4 dL_law_1267 rfl ?_
    refine jv_iconst hC dL_law_1269 c32_2 ?_
    refine jv_iadd hC dL_law_1270 ?_
    refine jv_sld hL g2 dL_law_1271 ?_
    refine jv_if_eq hC 1279 dL_law_1272 (by decide) (fun h23 => ?_) (fun h23 => ?_)
    · have hF := hi_pos h23 hF
      refine jv_iconst hC dL_law_1279 c32_0 ?_
      obtain ⟨g24, hF⟩ := hg_some hF
      obtain ⟨r27, M26, c25, hF⟩ := hb_some hF
      refine jv_callV hC (st := [.int r22]) [.int (xs (i + (1 : Int32)).toNatClampNeg), .int (0 : Int32)] (k_Md_mark c25) mm_Md_mark mi_Md_mark ml_L_135 dL_law_1280 g24 rfl (Nat.le_of_ble_eq_true rfl) rfl rfl (Nat.le_of_ble_eq_true rfl) ?_
      refine jv_nf 1283 [.int r27, .int r22] rfl rfl ?_
      refine jv_icmp_eq hC 1313 dL_law_1283 (by decide) (fun h28 => ?_) (fun h28 => ?_)
      · have hF := hi_pos h28 hF
        obtain rfl := hr_somev hF
        exact jv_pc 1313 rfl (kk X hL.down)
      · have hF := hi_neg h28 hF
        refine jv_iconst hC dL_law_1286 c32_0 ?_
        cases hF
    · have hF := hi_neg h23 hF
      refine jv_iconst hC dL_law_1275 c32_1 ?_
      refine jv_goto hC 1280 dL_law_1276 (by decide) ?_
      obtain ⟨g29, hF⟩ := hg_some hF
      obtain ⟨r32, M31, c30, hF⟩ := hb_some hF
      refine jv_callV hC (st := [.int r22]) [.int (xs (i + (1 : Int32)).toNatClampNeg), .int (1 : Int32)] (k_Md_mark c30) mm_Md_mark mi_Md_mark ml_L_135 dL_law_1280 g29 rfl (Nat.le_of_ble_eq_true rfl) rfl rfl (Nat.le_of_ble_eq_true rfl) ?_
      refine jv_nf 1283 [.int r32, .int r22] rfl rfl ?_
      refine jv_icmp_eq hC 1313 dL_law_1283 (by decide) (fun h33 => ?_) (fun h33 => ?_)
      · have hF := hi_pos h33 hF
        obtain rfl := hr_somev hF
        exact jv_pc 1313 rfl (kk X hL.down)
      · have hF := hi_neg h33 hF
        refine jv_iconst hC dL_law_1286 c32_0 ?_
        cases hF
set_option maxRecDepth 100000 in
set_option maxHeartbeats 4000000 in
theorem uL_25 {X : hm_X} {q L : Nat} {xs : Nat → Int32} {n : Nat} {S : hm_S} (hL : hm_LC (q + 1) L xs n S X) {i : Int32} {M M' : hm_M} (hF : fL_25 S xs L i M = some M') (kk : ∀ X' : hm_X, hm_LC q L xs n S X' → hm_U X' 1313 [(0, .ref 999999), (1, .ref 1), (2, .ref 76), (3, .ref 99), (4, .int i)] [] M' (hm_QL X')) : hm_U X 1288 [(0, .ref 999999), (1, .ref 1), (2, .ref 76), (3, .ref 99), (4, .int i)] [] M (hm_QL X) := by
  have hC := hL.1
  unfold fL_25 at hF
  refine jv_aload_n hC 1 dL_law_1288 rfl ?_
  refine jv_aload_n hC 0 dL_law_1289 rfl ?_
  refine jv_iload hC 4 dL_law_1290 rfl ?_
  refine jv_iconst hC dL_law_1292 c32_1 ?_
  refine jv_iadd hC dL_law_1293 ?_
  obtain ⟨g1, hF⟩ := hg_some hF
  refine jv_sld hL g1 dL_law_1294 ?_
  obtain ⟨g2, hF⟩ := hg_some hF
  obtain ⟨r5, M4, c3, hF⟩ := hb_some hF
  refine jv_callV hC (st := []) [.int (xs (i + (1 : Int32)).toNatClampNeg)] (k_Ps_count c3) mm_Ps_count mi_Ps_count ml_L_136 dL_law_1295 g2 rfl (Nat.le_of_ble_eq_true rfl) rfl rfl (Nat.le_of_ble_eq_true rfl) ?_
  refine jv_nf 1298 [.int r5] rfl rfl ?_
  refine jv_aload_n hC 2 dL_law_1298 rfl ?_
  refine jv_aload_n hC 0 dL_law_1299 rfl ?_
  refine jv_iload hC 4 dL_law_1300 rfl ?_
  refine jv_iconst hC dL_law_1302 c32_1 ?_
  refine jv_iadd hC dL_law_1303 ?_
  refine jv_sld hL g1 dL_law_1304 ?_
  obtain ⟨g6, hF⟩ := hg_some hF
  obtain ⟨r9, M8, c7, hF⟩ := hb_some hF
  refine jv_callV hC (st := [.int r5]) [.int (xs (i + (1 : Int32)).toNatClampNeg)] (k_Md_count c7) mm_Md_count mi_Md_count ml_L_139 dL_law_1305 g6 rfl (Nat.le_of_ble_eq_true rfl) rfl rfl (Nat.le_of_ble_eq_true rfl) ?_
  refine jv_nf 1308 [.int r9, .int r5] rfl rfl ?_
  refine jv_icmp_eq hC 1313 dL_law_1308 (by decide) (fun h10 => ?_) (fun h10 => ?_)
  · have hF := hi_pos h10 hF
    obtain rfl := hr_somev hF
    exact jv_pc 1313 rfl (kk X hL.down)
  · have hF := hi_neg h10 hF
    refine jv_iconst hC dL_law_1311 c32_0 ?_
    cases hF
