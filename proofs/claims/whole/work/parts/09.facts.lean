/-! FACTS: the words of fields, methods, constants, by their places -/
theorem iw_0 : ∀ w ∈ u_ws RX0 TX0 13, w ∈ gW := gW_us (fun k hk => match k, hk with
  | 0, _ => gW_c1 166 rfl rfl
  | 1, _ => gW_c1 168 rfl rfl
  | 2, _ => gW_c1 170 rfl rfl
  | 3, _ => gW_c1 172 rfl rfl
  | 4, _ => gW_c1 174 rfl rfl
  | 5, _ => gW_c1 176 rfl rfl
  | 6, _ => gW_c1 178 rfl rfl
  | 7, _ => gW_c1 180 rfl rfl
  | 8, _ => gW_c1 182 rfl rfl
  | 9, _ => gW_c1 184 rfl rfl
  | 10, _ => gW_c1 186 rfl rfl
  | 11, _ => gW_c1 188 rfl rfl
  | 12, _ => gW_c1 190 rfl rfl
  | k + 13, h => absurd h (by omega))
theorem iw_1 : ∀ w ∈ u_ws RX1 TX1 4, w ∈ gW := gW_us (fun k hk => match k, hk with
  | 0, _ => gW_c2 41 rfl rfl
  | 1, _ => gW_c2 43 rfl rfl
  | 2, _ => gW_c2 45 rfl rfl
  | 3, _ => gW_c2 47 rfl rfl
  | k + 4, h => absurd h (by omega))
theorem iw_2 : ∀ w ∈ u_ws RX2 TX2 6, w ∈ gW := gW_us (fun k hk => match k, hk with
  | 0, _ => gW_c2 17 rfl rfl
  | 1, _ => gW_c2 19 rfl rfl
  | 2, _ => gW_c2 21 rfl rfl
  | 3, _ => gW_c2 23 rfl rfl
  | 4, _ => gW_c2 25 rfl rfl
  | 5, _ => gW_c2 27 rfl rfl
  | k + 6, h => absurd h (by omega))
theorem iw_3 : ∀ w ∈ u_ws RX3 TX3 6, w ∈ gW := gW_us (fun k hk => match k, hk with
  | 0, _ => gW_c1 94 rfl rfl
  | 1, _ => gW_c1 96 rfl rfl
  | 2, _ => gW_c1 98 rfl rfl
  | 3, _ => gW_c1 100 rfl rfl
  | 4, _ => gW_c1 102 rfl rfl
  | 5, _ => gW_c1 104 rfl rfl
  | k + 6, h => absurd h (by omega))
theorem iw_4 : ∀ w ∈ u_ws RX4 TX4 4, w ∈ gW := gW_us (fun k hk => match k, hk with
  | 0, _ => gW_c1 229 rfl rfl
  | 1, _ => gW_c1 231 rfl rfl
  | 2, _ => gW_c1 233 rfl rfl
  | 3, _ => gW_c1 235 rfl rfl
  | k + 4, h => absurd h (by omega))
theorem iw_5 : ∀ w ∈ u_ws RX5 TX5 5, w ∈ gW := gW_us (fun k hk => match k, hk with
  | 0, _ => gW_c1 200 rfl rfl
  | 1, _ => gW_c1 202 rfl rfl
  | 2, _ => gW_c1 204 rfl rfl
  | 3, _ => gW_c1 206 rfl rfl
  | 4, _ => gW_c1 208 rfl rfl
  | k + 5, h => absurd h (by omega))
theorem iw_6 : ∀ w ∈ u_ws RX6 TX6 5, w ∈ gW := gW_us (fun k hk => match k, hk with
  | 0, _ => gW_c2 62 rfl rfl
  | 1, _ => gW_c2 64 rfl rfl
  | 2, _ => gW_c2 66 rfl rfl
  | 3, _ => gW_c2 68 rfl rfl
  | 4, _ => gW_c2 70 rfl rfl
  | k + 5, h => absurd h (by omega))
theorem iw_7 : ∀ w ∈ u_ws RX7 TX7 7, w ∈ gW := gW_us (fun k hk => match k, hk with
  | 0, _ => gW_c1 60 rfl rfl
  | 1, _ => gW_c1 62 rfl rfl
  | 2, _ => gW_c1 64 rfl rfl
  | 3, _ => gW_c1 66 rfl rfl
  | 4, _ => gW_c1 68 rfl rfl
  | 5, _ => gW_c1 70 rfl rfl
  | 6, _ => gW_c1 72 rfl rfl
  | k + 7, h => absurd h (by omega))
theorem iw_8 : ∀ w ∈ u_ws RX8 TX8 4, w ∈ gW := gW_us (fun k hk => match k, hk with
  | 0, _ => gW_c2 85 rfl rfl
  | 1, _ => gW_c2 87 rfl rfl
  | 2, _ => gW_c2 89 rfl rfl
  | 3, _ => gW_c2 91 rfl rfl
  | k + 4, h => absurd h (by omega))
theorem iw_9 : ∀ w ∈ u_ws RX9 TX9 3, w ∈ gW := gW_us (fun k hk => match k, hk with
  | 0, _ => gW_c2 124 rfl rfl
  | 1, _ => gW_c2 126 rfl rfl
  | 2, _ => gW_c2 128 rfl rfl
  | k + 3, h => absurd h (by omega))
theorem iw_10 : ∀ w ∈ u_ws RX10 TX10 4, w ∈ gW := gW_us (fun k hk => match k, hk with
  | 0, _ => gW_c2 106 rfl rfl
  | 1, _ => gW_c2 108 rfl rfl
  | 2, _ => gW_c2 110 rfl rfl
  | 3, _ => gW_c2 112 rfl rfl
  | k + 4, h => absurd h (by omega))
theorem iw_11 : ∀ w ∈ u_ws RX11 TX11 10, w ∈ gW := gW_us (fun k hk => match k, hk with
  | 0, _ => gW_c2 142 rfl rfl
  | 1, _ => gW_c2 144 rfl rfl
  | 2, _ => gW_c2 146 rfl rfl
  | 3, _ => gW_c2 148 rfl rfl
  | 4, _ => gW_c2 150 rfl rfl
  | 5, _ => gW_c2 152 rfl rfl
  | 6, _ => gW_c2 154 rfl rfl
  | 7, _ => gW_c2 156 rfl rfl
  | 8, _ => gW_c2 158 rfl rfl
  | 9, _ => gW_c2 160 rfl rfl
  | k + 10, h => absurd h (by omega))
theorem iw_12 : ∀ w ∈ u_ws RX12 TX12 35, w ∈ gW := gW_us (fun k hk => match k, hk with
  | 0, _ => gW_c6 15 rfl rfl
  | 1, _ => gW_c6 17 rfl rfl
  | 2, _ => gW_c6 19 rfl rfl
  | 3, _ => gW_c6 21 rfl rfl
  | 4, _ => gW_c6 23 rfl rfl
  | 5, _ => gW_c6 25 rfl rfl
  | 6, _ => gW_c6 27 rfl rfl
  | 7, _ => gW_c6 29 rfl rfl
  | 8, _ => gW_c6 31 rfl rfl
  | 9, _ => gW_c6 33 rfl rfl
  | 10, _ => gW_c6 35 rfl rfl
  | 11, _ => gW_c6 37 rfl rfl
  | 12, _ => gW_c6 39 rfl rfl
  | 13, _ => gW_c6 41 rfl rfl
  | 14, _ => gW_c6 43 rfl rfl
  | 15, _ => gW_c6 45 rfl rfl
  | 16, _ => gW_c6 47 rfl rfl
  | 17, _ => gW_c6 49 rfl rfl
  | 18, _ => gW_c6 51 rfl rfl
  | 19, _ => gW_c6 53 rfl rfl
  | 20, _ => gW_c6 55 rfl rfl
  | 21, _ => gW_c6 57 rfl rfl
  | 22, _ => gW_c6 59 rfl rfl
  | 23, _ => gW_c6 61 rfl rfl
  | 24, _ => gW_c6 63 rfl rfl
  | 25, _ => gW_c6 65 rfl rfl
  | 26, _ => gW_c6 67 rfl rfl
  | 27, _ => gW_c6 69 rfl rfl
  | 28, _ => gW_c6 71 rfl rfl
  | 29, _ => gW_c6 73 rfl rfl
  | 30, _ => gW_c6 75 rfl rfl
  | 31, _ => gW_c6 77 rfl rfl
  | 32, _ => gW_c6 79 rfl rfl
  | 33, _ => gW_c6 81 rfl rfl
  | 34, _ => gW_c6 83 rfl rfl
  | k + 35, h => absurd h (by omega))
theorem fl_X11_12 : hm_FL RX11 12 11 0 true := ⟨by decide, RX11, TX11, rfl, iw_11, gW_c2 132 rfl rfl, tyX11_ok, nmX11, rfl, rfl⟩
theorem fl_X11_19 : hm_FL RX11 19 11 1 true := ⟨by decide, RX11, TX11, rfl, iw_11, gW_c2 133 rfl rfl, tyX11_ok, nmX11, rfl, rfl⟩
theorem fl_X11_26 : hm_FL RX11 26 11 2 true := ⟨by decide, RX11, TX11, rfl, iw_11, gW_c2 134 rfl rfl, tyX11_ok, nmX11, rfl, rfl⟩
theorem fl_X11_33 : hm_FL RX11 33 11 3 true := ⟨by decide, RX11, TX11, rfl, iw_11, gW_c2 135 rfl rfl, tyX11_ok, nmX11, rfl, rfl⟩
theorem fl_X11_40 : hm_FL RX11 40 11 4 true := ⟨by decide, RX11, TX11, rfl, iw_11, gW_c2 136 rfl rfl, tyX11_ok, nmX11, rfl, rfl⟩
theorem fl_X11_47 : hm_FL RX11 47 11 5 true := ⟨by decide, RX11, TX11, rfl, iw_11, gW_c2 137 rfl rfl, tyX11_ok, nmX11, rfl, rfl⟩
theorem fl_X11_54 : hm_FL RX11 54 11 6 true := ⟨by decide, RX11, TX11, rfl, iw_11, gW_c2 138 rfl rfl, tyX11_ok, nmX11, rfl, rfl⟩
theorem fl_X11_61 : hm_FL RX11 61 11 7 true := ⟨by decide, RX11, TX11, rfl, iw_11, gW_c2 139 rfl rfl, tyX11_ok, nmX11, rfl, rfl⟩
theorem fl_X11_65 : hm_FL RX11 65 11 8 true := ⟨by decide, RX11, TX11, rfl, iw_11, gW_c2 140 rfl rfl, tyX11_ok, nmX11, rfl, rfl⟩
theorem fl_X11_69 : hm_FL RX11 69 11 9 false := ⟨by decide, RX11, TX11, rfl, iw_11, gW_c2 141 rfl rfl, tyX11_ok, nmX11, rfl, rfl⟩
theorem fl_X11_73 : hm_FL RX11 73 5 0 true := ⟨by decide, RX5, TX5, rfl, iw_5, gW_c1 194 rfl rfl, tyX5_ok, nmX5, rfl, rfl⟩
theorem fl_X11_83 : hm_FL RX11 83 7 1 false := ⟨by decide, RX7, TX7, rfl, iw_7, gW_c1 49 rfl rfl, tyX7_ok, nmX7, rfl, rfl⟩
theorem fl_X11_90 : hm_FL RX11 90 5 1 false := ⟨by decide, RX5, TX5, rfl, iw_5, gW_c1 196 rfl rfl, tyX5_ok, nmX5, rfl, rfl⟩
theorem fl_X11_98 : hm_FL RX11 98 4 0 false := ⟨by decide, RX4, TX4, rfl, iw_4, gW_c1 221 rfl rfl, tyX4_ok, nmX4, rfl, rfl⟩
theorem fl_X11_113 : hm_FL RX11 113 0 6 true := ⟨by decide, RX0, TX0, rfl, iw_0, gW_c1 140 rfl rfl, tyX0_ok, nmX0, rfl, rfl⟩
theorem fl_X11_119 : hm_FL RX11 119 0 7 true := ⟨by decide, RX0, TX0, rfl, iw_0, gW_c1 144 rfl rfl, tyX0_ok, nmX0, rfl, rfl⟩
theorem fl_X11_129 : hm_FL RX11 129 0 8 true := ⟨by decide, RX0, TX0, rfl, iw_0, gW_c1 149 rfl rfl, tyX0_ok, nmX0, rfl, rfl⟩
theorem fl_X11_132 : hm_FL RX11 132 0 9 true := ⟨by decide, RX0, TX0, rfl, iw_0, gW_c1 153 rfl rfl, tyX0_ok, nmX0, rfl, rfl⟩
theorem fl_X11_135 : hm_FL RX11 135 2 0 true := ⟨by decide, RX2, TX2, rfl, iw_2, gW_c2 6 rfl rfl, tyX2_ok, nmX2, rfl, rfl⟩
theorem fl_X11_138 : hm_FL RX11 138 0 11 true := ⟨by decide, RX0, TX0, rfl, iw_0, gW_c1 160 rfl rfl, tyX0_ok, nmX0, rfl, rfl⟩
theorem fl_X11_156 : hm_FL RX11 156 4 1 true := ⟨by decide, RX4, TX4, rfl, iw_4, gW_c1 225 rfl rfl, tyX4_ok, nmX4, rfl, rfl⟩
theorem fl_X11_206 : hm_FL RX11 206 8 3 false := ⟨by decide, RX8, TX8, rfl, iw_8, gW_c2 84 rfl rfl, tyX8_ok, nmX8, rfl, rfl⟩
theorem fl_X11_209 : hm_FL RX11 209 8 2 true := ⟨by decide, RX8, TX8, rfl, iw_8, gW_c2 82 rfl rfl, tyX8_ok, nmX8, rfl, rfl⟩
theorem fl_X11_226 : hm_FL RX11 226 6 4 true := ⟨by decide, RX6, TX6, rfl, iw_6, gW_c2 61 rfl rfl, tyX6_ok, nmX6, rfl, rfl⟩
theorem fl_X11_237 : hm_FL RX11 237 10 3 false := ⟨by decide, RX10, TX10, rfl, iw_10, gW_c2 105 rfl rfl, tyX10_ok, nmX10, rfl, rfl⟩
theorem fl_X11_240 : hm_FL RX11 240 10 2 true := ⟨by decide, RX10, TX10, rfl, iw_10, gW_c2 103 rfl rfl, tyX10_ok, nmX10, rfl, rfl⟩
theorem fl_X11_249 : hm_FL RX11 249 2 2 false := ⟨by decide, RX2, TX2, rfl, iw_2, gW_c2 11 rfl rfl, tyX2_ok, nmX2, rfl, rfl⟩
theorem fl_X11_281 : hm_FL RX11 281 0 3 false := ⟨by decide, RX0, TX0, rfl, iw_0, gW_c1 130 rfl rfl, tyX0_ok, nmX0, rfl, rfl⟩
theorem fl_X11_288 : hm_FL RX11 288 0 0 false := ⟨by decide, RX0, TX0, rfl, iw_0, gW_c1 119 rfl rfl, tyX0_ok, nmX0, rfl, rfl⟩
theorem fl_X11_291 : hm_FL RX11 291 0 1 false := ⟨by decide, RX0, TX0, rfl, iw_0, gW_c1 122 rfl rfl, tyX0_ok, nmX0, rfl, rfl⟩
theorem fl_X11_294 : hm_FL RX11 294 0 4 false := ⟨by decide, RX0, TX0, rfl, iw_0, gW_c1 136 rfl rfl, tyX0_ok, nmX0, rfl, rfl⟩
theorem fl_X11_297 : hm_FL RX11 297 2 1 false := ⟨by decide, RX2, TX2, rfl, iw_2, gW_c2 9 rfl rfl, tyX2_ok, nmX2, rfl, rfl⟩
theorem fl_X11_300 : hm_FL RX11 300 1 2 false := ⟨by decide, RX1, TX1, rfl, iw_1, gW_c2 39 rfl rfl, tyX1_ok, nmX1, rfl, rfl⟩
theorem fl_X11_301 : hm_FL RX11 301 0 2 false := ⟨by decide, RX0, TX0, rfl, iw_0, gW_c1 126 rfl rfl, tyX0_ok, nmX0, rfl, rfl⟩
theorem fl_X11_313 : hm_FL RX11 313 2 3 true := ⟨by decide, RX2, TX2, rfl, iw_2, gW_c2 13 rfl rfl, tyX2_ok, nmX2, rfl, rfl⟩
theorem fl_X11_319 : hm_FL RX11 319 2 4 true := ⟨by decide, RX2, TX2, rfl, iw_2, gW_c2 15 rfl rfl, tyX2_ok, nmX2, rfl, rfl⟩
theorem fl_X0_9 : hm_FL RX0 9 0 5 true := ⟨by decide, RX0, TX0, rfl, iw_0, gW_c1 137 rfl rfl, tyX0_ok, nmX0, rfl, rfl⟩
theorem fl_X0_15 : hm_FL RX0 15 0 6 true := ⟨by decide, RX0, TX0, rfl, iw_0, gW_c1 139 rfl rfl, tyX0_ok, nmX0, rfl, rfl⟩
theorem fl_X0_19 : hm_FL RX0 19 0 7 true := ⟨by decide, RX0, TX0, rfl, iw_0, gW_c1 143 rfl rfl, tyX0_ok, nmX0, rfl, rfl⟩
theorem fl_X0_22 : hm_FL RX0 22 0 8 true := ⟨by decide, RX0, TX0, rfl, iw_0, gW_c1 147 rfl rfl, tyX0_ok, nmX0, rfl, rfl⟩
theorem fl_X0_25 : hm_FL RX0 25 0 9 true := ⟨by decide, RX0, TX0, rfl, iw_0, gW_c1 151 rfl rfl, tyX0_ok, nmX0, rfl, rfl⟩
theorem fl_X0_28 : hm_FL RX0 28 0 10 true := ⟨by decide, RX0, TX0, rfl, iw_0, gW_c1 155 rfl rfl, tyX0_ok, nmX0, rfl, rfl⟩
theorem fl_X0_31 : hm_FL RX0 31 0 11 true := ⟨by decide, RX0, TX0, rfl, iw_0, gW_c1 158 rfl rfl, tyX0_ok, nmX0, rfl, rfl⟩
theorem fl_X0_37 : hm_FL RX0 37 0 12 true := ⟨by decide, RX0, TX0, rfl, iw_0, gW_c1 162 rfl rfl, tyX0_ok, nmX0, rfl, rfl⟩
theorem fl_X0_44 : hm_FL RX0 44 0 0 false := ⟨by decide, RX0, TX0, rfl, iw_0, gW_c1 117 rfl rfl, tyX0_ok, nmX0, rfl, rfl⟩
theorem fl_X0_48 : hm_FL RX0 48 0 1 false := ⟨by decide, RX0, TX0, rfl, iw_0, gW_c1 120 rfl rfl, tyX0_ok, nmX0, rfl, rfl⟩
theorem fl_X0_51 : hm_FL RX0 51 0 2 false := ⟨by decide, RX0, TX0, rfl, iw_0, gW_c1 123 rfl rfl, tyX0_ok, nmX0, rfl, rfl⟩
theorem fl_X0_54 : hm_FL RX0 54 0 3 false := ⟨by decide, RX0, TX0, rfl, iw_0, gW_c1 127 rfl rfl, tyX0_ok, nmX0, rfl, rfl⟩
theorem fl_X0_57 : hm_FL RX0 57 0 4 false := ⟨by decide, RX0, TX0, rfl, iw_0, gW_c1 133 rfl rfl, tyX0_ok, nmX0, rfl, rfl⟩
theorem fl_X1_9 : hm_FL RX1 9 1 0 true := ⟨by decide, RX1, TX1, rfl, iw_1, gW_c2 36 rfl rfl, tyX1_ok, nmX1, rfl, rfl⟩
theorem fl_X1_15 : hm_FL RX1 15 1 1 true := ⟨by decide, RX1, TX1, rfl, iw_1, gW_c2 37 rfl rfl, tyX1_ok, nmX1, rfl, rfl⟩
theorem fl_X1_18 : hm_FL RX1 18 1 2 false := ⟨by decide, RX1, TX1, rfl, iw_1, gW_c2 38 rfl rfl, tyX1_ok, nmX1, rfl, rfl⟩
theorem fl_X1_22 : hm_FL RX1 22 1 3 false := ⟨by decide, RX1, TX1, rfl, iw_1, gW_c2 40 rfl rfl, tyX1_ok, nmX1, rfl, rfl⟩
theorem fl_X2_9 : hm_FL RX2 9 2 0 true := ⟨by decide, RX2, TX2, rfl, iw_2, gW_c2 4 rfl rfl, tyX2_ok, nmX2, rfl, rfl⟩
theorem fl_X2_15 : hm_FL RX2 15 2 1 false := ⟨by decide, RX2, TX2, rfl, iw_2, gW_c2 8 rfl rfl, tyX2_ok, nmX2, rfl, rfl⟩
theorem fl_X2_19 : hm_FL RX2 19 2 2 false := ⟨by decide, RX2, TX2, rfl, iw_2, gW_c2 10 rfl rfl, tyX2_ok, nmX2, rfl, rfl⟩
theorem fl_X2_22 : hm_FL RX2 22 2 3 true := ⟨by decide, RX2, TX2, rfl, iw_2, gW_c2 12 rfl rfl, tyX2_ok, nmX2, rfl, rfl⟩
theorem fl_X2_25 : hm_FL RX2 25 2 4 true := ⟨by decide, RX2, TX2, rfl, iw_2, gW_c2 14 rfl rfl, tyX2_ok, nmX2, rfl, rfl⟩
theorem fl_X2_28 : hm_FL RX2 28 2 5 false := ⟨by decide, RX2, TX2, rfl, iw_2, gW_c2 16 rfl rfl, tyX2_ok, nmX2, rfl, rfl⟩
theorem fl_X2_31 : hm_FL RX2 31 0 4 false := ⟨by decide, RX0, TX0, rfl, iw_0, gW_c1 132 rfl rfl, tyX0_ok, nmX0, rfl, rfl⟩
theorem fl_X2_34 : hm_FL RX2 34 0 10 true := ⟨by decide, RX0, TX0, rfl, iw_0, gW_c1 156 rfl rfl, tyX0_ok, nmX0, rfl, rfl⟩
theorem fl_X3_9 : hm_FL RX3 9 3 0 true := ⟨by decide, RX3, TX3, rfl, iw_3, gW_c1 88 rfl rfl, tyX3_ok, nmX3, rfl, rfl⟩
theorem fl_X3_15 : hm_FL RX3 15 3 1 false := ⟨by decide, RX3, TX3, rfl, iw_3, gW_c1 89 rfl rfl, tyX3_ok, nmX3, rfl, rfl⟩
theorem fl_X3_19 : hm_FL RX3 19 3 2 true := ⟨by decide, RX3, TX3, rfl, iw_3, gW_c1 90 rfl rfl, tyX3_ok, nmX3, rfl, rfl⟩
theorem fl_X3_22 : hm_FL RX3 22 3 3 true := ⟨by decide, RX3, TX3, rfl, iw_3, gW_c1 91 rfl rfl, tyX3_ok, nmX3, rfl, rfl⟩
theorem fl_X3_25 : hm_FL RX3 25 3 4 true := ⟨by decide, RX3, TX3, rfl, iw_3, gW_c1 92 rfl rfl, tyX3_ok, nmX3, rfl, rfl⟩
theorem fl_X3_28 : hm_FL RX3 28 3 5 true := ⟨by decide, RX3, TX3, rfl, iw_3, gW_c1 93 rfl rfl, tyX3_ok, nmX3, rfl, rfl⟩
theorem fl_X4_12 : hm_FL RX4 12 4 0 false := ⟨by decide, RX4, TX4, rfl, iw_4, gW_c1 219 rfl rfl, tyX4_ok, nmX4, rfl, rfl⟩
theorem fl_X4_18 : hm_FL RX4 18 4 1 true := ⟨by decide, RX4, TX4, rfl, iw_4, gW_c1 224 rfl rfl, tyX4_ok, nmX4, rfl, rfl⟩
theorem fl_X4_22 : hm_FL RX4 22 4 2 true := ⟨by decide, RX4, TX4, rfl, iw_4, gW_c1 227 rfl rfl, tyX4_ok, nmX4, rfl, rfl⟩
theorem fl_X4_26 : hm_FL RX4 26 4 3 false := ⟨by decide, RX4, TX4, rfl, iw_4, gW_c1 228 rfl rfl, tyX4_ok, nmX4, rfl, rfl⟩
theorem fl_X4_36 : hm_FL RX4 36 0 12 true := ⟨by decide, RX0, TX0, rfl, iw_0, gW_c1 163 rfl rfl, tyX0_ok, nmX0, rfl, rfl⟩
theorem fl_X4_59 : hm_FL RX4 59 0 4 false := ⟨by decide, RX0, TX0, rfl, iw_0, gW_c1 134 rfl rfl, tyX0_ok, nmX0, rfl, rfl⟩
theorem fl_X4_62 : hm_FL RX4 62 0 8 true := ⟨by decide, RX0, TX0, rfl, iw_0, gW_c1 148 rfl rfl, tyX0_ok, nmX0, rfl, rfl⟩
theorem fl_X4_65 : hm_FL RX4 65 0 9 true := ⟨by decide, RX0, TX0, rfl, iw_0, gW_c1 152 rfl rfl, tyX0_ok, nmX0, rfl, rfl⟩
theorem fl_X5_12 : hm_FL RX5 12 5 0 true := ⟨by decide, RX5, TX5, rfl, iw_5, gW_c1 193 rfl rfl, tyX5_ok, nmX5, rfl, rfl⟩
theorem fl_X5_21 : hm_FL RX5 21 5 1 false := ⟨by decide, RX5, TX5, rfl, iw_5, gW_c1 195 rfl rfl, tyX5_ok, nmX5, rfl, rfl⟩
theorem fl_X5_25 : hm_FL RX5 25 5 2 false := ⟨by decide, RX5, TX5, rfl, iw_5, gW_c1 197 rfl rfl, tyX5_ok, nmX5, rfl, rfl⟩
theorem fl_X5_29 : hm_FL RX5 29 5 3 false := ⟨by decide, RX5, TX5, rfl, iw_5, gW_c1 198 rfl rfl, tyX5_ok, nmX5, rfl, rfl⟩
theorem fl_X5_32 : hm_FL RX5 32 5 4 false := ⟨by decide, RX5, TX5, rfl, iw_5, gW_c1 199 rfl rfl, tyX5_ok, nmX5, rfl, rfl⟩
theorem fl_X5_41 : hm_FL RX5 41 7 4 false := ⟨by decide, RX7, TX7, rfl, iw_7, gW_c1 55 rfl rfl, tyX7_ok, nmX7, rfl, rfl⟩
theorem fl_X5_48 : hm_FL RX5 48 7 1 false := ⟨by decide, RX7, TX7, rfl, iw_7, gW_c1 50 rfl rfl, tyX7_ok, nmX7, rfl, rfl⟩
theorem fl_X5_51 : hm_FL RX5 51 7 3 false := ⟨by decide, RX7, TX7, rfl, iw_7, gW_c1 53 rfl rfl, tyX7_ok, nmX7, rfl, rfl⟩
theorem fl_X5_76 : hm_FL RX5 76 0 0 false := ⟨by decide, RX0, TX0, rfl, iw_0, gW_c1 118 rfl rfl, tyX0_ok, nmX0, rfl, rfl⟩
theorem fl_X5_79 : hm_FL RX5 79 0 1 false := ⟨by decide, RX0, TX0, rfl, iw_0, gW_c1 121 rfl rfl, tyX0_ok, nmX0, rfl, rfl⟩
theorem fl_X5_86 : hm_FL RX5 86 0 3 false := ⟨by decide, RX0, TX0, rfl, iw_0, gW_c1 128 rfl rfl, tyX0_ok, nmX0, rfl, rfl⟩
theorem fl_X5_95 : hm_FL RX5 95 0 6 true := ⟨by decide, RX0, TX0, rfl, iw_0, gW_c1 142 rfl rfl, tyX0_ok, nmX0, rfl, rfl⟩
theorem fl_X5_99 : hm_FL RX5 99 0 7 true := ⟨by decide, RX0, TX0, rfl, iw_0, gW_c1 145 rfl rfl, tyX0_ok, nmX0, rfl, rfl⟩
theorem fl_X5_106 : hm_FL RX5 106 7 6 false := ⟨by decide, RX7, TX7, rfl, iw_7, gW_c1 59 rfl rfl, tyX7_ok, nmX7, rfl, rfl⟩
theorem fl_X5_114 : hm_FL RX5 114 0 5 true := ⟨by decide, RX0, TX0, rfl, iw_0, gW_c1 138 rfl rfl, tyX0_ok, nmX0, rfl, rfl⟩
theorem fl_X5_118 : hm_FL RX5 118 0 4 false := ⟨by decide, RX0, TX0, rfl, iw_0, gW_c1 135 rfl rfl, tyX0_ok, nmX0, rfl, rfl⟩
theorem fl_X5_121 : hm_FL RX5 121 0 8 true := ⟨by decide, RX0, TX0, rfl, iw_0, gW_c1 150 rfl rfl, tyX0_ok, nmX0, rfl, rfl⟩
theorem fl_X5_130 : hm_FL RX5 130 0 11 true := ⟨by decide, RX0, TX0, rfl, iw_0, gW_c1 161 rfl rfl, tyX0_ok, nmX0, rfl, rfl⟩
theorem fl_X5_133 : hm_FL RX5 133 7 5 false := ⟨by decide, RX7, TX7, rfl, iw_7, gW_c1 57 rfl rfl, tyX7_ok, nmX7, rfl, rfl⟩
theorem fl_X5_140 : hm_FL RX5 140 0 9 true := ⟨by decide, RX0, TX0, rfl, iw_0, gW_c1 154 rfl rfl, tyX0_ok, nmX0, rfl, rfl⟩
theorem fl_X5_143 : hm_FL RX5 143 0 10 true := ⟨by decide, RX0, TX0, rfl, iw_0, gW_c1 157 rfl rfl, tyX0_ok, nmX0, rfl, rfl⟩
theorem fl_X5_146 : hm_FL RX5 146 0 2 false := ⟨by decide, RX0, TX0, rfl, iw_0, gW_c1 125 rfl rfl, tyX0_ok, nmX0, rfl, rfl⟩
theorem fl_X5_149 : hm_FL RX5 149 0 12 true := ⟨by decide, RX0, TX0, rfl, iw_0, gW_c1 165 rfl rfl, tyX0_ok, nmX0, rfl, rfl⟩
theorem fl_X6_11 : hm_FL RX6 11 6 0 true := ⟨by decide, RX6, TX6, rfl, iw_6, gW_c2 56 rfl rfl, tyX6_ok, nmX6, rfl, rfl⟩
theorem fl_X6_15 : hm_FL RX6 15 6 1 true := ⟨by decide, RX6, TX6, rfl, iw_6, gW_c2 57 rfl rfl, tyX6_ok, nmX6, rfl, rfl⟩
theorem fl_X6_18 : hm_FL RX6 18 6 2 false := ⟨by decide, RX6, TX6, rfl, iw_6, gW_c2 58 rfl rfl, tyX6_ok, nmX6, rfl, rfl⟩
theorem fl_X6_22 : hm_FL RX6 22 6 3 false := ⟨by decide, RX6, TX6, rfl, iw_6, gW_c2 59 rfl rfl, tyX6_ok, nmX6, rfl, rfl⟩
theorem fl_X6_25 : hm_FL RX6 25 6 4 true := ⟨by decide, RX6, TX6, rfl, iw_6, gW_c2 60 rfl rfl, tyX6_ok, nmX6, rfl, rfl⟩
theorem fl_X6_32 : hm_FL RX6 32 0 11 true := ⟨by decide, RX0, TX0, rfl, iw_0, gW_c1 159 rfl rfl, tyX0_ok, nmX0, rfl, rfl⟩
theorem fl_X6_37 : hm_FL RX6 37 0 6 true := ⟨by decide, RX0, TX0, rfl, iw_0, gW_c1 141 rfl rfl, tyX0_ok, nmX0, rfl, rfl⟩
theorem fl_X6_46 : hm_FL RX6 46 2 0 true := ⟨by decide, RX2, TX2, rfl, iw_2, gW_c2 7 rfl rfl, tyX2_ok, nmX2, rfl, rfl⟩
theorem fl_X6_64 : hm_FL RX6 64 4 0 false := ⟨by decide, RX4, TX4, rfl, iw_4, gW_c1 223 rfl rfl, tyX4_ok, nmX4, rfl, rfl⟩
theorem fl_X6_70 : hm_FL RX6 70 0 2 false := ⟨by decide, RX0, TX0, rfl, iw_0, gW_c1 124 rfl rfl, tyX0_ok, nmX0, rfl, rfl⟩
theorem fl_X6_91 : hm_FL RX6 91 4 1 true := ⟨by decide, RX4, TX4, rfl, iw_4, gW_c1 226 rfl rfl, tyX4_ok, nmX4, rfl, rfl⟩
theorem fl_X6_97 : hm_FL RX6 97 0 12 true := ⟨by decide, RX0, TX0, rfl, iw_0, gW_c1 164 rfl rfl, tyX0_ok, nmX0, rfl, rfl⟩
theorem fl_X6_133 : hm_FL RX6 133 0 3 false := ⟨by decide, RX0, TX0, rfl, iw_0, gW_c1 129 rfl rfl, tyX0_ok, nmX0, rfl, rfl⟩
theorem fl_X6_142 : hm_FL RX6 142 0 7 true := ⟨by decide, RX0, TX0, rfl, iw_0, gW_c1 146 rfl rfl, tyX0_ok, nmX0, rfl, rfl⟩
theorem fl_X7_9 : hm_FL RX7 9 7 0 true := ⟨by decide, RX7, TX7, rfl, iw_7, gW_c1 47 rfl rfl, tyX7_ok, nmX7, rfl, rfl⟩
theorem fl_X7_15 : hm_FL RX7 15 7 1 false := ⟨by decide, RX7, TX7, rfl, iw_7, gW_c1 48 rfl rfl, tyX7_ok, nmX7, rfl, rfl⟩
theorem fl_X7_19 : hm_FL RX7 19 7 2 false := ⟨by decide, RX7, TX7, rfl, iw_7, gW_c1 51 rfl rfl, tyX7_ok, nmX7, rfl, rfl⟩
theorem fl_X7_22 : hm_FL RX7 22 7 3 false := ⟨by decide, RX7, TX7, rfl, iw_7, gW_c1 52 rfl rfl, tyX7_ok, nmX7, rfl, rfl⟩
theorem fl_X7_25 : hm_FL RX7 25 7 4 false := ⟨by decide, RX7, TX7, rfl, iw_7, gW_c1 54 rfl rfl, tyX7_ok, nmX7, rfl, rfl⟩
theorem fl_X7_28 : hm_FL RX7 28 7 5 false := ⟨by decide, RX7, TX7, rfl, iw_7, gW_c1 56 rfl rfl, tyX7_ok, nmX7, rfl, rfl⟩
theorem fl_X7_31 : hm_FL RX7 31 7 6 false := ⟨by decide, RX7, TX7, rfl, iw_7, gW_c1 58 rfl rfl, tyX7_ok, nmX7, rfl, rfl⟩
theorem fl_X8_9 : hm_FL RX8 9 8 0 true := ⟨by decide, RX8, TX8, rfl, iw_8, gW_c2 79 rfl rfl, tyX8_ok, nmX8, rfl, rfl⟩
theorem fl_X8_15 : hm_FL RX8 15 8 1 true := ⟨by decide, RX8, TX8, rfl, iw_8, gW_c2 80 rfl rfl, tyX8_ok, nmX8, rfl, rfl⟩
theorem fl_X8_18 : hm_FL RX8 18 8 2 true := ⟨by decide, RX8, TX8, rfl, iw_8, gW_c2 81 rfl rfl, tyX8_ok, nmX8, rfl, rfl⟩
theorem fl_X8_21 : hm_FL RX8 21 8 3 false := ⟨by decide, RX8, TX8, rfl, iw_8, gW_c2 83 rfl rfl, tyX8_ok, nmX8, rfl, rfl⟩
theorem fl_X8_25 : hm_FL RX8 25 0 4 false := ⟨by decide, RX0, TX0, rfl, iw_0, gW_c1 131 rfl rfl, tyX0_ok, nmX0, rfl, rfl⟩
theorem fl_X8_36 : hm_FL RX8 36 2 0 true := ⟨by decide, RX2, TX2, rfl, iw_2, gW_c2 5 rfl rfl, tyX2_ok, nmX2, rfl, rfl⟩
theorem fl_X9_9 : hm_FL RX9 9 9 0 true := ⟨by decide, RX9, TX9, rfl, iw_9, gW_c2 121 rfl rfl, tyX9_ok, nmX9, rfl, rfl⟩
theorem fl_X9_15 : hm_FL RX9 15 9 1 true := ⟨by decide, RX9, TX9, rfl, iw_9, gW_c2 122 rfl rfl, tyX9_ok, nmX9, rfl, rfl⟩
theorem fl_X9_18 : hm_FL RX9 18 9 2 true := ⟨by decide, RX9, TX9, rfl, iw_9, gW_c2 123 rfl rfl, tyX9_ok, nmX9, rfl, rfl⟩
theorem fl_X9_57 : hm_FL RX9 57 4 0 false := ⟨by decide, RX4, TX4, rfl, iw_4, gW_c1 222 rfl rfl, tyX4_ok, nmX4, rfl, rfl⟩
theorem fl_X10_9 : hm_FL RX10 9 10 0 true := ⟨by decide, RX10, TX10, rfl, iw_10, gW_c2 100 rfl rfl, tyX10_ok, nmX10, rfl, rfl⟩
theorem fl_X10_15 : hm_FL RX10 15 10 1 true := ⟨by decide, RX10, TX10, rfl, iw_10, gW_c2 101 rfl rfl, tyX10_ok, nmX10, rfl, rfl⟩
theorem fl_X10_19 : hm_FL RX10 19 10 2 true := ⟨by decide, RX10, TX10, rfl, iw_10, gW_c2 102 rfl rfl, tyX10_ok, nmX10, rfl, rfl⟩
theorem fl_X10_22 : hm_FL RX10 22 10 3 false := ⟨by decide, RX10, TX10, rfl, iw_10, gW_c2 104 rfl rfl, tyX10_ok, nmX10, rfl, rfl⟩
theorem fl_X10_32 : hm_FL RX10 32 4 0 false := ⟨by decide, RX4, TX4, rfl, iw_4, gW_c1 220 rfl rfl, tyX4_ok, nmX4, rfl, rfl⟩
theorem fl_X12_1 : hm_FL RX12 1 12 0 false := ⟨by decide, RX12, TX12, rfl, iw_12, gW_c5 220 rfl rfl, tyX12_ok, nmX12, rfl, rfl⟩
theorem fl_X12_11 : hm_FL RX12 11 12 2 false := ⟨by decide, RX12, TX12, rfl, iw_12, gW_c5 222 rfl rfl, tyX12_ok, nmX12, rfl, rfl⟩
theorem fl_X12_14 : hm_FL RX12 14 12 1 true := ⟨by decide, RX12, TX12, rfl, iw_12, gW_c5 221 rfl rfl, tyX12_ok, nmX12, rfl, rfl⟩
theorem fl_X12_24 : hm_FL RX12 24 12 4 true := ⟨by decide, RX12, TX12, rfl, iw_12, gW_c5 224 rfl rfl, tyX12_ok, nmX12, rfl, rfl⟩
theorem fl_X12_27 : hm_FL RX12 27 12 5 true := ⟨by decide, RX12, TX12, rfl, iw_12, gW_c5 225 rfl rfl, tyX12_ok, nmX12, rfl, rfl⟩
theorem fl_X12_30 : hm_FL RX12 30 12 6 true := ⟨by decide, RX12, TX12, rfl, iw_12, gW_c5 226 rfl rfl, tyX12_ok, nmX12, rfl, rfl⟩
theorem fl_X12_78 : hm_FL RX12 78 12 9 true := ⟨by decide, RX12, TX12, rfl, iw_12, gW_c5 229 rfl rfl, tyX12_ok, nmX12, rfl, rfl⟩
theorem fl_X12_81 : hm_FL RX12 81 12 10 true := ⟨by decide, RX12, TX12, rfl, iw_12, gW_c5 230 rfl rfl, tyX12_ok, nmX12, rfl, rfl⟩
theorem fl_X12_84 : hm_FL RX12 84 12 11 true := ⟨by decide, RX12, TX12, rfl, iw_12, gW_c5 231 rfl rfl, tyX12_ok, nmX12, rfl, rfl⟩
theorem fl_X12_87 : hm_FL RX12 87 12 12 true := ⟨by decide, RX12, TX12, rfl, iw_12, gW_c5 232 rfl rfl, tyX12_ok, nmX12, rfl, rfl⟩
theorem fl_X12_90 : hm_FL RX12 90 12 14 true := ⟨by decide, RX12, TX12, rfl, iw_12, gW_c5 234 rfl rfl, tyX12_ok, nmX12, rfl, rfl⟩
theorem fl_X12_93 : hm_FL RX12 93 12 18 true := ⟨by decide, RX12, TX12, rfl, iw_12, gW_c5 238 rfl rfl, tyX12_ok, nmX12, rfl, rfl⟩
theorem fl_X12_96 : hm_FL RX12 96 12 19 true := ⟨by decide, RX12, TX12, rfl, iw_12, gW_c5 239 rfl rfl, tyX12_ok, nmX12, rfl, rfl⟩
theorem fl_X12_99 : hm_FL RX12 99 12 20 true := ⟨by decide, RX12, TX12, rfl, iw_12, gW_c6 0 rfl rfl, tyX12_ok, nmX12, rfl, rfl⟩
theorem fl_X12_102 : hm_FL RX12 102 12 22 true := ⟨by decide, RX12, TX12, rfl, iw_12, gW_c6 2 rfl rfl, tyX12_ok, nmX12, rfl, rfl⟩
theorem fl_X12_106 : hm_FL RX12 106 12 24 true := ⟨by decide, RX12, TX12, rfl, iw_12, gW_c6 4 rfl rfl, tyX12_ok, nmX12, rfl, rfl⟩
theorem fl_X12_109 : hm_FL RX12 109 12 25 true := ⟨by decide, RX12, TX12, rfl, iw_12, gW_c6 5 rfl rfl, tyX12_ok, nmX12, rfl, rfl⟩
theorem fl_X12_112 : hm_FL RX12 112 12 26 true := ⟨by decide, RX12, TX12, rfl, iw_12, gW_c6 6 rfl rfl, tyX12_ok, nmX12, rfl, rfl⟩
theorem fl_X12_115 : hm_FL RX12 115 12 27 true := ⟨by decide, RX12, TX12, rfl, iw_12, gW_c6 7 rfl rfl, tyX12_ok, nmX12, rfl, rfl⟩
theorem fl_X12_118 : hm_FL RX12 118 12 29 true := ⟨by decide, RX12, TX12, rfl, iw_12, gW_c6 9 rfl rfl, tyX12_ok, nmX12, rfl, rfl⟩
theorem fl_X12_121 : hm_FL RX12 121 12 30 true := ⟨by decide, RX12, TX12, rfl, iw_12, gW_c6 10 rfl rfl, tyX12_ok, nmX12, rfl, rfl⟩
theorem fl_X12_124 : hm_FL RX12 124 12 31 true := ⟨by decide, RX12, TX12, rfl, iw_12, gW_c6 11 rfl rfl, tyX12_ok, nmX12, rfl, rfl⟩
theorem fl_X12_127 : hm_FL RX12 127 12 32 true := ⟨by decide, RX12, TX12, rfl, iw_12, gW_c6 12 rfl rfl, tyX12_ok, nmX12, rfl, rfl⟩
theorem fl_X12_130 : hm_FL RX12 130 12 33 true := ⟨by decide, RX12, TX12, rfl, iw_12, gW_c6 13 rfl rfl, tyX12_ok, nmX12, rfl, rfl⟩
theorem fl_X12_137 : hm_FL RX12 137 12 3 false := ⟨by decide, RX12, TX12, rfl, iw_12, gW_c5 223 rfl rfl, tyX12_ok, nmX12, rfl, rfl⟩
theorem fl_X12_156 : hm_FL RX12 156 12 7 false := ⟨by decide, RX12, TX12, rfl, iw_12, gW_c5 227 rfl rfl, tyX12_ok, nmX12, rfl, rfl⟩
theorem fl_X12_159 : hm_FL RX12 159 12 8 false := ⟨by decide, RX12, TX12, rfl, iw_12, gW_c5 228 rfl rfl, tyX12_ok, nmX12, rfl, rfl⟩
theorem fl_X12_185 : hm_FL RX12 185 12 13 false := ⟨by decide, RX12, TX12, rfl, iw_12, gW_c5 233 rfl rfl, tyX12_ok, nmX12, rfl, rfl⟩
theorem fl_X12_188 : hm_FL RX12 188 12 15 false := ⟨by decide, RX12, TX12, rfl, iw_12, gW_c5 235 rfl rfl, tyX12_ok, nmX12, rfl, rfl⟩
theorem fl_X12_192 : hm_FL RX12 192 12 16 false := ⟨by decide, RX12, TX12, rfl, iw_12, gW_c5 236 rfl rfl, tyX12_ok, nmX12, rfl, rfl⟩
theorem fl_X12_201 : hm_FL RX12 201 12 21 false := ⟨by decide, RX12, TX12, rfl, iw_12, gW_c6 1 rfl rfl, tyX12_ok, nmX12, rfl, rfl⟩
theorem fl_X12_231 : hm_FL RX12 231 12 17 false := ⟨by decide, RX12, TX12, rfl, iw_12, gW_c5 237 rfl rfl, tyX12_ok, nmX12, rfl, rfl⟩
theorem fl_X12_286 : hm_FL RX12 286 12 23 false := ⟨by decide, RX12, TX12, rfl, iw_12, gW_c6 3 rfl rfl, tyX12_ok, nmX12, rfl, rfl⟩
theorem fl_X12_338 : hm_FL RX12 338 12 28 false := ⟨by decide, RX12, TX12, rfl, iw_12, gW_c6 8 rfl rfl, tyX12_ok, nmX12, rfl, rfl⟩
theorem fl_X12_381 : hm_FL RX12 381 12 34 false := ⟨by decide, RX12, TX12, rfl, iw_12, gW_c6 14 rfl rfl, tyX12_ok, nmX12, rfl, rfl⟩
theorem mm_J6_bitCount_0f7a4 : hm_MM yJ6_bitCount_0f7a4 cJ6_bitCount_0f7a4 1 (some .int) 1 := ⟨gW_c4 65 rfl rfl, gW_c1 21 rfl rfl, by decide, by decide, by decide +kernel, by decide, by decide⟩
theorem mm_J7_fill_53178 : hm_MM yJ7_fill_53178 cJ7_fill_53178 4 none 2 := ⟨gW_c4 195 rfl rfl, gW_c1 20 rfl rfl, by decide, by decide, by decide +kernel, by decide, by decide⟩
theorem mm_J7_fill_d0a16 : hm_MM yJ7_fill_d0a16 cJ7_fill_d0a16 5 none 2 := ⟨gW_c3 195 rfl rfl, gW_c1 20 rfl rfl, by decide, by decide, by decide +kernel, by decide, by decide⟩
theorem mm_Chapel_begin : hm_MM yX0_begin cX0_begin 1 none 0 := ⟨gW_c1 112 rfl rfl, gW_c1 4 rfl rfl, by decide, by decide, by decide +kernel, by decide, by decide⟩
theorem mm_Chapel_colourOf : hm_MM yX0_colourOf cX0_colourOf 4 (some .int) 1 := ⟨gW_c4 62 rfl rfl, gW_c1 4 rfl rfl, by decide, by decide, by decide +kernel, by decide, by decide⟩
theorem mm_Chapel_guildNamed : hm_MM yX0_guildNamed cX0_guildNamed 4 (some .int) 1 := ⟨gW_c3 118 rfl rfl, gW_c1 4 rfl rfl, by decide, by decide, by decide +kernel, by decide, by decide⟩
theorem mm_Chapel_hasPaneAt : hm_MM yX0_hasPaneAt cX0_hasPaneAt 4 (some .boolean) 2 := ⟨gW_c3 130 rfl rfl, gW_c1 4 rfl rfl, by decide, by decide, by decide +kernel, by decide, by decide⟩
theorem mm_Chapel_hasPlace : hm_MM yX0_hasPlace cX0_hasPlace 3 (some .boolean) 2 := ⟨gW_c4 36 rfl rfl, gW_c1 4 rfl rfl, by decide, by decide, by decide +kernel, by decide, by decide⟩
theorem mm_Chapel_init : hm_MM yX0_init cX0_init 1 none 0 := ⟨gW_c1 80 rfl rfl, gW_c1 4 rfl rfl, by decide, by decide, by decide +kernel, by decide, by decide⟩
theorem mm_Way_find : hm_MM yX10_find cX10_find 11 none 4 := ⟨gW_c4 221 rfl rfl, gW_c1 11 rfl rfl, by decide, by decide, by decide +kernel, by decide, by decide⟩
theorem mm_Way_floorOf : hm_MM yX10_floorOf cX10_floorOf 4 (some .long) 1 := ⟨gW_c4 225 rfl rfl, gW_c1 11 rfl rfl, by decide, by decide, by decide +kernel, by decide, by decide⟩
theorem mm_Way_init : hm_MM yX10_init cX10_init 1 none 0 := ⟨gW_c2 98 rfl rfl, gW_c1 11 rfl rfl, by decide, by decide, by decide +kernel, by decide, by decide⟩
theorem mm_Way_lookAhead : hm_MM yX10_lookAhead cX10_lookAhead 8 none 3 := ⟨gW_c4 235 rfl rfl, gW_c1 11 rfl rfl, by decide, by decide, by decide +kernel, by decide, by decide⟩
theorem mm_Way_nextFrom : hm_MM yX10_nextFrom cX10_nextFrom 6 (some .int) 2 := ⟨gW_c4 239 rfl rfl, gW_c1 11 rfl rfl, by decide, by decide, by decide +kernel, by decide, by decide⟩
theorem mm_Way_stepsOver : hm_MM yX10_stepsOver cX10_stepsOver 5 (some .int) 3 := ⟨gW_c5 4 rfl rfl, gW_c1 11 rfl rfl, by decide, by decide, by decide +kernel, by decide, by decide⟩
theorem mm_Ps_best : hm_MM yX11_best cX11_best 2 (some .int) 1 := ⟨gW_c4 144 rfl rfl, gW_c1 1 rfl rfl, by decide, by decide, by decide +kernel, by decide, by decide⟩
theorem mm_Ps_breaks : hm_MM yX11_breaks cX11_breaks 3 (some .boolean) 2 := ⟨gW_c4 180 rfl rfl, gW_c1 1 rfl rfl, by decide, by decide, by decide +kernel, by decide, by decide⟩
theorem mm_Ps_canExchange : hm_MM yX11_canExchange cX11_canExchange 3 (some .boolean) 2 := ⟨gW_c4 135 rfl rfl, gW_c1 1 rfl rfl, by decide, by decide, by decide +kernel, by decide, by decide⟩
theorem mm_Ps_candles : hm_MM yX11_candles cX11_candles 3 (some .int) 2 := ⟨gW_c5 22 rfl rfl, gW_c1 1 rfl rfl, by decide, by decide, by decide +kernel, by decide, by decide⟩
theorem mm_Ps_candlesAt : hm_MM yX11_candlesAt cX11_candlesAt 5 (some .int) 1 := ⟨gW_c5 26 rfl rfl, gW_c1 1 rfl rfl, by decide, by decide, by decide +kernel, by decide, by decide⟩
theorem mm_Ps_chapel : hm_MM yX11_chapel cX11_chapel 2 (some .int) 0 := ⟨gW_c2 177 rfl rfl, gW_c1 1 rfl rfl, by decide, by decide, by decide +kernel, by decide, by decide⟩
theorem mm_Ps_clear : hm_MM yX11_clear cX11_clear 1 (some .boolean) 0 := ⟨gW_c5 40 rfl rfl, gW_c1 1 rfl rfl, by decide, by decide, by decide +kernel, by decide, by decide⟩
theorem mm_Ps_count : hm_MM yX11_count cX11_count 2 (some .int) 1 := ⟨gW_c5 102 rfl rfl, gW_c1 1 rfl rfl, by decide, by decide, by decide +kernel, by decide, by decide⟩
theorem mm_Ps_exchange : hm_MM yX11_exchange cX11_exchange 3 (some .boolean) 2 := ⟨gW_c4 167 rfl rfl, gW_c1 1 rfl rfl, by decide, by decide, by decide +kernel, by decide, by decide⟩
theorem mm_Ps_fallen : hm_MM yX11_fallen cX11_fallen 3 (some .int) 0 := ⟨gW_c4 188 rfl rfl, gW_c1 1 rfl rfl, by decide, by decide, by decide +kernel, by decide, by decide⟩
theorem mm_Ps_falls : hm_MM yX11_falls cX11_falls 2 (some .int) 1 := ⟨gW_c4 203 rfl rfl, gW_c1 1 rfl rfl, by decide, by decide, by decide +kernel, by decide, by decide⟩
theorem mm_Ps_feed : hm_MM yX11_feed cX11_feed 7 (some .int) 3 := ⟨gW_c2 166 rfl rfl, gW_c1 1 rfl rfl, by decide, by decide, by decide +kernel, by decide, by decide⟩
theorem mm_Ps_gain : hm_MM yX11_gain cX11_gain 3 (some .int) 2 := ⟨gW_c4 131 rfl rfl, gW_c1 1 rfl rfl, by decide, by decide, by decide +kernel, by decide, by decide⟩
theorem mm_Ps_guild : hm_MM yX11_guild cX11_guild 3 (some .int) 2 := ⟨gW_c3 211 rfl rfl, gW_c1 1 rfl rfl, by decide, by decide, by decide +kernel, by decide, by decide⟩
theorem mm_Ps_init : hm_MM yX11_init cX11_init 2 none 0 := ⟨gW_c1 31 rfl rfl, gW_c1 1 rfl rfl, by decide, by decide, by decide +kernel, by decide, by decide⟩
theorem mm_Ps_isGuild : hm_MM yX11_isGuild cX11_isGuild 2 (some .boolean) 1 := ⟨gW_c3 215 rfl rfl, gW_c1 1 rfl rfl, by decide, by decide, by decide +kernel, by decide, by decide⟩
theorem mm_Ps_isPane : hm_MM yX11_isPane cX11_isPane 2 (some .boolean) 1 := ⟨gW_c3 227 rfl rfl, gW_c1 1 rfl rfl, by decide, by decide, by decide +kernel, by decide, by decide⟩
theorem mm_Ps_isStained : hm_MM yX11_isStained cX11_isStained 5 (some .boolean) 4 := ⟨gW_c5 48 rfl rfl, gW_c1 1 rfl rfl, by decide, by decide, by decide +kernel, by decide, by decide⟩
theorem mm_Ps_isTime : hm_MM yX11_isTime cX11_isTime 2 (some .boolean) 2 := ⟨gW_c3 238 rfl rfl, gW_c1 1 rfl rfl, by decide, by decide, by decide +kernel, by decide, by decide⟩
theorem mm_Ps_mark : hm_MM yX11_mark cX11_mark 3 (some .boolean) 2 := ⟨gW_c5 94 rfl rfl, gW_c1 1 rfl rfl, by decide, by decide, by decide +kernel, by decide, by decide⟩
theorem mm_Ps_ownersOnAll : hm_MM yX11_ownersOnAll cX11_ownersOnAll 3 (some .int) 0 := ⟨gW_c5 90 rfl rfl, gW_c1 1 rfl rfl, by decide, by decide, by decide +kernel, by decide, by decide⟩
theorem mm_Ps_ownersOnSome : hm_MM yX11_ownersOnSome cX11_ownersOnSome 4 (some .int) 0 := ⟨gW_c5 82 rfl rfl, gW_c1 1 rfl rfl, by decide, by decide, by decide +kernel, by decide, by decide⟩
theorem mm_Ps_pane : hm_MM yX11_pane cX11_pane 3 (some .int) 2 := ⟨gW_c3 223 rfl rfl, gW_c1 1 rfl rfl, by decide, by decide, by decide +kernel, by decide, by decide⟩
theorem mm_Ps_place : hm_MM yX11_place cX11_place 7 (some .int) 5 := ⟨gW_c4 44 rfl rfl, gW_c1 1 rfl rfl, by decide, by decide, by decide +kernel, by decide, by decide⟩
theorem mm_Ps_placeOf : hm_MM yX11_placeOf cX11_placeOf 2 (some .int) 2 := ⟨gW_c4 39 rfl rfl, gW_c1 1 rfl rfl, by decide, by decide, by decide +kernel, by decide, by decide⟩
theorem mm_Ps_rents : hm_MM yX11_rents cX11_rents 2 (some .int) 1 := ⟨gW_c4 114 rfl rfl, gW_c1 1 rfl rfl, by decide, by decide, by decide +kernel, by decide, by decide⟩
theorem mm_Ps_see : hm_MM yX11_see cX11_see 4 (some .int) 3 := ⟨gW_c5 14 rfl rfl, gW_c1 1 rfl rfl, by decide, by decide, by decide +kernel, by decide, by decide⟩
theorem mm_Ps_spot : hm_MM yX11_spot cX11_spot 4 (some .int) 3 := ⟨gW_c3 235 rfl rfl, gW_c1 1 rfl rfl, by decide, by decide, by decide +kernel, by decide, by decide⟩
theorem mm_Ps_stains : hm_MM yX11_stains cX11_stains 5 (some .int) 4 := ⟨gW_c5 44 rfl rfl, gW_c1 1 rfl rfl, by decide, by decide, by decide +kernel, by decide, by decide⟩
theorem mm_Ps_stall : hm_MM yX11_stall cX11_stall 7 (some .int) 5 := ⟨gW_c4 217 rfl rfl, gW_c1 1 rfl rfl, by decide, by decide, by decide +kernel, by decide, by decide⟩
theorem mm_Ps_stepsBetween : hm_MM yX11_stepsBetween cX11_stepsBetween 2 (some .int) 2 := ⟨gW_c5 7 rfl rfl, gW_c1 1 rfl rfl, by decide, by decide, by decide +kernel, by decide, by decide⟩
theorem mm_Ps_stood : hm_MM yX11_stood cX11_stood 7 (some .int) 6 := ⟨gW_c5 74 rfl rfl, gW_c1 1 rfl rfl, by decide, by decide, by decide +kernel, by decide, by decide⟩
theorem mm_Ps_timeOf : hm_MM yX11_timeOf cX11_timeOf 2 (some .int) 2 := ⟨gW_c4 1 rfl rfl, gW_c1 1 rfl rfl, by decide, by decide, by decide +kernel, by decide, by decide⟩
theorem mm_Ps_undo : hm_MM yX11_undo cX11_undo 1 (some .boolean) 0 := ⟨gW_c4 207 rfl rfl, gW_c1 1 rfl rfl, by decide, by decide, by decide +kernel, by decide, by decide⟩
theorem mm_Ps_when : hm_MM yX11_when cX11_when 7 (some .int) 1 := ⟨gW_c5 36 rfl rfl, gW_c1 1 rfl rfl, by decide, by decide, by decide +kernel, by decide, by decide⟩
theorem mm_Ps_worth : hm_MM yX11_worth cX11_worth 3 (some .int) 2 := ⟨gW_c4 123 rfl rfl, gW_c1 1 rfl rfl, by decide, by decide, by decide +kernel, by decide, by decide⟩
theorem mm_Ps_yearNow : hm_MM yX11_yearNow cX11_yearNow 1 (some .int) 0 := ⟨gW_c4 76 rfl rfl, gW_c1 1 rfl rfl, by decide, by decide, by decide +kernel, by decide, by decide⟩
theorem mm_Ps_yields : hm_MM yX11_yields cX11_yields 2 (some .int) 1 := ⟨gW_c4 72 rfl rfl, gW_c1 1 rfl rfl, by decide, by decide, by decide +kernel, by decide, by decide⟩
theorem mm_Md_addsYields : hm_MM yX12_addsYields cX12_addsYields 5 none 2 := ⟨gW_c7 50 rfl rfl, gW_c1 13 rfl rfl, by decide, by decide, by decide +kernel, by decide, by decide⟩
theorem mm_Md_all : hm_MM yX12_all cX12_all 3 none 1 := ⟨gW_c6 169 rfl rfl, gW_c1 13 rfl rfl, by decide, by decide, by decide +kernel, by decide, by decide⟩
theorem mm_Md_areUnlike : hm_MM yX12_areUnlike cX12_areUnlike 3 (some .boolean) 2 := ⟨gW_c7 81 rfl rfl, gW_c1 13 rfl rfl, by decide, by decide, by decide +kernel, by decide, by decide⟩
theorem mm_Md_best : hm_MM yX12_best cX12_best 3 (some .int) 1 := ⟨gW_c7 89 rfl rfl, gW_c1 13 rfl rfl, by decide, by decide, by decide +kernel, by decide, by decide⟩
theorem mm_Md_bits : hm_MM yX12_bits cX12_bits 3 (some .int) 1 := ⟨gW_c7 73 rfl rfl, gW_c1 13 rfl rfl, by decide, by decide, by decide +kernel, by decide, by decide⟩
theorem mm_Md_both : hm_MM yX12_both cX12_both 3 (some .int) 3 := ⟨gW_c7 26 rfl rfl, gW_c1 13 rfl rfl, by decide, by decide, by decide +kernel, by decide, by decide⟩
theorem mm_Md_breaks : hm_MM yX12_breaks cX12_breaks 3 (some .boolean) 2 := ⟨gW_c7 109 rfl rfl, gW_c1 13 rfl rfl, by decide, by decide, by decide +kernel, by decide, by decide⟩
theorem mm_Md_canStain : hm_MM yX12_canStain cX12_canStain 5 (some .boolean) 4 := ⟨gW_c7 177 rfl rfl, gW_c1 13 rfl rfl, by decide, by decide, by decide +kernel, by decide, by decide⟩
theorem mm_Md_candles : hm_MM yX12_candles cX12_candles 3 (some .int) 2 := ⟨gW_c7 161 rfl rfl, gW_c1 13 rfl rfl, by decide, by decide, by decide +kernel, by decide, by decide⟩
theorem mm_Md_candlesAt : hm_MM yX12_candlesAt cX12_candlesAt 6 (some .int) 2 := ⟨gW_c7 165 rfl rfl, gW_c1 13 rfl rfl, by decide, by decide, by decide +kernel, by decide, by decide⟩
theorem mm_Md_chapel : hm_MM yX12_chapel cX12_chapel 2 (some .int) 0 := ⟨gW_c6 90 rfl rfl, gW_c1 13 rfl rfl, by decide, by decide, by decide +kernel, by decide, by decide⟩
theorem mm_Md_clear : hm_MM yX12_clear cX12_clear 1 (some .boolean) 0 := ⟨gW_c7 157 rfl rfl, gW_c1 13 rfl rfl, by decide, by decide, by decide +kernel, by decide, by decide⟩
theorem mm_Md_clouded : hm_MM yX12_clouded cX12_clouded 5 (some .int) 2 := ⟨gW_c7 193 rfl rfl, gW_c1 13 rfl rfl, by decide, by decide, by decide +kernel, by decide, by decide⟩
theorem mm_Md_copies : hm_MM yX12_copies cX12_copies 5 none 3 := ⟨gW_c7 105 rfl rfl, gW_c1 13 rfl rfl, by decide, by decide, by decide +kernel, by decide, by decide⟩
theorem mm_Md_count : hm_MM yX12_count cX12_count 2 (some .int) 1 := ⟨gW_c7 209 rfl rfl, gW_c1 13 rfl rfl, by decide, by decide, by decide +kernel, by decide, by decide⟩
theorem mm_Md_cutAll : hm_MM yX12_cutAll cX12_cutAll 7 none 0 := ⟨gW_c6 94 rfl rfl, gW_c1 13 rfl rfl, by decide, by decide, by decide +kernel, by decide, by decide⟩
theorem mm_Md_draw : hm_MM yX12_draw cX12_draw 2 (some .int) 1 := ⟨gW_c7 197 rfl rfl, gW_c1 13 rfl rfl, by decide, by decide, by decide +kernel, by decide, by decide⟩
theorem mm_Md_emit : hm_MM yX12_emit cX12_emit 3 none 2 := ⟨gW_c6 197 rfl rfl, gW_c1 13 rfl rfl, by decide, by decide, by decide +kernel, by decide, by decide⟩
theorem mm_Md_exchange : hm_MM yX12_exchange cX12_exchange 4 (some .boolean) 2 := ⟨gW_c7 97 rfl rfl, gW_c1 13 rfl rfl, by decide, by decide, by decide +kernel, by decide, by decide⟩
theorem mm_Md_factHere : hm_MM yX12_factHere cX12_factHere 4 (some .int) 0 := ⟨gW_c6 189 rfl rfl, gW_c1 13 rfl rfl, by decide, by decide, by decide +kernel, by decide, by decide⟩
theorem mm_Md_fallen : hm_MM yX12_fallen cX12_fallen 3 (some .int) 0 := ⟨gW_c7 113 rfl rfl, gW_c1 13 rfl rfl, by decide, by decide, by decide +kernel, by decide, by decide⟩
theorem mm_Md_falls : hm_MM yX12_falls cX12_falls 2 (some .int) 1 := ⟨gW_c7 121 rfl rfl, gW_c1 13 rfl rfl, by decide, by decide, by decide +kernel, by decide, by decide⟩
theorem mm_Md_feed : hm_MM yX12_feed cX12_feed 7 (some .int) 3 := ⟨gW_c5 187 rfl rfl, gW_c1 13 rfl rfl, by decide, by decide, by decide +kernel, by decide, by decide⟩
theorem mm_Md_find : hm_MM yX12_find cX12_find 2 (some .int) 0 := ⟨gW_c6 141 rfl rfl, gW_c1 13 rfl rfl, by decide, by decide, by decide +kernel, by decide, by decide⟩
theorem mm_Md_findFalls : hm_MM yX12_findFalls cX12_findFalls 7 none 0 := ⟨gW_c7 117 rfl rfl, gW_c1 13 rfl rfl, by decide, by decide, by decide +kernel, by decide, by decide⟩
theorem mm_Md_findLight : hm_MM yX12_findLight cX12_findLight 7 none 2 := ⟨gW_c7 15 rfl rfl, gW_c1 13 rfl rfl, by decide, by decide, by decide +kernel, by decide, by decide⟩
theorem mm_Md_findMay : hm_MM yX12_findMay cX12_findMay 8 none 4 := ⟨gW_c7 133 rfl rfl, gW_c1 13 rfl rfl, by decide, by decide, by decide +kernel, by decide, by decide⟩
theorem mm_Md_findStains : hm_MM yX12_findStains cX12_findStains 8 (some .int) 4 := ⟨gW_c7 181 rfl rfl, gW_c1 13 rfl rfl, by decide, by decide, by decide +kernel, by decide, by decide⟩
theorem mm_Md_findYields : hm_MM yX12_findYields cX12_findYields 2 none 0 := ⟨gW_c7 46 rfl rfl, gW_c1 13 rfl rfl, by decide, by decide, by decide +kernel, by decide, by decide⟩
theorem mm_Md_gain : hm_MM yX12_gain cX12_gain 3 (some .int) 2 := ⟨gW_c7 77 rfl rfl, gW_c1 13 rfl rfl, by decide, by decide, by decide +kernel, by decide, by decide⟩
theorem mm_Md_gainOf : hm_MM yX12_gainOf cX12_gainOf 7 (some .int) 2 := ⟨gW_c7 85 rfl rfl, gW_c1 13 rfl rfl, by decide, by decide, by decide +kernel, by decide, by decide⟩
theorem mm_Md_guild : hm_MM yX12_guild cX12_guild 5 (some .int) 2 := ⟨gW_c6 209 rfl rfl, gW_c1 13 rfl rfl, by decide, by decide, by decide +kernel, by decide, by decide⟩
theorem mm_Md_guilds : hm_MM yX12_guilds cX12_guilds 1 (some .int) 0 := ⟨gW_c6 217 rfl rfl, gW_c1 13 rfl rfl, by decide, by decide, by decide +kernel, by decide, by decide⟩
theorem mm_Md_hasSign : hm_MM yX12_hasSign cX12_hasSign 3 (some .boolean) 1 := ⟨gW_c6 201 rfl rfl, gW_c1 13 rfl rfl, by decide, by decide, by decide +kernel, by decide, by decide⟩
theorem mm_Md_hasWord : hm_MM yX12_hasWord cX12_hasWord 3 (some .boolean) 1 := ⟨gW_c6 153 rfl rfl, gW_c1 13 rfl rfl, by decide, by decide, by decide +kernel, by decide, by decide⟩
theorem mm_Md_init : hm_MM yX12_init cX12_init 2 none 0 := ⟨gW_c5 196 rfl rfl, gW_c1 13 rfl rfl, by decide, by decide, by decide +kernel, by decide, by decide⟩
theorem mm_Md_isBroken : hm_MM yX12_isBroken cX12_isBroken 2 (some .boolean) 1 := ⟨gW_c7 0 rfl rfl, gW_c1 13 rfl rfl, by decide, by decide, by decide +kernel, by decide, by decide⟩
theorem mm_Md_isDark : hm_MM yX12_isDark cX12_isDark 3 (some .boolean) 2 := ⟨gW_c7 19 rfl rfl, gW_c1 13 rfl rfl, by decide, by decide, by decide +kernel, by decide, by decide⟩
theorem mm_Md_isDigit : hm_MM yX12_isDigit cX12_isDigit 1 (some .boolean) 1 := ⟨gW_c6 104 rfl rfl, gW_c1 13 rfl rfl, by decide, by decide, by decide +kernel, by decide, by decide⟩
theorem mm_Md_isGuild : hm_MM yX12_isGuild cX12_isGuild 2 (some .boolean) 1 := ⟨gW_c6 213 rfl rfl, gW_c1 13 rfl rfl, by decide, by decide, by decide +kernel, by decide, by decide⟩
theorem mm_Md_isLetter : hm_MM yX12_isLetter cX12_isLetter 1 (some .boolean) 1 := ⟨gW_c6 97 rfl rfl, gW_c1 13 rfl rfl, by decide, by decide, by decide +kernel, by decide, by decide⟩
theorem mm_Md_isName : hm_MM yX12_isName cX12_isName 3 (some .boolean) 0 := ⟨gW_c6 137 rfl rfl, gW_c1 13 rfl rfl, by decide, by decide, by decide +kernel, by decide, by decide⟩
theorem mm_Md_isOn : hm_MM yX12_isOn cX12_isOn 3 (some .boolean) 2 := ⟨gW_c7 30 rfl rfl, gW_c1 13 rfl rfl, by decide, by decide, by decide +kernel, by decide, by decide⟩
theorem mm_Md_isPane : hm_MM yX12_isPane cX12_isPane 2 (some .boolean) 1 := ⟨gW_c6 236 rfl rfl, gW_c1 13 rfl rfl, by decide, by decide, by decide +kernel, by decide, by decide⟩
theorem mm_Md_isPlace : hm_MM yX12_isPlace cX12_isPlace 2 (some .boolean) 1 := ⟨gW_c7 137 rfl rfl, gW_c1 13 rfl rfl, by decide, by decide, by decide +kernel, by decide, by decide⟩
theorem mm_Md_isSign : hm_MM yX12_isSign cX12_isSign 2 (some .boolean) 1 := ⟨gW_c6 193 rfl rfl, gW_c1 13 rfl rfl, by decide, by decide, by decide +kernel, by decide, by decide⟩
theorem mm_Md_isSignOf : hm_MM yX12_isSignOf cX12_isSignOf 1 (some .boolean) 1 := ⟨gW_c6 109 rfl rfl, gW_c1 13 rfl rfl, by decide, by decide, by decide +kernel, by decide, by decide⟩
theorem mm_Md_isTime : hm_MM yX12_isTime cX12_isTime 2 (some .boolean) 2 := ⟨gW_c7 11 rfl rfl, gW_c1 13 rfl rfl, by decide, by decide, by decide +kernel, by decide, by decide⟩
theorem mm_Md_isWord : hm_MM yX12_isWord cX12_isWord 2 (some .boolean) 1 := ⟨gW_c6 117 rfl rfl, gW_c1 13 rfl rfl, by decide, by decide, by decide +kernel, by decide, by decide⟩
theorem mm_Md_keeps : hm_MM yX12_keeps cX12_keeps 2 none 0 := ⟨gW_c7 101 rfl rfl, gW_c1 13 rfl rfl, by decide, by decide, by decide +kernel, by decide, by decide⟩
theorem mm_Md_lay : hm_MM yX12_lay cX12_lay 5 none 1 := ⟨gW_c5 192 rfl rfl, gW_c1 13 rfl rfl, by decide, by decide, by decide +kernel, by decide, by decide⟩
theorem mm_Md_leastFrom : hm_MM yX12_leastFrom cX12_leastFrom 6 (some .int) 2 := ⟨gW_c7 142 rfl rfl, gW_c1 13 rfl rfl, by decide, by decide, by decide +kernel, by decide, by decide⟩
theorem mm_Md_lightAt : hm_MM yX12_lightAt cX12_lightAt 7 (some .int) 2 := ⟨gW_c7 38 rfl rfl, gW_c1 13 rfl rfl, by decide, by decide, by decide +kernel, by decide, by decide⟩
theorem mm_Md_mark : hm_MM yX12_mark cX12_mark 3 (some .boolean) 2 := ⟨gW_c7 205 rfl rfl, gW_c1 13 rfl rfl, by decide, by decide, by decide +kernel, by decide, by decide⟩
theorem mm_Md_near : hm_MM yX12_near cX12_near 6 (some .int) 3 := ⟨gW_c7 185 rfl rfl, gW_c1 13 rfl rfl, by decide, by decide, by decide +kernel, by decide, by decide⟩
theorem mm_Md_ownerOf : hm_MM yX12_ownerOf cX12_ownerOf 2 (some .int) 1 := ⟨gW_c6 228 rfl rfl, gW_c1 13 rfl rfl, by decide, by decide, by decide +kernel, by decide, by decide⟩
theorem mm_Md_pane : hm_MM yX12_pane cX12_pane 3 (some .int) 2 := ⟨gW_c6 232 rfl rfl, gW_c1 13 rfl rfl, by decide, by decide, by decide +kernel, by decide, by decide⟩
theorem mm_Md_paneOf : hm_MM yX12_paneOf cX12_paneOf 3 (some .int) 2 := ⟨gW_c7 4 rfl rfl, gW_c1 13 rfl rfl, by decide, by decide, by decide +kernel, by decide, by decide⟩
theorem mm_Md_panes : hm_MM yX12_panes cX12_panes 1 (some .int) 0 := ⟨gW_c6 224 rfl rfl, gW_c1 13 rfl rfl, by decide, by decide, by decide +kernel, by decide, by decide⟩
theorem mm_Md_place : hm_MM yX12_place cX12_place 6 (some .int) 5 := ⟨gW_c7 34 rfl rfl, gW_c1 13 rfl rfl, by decide, by decide, by decide +kernel, by decide, by decide⟩
theorem mm_Md_products : hm_MM yX12_products cX12_products 2 none 1 := ⟨gW_c6 181 rfl rfl, gW_c1 13 rfl rfl, by decide, by decide, by decide +kernel, by decide, by decide⟩
theorem mm_Md_rank : hm_MM yX12_rank cX12_rank 1 (some .int) 1 := ⟨gW_c6 101 rfl rfl, gW_c1 13 rfl rfl, by decide, by decide, by decide +kernel, by decide, by decide⟩
theorem mm_Md_readCloud : hm_MM yX12_readCloud cX12_readCloud 1 none 0 := ⟨gW_c6 161 rfl rfl, gW_c1 13 rfl rfl, by decide, by decide, by decide +kernel, by decide, by decide⟩
theorem mm_Md_readFloor : hm_MM yX12_readFloor cX12_readFloor 1 none 0 := ⟨gW_c6 121 rfl rfl, gW_c1 13 rfl rfl, by decide, by decide, by decide +kernel, by decide, by decide⟩
theorem mm_Md_readGuild : hm_MM yX12_readGuild cX12_readGuild 2 none 0 := ⟨gW_c6 133 rfl rfl, gW_c1 13 rfl rfl, by decide, by decide, by decide +kernel, by decide, by decide⟩
theorem mm_Md_readLaw : hm_MM yX12_readLaw cX12_readLaw 2 none 0 := ⟨gW_c6 165 rfl rfl, gW_c1 13 rfl rfl, by decide, by decide, by decide +kernel, by decide, by decide⟩
theorem mm_Md_readLine : hm_MM yX12_readLine cX12_readLine 1 none 0 := ⟨gW_c6 113 rfl rfl, gW_c1 13 rfl rfl, by decide, by decide, by decide +kernel, by decide, by decide⟩
theorem mm_Md_readPane : hm_MM yX12_readPane cX12_readPane 5 none 0 := ⟨gW_c6 157 rfl rfl, gW_c1 13 rfl rfl, by decide, by decide, by decide +kernel, by decide, by decide⟩
theorem mm_Md_rentAt : hm_MM yX12_rentAt cX12_rentAt 6 (some .int) 4 := ⟨gW_c7 54 rfl rfl, gW_c1 13 rfl rfl, by decide, by decide, by decide +kernel, by decide, by decide⟩
theorem mm_Md_rents : hm_MM yX12_rents cX12_rents 2 (some .int) 1 := ⟨gW_c7 58 rfl rfl, gW_c1 13 rfl rfl, by decide, by decide, by decide +kernel, by decide, by decide⟩
theorem mm_Md_rentsOf : hm_MM yX12_rentsOf cX12_rentsOf 4 (some .int) 1 := ⟨gW_c7 62 rfl rfl, gW_c1 13 rfl rfl, by decide, by decide, by decide +kernel, by decide, by decide⟩
theorem mm_Md_see : hm_MM yX12_see cX12_see 5 (some .int) 3 := ⟨gW_c7 149 rfl rfl, gW_c1 13 rfl rfl, by decide, by decide, by decide +kernel, by decide, by decide⟩
theorem mm_Md_seens : hm_MM yX12_seens cX12_seens 1 (some .int) 0 := ⟨gW_c7 153 rfl rfl, gW_c1 13 rfl rfl, by decide, by decide, by decide +kernel, by decide, by decide⟩
theorem mm_Md_spot : hm_MM yX12_spot cX12_spot 4 (some .int) 3 := ⟨gW_c7 8 rfl rfl, gW_c1 13 rfl rfl, by decide, by decide, by decide +kernel, by decide, by decide⟩
theorem mm_Md_stains : hm_MM yX12_stains cX12_stains 5 (some .int) 4 := ⟨gW_c7 173 rfl rfl, gW_c1 13 rfl rfl, by decide, by decide, by decide +kernel, by decide, by decide⟩
theorem mm_Md_stall : hm_MM yX12_stall cX12_stall 12 (some .int) 5 := ⟨gW_c7 129 rfl rfl, gW_c1 13 rfl rfl, by decide, by decide, by decide +kernel, by decide, by decide⟩
theorem mm_Md_steps : hm_MM yX12_steps cX12_steps 4 (some .int) 2 := ⟨gW_c7 145 rfl rfl, gW_c1 13 rfl rfl, by decide, by decide, by decide +kernel, by decide, by decide⟩
theorem mm_Md_stood : hm_MM yX12_stood cX12_stood 10 (some .int) 6 := ⟨gW_c7 189 rfl rfl, gW_c1 13 rfl rfl, by decide, by decide, by decide +kernel, by decide, by decide⟩
theorem mm_Md_sums : hm_MM yX12_sums cX12_sums 3 none 1 := ⟨gW_c6 177 rfl rfl, gW_c1 13 rfl rfl, by decide, by decide, by decide +kernel, by decide, by decide⟩
theorem mm_Md_takeAfter : hm_MM yX12_takeAfter cX12_takeAfter 4 (some .int) 3 := ⟨gW_c6 145 rfl rfl, gW_c1 13 rfl rfl, by decide, by decide, by decide +kernel, by decide, by decide⟩
theorem mm_Md_takeNumber : hm_MM yX12_takeNumber cX12_takeNumber 3 (some .int) 2 := ⟨gW_c6 129 rfl rfl, gW_c1 13 rfl rfl, by decide, by decide, by decide +kernel, by decide, by decide⟩
theorem mm_Md_takePart : hm_MM yX12_takePart cX12_takePart 4 none 1 := ⟨gW_c6 185 rfl rfl, gW_c1 13 rfl rfl, by decide, by decide, by decide +kernel, by decide, by decide⟩
theorem mm_Md_takeSign : hm_MM yX12_takeSign cX12_takeSign 2 none 1 := ⟨gW_c6 205 rfl rfl, gW_c1 13 rfl rfl, by decide, by decide, by decide +kernel, by decide, by decide⟩
theorem mm_Md_takeWord : hm_MM yX12_takeWord cX12_takeWord 2 none 1 := ⟨gW_c6 149 rfl rfl, gW_c1 13 rfl rfl, by decide, by decide, by decide +kernel, by decide, by decide⟩
theorem mm_Md_test : hm_MM yX12_test cX12_test 3 none 1 := ⟨gW_c6 173 rfl rfl, gW_c1 13 rfl rfl, by decide, by decide, by decide +kernel, by decide, by decide⟩
theorem mm_Md_thrown : hm_MM yX12_thrown cX12_thrown 1 (some .int) 0 := ⟨gW_c5 183 rfl rfl, gW_c1 13 rfl rfl, by decide, by decide, by decide +kernel, by decide, by decide⟩
theorem mm_Md_tries : hm_MM yX12_tries cX12_tries 5 none 2 := ⟨gW_c7 93 rfl rfl, gW_c1 13 rfl rfl, by decide, by decide, by decide +kernel, by decide, by decide⟩
theorem mm_Md_undo : hm_MM yX12_undo cX12_undo 1 (some .boolean) 0 := ⟨gW_c7 125 rfl rfl, gW_c1 13 rfl rfl, by decide, by decide, by decide +kernel, by decide, by decide⟩
theorem mm_Md_when : hm_MM yX12_when cX12_when 7 (some .int) 1 := ⟨gW_c7 169 rfl rfl, gW_c1 13 rfl rfl, by decide, by decide, by decide +kernel, by decide, by decide⟩
theorem mm_Md_within : hm_MM yX12_within cX12_within 3 (some .boolean) 3 := ⟨gW_c6 220 rfl rfl, gW_c1 13 rfl rfl, by decide, by decide, by decide +kernel, by decide, by decide⟩
theorem mm_Md_worth : hm_MM yX12_worth cX12_worth 3 (some .int) 2 := ⟨gW_c7 66 rfl rfl, gW_c1 13 rfl rfl, by decide, by decide, by decide +kernel, by decide, by decide⟩
theorem mm_Md_worthAt : hm_MM yX12_worthAt cX12_worthAt 5 (some .int) 1 := ⟨gW_c7 23 rfl rfl, gW_c1 13 rfl rfl, by decide, by decide, by decide +kernel, by decide, by decide⟩
theorem mm_Md_worthOf : hm_MM yX12_worthOf cX12_worthOf 3 (some .int) 2 := ⟨gW_c7 70 rfl rfl, gW_c1 13 rfl rfl, by decide, by decide, by decide +kernel, by decide, by decide⟩
theorem mm_Md_wrong : hm_MM yX12_wrong cX12_wrong 2 none 1 := ⟨gW_c6 125 rfl rfl, gW_c1 13 rfl rfl, by decide, by decide, by decide +kernel, by decide, by decide⟩
theorem mm_Md_yields : hm_MM yX12_yields cX12_yields 2 (some .int) 1 := ⟨gW_c7 42 rfl rfl, gW_c1 13 rfl rfl, by decide, by decide, by decide +kernel, by decide, by decide⟩
theorem mm_History_forget : hm_MM yX1_forget cX1_forget 1 none 0 := ⟨gW_c3 203 rfl rfl, gW_c1 8 rfl rfl, by decide, by decide, by decide +kernel, by decide, by decide⟩
theorem mm_History_init : hm_MM yX1_init cX1_init 1 none 0 := ⟨gW_c2 34 rfl rfl, gW_c1 8 rfl rfl, by decide, by decide, by decide +kernel, by decide, by decide⟩
theorem mm_History_note : hm_MM yX1_note cX1_note 3 none 2 := ⟨gW_c4 175 rfl rfl, gW_c1 8 rfl rfl, by decide, by decide, by decide +kernel, by decide, by decide⟩
theorem mm_History_takeBack : hm_MM yX1_takeBack cX1_takeBack 2 (some .boolean) 1 := ⟨gW_c4 211 rfl rfl, gW_c1 8 rfl rfl, by decide, by decide, by decide +kernel, by decide, by decide⟩
theorem mm_Hold_begin : hm_MM yX2_begin cX2_begin 3 none 1 := ⟨gW_c3 199 rfl rfl, gW_c1 7 rfl rfl, by decide, by decide, by decide +kernel, by decide, by decide⟩
theorem mm_Hold_copy : hm_MM yX2_copy cX2_copy 3 none 1 := ⟨gW_c5 98 rfl rfl, gW_c1 7 rfl rfl, by decide, by decide, by decide +kernel, by decide, by decide⟩
theorem mm_Hold_init : hm_MM yX2_init cX2_init 2 none 0 := ⟨gW_c2 2 rfl rfl, gW_c1 7 rfl rfl, by decide, by decide, by decide +kernel, by decide, by decide⟩
theorem mm_Hold_isBroken : hm_MM yX2_isBroken cX2_isBroken 2 (some .boolean) 1 := ⟨gW_c3 231 rfl rfl, gW_c1 7 rfl rfl, by decide, by decide, by decide +kernel, by decide, by decide⟩
theorem mm_Hold_keepSeen : hm_MM yX2_keepSeen cX2_keepSeen 3 (some .int) 2 := ⟨gW_c5 18 rfl rfl, gW_c1 7 rfl rfl, by decide, by decide, by decide +kernel, by decide, by decide⟩
theorem mm_Hold_lit : hm_MM yX2_lit cX2_lit 1 (some .int) 0 := ⟨gW_c4 50 rfl rfl, gW_c1 7 rfl rfl, by decide, by decide, by decide +kernel, by decide, by decide⟩
theorem mm_Hold_ownersOf : hm_MM yX2_ownersOf cX2_ownersOf 4 (some .int) 1 := ⟨gW_c4 58 rfl rfl, gW_c1 7 rfl rfl, by decide, by decide, by decide +kernel, by decide, by decide⟩
theorem mm_Hold_panesOf : hm_MM yX2_panesOf cX2_panesOf 4 (some .int) 1 := ⟨gW_c3 219 rfl rfl, gW_c1 7 rfl rfl, by decide, by decide, by decide +kernel, by decide, by decide⟩
theorem mm_Hold_swap : hm_MM yX2_swap cX2_swap 4 none 2 := ⟨gW_c4 171 rfl rfl, gW_c1 7 rfl rfl, by decide, by decide, by decide +kernel, by decide, by decide⟩
theorem mm_Hold_turn : hm_MM yX2_turn cX2_turn 2 none 1 := ⟨gW_c4 184 rfl rfl, gW_c1 7 rfl rfl, by decide, by decide, by decide +kernel, by decide, by decide⟩
theorem mm_Laws_add : hm_MM yX3_add cX3_add 2 none 1 := ⟨gW_c3 180 rfl rfl, gW_c1 5 rfl rfl, by decide, by decide, by decide +kernel, by decide, by decide⟩
theorem mm_Laws_begin : hm_MM yX3_begin cX3_begin 2 none 0 := ⟨gW_c1 116 rfl rfl, gW_c1 5 rfl rfl, by decide, by decide, by decide +kernel, by decide, by decide⟩
theorem mm_Laws_close : hm_MM yX3_close cX3_close 2 none 1 := ⟨gW_c3 184 rfl rfl, gW_c1 5 rfl rfl, by decide, by decide, by decide +kernel, by decide, by decide⟩
theorem mm_Laws_init : hm_MM yX3_init cX3_init 1 none 0 := ⟨gW_c1 86 rfl rfl, gW_c1 5 rfl rfl, by decide, by decide, by decide +kernel, by decide, by decide⟩
theorem mm_Laws_isFact : hm_MM yX3_isFact cX3_isFact 1 (some .boolean) 1 := ⟨gW_c4 25 rfl rfl, gW_c1 5 rfl rfl, by decide, by decide, by decide +kernel, by decide, by decide⟩
theorem mm_Laws_isLaw : hm_MM yX3_isLaw cX3_isLaw 1 (some .boolean) 1 := ⟨gW_c3 145 rfl rfl, gW_c1 5 rfl rfl, by decide, by decide, by decide +kernel, by decide, by decide⟩
theorem mm_Laws_joined : hm_MM yX3_joined cX3_joined 3 (some .int) 3 := ⟨gW_c4 28 rfl rfl, gW_c1 5 rfl rfl, by decide, by decide, by decide +kernel, by decide, by decide⟩
theorem mm_Laws_lookAtPane : hm_MM yX3_lookAtPane cX3_lookAtPane 3 none 2 := ⟨gW_c4 32 rfl rfl, gW_c1 5 rfl rfl, by decide, by decide, by decide +kernel, by decide, by decide⟩
theorem mm_Laws_lookAtSpot : hm_MM yX3_lookAtSpot cX3_lookAtSpot 3 none 2 := ⟨gW_c4 104 rfl rfl, gW_c1 5 rfl rfl, by decide, by decide, by decide +kernel, by decide, by decide⟩
theorem mm_Laws_open : hm_MM yX3_open cX3_open 2 none 1 := ⟨gW_c3 142 rfl rfl, gW_c1 5 rfl rfl, by decide, by decide, by decide +kernel, by decide, by decide⟩
theorem mm_Laws_turnTo : hm_MM yX3_turnTo cX3_turnTo 2 none 1 := ⟨gW_c4 9 rfl rfl, gW_c1 5 rfl rfl, by decide, by decide, by decide +kernel, by decide, by decide⟩
theorem mm_Laws_valueOf : hm_MM yX3_valueOf cX3_valueOf 7 (some .int) 1 := ⟨gW_c4 18 rfl rfl, gW_c1 5 rfl rfl, by decide, by decide, by decide +kernel, by decide, by decide⟩
theorem mm_Laws_valueUntold : hm_MM yX3_valueUntold cX3_valueUntold 3 (some .int) 1 := ⟨gW_c4 22 rfl rfl, gW_c1 5 rfl rfl, by decide, by decide, by decide +kernel, by decide, by decide⟩
theorem mm_Light_colourOn : hm_MM yX4_colourOn cX4_colourOn 3 (some .int) 2 := ⟨gW_c5 30 rfl rfl, gW_c1 6 rfl rfl, by decide, by decide, by decide +kernel, by decide, by decide⟩
theorem mm_Light_enter : hm_MM yX4_enter cX4_enter 3 (some (.object "PaneSpots$Chapel")) 1 := ⟨gW_c3 192 rfl rfl, gW_c1 6 rfl rfl, by decide, by decide, by decide +kernel, by decide, by decide⟩
theorem mm_Light_init : hm_MM yX4_init cX4_init 1 none 0 := ⟨gW_c1 215 rfl rfl, gW_c1 6 rfl rfl, by decide, by decide, by decide +kernel, by decide, by decide⟩
theorem mm_Light_panesOn : hm_MM yX4_panesOn cX4_panesOn 5 (some .int) 2 := ⟨gW_c4 54 rfl rfl, gW_c1 6 rfl rfl, by decide, by decide, by decide +kernel, by decide, by decide⟩
theorem mm_Light_placesOf : hm_MM yX4_placesOf cX4_placesOf 5 (some .long) 1 := ⟨gW_c4 231 rfl rfl, gW_c1 6 rfl rfl, by decide, by decide, by decide +kernel, by decide, by decide⟩
theorem mm_Light_shine : hm_MM yX4_shine cX4_shine 13 none 1 := ⟨gW_c4 14 rfl rfl, gW_c1 6 rfl rfl, by decide, by decide, by decide +kernel, by decide, by decide⟩
theorem mm_Light_turnTo : hm_MM yX4_turnTo cX4_turnTo 7 none 1 := ⟨gW_c4 5 rfl rfl, gW_c1 6 rfl rfl, by decide, by decide, by decide +kernel, by decide, by decide⟩
theorem mm_Reader_init : hm_MM yX5_init cX5_init 1 none 0 := ⟨gW_c1 39 rfl rfl, gW_c1 2 rfl rfl, by decide, by decide, by decide +kernel, by decide, by decide⟩
theorem mm_Reader_isFactOf : hm_MM yX5_isFactOf cX5_isFactOf 2 (some .boolean) 2 := ⟨gW_c3 176 rfl rfl, gW_c1 2 rfl rfl, by decide, by decide, by decide +kernel, by decide, by decide⟩
theorem mm_Reader_readAll : hm_MM yX5_readAll cX5_readAll 3 (some .int) 0 := ⟨gW_c2 181 rfl rfl, gW_c1 2 rfl rfl, by decide, by decide, by decide +kernel, by decide, by decide⟩
theorem mm_Reader_readCloud : hm_MM yX5_readCloud cX5_readCloud 2 (some .int) 0 := ⟨gW_c3 188 rfl rfl, gW_c1 2 rfl rfl, by decide, by decide, by decide +kernel, by decide, by decide⟩
theorem mm_Reader_readE : hm_MM yX5_readE cX5_readE 5 (some .int) 1 := ⟨gW_c3 149 rfl rfl, gW_c1 2 rfl rfl, by decide, by decide, by decide +kernel, by decide, by decide⟩
theorem mm_Reader_readFloor : hm_MM yX5_readFloor cX5_readFloor 2 (some .int) 0 := ⟨gW_c3 89 rfl rfl, gW_c1 2 rfl rfl, by decide, by decide, by decide +kernel, by decide, by decide⟩
theorem mm_Reader_readGuild : hm_MM yX5_readGuild cX5_readGuild 3 (some .int) 0 := ⟨gW_c3 106 rfl rfl, gW_c1 2 rfl rfl, by decide, by decide, by decide +kernel, by decide, by decide⟩
theorem mm_Reader_readLaw : hm_MM yX5_readLaw cX5_readLaw 2 (some .int) 0 := ⟨gW_c3 138 rfl rfl, gW_c1 2 rfl rfl, by decide, by decide, by decide +kernel, by decide, by decide⟩
theorem mm_Reader_readLine : hm_MM yX5_readLine cX5_readLine 1 (some .int) 0 := ⟨gW_c3 85 rfl rfl, gW_c1 2 rfl rfl, by decide, by decide, by decide +kernel, by decide, by decide⟩
theorem mm_Reader_readPane : hm_MM yX5_readPane cX5_readPane 3 (some .int) 0 := ⟨gW_c3 122 rfl rfl, gW_c1 2 rfl rfl, by decide, by decide, by decide +kernel, by decide, by decide⟩
theorem mm_Reader_readPart : hm_MM yX5_readPart cX5_readPart 5 (some .int) 1 := ⟨gW_c3 165 rfl rfl, gW_c1 2 rfl rfl, by decide, by decide, by decide +kernel, by decide, by decide⟩
theorem mm_Reader_readProduct : hm_MM yX5_readProduct cX5_readProduct 4 (some .int) 1 := ⟨gW_c3 161 rfl rfl, gW_c1 2 rfl rfl, by decide, by decide, by decide +kernel, by decide, by decide⟩
theorem mm_Reader_readSum : hm_MM yX5_readSum cX5_readSum 5 (some .int) 1 := ⟨gW_c3 157 rfl rfl, gW_c1 2 rfl rfl, by decide, by decide, by decide +kernel, by decide, by decide⟩
theorem mm_Reader_readTest : hm_MM yX5_readTest cX5_readTest 4 (some .int) 1 := ⟨gW_c3 153 rfl rfl, gW_c1 2 rfl rfl, by decide, by decide, by decide +kernel, by decide, by decide⟩
theorem mm_Reader_startsPart : hm_MM yX5_startsPart cX5_startsPart 1 (some .boolean) 0 := ⟨gW_c3 169 rfl rfl, gW_c1 2 rfl rfl, by decide, by decide, by decide +kernel, by decide, by decide⟩
theorem mm_Reader_take : hm_MM yX5_take cX5_take 2 (some .int) 1 := ⟨gW_c3 102 rfl rfl, gW_c1 2 rfl rfl, by decide, by decide, by decide +kernel, by decide, by decide⟩
theorem mm_Reader_takeGiver : hm_MM yX5_takeGiver cX5_takeGiver 3 (some .int) 1 := ⟨gW_c3 134 rfl rfl, gW_c1 2 rfl rfl, by decide, by decide, by decide +kernel, by decide, by decide⟩
theorem mm_Reader_takeNewName : hm_MM yX5_takeNewName cX5_takeNewName 2 (some .int) 1 := ⟨gW_c3 110 rfl rfl, gW_c1 2 rfl rfl, by decide, by decide, by decide +kernel, by decide, by decide⟩
theorem mm_Reader_takeNumber : hm_MM yX5_takeNumber cX5_takeNumber 3 (some .int) 2 := ⟨gW_c3 98 rfl rfl, gW_c1 2 rfl rfl, by decide, by decide, by decide +kernel, by decide, by decide⟩
theorem mm_Reader_takeOnce : hm_MM yX5_takeOnce cX5_takeOnce 2 (some .int) 0 := ⟨gW_c3 93 rfl rfl, gW_c1 2 rfl rfl, by decide, by decide, by decide +kernel, by decide, by decide⟩
theorem mm_Reader_takeRow : hm_MM yX5_takeRow cX5_takeRow 3 (some .int) 1 := ⟨gW_c3 126 rfl rfl, gW_c1 2 rfl rfl, by decide, by decide, by decide +kernel, by decide, by decide⟩
theorem mm_Rents_cloudedYear : hm_MM yX6_cloudedYear cX6_cloudedYear 4 (some .int) 3 := ⟨gW_c5 179 rfl rfl, gW_c1 9 rfl rfl, by decide, by decide, by decide +kernel, by decide, by decide⟩
theorem mm_Rents_fall : hm_MM yX6_fall cX6_fall 9 none 2 := ⟨gW_c4 192 rfl rfl, gW_c1 9 rfl rfl, by decide, by decide, by decide +kernel, by decide, by decide⟩
theorem mm_Rents_forget : hm_MM yX6_forget cX6_forget 1 none 0 := ⟨gW_c3 207 rfl rfl, gW_c1 9 rfl rfl, by decide, by decide, by decide +kernel, by decide, by decide⟩
theorem mm_Rents_gainOf : hm_MM yX6_gainOf cX6_gainOf 10 (some .int) 5 := ⟨gW_c4 139 rfl rfl, gW_c1 9 rfl rfl, by decide, by decide, by decide +kernel, by decide, by decide⟩
theorem mm_Rents_given : hm_MM yX6_given cX6_given 3 (some .int) 2 := ⟨gW_c4 110 rfl rfl, gW_c1 9 rfl rfl, by decide, by decide, by decide +kernel, by decide, by decide⟩
theorem mm_Rents_givenBy : hm_MM yX6_givenBy cX6_givenBy 5 (some .int) 2 := ⟨gW_c4 118 rfl rfl, gW_c1 9 rfl rfl, by decide, by decide, by decide +kernel, by decide, by decide⟩
theorem mm_Rents_init : hm_MM yX6_init cX6_init 1 none 0 := ⟨gW_c2 54 rfl rfl, gW_c1 9 rfl rfl, by decide, by decide, by decide +kernel, by decide, by decide⟩
theorem mm_Rents_measure : hm_MM yX6_measure cX6_measure 9 none 5 := ⟨gW_c4 85 rfl rfl, gW_c1 9 rfl rfl, by decide, by decide, by decide +kernel, by decide, by decide⟩
theorem mm_Rents_partOf : hm_MM yX6_partOf cX6_partOf 4 (some .int) 3 := ⟨gW_c4 100 rfl rfl, gW_c1 9 rfl rfl, by decide, by decide, by decide +kernel, by decide, by decide⟩
theorem mm_Rents_shareOut : hm_MM yX6_shareOut cX6_shareOut 9 none 3 := ⟨gW_c4 95 rfl rfl, gW_c1 9 rfl rfl, by decide, by decide, by decide +kernel, by decide, by decide⟩
theorem mm_Rents_worthTo : hm_MM yX6_worthTo cX6_worthTo 5 (some .int) 4 := ⟨gW_c4 127 rfl rfl, gW_c1 9 rfl rfl, by decide, by decide, by decide +kernel, by decide, by decide⟩
theorem mm_Rents_yearOf : hm_MM yX6_yearOf cX6_yearOf 4 (some .int) 2 := ⟨gW_c4 80 rfl rfl, gW_c1 9 rfl rfl, by decide, by decide, by decide +kernel, by decide, by decide⟩
theorem mm_Tape_add : hm_MM yX7_add cX7_add 5 none 1 := ⟨gW_c2 170 rfl rfl, gW_c1 3 rfl rfl, by decide, by decide, by decide +kernel, by decide, by decide⟩
theorem mm_Tape_init : hm_MM yX7_init cX7_init 1 none 0 := ⟨gW_c1 45 rfl rfl, gW_c1 3 rfl rfl, by decide, by decide, by decide +kernel, by decide, by decide⟩
theorem mm_Tape_isBlank : hm_MM yX7_isBlank cX7_isBlank 1 (some .boolean) 1 := ⟨gW_c2 193 rfl rfl, gW_c1 3 rfl rfl, by decide, by decide, by decide +kernel, by decide, by decide⟩
theorem mm_Tape_isDigit : hm_MM yX7_isDigit cX7_isDigit 1 (some .boolean) 1 := ⟨gW_c3 17 rfl rfl, gW_c1 3 rfl rfl, by decide, by decide, by decide +kernel, by decide, by decide⟩
theorem mm_Tape_isFact : hm_MM yX7_isFact cX7_isFact 1 (some .boolean) 0 := ⟨gW_c3 173 rfl rfl, gW_c1 3 rfl rfl, by decide, by decide, by decide +kernel, by decide, by decide⟩
theorem mm_Tape_isFed : hm_MM yX7_isFed cX7_isFed 1 (some .boolean) 1 := ⟨gW_c2 173 rfl rfl, gW_c1 3 rfl rfl, by decide, by decide, by decide +kernel, by decide, by decide⟩
theorem mm_Tape_isLetter : hm_MM yX7_isLetter cX7_isLetter 1 (some .boolean) 1 := ⟨gW_c2 196 rfl rfl, gW_c1 3 rfl rfl, by decide, by decide, by decide +kernel, by decide, by decide⟩
theorem mm_Tape_isName : hm_MM yX7_isName cX7_isName 1 (some .boolean) 0 := ⟨gW_c3 114 rfl rfl, gW_c1 3 rfl rfl, by decide, by decide, by decide +kernel, by decide, by decide⟩
theorem mm_Tape_kindOfWord : hm_MM yX7_kindOfWord cX7_kindOfWord 6 (some .int) 0 := ⟨gW_c2 205 rfl rfl, gW_c1 3 rfl rfl, by decide, by decide, by decide +kernel, by decide, by decide⟩
theorem mm_Tape_next : hm_MM yX7_next cX7_next 1 none 0 := ⟨gW_c2 190 rfl rfl, gW_c1 3 rfl rfl, by decide, by decide, by decide +kernel, by decide, by decide⟩
theorem mm_Tape_nextNumber : hm_MM yX7_nextNumber cX7_nextNumber 1 none 0 := ⟨gW_c3 21 rfl rfl, gW_c1 3 rfl rfl, by decide, by decide, by decide +kernel, by decide, by decide⟩
theorem mm_Tape_nextWord : hm_MM yX7_nextWord cX7_nextWord 1 none 0 := ⟨gW_c2 200 rfl rfl, gW_c1 3 rfl rfl, by decide, by decide, by decide +kernel, by decide, by decide⟩
theorem mm_Tape_rewind : hm_MM yX7_rewind cX7_rewind 1 none 0 := ⟨gW_c2 186 rfl rfl, gW_c1 3 rfl rfl, by decide, by decide, by decide +kernel, by decide, by decide⟩
theorem mm_Trade_choose : hm_MM yX8_choose cX8_choose 6 none 1 := ⟨gW_c4 159 rfl rfl, gW_c1 10 rfl rfl, by decide, by decide, by decide +kernel, by decide, by decide⟩
theorem mm_Trade_init : hm_MM yX8_init cX8_init 1 none 0 := ⟨gW_c2 77 rfl rfl, gW_c1 10 rfl rfl, by decide, by decide, by decide +kernel, by decide, by decide⟩
theorem mm_Trade_leastPartner : hm_MM yX8_leastPartner cX8_leastPartner 7 (some .int) 4 := ⟨gW_c4 163 rfl rfl, gW_c1 10 rfl rfl, by decide, by decide, by decide +kernel, by decide, by decide⟩
theorem mm_Trade_mostWith : hm_MM yX8_mostWith cX8_mostWith 6 (some .int) 2 := ⟨gW_c4 154 rfl rfl, gW_c1 10 rfl rfl, by decide, by decide, by decide +kernel, by decide, by decide⟩
theorem mm_Trade_settle : hm_MM yX8_settle cX8_settle 9 none 4 := ⟨gW_c4 148 rfl rfl, gW_c1 10 rfl rfl, by decide, by decide, by decide +kernel, by decide, by decide⟩
theorem mm_Walk_go : hm_MM yX9_go cX9_go 11 none 7 := ⟨gW_c5 56 rfl rfl, gW_c1 12 rfl rfl, by decide, by decide, by decide +kernel, by decide, by decide⟩
theorem mm_Walk_init : hm_MM yX9_init cX9_init 1 none 0 := ⟨gW_c2 119 rfl rfl, gW_c1 12 rfl rfl, by decide, by decide, by decide +kernel, by decide, by decide⟩
theorem mm_Walk_keepColoured : hm_MM yX9_keepColoured cX9_keepColoured 9 none 6 := ⟨gW_c5 60 rfl rfl, gW_c1 12 rfl rfl, by decide, by decide, by decide +kernel, by decide, by decide⟩
theorem mm_Walk_meet : hm_MM yX9_meet cX9_meet 7 none 6 := ⟨gW_c5 78 rfl rfl, gW_c1 12 rfl rfl, by decide, by decide, by decide +kernel, by decide, by decide⟩
theorem mm_Walk_passes : hm_MM yX9_passes cX9_passes 2 (some .boolean) 1 := ⟨gW_c5 86 rfl rfl, gW_c1 12 rfl rfl, by decide, by decide, by decide +kernel, by decide, by decide⟩
theorem mm_Walk_rowsOf : hm_MM yX9_rowsOf cX9_rowsOf 8 (some .int) 5 := ⟨gW_c5 52 rfl rfl, gW_c1 12 rfl rfl, by decide, by decide, by decide +kernel, by decide, by decide⟩
theorem mm_Walk_waysAround : hm_MM yX9_waysAround cX9_waysAround 3 (some .int) 2 := ⟨gW_c5 67 rfl rfl, gW_c1 12 rfl rfl, by decide, by decide, by decide +kernel, by decide, by decide⟩
theorem mi_Chapel_begin : hm_MI yX0_begin := ⟨gW_c1 110 rfl rfl, gW_c1 111 rfl rfl⟩
theorem mi_Chapel_colourOf : hm_MI yX0_colourOf := ⟨gW_c4 60 rfl rfl, gW_c4 61 rfl rfl⟩
theorem mi_Chapel_guildNamed : hm_MI yX0_guildNamed := ⟨gW_c3 116 rfl rfl, gW_c3 117 rfl rfl⟩
theorem mi_Chapel_hasPaneAt : hm_MI yX0_hasPaneAt := ⟨gW_c3 128 rfl rfl, gW_c3 129 rfl rfl⟩
theorem mi_Chapel_hasPlace : hm_MI yX0_hasPlace := ⟨gW_c4 34 rfl rfl, gW_c4 35 rfl rfl⟩
theorem mi_Way_find : hm_MI yX10_find := ⟨gW_c4 219 rfl rfl, gW_c4 220 rfl rfl⟩
theorem mi_Way_lookAhead : hm_MI yX10_lookAhead := ⟨gW_c4 234 rfl rfl, gW_p3 4 0 rfl⟩
theorem mi_Way_nextFrom : hm_MI yX10_nextFrom := ⟨gW_c4 238 rfl rfl, gW_p3 4 1 rfl⟩
theorem mi_Way_stepsOver : hm_MI yX10_stepsOver := ⟨gW_c5 3 rfl rfl, gW_p3 4 2 rfl⟩
theorem mi_Ps_canExchange : hm_MI yX11_canExchange := ⟨gW_c4 134 rfl rfl, gW_p2 10 12 rfl⟩
theorem mi_Ps_candlesAt : hm_MI yX11_candlesAt := ⟨gW_c5 25 rfl rfl, gW_p3 10 3 rfl⟩
theorem mi_Ps_isGuild : hm_MI yX11_isGuild := ⟨gW_c3 214 rfl rfl, gW_p2 10 5 rfl⟩
theorem mi_Ps_isPane : hm_MI yX11_isPane := ⟨gW_c3 226 rfl rfl, gW_p2 10 6 rfl⟩
theorem mi_Ps_isStained : hm_MI yX11_isStained := ⟨gW_c5 47 rfl rfl, gW_p3 10 4 rfl⟩
theorem mi_Ps_ownersOnAll : hm_MI yX11_ownersOnAll := ⟨gW_c5 89 rfl rfl, gW_p3 10 7 rfl⟩
theorem mi_Ps_ownersOnSome : hm_MI yX11_ownersOnSome := ⟨gW_c5 81 rfl rfl, gW_p3 10 6 rfl⟩
theorem mi_Ps_yearNow : hm_MI yX11_yearNow := ⟨gW_c4 75 rfl rfl, gW_p2 10 9 rfl⟩
theorem mi_Md_addsYields : hm_MI yX12_addsYields := ⟨gW_c7 49 rfl rfl, gW_p6 35 0 rfl⟩
theorem mi_Md_all : hm_MI yX12_all := ⟨gW_c6 168 rfl rfl, gW_p4 35 9 rfl⟩
theorem mi_Md_areUnlike : hm_MI yX12_areUnlike := ⟨gW_c7 80 rfl rfl, gW_p6 35 4 rfl⟩
theorem mi_Md_canStain : hm_MI yX12_canStain := ⟨gW_c7 176 rfl rfl, gW_p6 35 15 rfl⟩
theorem mi_Md_candlesAt : hm_MI yX12_candlesAt := ⟨gW_c7 164 rfl rfl, gW_p6 35 14 rfl⟩
theorem mi_Md_copies : hm_MI yX12_copies := ⟨gW_c7 104 rfl rfl, gW_p6 35 8 rfl⟩
theorem mi_Md_cutAll : hm_MI yX12_cutAll := ⟨gW_c6 93 rfl rfl, gW_p3 35 10 rfl⟩
theorem mi_Md_draw : hm_MI yX12_draw := ⟨gW_c7 196 rfl rfl, gW_p7 35 2 rfl⟩
theorem mi_Md_emit : hm_MI yX12_emit := ⟨gW_c6 196 rfl rfl, gW_p5 35 0 rfl⟩
theorem mi_Md_factHere : hm_MI yX12_factHere := ⟨gW_c6 188 rfl rfl, gW_p4 35 14 rfl⟩
theorem mi_Md_find : hm_MI yX12_find := ⟨gW_c6 140 rfl rfl, gW_p4 35 2 rfl⟩
theorem mi_Md_findFalls : hm_MI yX12_findFalls := ⟨gW_c7 116 rfl rfl, gW_p6 35 9 rfl⟩
theorem mi_Md_findLight : hm_MI yX12_findLight := ⟨gW_c7 14 rfl rfl, gW_p5 35 10 rfl⟩
theorem mi_Md_findMay : hm_MI yX12_findMay := ⟨gW_c7 132 rfl rfl, gW_p6 35 10 rfl⟩
theorem mi_Md_findStains : hm_MI yX12_findStains := ⟨gW_c7 180 rfl rfl, gW_p7 35 0 rfl⟩
theorem mi_Md_findYields : hm_MI yX12_findYields := ⟨gW_c7 45 rfl rfl, gW_p5 35 15 rfl⟩
theorem mi_Md_gainOf : hm_MI yX12_gainOf := ⟨gW_c7 84 rfl rfl, gW_p6 35 5 rfl⟩
theorem mi_Md_guilds : hm_MI yX12_guilds := ⟨gW_c6 216 rfl rfl, gW_p5 35 4 rfl⟩
theorem mi_Md_hasSign : hm_MI yX12_hasSign := ⟨gW_c6 200 rfl rfl, gW_p5 35 1 rfl⟩
theorem mi_Md_hasWord : hm_MI yX12_hasWord := ⟨gW_c6 152 rfl rfl, gW_p4 35 5 rfl⟩
theorem mi_Md_isBroken : hm_MI yX12_isBroken := ⟨gW_c6 239 rfl rfl, gW_p5 35 8 rfl⟩
theorem mi_Md_isDark : hm_MI yX12_isDark := ⟨gW_c7 18 rfl rfl, gW_p5 35 11 rfl⟩
theorem mi_Md_isGuild : hm_MI yX12_isGuild := ⟨gW_c6 212 rfl rfl, gW_p5 35 3 rfl⟩
theorem mi_Md_isName : hm_MI yX12_isName := ⟨gW_c6 136 rfl rfl, gW_p4 35 1 rfl⟩
theorem mi_Md_isOn : hm_MI yX12_isOn := ⟨gW_c7 29 rfl rfl, gW_p5 35 13 rfl⟩
theorem mi_Md_isPane : hm_MI yX12_isPane := ⟨gW_c6 235 rfl rfl, gW_p5 35 7 rfl⟩
theorem mi_Md_isPlace : hm_MI yX12_isPlace := ⟨gW_c7 136 rfl rfl, gW_p6 35 11 rfl⟩
theorem mi_Md_isSign : hm_MI yX12_isSign := ⟨gW_c6 192 rfl rfl, gW_p4 35 15 rfl⟩
theorem mi_Md_isWord : hm_MI yX12_isWord := ⟨gW_c6 116 rfl rfl, gW_p3 35 12 rfl⟩
theorem mi_Md_keeps : hm_MI yX12_keeps := ⟨gW_c7 100 rfl rfl, gW_p6 35 7 rfl⟩
theorem mi_Md_lay : hm_MI yX12_lay := ⟨gW_c5 190 rfl rfl, gW_p3 35 9 rfl⟩
theorem mi_Md_leastFrom : hm_MI yX12_leastFrom := ⟨gW_c7 141 rfl rfl, gW_p6 35 12 rfl⟩
theorem mi_Md_lightAt : hm_MI yX12_lightAt := ⟨gW_c7 37 rfl rfl, gW_p5 35 14 rfl⟩
theorem mi_Md_near : hm_MI yX12_near := ⟨gW_c7 184 rfl rfl, gW_p7 35 1 rfl⟩
theorem mi_Md_ownerOf : hm_MI yX12_ownerOf := ⟨gW_c6 227 rfl rfl, gW_p5 35 6 rfl⟩
theorem mi_Md_paneOf : hm_MI yX12_paneOf := ⟨gW_c7 3 rfl rfl, gW_p5 35 9 rfl⟩
theorem mi_Md_panes : hm_MI yX12_panes := ⟨gW_c6 223 rfl rfl, gW_p5 35 5 rfl⟩
theorem mi_Md_products : hm_MI yX12_products := ⟨gW_c6 180 rfl rfl, gW_p4 35 12 rfl⟩
theorem mi_Md_readCloud : hm_MI yX12_readCloud := ⟨gW_c6 160 rfl rfl, gW_p4 35 7 rfl⟩
theorem mi_Md_readFloor : hm_MI yX12_readFloor := ⟨gW_c6 120 rfl rfl, gW_p3 35 13 rfl⟩
theorem mi_Md_readGuild : hm_MI yX12_readGuild := ⟨gW_c6 132 rfl rfl, gW_p4 35 0 rfl⟩
theorem mi_Md_readLaw : hm_MI yX12_readLaw := ⟨gW_c6 164 rfl rfl, gW_p4 35 8 rfl⟩
theorem mi_Md_readLine : hm_MI yX12_readLine := ⟨gW_c6 112 rfl rfl, gW_p3 35 11 rfl⟩
theorem mi_Md_readPane : hm_MI yX12_readPane := ⟨gW_c6 156 rfl rfl, gW_p4 35 6 rfl⟩
theorem mi_Md_rentAt : hm_MI yX12_rentAt := ⟨gW_c7 53 rfl rfl, gW_p6 35 1 rfl⟩
theorem mi_Md_rentsOf : hm_MI yX12_rentsOf := ⟨gW_c7 61 rfl rfl, gW_p6 35 2 rfl⟩
theorem mi_Md_seens : hm_MI yX12_seens := ⟨gW_c7 152 rfl rfl, gW_p6 35 13 rfl⟩
theorem mi_Md_sums : hm_MI yX12_sums := ⟨gW_c6 176 rfl rfl, gW_p4 35 11 rfl⟩
theorem mi_Md_takeAfter : hm_MI yX12_takeAfter := ⟨gW_c6 144 rfl rfl, gW_p4 35 3 rfl⟩
theorem mi_Md_takeNumber : hm_MI yX12_takeNumber := ⟨gW_c6 128 rfl rfl, gW_p3 35 15 rfl⟩
theorem mi_Md_takePart : hm_MI yX12_takePart := ⟨gW_c6 184 rfl rfl, gW_p4 35 13 rfl⟩
theorem mi_Md_takeSign : hm_MI yX12_takeSign := ⟨gW_c6 204 rfl rfl, gW_p5 35 2 rfl⟩
theorem mi_Md_takeWord : hm_MI yX12_takeWord := ⟨gW_c6 148 rfl rfl, gW_p4 35 4 rfl⟩
theorem mi_Md_test : hm_MI yX12_test := ⟨gW_c6 172 rfl rfl, gW_p4 35 10 rfl⟩
theorem mi_Md_tries : hm_MI yX12_tries := ⟨gW_c7 92 rfl rfl, gW_p6 35 6 rfl⟩
theorem mi_Md_worthAt : hm_MI yX12_worthAt := ⟨gW_c7 22 rfl rfl, gW_p5 35 12 rfl⟩
theorem mi_Md_worthOf : hm_MI yX12_worthOf := ⟨gW_c7 69 rfl rfl, gW_p6 35 3 rfl⟩
theorem mi_Md_wrong : hm_MI yX12_wrong := ⟨gW_c6 124 rfl rfl, gW_p3 35 14 rfl⟩
theorem mi_History_forget : hm_MI yX1_forget := ⟨gW_c3 201 rfl rfl, gW_c3 202 rfl rfl⟩
theorem mi_History_note : hm_MI yX1_note := ⟨gW_c4 173 rfl rfl, gW_c4 174 rfl rfl⟩
theorem mi_History_takeBack : hm_MI yX1_takeBack := ⟨gW_c4 209 rfl rfl, gW_c4 210 rfl rfl⟩
theorem mi_Hold_begin : hm_MI yX2_begin := ⟨gW_c3 197 rfl rfl, gW_c3 198 rfl rfl⟩
theorem mi_Hold_copy : hm_MI yX2_copy := ⟨gW_c5 96 rfl rfl, gW_c5 97 rfl rfl⟩
theorem mi_Hold_isBroken : hm_MI yX2_isBroken := ⟨gW_c3 229 rfl rfl, gW_c3 230 rfl rfl⟩
theorem mi_Hold_keepSeen : hm_MI yX2_keepSeen := ⟨gW_c5 16 rfl rfl, gW_c5 17 rfl rfl⟩
theorem mi_Hold_lit : hm_MI yX2_lit := ⟨gW_c4 48 rfl rfl, gW_c4 49 rfl rfl⟩
theorem mi_Hold_ownersOf : hm_MI yX2_ownersOf := ⟨gW_c4 56 rfl rfl, gW_c4 57 rfl rfl⟩
theorem mi_Hold_panesOf : hm_MI yX2_panesOf := ⟨gW_c3 217 rfl rfl, gW_c3 218 rfl rfl⟩
theorem mi_Hold_swap : hm_MI yX2_swap := ⟨gW_c4 169 rfl rfl, gW_c4 170 rfl rfl⟩
theorem mi_Hold_turn : hm_MI yX2_turn := ⟨gW_c4 182 rfl rfl, gW_c4 183 rfl rfl⟩
theorem mi_Laws_add : hm_MI yX3_add := ⟨gW_c3 178 rfl rfl, gW_c3 179 rfl rfl⟩
theorem mi_Laws_begin : hm_MI yX3_begin := ⟨gW_c1 114 rfl rfl, gW_c1 115 rfl rfl⟩
theorem mi_Laws_close : hm_MI yX3_close := ⟨gW_c3 182 rfl rfl, gW_c3 183 rfl rfl⟩
theorem mi_Laws_lookAtPane : hm_MI yX3_lookAtPane := ⟨gW_c4 30 rfl rfl, gW_c4 31 rfl rfl⟩
theorem mi_Laws_lookAtSpot : hm_MI yX3_lookAtSpot := ⟨gW_c4 102 rfl rfl, gW_c4 103 rfl rfl⟩
theorem mi_Laws_open : hm_MI yX3_open := ⟨gW_c3 140 rfl rfl, gW_c3 141 rfl rfl⟩
theorem mi_Laws_turnTo : hm_MI yX3_turnTo := ⟨gW_c4 7 rfl rfl, gW_c4 8 rfl rfl⟩
theorem mi_Laws_valueOf : hm_MI yX3_valueOf := ⟨gW_c4 16 rfl rfl, gW_c4 17 rfl rfl⟩
theorem mi_Laws_valueUntold : hm_MI yX3_valueUntold := ⟨gW_c4 21 rfl rfl, gW_p2 6 8 rfl⟩
theorem mi_Light_colourOn : hm_MI yX4_colourOn := ⟨gW_c5 28 rfl rfl, gW_c5 29 rfl rfl⟩
theorem mi_Light_enter : hm_MI yX4_enter := ⟨gW_c3 190 rfl rfl, gW_c3 191 rfl rfl⟩
theorem mi_Light_panesOn : hm_MI yX4_panesOn := ⟨gW_c4 52 rfl rfl, gW_c4 53 rfl rfl⟩
theorem mi_Light_placesOf : hm_MI yX4_placesOf := ⟨gW_c4 229 rfl rfl, gW_c4 230 rfl rfl⟩
theorem mi_Light_shine : hm_MI yX4_shine := ⟨gW_c4 13 rfl rfl, gW_p2 4 7 rfl⟩
theorem mi_Light_turnTo : hm_MI yX4_turnTo := ⟨gW_c4 3 rfl rfl, gW_c4 4 rfl rfl⟩
theorem mi_Reader_readAll : hm_MI yX5_readAll := ⟨gW_c2 179 rfl rfl, gW_c2 180 rfl rfl⟩
theorem mi_Reader_readCloud : hm_MI yX5_readCloud := ⟨gW_c3 187 rfl rfl, gW_p2 5 4 rfl⟩
theorem mi_Reader_readE : hm_MI yX5_readE := ⟨gW_c3 148 rfl rfl, gW_p1 5 14 rfl⟩
theorem mi_Reader_readFloor : hm_MI yX5_readFloor := ⟨gW_c3 88 rfl rfl, gW_p1 5 4 rfl⟩
theorem mi_Reader_readGuild : hm_MI yX5_readGuild := ⟨gW_c3 105 rfl rfl, gW_p1 5 8 rfl⟩
theorem mi_Reader_readLaw : hm_MI yX5_readLaw := ⟨gW_c3 137 rfl rfl, gW_p1 5 13 rfl⟩
theorem mi_Reader_readLine : hm_MI yX5_readLine := ⟨gW_c3 84 rfl rfl, gW_p1 5 3 rfl⟩
theorem mi_Reader_readPane : hm_MI yX5_readPane := ⟨gW_c3 121 rfl rfl, gW_p1 5 10 rfl⟩
theorem mi_Reader_readPart : hm_MI yX5_readPart := ⟨gW_c3 164 rfl rfl, gW_p2 5 2 rfl⟩
theorem mi_Reader_readProduct : hm_MI yX5_readProduct := ⟨gW_c3 160 rfl rfl, gW_p2 5 1 rfl⟩
theorem mi_Reader_readSum : hm_MI yX5_readSum := ⟨gW_c3 156 rfl rfl, gW_p2 5 0 rfl⟩
theorem mi_Reader_readTest : hm_MI yX5_readTest := ⟨gW_c3 152 rfl rfl, gW_p1 5 15 rfl⟩
theorem mi_Reader_startsPart : hm_MI yX5_startsPart := ⟨gW_c3 168 rfl rfl, gW_p2 5 3 rfl⟩
theorem mi_Reader_take : hm_MI yX5_take := ⟨gW_c3 101 rfl rfl, gW_p1 5 7 rfl⟩
theorem mi_Reader_takeGiver : hm_MI yX5_takeGiver := ⟨gW_c3 133 rfl rfl, gW_p1 5 12 rfl⟩
theorem mi_Reader_takeNewName : hm_MI yX5_takeNewName := ⟨gW_c3 109 rfl rfl, gW_p1 5 9 rfl⟩
theorem mi_Reader_takeNumber : hm_MI yX5_takeNumber := ⟨gW_c3 97 rfl rfl, gW_p1 5 6 rfl⟩
theorem mi_Reader_takeOnce : hm_MI yX5_takeOnce := ⟨gW_c3 92 rfl rfl, gW_p1 5 5 rfl⟩
theorem mi_Reader_takeRow : hm_MI yX5_takeRow := ⟨gW_c3 125 rfl rfl, gW_p1 5 11 rfl⟩
theorem mi_Rents_fall : hm_MI yX6_fall := ⟨gW_c4 190 rfl rfl, gW_c4 191 rfl rfl⟩
theorem mi_Rents_forget : hm_MI yX6_forget := ⟨gW_c3 205 rfl rfl, gW_c3 206 rfl rfl⟩
theorem mi_Rents_gainOf : hm_MI yX6_gainOf := ⟨gW_c4 137 rfl rfl, gW_c4 138 rfl rfl⟩
theorem mi_Rents_given : hm_MI yX6_given := ⟨gW_c4 108 rfl rfl, gW_c4 109 rfl rfl⟩
theorem mi_Rents_givenBy : hm_MI yX6_givenBy := ⟨gW_c4 116 rfl rfl, gW_c4 117 rfl rfl⟩
theorem mi_Rents_measure : hm_MI yX6_measure := ⟨gW_c4 84 rfl rfl, gW_p2 5 10 rfl⟩
theorem mi_Rents_shareOut : hm_MI yX6_shareOut := ⟨gW_c4 94 rfl rfl, gW_p2 5 11 rfl⟩
theorem mi_Rents_worthTo : hm_MI yX6_worthTo := ⟨gW_c4 125 rfl rfl, gW_c4 126 rfl rfl⟩
theorem mi_Rents_yearOf : hm_MI yX6_yearOf := ⟨gW_c4 78 rfl rfl, gW_c4 79 rfl rfl⟩
theorem mi_Tape_add : hm_MI yX7_add := ⟨gW_c2 168 rfl rfl, gW_c2 169 rfl rfl⟩
theorem mi_Tape_isFact : hm_MI yX7_isFact := ⟨gW_c3 171 rfl rfl, gW_c3 172 rfl rfl⟩
theorem mi_Tape_isName : hm_MI yX7_isName := ⟨gW_c3 112 rfl rfl, gW_c3 113 rfl rfl⟩
theorem mi_Tape_kindOfWord : hm_MI yX7_kindOfWord := ⟨gW_c2 204 rfl rfl, gW_p1 7 1 rfl⟩
theorem mi_Tape_next : hm_MI yX7_next := ⟨gW_c2 188 rfl rfl, gW_c2 189 rfl rfl⟩
theorem mi_Tape_nextNumber : hm_MI yX7_nextNumber := ⟨gW_c3 20 rfl rfl, gW_p1 7 2 rfl⟩
theorem mi_Tape_nextWord : hm_MI yX7_nextWord := ⟨gW_c2 199 rfl rfl, gW_p1 7 0 rfl⟩
theorem mi_Tape_rewind : hm_MI yX7_rewind := ⟨gW_c2 184 rfl rfl, gW_c2 185 rfl rfl⟩
theorem mi_Trade_choose : hm_MI yX8_choose := ⟨gW_c4 158 rfl rfl, gW_p2 4 14 rfl⟩
theorem mi_Trade_leastPartner : hm_MI yX8_leastPartner := ⟨gW_c4 162 rfl rfl, gW_p2 4 15 rfl⟩
theorem mi_Trade_mostWith : hm_MI yX8_mostWith := ⟨gW_c4 153 rfl rfl, gW_p2 4 13 rfl⟩
theorem mi_Trade_settle : hm_MI yX8_settle := ⟨gW_c4 146 rfl rfl, gW_c4 147 rfl rfl⟩
theorem mi_Walk_go : hm_MI yX9_go := ⟨gW_c5 55 rfl rfl, gW_p3 3 5 rfl⟩
theorem mi_Walk_meet : hm_MI yX9_meet := ⟨gW_c5 76 rfl rfl, gW_c5 77 rfl rfl⟩
theorem mi_Walk_passes : hm_MI yX9_passes := ⟨gW_c5 84 rfl rfl, gW_c5 85 rfl rfl⟩
theorem mi_Walk_rowsOf : hm_MI yX9_rowsOf := ⟨gW_c5 50 rfl rfl, gW_c5 51 rfl rfl⟩
theorem ms_J6_bitCount_0f7a4 : Cond.static yJ6_bitCount_0f7a4 ∈ gW := gW_c4 64 rfl rfl
theorem ms_J7_fill_53178 : Cond.static yJ7_fill_53178 ∈ gW := gW_c4 194 rfl rfl
theorem ms_J7_fill_d0a16 : Cond.static yJ7_fill_d0a16 ∈ gW := gW_c3 194 rfl rfl
theorem ms_Way_floorOf : Cond.static yX10_floorOf ∈ gW := gW_c4 224 rfl rfl
theorem ms_Ps_isTime : Cond.static yX11_isTime ∈ gW := gW_c3 237 rfl rfl
theorem ms_Ps_placeOf : Cond.static yX11_placeOf ∈ gW := gW_c4 38 rfl rfl
theorem ms_Ps_stepsBetween : Cond.static yX11_stepsBetween ∈ gW := gW_c5 6 rfl rfl
theorem ms_Ps_timeOf : Cond.static yX11_timeOf ∈ gW := gW_c4 0 rfl rfl
theorem ms_Md_bits : Cond.static yX12_bits ∈ gW := gW_c7 72 rfl rfl
theorem ms_Md_both : Cond.static yX12_both ∈ gW := gW_c7 25 rfl rfl
theorem ms_Md_isDigit : Cond.static yX12_isDigit ∈ gW := gW_c6 103 rfl rfl
theorem ms_Md_isLetter : Cond.static yX12_isLetter ∈ gW := gW_c6 96 rfl rfl
theorem ms_Md_isSignOf : Cond.static yX12_isSignOf ∈ gW := gW_c6 108 rfl rfl
theorem ms_Md_isTime : Cond.static yX12_isTime ∈ gW := gW_c7 10 rfl rfl
theorem ms_Md_rank : Cond.static yX12_rank ∈ gW := gW_c6 100 rfl rfl
theorem ms_Md_steps : Cond.static yX12_steps ∈ gW := gW_c7 144 rfl rfl
theorem ms_Md_within : Cond.static yX12_within ∈ gW := gW_c6 219 rfl rfl
theorem ms_Laws_isFact : Cond.static yX3_isFact ∈ gW := gW_c4 24 rfl rfl
theorem ms_Laws_isLaw : Cond.static yX3_isLaw ∈ gW := gW_c3 144 rfl rfl
theorem ms_Laws_joined : Cond.static yX3_joined ∈ gW := gW_c4 27 rfl rfl
theorem ms_Reader_isFactOf : Cond.static yX5_isFactOf ∈ gW := gW_c3 175 rfl rfl
theorem ms_Rents_partOf : Cond.static yX6_partOf ∈ gW := gW_c4 99 rfl rfl
theorem ms_Tape_isBlank : Cond.static yX7_isBlank ∈ gW := gW_c2 192 rfl rfl
theorem ms_Tape_isDigit : Cond.static yX7_isDigit ∈ gW := gW_c3 16 rfl rfl
theorem ms_Tape_isFed : Cond.static yX7_isFed ∈ gW := gW_c2 172 rfl rfl
theorem ms_Tape_isLetter : Cond.static yX7_isLetter ∈ gW := gW_c2 195 rfl rfl
theorem ms_Walk_keepColoured : Cond.static yX9_keepColoured ∈ gW := gW_c5 59 rfl rfl
theorem ms_Walk_waysAround : Cond.static yX9_waysAround ∈ gW := gW_c5 66 rfl rfl
theorem ml_X11_77 : Cond.methodLink RX11 77 yX7_add ∈ gW := gW_c2 167 rfl rfl
theorem ml_X11_86 : Cond.methodLink RX11 86 yX5_readAll ∈ gW := gW_c2 178 rfl rfl
theorem ml_X11_94 : Cond.methodLink RX11 94 yX4_enter ∈ gW := gW_c3 189 rfl rfl
theorem ml_X11_101 : Cond.methodLink RX11 101 yX2_begin ∈ gW := gW_c3 196 rfl rfl
theorem ml_X11_105 : Cond.methodLink RX11 105 yX1_forget ∈ gW := gW_c3 200 rfl rfl
theorem ml_X11_108 : Cond.methodLink RX11 108 yX6_forget ∈ gW := gW_c3 204 rfl rfl
theorem ml_X11_109 : Cond.methodLink RX11 109 yX11_isGuild ∈ gW := gW_c3 212 rfl rfl
theorem ml_X11_122 : Cond.methodLink RX11 122 yX2_panesOf ∈ gW := gW_c3 216 rfl rfl
theorem ml_X11_126 : Cond.methodLink RX11 126 yX11_isPane ∈ gW := gW_c3 224 rfl rfl
theorem ml_X11_141 : Cond.methodLink RX11 141 yX2_isBroken ∈ gW := gW_c3 228 rfl rfl
theorem ml_X11_144 : Cond.methodLink RX11 144 yX11_isTime ∈ gW := gW_c3 236 rfl rfl
theorem ml_X11_148 : Cond.methodLink RX11 148 yX11_timeOf ∈ gW := gW_c3 239 rfl rfl
theorem ml_X11_152 : Cond.methodLink RX11 152 yX4_turnTo ∈ gW := gW_c4 2 rfl rfl
theorem ml_X11_159 : Cond.methodLink RX11 159 yX0_hasPlace ∈ gW := gW_c4 45 rfl rfl
theorem ml_X11_162 : Cond.methodLink RX11 162 yX11_placeOf ∈ gW := gW_c4 46 rfl rfl
theorem ml_X11_165 : Cond.methodLink RX11 165 yX2_lit ∈ gW := gW_c4 47 rfl rfl
theorem ml_X11_168 : Cond.methodLink RX11 168 yX4_panesOn ∈ gW := gW_c4 51 rfl rfl
theorem ml_X11_171 : Cond.methodLink RX11 171 yX2_ownersOf ∈ gW := gW_c4 55 rfl rfl
theorem ml_X11_174 : Cond.methodLink RX11 174 yX0_colourOf ∈ gW := gW_c4 59 rfl rfl
theorem ml_X11_177 : Cond.methodLink RX11 177 yJ6_bitCount_0f7a4 ∈ gW := gW_c4 63 rfl rfl
theorem ml_X11_182 : Cond.methodLink RX11 182 yX11_yearNow ∈ gW := gW_c4 73 rfl rfl
theorem ml_X11_185 : Cond.methodLink RX11 185 yX6_given ∈ gW := gW_c4 107 rfl rfl
theorem ml_X11_188 : Cond.methodLink RX11 188 yX6_givenBy ∈ gW := gW_c4 115 rfl rfl
theorem ml_X11_191 : Cond.methodLink RX11 191 yX6_worthTo ∈ gW := gW_c4 124 rfl rfl
theorem ml_X11_195 : Cond.methodLink RX11 195 yX11_canExchange ∈ gW := gW_c4 132 rfl rfl
theorem ml_X11_198 : Cond.methodLink RX11 198 yX6_gainOf ∈ gW := gW_c4 136 rfl rfl
theorem ml_X11_202 : Cond.methodLink RX11 202 yX8_settle ∈ gW := gW_c4 145 rfl rfl
theorem ml_X11_212 : Cond.methodLink RX11 212 yX2_swap ∈ gW := gW_c4 168 rfl rfl
theorem ml_X11_216 : Cond.methodLink RX11 216 yX1_note ∈ gW := gW_c4 172 rfl rfl
theorem ml_X11_219 : Cond.methodLink RX11 219 yX2_turn ∈ gW := gW_c4 181 rfl rfl
theorem ml_X11_222 : Cond.methodLink RX11 222 yX6_fall ∈ gW := gW_c4 189 rfl rfl
theorem ml_X11_229 : Cond.methodLink RX11 229 yX1_takeBack ∈ gW := gW_c4 208 rfl rfl
theorem ml_X11_233 : Cond.methodLink RX11 233 yX10_find ∈ gW := gW_c4 218 rfl rfl
theorem ml_X11_243 : Cond.methodLink RX11 243 yX2_keepSeen ∈ gW := gW_c5 15 rfl rfl
theorem ml_X11_246 : Cond.methodLink RX11 246 yX11_candlesAt ∈ gW := gW_c5 23 rfl rfl
theorem ml_X11_252 : Cond.methodLink RX11 252 yX11_isStained ∈ gW := gW_c5 45 rfl rfl
theorem ml_X11_256 : Cond.methodLink RX11 256 yX9_rowsOf ∈ gW := gW_c5 49 rfl rfl
theorem ml_X11_260 : Cond.methodLink RX11 260 yX9_meet ∈ gW := gW_c5 75 rfl rfl
theorem ml_X11_264 : Cond.methodLink RX11 264 yX11_ownersOnSome ∈ gW := gW_c5 79 rfl rfl
theorem ml_X11_267 : Cond.methodLink RX11 267 yX11_ownersOnAll ∈ gW := gW_c5 87 rfl rfl
theorem ml_X11_284 : Cond.methodLink RX11 284 yX2_copy ∈ gW := gW_c5 95 rfl rfl
theorem ml_X11_309 : Cond.methodLink RX11 309 yX6_yearOf ∈ gW := gW_c4 77 rfl rfl
theorem ml_X11_316 : Cond.methodLink RX11 316 yX4_colourOn ∈ gW := gW_c5 27 rfl rfl
theorem ml_X11_322 : Cond.methodLink RX11 322 yX9_passes ∈ gW := gW_c5 83 rfl rfl
theorem ml_X0_41 : Cond.methodLink RX0 41 yX0_begin ∈ gW := gW_c1 109 rfl rfl
theorem ml_X0_60 : Cond.methodLink RX0 60 yX3_begin ∈ gW := gW_c1 113 rfl rfl
theorem ml_X1_31 : Cond.methodLink RX1 31 yX2_turn ∈ gW := gW_c4 212 rfl rfl
theorem ml_X1_37 : Cond.methodLink RX1 37 yX2_swap ∈ gW := gW_c4 213 rfl rfl
theorem ml_X3_31 : Cond.methodLink RX3 31 yX3_isLaw ∈ gW := gW_c3 143 rfl rfl
theorem ml_X3_37 : Cond.methodLink RX3 37 yX3_valueUntold ∈ gW := gW_c4 19 rfl rfl
theorem ml_X3_41 : Cond.methodLink RX3 41 yX3_isFact ∈ gW := gW_c4 23 rfl rfl
theorem ml_X3_44 : Cond.methodLink RX3 44 yX3_joined ∈ gW := gW_c4 26 rfl rfl
theorem ml_X4_30 : Cond.methodLink RX4 30 yJ7_fill_d0a16 ∈ gW := gW_c3 193 rfl rfl
theorem ml_X4_40 : Cond.methodLink RX4 40 yX3_turnTo ∈ gW := gW_c4 6 rfl rfl
theorem ml_X4_48 : Cond.methodLink RX4 48 yX4_shine ∈ gW := gW_c4 11 rfl rfl
theorem ml_X4_55 : Cond.methodLink RX4 55 yX3_valueOf ∈ gW := gW_c4 15 rfl rfl
theorem ml_X4_68 : Cond.methodLink RX4 68 yX3_lookAtPane ∈ gW := gW_c4 29 rfl rfl
theorem ml_X4_72 : Cond.methodLink RX4 72 yX0_hasPlace ∈ gW := gW_c4 33 rfl rfl
theorem ml_X4_80 : Cond.methodLink RX4 80 yX4_panesOn ∈ gW := gW_c5 31 rfl rfl
theorem ml_X4_83 : Cond.methodLink RX4 83 yX0_colourOf ∈ gW := gW_c5 32 rfl rfl
theorem ml_X5_35 : Cond.methodLink RX5 35 yX0_begin ∈ gW := gW_c2 182 rfl rfl
theorem ml_X5_38 : Cond.methodLink RX5 38 yX7_rewind ∈ gW := gW_c2 183 rfl rfl
theorem ml_X5_44 : Cond.methodLink RX5 44 yX5_readLine ∈ gW := gW_c3 82 rfl rfl
theorem ml_X5_54 : Cond.methodLink RX5 54 yX5_readFloor ∈ gW := gW_c3 86 rfl rfl
theorem ml_X5_57 : Cond.methodLink RX5 57 yX5_readGuild ∈ gW := gW_c3 103 rfl rfl
theorem ml_X5_60 : Cond.methodLink RX5 60 yX5_readPane ∈ gW := gW_c3 119 rfl rfl
theorem ml_X5_63 : Cond.methodLink RX5 63 yX5_readLaw ∈ gW := gW_c3 135 rfl rfl
theorem ml_X5_66 : Cond.methodLink RX5 66 yX5_readCloud ∈ gW := gW_c3 185 rfl rfl
theorem ml_X5_69 : Cond.methodLink RX5 69 yX5_takeOnce ∈ gW := gW_c3 90 rfl rfl
theorem ml_X5_72 : Cond.methodLink RX5 72 yX5_takeNumber ∈ gW := gW_c3 95 rfl rfl
theorem ml_X5_82 : Cond.methodLink RX5 82 yX5_take ∈ gW := gW_c3 99 rfl rfl
theorem ml_X5_89 : Cond.methodLink RX5 89 yX7_next ∈ gW := gW_c3 94 rfl rfl
theorem ml_X5_92 : Cond.methodLink RX5 92 yX5_takeNewName ∈ gW := gW_c3 107 rfl rfl
theorem ml_X5_102 : Cond.methodLink RX5 102 yX7_isName ∈ gW := gW_c3 111 rfl rfl
theorem ml_X5_110 : Cond.methodLink RX5 110 yX0_guildNamed ∈ gW := gW_c3 115 rfl rfl
theorem ml_X5_124 : Cond.methodLink RX5 124 yX5_takeRow ∈ gW := gW_c3 123 rfl rfl
theorem ml_X5_127 : Cond.methodLink RX5 127 yX5_takeGiver ∈ gW := gW_c3 131 rfl rfl
theorem ml_X5_136 : Cond.methodLink RX5 136 yX0_hasPaneAt ∈ gW := gW_c3 127 rfl rfl
theorem ml_X5_153 : Cond.methodLink RX5 153 yX3_open ∈ gW := gW_c3 139 rfl rfl
theorem ml_X5_159 : Cond.methodLink RX5 159 yX5_readE ∈ gW := gW_c3 146 rfl rfl
theorem ml_X5_162 : Cond.methodLink RX5 162 yX3_close ∈ gW := gW_c3 181 rfl rfl
theorem ml_X5_165 : Cond.methodLink RX5 165 yX5_readTest ∈ gW := gW_c3 150 rfl rfl
theorem ml_X5_168 : Cond.methodLink RX5 168 yX3_add ∈ gW := gW_c3 177 rfl rfl
theorem ml_X5_171 : Cond.methodLink RX5 171 yX5_readSum ∈ gW := gW_c3 154 rfl rfl
theorem ml_X5_174 : Cond.methodLink RX5 174 yX5_readProduct ∈ gW := gW_c3 158 rfl rfl
theorem ml_X5_177 : Cond.methodLink RX5 177 yX5_readPart ∈ gW := gW_c3 162 rfl rfl
theorem ml_X5_180 : Cond.methodLink RX5 180 yX5_startsPart ∈ gW := gW_c3 166 rfl rfl
theorem ml_X5_183 : Cond.methodLink RX5 183 yX7_isFact ∈ gW := gW_c3 170 rfl rfl
theorem ml_X5_186 : Cond.methodLink RX5 186 yX5_isFactOf ∈ gW := gW_c3 174 rfl rfl
theorem ml_X6_28 : Cond.methodLink RX6 28 yX6_given ∈ gW := gW_c4 119 rfl rfl
theorem ml_X6_40 : Cond.methodLink RX6 40 yJ6_bitCount_0f7a4 ∈ gW := gW_c4 97 rfl rfl
theorem ml_X6_51 : Cond.methodLink RX6 51 yX6_worthTo ∈ gW := gW_c4 140 rfl rfl
theorem ml_X6_60 : Cond.methodLink RX6 60 yX6_measure ∈ gW := gW_c4 82 rfl rfl
theorem ml_X6_83 : Cond.methodLink RX6 83 yX4_turnTo ∈ gW := gW_c4 91 rfl rfl
theorem ml_X6_87 : Cond.methodLink RX6 87 yX6_shareOut ∈ gW := gW_c4 92 rfl rfl
theorem ml_X6_94 : Cond.methodLink RX6 94 yX4_panesOn ∈ gW := gW_c4 96 rfl rfl
theorem ml_X6_101 : Cond.methodLink RX6 101 yX6_partOf ∈ gW := gW_c4 98 rfl rfl
theorem ml_X6_105 : Cond.methodLink RX6 105 yX3_lookAtSpot ∈ gW := gW_c4 101 rfl rfl
theorem ml_X6_113 : Cond.methodLink RX6 113 yX3_valueOf ∈ gW := gW_c4 105 rfl rfl
theorem ml_X6_119 : Cond.methodLink RX6 119 yJ7_fill_53178 ∈ gW := gW_c4 193 rfl rfl
theorem ml_X6_125 : Cond.methodLink RX6 125 yX2_lit ∈ gW := gW_c4 196 rfl rfl
theorem ml_X6_129 : Cond.methodLink RX6 129 yX6_yearOf ∈ gW := gW_c4 197 rfl rfl
theorem ml_X6_136 : Cond.methodLink RX6 136 yX2_panesOf ∈ gW := gW_c4 198 rfl rfl
theorem ml_X6_139 : Cond.methodLink RX6 139 yX6_givenBy ∈ gW := gW_c4 199 rfl rfl
theorem ml_X7_35 : Cond.methodLink RX7 35 yX7_isFed ∈ gW := gW_c2 171 rfl rfl
theorem ml_X7_39 : Cond.methodLink RX7 39 yX7_next ∈ gW := gW_c2 187 rfl rfl
theorem ml_X7_42 : Cond.methodLink RX7 42 yX7_isBlank ∈ gW := gW_c2 191 rfl rfl
theorem ml_X7_45 : Cond.methodLink RX7 45 yX7_isLetter ∈ gW := gW_c2 194 rfl rfl
theorem ml_X7_48 : Cond.methodLink RX7 48 yX7_nextWord ∈ gW := gW_c2 197 rfl rfl
theorem ml_X7_51 : Cond.methodLink RX7 51 yX7_isDigit ∈ gW := gW_c3 15 rfl rfl
theorem ml_X7_54 : Cond.methodLink RX7 54 yX7_nextNumber ∈ gW := gW_c3 18 rfl rfl
theorem ml_X7_67 : Cond.methodLink RX7 67 yX7_kindOfWord ∈ gW := gW_c2 202 rfl rfl
theorem ml_X8_41 : Cond.methodLink RX8 41 yX6_gainOf ∈ gW := gW_c4 150 rfl rfl
theorem ml_X8_47 : Cond.methodLink RX8 47 yX8_mostWith ∈ gW := gW_c4 151 rfl rfl
theorem ml_X8_50 : Cond.methodLink RX8 50 yX8_choose ∈ gW := gW_c4 156 rfl rfl
theorem ml_X8_57 : Cond.methodLink RX8 57 yX8_leastPartner ∈ gW := gW_c4 160 rfl rfl
theorem ml_X9_21 : Cond.methodLink RX9 21 yX9_go ∈ gW := gW_c5 53 rfl rfl
theorem ml_X9_25 : Cond.methodLink RX9 25 yJ7_fill_53178 ∈ gW := gW_c5 57 rfl rfl
theorem ml_X9_31 : Cond.methodLink RX9 31 yX9_keepColoured ∈ gW := gW_c5 58 rfl rfl
theorem ml_X9_41 : Cond.methodLink RX9 41 yX9_waysAround ∈ gW := gW_c5 65 rfl rfl
theorem ml_X9_51 : Cond.methodLink RX9 51 yX4_turnTo ∈ gW := gW_c5 61 rfl rfl
theorem ml_X9_61 : Cond.methodLink RX9 61 yX0_hasPlace ∈ gW := gW_c5 62 rfl rfl
theorem ml_X9_67 : Cond.methodLink RX9 67 yX4_colourOn ∈ gW := gW_c5 63 rfl rfl
theorem ml_X10_38 : Cond.methodLink RX10 38 yX10_floorOf ∈ gW := gW_c4 223 rfl rfl
theorem ml_X10_42 : Cond.methodLink RX10 42 yX4_turnTo ∈ gW := gW_c4 227 rfl rfl
theorem ml_X10_46 : Cond.methodLink RX10 46 yX4_placesOf ∈ gW := gW_c4 228 rfl rfl
theorem ml_X10_50 : Cond.methodLink RX10 50 yX10_lookAhead ∈ gW := gW_c4 232 rfl rfl
theorem ml_X10_54 : Cond.methodLink RX10 54 yX10_nextFrom ∈ gW := gW_c4 236 rfl rfl
theorem ml_X10_57 : Cond.methodLink RX10 57 yX10_stepsOver ∈ gW := gW_c5 1 rfl rfl
theorem ml_X10_61 : Cond.methodLink RX10 61 yX0_hasPlace ∈ gW := gW_c4 226 rfl rfl
theorem ml_X12_7 : Cond.methodLink RX12 7 yX12_lay ∈ gW := gW_c5 188 rfl rfl
theorem ml_X12_133 : Cond.methodLink RX12 133 yX12_isLetter ∈ gW := gW_c6 95 rfl rfl
theorem ml_X12_142 : Cond.methodLink RX12 142 yX12_rank ∈ gW := gW_c6 99 rfl rfl
theorem ml_X12_146 : Cond.methodLink RX12 146 yX12_isDigit ∈ gW := gW_c6 102 rfl rfl
theorem ml_X12_153 : Cond.methodLink RX12 153 yX12_isSignOf ∈ gW := gW_c6 107 rfl rfl
theorem ml_X12_162 : Cond.methodLink RX12 162 yX12_isSign ∈ gW := gW_c6 190 rfl rfl
theorem ml_X12_165 : Cond.methodLink RX12 165 yX12_wrong ∈ gW := gW_c6 122 rfl rfl
theorem ml_X12_169 : Cond.methodLink RX12 169 yX12_isWord ∈ gW := gW_c6 114 rfl rfl
theorem ml_X12_172 : Cond.methodLink RX12 172 yX12_hasWord ∈ gW := gW_c6 150 rfl rfl
theorem ml_X12_175 : Cond.methodLink RX12 175 yX12_takeWord ∈ gW := gW_c6 146 rfl rfl
theorem ml_X12_178 : Cond.methodLink RX12 178 yX12_takeNumber ∈ gW := gW_c6 126 rfl rfl
theorem ml_X12_182 : Cond.methodLink RX12 182 yX12_cutAll ∈ gW := gW_c6 91 rfl rfl
theorem ml_X12_195 : Cond.methodLink RX12 195 yX12_readLine ∈ gW := gW_c6 110 rfl rfl
theorem ml_X12_198 : Cond.methodLink RX12 198 yX12_takeSign ∈ gW := gW_c6 202 rfl rfl
theorem ml_X12_204 : Cond.methodLink RX12 204 yX12_readFloor ∈ gW := gW_c6 118 rfl rfl
theorem ml_X12_207 : Cond.methodLink RX12 207 yX12_readGuild ∈ gW := gW_c6 130 rfl rfl
theorem ml_X12_210 : Cond.methodLink RX12 210 yX12_readPane ∈ gW := gW_c6 154 rfl rfl
theorem ml_X12_213 : Cond.methodLink RX12 213 yX12_readCloud ∈ gW := gW_c6 158 rfl rfl
theorem ml_X12_216 : Cond.methodLink RX12 216 yX12_readLaw ∈ gW := gW_c6 162 rfl rfl
theorem ml_X12_219 : Cond.methodLink RX12 219 yX12_isName ∈ gW := gW_c6 134 rfl rfl
theorem ml_X12_223 : Cond.methodLink RX12 223 yX12_find ∈ gW := gW_c6 138 rfl rfl
theorem ml_X12_227 : Cond.methodLink RX12 227 yX12_takeAfter ∈ gW := gW_c6 142 rfl rfl
theorem ml_X12_234 : Cond.methodLink RX12 234 yX12_all ∈ gW := gW_c6 166 rfl rfl
theorem ml_X12_237 : Cond.methodLink RX12 237 yX12_emit ∈ gW := gW_c6 194 rfl rfl
theorem ml_X12_241 : Cond.methodLink RX12 241 yX12_test ∈ gW := gW_c6 170 rfl rfl
theorem ml_X12_244 : Cond.methodLink RX12 244 yX12_sums ∈ gW := gW_c6 174 rfl rfl
theorem ml_X12_247 : Cond.methodLink RX12 247 yX12_hasSign ∈ gW := gW_c6 198 rfl rfl
theorem ml_X12_250 : Cond.methodLink RX12 250 yX12_products ∈ gW := gW_c6 178 rfl rfl
theorem ml_X12_253 : Cond.methodLink RX12 253 yX12_takePart ∈ gW := gW_c6 182 rfl rfl
theorem ml_X12_256 : Cond.methodLink RX12 256 yX12_factHere ∈ gW := gW_c6 186 rfl rfl
theorem ml_X12_259 : Cond.methodLink RX12 259 yX12_both ∈ gW := gW_c7 24 rfl rfl
theorem ml_X12_262 : Cond.methodLink RX12 262 yX12_copies ∈ gW := gW_c7 102 rfl rfl
theorem ml_X12_266 : Cond.methodLink RX12 266 yX12_guilds ∈ gW := gW_c6 214 rfl rfl
theorem ml_X12_269 : Cond.methodLink RX12 269 yX12_panes ∈ gW := gW_c6 221 rfl rfl
theorem ml_X12_272 : Cond.methodLink RX12 272 yX12_within ∈ gW := gW_c6 218 rfl rfl
theorem ml_X12_276 : Cond.methodLink RX12 276 yX12_worthAt ∈ gW := gW_c7 20 rfl rfl
theorem ml_X12_279 : Cond.methodLink RX12 279 yX12_isDark ∈ gW := gW_c7 16 rfl rfl
theorem ml_X12_283 : Cond.methodLink RX12 283 yX12_isBroken ∈ gW := gW_c6 237 rfl rfl
theorem ml_X12_289 : Cond.methodLink RX12 289 yX12_ownerOf ∈ gW := gW_c6 225 rfl rfl
theorem ml_X12_292 : Cond.methodLink RX12 292 yX12_paneOf ∈ gW := gW_c7 1 rfl rfl
theorem ml_X12_295 : Cond.methodLink RX12 295 yX12_isOn ∈ gW := gW_c7 27 rfl rfl
theorem ml_X12_298 : Cond.methodLink RX12 298 yX12_findLight ∈ gW := gW_c7 12 rfl rfl
theorem ml_X12_301 : Cond.methodLink RX12 301 yX12_lightAt ∈ gW := gW_c7 35 rfl rfl
theorem ml_X12_304 : Cond.methodLink RX12 304 yX12_rentAt ∈ gW := gW_c7 51 rfl rfl
theorem ml_X12_308 : Cond.methodLink RX12 308 yX12_addsYields ∈ gW := gW_c7 47 rfl rfl
theorem ml_X12_311 : Cond.methodLink RX12 311 yX12_isGuild ∈ gW := gW_c6 210 rfl rfl
theorem ml_X12_314 : Cond.methodLink RX12 314 yX12_isPane ∈ gW := gW_c6 233 rfl rfl
theorem ml_X12_317 : Cond.methodLink RX12 317 yX12_isTime ∈ gW := gW_c7 9 rfl rfl
theorem ml_X12_320 : Cond.methodLink RX12 320 yX12_findYields ∈ gW := gW_c7 43 rfl rfl
theorem ml_X12_323 : Cond.methodLink RX12 323 yX12_rentsOf ∈ gW := gW_c7 59 rfl rfl
theorem ml_X12_326 : Cond.methodLink RX12 326 yX12_bits ∈ gW := gW_c7 71 rfl rfl
theorem ml_X12_329 : Cond.methodLink RX12 329 yX12_worthOf ∈ gW := gW_c7 67 rfl rfl
theorem ml_X12_332 : Cond.methodLink RX12 332 yX12_areUnlike ∈ gW := gW_c7 78 rfl rfl
theorem ml_X12_335 : Cond.methodLink RX12 335 yX12_gainOf ∈ gW := gW_c7 82 rfl rfl
theorem ml_X12_341 : Cond.methodLink RX12 341 yX12_tries ∈ gW := gW_c7 90 rfl rfl
theorem ml_X12_344 : Cond.methodLink RX12 344 yX12_keeps ∈ gW := gW_c7 98 rfl rfl
theorem ml_X12_347 : Cond.methodLink RX12 347 yX12_findFalls ∈ gW := gW_c7 114 rfl rfl
theorem ml_X12_350 : Cond.methodLink RX12 350 yX12_isPlace ∈ gW := gW_c7 134 rfl rfl
theorem ml_X12_354 : Cond.methodLink RX12 354 yX12_steps ∈ gW := gW_c7 143 rfl rfl
theorem ml_X12_357 : Cond.methodLink RX12 357 yX12_findMay ∈ gW := gW_c7 130 rfl rfl
theorem ml_X12_361 : Cond.methodLink RX12 361 yX12_leastFrom ∈ gW := gW_c7 139 rfl rfl
theorem ml_X12_364 : Cond.methodLink RX12 364 yX12_seens ∈ gW := gW_c7 150 rfl rfl
theorem ml_X12_367 : Cond.methodLink RX12 367 yX12_candlesAt ∈ gW := gW_c7 162 rfl rfl
theorem ml_X12_370 : Cond.methodLink RX12 370 yX12_near ∈ gW := gW_c7 182 rfl rfl
theorem ml_X12_374 : Cond.methodLink RX12 374 yX12_canStain ∈ gW := gW_c7 174 rfl rfl
theorem ml_X12_378 : Cond.methodLink RX12 378 yX12_findStains ∈ gW := gW_c7 178 rfl rfl
theorem ml_X12_393 : Cond.methodLink RX12 393 yX12_draw ∈ gW := gW_c7 194 rfl rfl
theorem ml_X4_76 {ad : Nat → Nat} {A : Nat → Prop} {s : State} {H : Heap} (h : hm_St ad A s H) : va_Nw (.methodLinkNest RX4 76 yX11_placeOf "PaneSpots") s := h.2.2.2.2.2.1
theorem ml_X10_68 {ad : Nat → Nat} {A : Nat → Prop} {s : State} {H : Heap} (h : hm_St ad A s H) : va_Nw (.methodLinkNest RX10 68 yX11_stepsBetween "PaneSpots") s := h.2.2.2.2.2.2.1
theorem ml_X11_304 : Cond.methodLink RX11 304 Lib.Math.abs.name ∈ gW := gW_c5 8 rfl rfl
theorem ml_X1_25 : Cond.methodLink RX1 25 Lib.Math.min.name ∈ gW := gW_c4 176 rfl rfl
theorem ml_X6_55 : Cond.methodLink RX6 55 Lib.Math.min.name ∈ gW := gW_c4 81 rfl rfl
theorem ml_X6_116 : Cond.methodLink RX6 116 Lib.Math.max.name ∈ gW := gW_c4 106 rfl rfl
theorem ml_X8_30 : Cond.methodLink RX8 30 Lib.Math.min.name ∈ gW := gW_c4 149 rfl rfl
theorem ml_X8_54 : Cond.methodLink RX8 54 Lib.Math.max.name ∈ gW := gW_c4 155 rfl rfl
theorem ml_X9_35 : Cond.methodLink RX9 35 Lib.Math.abs.name ∈ gW := gW_c5 64 rfl rfl
theorem ml_X10_26 : Cond.methodLink RX10 26 Lib.Math.min.name ∈ gW := gW_c4 222 rfl rfl
theorem cn_X10_67 : Cond.constant RX10 67 (1000000) ∈ gW := gW_c5 0 rfl rfl
theorem cn_X12_353 : Cond.constant RX12 353 (100000000) ∈ gW := gW_c7 138 rfl rfl
theorem cn_J6_265 : Cond.constant RJ6 265 (1431655765) ∈ gW := gW_c4 66 rfl rfl
theorem cn_J6_266 : Cond.constant RJ6 266 (858993459) ∈ gW := gW_c4 67 rfl rfl
theorem cn_J6_267 : Cond.constant RJ6 267 (252645135) ∈ gW := gW_c4 68 rfl rfl
theorem cl_X4_46 : Cond.constantLong RX4 46 (-9223372036854775808) ∈ gW := gW_c4 10 rfl rfl
theorem cl_X4_51 : Cond.constantLong RX4 51 (255) ∈ gW := gW_c4 40 rfl rfl
theorem cl_X6_73 : Cond.constantLong RX6 73 (1103515245) ∈ gW := gW_c4 86 rfl rfl
theorem cl_X6_75 : Cond.constantLong RX6 75 (12345) ∈ gW := gW_c4 87 rfl rfl
theorem cl_X6_77 : Cond.constantLong RX6 77 (2147483648) ∈ gW := gW_c4 88 rfl rfl
theorem cl_X6_79 : Cond.constantLong RX6 79 (65536) ∈ gW := gW_c4 89 rfl rfl
theorem cl_X6_81 : Cond.constantLong RX6 81 (8) ∈ gW := gW_c4 90 rfl rfl
theorem cl_X7_65 : Cond.constantLong RX7 65 (32) ∈ gW := gW_c2 201 rfl rfl
theorem cl_X12_34 : Cond.constantLong RX12 34 (11873910) ∈ gW := gW_c5 198 rfl rfl
theorem cl_X12_36 : Cond.constantLong RX12 36 (14195609) ∈ gW := gW_c5 199 rfl rfl
theorem cl_X12_38 : Cond.constantLong RX12 38 (22961072) ∈ gW := gW_c5 200 rfl rfl
theorem cl_X12_40 : Cond.constantLong RX12 40 (791486) ∈ gW := gW_c5 201 rfl rfl
theorem cl_X12_42 : Cond.constantLong RX12 42 (812340) ∈ gW := gW_c5 202 rfl rfl
theorem cl_X12_44 : Cond.constantLong RX12 44 (561) ∈ gW := gW_c5 203 rfl rfl
theorem cl_X12_46 : Cond.constantLong RX12 46 (236773452) ∈ gW := gW_c5 204 rfl rfl
theorem cl_X12_48 : Cond.constantLong RX12 48 (255357) ∈ gW := gW_c5 205 rfl rfl
theorem cl_X12_50 : Cond.constantLong RX12 50 (209658) ∈ gW := gW_c5 206 rfl rfl
theorem cl_X12_52 : Cond.constantLong RX12 52 (204658) ∈ gW := gW_c5 207 rfl rfl
theorem cl_X12_54 : Cond.constantLong RX12 54 (919137) ∈ gW := gW_c5 208 rfl rfl
theorem cl_X12_56 : Cond.constantLong RX12 56 (6251635) ∈ gW := gW_c5 209 rfl rfl
theorem cl_X12_58 : Cond.constantLong RX12 58 (19741) ∈ gW := gW_c5 210 rfl rfl
theorem cl_X12_60 : Cond.constantLong RX12 60 (1891) ∈ gW := gW_c5 211 rfl rfl
theorem cl_X12_62 : Cond.constantLong RX12 62 (573) ∈ gW := gW_c5 212 rfl rfl
theorem cl_X12_64 : Cond.constantLong RX12 64 (1172060) ∈ gW := gW_c5 213 rfl rfl
theorem cl_X12_66 : Cond.constantLong RX12 66 (426554) ∈ gW := gW_c5 214 rfl rfl
theorem cl_X12_68 : Cond.constantLong RX12 68 (236781366) ∈ gW := gW_c5 215 rfl rfl
theorem cl_X12_70 : Cond.constantLong RX12 70 (25220) ∈ gW := gW_c5 216 rfl rfl
theorem cl_X12_72 : Cond.constantLong RX12 72 (24) ∈ gW := gW_c5 217 rfl rfl
theorem cl_X12_74 : Cond.constantLong RX12 74 (25) ∈ gW := gW_c5 218 rfl rfl
theorem cl_X12_76 : Cond.constantLong RX12 76 (24853015) ∈ gW := gW_c5 219 rfl rfl
theorem cl_X12_140 : Cond.constantLong RX12 140 (37) ∈ gW := gW_c6 98 rfl rfl
theorem cl_X12_149 : Cond.constantLong RX12 149 (10) ∈ gW := gW_c6 105 rfl rfl
theorem cl_X12_151 : Cond.constantLong RX12 151 (48) ∈ gW := gW_c6 106 rfl rfl
theorem cl_X12_385 : Cond.constantLong RX12 385 (1103515245) ∈ gW := gW_c7 198 rfl rfl
theorem cl_X12_387 : Cond.constantLong RX12 387 (12345) ∈ gW := gW_c7 199 rfl rfl
theorem cl_X12_389 : Cond.constantLong RX12 389 (2147483648) ∈ gW := gW_c7 200 rfl rfl
theorem cl_X12_391 : Cond.constantLong RX12 391 (65536) ∈ gW := gW_c7 201 rfl rfl
theorem c8_m42 : (Int8.ofInt (-42)).toInt32 = (-42 : Int32) := by decide
theorem c8_6 : (Int8.ofInt (6)).toInt32 = (6 : Int32) := by decide
theorem c8_7 : (Int8.ofInt (7)).toInt32 = (7 : Int32) := by decide
theorem c8_8 : (Int8.ofInt (8)).toInt32 = (8 : Int32) := by decide
theorem c8_9 : (Int8.ofInt (9)).toInt32 = (9 : Int32) := by decide
theorem c8_10 : (Int8.ofInt (10)).toInt32 = (10 : Int32) := by decide
theorem c8_11 : (Int8.ofInt (11)).toInt32 = (11 : Int32) := by decide
theorem c8_12 : (Int8.ofInt (12)).toInt32 = (12 : Int32) := by decide
theorem c8_13 : (Int8.ofInt (13)).toInt32 = (13 : Int32) := by decide
theorem c8_14 : (Int8.ofInt (14)).toInt32 = (14 : Int32) := by decide
theorem c8_15 : (Int8.ofInt (15)).toInt32 = (15 : Int32) := by decide
theorem c8_16 : (Int8.ofInt (16)).toInt32 = (16 : Int32) := by decide
theorem c8_17 : (Int8.ofInt (17)).toInt32 = (17 : Int32) := by decide
theorem c8_18 : (Int8.ofInt (18)).toInt32 = (18 : Int32) := by decide
theorem c8_19 : (Int8.ofInt (19)).toInt32 = (19 : Int32) := by decide
theorem c8_20 : (Int8.ofInt (20)).toInt32 = (20 : Int32) := by decide
theorem c8_21 : (Int8.ofInt (21)).toInt32 = (21 : Int32) := by decide
theorem c8_22 : (Int8.ofInt (22)).toInt32 = (22 : Int32) := by decide
theorem c8_23 : (Int8.ofInt (23)).toInt32 = (23 : Int32) := by decide
theorem c8_24 : (Int8.ofInt (24)).toInt32 = (24 : Int32) := by decide
theorem c8_32 : (Int8.ofInt (32)).toInt32 = (32 : Int32) := by decide
theorem c8_40 : (Int8.ofInt (40)).toInt32 = (40 : Int32) := by decide
theorem c8_41 : (Int8.ofInt (41)).toInt32 = (41 : Int32) := by decide
theorem c8_42 : (Int8.ofInt (42)).toInt32 = (42 : Int32) := by decide
theorem c8_43 : (Int8.ofInt (43)).toInt32 = (43 : Int32) := by decide
theorem c8_45 : (Int8.ofInt (45)).toInt32 = (45 : Int32) := by decide
theorem c8_48 : (Int8.ofInt (48)).toInt32 = (48 : Int32) := by decide
theorem c8_51 : (Int8.ofInt (51)).toInt32 = (51 : Int32) := by decide
theorem c8_52 : (Int8.ofInt (52)).toInt32 = (52 : Int32) := by decide
theorem c8_56 : (Int8.ofInt (56)).toInt32 = (56 : Int32) := by decide
theorem c8_57 : (Int8.ofInt (57)).toInt32 = (57 : Int32) := by decide
theorem c8_59 : (Int8.ofInt (59)).toInt32 = (59 : Int32) := by decide
theorem c8_60 : (Int8.ofInt (60)).toInt32 = (60 : Int32) := by decide
theorem c8_61 : (Int8.ofInt (61)).toInt32 = (61 : Int32) := by decide
theorem c8_63 : (Int8.ofInt (63)).toInt32 = (63 : Int32) := by decide
theorem c8_64 : (Int8.ofInt (64)).toInt32 = (64 : Int32) := by decide
theorem c8_65 : (Int8.ofInt (65)).toInt32 = (65 : Int32) := by decide
theorem c8_66 : (Int8.ofInt (66)).toInt32 = (66 : Int32) := by decide
theorem c8_67 : (Int8.ofInt (67)).toInt32 = (67 : Int32) := by decide
theorem c8_68 : (Int8.ofInt (68)).toInt32 = (68 : Int32) := by decide
theorem c8_80 : (Int8.ofInt (80)).toInt32 = (80 : Int32) := by decide
theorem c8_81 : (Int8.ofInt (81)).toInt32 = (81 : Int32) := by decide
theorem c8_82 : (Int8.ofInt (82)).toInt32 = (82 : Int32) := by decide
theorem c8_83 : (Int8.ofInt (83)).toInt32 = (83 : Int32) := by decide
theorem c8_84 : (Int8.ofInt (84)).toInt32 = (84 : Int32) := by decide
theorem c8_85 : (Int8.ofInt (85)).toInt32 = (85 : Int32) := by decide
theorem c8_96 : (Int8.ofInt (96)).toInt32 = (96 : Int32) := by decide
theorem c8_97 : (Int8.ofInt (97)).toInt32 = (97 : Int32) := by decide
theorem c8_122 : (Int8.ofInt (122)).toInt32 = (122 : Int32) := by decide
theorem c8_126 : (Int8.ofInt (126)).toInt32 = (126 : Int32) := by decide
theorem c16_m140 : (Int16.ofInt (-140)).toInt32 = (-140 : Int32) := by decide
theorem c16_128 : (Int16.ofInt (128)).toInt32 = (128 : Int32) := by decide
theorem c16_130 : (Int16.ofInt (130)).toInt32 = (130 : Int32) := by decide
theorem c16_131 : (Int16.ofInt (131)).toInt32 = (131 : Int32) := by decide
theorem c16_133 : (Int16.ofInt (133)).toInt32 = (133 : Int32) := by decide
theorem c16_134 : (Int16.ofInt (134)).toInt32 = (134 : Int32) := by decide
theorem c16_135 : (Int16.ofInt (135)).toInt32 = (135 : Int32) := by decide
theorem c16_136 : (Int16.ofInt (136)).toInt32 = (136 : Int32) := by decide
theorem c16_137 : (Int16.ofInt (137)).toInt32 = (137 : Int32) := by decide
theorem c16_138 : (Int16.ofInt (138)).toInt32 = (138 : Int32) := by decide
theorem c16_140 : (Int16.ofInt (140)).toInt32 = (140 : Int32) := by decide
theorem c16_141 : (Int16.ofInt (141)).toInt32 = (141 : Int32) := by decide
theorem c16_142 : (Int16.ofInt (142)).toInt32 = (142 : Int32) := by decide
theorem c16_143 : (Int16.ofInt (143)).toInt32 = (143 : Int32) := by decide
theorem c16_144 : (Int16.ofInt (144)).toInt32 = (144 : Int32) := by decide
theorem c16_145 : (Int16.ofInt (145)).toInt32 = (145 : Int32) := by decide
theorem c16_146 : (Int16.ofInt (146)).toInt32 = (146 : Int32) := by decide
theorem c16_149 : (Int16.ofInt (149)).toInt32 = (149 : Int32) := by decide
theorem c16_150 : (Int16.ofInt (150)).toInt32 = (150 : Int32) := by decide
theorem c16_160 : (Int16.ofInt (160)).toInt32 = (160 : Int32) := by decide
theorem c16_204 : (Int16.ofInt (204)).toInt32 = (204 : Int32) := by decide
theorem c16_255 : (Int16.ofInt (255)).toInt32 = (255 : Int32) := by decide
theorem c16_384 : (Int16.ofInt (384)).toInt32 = (384 : Int32) := by decide
theorem c16_999 : (Int16.ofInt (999)).toInt32 = (999 : Int32) := by decide
theorem c16_1000 : (Int16.ofInt (1000)).toInt32 = (1000 : Int32) := by decide
theorem c16_1002 : (Int16.ofInt (1002)).toInt32 = (1002 : Int32) := by decide
theorem c16_1100 : (Int16.ofInt (1100)).toInt32 = (1100 : Int32) := by decide
theorem c16_1248 : (Int16.ofInt (1248)).toInt32 = (1248 : Int32) := by decide
theorem c16_1536 : (Int16.ofInt (1536)).toInt32 = (1536 : Int32) := by decide
theorem c16_2200 : (Int16.ofInt (2200)).toInt32 = (2200 : Int32) := by decide
theorem c16_2496 : (Int16.ofInt (2496)).toInt32 = (2496 : Int32) := by decide
theorem c16_4096 : (Int16.ofInt (4096)).toInt32 = (4096 : Int32) := by decide
theorem c16_9999 : (Int16.ofInt (9999)).toInt32 = (9999 : Int32) := by decide
theorem c32_m8 : Int32.ofInt (-8) = (-8 : Int32) := by decide
theorem c32_m1 : Int32.ofInt (-1) = (-1 : Int32) := by decide
theorem c32_0 : Int32.ofInt (0) = (0 : Int32) := by decide
theorem c32_1 : Int32.ofInt (1) = (1 : Int32) := by decide
theorem c32_2 : Int32.ofInt (2) = (2 : Int32) := by decide
theorem c32_3 : Int32.ofInt (3) = (3 : Int32) := by decide
theorem c32_4 : Int32.ofInt (4) = (4 : Int32) := by decide
theorem c32_5 : Int32.ofInt (5) = (5 : Int32) := by decide
