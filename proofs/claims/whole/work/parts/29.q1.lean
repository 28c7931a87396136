/-! by program: the resolved layer is right -/
set_option maxRecDepth 100000 in
set_option maxHeartbeats 4000000 in
theorem q_J6_bitCount_0f7a4 {c : Nat} (hc : isChap c) {v0 : Int32} {N : hn} : f_J6_bitCount_0f7a4 S0 v0 (N.1, N.2, rT c) = em c (F_J6_bitCount_0f7a4 c v0 N) := by
  unfold f_J6_bitCount_0f7a4 F_J6_bitCount_0f7a4
  (simp only [hl_n, hl_wI, hl_wL, hl_cp, em_s, em_n, em_g, em_i, em_l, em_b, em_v, emv_s, emv_n, emv_g, emv_i, emv_l, emv_b, emv_v, hb_em, hv_em, hg_T, ne_eq, not_false_eq_true, nz_c, S0_c, S0_lw, S0_h, isHold_36, hc, hc.d, hc.l, hc.d.l, nz_1, nz_2, nz_3, nz_4, nz_5, nz_6, nz_7, nz_8]) <;> rfl
set_option maxRecDepth 100000 in
set_option maxHeartbeats 4000000 in
theorem r_J7_fill_53178_1 {c : Nat} (hc : isChap c) {k5 : Nat → Int32 → Int32 → Int32 → hm_M → Option hm_M} {K5 : Nat → Int32 → Int32 → Int32 → hn → Option hn} (hk5 : ∀ (v0 : Nat) (v1 : Int32) (v2 : Int32) (v3 : Int32) (N : hn), k5 v0 v1 v2 v3 (N.1, N.2, rT c) = emv c (K5 v0 v1 v2 v3 N)) {v0 : Nat} {v1 : Int32} {v2 : Int32} {v3 : Int32} {N : hn} : b_J7_fill_53178_1 S0 k5 v0 v1 v2 v3 (N.1, N.2, rT c) = emv c (B_J7_fill_53178_1 c K5 v0 v1 v2 v3 N) := by
  unfold b_J7_fill_53178_1 B_J7_fill_53178_1
  (simp only [hl_n, hl_wI, hl_wL, hl_cp, em_s, em_n, em_g, em_i, em_l, em_b, em_v, emv_s, emv_n, emv_g, emv_i, emv_l, emv_b, emv_v, hb_em, hv_em, hg_T, ne_eq, not_false_eq_true, nz_c, S0_c, S0_lw, S0_h, isHold_36, hc, hc.d, hc.l, hc.d.l, nz_1, nz_2, nz_3, nz_4, nz_5, nz_6, nz_7, nz_8, hk5]) <;> rfl
theorem q_J7_fill_53178_1 {c : Nat} (hc : isChap c) : ∀ (n : Nat) (v0 : Nat) (v1 : Int32) (v2 : Int32) (v3 : Int32) (N : hn), f_J7_fill_53178_1 S0 n v0 v1 v2 v3 (N.1, N.2, rT c) = emv c (F_J7_fill_53178_1 c n v0 v1 v2 v3 N) := by
  intro n
  induction n with
  | zero => intros; rfl
  | succ n ih => intro v0 v1 v2 v3 N ; exact r_J7_fill_53178_1 hc  ih 
set_option maxRecDepth 100000 in
set_option maxHeartbeats 4000000 in
theorem q_J7_fill_53178 {c : Nat} (hc : isChap c) {v0 : Nat} {v1 : Int32} {N : hn} : f_J7_fill_53178 S0 v0 v1 (N.1, N.2, rT c) = emv c (F_J7_fill_53178 c v0 v1 N) := by
  unfold f_J7_fill_53178 F_J7_fill_53178
  (simp only [hl_n, hl_wI, hl_wL, hl_cp, em_s, em_n, em_g, em_i, em_l, em_b, em_v, emv_s, emv_n, emv_g, emv_i, emv_l, emv_b, emv_v, hb_em, hv_em, hg_T, ne_eq, not_false_eq_true, nz_c, S0_c, S0_lw, S0_h, isHold_36, hc, hc.d, hc.l, hc.d.l, nz_1, nz_2, nz_3, nz_4, nz_5, nz_6, nz_7, nz_8, q_J7_fill_53178_1 hc]) <;> rfl
set_option maxRecDepth 100000 in
set_option maxHeartbeats 4000000 in
theorem r_J7_fill_d0a16_1 {c : Nat} (hc : isChap c) {k6 : Nat → Int64 → Int32 → Int32 → hm_M → Option hm_M} {K6 : Nat → Int64 → Int32 → Int32 → hn → Option hn} (hk6 : ∀ (v0 : Nat) (v1 : Int64) (v3 : Int32) (v4 : Int32) (N : hn), k6 v0 v1 v3 v4 (N.1, N.2, rT c) = emv c (K6 v0 v1 v3 v4 N)) {v0 : Nat} {v1 : Int64} {v3 : Int32} {v4 : Int32} {N : hn} : b_J7_fill_d0a16_1 S0 k6 v0 v1 v3 v4 (N.1, N.2, rT c) = emv c (B_J7_fill_d0a16_1 c K6 v0 v1 v3 v4 N) := by
  unfold b_J7_fill_d0a16_1 B_J7_fill_d0a16_1
  (simp only [hl_n, hl_wI, hl_wL, hl_cp, em_s, em_n, em_g, em_i, em_l, em_b, em_v, emv_s, emv_n, emv_g, emv_i, emv_l, emv_b, emv_v, hb_em, hv_em, hg_T, ne_eq, not_false_eq_true, nz_c, S0_c, S0_lw, S0_h, isHold_36, hc, hc.d, hc.l, hc.d.l, nz_1, nz_2, nz_3, nz_4, nz_5, nz_6, nz_7, nz_8, hk6]) <;> rfl
theorem q_J7_fill_d0a16_1 {c : Nat} (hc : isChap c) : ∀ (n : Nat) (v0 : Nat) (v1 : Int64) (v3 : Int32) (v4 : Int32) (N : hn), f_J7_fill_d0a16_1 S0 n v0 v1 v3 v4 (N.1, N.2, rT c) = emv c (F_J7_fill_d0a16_1 c n v0 v1 v3 v4 N) := by
  intro n
  induction n with
  | zero => intros; rfl
  | succ n ih => intro v0 v1 v3 v4 N ; exact r_J7_fill_d0a16_1 hc  ih 
set_option maxRecDepth 100000 in
set_option maxHeartbeats 4000000 in
theorem q_J7_fill_d0a16 {c : Nat} (hc : isChap c) {v0 : Nat} {v1 : Int64} {N : hn} : f_J7_fill_d0a16 S0 v0 v1 (N.1, N.2, rT c) = emv c (F_J7_fill_d0a16 c v0 v1 N) := by
  unfold f_J7_fill_d0a16 F_J7_fill_d0a16
  (simp only [hl_n, hl_wI, hl_wL, hl_cp, em_s, em_n, em_g, em_i, em_l, em_b, em_v, emv_s, emv_n, emv_g, emv_i, emv_l, emv_b, emv_v, hb_em, hv_em, hg_T, ne_eq, not_false_eq_true, nz_c, S0_c, S0_lw, S0_h, isHold_36, hc, hc.d, hc.l, hc.d.l, nz_1, nz_2, nz_3, nz_4, nz_5, nz_6, nz_7, nz_8, q_J7_fill_d0a16_1 hc]) <;> rfl
set_option maxRecDepth 100000 in
set_option maxHeartbeats 4000000 in
theorem r_Laws_begin_1 {c : Nat} (hc : isChap c) {k7 : Nat → Int32 → hm_M → Option hm_M} {K7 : Nat → Int32 → hn → Option hn} (hk7 : ∀ (v0 : Nat) (v1 : Int32) (N : hn), isLaws v0 → k7 v0 v1 (N.1, N.2, rT c) = emv c (K7 v0 v1 N)) {v0 : Nat} {v1 : Int32} (hv0 : isLaws v0) {N : hn} : b_Laws_begin_1 S0 k7 v0 v1 (N.1, N.2, rT c) = emv c (B_Laws_begin_1 c K7 v0 v1 N) := by
  unfold b_Laws_begin_1 B_Laws_begin_1
  (simp only [hl_n, hl_wI, hl_wL, hl_cp, em_s, em_n, em_g, em_i, em_l, em_b, em_v, emv_s, emv_n, emv_g, emv_i, emv_l, emv_b, emv_v, hb_em, hv_em, hg_T, ne_eq, not_false_eq_true, nz_c, S0_c, S0_lw, S0_h, isHold_36, hc, hc.d, hc.l, hc.d.l, nz_1, nz_2, nz_3, nz_4, nz_5, nz_6, nz_7, nz_8, hv0, ib_w2, ib_w3, rT_w2, rT_w3, hk7]) <;> rfl
theorem q_Laws_begin_1 {c : Nat} (hc : isChap c) : ∀ (n : Nat) (v0 : Nat) (v1 : Int32) (N : hn), isLaws v0 → f_Laws_begin_1 S0 n v0 v1 (N.1, N.2, rT c) = emv c (F_Laws_begin_1 c n v0 v1 N) := by
  intro n
  induction n with
  | zero => intros; rfl
  | succ n ih => intro v0 v1 N hv0; exact r_Laws_begin_1 hc  ih hv0
set_option maxRecDepth 100000 in
set_option maxHeartbeats 4000000 in
theorem q_Laws_begin {c : Nat} (hc : isChap c) {v0 : Nat} (hv0 : isLaws v0) {N : hn} : f_Laws_begin S0 v0 (N.1, N.2, rT c) = emv c (F_Laws_begin c v0 N) := by
  unfold f_Laws_begin F_Laws_begin
  (simp only [hl_n, hl_wI, hl_wL, hl_cp, em_s, em_n, em_g, em_i, em_l, em_b, em_v, emv_s, emv_n, emv_g, emv_i, emv_l, emv_b, emv_v, hb_em, hv_em, hg_T, ne_eq, not_false_eq_true, nz_c, S0_c, S0_lw, S0_h, isHold_36, hc, hc.d, hc.l, hc.d.l, nz_1, nz_2, nz_3, nz_4, nz_5, nz_6, nz_7, nz_8, hv0, ib_w2, ib_w3, rT_w2, rT_w3, q_Laws_begin_1 hc]) <;> rfl
set_option maxRecDepth 100000 in
set_option maxHeartbeats 4000000 in
theorem q_Chapel_begin {c : Nat} (hc : isChap c) {v0 : Nat} (hv0 : isChap v0) {N : hn} : f_Chapel_begin S0 v0 (N.1, N.2, rT c) = emv c (F_Chapel_begin c v0 N) := by
  unfold f_Chapel_begin F_Chapel_begin
  (simp only [hl_n, hl_wI, hl_wL, hl_cp, em_s, em_n, em_g, em_i, em_l, em_b, em_v, emv_s, emv_n, emv_g, emv_i, emv_l, emv_b, emv_v, hb_em, hv_em, hg_T, ne_eq, not_false_eq_true, nz_c, S0_c, S0_lw, S0_h, isHold_36, hc, hc.d, hc.l, hc.d.l, nz_1, nz_2, nz_3, nz_4, nz_5, nz_6, nz_7, nz_8, hv0, hv0.l, q_Laws_begin hc, rT_c12]) <;> rfl
set_option maxRecDepth 100000 in
set_option maxHeartbeats 4000000 in
theorem r_Chapel_colourOf_1 {c : Nat} (hc : isChap c) {k4 : Nat → Int32 → Int32 → Int32 → hm_M → Option (Int32 × hm_M)} {K4 : Nat → Int32 → Int32 → Int32 → hn → Option (Int32 × hn)} (hk4 : ∀ (v0 : Nat) (v1 : Int32) (v2 : Int32) (v3 : Int32) (N : hn), isChap v0 → k4 v0 v1 v2 v3 (N.1, N.2, rT c) = em c (K4 v0 v1 v2 v3 N)) {v0 : Nat} {v1 : Int32} {v2 : Int32} {v3 : Int32} (hv0 : isChap v0) {N : hn} : b_Chapel_colourOf_1 S0 k4 v0 v1 v2 v3 (N.1, N.2, rT c) = em c (B_Chapel_colourOf_1 c K4 v0 v1 v2 v3 N) := by
  unfold b_Chapel_colourOf_1 B_Chapel_colourOf_1
  (simp only [hl_n, hl_wI, hl_wL, hl_cp, em_s, em_n, em_g, em_i, em_l, em_b, em_v, emv_s, emv_n, emv_g, emv_i, emv_l, emv_b, emv_v, hb_em, hv_em, hg_T, ne_eq, not_false_eq_true, nz_c, S0_c, S0_lw, S0_h, isHold_36, hc, hc.d, hc.l, hc.d.l, nz_1, nz_2, nz_3, nz_4, nz_5, nz_6, nz_7, nz_8, hv0, hv0.l, ib_c11, rT_c11, hk4]) <;> rfl
theorem q_Chapel_colourOf_1 {c : Nat} (hc : isChap c) : ∀ (n : Nat) (v0 : Nat) (v1 : Int32) (v2 : Int32) (v3 : Int32) (N : hn), isChap v0 → f_Chapel_colourOf_1 S0 n v0 v1 v2 v3 (N.1, N.2, rT c) = em c (F_Chapel_colourOf_1 c n v0 v1 v2 v3 N) := by
  intro n
  induction n with
  | zero => intros; rfl
  | succ n ih => intro v0 v1 v2 v3 N hv0; exact r_Chapel_colourOf_1 hc  ih hv0
set_option maxRecDepth 100000 in
set_option maxHeartbeats 4000000 in
theorem q_Chapel_colourOf {c : Nat} (hc : isChap c) {v0 : Nat} {v1 : Int32} (hv0 : isChap v0) {N : hn} : f_Chapel_colourOf S0 v0 v1 (N.1, N.2, rT c) = em c (F_Chapel_colourOf c v0 v1 N) := by
  unfold f_Chapel_colourOf F_Chapel_colourOf
  (simp only [hl_n, hl_wI, hl_wL, hl_cp, em_s, em_n, em_g, em_i, em_l, em_b, em_v, emv_s, emv_n, emv_g, emv_i, emv_l, emv_b, emv_v, hb_em, hv_em, hg_T, ne_eq, not_false_eq_true, nz_c, S0_c, S0_lw, S0_h, isHold_36, hc, hc.d, hc.l, hc.d.l, nz_1, nz_2, nz_3, nz_4, nz_5, nz_6, nz_7, nz_8, hv0, hv0.l, ib_c11, rT_c11, q_Chapel_colourOf_1 hc]) <;> rfl
set_option maxRecDepth 100000 in
set_option maxHeartbeats 4000000 in
theorem r_Chapel_guildNamed_1 {c : Nat} (hc : isChap c) {k2 : Nat → Int64 → Int32 → hm_M → Option (Int32 × hm_M)} {K2 : Nat → Int64 → Int32 → hn → Option (Int32 × hn)} (hk2 : ∀ (v0 : Nat) (v1 : Int64) (v3 : Int32) (N : hn), isChap v0 → k2 v0 v1 v3 (N.1, N.2, rT c) = em c (K2 v0 v1 v3 N)) {v0 : Nat} {v1 : Int64} {v3 : Int32} (hv0 : isChap v0) {N : hn} : b_Chapel_guildNamed_1 S0 k2 v0 v1 v3 (N.1, N.2, rT c) = em c (B_Chapel_guildNamed_1 c K2 v0 v1 v3 N) := by
  unfold b_Chapel_guildNamed_1 B_Chapel_guildNamed_1
  (simp only [hl_n, hl_wI, hl_wL, hl_cp, em_s, em_n, em_g, em_i, em_l, em_b, em_v, emv_s, emv_n, emv_g, emv_i, emv_l, emv_b, emv_v, hb_em, hv_em, hg_T, ne_eq, not_false_eq_true, nz_c, S0_c, S0_lw, S0_h, isHold_36, hc, hc.d, hc.l, hc.d.l, nz_1, nz_2, nz_3, nz_4, nz_5, nz_6, nz_7, nz_8, hv0, hv0.l, ib_c5, rT_c5, hk2]) <;> rfl
theorem q_Chapel_guildNamed_1 {c : Nat} (hc : isChap c) : ∀ (n : Nat) (v0 : Nat) (v1 : Int64) (v3 : Int32) (N : hn), isChap v0 → f_Chapel_guildNamed_1 S0 n v0 v1 v3 (N.1, N.2, rT c) = em c (F_Chapel_guildNamed_1 c n v0 v1 v3 N) := by
  intro n
  induction n with
  | zero => intros; rfl
  | succ n ih => intro v0 v1 v3 N hv0; exact r_Chapel_guildNamed_1 hc  ih hv0
set_option maxRecDepth 100000 in
set_option maxHeartbeats 4000000 in
theorem q_Chapel_guildNamed {c : Nat} (hc : isChap c) {v0 : Nat} {v1 : Int64} (hv0 : isChap v0) {N : hn} : f_Chapel_guildNamed S0 v0 v1 (N.1, N.2, rT c) = em c (F_Chapel_guildNamed c v0 v1 N) := by
  unfold f_Chapel_guildNamed F_Chapel_guildNamed
  (simp only [hl_n, hl_wI, hl_wL, hl_cp, em_s, em_n, em_g, em_i, em_l, em_b, em_v, emv_s, emv_n, emv_g, emv_i, emv_l, emv_b, emv_v, hb_em, hv_em, hg_T, ne_eq, not_false_eq_true, nz_c, S0_c, S0_lw, S0_h, isHold_36, hc, hc.d, hc.l, hc.d.l, nz_1, nz_2, nz_3, nz_4, nz_5, nz_6, nz_7, nz_8, hv0, hv0.l, ib_c5, rT_c5, q_Chapel_guildNamed_1 hc]) <;> rfl
set_option maxRecDepth 100000 in
set_option maxHeartbeats 4000000 in
theorem r_Chapel_hasPaneAt_1 {c : Nat} (hc : isChap c) {k2 : Nat → Int32 → Int32 → Int32 → hm_M → Option (Int32 × hm_M)} {K2 : Nat → Int32 → Int32 → Int32 → hn → Option (Int32 × hn)} (hk2 : ∀ (v0 : Nat) (v1 : Int32) (v2 : Int32) (v3 : Int32) (N : hn), isChap v0 → k2 v0 v1 v2 v3 (N.1, N.2, rT c) = em c (K2 v0 v1 v2 v3 N)) {v0 : Nat} {v1 : Int32} {v2 : Int32} {v3 : Int32} (hv0 : isChap v0) {N : hn} : b_Chapel_hasPaneAt_1 S0 k2 v0 v1 v2 v3 (N.1, N.2, rT c) = em c (B_Chapel_hasPaneAt_1 c K2 v0 v1 v2 v3 N) := by
  unfold b_Chapel_hasPaneAt_1 B_Chapel_hasPaneAt_1
  (simp only [hl_n, hl_wI, hl_wL, hl_cp, em_s, em_n, em_g, em_i, em_l, em_b, em_v, emv_s, emv_n, emv_g, emv_i, emv_l, emv_b, emv_v, hb_em, hv_em, hg_T, ne_eq, not_false_eq_true, nz_c, S0_c, S0_lw, S0_h, isHold_36, hc, hc.d, hc.l, hc.d.l, nz_1, nz_2, nz_3, nz_4, nz_5, nz_6, nz_7, nz_8, hv0, hv0.l, ib_c8, ib_c9, rT_c8, rT_c9, hk2]) <;> rfl
theorem q_Chapel_hasPaneAt_1 {c : Nat} (hc : isChap c) : ∀ (n : Nat) (v0 : Nat) (v1 : Int32) (v2 : Int32) (v3 : Int32) (N : hn), isChap v0 → f_Chapel_hasPaneAt_1 S0 n v0 v1 v2 v3 (N.1, N.2, rT c) = em c (F_Chapel_hasPaneAt_1 c n v0 v1 v2 v3 N) := by
  intro n
  induction n with
  | zero => intros; rfl
  | succ n ih => intro v0 v1 v2 v3 N hv0; exact r_Chapel_hasPaneAt_1 hc  ih hv0
set_option maxRecDepth 100000 in
set_option maxHeartbeats 4000000 in
theorem q_Chapel_hasPaneAt {c : Nat} (hc : isChap c) {v0 : Nat} {v1 : Int32} {v2 : Int32} (hv0 : isChap v0) {N : hn} : f_Chapel_hasPaneAt S0 v0 v1 v2 (N.1, N.2, rT c) = em c (F_Chapel_hasPaneAt c v0 v1 v2 N) := by
  unfold f_Chapel_hasPaneAt F_Chapel_hasPaneAt
  (simp only [hl_n, hl_wI, hl_wL, hl_cp, em_s, em_n, em_g, em_i, em_l, em_b, em_v, emv_s, emv_n, emv_g, emv_i, emv_l, emv_b, emv_v, hb_em, hv_em, hg_T, ne_eq, not_false_eq_true, nz_c, S0_c, S0_lw, S0_h, isHold_36, hc, hc.d, hc.l, hc.d.l, nz_1, nz_2, nz_3, nz_4, nz_5, nz_6, nz_7, nz_8, hv0, hv0.l, ib_c8, ib_c9, rT_c8, rT_c9, q_Chapel_hasPaneAt_1 hc]) <;> rfl
set_option maxRecDepth 100000 in
set_option maxHeartbeats 4000000 in
theorem q_Chapel_hasPlace {c : Nat} (hc : isChap c) {v0 : Nat} {v1 : Int32} {v2 : Int32} (hv0 : isChap v0) {N : hn} : f_Chapel_hasPlace S0 v0 v1 v2 (N.1, N.2, rT c) = em c (F_Chapel_hasPlace c v0 v1 v2 N) := by
  unfold f_Chapel_hasPlace F_Chapel_hasPlace
  (simp only [hl_n, hl_wI, hl_wL, hl_cp, em_s, em_n, em_g, em_i, em_l, em_b, em_v, emv_s, emv_n, emv_g, emv_i, emv_l, emv_b, emv_v, hb_em, hv_em, hg_T, ne_eq, not_false_eq_true, nz_c, S0_c, S0_lw, S0_h, isHold_36, hc, hc.d, hc.l, hc.d.l, nz_1, nz_2, nz_3, nz_4, nz_5, nz_6, nz_7, nz_8, hv0, hv0.l]) <;> rfl
set_option maxRecDepth 100000 in
set_option maxHeartbeats 4000000 in
theorem r_Way_floorOf_1 {c : Nat} (hc : isChap c) {k4 : Nat → Int64 → Int32 → hm_M → Option (Int64 × hm_M)} {K4 : Nat → Int64 → Int32 → hn → Option (Int64 × hn)} (hk4 : ∀ (v0 : Nat) (v1 : Int64) (v3 : Int32) (N : hn), isChap v0 → k4 v0 v1 v3 (N.1, N.2, rT c) = em c (K4 v0 v1 v3 N)) {v0 : Nat} {v1 : Int64} {v3 : Int32} (hv0 : isChap v0) {N : hn} : b_Way_floorOf_1 S0 k4 v0 v1 v3 (N.1, N.2, rT c) = em c (B_Way_floorOf_1 c K4 v0 v1 v3 N) := by
  unfold b_Way_floorOf_1 B_Way_floorOf_1
  (simp only [hl_n, hl_wI, hl_wL, hl_cp, em_s, em_n, em_g, em_i, em_l, em_b, em_v, emv_s, emv_n, emv_g, emv_i, emv_l, emv_b, emv_v, hb_em, hv_em, hg_T, ne_eq, not_false_eq_true, nz_c, S0_c, S0_lw, S0_h, isHold_36, hc, hc.d, hc.l, hc.d.l, nz_1, nz_2, nz_3, nz_4, nz_5, nz_6, nz_7, nz_8, hv0, hv0.l, S0_51, q_Chapel_hasPlace hc, hk4]) <;> rfl
theorem q_Way_floorOf_1 {c : Nat} (hc : isChap c) : ∀ (n : Nat) (v0 : Nat) (v1 : Int64) (v3 : Int32) (N : hn), isChap v0 → f_Way_floorOf_1 S0 n v0 v1 v3 (N.1, N.2, rT c) = em c (F_Way_floorOf_1 c n v0 v1 v3 N) := by
  intro n
  induction n with
  | zero => intros; rfl
  | succ n ih => intro v0 v1 v3 N hv0; exact r_Way_floorOf_1 hc  ih hv0
set_option maxRecDepth 100000 in
set_option maxHeartbeats 4000000 in
theorem q_Way_floorOf {c : Nat} (hc : isChap c) {v0 : Nat} (hv0 : isChap v0) {N : hn} : f_Way_floorOf S0 v0 (N.1, N.2, rT c) = em c (F_Way_floorOf c v0 N) := by
  unfold f_Way_floorOf F_Way_floorOf
  (simp only [hl_n, hl_wI, hl_wL, hl_cp, em_s, em_n, em_g, em_i, em_l, em_b, em_v, emv_s, emv_n, emv_g, emv_i, emv_l, emv_b, emv_v, hb_em, hv_em, hg_T, ne_eq, not_false_eq_true, nz_c, S0_c, S0_lw, S0_h, isHold_36, hc, hc.d, hc.l, hc.d.l, nz_1, nz_2, nz_3, nz_4, nz_5, nz_6, nz_7, nz_8, hv0, hv0.l, S0_51, q_Chapel_hasPlace hc, q_Way_floorOf_1 hc]) <;> rfl
set_option maxRecDepth 100000 in
set_option maxHeartbeats 4000000 in
theorem q_Laws_turnTo {c : Nat} (hc : isChap c) {v0 : Nat} {v1 : Int32} (hv0 : isLaws v0) {N : hn} : f_Laws_turnTo S0 v0 v1 (N.1, N.2, rT c) = emv c (F_Laws_turnTo c v0 v1 N) := by
  unfold f_Laws_turnTo F_Laws_turnTo
  (simp only [hl_n, hl_wI, hl_wL, hl_cp, em_s, em_n, em_g, em_i, em_l, em_b, em_v, emv_s, emv_n, emv_g, emv_i, emv_l, emv_b, emv_v, hb_em, hv_em, hg_T, ne_eq, not_false_eq_true, nz_c, S0_c, S0_lw, S0_h, isHold_36, hc, hc.d, hc.l, hc.d.l, nz_1, nz_2, nz_3, nz_4, nz_5, nz_6, nz_7, nz_8, hv0, ib_w5, rT_w5]) <;> rfl
set_option maxRecDepth 100000 in
set_option maxHeartbeats 4000000 in
theorem q_Laws_isLaw {c : Nat} (hc : isChap c) {v0 : Int32} {N : hn} : f_Laws_isLaw S0 v0 (N.1, N.2, rT c) = em c (F_Laws_isLaw c v0 N) := by
  unfold f_Laws_isLaw F_Laws_isLaw
  (simp only [hl_n, hl_wI, hl_wL, hl_cp, em_s, em_n, em_g, em_i, em_l, em_b, em_v, emv_s, emv_n, emv_g, emv_i, emv_l, emv_b, emv_v, hb_em, hv_em, hg_T, ne_eq, not_false_eq_true, nz_c, S0_c, S0_lw, S0_h, isHold_36, hc, hc.d, hc.l, hc.d.l, nz_1, nz_2, nz_3, nz_4, nz_5, nz_6, nz_7, nz_8]) <;> rfl
set_option maxRecDepth 100000 in
set_option maxHeartbeats 4000000 in
theorem q_Laws_valueUntold {c : Nat} (hc : isChap c) {v0 : Nat} {v1 : Int32} (hv0 : isLaws v0) {N : hn} : f_Laws_valueUntold S0 v0 v1 (N.1, N.2, rT c) = em c (F_Laws_valueUntold c v0 v1 N) := by
  unfold f_Laws_valueUntold F_Laws_valueUntold
  (simp only [hl_n, hl_wI, hl_wL, hl_cp, em_s, em_n, em_g, em_i, em_l, em_b, em_v, emv_s, emv_n, emv_g, emv_i, emv_l, emv_b, emv_v, hb_em, hv_em, hg_T, ne_eq, not_false_eq_true, nz_c, S0_c, S0_lw, S0_h, isHold_36, hc, hc.d, hc.l, hc.d.l, nz_1, nz_2, nz_3, nz_4, nz_5, nz_6, nz_7, nz_8, hv0, ib_w5, rT_w5]) <;> rfl
set_option maxRecDepth 100000 in
set_option maxHeartbeats 4000000 in
theorem q_Laws_isFact {c : Nat} (hc : isChap c) {v0 : Int32} {N : hn} : f_Laws_isFact S0 v0 (N.1, N.2, rT c) = em c (F_Laws_isFact c v0 N) := by
  unfold f_Laws_isFact F_Laws_isFact
  (simp only [hl_n, hl_wI, hl_wL, hl_cp, em_s, em_n, em_g, em_i, em_l, em_b, em_v, emv_s, emv_n, emv_g, emv_i, emv_l, emv_b, emv_v, hb_em, hv_em, hg_T, ne_eq, not_false_eq_true, nz_c, S0_c, S0_lw, S0_h, isHold_36, hc, hc.d, hc.l, hc.d.l, nz_1, nz_2, nz_3, nz_4, nz_5, nz_6, nz_7, nz_8]) <;> rfl
set_option maxRecDepth 100000 in
set_option maxHeartbeats 4000000 in
theorem q_Laws_joined {c : Nat} (hc : isChap c) {v0 : Int32} {v1 : Int32} {v2 : Int32} {N : hn} : f_Laws_joined S0 v0 v1 v2 (N.1, N.2, rT c) = em c (F_Laws_joined c v0 v1 v2 N) := by
  unfold f_Laws_joined F_Laws_joined
  (simp only [hl_n, hl_wI, hl_wL, hl_cp, em_s, em_n, em_g, em_i, em_l, em_b, em_v, emv_s, emv_n, emv_g, emv_i, emv_l, emv_b, emv_v, hb_em, hv_em, hg_T, ne_eq, not_false_eq_true, nz_c, S0_c, S0_lw, S0_h, isHold_36, hc, hc.d, hc.l, hc.d.l, nz_1, nz_2, nz_3, nz_4, nz_5, nz_6, nz_7, nz_8]) <;> rfl
set_option maxRecDepth 100000 in
set_option maxHeartbeats 4000000 in
theorem q_Laws_valueOf_5 {c : Nat} (hc : isChap c) {v0 : Nat} (hv0 : isLaws v0) {N : hn} : b_Laws_valueOf_5 S0 v0 (N.1, N.2, rT c) = em c (B_Laws_valueOf_5 c v0 N) := by
  unfold b_Laws_valueOf_5 B_Laws_valueOf_5
  (simp only [hl_n, hl_wI, hl_wL, hl_cp, em_s, em_n, em_g, em_i, em_l, em_b, em_v, emv_s, emv_n, emv_g, emv_i, emv_l, emv_b, emv_v, hb_em, hv_em, hg_T, ne_eq, not_false_eq_true, nz_c, S0_c, S0_lw, S0_h, isHold_36, hc, hc.d, hc.l, hc.d.l, nz_1, nz_2, nz_3, nz_4, nz_5, nz_6, nz_7, nz_8, hv0, ib_w0, ib_w2, ib_w3, ib_w4, ib_w5, q_Laws_isFact hc, q_Laws_isLaw hc, q_Laws_joined hc, q_Laws_valueUntold hc, rT_w0, rT_w2, rT_w3, rT_w4, rT_w5]) <;> rfl
set_option maxRecDepth 100000 in
set_option maxHeartbeats 4000000 in
theorem q_Laws_valueOf_4 {c : Nat} (hc : isChap c) {k48 : Nat → Int32 → Int32 → Int32 → hm_M → Option (Int32 × hm_M)} {K48 : Nat → Int32 → Int32 → Int32 → hn → Option (Int32 × hn)} (hk48 : ∀ (v0 : Nat) (v2 : Int32) (v4 : Int32) (v5 : Int32) (N : hn), isLaws v0 → k48 v0 v2 v4 v5 (N.1, N.2, rT c) = em c (K48 v0 v2 v4 v5 N)) {v0 : Nat} {v2 : Int32} {v4 : Int32} {v5 : Int32} {s0 : Int32} {s1 : Int32} {s2 : Nat} (hv0 : isLaws v0) {N : hn} : b_Laws_valueOf_4 S0 k48 v0 v2 v4 v5 s0 s1 s2 (N.1, N.2, rT c) = em c (B_Laws_valueOf_4 c K48 v0 v2 v4 v5 s0 s1 s2 N) := by
  unfold b_Laws_valueOf_4 B_Laws_valueOf_4
  (simp only [hl_n, hl_wI, hl_wL, hl_cp, em_s, em_n, em_g, em_i, em_l, em_b, em_v, emv_s, emv_n, emv_g, emv_i, emv_l, emv_b, emv_v, hb_em, hv_em, hg_T, ne_eq, not_false_eq_true, nz_c, S0_c, S0_lw, S0_h, isHold_36, hc, hc.d, hc.l, hc.d.l, nz_1, nz_2, nz_3, nz_4, nz_5, nz_6, nz_7, nz_8, hv0, ib_w0, ib_w2, ib_w3, ib_w4, ib_w5, q_Laws_isFact hc, q_Laws_isLaw hc, q_Laws_joined hc, q_Laws_valueUntold hc, rT_w0, rT_w2, rT_w3, rT_w4, rT_w5, hk48, q_Laws_valueOf_5 hc]) <;> rfl
set_option maxRecDepth 100000 in
set_option maxHeartbeats 4000000 in
theorem q_Laws_valueOf_3 {c : Nat} (hc : isChap c) {k48 : Nat → Int32 → Int32 → Int32 → hm_M → Option (Int32 × hm_M)} {K48 : Nat → Int32 → Int32 → Int32 → hn → Option (Int32 × hn)} (hk48 : ∀ (v0 : Nat) (v2 : Int32) (v4 : Int32) (v5 : Int32) (N : hn), isLaws v0 → k48 v0 v2 v4 v5 (N.1, N.2, rT c) = em c (K48 v0 v2 v4 v5 N)) {v0 : Nat} {v2 : Int32} {v4 : Int32} {v5 : Int32} {s0 : Int32} {s1 : Int32} {s2 : Nat} (hv0 : isLaws v0) {N : hn} : b_Laws_valueOf_3 S0 k48 v0 v2 v4 v5 s0 s1 s2 (N.1, N.2, rT c) = em c (B_Laws_valueOf_3 c K48 v0 v2 v4 v5 s0 s1 s2 N) := by
  unfold b_Laws_valueOf_3 B_Laws_valueOf_3
  (simp only [hl_n, hl_wI, hl_wL, hl_cp, em_s, em_n, em_g, em_i, em_l, em_b, em_v, emv_s, emv_n, emv_g, emv_i, emv_l, emv_b, emv_v, hb_em, hv_em, hg_T, ne_eq, not_false_eq_true, nz_c, S0_c, S0_lw, S0_h, isHold_36, hc, hc.d, hc.l, hc.d.l, nz_1, nz_2, nz_3, nz_4, nz_5, nz_6, nz_7, nz_8, hv0, ib_w0, ib_w2, ib_w3, ib_w4, ib_w5, q_Laws_isFact hc, q_Laws_isLaw hc, q_Laws_joined hc, q_Laws_valueUntold hc, rT_w0, rT_w2, rT_w3, rT_w4, rT_w5, hk48, q_Laws_valueOf_5 hc, q_Laws_valueOf_4 hc hk48]) <;> rfl
set_option maxRecDepth 100000 in
set_option maxHeartbeats 4000000 in
theorem q_Laws_valueOf_2 {c : Nat} (hc : isChap c) {k48 : Nat → Int32 → Int32 → Int32 → hm_M → Option (Int32 × hm_M)} {K48 : Nat → Int32 → Int32 → Int32 → hn → Option (Int32 × hn)} (hk48 : ∀ (v0 : Nat) (v2 : Int32) (v4 : Int32) (v5 : Int32) (N : hn), isLaws v0 → k48 v0 v2 v4 v5 (N.1, N.2, rT c) = em c (K48 v0 v2 v4 v5 N)) {v0 : Nat} {v2 : Int32} {v4 : Int32} {v5 : Int32} {v6 : Int32} (hv0 : isLaws v0) {N : hn} : b_Laws_valueOf_2 S0 k48 v0 v2 v4 v5 v6 (N.1, N.2, rT c) = em c (B_Laws_valueOf_2 c K48 v0 v2 v4 v5 v6 N) := by
  unfold b_Laws_valueOf_2 B_Laws_valueOf_2
  (simp only [hl_n, hl_wI, hl_wL, hl_cp, em_s, em_n, em_g, em_i, em_l, em_b, em_v, emv_s, emv_n, emv_g, emv_i, emv_l, emv_b, emv_v, hb_em, hv_em, hg_T, ne_eq, not_false_eq_true, nz_c, S0_c, S0_lw, S0_h, isHold_36, hc, hc.d, hc.l, hc.d.l, nz_1, nz_2, nz_3, nz_4, nz_5, nz_6, nz_7, nz_8, hv0, ib_w0, ib_w2, ib_w3, ib_w4, ib_w5, q_Laws_isFact hc, q_Laws_isLaw hc, q_Laws_joined hc, q_Laws_valueUntold hc, rT_w0, rT_w2, rT_w3, rT_w4, rT_w5, hk48, q_Laws_valueOf_5 hc, q_Laws_valueOf_4 hc hk48, q_Laws_valueOf_3 hc hk48]) <;> rfl
set_option maxRecDepth 100000 in
set_option maxHeartbeats 4000000 in
theorem r_Laws_valueOf_1 {c : Nat} (hc : isChap c) {k48 : Nat → Int32 → Int32 → Int32 → hm_M → Option (Int32 × hm_M)} {K48 : Nat → Int32 → Int32 → Int32 → hn → Option (Int32 × hn)} (hk48 : ∀ (v0 : Nat) (v2 : Int32) (v4 : Int32) (v5 : Int32) (N : hn), isLaws v0 → k48 v0 v2 v4 v5 (N.1, N.2, rT c) = em c (K48 v0 v2 v4 v5 N)) {v0 : Nat} {v2 : Int32} {v4 : Int32} {v5 : Int32} (hv0 : isLaws v0) {N : hn} : b_Laws_valueOf_1 S0 k48 v0 v2 v4 v5 (N.1, N.2, rT c) = em c (B_Laws_valueOf_1 c K48 v0 v2 v4 v5 N) := by
  unfold b_Laws_valueOf_1 B_Laws_valueOf_1
  (simp only [hl_n, hl_wI, hl_wL, hl_cp, em_s, em_n, em_g, em_i, em_l, em_b, em_v, emv_s, emv_n, emv_g, emv_i, emv_l, emv_b, emv_v, hb_em, hv_em, hg_T, ne_eq, not_false_eq_true, nz_c, S0_c, S0_lw, S0_h, isHold_36, hc, hc.d, hc.l, hc.d.l, nz_1, nz_2, nz_3, nz_4, nz_5, nz_6, nz_7, nz_8, hv0, ib_w0, ib_w2, ib_w3, ib_w4, ib_w5, q_Laws_isFact hc, q_Laws_isLaw hc, q_Laws_joined hc, q_Laws_valueUntold hc, rT_w0, rT_w2, rT_w3, rT_w4, rT_w5, hk48, q_Laws_valueOf_5 hc, q_Laws_valueOf_4 hc hk48, q_Laws_valueOf_3 hc hk48, q_Laws_valueOf_2 hc hk48]) <;> rfl
theorem q_Laws_valueOf_1 {c : Nat} (hc : isChap c) : ∀ (n : Nat) (v0 : Nat) (v2 : Int32) (v4 : Int32) (v5 : Int32) (N : hn), isLaws v0 → f_Laws_valueOf_1 S0 n v0 v2 v4 v5 (N.1, N.2, rT c) = em c (F_Laws_valueOf_1 c n v0 v2 v4 v5 N) := by
  intro n
  induction n with
  | zero => intros; rfl
  | succ n ih => intro v0 v2 v4 v5 N hv0; exact r_Laws_valueOf_1 hc  ih hv0
set_option maxRecDepth 100000 in
set_option maxHeartbeats 4000000 in
theorem q_Laws_valueOf {c : Nat} (hc : isChap c) {v0 : Nat} {v1 : Int32} (hv0 : isLaws v0) {N : hn} : f_Laws_valueOf S0 v0 v1 (N.1, N.2, rT c) = em c (F_Laws_valueOf c v0 v1 N) := by
  unfold f_Laws_valueOf F_Laws_valueOf
  (simp only [hl_n, hl_wI, hl_wL, hl_cp, em_s, em_n, em_g, em_i, em_l, em_b, em_v, emv_s, emv_n, emv_g, emv_i, emv_l, emv_b, emv_v, hb_em, hv_em, hg_T, ne_eq, not_false_eq_true, nz_c, S0_c, S0_lw, S0_h, isHold_36, hc, hc.d, hc.l, hc.d.l, nz_1, nz_2, nz_3, nz_4, nz_5, nz_6, nz_7, nz_8, hv0, ib_w0, ib_w2, ib_w3, ib_w4, ib_w5, q_Laws_isFact hc, q_Laws_isLaw hc, q_Laws_joined hc, q_Laws_valueUntold hc, rT_w0, rT_w2, rT_w3, rT_w4, rT_w5, q_Laws_valueOf_1 hc, q_Laws_valueOf_5 hc]) <;> rfl
set_option maxRecDepth 100000 in
set_option maxHeartbeats 4000000 in
theorem q_Laws_lookAtPane {c : Nat} (hc : isChap c) {v0 : Nat} {v1 : Int32} {v2 : Int32} (hv0 : isLaws v0) {N : hn} : f_Laws_lookAtPane S0 v0 v1 v2 (N.1, N.2, rT c) = emv c (F_Laws_lookAtPane c v0 v1 v2 N) := by
  unfold f_Laws_lookAtPane F_Laws_lookAtPane
  (simp only [hl_n, hl_wI, hl_wL, hl_cp, em_s, em_n, em_g, em_i, em_l, em_b, em_v, emv_s, emv_n, emv_g, emv_i, emv_l, emv_b, emv_v, hb_em, hv_em, hg_T, ne_eq, not_false_eq_true, nz_c, S0_c, S0_lw, S0_h, isHold_36, hc, hc.d, hc.l, hc.d.l, nz_1, nz_2, nz_3, nz_4, nz_5, nz_6, nz_7, nz_8, hv0, ib_w5, rT_w5]) <;> rfl
set_option maxRecDepth 100000 in
set_option maxHeartbeats 4000000 in
theorem q_Ps_placeOf {c : Nat} (hc : isChap c) {v0 : Int32} {v1 : Int32} {N : hn} : f_Ps_placeOf S0 v0 v1 (N.1, N.2, rT c) = em c (F_Ps_placeOf c v0 v1 N) := by
  unfold f_Ps_placeOf F_Ps_placeOf
  (simp only [hl_n, hl_wI, hl_wL, hl_cp, em_s, em_n, em_g, em_i, em_l, em_b, em_v, emv_s, emv_n, emv_g, emv_i, emv_l, emv_b, emv_v, hb_em, hv_em, hg_T, ne_eq, not_false_eq_true, nz_c, S0_c, S0_lw, S0_h, isHold_36, hc, hc.d, hc.l, hc.d.l, nz_1, nz_2, nz_3, nz_4, nz_5, nz_6, nz_7, nz_8, S0_1]) <;> rfl
set_option maxRecDepth 100000 in
set_option maxHeartbeats 4000000 in
theorem q_Light_shine_4 {c : Nat} (hc : isChap c) {v1 : Int32} {v3 : Int64} {v5 : Int64} {N : hn} : b_Light_shine_4 S0 19 v1 v3 v5 (N.1, N.2, rT c) = emv c (B_Light_shine_4 c v1 v3 v5 N) := by
  unfold b_Light_shine_4 B_Light_shine_4
  (simp only [hl_n, hl_wI, hl_wL, hl_cp, em_s, em_n, em_g, em_i, em_l, em_b, em_v, emv_s, emv_n, emv_g, emv_i, emv_l, emv_b, emv_v, hb_em, hv_em, hg_T, ne_eq, not_false_eq_true, nz_c, S0_c, S0_lw, S0_h, isHold_36, hc, hc.d, hc.l, hc.d.l, nz_1, nz_2, nz_3, nz_4, nz_5, nz_6, nz_7, nz_8, S0_19, ib_35, ib_c8, ib_c9, q_Chapel_hasPlace hc, q_Laws_lookAtPane hc, q_Laws_valueOf hc, q_Ps_placeOf hc, rT_19_0, rT_19_2, rT_c12, rT_c8, rT_c9]) <;> rfl
set_option maxRecDepth 100000 in
set_option maxHeartbeats 4000000 in
theorem q_Light_shine_3 {c : Nat} (hc : isChap c) {k41 : Nat → Int32 → Nat → Int64 → Int64 → Int32 → Int32 → hm_M → Option hm_M} {K41 : Int32 → Nat → Int64 → Int64 → Int32 → Int32 → hn → Option hn} (hk41 : ∀ (v1 : Int32) (v2 : Nat) (v3 : Int64) (v5 : Int64) (v7 : Int32) (v8 : Int32) (N : hn), isLaws v2 → k41 19 v1 v2 v3 v5 v7 v8 (N.1, N.2, rT c) = emv c (K41 v1 v2 v3 v5 v7 v8 N)) {v1 : Int32} {v2 : Nat} {v3 : Int64} {v5 : Int64} {v7 : Int32} {v8 : Int32} {s0 : Int64} (hv2 : isLaws v2) {N : hn} : b_Light_shine_3 S0 k41 19 v1 v2 v3 v5 v7 v8 s0 (N.1, N.2, rT c) = emv c (B_Light_shine_3 c K41 v1 v2 v3 v5 v7 v8 s0 N) := by
  unfold b_Light_shine_3 B_Light_shine_3
  (simp only [hl_n, hl_wI, hl_wL, hl_cp, em_s, em_n, em_g, em_i, em_l, em_b, em_v, emv_s, emv_n, emv_g, emv_i, emv_l, emv_b, emv_v, hb_em, hv_em, hg_T, ne_eq, not_false_eq_true, nz_c, S0_c, S0_lw, S0_h, isHold_36, hc, hc.d, hc.l, hc.d.l, nz_1, nz_2, nz_3, nz_4, nz_5, nz_6, nz_7, nz_8, hv2, S0_19, ib_35, ib_c8, ib_c9, q_Chapel_hasPlace hc, q_Laws_lookAtPane hc, q_Laws_valueOf hc, q_Ps_placeOf hc, rT_19_0, rT_19_2, rT_c12, rT_c8, rT_c9, hk41, q_Light_shine_4 hc]) <;> rfl
set_option maxRecDepth 100000 in
set_option maxHeartbeats 4000000 in
theorem r_Light_shine_2 {c : Nat} (hc : isChap c) {k41 : Nat → Int32 → Nat → Int64 → Int64 → Int32 → Int32 → hm_M → Option hm_M} {K41 : Int32 → Nat → Int64 → Int64 → Int32 → Int32 → hn → Option hn} (hk41 : ∀ (v1 : Int32) (v2 : Nat) (v3 : Int64) (v5 : Int64) (v7 : Int32) (v8 : Int32) (N : hn), isLaws v2 → k41 19 v1 v2 v3 v5 v7 v8 (N.1, N.2, rT c) = emv c (K41 v1 v2 v3 v5 v7 v8 N)) {v1 : Int32} {v2 : Nat} {v3 : Int64} {v5 : Int64} {v7 : Int32} {v8 : Int32} (hv2 : isLaws v2) {N : hn} : b_Light_shine_2 S0 k41 19 v1 v2 v3 v5 v7 v8 (N.1, N.2, rT c) = emv c (B_Light_shine_2 c K41 v1 v2 v3 v5 v7 v8 N) := by
  unfold b_Light_shine_2 B_Light_shine_2
  (simp only [hl_n, hl_wI, hl_wL, hl_cp, em_s, em_n, em_g, em_i, em_l, em_b, em_v, emv_s, emv_n, emv_g, emv_i, emv_l, emv_b, emv_v, hb_em, hv_em, hg_T, ne_eq, not_false_eq_true, nz_c, S0_c, S0_lw, S0_h, isHold_36, hc, hc.d, hc.l, hc.d.l, nz_1, nz_2, nz_3, nz_4, nz_5, nz_6, nz_7, nz_8, hv2, S0_19, ib_35, ib_c8, ib_c9, q_Chapel_hasPlace hc, q_Laws_lookAtPane hc, q_Laws_valueOf hc, q_Ps_placeOf hc, rT_19_0, rT_19_2, rT_c12, rT_c8, rT_c9, hk41, q_Light_shine_4 hc, q_Light_shine_3 hc hk41]) <;> rfl
theorem q_Light_shine_2 {c : Nat} (hc : isChap c) : ∀ (n : Nat) (v1 : Int32) (v2 : Nat) (v3 : Int64) (v5 : Int64) (v7 : Int32) (v8 : Int32) (N : hn), isLaws v2 → f_Light_shine_2 S0 n 19 v1 v2 v3 v5 v7 v8 (N.1, N.2, rT c) = emv c (F_Light_shine_2 c n v1 v2 v3 v5 v7 v8 N) := by
  intro n
  induction n with
  | zero => intros; rfl
  | succ n ih => intro v1 v2 v3 v5 v7 v8 N hv2; exact r_Light_shine_2 hc  ih hv2
set_option maxRecDepth 100000 in
set_option maxHeartbeats 4000000 in
theorem q_Light_shine_1 {c : Nat} (hc : isChap c) {v1 : Int32} {v2 : Nat} {v3 : Int64} {v5 : Int64} {s0 : Int32} (hv2 : isLaws v2) {N : hn} : b_Light_shine_1 S0 19 v1 v2 v3 v5 s0 (N.1, N.2, rT c) = emv c (B_Light_shine_1 c v1 v2 v3 v5 s0 N) := by
  unfold b_Light_shine_1 B_Light_shine_1
  (simp only [hl_n, hl_wI, hl_wL, hl_cp, em_s, em_n, em_g, em_i, em_l, em_b, em_v, emv_s, emv_n, emv_g, emv_i, emv_l, emv_b, emv_v, hb_em, hv_em, hg_T, ne_eq, not_false_eq_true, nz_c, S0_c, S0_lw, S0_h, isHold_36, hc, hc.d, hc.l, hc.d.l, nz_1, nz_2, nz_3, nz_4, nz_5, nz_6, nz_7, nz_8, hv2, S0_19, ib_35, ib_c8, ib_c9, q_Chapel_hasPlace hc, q_Laws_lookAtPane hc, q_Laws_valueOf hc, q_Ps_placeOf hc, rT_19_0, rT_19_2, rT_c12, rT_c8, rT_c9, q_Light_shine_4 hc, q_Light_shine_2 hc]) <;> rfl
set_option maxRecDepth 100000 in
set_option maxHeartbeats 4000000 in
theorem q_Light_shine {c : Nat} (hc : isChap c) {v1 : Int32} {N : hn} : f_Light_shine S0 19 v1 (N.1, N.2, rT c) = emv c (F_Light_shine c v1 N) := by
  unfold f_Light_shine F_Light_shine
  (simp only [hl_n, hl_wI, hl_wL, hl_cp, em_s, em_n, em_g, em_i, em_l, em_b, em_v, emv_s, emv_n, emv_g, emv_i, emv_l, emv_b, emv_v, hb_em, hv_em, hg_T, ne_eq, not_false_eq_true, nz_c, S0_c, S0_lw, S0_h, isHold_36, hc, hc.d, hc.l, hc.d.l, nz_1, nz_2, nz_3, nz_4, nz_5, nz_6, nz_7, nz_8, S0_19, ib_35, ib_c8, ib_c9, q_Chapel_hasPlace hc, q_Laws_lookAtPane hc, q_Laws_valueOf hc, q_Ps_placeOf hc, rT_19_0, rT_19_2, rT_c12, rT_c8, rT_c9, q_Light_shine_1 hc, q_Light_shine_2 hc, q_Light_shine_4 hc]) <;> rfl
set_option maxRecDepth 100000 in
set_option maxHeartbeats 4000000 in
theorem r_Light_turnTo_2 {c : Nat} (hc : isChap c) {k82 : Nat → Int64 → Int64 → Int32 → hm_M → Option hm_M} {K82 : Int64 → Int64 → Int32 → hn → Option hn} (hk82 : ∀ (v2 : Int64) (v4 : Int64) (v6 : Int32) (N : hn), k82 19 v2 v4 v6 (N.1, N.2, rT c) = emv c (K82 v2 v4 v6 N)) {v2 : Int64} {v4 : Int64} {v6 : Int32} {N : hn} : b_Light_turnTo_2 S0 k82 19 v2 v4 v6 (N.1, N.2, rT c) = emv c (B_Light_turnTo_2 c K82 v2 v4 v6 N) := by
  unfold b_Light_turnTo_2 B_Light_turnTo_2
  (simp only [hl_n, hl_wI, hl_wL, hl_cp, em_s, em_n, em_g, em_i, em_l, em_b, em_v, emv_s, emv_n, emv_g, emv_i, emv_l, emv_b, emv_v, hb_em, hv_em, hg_T, ne_eq, not_false_eq_true, nz_c, S0_c, S0_lw, S0_h, isHold_36, hc, hc.d, hc.l, hc.d.l, nz_1, nz_2, nz_3, nz_4, nz_5, nz_6, nz_7, nz_8, S0_19, ib_34, ib_35, q_Laws_turnTo hc, q_Light_shine hc, rT_19_0, rT_19_1, rT_19_2, rT_c12, hk82]) <;> rfl
theorem q_Light_turnTo_2 {c : Nat} (hc : isChap c) : ∀ (n : Nat) (v2 : Int64) (v4 : Int64) (v6 : Int32) (N : hn), f_Light_turnTo_2 S0 n 19 v2 v4 v6 (N.1, N.2, rT c) = emv c (F_Light_turnTo_2 c n v2 v4 v6 N) := by
  intro n
  induction n with
  | zero => intros; rfl
  | succ n ih => intro v2 v4 v6 N ; exact r_Light_turnTo_2 hc  ih 
set_option maxRecDepth 100000 in
set_option maxHeartbeats 4000000 in
theorem q_Light_turnTo_1 {c : Nat} (hc : isChap c) {v1 : Int32} {N : hn} : b_Light_turnTo_1 S0 19 v1 (N.1, N.2, rT c) = emv c (B_Light_turnTo_1 c v1 N) := by
  unfold b_Light_turnTo_1 B_Light_turnTo_1
  (simp only [hl_n, hl_wI, hl_wL, hl_cp, em_s, em_n, em_g, em_i, em_l, em_b, em_v, emv_s, emv_n, emv_g, emv_i, emv_l, emv_b, emv_v, hb_em, hv_em, hg_T, ne_eq, not_false_eq_true, nz_c, S0_c, S0_lw, S0_h, isHold_36, hc, hc.d, hc.l, hc.d.l, nz_1, nz_2, nz_3, nz_4, nz_5, nz_6, nz_7, nz_8, S0_19, ib_34, ib_35, q_Laws_turnTo hc, q_Light_shine hc, rT_19_0, rT_19_1, rT_19_2, rT_c12, q_Light_turnTo_2 hc]) <;> rfl
set_option maxRecDepth 100000 in
set_option maxHeartbeats 4000000 in
theorem q_Light_turnTo {c : Nat} (hc : isChap c) {v1 : Int32} {N : hn} : f_Light_turnTo S0 19 v1 (N.1, N.2, rT c) = emv c (F_Light_turnTo c v1 N) := by
  unfold f_Light_turnTo F_Light_turnTo
  (simp only [hl_n, hl_wI, hl_wL, hl_cp, em_s, em_n, em_g, em_i, em_l, em_b, em_v, emv_s, emv_n, emv_g, emv_i, emv_l, emv_b, emv_v, hb_em, hv_em, hg_T, ne_eq, not_false_eq_true, nz_c, S0_c, S0_lw, S0_h, isHold_36, hc, hc.d, hc.l, hc.d.l, nz_1, nz_2, nz_3, nz_4, nz_5, nz_6, nz_7, nz_8, S0_19, ib_34, ib_35, q_Laws_turnTo hc, q_Light_shine hc, rT_19_0, rT_19_1, rT_19_2, rT_c12, q_Light_turnTo_1 hc, q_Light_turnTo_2 hc]) <;> rfl
set_option maxRecDepth 100000 in
set_option maxHeartbeats 4000000 in
theorem r_Light_placesOf_1 {c : Nat} (hc : isChap c) {k5 : Nat → Int32 → Int64 → Int32 → hm_M → Option (Int64 × hm_M)} {K5 : Int32 → Int64 → Int32 → hn → Option (Int64 × hn)} (hk5 : ∀ (v1 : Int32) (v2 : Int64) (v4 : Int32) (N : hn), k5 19 v1 v2 v4 (N.1, N.2, rT c) = em c (K5 v1 v2 v4 N)) {v1 : Int32} {v2 : Int64} {v4 : Int32} {N : hn} : b_Light_placesOf_1 S0 k5 19 v1 v2 v4 (N.1, N.2, rT c) = em c (B_Light_placesOf_1 c K5 v1 v2 v4 N) := by
  unfold b_Light_placesOf_1 B_Light_placesOf_1
  (simp only [hl_n, hl_wI, hl_wL, hl_cp, em_s, em_n, em_g, em_i, em_l, em_b, em_v, emv_s, emv_n, emv_g, emv_i, emv_l, emv_b, emv_v, hb_em, hv_em, hg_T, ne_eq, not_false_eq_true, nz_c, S0_c, S0_lw, S0_h, isHold_36, hc, hc.d, hc.l, hc.d.l, nz_1, nz_2, nz_3, nz_4, nz_5, nz_6, nz_7, nz_8, S0_19, ib_34, rT_19_1, hk5]) <;> rfl
theorem q_Light_placesOf_1 {c : Nat} (hc : isChap c) : ∀ (n : Nat) (v1 : Int32) (v2 : Int64) (v4 : Int32) (N : hn), f_Light_placesOf_1 S0 n 19 v1 v2 v4 (N.1, N.2, rT c) = em c (F_Light_placesOf_1 c n v1 v2 v4 N) := by
  intro n
  induction n with
  | zero => intros; rfl
  | succ n ih => intro v1 v2 v4 N ; exact r_Light_placesOf_1 hc  ih 
set_option maxRecDepth 100000 in
set_option maxHeartbeats 4000000 in
theorem q_Light_placesOf {c : Nat} (hc : isChap c) {v1 : Int32} {N : hn} : f_Light_placesOf S0 19 v1 (N.1, N.2, rT c) = em c (F_Light_placesOf c v1 N) := by
  unfold f_Light_placesOf F_Light_placesOf
  (simp only [hl_n, hl_wI, hl_wL, hl_cp, em_s, em_n, em_g, em_i, em_l, em_b, em_v, emv_s, emv_n, emv_g, emv_i, emv_l, emv_b, emv_v, hb_em, hv_em, hg_T, ne_eq, not_false_eq_true, nz_c, S0_c, S0_lw, S0_h, isHold_36, hc, hc.d, hc.l, hc.d.l, nz_1, nz_2, nz_3, nz_4, nz_5, nz_6, nz_7, nz_8, S0_19, ib_34, rT_19_1, q_Light_placesOf_1 hc]) <;> rfl
set_option maxRecDepth 100000 in
set_option maxHeartbeats 4000000 in
theorem q_Ps_stepsBetween {c : Nat} (hc : isChap c) {v0 : Int32} {v1 : Int32} {N : hn} : f_Ps_stepsBetween S0 v0 v1 (N.1, N.2, rT c) = em c (F_Ps_stepsBetween c v0 v1 N) := by
  unfold f_Ps_stepsBetween F_Ps_stepsBetween
  (simp only [hl_n, hl_wI, hl_wL, hl_cp, em_s, em_n, em_g, em_i, em_l, em_b, em_v, emv_s, emv_n, emv_g, emv_i, emv_l, emv_b, emv_v, hb_em, hv_em, hg_T, ne_eq, not_false_eq_true, nz_c, S0_c, S0_lw, S0_h, isHold_36, hc, hc.d, hc.l, hc.d.l, nz_1, nz_2, nz_3, nz_4, nz_5, nz_6, nz_7, nz_8, S0_1]) <;> rfl
set_option maxRecDepth 100000 in
set_option maxHeartbeats 4000000 in
theorem q_Way_stepsOver_1 {c : Nat} (hc : isChap c) {v2 : Int32} {v3 : Int32} {s0 : Int32} {N : hn} : b_Way_stepsOver_1 S0 51 v2 v3 s0 (N.1, N.2, rT c) = em c (B_Way_stepsOver_1 c v2 v3 s0 N) := by
  unfold b_Way_stepsOver_1 B_Way_stepsOver_1
  (simp only [hl_n, hl_wI, hl_wL, hl_cp, em_s, em_n, em_g, em_i, em_l, em_b, em_v, emv_s, emv_n, emv_g, emv_i, emv_l, emv_b, emv_v, hb_em, hv_em, hg_T, ne_eq, not_false_eq_true, nz_c, S0_c, S0_lw, S0_h, isHold_36, hc, hc.d, hc.l, hc.d.l, nz_1, nz_2, nz_3, nz_4, nz_5, nz_6, nz_7, nz_8, S0_51, ib_53, q_Ps_stepsBetween hc, rT_51_1]) <;> rfl
set_option maxRecDepth 100000 in
set_option maxHeartbeats 4000000 in
theorem q_Way_stepsOver {c : Nat} (hc : isChap c) {v1 : Int32} {v2 : Int32} {v3 : Int32} {N : hn} : f_Way_stepsOver S0 51 v1 v2 v3 (N.1, N.2, rT c) = em c (F_Way_stepsOver c v1 v2 v3 N) := by
  unfold f_Way_stepsOver F_Way_stepsOver
  (simp only [hl_n, hl_wI, hl_wL, hl_cp, em_s, em_n, em_g, em_i, em_l, em_b, em_v, emv_s, emv_n, emv_g, emv_i, emv_l, emv_b, emv_v, hb_em, hv_em, hg_T, ne_eq, not_false_eq_true, nz_c, S0_c, S0_lw, S0_h, isHold_36, hc, hc.d, hc.l, hc.d.l, nz_1, nz_2, nz_3, nz_4, nz_5, nz_6, nz_7, nz_8, S0_51, ib_53, q_Ps_stepsBetween hc, rT_51_1, q_Way_stepsOver_1 hc]) <;> rfl
set_option maxRecDepth 100000 in
set_option maxHeartbeats 4000000 in
theorem r_Way_nextFrom_1 {c : Nat} (hc : isChap c) {k9 : Nat → Int32 → Int32 → Int32 → Int32 → Int32 → hm_M → Option (Int32 × hm_M)} {K9 : Int32 → Int32 → Int32 → Int32 → Int32 → hn → Option (Int32 × hn)} (hk9 : ∀ (v1 : Int32) (v2 : Int32) (v3 : Int32) (v4 : Int32) (v5 : Int32) (N : hn), k9 51 v1 v2 v3 v4 v5 (N.1, N.2, rT c) = em c (K9 v1 v2 v3 v4 v5 N)) {v1 : Int32} {v2 : Int32} {v3 : Int32} {v4 : Int32} {v5 : Int32} {N : hn} : b_Way_nextFrom_1 S0 k9 51 v1 v2 v3 v4 v5 (N.1, N.2, rT c) = em c (B_Way_nextFrom_1 c K9 v1 v2 v3 v4 v5 N) := by
  unfold b_Way_nextFrom_1 B_Way_nextFrom_1
  (simp only [hl_n, hl_wI, hl_wL, hl_cp, em_s, em_n, em_g, em_i, em_l, em_b, em_v, emv_s, emv_n, emv_g, emv_i, emv_l, emv_b, emv_v, hb_em, hv_em, hg_T, ne_eq, not_false_eq_true, nz_c, S0_c, S0_lw, S0_h, isHold_36, hc, hc.d, hc.l, hc.d.l, nz_1, nz_2, nz_3, nz_4, nz_5, nz_6, nz_7, nz_8, S0_51, ib_52, q_Way_stepsOver hc, rT_51_0, hk9]) <;> rfl
theorem q_Way_nextFrom_1 {c : Nat} (hc : isChap c) : ∀ (n : Nat) (v1 : Int32) (v2 : Int32) (v3 : Int32) (v4 : Int32) (v5 : Int32) (N : hn), f_Way_nextFrom_1 S0 n 51 v1 v2 v3 v4 v5 (N.1, N.2, rT c) = em c (F_Way_nextFrom_1 c n v1 v2 v3 v4 v5 N) := by
  intro n
  induction n with
  | zero => intros; rfl
  | succ n ih => intro v1 v2 v3 v4 v5 N ; exact r_Way_nextFrom_1 hc  ih 
set_option maxRecDepth 100000 in
set_option maxHeartbeats 4000000 in
theorem q_Way_nextFrom {c : Nat} (hc : isChap c) {v1 : Int32} {v2 : Int32} {N : hn} : f_Way_nextFrom S0 51 v1 v2 (N.1, N.2, rT c) = em c (F_Way_nextFrom c v1 v2 N) := by
  unfold f_Way_nextFrom F_Way_nextFrom
  (simp only [hl_n, hl_wI, hl_wL, hl_cp, em_s, em_n, em_g, em_i, em_l, em_b, em_v, emv_s, emv_n, emv_g, emv_i, emv_l, emv_b, emv_v, hb_em, hv_em, hg_T, ne_eq, not_false_eq_true, nz_c, S0_c, S0_lw, S0_h, isHold_36, hc, hc.d, hc.l, hc.d.l, nz_1, nz_2, nz_3, nz_4, nz_5, nz_6, nz_7, nz_8, S0_51, ib_52, q_Way_stepsOver hc, rT_51_0, q_Way_nextFrom_1 hc]) <;> rfl
set_option maxRecDepth 100000 in
set_option maxHeartbeats 4000000 in
theorem q_Way_lookAhead_3 {c : Nat} (hc : isChap c) {k3 : Nat → Int32 → Int32 → Int64 → Int32 → hm_M → Option hm_M} {K3 : Int32 → Int32 → Int64 → Int32 → hn → Option hn} (hk3 : ∀ (v1 : Int32) (v2 : Int32) (v3 : Int64) (v5 : Int32) (N : hn), k3 51 v1 v2 v3 v5 (N.1, N.2, rT c) = emv c (K3 v1 v2 v3 v5 N)) {v1 : Int32} {v2 : Int32} {v3 : Int64} {v5 : Int32} {v6 : Int32} {N : hn} : b_Way_lookAhead_3 S0 k3 51 v1 v2 v3 v5 v6 (N.1, N.2, rT c) = emv c (B_Way_lookAhead_3 c K3 v1 v2 v3 v5 v6 N) := by
  unfold b_Way_lookAhead_3 B_Way_lookAhead_3
  (simp only [hl_n, hl_wI, hl_wL, hl_cp, em_s, em_n, em_g, em_i, em_l, em_b, em_v, emv_s, emv_n, emv_g, emv_i, emv_l, emv_b, emv_v, hb_em, hv_em, hg_T, ne_eq, not_false_eq_true, nz_c, S0_c, S0_lw, S0_h, isHold_36, hc, hc.d, hc.l, hc.d.l, nz_1, nz_2, nz_3, nz_4, nz_5, nz_6, nz_7, nz_8, S0_51, ib_52, ib_53, q_Way_nextFrom hc, q_Way_stepsOver hc, rT_51_0, rT_51_1, hk3]) <;> rfl
set_option maxRecDepth 100000 in
set_option maxHeartbeats 4000000 in
theorem q_Way_lookAhead_2 {c : Nat} (hc : isChap c) {k3 : Nat → Int32 → Int32 → Int64 → Int32 → hm_M → Option hm_M} {K3 : Int32 → Int32 → Int64 → Int32 → hn → Option hn} (hk3 : ∀ (v1 : Int32) (v2 : Int32) (v3 : Int64) (v5 : Int32) (N : hn), k3 51 v1 v2 v3 v5 (N.1, N.2, rT c) = emv c (K3 v1 v2 v3 v5 N)) {v1 : Int32} {v2 : Int32} {v3 : Int64} {v5 : Int32} {s0 : Int32} {N : hn} : b_Way_lookAhead_2 S0 k3 51 v1 v2 v3 v5 s0 (N.1, N.2, rT c) = emv c (B_Way_lookAhead_2 c K3 v1 v2 v3 v5 s0 N) := by
  unfold b_Way_lookAhead_2 B_Way_lookAhead_2
  (simp only [hl_n, hl_wI, hl_wL, hl_cp, em_s, em_n, em_g, em_i, em_l, em_b, em_v, emv_s, emv_n, emv_g, emv_i, emv_l, emv_b, emv_v, hb_em, hv_em, hg_T, ne_eq, not_false_eq_true, nz_c, S0_c, S0_lw, S0_h, isHold_36, hc, hc.d, hc.l, hc.d.l, nz_1, nz_2, nz_3, nz_4, nz_5, nz_6, nz_7, nz_8, S0_51, ib_52, ib_53, q_Way_nextFrom hc, q_Way_stepsOver hc, rT_51_0, rT_51_1, hk3, q_Way_lookAhead_3 hc hk3]) <;> rfl
set_option maxRecDepth 100000 in
set_option maxHeartbeats 4000000 in
theorem r_Way_lookAhead_1 {c : Nat} (hc : isChap c) {k3 : Nat → Int32 → Int32 → Int64 → Int32 → hm_M → Option hm_M} {K3 : Int32 → Int32 → Int64 → Int32 → hn → Option hn} (hk3 : ∀ (v1 : Int32) (v2 : Int32) (v3 : Int64) (v5 : Int32) (N : hn), k3 51 v1 v2 v3 v5 (N.1, N.2, rT c) = emv c (K3 v1 v2 v3 v5 N)) {v1 : Int32} {v2 : Int32} {v3 : Int64} {v5 : Int32} {N : hn} : b_Way_lookAhead_1 S0 k3 51 v1 v2 v3 v5 (N.1, N.2, rT c) = emv c (B_Way_lookAhead_1 c K3 v1 v2 v3 v5 N) := by
  unfold b_Way_lookAhead_1 B_Way_lookAhead_1
  (simp only [hl_n, hl_wI, hl_wL, hl_cp, em_s, em_n, em_g, em_i, em_l, em_b, em_v, emv_s, emv_n, emv_g, emv_i, emv_l, emv_b, emv_v, hb_em, hv_em, hg_T, ne_eq, not_false_eq_true, nz_c, S0_c, S0_lw, S0_h, isHold_36, hc, hc.d, hc.l, hc.d.l, nz_1, nz_2, nz_3, nz_4, nz_5, nz_6, nz_7, nz_8, S0_51, ib_52, ib_53, q_Way_nextFrom hc, q_Way_stepsOver hc, rT_51_0, rT_51_1, hk3, q_Way_lookAhead_3 hc hk3, q_Way_lookAhead_2 hc hk3]) <;> rfl
theorem q_Way_lookAhead_1 {c : Nat} (hc : isChap c) : ∀ (n : Nat) (v1 : Int32) (v2 : Int32) (v3 : Int64) (v5 : Int32) (N : hn), f_Way_lookAhead_1 S0 n 51 v1 v2 v3 v5 (N.1, N.2, rT c) = emv c (F_Way_lookAhead_1 c n v1 v2 v3 v5 N) := by
  intro n
  induction n with
  | zero => intros; rfl
  | succ n ih => intro v1 v2 v3 v5 N ; exact r_Way_lookAhead_1 hc  ih 
set_option maxRecDepth 100000 in
set_option maxHeartbeats 4000000 in
theorem q_Way_lookAhead {c : Nat} (hc : isChap c) {v1 : Int32} {v2 : Int32} {v3 : Int64} {N : hn} : f_Way_lookAhead S0 51 v1 v2 v3 (N.1, N.2, rT c) = emv c (F_Way_lookAhead c v1 v2 v3 N) := by
  unfold f_Way_lookAhead F_Way_lookAhead
  (simp only [hl_n, hl_wI, hl_wL, hl_cp, em_s, em_n, em_g, em_i, em_l, em_b, em_v, emv_s, emv_n, emv_g, emv_i, emv_l, emv_b, emv_v, hb_em, hv_em, hg_T, ne_eq, not_false_eq_true, nz_c, S0_c, S0_lw, S0_h, isHold_36, hc, hc.d, hc.l, hc.d.l, nz_1, nz_2, nz_3, nz_4, nz_5, nz_6, nz_7, nz_8, S0_51, ib_52, ib_53, q_Way_nextFrom hc, q_Way_stepsOver hc, rT_51_0, rT_51_1, q_Way_lookAhead_1 hc]) <;> rfl
set_option maxRecDepth 100000 in
set_option maxHeartbeats 4000000 in
theorem q_Way_find_5 {c : Nat} (hc : isChap c) {s0 : Int32} {N : hn} : b_Way_find_5 S0 s0 51 (N.1, N.2, rT c) = emv c (B_Way_find_5 c s0 N) := by
  unfold b_Way_find_5 B_Way_find_5
  (simp only [hl_n, hl_wI, hl_wL, hl_cp, em_s, em_n, em_g, em_i, em_l, em_b, em_v, emv_s, emv_n, emv_g, emv_i, emv_l, emv_b, emv_v, hb_em, hv_em, hg_T, ne_eq, not_false_eq_true, nz_c, S0_c, S0_lw, S0_h, isHold_36, hc, hc.d, hc.l, hc.d.l, nz_1, nz_2, nz_3, nz_4, nz_5, nz_6, nz_7, nz_8, S0_19, S0_51, ib_52, ib_53, ib_54, q_Light_placesOf hc, q_Light_turnTo hc, q_Way_floorOf hc, q_Way_lookAhead hc, q_Way_nextFrom hc, rT_19_0, rT_51_0, rT_51_1, rT_51_2]) <;> rfl
set_option maxRecDepth 100000 in
set_option maxHeartbeats 4000000 in
theorem r_Way_find_4 {c : Nat} (hc : isChap c) {k105 : Nat → Int32 → Int32 → Int32 → hm_M → Option hm_M} {K105 : Int32 → Int32 → Int32 → hn → Option hn} (hk105 : ∀ (v5 : Int32) (v8 : Int32) (v9 : Int32) (N : hn), k105 51 v5 v8 v9 (N.1, N.2, rT c) = emv c (K105 v5 v8 v9 N)) {v5 : Int32} {v8 : Int32} {v9 : Int32} {N : hn} : b_Way_find_4 S0 k105 51 v5 v8 v9 (N.1, N.2, rT c) = emv c (B_Way_find_4 c K105 v5 v8 v9 N) := by
  unfold b_Way_find_4 B_Way_find_4
  (simp only [hl_n, hl_wI, hl_wL, hl_cp, em_s, em_n, em_g, em_i, em_l, em_b, em_v, emv_s, emv_n, emv_g, emv_i, emv_l, emv_b, emv_v, hb_em, hv_em, hg_T, ne_eq, not_false_eq_true, nz_c, S0_c, S0_lw, S0_h, isHold_36, hc, hc.d, hc.l, hc.d.l, nz_1, nz_2, nz_3, nz_4, nz_5, nz_6, nz_7, nz_8, S0_19, S0_51, ib_52, ib_53, ib_54, q_Light_placesOf hc, q_Light_turnTo hc, q_Way_floorOf hc, q_Way_lookAhead hc, q_Way_nextFrom hc, rT_19_0, rT_51_0, rT_51_1, rT_51_2, hk105, q_Way_find_5 hc]) <;> rfl
theorem q_Way_find_4 {c : Nat} (hc : isChap c) : ∀ (n : Nat) (v5 : Int32) (v8 : Int32) (v9 : Int32) (N : hn), f_Way_find_4 S0 n 51 v5 v8 v9 (N.1, N.2, rT c) = emv c (F_Way_find_4 c n v5 v8 v9 N) := by
  intro n
  induction n with
  | zero => intros; rfl
  | succ n ih => intro v5 v8 v9 N ; exact r_Way_find_4 hc  ih 
set_option maxRecDepth 100000 in
set_option maxHeartbeats 4000000 in
theorem r_Way_find_3 {c : Nat} (hc : isChap c) {k76 : Nat → Int32 → Int64 → Int32 → hm_M → Option hm_M} {K76 : Int32 → Int64 → Int32 → hn → Option hn} (hk76 : ∀ (v5 : Int32) (v6 : Int64) (v8 : Int32) (N : hn), k76 51 v5 v6 v8 (N.1, N.2, rT c) = emv c (K76 v5 v6 v8 N)) {v5 : Int32} {v6 : Int64} {v8 : Int32} {N : hn} : b_Way_find_3 S0 k76 51 v5 v6 v8 (N.1, N.2, rT c) = emv c (B_Way_find_3 c K76 v5 v6 v8 N) := by
  unfold b_Way_find_3 B_Way_find_3
  (simp only [hl_n, hl_wI, hl_wL, hl_cp, em_s, em_n, em_g, em_i, em_l, em_b, em_v, emv_s, emv_n, emv_g, emv_i, emv_l, emv_b, emv_v, hb_em, hv_em, hg_T, ne_eq, not_false_eq_true, nz_c, S0_c, S0_lw, S0_h, isHold_36, hc, hc.d, hc.l, hc.d.l, nz_1, nz_2, nz_3, nz_4, nz_5, nz_6, nz_7, nz_8, S0_19, S0_51, ib_52, ib_53, ib_54, q_Light_placesOf hc, q_Light_turnTo hc, q_Way_floorOf hc, q_Way_lookAhead hc, q_Way_nextFrom hc, rT_19_0, rT_51_0, rT_51_1, rT_51_2, hk76, q_Way_find_5 hc, q_Way_find_4 hc]) <;> rfl
theorem q_Way_find_3 {c : Nat} (hc : isChap c) : ∀ (n : Nat) (v5 : Int32) (v6 : Int64) (v8 : Int32) (N : hn), f_Way_find_3 S0 n 51 v5 v6 v8 (N.1, N.2, rT c) = emv c (F_Way_find_3 c n v5 v6 v8 N) := by
  intro n
  induction n with
  | zero => intros; rfl
  | succ n ih => intro v5 v6 v8 N ; exact r_Way_find_3 hc  ih 
set_option maxRecDepth 100000 in
set_option maxHeartbeats 4000000 in
theorem q_Way_find_2 {c : Nat} (hc : isChap c) {k21 : Nat → Nat → Int32 → Int32 → Int32 → Int64 → Int32 → hm_M → Option hm_M} {K21 : Int32 → Int32 → Int32 → Int64 → Int32 → hn → Option hn} (hk21 : ∀ (v2 : Int32) (v3 : Int32) (v5 : Int32) (v6 : Int64) (v8 : Int32) (N : hn), k21 51 19 v2 v3 v5 v6 v8 (N.1, N.2, rT c) = emv c (K21 v2 v3 v5 v6 v8 N)) {v2 : Int32} {v3 : Int32} {v5 : Int32} {v6 : Int64} {v8 : Int32} {s0 : Int64} {s1 : Int32} {N : hn} : b_Way_find_2 S0 k21 51 19 v2 v3 v5 v6 v8 s0 s1 52 (N.1, N.2, rT c) = emv c (B_Way_find_2 c K21 v2 v3 v5 v6 v8 s0 s1 N) := by
  unfold b_Way_find_2 B_Way_find_2
  (simp only [hl_n, hl_wI, hl_wL, hl_cp, em_s, em_n, em_g, em_i, em_l, em_b, em_v, emv_s, emv_n, emv_g, emv_i, emv_l, emv_b, emv_v, hb_em, hv_em, hg_T, ne_eq, not_false_eq_true, nz_c, S0_c, S0_lw, S0_h, isHold_36, hc, hc.d, hc.l, hc.d.l, nz_1, nz_2, nz_3, nz_4, nz_5, nz_6, nz_7, nz_8, S0_19, S0_51, ib_52, ib_53, ib_54, q_Light_placesOf hc, q_Light_turnTo hc, q_Way_floorOf hc, q_Way_lookAhead hc, q_Way_nextFrom hc, rT_19_0, rT_51_0, rT_51_1, rT_51_2, hk21, q_Way_find_5 hc, q_Way_find_4 hc, q_Way_find_3 hc]) <;> rfl
set_option maxRecDepth 100000 in
set_option maxHeartbeats 4000000 in
theorem r_Way_find_1 {c : Nat} (hc : isChap c) {k21 : Nat → Nat → Int32 → Int32 → Int32 → Int64 → Int32 → hm_M → Option hm_M} {K21 : Int32 → Int32 → Int32 → Int64 → Int32 → hn → Option hn} (hk21 : ∀ (v2 : Int32) (v3 : Int32) (v5 : Int32) (v6 : Int64) (v8 : Int32) (N : hn), k21 51 19 v2 v3 v5 v6 v8 (N.1, N.2, rT c) = emv c (K21 v2 v3 v5 v6 v8 N)) {v2 : Int32} {v3 : Int32} {v5 : Int32} {v6 : Int64} {v8 : Int32} {N : hn} : b_Way_find_1 S0 k21 51 19 v2 v3 v5 v6 v8 (N.1, N.2, rT c) = emv c (B_Way_find_1 c K21 v2 v3 v5 v6 v8 N) := by
  unfold b_Way_find_1 B_Way_find_1
  (simp only [hl_n, hl_wI, hl_wL, hl_cp, em_s, em_n, em_g, em_i, em_l, em_b, em_v, emv_s, emv_n, emv_g, emv_i, emv_l, emv_b, emv_v, hb_em, hv_em, hg_T, ne_eq, not_false_eq_true, nz_c, S0_c, S0_lw, S0_h, isHold_36, hc, hc.d, hc.l, hc.d.l, nz_1, nz_2, nz_3, nz_4, nz_5, nz_6, nz_7, nz_8, S0_19, S0_51, ib_52, ib_53, ib_54, q_Light_placesOf hc, q_Light_turnTo hc, q_Way_floorOf hc, q_Way_lookAhead hc, q_Way_nextFrom hc, rT_19_0, rT_51_0, rT_51_1, rT_51_2, hk21, q_Way_find_5 hc, q_Way_find_4 hc, q_Way_find_3 hc, q_Way_find_2 hc hk21]) <;> rfl
theorem q_Way_find_1 {c : Nat} (hc : isChap c) : ∀ (n : Nat) (v2 : Int32) (v3 : Int32) (v5 : Int32) (v6 : Int64) (v8 : Int32) (N : hn), f_Way_find_1 S0 n 51 19 v2 v3 v5 v6 v8 (N.1, N.2, rT c) = emv c (F_Way_find_1 c n v2 v3 v5 v6 v8 N) := by
  intro n
  induction n with
  | zero => intros; rfl
  | succ n ih => intro v2 v3 v5 v6 v8 N ; exact r_Way_find_1 hc  ih 
set_option maxRecDepth 100000 in
set_option maxHeartbeats 4000000 in
theorem q_Way_find {c : Nat} (hc : isChap c) {v2 : Int32} {v3 : Int32} {v4 : Int32} {N : hn} : f_Way_find S0 51 19 v2 v3 v4 (N.1, N.2, rT c) = emv c (F_Way_find c v2 v3 v4 N) := by
  unfold f_Way_find F_Way_find
  (simp only [hl_n, hl_wI, hl_wL, hl_cp, em_s, em_n, em_g, em_i, em_l, em_b, em_v, emv_s, emv_n, emv_g, emv_i, emv_l, emv_b, emv_v, hb_em, hv_em, hg_T, ne_eq, not_false_eq_true, nz_c, S0_c, S0_lw, S0_h, isHold_36, hc, hc.d, hc.l, hc.d.l, nz_1, nz_2, nz_3, nz_4, nz_5, nz_6, nz_7, nz_8, S0_19, S0_51, ib_52, ib_53, ib_54, q_Light_placesOf hc, q_Light_turnTo hc, q_Way_floorOf hc, q_Way_lookAhead hc, q_Way_nextFrom hc, rT_19_0, rT_51_0, rT_51_1, rT_51_2, q_Way_find_1 hc, q_Way_find_3 hc, q_Way_find_4 hc, q_Way_find_5 hc]) <;> rfl
set_option maxRecDepth 100000 in
set_option maxHeartbeats 4000000 in
theorem q_Ps_isPane {c : Nat} (hc : isChap c) {v1 : Int32} {N : hn} : f_Ps_isPane S0 1 v1 (N.1, N.2, rT c) = em c (F_Ps_isPane c v1 N) := by
  unfold f_Ps_isPane F_Ps_isPane
  (simp only [hl_n, hl_wI, hl_wL, hl_cp, em_s, em_n, em_g, em_i, em_l, em_b, em_v, emv_s, emv_n, emv_g, emv_i, emv_l, emv_b, emv_v, hb_em, hv_em, hg_T, ne_eq, not_false_eq_true, nz_c, S0_c, S0_lw, S0_h, isHold_36, hc, hc.d, hc.l, hc.d.l, nz_1, nz_2, nz_3, nz_4, nz_5, nz_6, nz_7, nz_8, S0_1, S0_19, rT_19_0, rT_1_1]) <;> rfl
set_option maxRecDepth 100000 in
set_option maxHeartbeats 4000000 in
theorem q_Hold_lit {c : Nat} (hc : isChap c) {v0 : Nat} (hv0 : isHold v0) {N : hn} : f_Hold_lit S0 v0 (N.1, N.2, rT c) = em c (F_Hold_lit c v0 N) := by
  unfold f_Hold_lit F_Hold_lit
  (simp only [hl_n, hl_wI, hl_wL, hl_cp, em_s, em_n, em_g, em_i, em_l, em_b, em_v, emv_s, emv_n, emv_g, emv_i, emv_l, emv_b, emv_v, hb_em, hv_em, hg_T, ne_eq, not_false_eq_true, nz_c, S0_c, S0_lw, S0_h, isHold_36, hc, hc.d, hc.l, hc.d.l, nz_1, nz_2, nz_3, nz_4, nz_5, nz_6, nz_7, nz_8, hv0]) <;> rfl
set_option maxRecDepth 100000 in
set_option maxHeartbeats 4000000 in
theorem r_Light_panesOn_1 {c : Nat} (hc : isChap c) {k5 : Nat → Int32 → Int32 → Int32 → Int32 → hm_M → Option (Int32 × hm_M)} {K5 : Int32 → Int32 → Int32 → Int32 → hn → Option (Int32 × hn)} (hk5 : ∀ (v1 : Int32) (v2 : Int32) (v3 : Int32) (v4 : Int32) (N : hn), k5 19 v1 v2 v3 v4 (N.1, N.2, rT c) = em c (K5 v1 v2 v3 v4 N)) {v1 : Int32} {v2 : Int32} {v3 : Int32} {v4 : Int32} {N : hn} : b_Light_panesOn_1 S0 k5 19 v1 v2 v3 v4 (N.1, N.2, rT c) = em c (B_Light_panesOn_1 c K5 v1 v2 v3 v4 N) := by
  unfold b_Light_panesOn_1 B_Light_panesOn_1
  (simp only [hl_n, hl_wI, hl_wL, hl_cp, em_s, em_n, em_g, em_i, em_l, em_b, em_v, emv_s, emv_n, emv_g, emv_i, emv_l, emv_b, emv_v, hb_em, hv_em, hg_T, ne_eq, not_false_eq_true, nz_c, S0_c, S0_lw, S0_h, isHold_36, hc, hc.d, hc.l, hc.d.l, nz_1, nz_2, nz_3, nz_4, nz_5, nz_6, nz_7, nz_8, S0_19, ib_34, rT_19_1, hk5]) <;> rfl
theorem q_Light_panesOn_1 {c : Nat} (hc : isChap c) : ∀ (n : Nat) (v1 : Int32) (v2 : Int32) (v3 : Int32) (v4 : Int32) (N : hn), f_Light_panesOn_1 S0 n 19 v1 v2 v3 v4 (N.1, N.2, rT c) = em c (F_Light_panesOn_1 c n v1 v2 v3 v4 N) := by
  intro n
  induction n with
  | zero => intros; rfl
  | succ n ih => intro v1 v2 v3 v4 N ; exact r_Light_panesOn_1 hc  ih 
set_option maxRecDepth 100000 in
set_option maxHeartbeats 4000000 in
theorem q_Light_panesOn {c : Nat} (hc : isChap c) {v1 : Int32} {v2 : Int32} {N : hn} : f_Light_panesOn S0 19 v1 v2 (N.1, N.2, rT c) = em c (F_Light_panesOn c v1 v2 N) := by
  unfold f_Light_panesOn F_Light_panesOn
  (simp only [hl_n, hl_wI, hl_wL, hl_cp, em_s, em_n, em_g, em_i, em_l, em_b, em_v, emv_s, emv_n, emv_g, emv_i, emv_l, emv_b, emv_v, hb_em, hv_em, hg_T, ne_eq, not_false_eq_true, nz_c, S0_c, S0_lw, S0_h, isHold_36, hc, hc.d, hc.l, hc.d.l, nz_1, nz_2, nz_3, nz_4, nz_5, nz_6, nz_7, nz_8, S0_19, ib_34, rT_19_1, q_Light_panesOn_1 hc]) <;> rfl
set_option maxRecDepth 100000 in
set_option maxHeartbeats 4000000 in
theorem q_Laws_lookAtSpot {c : Nat} (hc : isChap c) {v0 : Nat} {v1 : Int32} {v2 : Int32} (hv0 : isLaws v0) {N : hn} : f_Laws_lookAtSpot S0 v0 v1 v2 (N.1, N.2, rT c) = emv c (F_Laws_lookAtSpot c v0 v1 v2 N) := by
  unfold f_Laws_lookAtSpot F_Laws_lookAtSpot
  (simp only [hl_n, hl_wI, hl_wL, hl_cp, em_s, em_n, em_g, em_i, em_l, em_b, em_v, emv_s, emv_n, emv_g, emv_i, emv_l, emv_b, emv_v, hb_em, hv_em, hg_T, ne_eq, not_false_eq_true, nz_c, S0_c, S0_lw, S0_h, isHold_36, hc, hc.d, hc.l, hc.d.l, nz_1, nz_2, nz_3, nz_4, nz_5, nz_6, nz_7, nz_8, hv0, ib_w5, rT_w5]) <;> rfl
set_option maxRecDepth 100000 in
set_option maxHeartbeats 4000000 in
theorem q_Rents_partOf {c : Nat} (hc : isChap c) {v0 : Nat} {v1 : Int32} {v2 : Int32} (hv0 : isLaws v0) {N : hn} : f_Rents_partOf S0 v0 v1 v2 (N.1, N.2, rT c) = em c (F_Rents_partOf c v0 v1 v2 N) := by
  unfold f_Rents_partOf F_Rents_partOf
  (simp only [hl_n, hl_wI, hl_wL, hl_cp, em_s, em_n, em_g, em_i, em_l, em_b, em_v, emv_s, emv_n, emv_g, emv_i, emv_l, emv_b, emv_v, hb_em, hv_em, hg_T, ne_eq, not_false_eq_true, nz_c, S0_c, S0_lw, S0_h, isHold_36, hc, hc.d, hc.l, hc.d.l, nz_1, nz_2, nz_3, nz_4, nz_5, nz_6, nz_7, nz_8, hv0, S0_43, q_Laws_lookAtSpot hc, q_Laws_valueOf hc]) <;> rfl
set_option maxRecDepth 100000 in
set_option maxHeartbeats 4000000 in
theorem r_Rents_shareOut_2 {c : Nat} (hc : isChap c) {k6 : Nat → Nat → Int32 → Int32 → Int32 → Int32 → hm_M → Option hm_M} {K6 : Int32 → Int32 → Int32 → Int32 → hn → Option hn} (hk6 : ∀ (v2 : Int32) (v3 : Int32) (v4 : Int32) (v5 : Int32) (N : hn), k6 43 19 v2 v3 v4 v5 (N.1, N.2, rT c) = emv c (K6 v2 v3 v4 v5 N)) {k82 : Nat → Nat → Int32 → Int32 → Int32 → Int32 → Int32 → Int32 → Int32 → hm_M → Option hm_M} {K82 : Int32 → Int32 → Int32 → Int32 → Int32 → Int32 → Int32 → hn → Option hn} (hk82 : ∀ (v2 : Int32) (v3 : Int32) (v4 : Int32) (v5 : Int32) (v6 : Int32) (v7 : Int32) (v8 : Int32) (N : hn), k82 43 19 v2 v3 v4 v5 v6 v7 v8 (N.1, N.2, rT c) = emv c (K82 v2 v3 v4 v5 v6 v7 v8 N)) {v2 : Int32} {v3 : Int32} {v4 : Int32} {v5 : Int32} {v6 : Int32} {v7 : Int32} {v8 : Int32} {N : hn} : b_Rents_shareOut_2 S0 k6 k82 43 19 v2 v3 v4 v5 v6 v7 v8 (N.1, N.2, rT c) = emv c (B_Rents_shareOut_2 c K6 K82 v2 v3 v4 v5 v6 v7 v8 N) := by
  unfold b_Rents_shareOut_2 B_Rents_shareOut_2
  (simp only [hl_n, hl_wI, hl_wL, hl_cp, em_s, em_n, em_g, em_i, em_l, em_b, em_v, emv_s, emv_n, emv_g, emv_i, emv_l, emv_b, emv_v, hb_em, hv_em, hg_T, ne_eq, not_false_eq_true, nz_c, S0_c, S0_lw, S0_h, isHold_36, hc, hc.d, hc.l, hc.d.l, nz_1, nz_2, nz_3, nz_4, nz_5, nz_6, nz_7, nz_8, S0_19, S0_43, ib_34, ib_44, q_J6_bitCount_0f7a4 hc, q_Light_panesOn hc, q_Rents_partOf hc, rT_19_0, rT_19_1, rT_43_0, rT_c12, hk6, hk82]) <;> rfl
theorem q_Rents_shareOut_2 {c : Nat} (hc : isChap c) {k6 : Nat → Nat → Int32 → Int32 → Int32 → Int32 → hm_M → Option hm_M} {K6 : Int32 → Int32 → Int32 → Int32 → hn → Option hn} (hk6 : ∀ (v2 : Int32) (v3 : Int32) (v4 : Int32) (v5 : Int32) (N : hn), k6 43 19 v2 v3 v4 v5 (N.1, N.2, rT c) = emv c (K6 v2 v3 v4 v5 N)) : ∀ (n : Nat) (v2 : Int32) (v3 : Int32) (v4 : Int32) (v5 : Int32) (v6 : Int32) (v7 : Int32) (v8 : Int32) (N : hn), f_Rents_shareOut_2 S0 k6 n 43 19 v2 v3 v4 v5 v6 v7 v8 (N.1, N.2, rT c) = emv c (F_Rents_shareOut_2 c K6 n v2 v3 v4 v5 v6 v7 v8 N) := by
  intro n
  induction n with
  | zero => intros; rfl
  | succ n ih => intro v2 v3 v4 v5 v6 v7 v8 N ; exact r_Rents_shareOut_2 hc hk6 ih 
set_option maxRecDepth 100000 in
set_option maxHeartbeats 4000000 in
theorem r_Rents_shareOut_1 {c : Nat} (hc : isChap c) {k6 : Nat → Nat → Int32 → Int32 → Int32 → Int32 → hm_M → Option hm_M} {K6 : Int32 → Int32 → Int32 → Int32 → hn → Option hn} (hk6 : ∀ (v2 : Int32) (v3 : Int32) (v4 : Int32) (v5 : Int32) (N : hn), k6 43 19 v2 v3 v4 v5 (N.1, N.2, rT c) = emv c (K6 v2 v3 v4 v5 N)) {v2 : Int32} {v3 : Int32} {v4 : Int32} {v5 : Int32} {N : hn} : b_Rents_shareOut_1 S0 k6 43 19 v2 v3 v4 v5 (N.1, N.2, rT c) = emv c (B_Rents_shareOut_1 c K6 v2 v3 v4 v5 N) := by
  unfold b_Rents_shareOut_1 B_Rents_shareOut_1
  (simp only [hl_n, hl_wI, hl_wL, hl_cp, em_s, em_n, em_g, em_i, em_l, em_b, em_v, emv_s, emv_n, emv_g, emv_i, emv_l, emv_b, emv_v, hb_em, hv_em, hg_T, ne_eq, not_false_eq_true, nz_c, S0_c, S0_lw, S0_h, isHold_36, hc, hc.d, hc.l, hc.d.l, nz_1, nz_2, nz_3, nz_4, nz_5, nz_6, nz_7, nz_8, S0_19, S0_43, ib_34, ib_44, q_J6_bitCount_0f7a4 hc, q_Light_panesOn hc, q_Rents_partOf hc, rT_19_0, rT_19_1, rT_43_0, rT_c12, hk6, q_Rents_shareOut_2 hc hk6]) <;> rfl
theorem q_Rents_shareOut_1 {c : Nat} (hc : isChap c) : ∀ (n : Nat) (v2 : Int32) (v3 : Int32) (v4 : Int32) (v5 : Int32) (N : hn), f_Rents_shareOut_1 S0 n 43 19 v2 v3 v4 v5 (N.1, N.2, rT c) = emv c (F_Rents_shareOut_1 c n v2 v3 v4 v5 N) := by
  intro n
  induction n with
  | zero => intros; rfl
  | succ n ih => intro v2 v3 v4 v5 N ; exact r_Rents_shareOut_1 hc  ih 
set_option maxRecDepth 100000 in
set_option maxHeartbeats 4000000 in
theorem q_Rents_shareOut {c : Nat} (hc : isChap c) {v2 : Int32} {v3 : Int32} {N : hn} : f_Rents_shareOut S0 43 19 v2 v3 (N.1, N.2, rT c) = emv c (F_Rents_shareOut c v2 v3 N) := by
  unfold f_Rents_shareOut F_Rents_shareOut
  (simp only [hl_n, hl_wI, hl_wL, hl_cp, em_s, em_n, em_g, em_i, em_l, em_b, em_v, emv_s, emv_n, emv_g, emv_i, emv_l, emv_b, emv_v, hb_em, hv_em, hg_T, ne_eq, not_false_eq_true, nz_c, S0_c, S0_lw, S0_h, isHold_36, hc, hc.d, hc.l, hc.d.l, nz_1, nz_2, nz_3, nz_4, nz_5, nz_6, nz_7, nz_8, S0_19, S0_43, ib_34, ib_44, q_J6_bitCount_0f7a4 hc, q_Light_panesOn hc, q_Rents_partOf hc, rT_19_0, rT_19_1, rT_43_0, rT_c12, q_Rents_shareOut_1 hc]) <;> rfl
set_option maxRecDepth 100000 in
set_option maxHeartbeats 4000000 in
theorem r_Rents_measure_2 {c : Nat} (hc : isChap c) {k37 : Nat → Nat → Int32 → Int32 → Int32 → Int64 → Int32 → hm_M → Option hm_M} {K37 : Int32 → Int32 → Int32 → Int64 → Int32 → hn → Option hn} (hk37 : ∀ (v2 : Int32) (v4 : Int32) (v5 : Int32) (v6 : Int64) (v8 : Int32) (N : hn), k37 43 19 v2 v4 v5 v6 v8 (N.1, N.2, rT c) = emv c (K37 v2 v4 v5 v6 v8 N)) {v2 : Int32} {v4 : Int32} {v5 : Int32} {v6 : Int64} {v8 : Int32} {N : hn} : b_Rents_measure_2 S0 k37 43 19 v2 v4 v5 v6 v8 (N.1, N.2, rT c) = emv c (B_Rents_measure_2 c K37 v2 v4 v5 v6 v8 N) := by
  unfold b_Rents_measure_2 B_Rents_measure_2
  (simp only [hl_n, hl_wI, hl_wL, hl_cp, em_s, em_n, em_g, em_i, em_l, em_b, em_v, emv_s, emv_n, emv_g, emv_i, emv_l, emv_b, emv_v, hb_em, hv_em, hg_T, ne_eq, not_false_eq_true, nz_c, S0_c, S0_lw, S0_h, isHold_36, hc, hc.d, hc.l, hc.d.l, nz_1, nz_2, nz_3, nz_4, nz_5, nz_6, nz_7, nz_8, S0_19, S0_43, ib_44, q_Light_turnTo hc, q_Rents_shareOut hc, rT_43_0, hk37]) <;> rfl
theorem q_Rents_measure_2 {c : Nat} (hc : isChap c) : ∀ (n : Nat) (v2 : Int32) (v4 : Int32) (v5 : Int32) (v6 : Int64) (v8 : Int32) (N : hn), f_Rents_measure_2 S0 n 43 19 v2 v4 v5 v6 v8 (N.1, N.2, rT c) = emv c (F_Rents_measure_2 c n v2 v4 v5 v6 v8 N) := by
  intro n
  induction n with
  | zero => intros; rfl
  | succ n ih => intro v2 v4 v5 v6 v8 N ; exact r_Rents_measure_2 hc  ih 
set_option maxRecDepth 100000 in
set_option maxHeartbeats 4000000 in
theorem r_Rents_measure_1 {c : Nat} (hc : isChap c) {k3 : Nat → Nat → Int32 → Int32 → Int32 → Int32 → Int32 → hm_M → Option hm_M} {K3 : Int32 → Int32 → Int32 → Int32 → Int32 → hn → Option hn} (hk3 : ∀ (v2 : Int32) (v3 : Int32) (v4 : Int32) (v5 : Int32) (v6 : Int32) (N : hn), k3 43 19 v2 v3 v4 v5 v6 (N.1, N.2, rT c) = emv c (K3 v2 v3 v4 v5 v6 N)) {v2 : Int32} {v3 : Int32} {v4 : Int32} {v5 : Int32} {v6 : Int32} {N : hn} : b_Rents_measure_1 S0 k3 43 19 v2 v3 v4 v5 v6 (N.1, N.2, rT c) = emv c (B_Rents_measure_1 c K3 v2 v3 v4 v5 v6 N) := by
  unfold b_Rents_measure_1 B_Rents_measure_1
  (simp only [hl_n, hl_wI, hl_wL, hl_cp, em_s, em_n, em_g, em_i, em_l, em_b, em_v, emv_s, emv_n, emv_g, emv_i, emv_l, emv_b, emv_v, hb_em, hv_em, hg_T, ne_eq, not_false_eq_true, nz_c, S0_c, S0_lw, S0_h, isHold_36, hc, hc.d, hc.l, hc.d.l, nz_1, nz_2, nz_3, nz_4, nz_5, nz_6, nz_7, nz_8, S0_19, S0_43, ib_44, q_Light_turnTo hc, q_Rents_shareOut hc, rT_43_0, hk3, q_Rents_measure_2 hc]) <;> rfl
theorem q_Rents_measure_1 {c : Nat} (hc : isChap c) : ∀ (n : Nat) (v2 : Int32) (v3 : Int32) (v4 : Int32) (v5 : Int32) (v6 : Int32) (N : hn), f_Rents_measure_1 S0 n 43 19 v2 v3 v4 v5 v6 (N.1, N.2, rT c) = emv c (F_Rents_measure_1 c n v2 v3 v4 v5 v6 N) := by
  intro n
  induction n with
  | zero => intros; rfl
  | succ n ih => intro v2 v3 v4 v5 v6 N ; exact r_Rents_measure_1 hc  ih 
set_option maxRecDepth 100000 in
set_option maxHeartbeats 4000000 in
theorem q_Rents_measure {c : Nat} (hc : isChap c) {v2 : Int32} {v3 : Int32} {v4 : Int32} {v5 : Int32} {N : hn} : f_Rents_measure S0 43 19 v2 v3 v4 v5 (N.1, N.2, rT c) = emv c (F_Rents_measure c v2 v3 v4 v5 N) := by
  unfold f_Rents_measure F_Rents_measure
  (simp only [hl_n, hl_wI, hl_wL, hl_cp, em_s, em_n, em_g, em_i, em_l, em_b, em_v, emv_s, emv_n, emv_g, emv_i, emv_l, emv_b, emv_v, hb_em, hv_em, hg_T, ne_eq, not_false_eq_true, nz_c, S0_c, S0_lw, S0_h, isHold_36, hc, hc.d, hc.l, hc.d.l, nz_1, nz_2, nz_3, nz_4, nz_5, nz_6, nz_7, nz_8, S0_19, S0_43, ib_44, q_Light_turnTo hc, q_Rents_shareOut hc, rT_43_0, q_Rents_measure_1 hc, q_Rents_measure_2 hc]) <;> rfl
set_option maxRecDepth 100000 in
set_option maxHeartbeats 4000000 in
theorem q_Rents_yearOf_2 {c : Nat} (hc : isChap c) {v2 : Int32} {N : hn} : b_Rents_yearOf_2 S0 43 19 v2 (N.1, N.2, rT c) = em c (B_Rents_yearOf_2 c v2 N) := by
  unfold b_Rents_yearOf_2 B_Rents_yearOf_2
  (simp only [hl_n, hl_wI, hl_wL, hl_cp, em_s, em_n, em_g, em_i, em_l, em_b, em_v, emv_s, emv_n, emv_g, emv_i, emv_l, emv_b, emv_v, hb_em, hv_em, hg_T, ne_eq, not_false_eq_true, nz_c, S0_c, S0_lw, S0_h, isHold_36, hc, hc.d, hc.l, hc.d.l, nz_1, nz_2, nz_3, nz_4, nz_5, nz_6, nz_7, nz_8, S0_43, ib_45, q_Rents_measure hc, rT_43_1]) <;> rfl
set_option maxRecDepth 100000 in
set_option maxHeartbeats 4000000 in
theorem r_Rents_yearOf_1 {c : Nat} (hc : isChap c) {k2 : Nat → Nat → Int32 → Int32 → hm_M → Option (Int32 × hm_M)} {K2 : Int32 → Int32 → hn → Option (Int32 × hn)} (hk2 : ∀ (v2 : Int32) (v3 : Int32) (N : hn), k2 43 19 v2 v3 (N.1, N.2, rT c) = em c (K2 v2 v3 N)) {v2 : Int32} {v3 : Int32} {N : hn} : b_Rents_yearOf_1 S0 k2 43 19 v2 v3 (N.1, N.2, rT c) = em c (B_Rents_yearOf_1 c K2 v2 v3 N) := by
  unfold b_Rents_yearOf_1 B_Rents_yearOf_1
  (simp only [hl_n, hl_wI, hl_wL, hl_cp, em_s, em_n, em_g, em_i, em_l, em_b, em_v, emv_s, emv_n, emv_g, emv_i, emv_l, emv_b, emv_v, hb_em, hv_em, hg_T, ne_eq, not_false_eq_true, nz_c, S0_c, S0_lw, S0_h, isHold_36, hc, hc.d, hc.l, hc.d.l, nz_1, nz_2, nz_3, nz_4, nz_5, nz_6, nz_7, nz_8, S0_43, ib_45, q_Rents_measure hc, rT_43_1, hk2, q_Rents_yearOf_2 hc]) <;> rfl
theorem q_Rents_yearOf_1 {c : Nat} (hc : isChap c) : ∀ (n : Nat) (v2 : Int32) (v3 : Int32) (N : hn), f_Rents_yearOf_1 S0 n 43 19 v2 v3 (N.1, N.2, rT c) = em c (F_Rents_yearOf_1 c n v2 v3 N) := by
  intro n
  induction n with
  | zero => intros; rfl
  | succ n ih => intro v2 v3 N ; exact r_Rents_yearOf_1 hc  ih 
set_option maxRecDepth 100000 in
set_option maxHeartbeats 4000000 in
theorem q_Rents_yearOf {c : Nat} (hc : isChap c) {v2 : Int32} {N : hn} : f_Rents_yearOf S0 43 19 v2 (N.1, N.2, rT c) = em c (F_Rents_yearOf c v2 N) := by
  unfold f_Rents_yearOf F_Rents_yearOf
  (simp only [hl_n, hl_wI, hl_wL, hl_cp, em_s, em_n, em_g, em_i, em_l, em_b, em_v, emv_s, emv_n, emv_g, emv_i, emv_l, emv_b, emv_v, hb_em, hv_em, hg_T, ne_eq, not_false_eq_true, nz_c, S0_c, S0_lw, S0_h, isHold_36, hc, hc.d, hc.l, hc.d.l, nz_1, nz_2, nz_3, nz_4, nz_5, nz_6, nz_7, nz_8, S0_43, ib_45, q_Rents_measure hc, rT_43_1, q_Rents_yearOf_1 hc, q_Rents_yearOf_2 hc]) <;> rfl
set_option maxRecDepth 100000 in
set_option maxHeartbeats 4000000 in
theorem q_Ps_yearNow {c : Nat} (hc : isChap c) {N : hn} : f_Ps_yearNow S0 1 (N.1, N.2, rT c) = em c (F_Ps_yearNow c N) := by
  unfold f_Ps_yearNow F_Ps_yearNow
  (simp only [hl_n, hl_wI, hl_wL, hl_cp, em_s, em_n, em_g, em_i, em_l, em_b, em_v, emv_s, emv_n, emv_g, emv_i, emv_l, emv_b, emv_v, hb_em, hv_em, hg_T, ne_eq, not_false_eq_true, nz_c, S0_c, S0_lw, S0_h, isHold_36, hc, hc.d, hc.l, hc.d.l, nz_1, nz_2, nz_3, nz_4, nz_5, nz_6, nz_7, nz_8, S0_1, S0_19, S0_36, S0_43, q_Hold_lit hc, q_Rents_yearOf hc, rT_1_1, rT_1_2, rT_1_4]) <;> rfl
set_option maxRecDepth 100000 in
set_option maxHeartbeats 4000000 in
theorem q_Rents_given {c : Nat} (hc : isChap c) {v1 : Int32} {v2 : Int32} {N : hn} : f_Rents_given S0 43 v1 v2 (N.1, N.2, rT c) = em c (F_Rents_given c v1 v2 N) := by
  unfold f_Rents_given F_Rents_given
  (simp only [hl_n, hl_wI, hl_wL, hl_cp, em_s, em_n, em_g, em_i, em_l, em_b, em_v, emv_s, emv_n, emv_g, emv_i, emv_l, emv_b, emv_v, hb_em, hv_em, hg_T, ne_eq, not_false_eq_true, nz_c, S0_c, S0_lw, S0_h, isHold_36, hc, hc.d, hc.l, hc.d.l, nz_1, nz_2, nz_3, nz_4, nz_5, nz_6, nz_7, nz_8, S0_43, ib_44, rT_43_0]) <;> rfl
set_option maxRecDepth 100000 in
set_option maxHeartbeats 4000000 in
theorem q_Rents_worthTo {c : Nat} (hc : isChap c) {v1 : Nat} {v2 : Int32} {v3 : Int32} {v4 : Int32} (hv1 : isChap v1) {N : hn} : f_Rents_worthTo S0 43 v1 v2 v3 v4 (N.1, N.2, rT c) = em c (F_Rents_worthTo c v1 v2 v3 v4 N) := by
  unfold f_Rents_worthTo F_Rents_worthTo
  (simp only [hl_n, hl_wI, hl_wL, hl_cp, em_s, em_n, em_g, em_i, em_l, em_b, em_v, emv_s, emv_n, emv_g, emv_i, emv_l, emv_b, emv_v, hb_em, hv_em, hg_T, ne_eq, not_false_eq_true, nz_c, S0_c, S0_lw, S0_h, isHold_36, hc, hc.d, hc.l, hc.d.l, nz_1, nz_2, nz_3, nz_4, nz_5, nz_6, nz_7, nz_8, hv1, hv1.l, S0_43, ib_c11, ib_c6, q_J6_bitCount_0f7a4 hc, q_Rents_given hc, rT_c11, rT_c6]) <;> rfl
set_option maxRecDepth 100000 in
set_option maxHeartbeats 4000000 in
theorem q_Rents_gainOf {c : Nat} (hc : isChap c) {v1 : Nat} {v2 : Nat} {v3 : Int32} {v4 : Int32} {v5 : Int32} (hv1 : isChap v1) (hv2 : isHold v2) {N : hn} : f_Rents_gainOf S0 43 v1 v2 v3 v4 v5 (N.1, N.2, rT c) = em c (F_Rents_gainOf c v1 v2 v3 v4 v5 N) := by
  unfold f_Rents_gainOf F_Rents_gainOf
  (simp only [hl_n, hl_wI, hl_wL, hl_cp, em_s, em_n, em_g, em_i, em_l, em_b, em_v, emv_s, emv_n, emv_g, emv_i, emv_l, emv_b, emv_v, hb_em, hv_em, hg_T, ne_eq, not_false_eq_true, nz_c, S0_c, S0_lw, S0_h, isHold_36, hc, hc.d, hc.l, hc.d.l, nz_1, nz_2, nz_3, nz_4, nz_5, nz_6, nz_7, nz_8, hv1, hv2, hv1.l, S0_43, ib_h0, q_Rents_worthTo hc, rT_h0]) <;> rfl
set_option maxRecDepth 100000 in
set_option maxHeartbeats 4000000 in
theorem r_Trade_mostWith_1 {c : Nat} (hc : isChap c) {k10 : Nat → Int32 → Int32 → Int32 → Int32 → hm_M → Option (Int32 × hm_M)} {K10 : Int32 → Int32 → Int32 → Int32 → hn → Option (Int32 × hn)} (hk10 : ∀ (v1 : Int32) (v2 : Int32) (v3 : Int32) (v4 : Int32) (N : hn), k10 47 v1 v2 v3 v4 (N.1, N.2, rT c) = em c (K10 v1 v2 v3 v4 N)) {v1 : Int32} {v2 : Int32} {v3 : Int32} {v4 : Int32} {N : hn} : b_Trade_mostWith_1 S0 k10 47 v1 v2 v3 v4 (N.1, N.2, rT c) = em c (B_Trade_mostWith_1 c K10 v1 v2 v3 v4 N) := by
  unfold b_Trade_mostWith_1 B_Trade_mostWith_1
  (simp only [hl_n, hl_wI, hl_wL, hl_cp, em_s, em_n, em_g, em_i, em_l, em_b, em_v, emv_s, emv_n, emv_g, emv_i, emv_l, emv_b, emv_v, hb_em, hv_em, hg_T, ne_eq, not_false_eq_true, nz_c, S0_c, S0_lw, S0_h, isHold_36, hc, hc.d, hc.l, hc.d.l, nz_1, nz_2, nz_3, nz_4, nz_5, nz_6, nz_7, nz_8, S0_47, ib_48, ib_49, rT_47_0, rT_47_1, hk10]) <;> rfl
theorem q_Trade_mostWith_1 {c : Nat} (hc : isChap c) : ∀ (n : Nat) (v1 : Int32) (v2 : Int32) (v3 : Int32) (v4 : Int32) (N : hn), f_Trade_mostWith_1 S0 n 47 v1 v2 v3 v4 (N.1, N.2, rT c) = em c (F_Trade_mostWith_1 c n v1 v2 v3 v4 N) := by
  intro n
  induction n with
  | zero => intros; rfl
  | succ n ih => intro v1 v2 v3 v4 N ; exact r_Trade_mostWith_1 hc  ih 
set_option maxRecDepth 100000 in
set_option maxHeartbeats 4000000 in
theorem q_Trade_mostWith {c : Nat} (hc : isChap c) {v1 : Int32} {v2 : Int32} {N : hn} : f_Trade_mostWith S0 47 v1 v2 (N.1, N.2, rT c) = em c (F_Trade_mostWith c v1 v2 N) := by
  unfold f_Trade_mostWith F_Trade_mostWith
  (simp only [hl_n, hl_wI, hl_wL, hl_cp, em_s, em_n, em_g, em_i, em_l, em_b, em_v, emv_s, emv_n, emv_g, emv_i, emv_l, emv_b, emv_v, hb_em, hv_em, hg_T, ne_eq, not_false_eq_true, nz_c, S0_c, S0_lw, S0_h, isHold_36, hc, hc.d, hc.l, hc.d.l, nz_1, nz_2, nz_3, nz_4, nz_5, nz_6, nz_7, nz_8, S0_47, ib_48, ib_49, rT_47_0, rT_47_1, q_Trade_mostWith_1 hc]) <;> rfl
set_option maxRecDepth 100000 in
set_option maxHeartbeats 4000000 in
theorem r_Trade_leastPartner_1 {c : Nat} (hc : isChap c) {k17 : Nat → Int32 → Int32 → Int32 → Int32 → Int32 → hm_M → Option (Int32 × hm_M)} {K17 : Int32 → Int32 → Int32 → Int32 → Int32 → hn → Option (Int32 × hn)} (hk17 : ∀ (v1 : Int32) (v2 : Int32) (v3 : Int32) (v4 : Int32) (v5 : Int32) (N : hn), k17 47 v1 v2 v3 v4 v5 (N.1, N.2, rT c) = em c (K17 v1 v2 v3 v4 v5 N)) {v1 : Int32} {v2 : Int32} {v3 : Int32} {v4 : Int32} {v5 : Int32} {N : hn} : b_Trade_leastPartner_1 S0 k17 47 v1 v2 v3 v4 v5 (N.1, N.2, rT c) = em c (B_Trade_leastPartner_1 c K17 v1 v2 v3 v4 v5 N) := by
  unfold b_Trade_leastPartner_1 B_Trade_leastPartner_1
  (simp only [hl_n, hl_wI, hl_wL, hl_cp, em_s, em_n, em_g, em_i, em_l, em_b, em_v, emv_s, emv_n, emv_g, emv_i, emv_l, emv_b, emv_v, hb_em, hv_em, hg_T, ne_eq, not_false_eq_true, nz_c, S0_c, S0_lw, S0_h, isHold_36, hc, hc.d, hc.l, hc.d.l, nz_1, nz_2, nz_3, nz_4, nz_5, nz_6, nz_7, nz_8, S0_47, ib_48, ib_49, rT_47_0, rT_47_1, hk17]) <;> rfl
theorem q_Trade_leastPartner_1 {c : Nat} (hc : isChap c) : ∀ (n : Nat) (v1 : Int32) (v2 : Int32) (v3 : Int32) (v4 : Int32) (v5 : Int32) (N : hn), f_Trade_leastPartner_1 S0 n 47 v1 v2 v3 v4 v5 (N.1, N.2, rT c) = em c (F_Trade_leastPartner_1 c n v1 v2 v3 v4 v5 N) := by
  intro n
  induction n with
  | zero => intros; rfl
  | succ n ih => intro v1 v2 v3 v4 v5 N ; exact r_Trade_leastPartner_1 hc  ih 
set_option maxRecDepth 100000 in
set_option maxHeartbeats 4000000 in
theorem q_Trade_leastPartner {c : Nat} (hc : isChap c) {v1 : Int32} {v2 : Int32} {v3 : Int32} {v4 : Int32} {N : hn} : f_Trade_leastPartner S0 47 v1 v2 v3 v4 (N.1, N.2, rT c) = em c (F_Trade_leastPartner c v1 v2 v3 v4 N) := by
  unfold f_Trade_leastPartner F_Trade_leastPartner
  (simp only [hl_n, hl_wI, hl_wL, hl_cp, em_s, em_n, em_g, em_i, em_l, em_b, em_v, emv_s, emv_n, emv_g, emv_i, emv_l, emv_b, emv_v, hb_em, hv_em, hg_T, ne_eq, not_false_eq_true, nz_c, S0_c, S0_lw, S0_h, isHold_36, hc, hc.d, hc.l, hc.d.l, nz_1, nz_2, nz_3, nz_4, nz_5, nz_6, nz_7, nz_8, S0_47, ib_48, ib_49, rT_47_0, rT_47_1, q_Trade_leastPartner_1 hc]) <;> rfl
set_option maxRecDepth 100000 in
set_option maxHeartbeats 4000000 in
theorem r_Trade_choose_1 {c : Nat} (hc : isChap c) {k8 : Nat → Int32 → Int32 → Int32 → hm_M → Option hm_M} {K8 : Int32 → Int32 → Int32 → hn → Option hn} (hk8 : ∀ (v1 : Int32) (v2 : Int32) (v3 : Int32) (N : hn), k8 47 v1 v2 v3 (N.1, N.2, rT c) = emv c (K8 v1 v2 v3 N)) {v1 : Int32} {v2 : Int32} {v3 : Int32} {N : hn} : b_Trade_choose_1 S0 k8 47 v1 v2 v3 (N.1, N.2, rT c) = emv c (B_Trade_choose_1 c K8 v1 v2 v3 N) := by
  unfold b_Trade_choose_1 B_Trade_choose_1
  (simp only [hl_n, hl_wI, hl_wL, hl_cp, em_s, em_n, em_g, em_i, em_l, em_b, em_v, emv_s, emv_n, emv_g, emv_i, emv_l, emv_b, emv_v, hb_em, hv_em, hg_T, ne_eq, not_false_eq_true, nz_c, S0_c, S0_lw, S0_h, isHold_36, hc, hc.d, hc.l, hc.d.l, nz_1, nz_2, nz_3, nz_4, nz_5, nz_6, nz_7, nz_8, S0_47, ib_49, ib_50, q_Trade_leastPartner hc, rT_47_1, rT_47_2, hk8]) <;> rfl
theorem q_Trade_choose_1 {c : Nat} (hc : isChap c) : ∀ (n : Nat) (v1 : Int32) (v2 : Int32) (v3 : Int32) (N : hn), f_Trade_choose_1 S0 n 47 v1 v2 v3 (N.1, N.2, rT c) = emv c (F_Trade_choose_1 c n v1 v2 v3 N) := by
  intro n
  induction n with
  | zero => intros; rfl
  | succ n ih => intro v1 v2 v3 N ; exact r_Trade_choose_1 hc  ih 
set_option maxRecDepth 100000 in
set_option maxHeartbeats 4000000 in
theorem q_Trade_choose {c : Nat} (hc : isChap c) {v1 : Int32} {N : hn} : f_Trade_choose S0 47 v1 (N.1, N.2, rT c) = emv c (F_Trade_choose c v1 N) := by
  unfold f_Trade_choose F_Trade_choose
  (simp only [hl_n, hl_wI, hl_wL, hl_cp, em_s, em_n, em_g, em_i, em_l, em_b, em_v, emv_s, emv_n, emv_g, emv_i, emv_l, emv_b, emv_v, hb_em, hv_em, hg_T, ne_eq, not_false_eq_true, nz_c, S0_c, S0_lw, S0_h, isHold_36, hc, hc.d, hc.l, hc.d.l, nz_1, nz_2, nz_3, nz_4, nz_5, nz_6, nz_7, nz_8, S0_47, ib_49, ib_50, q_Trade_leastPartner hc, rT_47_1, rT_47_2, q_Trade_choose_1 hc]) <;> rfl
set_option maxRecDepth 100000 in
set_option maxHeartbeats 4000000 in
theorem r_Trade_settle_6 {c : Nat} (hc : isChap c) {k111 : Nat → Int32 → Int32 → hm_M → Option hm_M} {K111 : Int32 → Int32 → hn → Option hn} (hk111 : ∀ (v5 : Int32) (v6 : Int32) (N : hn), k111 47 v5 v6 (N.1, N.2, rT c) = emv c (K111 v5 v6 N)) {k121 : Nat → Int32 → Int32 → Int32 → hm_M → Option hm_M} {K121 : Int32 → Int32 → Int32 → hn → Option hn} (hk121 : ∀ (v5 : Int32) (v6 : Int32) (v7 : Int32) (N : hn), k121 47 v5 v6 v7 (N.1, N.2, rT c) = emv c (K121 v5 v6 v7 N)) {v5 : Int32} {v6 : Int32} {v7 : Int32} {N : hn} : b_Trade_settle_6 S0 k111 k121 47 v5 v6 v7 (N.1, N.2, rT c) = emv c (B_Trade_settle_6 c K111 K121 v5 v6 v7 N) := by
  unfold b_Trade_settle_6 B_Trade_settle_6
  (simp only [hl_n, hl_wI, hl_wL, hl_cp, em_s, em_n, em_g, em_i, em_l, em_b, em_v, emv_s, emv_n, emv_g, emv_i, emv_l, emv_b, emv_v, hb_em, hv_em, hg_T, ne_eq, not_false_eq_true, nz_c, S0_c, S0_lw, S0_h, isHold_36, hc, hc.d, hc.l, hc.d.l, nz_1, nz_2, nz_3, nz_4, nz_5, nz_6, nz_7, nz_8, S0_43, S0_47, ib_48, ib_49, ib_h0, q_Rents_gainOf hc, q_Trade_choose hc, q_Trade_mostWith hc, rT_47_0, rT_47_1, rT_h0, hk111, hk121]) <;> rfl
theorem q_Trade_settle_6 {c : Nat} (hc : isChap c) {k111 : Nat → Int32 → Int32 → hm_M → Option hm_M} {K111 : Int32 → Int32 → hn → Option hn} (hk111 : ∀ (v5 : Int32) (v6 : Int32) (N : hn), k111 47 v5 v6 (N.1, N.2, rT c) = emv c (K111 v5 v6 N)) : ∀ (n : Nat) (v5 : Int32) (v6 : Int32) (v7 : Int32) (N : hn), f_Trade_settle_6 S0 k111 n 47 v5 v6 v7 (N.1, N.2, rT c) = emv c (F_Trade_settle_6 c K111 n v5 v6 v7 N) := by
  intro n
  induction n with
  | zero => intros; rfl
  | succ n ih => intro v5 v6 v7 N ; exact r_Trade_settle_6 hc hk111 ih 
set_option maxRecDepth 100000 in
set_option maxHeartbeats 4000000 in
theorem r_Trade_settle_5 {c : Nat} (hc : isChap c) {k111 : Nat → Int32 → Int32 → hm_M → Option hm_M} {K111 : Int32 → Int32 → hn → Option hn} (hk111 : ∀ (v5 : Int32) (v6 : Int32) (N : hn), k111 47 v5 v6 (N.1, N.2, rT c) = emv c (K111 v5 v6 N)) {v5 : Int32} {v6 : Int32} {N : hn} : b_Trade_settle_5 S0 k111 47 v5 v6 (N.1, N.2, rT c) = emv c (B_Trade_settle_5 c K111 v5 v6 N) := by
  unfold b_Trade_settle_5 B_Trade_settle_5
  (simp only [hl_n, hl_wI, hl_wL, hl_cp, em_s, em_n, em_g, em_i, em_l, em_b, em_v, emv_s, emv_n, emv_g, emv_i, emv_l, emv_b, emv_v, hb_em, hv_em, hg_T, ne_eq, not_false_eq_true, nz_c, S0_c, S0_lw, S0_h, isHold_36, hc, hc.d, hc.l, hc.d.l, nz_1, nz_2, nz_3, nz_4, nz_5, nz_6, nz_7, nz_8, S0_43, S0_47, ib_48, ib_49, ib_h0, q_Rents_gainOf hc, q_Trade_choose hc, q_Trade_mostWith hc, rT_47_0, rT_47_1, rT_h0, hk111, q_Trade_settle_6 hc hk111]) <;> rfl
theorem q_Trade_settle_5 {c : Nat} (hc : isChap c) : ∀ (n : Nat) (v5 : Int32) (v6 : Int32) (N : hn), f_Trade_settle_5 S0 n 47 v5 v6 (N.1, N.2, rT c) = emv c (F_Trade_settle_5 c n v5 v6 N) := by
  intro n
  induction n with
  | zero => intros; rfl
  | succ n ih => intro v5 v6 N ; exact r_Trade_settle_5 hc  ih 
set_option maxRecDepth 100000 in
set_option maxHeartbeats 4000000 in
theorem q_Trade_settle_4 {c : Nat} (hc : isChap c) {k14 : Nat → Nat → Nat → Nat → Int32 → Int32 → Int32 → hm_M → Option hm_M} {K14 : Nat → Nat → Int32 → Int32 → Int32 → hn → Option hn} (hk14 : ∀ (v1 : Nat) (v2 : Nat) (v4 : Int32) (v5 : Int32) (v6 : Int32) (N : hn), isChap v1 → isHold v2 → k14 47 v1 v2 43 v4 v5 v6 (N.1, N.2, rT c) = emv c (K14 v1 v2 v4 v5 v6 N)) {k24 : Nat → Nat → Nat → Nat → Int32 → Int32 → Int32 → Int32 → hm_M → Option hm_M} {K24 : Nat → Nat → Int32 → Int32 → Int32 → Int32 → hn → Option hn} (hk24 : ∀ (v1 : Nat) (v2 : Nat) (v4 : Int32) (v5 : Int32) (v6 : Int32) (v7 : Int32) (N : hn), isChap v1 → isHold v2 → k24 47 v1 v2 43 v4 v5 v6 v7 (N.1, N.2, rT c) = emv c (K24 v1 v2 v4 v5 v6 v7 N)) {v1 : Nat} {v2 : Nat} {v4 : Int32} {v5 : Int32} {v6 : Int32} {v7 : Int32} {s0 : Int32} {s1 : Int32} (hv1 : isChap v1) (hv2 : isHold v2) {N : hn} : b_Trade_settle_4 S0 k14 k24 47 v1 v2 43 v4 v5 v6 v7 s0 s1 48 (N.1, N.2, rT c) = emv c (B_Trade_settle_4 c K14 K24 v1 v2 v4 v5 v6 v7 s0 s1 N) := by
  unfold b_Trade_settle_4 B_Trade_settle_4
  (simp only [hl_n, hl_wI, hl_wL, hl_cp, em_s, em_n, em_g, em_i, em_l, em_b, em_v, emv_s, emv_n, emv_g, emv_i, emv_l, emv_b, emv_v, hb_em, hv_em, hg_T, ne_eq, not_false_eq_true, nz_c, S0_c, S0_lw, S0_h, isHold_36, hc, hc.d, hc.l, hc.d.l, nz_1, nz_2, nz_3, nz_4, nz_5, nz_6, nz_7, nz_8, hv1, hv2, hv1.l, S0_43, S0_47, ib_48, ib_49, ib_h0, q_Rents_gainOf hc, q_Trade_choose hc, q_Trade_mostWith hc, rT_47_0, rT_47_1, rT_h0, hk14, hk24, q_Trade_settle_5 hc]) <;> rfl
set_option maxRecDepth 100000 in
set_option maxHeartbeats 4000000 in
theorem q_Trade_settle_3 {c : Nat} (hc : isChap c) {k14 : Nat → Nat → Nat → Nat → Int32 → Int32 → Int32 → hm_M → Option hm_M} {K14 : Nat → Nat → Int32 → Int32 → Int32 → hn → Option hn} (hk14 : ∀ (v1 : Nat) (v2 : Nat) (v4 : Int32) (v5 : Int32) (v6 : Int32) (N : hn), isChap v1 → isHold v2 → k14 47 v1 v2 43 v4 v5 v6 (N.1, N.2, rT c) = emv c (K14 v1 v2 v4 v5 v6 N)) {k24 : Nat → Nat → Nat → Nat → Int32 → Int32 → Int32 → Int32 → hm_M → Option hm_M} {K24 : Nat → Nat → Int32 → Int32 → Int32 → Int32 → hn → Option hn} (hk24 : ∀ (v1 : Nat) (v2 : Nat) (v4 : Int32) (v5 : Int32) (v6 : Int32) (v7 : Int32) (N : hn), isChap v1 → isHold v2 → k24 47 v1 v2 43 v4 v5 v6 v7 (N.1, N.2, rT c) = emv c (K24 v1 v2 v4 v5 v6 v7 N)) {v1 : Nat} {v2 : Nat} {v4 : Int32} {v5 : Int32} {v6 : Int32} {v7 : Int32} {s0 : Int32} (hv1 : isChap v1) (hv2 : isHold v2) {N : hn} : b_Trade_settle_3 S0 k14 k24 47 v1 v2 43 v4 v5 v6 v7 s0 (N.1, N.2, rT c) = emv c (B_Trade_settle_3 c K14 K24 v1 v2 v4 v5 v6 v7 s0 N) := by
  unfold b_Trade_settle_3 B_Trade_settle_3
  (simp only [hl_n, hl_wI, hl_wL, hl_cp, em_s, em_n, em_g, em_i, em_l, em_b, em_v, emv_s, emv_n, emv_g, emv_i, emv_l, emv_b, emv_v, hb_em, hv_em, hg_T, ne_eq, not_false_eq_true, nz_c, S0_c, S0_lw, S0_h, isHold_36, hc, hc.d, hc.l, hc.d.l, nz_1, nz_2, nz_3, nz_4, nz_5, nz_6, nz_7, nz_8, hv1, hv2, hv1.l, S0_43, S0_47, ib_48, ib_49, ib_h0, q_Rents_gainOf hc, q_Trade_choose hc, q_Trade_mostWith hc, rT_47_0, rT_47_1, rT_h0, hk14, hk24, q_Trade_settle_5 hc, q_Trade_settle_4 hc hk14 hk24]) <;> rfl
set_option maxRecDepth 100000 in
set_option maxHeartbeats 4000000 in
theorem r_Trade_settle_2 {c : Nat} (hc : isChap c) {k14 : Nat → Nat → Nat → Nat → Int32 → Int32 → Int32 → hm_M → Option hm_M} {K14 : Nat → Nat → Int32 → Int32 → Int32 → hn → Option hn} (hk14 : ∀ (v1 : Nat) (v2 : Nat) (v4 : Int32) (v5 : Int32) (v6 : Int32) (N : hn), isChap v1 → isHold v2 → k14 47 v1 v2 43 v4 v5 v6 (N.1, N.2, rT c) = emv c (K14 v1 v2 v4 v5 v6 N)) {k24 : Nat → Nat → Nat → Nat → Int32 → Int32 → Int32 → Int32 → hm_M → Option hm_M} {K24 : Nat → Nat → Int32 → Int32 → Int32 → Int32 → hn → Option hn} (hk24 : ∀ (v1 : Nat) (v2 : Nat) (v4 : Int32) (v5 : Int32) (v6 : Int32) (v7 : Int32) (N : hn), isChap v1 → isHold v2 → k24 47 v1 v2 43 v4 v5 v6 v7 (N.1, N.2, rT c) = emv c (K24 v1 v2 v4 v5 v6 v7 N)) {v1 : Nat} {v2 : Nat} {v4 : Int32} {v5 : Int32} {v6 : Int32} {v7 : Int32} (hv1 : isChap v1) (hv2 : isHold v2) {N : hn} : b_Trade_settle_2 S0 k14 k24 47 v1 v2 43 v4 v5 v6 v7 (N.1, N.2, rT c) = emv c (B_Trade_settle_2 c K14 K24 v1 v2 v4 v5 v6 v7 N) := by
  unfold b_Trade_settle_2 B_Trade_settle_2
  (simp only [hl_n, hl_wI, hl_wL, hl_cp, em_s, em_n, em_g, em_i, em_l, em_b, em_v, emv_s, emv_n, emv_g, emv_i, emv_l, emv_b, emv_v, hb_em, hv_em, hg_T, ne_eq, not_false_eq_true, nz_c, S0_c, S0_lw, S0_h, isHold_36, hc, hc.d, hc.l, hc.d.l, nz_1, nz_2, nz_3, nz_4, nz_5, nz_6, nz_7, nz_8, hv1, hv2, hv1.l, S0_43, S0_47, ib_48, ib_49, ib_h0, q_Rents_gainOf hc, q_Trade_choose hc, q_Trade_mostWith hc, rT_47_0, rT_47_1, rT_h0, hk14, hk24, q_Trade_settle_5 hc, q_Trade_settle_4 hc hk14 hk24, q_Trade_settle_3 hc hk14 hk24]) <;> rfl
theorem q_Trade_settle_2 {c : Nat} (hc : isChap c) {k14 : Nat → Nat → Nat → Nat → Int32 → Int32 → Int32 → hm_M → Option hm_M} {K14 : Nat → Nat → Int32 → Int32 → Int32 → hn → Option hn} (hk14 : ∀ (v1 : Nat) (v2 : Nat) (v4 : Int32) (v5 : Int32) (v6 : Int32) (N : hn), isChap v1 → isHold v2 → k14 47 v1 v2 43 v4 v5 v6 (N.1, N.2, rT c) = emv c (K14 v1 v2 v4 v5 v6 N)) : ∀ (n : Nat) (v1 : Nat) (v2 : Nat) (v4 : Int32) (v5 : Int32) (v6 : Int32) (v7 : Int32) (N : hn), isChap v1 → isHold v2 → f_Trade_settle_2 S0 k14 n 47 v1 v2 43 v4 v5 v6 v7 (N.1, N.2, rT c) = emv c (F_Trade_settle_2 c K14 n v1 v2 v4 v5 v6 v7 N) := by
  intro n
  induction n with
  | zero => intros; rfl
  | succ n ih => intro v1 v2 v4 v5 v6 v7 N hv1 hv2; exact r_Trade_settle_2 hc hk14 ih hv1 hv2
set_option maxRecDepth 100000 in
set_option maxHeartbeats 4000000 in
theorem r_Trade_settle_1 {c : Nat} (hc : isChap c) {k14 : Nat → Nat → Nat → Nat → Int32 → Int32 → Int32 → hm_M → Option hm_M} {K14 : Nat → Nat → Int32 → Int32 → Int32 → hn → Option hn} (hk14 : ∀ (v1 : Nat) (v2 : Nat) (v4 : Int32) (v5 : Int32) (v6 : Int32) (N : hn), isChap v1 → isHold v2 → k14 47 v1 v2 43 v4 v5 v6 (N.1, N.2, rT c) = emv c (K14 v1 v2 v4 v5 v6 N)) {v1 : Nat} {v2 : Nat} {v4 : Int32} {v5 : Int32} {v6 : Int32} (hv1 : isChap v1) (hv2 : isHold v2) {N : hn} : b_Trade_settle_1 S0 k14 47 v1 v2 43 v4 v5 v6 (N.1, N.2, rT c) = emv c (B_Trade_settle_1 c K14 v1 v2 v4 v5 v6 N) := by
  unfold b_Trade_settle_1 B_Trade_settle_1
  (simp only [hl_n, hl_wI, hl_wL, hl_cp, em_s, em_n, em_g, em_i, em_l, em_b, em_v, emv_s, emv_n, emv_g, emv_i, emv_l, emv_b, emv_v, hb_em, hv_em, hg_T, ne_eq, not_false_eq_true, nz_c, S0_c, S0_lw, S0_h, isHold_36, hc, hc.d, hc.l, hc.d.l, nz_1, nz_2, nz_3, nz_4, nz_5, nz_6, nz_7, nz_8, hv1, hv2, hv1.l, S0_43, S0_47, ib_48, ib_49, ib_h0, q_Rents_gainOf hc, q_Trade_choose hc, q_Trade_mostWith hc, rT_47_0, rT_47_1, rT_h0, hk14, q_Trade_settle_5 hc, q_Trade_settle_2 hc hk14]) <;> rfl
theorem q_Trade_settle_1 {c : Nat} (hc : isChap c) : ∀ (n : Nat) (v1 : Nat) (v2 : Nat) (v4 : Int32) (v5 : Int32) (v6 : Int32) (N : hn), isChap v1 → isHold v2 → f_Trade_settle_1 S0 n 47 v1 v2 43 v4 v5 v6 (N.1, N.2, rT c) = emv c (F_Trade_settle_1 c n v1 v2 v4 v5 v6 N) := by
  intro n
  induction n with
  | zero => intros; rfl
  | succ n ih => intro v1 v2 v4 v5 v6 N hv1 hv2; exact r_Trade_settle_1 hc  ih hv1 hv2
set_option maxRecDepth 100000 in
set_option maxHeartbeats 4000000 in
theorem q_Trade_settle {c : Nat} (hc : isChap c) {v1 : Nat} {v2 : Nat} {v4 : Int32} (hv1 : isChap v1) (hv2 : isHold v2) {N : hn} : f_Trade_settle S0 47 v1 v2 43 v4 (N.1, N.2, rT c) = emv c (F_Trade_settle c v1 v2 v4 N) := by
  unfold f_Trade_settle F_Trade_settle
  (simp only [hl_n, hl_wI, hl_wL, hl_cp, em_s, em_n, em_g, em_i, em_l, em_b, em_v, emv_s, emv_n, emv_g, emv_i, emv_l, emv_b, emv_v, hb_em, hv_em, hg_T, ne_eq, not_false_eq_true, nz_c, S0_c, S0_lw, S0_h, isHold_36, hc, hc.d, hc.l, hc.d.l, nz_1, nz_2, nz_3, nz_4, nz_5, nz_6, nz_7, nz_8, hv1, hv2, hv1.l, S0_43, S0_47, ib_48, ib_49, ib_h0, q_Rents_gainOf hc, q_Trade_choose hc, q_Trade_mostWith hc, rT_47_0, rT_47_1, rT_h0, q_Trade_settle_1 hc, q_Trade_settle_5 hc]) <;> rfl
set_option maxRecDepth 100000 in
set_option maxHeartbeats 4000000 in
theorem q_Ps_best_1 {c : Nat} (hc : isChap c) {v1 : Int32} {N : hn} : b_Ps_best_1 S0 1 v1 (N.1, N.2, rT c) = em c (B_Ps_best_1 c v1 N) := by
  unfold b_Ps_best_1 B_Ps_best_1
  (simp only [hl_n, hl_wI, hl_wL, hl_cp, em_s, em_n, em_g, em_i, em_l, em_b, em_v, emv_s, emv_n, emv_g, emv_i, emv_l, emv_b, emv_v, hb_em, hv_em, hg_T, ne_eq, not_false_eq_true, nz_c, S0_c, S0_lw, S0_h, isHold_36, hc, hc.d, hc.l, hc.d.l, nz_1, nz_2, nz_3, nz_4, nz_5, nz_6, nz_7, nz_8, S0_1, S0_19, S0_36, S0_43, S0_47, ib_50, q_Ps_isPane hc, q_Ps_yearNow hc, q_Trade_settle hc, rT_19_0, rT_1_1, rT_1_2, rT_1_4, rT_1_5, rT_47_2]) <;> rfl
set_option maxRecDepth 100000 in
set_option maxHeartbeats 4000000 in
theorem q_Ps_best {c : Nat} (hc : isChap c) {v1 : Int32} {N : hn} : f_Ps_best S0 1 v1 (N.1, N.2, rT c) = em c (F_Ps_best c v1 N) := by
  unfold f_Ps_best F_Ps_best
  (simp only [hl_n, hl_wI, hl_wL, hl_cp, em_s, em_n, em_g, em_i, em_l, em_b, em_v, emv_s, emv_n, emv_g, emv_i, emv_l, emv_b, emv_v, hb_em, hv_em, hg_T, ne_eq, not_false_eq_true, nz_c, S0_c, S0_lw, S0_h, isHold_36, hc, hc.d, hc.l, hc.d.l, nz_1, nz_2, nz_3, nz_4, nz_5, nz_6, nz_7, nz_8, S0_1, S0_19, S0_36, S0_43, S0_47, ib_50, q_Ps_isPane hc, q_Ps_yearNow hc, q_Trade_settle hc, rT_19_0, rT_1_1, rT_1_2, rT_1_4, rT_1_5, rT_47_2, q_Ps_best_1 hc]) <;> rfl
set_option maxRecDepth 100000 in
set_option maxHeartbeats 4000000 in
theorem q_Hold_isBroken {c : Nat} (hc : isChap c) {v0 : Nat} {v1 : Int32} (hv0 : isHold v0) {N : hn} : f_Hold_isBroken S0 v0 v1 (N.1, N.2, rT c) = em c (F_Hold_isBroken c v0 v1 N) := by
  unfold f_Hold_isBroken F_Hold_isBroken
  (simp only [hl_n, hl_wI, hl_wL, hl_cp, em_s, em_n, em_g, em_i, em_l, em_b, em_v, emv_s, emv_n, emv_g, emv_i, emv_l, emv_b, emv_v, hb_em, hv_em, hg_T, ne_eq, not_false_eq_true, nz_c, S0_c, S0_lw, S0_h, isHold_36, hc, hc.d, hc.l, hc.d.l, nz_1, nz_2, nz_3, nz_4, nz_5, nz_6, nz_7, nz_8, hv0]) <;> rfl
set_option maxRecDepth 100000 in
set_option maxHeartbeats 4000000 in
theorem q_Hold_turn {c : Nat} (hc : isChap c) {v0 : Nat} {v1 : Int32} (hv0 : isHold v0) {N : hn} : f_Hold_turn S0 v0 v1 (N.1, N.2, rT c) = emv c (F_Hold_turn c v0 v1 N) := by
  unfold f_Hold_turn F_Hold_turn
  (simp only [hl_n, hl_wI, hl_wL, hl_cp, em_s, em_n, em_g, em_i, em_l, em_b, em_v, emv_s, emv_n, emv_g, emv_i, emv_l, emv_b, emv_v, hb_em, hv_em, hg_T, ne_eq, not_false_eq_true, nz_c, S0_c, S0_lw, S0_h, isHold_36, hc, hc.d, hc.l, hc.d.l, nz_1, nz_2, nz_3, nz_4, nz_5, nz_6, nz_7, nz_8, hv0]) <;> rfl
set_option maxRecDepth 100000 in
set_option maxHeartbeats 4000000 in
theorem q_History_note {c : Nat} (hc : isChap c) {v1 : Int32} {v2 : Int32} {N : hn} : f_History_note S0 40 v1 v2 (N.1, N.2, rT c) = emv c (F_History_note c v1 v2 N) := by
  unfold f_History_note F_History_note
  (simp only [hl_n, hl_wI, hl_wL, hl_cp, em_s, em_n, em_g, em_i, em_l, em_b, em_v, emv_s, emv_n, emv_g, emv_i, emv_l, emv_b, emv_v, hb_em, hv_em, hg_T, ne_eq, not_false_eq_true, nz_c, S0_c, S0_lw, S0_h, isHold_36, hc, hc.d, hc.l, hc.d.l, nz_1, nz_2, nz_3, nz_4, nz_5, nz_6, nz_7, nz_8, S0_40, ib_41, ib_42, rT_40_0, rT_40_1]) <;> rfl
set_option maxRecDepth 100000 in
set_option maxHeartbeats 4000000 in
theorem q_Ps_breaks {c : Nat} (hc : isChap c) {v1 : Int32} {v2 : Int32} {N : hn} : f_Ps_breaks S0 1 v1 v2 (N.1, N.2, rT c) = em c (F_Ps_breaks c v1 v2 N) := by
  unfold f_Ps_breaks F_Ps_breaks
  (simp only [hl_n, hl_wI, hl_wL, hl_cp, em_s, em_n, em_g, em_i, em_l, em_b, em_v, emv_s, emv_n, emv_g, emv_i, emv_l, emv_b, emv_v, hb_em, hv_em, hg_T, ne_eq, not_false_eq_true, nz_c, S0_c, S0_lw, S0_h, isHold_36, hc, hc.d, hc.l, hc.d.l, nz_1, nz_2, nz_3, nz_4, nz_5, nz_6, nz_7, nz_8, S0_1, S0_36, S0_40, q_History_note hc, q_Hold_isBroken hc, q_Hold_turn hc, q_Ps_isPane hc, rT_1_2, rT_1_3]) <;> rfl
set_option maxRecDepth 100000 in
set_option maxHeartbeats 4000000 in
theorem q_Ps_canExchange {c : Nat} (hc : isChap c) {v1 : Int32} {v2 : Int32} {N : hn} : f_Ps_canExchange S0 1 v1 v2 (N.1, N.2, rT c) = em c (F_Ps_canExchange c v1 v2 N) := by
  unfold f_Ps_canExchange F_Ps_canExchange
  (simp only [hl_n, hl_wI, hl_wL, hl_cp, em_s, em_n, em_g, em_i, em_l, em_b, em_v, emv_s, emv_n, emv_g, emv_i, emv_l, emv_b, emv_v, hb_em, hv_em, hg_T, ne_eq, not_false_eq_true, nz_c, S0_c, S0_lw, S0_h, isHold_36, hc, hc.d, hc.l, hc.d.l, nz_1, nz_2, nz_3, nz_4, nz_5, nz_6, nz_7, nz_8, S0_1, S0_36, ib_h0, q_Ps_isPane hc, rT_1_2, rT_h0]) <;> rfl
set_option maxRecDepth 100000 in
set_option maxHeartbeats 4000000 in
theorem q_Ps_isTime {c : Nat} (hc : isChap c) {v0 : Int32} {v1 : Int32} {N : hn} : f_Ps_isTime S0 v0 v1 (N.1, N.2, rT c) = em c (F_Ps_isTime c v0 v1 N) := by
  unfold f_Ps_isTime F_Ps_isTime
  (simp only [hl_n, hl_wI, hl_wL, hl_cp, em_s, em_n, em_g, em_i, em_l, em_b, em_v, emv_s, emv_n, emv_g, emv_i, emv_l, emv_b, emv_v, hb_em, hv_em, hg_T, ne_eq, not_false_eq_true, nz_c, S0_c, S0_lw, S0_h, isHold_36, hc, hc.d, hc.l, hc.d.l, nz_1, nz_2, nz_3, nz_4, nz_5, nz_6, nz_7, nz_8, S0_1]) <;> rfl
set_option maxRecDepth 100000 in
set_option maxHeartbeats 4000000 in
theorem q_Ps_timeOf {c : Nat} (hc : isChap c) {v0 : Int32} {v1 : Int32} {N : hn} : f_Ps_timeOf S0 v0 v1 (N.1, N.2, rT c) = em c (F_Ps_timeOf c v0 v1 N) := by
  unfold f_Ps_timeOf F_Ps_timeOf
  (simp only [hl_n, hl_wI, hl_wL, hl_cp, em_s, em_n, em_g, em_i, em_l, em_b, em_v, emv_s, emv_n, emv_g, emv_i, emv_l, emv_b, emv_v, hb_em, hv_em, hg_T, ne_eq, not_false_eq_true, nz_c, S0_c, S0_lw, S0_h, isHold_36, hc, hc.d, hc.l, hc.d.l, nz_1, nz_2, nz_3, nz_4, nz_5, nz_6, nz_7, nz_8, S0_1]) <;> rfl
set_option maxRecDepth 100000 in
set_option maxHeartbeats 4000000 in
theorem q_Light_colourOn {c : Nat} (hc : isChap c) {v1 : Int32} {v2 : Int32} {N : hn} : f_Light_colourOn S0 19 v1 v2 (N.1, N.2, rT c) = em c (F_Light_colourOn c v1 v2 N) := by
  unfold f_Light_colourOn F_Light_colourOn
  (simp only [hl_n, hl_wI, hl_wL, hl_cp, em_s, em_n, em_g, em_i, em_l, em_b, em_v, emv_s, emv_n, emv_g, emv_i, emv_l, emv_b, emv_v, hb_em, hv_em, hg_T, ne_eq, not_false_eq_true, nz_c, S0_c, S0_lw, S0_h, isHold_36, hc, hc.d, hc.l, hc.d.l, nz_1, nz_2, nz_3, nz_4, nz_5, nz_6, nz_7, nz_8, S0_19, q_Chapel_colourOf hc, q_Light_panesOn hc, rT_19_0]) <;> rfl
set_option maxRecDepth 100000 in
set_option maxHeartbeats 4000000 in
theorem r_Ps_candlesAt_1 {c : Nat} (hc : isChap c) {k21 : Nat → Int32 → Int32 → Int32 → hm_M → Option (Int32 × hm_M)} {K21 : Int32 → Int32 → Int32 → hn → Option (Int32 × hn)} (hk21 : ∀ (v2 : Int32) (v3 : Int32) (v4 : Int32) (N : hn), k21 1 v2 v3 v4 (N.1, N.2, rT c) = em c (K21 v2 v3 v4 N)) {v2 : Int32} {v3 : Int32} {v4 : Int32} {N : hn} : b_Ps_candlesAt_1 S0 k21 1 v2 v3 v4 (N.1, N.2, rT c) = em c (B_Ps_candlesAt_1 c K21 v2 v3 v4 N) := by
  unfold b_Ps_candlesAt_1 B_Ps_candlesAt_1
  (simp only [hl_n, hl_wI, hl_wL, hl_cp, em_s, em_n, em_g, em_i, em_l, em_b, em_v, emv_s, emv_n, emv_g, emv_i, emv_l, emv_b, emv_v, hb_em, hv_em, hg_T, ne_eq, not_false_eq_true, nz_c, S0_c, S0_lw, S0_h, isHold_36, hc, hc.d, hc.l, hc.d.l, nz_1, nz_2, nz_3, nz_4, nz_5, nz_6, nz_7, nz_8, S0_1, S0_19, S0_36, ib_h3, ib_h4, q_Hold_lit hc, q_Light_colourOn hc, q_Light_turnTo hc, rT_1_1, rT_1_2, rT_h3, rT_h4, hk21]) <;> rfl
theorem q_Ps_candlesAt_1 {c : Nat} (hc : isChap c) : ∀ (n : Nat) (v2 : Int32) (v3 : Int32) (v4 : Int32) (N : hn), f_Ps_candlesAt_1 S0 n 1 v2 v3 v4 (N.1, N.2, rT c) = em c (F_Ps_candlesAt_1 c n v2 v3 v4 N) := by
  intro n
  induction n with
  | zero => intros; rfl
  | succ n ih => intro v2 v3 v4 N ; exact r_Ps_candlesAt_1 hc  ih 
set_option maxRecDepth 100000 in
set_option maxHeartbeats 4000000 in
theorem q_Ps_candlesAt {c : Nat} (hc : isChap c) {v1 : Int32} {N : hn} : f_Ps_candlesAt S0 1 v1 (N.1, N.2, rT c) = em c (F_Ps_candlesAt c v1 N) := by
  unfold f_Ps_candlesAt F_Ps_candlesAt
  (simp only [hl_n, hl_wI, hl_wL, hl_cp, em_s, em_n, em_g, em_i, em_l, em_b, em_v, emv_s, emv_n, emv_g, emv_i, emv_l, emv_b, emv_v, hb_em, hv_em, hg_T, ne_eq, not_false_eq_true, nz_c, S0_c, S0_lw, S0_h, isHold_36, hc, hc.d, hc.l, hc.d.l, nz_1, nz_2, nz_3, nz_4, nz_5, nz_6, nz_7, nz_8, S0_1, S0_19, S0_36, ib_h3, ib_h4, q_Hold_lit hc, q_Light_colourOn hc, q_Light_turnTo hc, rT_1_1, rT_1_2, rT_h3, rT_h4, q_Ps_candlesAt_1 hc]) <;> rfl
set_option maxRecDepth 100000 in
set_option maxHeartbeats 4000000 in
theorem q_Ps_candles {c : Nat} (hc : isChap c) {v1 : Int32} {v2 : Int32} {N : hn} : f_Ps_candles S0 1 v1 v2 (N.1, N.2, rT c) = em c (F_Ps_candles c v1 v2 N) := by
  unfold f_Ps_candles F_Ps_candles
  (simp only [hl_n, hl_wI, hl_wL, hl_cp, em_s, em_n, em_g, em_i, em_l, em_b, em_v, emv_s, emv_n, emv_g, emv_i, emv_l, emv_b, emv_v, hb_em, hv_em, hg_T, ne_eq, not_false_eq_true, nz_c, S0_c, S0_lw, S0_h, isHold_36, hc, hc.d, hc.l, hc.d.l, nz_1, nz_2, nz_3, nz_4, nz_5, nz_6, nz_7, nz_8, S0_1, q_Ps_candlesAt hc, q_Ps_isTime hc, q_Ps_timeOf hc]) <;> rfl
set_option maxRecDepth 100000 in
set_option maxHeartbeats 4000000 in
theorem q_Tape_isBlank {c : Nat} (hc : isChap c) {v0 : Int32} {N : hn} : f_Tape_isBlank S0 v0 (N.1, N.2, rT c) = em c (F_Tape_isBlank c v0 N) := by
  unfold f_Tape_isBlank F_Tape_isBlank
  (simp only [hl_n, hl_wI, hl_wL, hl_cp, em_s, em_n, em_g, em_i, em_l, em_b, em_v, emv_s, emv_n, emv_g, emv_i, emv_l, emv_b, emv_v, hb_em, hv_em, hg_T, ne_eq, not_false_eq_true, nz_c, S0_c, S0_lw, S0_h, isHold_36, hc, hc.d, hc.l, hc.d.l, nz_1, nz_2, nz_3, nz_4, nz_5, nz_6, nz_7, nz_8, S0_3]) <;> rfl
set_option maxRecDepth 100000 in
set_option maxHeartbeats 4000000 in
theorem q_Tape_isLetter {c : Nat} (hc : isChap c) {v0 : Int32} {N : hn} : f_Tape_isLetter S0 v0 (N.1, N.2, rT c) = em c (F_Tape_isLetter c v0 N) := by
  unfold f_Tape_isLetter F_Tape_isLetter
  (simp only [hl_n, hl_wI, hl_wL, hl_cp, em_s, em_n, em_g, em_i, em_l, em_b, em_v, emv_s, emv_n, emv_g, emv_i, emv_l, emv_b, emv_v, hb_em, hv_em, hg_T, ne_eq, not_false_eq_true, nz_c, S0_c, S0_lw, S0_h, isHold_36, hc, hc.d, hc.l, hc.d.l, nz_1, nz_2, nz_3, nz_4, nz_5, nz_6, nz_7, nz_8, S0_3]) <;> rfl
set_option maxRecDepth 100000 in
set_option maxHeartbeats 4000000 in
theorem q_Tape_kindOfWord_4 {c : Nat} (hc : isChap c) {k11 : Nat → Int32 → Int32 → Int32 → Int32 → hm_M → Option (Int32 × hm_M)} {K11 : Int32 → Int32 → Int32 → Int32 → hn → Option (Int32 × hn)} (hk11 : ∀ (v1 : Int32) (v2 : Int32) (v3 : Int32) (v4 : Int32) (N : hn), k11 3 v1 v2 v3 v4 (N.1, N.2, rT c) = em c (K11 v1 v2 v3 v4 N)) {v1 : Int32} {v4 : Int32} {N : hn} : b_Tape_kindOfWord_4 S0 k11 3 v1 v4 (N.1, N.2, rT c) = em c (B_Tape_kindOfWord_4 c K11 v1 v4 N) := by
  unfold b_Tape_kindOfWord_4 B_Tape_kindOfWord_4
  (simp only [hl_n, hl_wI, hl_wL, hl_cp, em_s, em_n, em_g, em_i, em_l, em_b, em_v, emv_s, emv_n, emv_g, emv_i, emv_l, emv_b, emv_v, hb_em, hv_em, hg_T, ne_eq, not_false_eq_true, nz_c, S0_c, S0_lw, S0_h, isHold_36, hc, hc.d, hc.l, hc.d.l, nz_1, nz_2, nz_3, nz_4, nz_5, nz_6, nz_7, nz_8, S0_3, ib_4, rT_3_0, hk11]) <;> rfl
set_option maxRecDepth 100000 in
set_option maxHeartbeats 4000000 in
theorem q_Tape_kindOfWord_3 {c : Nat} (hc : isChap c) {k11 : Nat → Int32 → Int32 → Int32 → Int32 → hm_M → Option (Int32 × hm_M)} {K11 : Int32 → Int32 → Int32 → Int32 → hn → Option (Int32 × hn)} (hk11 : ∀ (v1 : Int32) (v2 : Int32) (v3 : Int32) (v4 : Int32) (N : hn), k11 3 v1 v2 v3 v4 (N.1, N.2, rT c) = em c (K11 v1 v2 v3 v4 N)) {v1 : Int32} {v2 : Int32} {v4 : Int32} {s0 : Int32} {N : hn} : b_Tape_kindOfWord_3 S0 k11 3 v1 v2 v4 s0 (N.1, N.2, rT c) = em c (B_Tape_kindOfWord_3 c K11 v1 v2 v4 s0 N) := by
  unfold b_Tape_kindOfWord_3 B_Tape_kindOfWord_3
  (simp only [hl_n, hl_wI, hl_wL, hl_cp, em_s, em_n, em_g, em_i, em_l, em_b, em_v, emv_s, emv_n, emv_g, emv_i, emv_l, emv_b, emv_v, hb_em, hv_em, hg_T, ne_eq, not_false_eq_true, nz_c, S0_c, S0_lw, S0_h, isHold_36, hc, hc.d, hc.l, hc.d.l, nz_1, nz_2, nz_3, nz_4, nz_5, nz_6, nz_7, nz_8, S0_3, ib_4, rT_3_0, hk11, q_Tape_kindOfWord_4 hc hk11]) <;> rfl
set_option maxRecDepth 100000 in
set_option maxHeartbeats 4000000 in
theorem q_Tape_kindOfWord_2 {c : Nat} (hc : isChap c) {k11 : Nat → Int32 → Int32 → Int32 → Int32 → hm_M → Option (Int32 × hm_M)} {K11 : Int32 → Int32 → Int32 → Int32 → hn → Option (Int32 × hn)} (hk11 : ∀ (v1 : Int32) (v2 : Int32) (v3 : Int32) (v4 : Int32) (N : hn), k11 3 v1 v2 v3 v4 (N.1, N.2, rT c) = em c (K11 v1 v2 v3 v4 N)) {v1 : Int32} {v2 : Int32} {v4 : Int32} {N : hn} : b_Tape_kindOfWord_2 S0 k11 3 v1 v2 v4 (N.1, N.2, rT c) = em c (B_Tape_kindOfWord_2 c K11 v1 v2 v4 N) := by
  unfold b_Tape_kindOfWord_2 B_Tape_kindOfWord_2
  (simp only [hl_n, hl_wI, hl_wL, hl_cp, em_s, em_n, em_g, em_i, em_l, em_b, em_v, emv_s, emv_n, emv_g, emv_i, emv_l, emv_b, emv_v, hb_em, hv_em, hg_T, ne_eq, not_false_eq_true, nz_c, S0_c, S0_lw, S0_h, isHold_36, hc, hc.d, hc.l, hc.d.l, nz_1, nz_2, nz_3, nz_4, nz_5, nz_6, nz_7, nz_8, S0_3, ib_4, rT_3_0, hk11, q_Tape_kindOfWord_4 hc hk11, q_Tape_kindOfWord_3 hc hk11]) <;> rfl
set_option maxRecDepth 100000 in
set_option maxHeartbeats 4000000 in
theorem r_Tape_kindOfWord_1 {c : Nat} (hc : isChap c) {k11 : Nat → Int32 → Int32 → Int32 → Int32 → hm_M → Option (Int32 × hm_M)} {K11 : Int32 → Int32 → Int32 → Int32 → hn → Option (Int32 × hn)} (hk11 : ∀ (v1 : Int32) (v2 : Int32) (v3 : Int32) (v4 : Int32) (N : hn), k11 3 v1 v2 v3 v4 (N.1, N.2, rT c) = em c (K11 v1 v2 v3 v4 N)) {v1 : Int32} {v2 : Int32} {v3 : Int32} {v4 : Int32} {N : hn} : b_Tape_kindOfWord_1 S0 k11 3 v1 v2 v3 v4 (N.1, N.2, rT c) = em c (B_Tape_kindOfWord_1 c K11 v1 v2 v3 v4 N) := by
  unfold b_Tape_kindOfWord_1 B_Tape_kindOfWord_1
  (simp only [hl_n, hl_wI, hl_wL, hl_cp, em_s, em_n, em_g, em_i, em_l, em_b, em_v, emv_s, emv_n, emv_g, emv_i, emv_l, emv_b, emv_v, hb_em, hv_em, hg_T, ne_eq, not_false_eq_true, nz_c, S0_c, S0_lw, S0_h, isHold_36, hc, hc.d, hc.l, hc.d.l, nz_1, nz_2, nz_3, nz_4, nz_5, nz_6, nz_7, nz_8, S0_3, ib_4, rT_3_0, hk11, q_Tape_kindOfWord_4 hc hk11, q_Tape_kindOfWord_3 hc hk11, q_Tape_kindOfWord_2 hc hk11]) <;> rfl
theorem q_Tape_kindOfWord_1 {c : Nat} (hc : isChap c) : ∀ (n : Nat) (v1 : Int32) (v2 : Int32) (v3 : Int32) (v4 : Int32) (N : hn), f_Tape_kindOfWord_1 S0 n 3 v1 v2 v3 v4 (N.1, N.2, rT c) = em c (F_Tape_kindOfWord_1 c n v1 v2 v3 v4 N) := by
  intro n
  induction n with
  | zero => intros; rfl
  | succ n ih => intro v1 v2 v3 v4 N ; exact r_Tape_kindOfWord_1 hc  ih 
set_option maxRecDepth 100000 in
set_option maxHeartbeats 4000000 in
theorem q_Tape_kindOfWord {c : Nat} (hc : isChap c) {N : hn} : f_Tape_kindOfWord S0 3 (N.1, N.2, rT c) = em c (F_Tape_kindOfWord c N) := by
  unfold f_Tape_kindOfWord F_Tape_kindOfWord
  (simp only [hl_n, hl_wI, hl_wL, hl_cp, em_s, em_n, em_g, em_i, em_l, em_b, em_v, emv_s, emv_n, emv_g, emv_i, emv_l, emv_b, emv_v, hb_em, hv_em, hg_T, ne_eq, not_false_eq_true, nz_c, S0_c, S0_lw, S0_h, isHold_36, hc, hc.d, hc.l, hc.d.l, nz_1, nz_2, nz_3, nz_4, nz_5, nz_6, nz_7, nz_8, S0_3, ib_4, rT_3_0, q_Tape_kindOfWord_1 hc]) <;> rfl
set_option maxRecDepth 100000 in
set_option maxHeartbeats 4000000 in
theorem q_Tape_nextWord_3 {c : Nat} (hc : isChap c) {s0 : Int32} {N : hn} : b_Tape_nextWord_3 S0 s0 3 (N.1, N.2, rT c) = emv c (B_Tape_nextWord_3 c s0 N) := by
  unfold b_Tape_nextWord_3 B_Tape_nextWord_3
  (simp only [hl_n, hl_wI, hl_wL, hl_cp, em_s, em_n, em_g, em_i, em_l, em_b, em_v, emv_s, emv_n, emv_g, emv_i, emv_l, emv_b, emv_v, hb_em, hv_em, hg_T, ne_eq, not_false_eq_true, nz_c, S0_c, S0_lw, S0_h, isHold_36, hc, hc.d, hc.l, hc.d.l, nz_1, nz_2, nz_3, nz_4, nz_5, nz_6, nz_7, nz_8, S0_3, ib_4, q_Tape_isLetter hc, q_Tape_kindOfWord hc, rT_3_0]) <;> rfl
set_option maxRecDepth 100000 in
set_option maxHeartbeats 4000000 in
theorem q_Tape_nextWord_2 {c : Nat} (hc : isChap c) {N : hn} : b_Tape_nextWord_2 S0 3 (N.1, N.2, rT c) = emv c (B_Tape_nextWord_2 c N) := by
  unfold b_Tape_nextWord_2 B_Tape_nextWord_2
  (simp only [hl_n, hl_wI, hl_wL, hl_cp, em_s, em_n, em_g, em_i, em_l, em_b, em_v, emv_s, emv_n, emv_g, emv_i, emv_l, emv_b, emv_v, hb_em, hv_em, hg_T, ne_eq, not_false_eq_true, nz_c, S0_c, S0_lw, S0_h, isHold_36, hc, hc.d, hc.l, hc.d.l, nz_1, nz_2, nz_3, nz_4, nz_5, nz_6, nz_7, nz_8, S0_3, ib_4, q_Tape_isLetter hc, q_Tape_kindOfWord hc, rT_3_0, q_Tape_nextWord_3 hc]) <;> rfl
set_option maxRecDepth 100000 in
set_option maxHeartbeats 4000000 in
theorem r_Tape_nextWord_1 {c : Nat} (hc : isChap c) {k5 : Nat → hm_M → Option hm_M} {K5 : hn → Option hn} (hk5 : ∀ (N : hn), k5 3 (N.1, N.2, rT c) = emv c (K5 N)) {N : hn} : b_Tape_nextWord_1 S0 k5 3 (N.1, N.2, rT c) = emv c (B_Tape_nextWord_1 c K5 N) := by
  unfold b_Tape_nextWord_1 B_Tape_nextWord_1
  (simp only [hl_n, hl_wI, hl_wL, hl_cp, em_s, em_n, em_g, em_i, em_l, em_b, em_v, emv_s, emv_n, emv_g, emv_i, emv_l, emv_b, emv_v, hb_em, hv_em, hg_T, ne_eq, not_false_eq_true, nz_c, S0_c, S0_lw, S0_h, isHold_36, hc, hc.d, hc.l, hc.d.l, nz_1, nz_2, nz_3, nz_4, nz_5, nz_6, nz_7, nz_8, S0_3, ib_4, q_Tape_isLetter hc, q_Tape_kindOfWord hc, rT_3_0, hk5, q_Tape_nextWord_3 hc, q_Tape_nextWord_2 hc]) <;> rfl
theorem q_Tape_nextWord_1 {c : Nat} (hc : isChap c) : ∀ (n : Nat) (N : hn), f_Tape_nextWord_1 S0 n 3 (N.1, N.2, rT c) = emv c (F_Tape_nextWord_1 c n N) := by
  intro n
  induction n with
  | zero => intros; rfl
  | succ n ih => intro  N ; exact r_Tape_nextWord_1 hc  ih 
set_option maxRecDepth 100000 in
set_option maxHeartbeats 4000000 in
theorem q_Tape_nextWord {c : Nat} (hc : isChap c) {N : hn} : f_Tape_nextWord S0 3 (N.1, N.2, rT c) = emv c (F_Tape_nextWord c N) := by
  unfold f_Tape_nextWord F_Tape_nextWord
  (simp only [hl_n, hl_wI, hl_wL, hl_cp, em_s, em_n, em_g, em_i, em_l, em_b, em_v, emv_s, emv_n, emv_g, emv_i, emv_l, emv_b, emv_v, hb_em, hv_em, hg_T, ne_eq, not_false_eq_true, nz_c, S0_c, S0_lw, S0_h, isHold_36, hc, hc.d, hc.l, hc.d.l, nz_1, nz_2, nz_3, nz_4, nz_5, nz_6, nz_7, nz_8, S0_3, ib_4, q_Tape_isLetter hc, q_Tape_kindOfWord hc, rT_3_0, q_Tape_nextWord_1 hc, q_Tape_nextWord_2 hc, q_Tape_nextWord_3 hc]) <;> rfl
set_option maxRecDepth 100000 in
set_option maxHeartbeats 4000000 in
theorem q_Tape_isDigit {c : Nat} (hc : isChap c) {v0 : Int32} {N : hn} : f_Tape_isDigit S0 v0 (N.1, N.2, rT c) = em c (F_Tape_isDigit c v0 N) := by
  unfold f_Tape_isDigit F_Tape_isDigit
  (simp only [hl_n, hl_wI, hl_wL, hl_cp, em_s, em_n, em_g, em_i, em_l, em_b, em_v, emv_s, emv_n, emv_g, emv_i, emv_l, emv_b, emv_v, hb_em, hv_em, hg_T, ne_eq, not_false_eq_true, nz_c, S0_c, S0_lw, S0_h, isHold_36, hc, hc.d, hc.l, hc.d.l, nz_1, nz_2, nz_3, nz_4, nz_5, nz_6, nz_7, nz_8, S0_3]) <;> rfl
set_option maxRecDepth 100000 in
set_option maxHeartbeats 4000000 in
theorem q_Tape_nextNumber_3 {c : Nat} (hc : isChap c) {s0 : Int32} {N : hn} : b_Tape_nextNumber_3 S0 s0 3 (N.1, N.2, rT c) = emv c (B_Tape_nextNumber_3 c s0 N) := by
  unfold b_Tape_nextNumber_3 B_Tape_nextNumber_3
  (simp only [hl_n, hl_wI, hl_wL, hl_cp, em_s, em_n, em_g, em_i, em_l, em_b, em_v, emv_s, emv_n, emv_g, emv_i, emv_l, emv_b, emv_v, hb_em, hv_em, hg_T, ne_eq, not_false_eq_true, nz_c, S0_c, S0_lw, S0_h, isHold_36, hc, hc.d, hc.l, hc.d.l, nz_1, nz_2, nz_3, nz_4, nz_5, nz_6, nz_7, nz_8, S0_3, ib_4, q_Tape_isDigit hc, rT_3_0]) <;> rfl
set_option maxRecDepth 100000 in
set_option maxHeartbeats 4000000 in
theorem q_Tape_nextNumber_2 {c : Nat} (hc : isChap c) {N : hn} : b_Tape_nextNumber_2 S0 3 (N.1, N.2, rT c) = emv c (B_Tape_nextNumber_2 c N) := by
  unfold b_Tape_nextNumber_2 B_Tape_nextNumber_2
  (simp only [hl_n, hl_wI, hl_wL, hl_cp, em_s, em_n, em_g, em_i, em_l, em_b, em_v, emv_s, emv_n, emv_g, emv_i, emv_l, emv_b, emv_v, hb_em, hv_em, hg_T, ne_eq, not_false_eq_true, nz_c, S0_c, S0_lw, S0_h, isHold_36, hc, hc.d, hc.l, hc.d.l, nz_1, nz_2, nz_3, nz_4, nz_5, nz_6, nz_7, nz_8, S0_3, ib_4, q_Tape_isDigit hc, rT_3_0, q_Tape_nextNumber_3 hc]) <;> rfl
set_option maxRecDepth 100000 in
set_option maxHeartbeats 4000000 in
theorem r_Tape_nextNumber_1 {c : Nat} (hc : isChap c) {k5 : Nat → hm_M → Option hm_M} {K5 : hn → Option hn} (hk5 : ∀ (N : hn), k5 3 (N.1, N.2, rT c) = emv c (K5 N)) {N : hn} : b_Tape_nextNumber_1 S0 k5 3 (N.1, N.2, rT c) = emv c (B_Tape_nextNumber_1 c K5 N) := by
  unfold b_Tape_nextNumber_1 B_Tape_nextNumber_1
  (simp only [hl_n, hl_wI, hl_wL, hl_cp, em_s, em_n, em_g, em_i, em_l, em_b, em_v, emv_s, emv_n, emv_g, emv_i, emv_l, emv_b, emv_v, hb_em, hv_em, hg_T, ne_eq, not_false_eq_true, nz_c, S0_c, S0_lw, S0_h, isHold_36, hc, hc.d, hc.l, hc.d.l, nz_1, nz_2, nz_3, nz_4, nz_5, nz_6, nz_7, nz_8, S0_3, ib_4, q_Tape_isDigit hc, rT_3_0, hk5, q_Tape_nextNumber_3 hc, q_Tape_nextNumber_2 hc]) <;> rfl
theorem q_Tape_nextNumber_1 {c : Nat} (hc : isChap c) : ∀ (n : Nat) (N : hn), f_Tape_nextNumber_1 S0 n 3 (N.1, N.2, rT c) = emv c (F_Tape_nextNumber_1 c n N) := by
  intro n
  induction n with
  | zero => intros; rfl
  | succ n ih => intro  N ; exact r_Tape_nextNumber_1 hc  ih 
set_option maxRecDepth 100000 in
set_option maxHeartbeats 4000000 in
theorem q_Tape_nextNumber {c : Nat} (hc : isChap c) {N : hn} : f_Tape_nextNumber S0 3 (N.1, N.2, rT c) = emv c (F_Tape_nextNumber c N) := by
  unfold f_Tape_nextNumber F_Tape_nextNumber
  (simp only [hl_n, hl_wI, hl_wL, hl_cp, em_s, em_n, em_g, em_i, em_l, em_b, em_v, emv_s, emv_n, emv_g, emv_i, emv_l, emv_b, emv_v, hb_em, hv_em, hg_T, ne_eq, not_false_eq_true, nz_c, S0_c, S0_lw, S0_h, isHold_36, hc, hc.d, hc.l, hc.d.l, nz_1, nz_2, nz_3, nz_4, nz_5, nz_6, nz_7, nz_8, S0_3, ib_4, q_Tape_isDigit hc, rT_3_0, q_Tape_nextNumber_1 hc, q_Tape_nextNumber_2 hc, q_Tape_nextNumber_3 hc]) <;> rfl
set_option maxRecDepth 100000 in
set_option maxHeartbeats 4000000 in
theorem q_Tape_next_3 {c : Nat} (hc : isChap c) {s0 : Int32} {N : hn} : b_Tape_next_3 S0 3 s0 3 (N.1, N.2, rT c) = emv c (B_Tape_next_3 c s0 N) := by
  unfold b_Tape_next_3 B_Tape_next_3
  (simp only [hl_n, hl_wI, hl_wL, hl_cp, em_s, em_n, em_g, em_i, em_l, em_b, em_v, emv_s, emv_n, emv_g, emv_i, emv_l, emv_b, emv_v, hb_em, hv_em, hg_T, ne_eq, not_false_eq_true, nz_c, S0_c, S0_lw, S0_h, isHold_36, hc, hc.d, hc.l, hc.d.l, nz_1, nz_2, nz_3, nz_4, nz_5, nz_6, nz_7, nz_8, S0_3, ib_4, q_Tape_isBlank hc, q_Tape_isDigit hc, q_Tape_isLetter hc, q_Tape_nextNumber hc, q_Tape_nextWord hc, rT_3_0]) <;> rfl
set_option maxRecDepth 100000 in
set_option maxHeartbeats 4000000 in
theorem q_Tape_next_2 {c : Nat} (hc : isChap c) {N : hn} : b_Tape_next_2 S0 3 (N.1, N.2, rT c) = emv c (B_Tape_next_2 c N) := by
  unfold b_Tape_next_2 B_Tape_next_2
  (simp only [hl_n, hl_wI, hl_wL, hl_cp, em_s, em_n, em_g, em_i, em_l, em_b, em_v, emv_s, emv_n, emv_g, emv_i, emv_l, emv_b, emv_v, hb_em, hv_em, hg_T, ne_eq, not_false_eq_true, nz_c, S0_c, S0_lw, S0_h, isHold_36, hc, hc.d, hc.l, hc.d.l, nz_1, nz_2, nz_3, nz_4, nz_5, nz_6, nz_7, nz_8, S0_3, ib_4, q_Tape_isBlank hc, q_Tape_isDigit hc, q_Tape_isLetter hc, q_Tape_nextNumber hc, q_Tape_nextWord hc, rT_3_0, q_Tape_next_3 hc]) <;> rfl
set_option maxRecDepth 100000 in
set_option maxHeartbeats 4000000 in
theorem r_Tape_next_1 {c : Nat} (hc : isChap c) {k0 : Nat → hm_M → Option hm_M} {K0 : hn → Option hn} (hk0 : ∀ (N : hn), k0 3 (N.1, N.2, rT c) = emv c (K0 N)) {N : hn} : b_Tape_next_1 S0 k0 3 (N.1, N.2, rT c) = emv c (B_Tape_next_1 c K0 N) := by
  unfold b_Tape_next_1 B_Tape_next_1
  (simp only [hl_n, hl_wI, hl_wL, hl_cp, em_s, em_n, em_g, em_i, em_l, em_b, em_v, emv_s, emv_n, emv_g, emv_i, emv_l, emv_b, emv_v, hb_em, hv_em, hg_T, ne_eq, not_false_eq_true, nz_c, S0_c, S0_lw, S0_h, isHold_36, hc, hc.d, hc.l, hc.d.l, nz_1, nz_2, nz_3, nz_4, nz_5, nz_6, nz_7, nz_8, S0_3, ib_4, q_Tape_isBlank hc, q_Tape_isDigit hc, q_Tape_isLetter hc, q_Tape_nextNumber hc, q_Tape_nextWord hc, rT_3_0, hk0, q_Tape_next_3 hc, q_Tape_next_2 hc]) <;> rfl
theorem q_Tape_next_1 {c : Nat} (hc : isChap c) : ∀ (n : Nat) (N : hn), f_Tape_next_1 S0 n 3 (N.1, N.2, rT c) = emv c (F_Tape_next_1 c n N) := by
  intro n
  induction n with
  | zero => intros; rfl
  | succ n ih => intro  N ; exact r_Tape_next_1 hc  ih 
set_option maxRecDepth 100000 in
set_option maxHeartbeats 4000000 in
theorem q_Tape_next {c : Nat} (hc : isChap c) {N : hn} : f_Tape_next S0 3 (N.1, N.2, rT c) = emv c (F_Tape_next c N) := by
  unfold f_Tape_next F_Tape_next
  (simp only [hl_n, hl_wI, hl_wL, hl_cp, em_s, em_n, em_g, em_i, em_l, em_b, em_v, emv_s, emv_n, emv_g, emv_i, emv_l, emv_b, emv_v, hb_em, hv_em, hg_T, ne_eq, not_false_eq_true, nz_c, S0_c, S0_lw, S0_h, isHold_36, hc, hc.d, hc.l, hc.d.l, nz_1, nz_2, nz_3, nz_4, nz_5, nz_6, nz_7, nz_8, S0_3, ib_4, q_Tape_isBlank hc, q_Tape_isDigit hc, q_Tape_isLetter hc, q_Tape_nextNumber hc, q_Tape_nextWord hc, rT_3_0, q_Tape_next_1 hc, q_Tape_next_2 hc, q_Tape_next_3 hc]) <;> rfl
set_option maxRecDepth 100000 in
set_option maxHeartbeats 4000000 in
theorem q_Tape_rewind {c : Nat} (hc : isChap c) {N : hn} : f_Tape_rewind S0 3 (N.1, N.2, rT c) = emv c (F_Tape_rewind c N) := by
  unfold f_Tape_rewind F_Tape_rewind
  (simp only [hl_n, hl_wI, hl_wL, hl_cp, em_s, em_n, em_g, em_i, em_l, em_b, em_v, emv_s, emv_n, emv_g, emv_i, emv_l, emv_b, emv_v, hb_em, hv_em, hg_T, ne_eq, not_false_eq_true, nz_c, S0_c, S0_lw, S0_h, isHold_36, hc, hc.d, hc.l, hc.d.l, nz_1, nz_2, nz_3, nz_4, nz_5, nz_6, nz_7, nz_8, S0_3, q_Tape_next hc]) <;> rfl
set_option maxRecDepth 100000 in
set_option maxHeartbeats 4000000 in
theorem q_Reader_takeOnce {c : Nat} (hc : isChap c) {N : hn} : f_Reader_takeOnce S0 2 (N.1, N.2, rT c) = em c (F_Reader_takeOnce c N) := by
  unfold f_Reader_takeOnce F_Reader_takeOnce
  (simp only [hl_n, hl_wI, hl_wL, hl_cp, em_s, em_n, em_g, em_i, em_l, em_b, em_v, emv_s, emv_n, emv_g, emv_i, emv_l, emv_b, emv_v, hb_em, hv_em, hg_T, ne_eq, not_false_eq_true, nz_c, S0_c, S0_lw, S0_h, isHold_36, hc, hc.d, hc.l, hc.d.l, nz_1, nz_2, nz_3, nz_4, nz_5, nz_6, nz_7, nz_8, S0_2, S0_3, q_Tape_next hc, rT_2_0]) <;> rfl
set_option maxRecDepth 100000 in
set_option maxHeartbeats 4000000 in
theorem q_Reader_takeNumber {c : Nat} (hc : isChap c) {v1 : Int32} {v2 : Int32} {N : hn} : f_Reader_takeNumber S0 2 v1 v2 (N.1, N.2, rT c) = em c (F_Reader_takeNumber c v1 v2 N) := by
  unfold f_Reader_takeNumber F_Reader_takeNumber
  (simp only [hl_n, hl_wI, hl_wL, hl_cp, em_s, em_n, em_g, em_i, em_l, em_b, em_v, emv_s, emv_n, emv_g, emv_i, emv_l, emv_b, emv_v, hb_em, hv_em, hg_T, ne_eq, not_false_eq_true, nz_c, S0_c, S0_lw, S0_h, isHold_36, hc, hc.d, hc.l, hc.d.l, nz_1, nz_2, nz_3, nz_4, nz_5, nz_6, nz_7, nz_8, S0_2, S0_3, q_Tape_next hc, rT_2_0]) <;> rfl
set_option maxRecDepth 100000 in
set_option maxHeartbeats 4000000 in
theorem q_Reader_take {c : Nat} (hc : isChap c) {v1 : Int32} {N : hn} : f_Reader_take S0 2 v1 (N.1, N.2, rT c) = em c (F_Reader_take c v1 N) := by
  unfold f_Reader_take F_Reader_take
  (simp only [hl_n, hl_wI, hl_wL, hl_cp, em_s, em_n, em_g, em_i, em_l, em_b, em_v, emv_s, emv_n, emv_g, emv_i, emv_l, emv_b, emv_v, hb_em, hv_em, hg_T, ne_eq, not_false_eq_true, nz_c, S0_c, S0_lw, S0_h, isHold_36, hc, hc.d, hc.l, hc.d.l, nz_1, nz_2, nz_3, nz_4, nz_5, nz_6, nz_7, nz_8, S0_2, S0_3, q_Tape_next hc, rT_2_0]) <;> rfl
set_option maxRecDepth 100000 in
set_option maxHeartbeats 4000000 in
theorem q_Reader_readFloor_2 {c : Nat} (hc : isChap c) {v1 : Int32} {N : hn} : b_Reader_readFloor_2 S0 2 v1 (N.1, N.2, rT c) = em c (B_Reader_readFloor_2 c v1 N) := by
  unfold b_Reader_readFloor_2 B_Reader_readFloor_2
  (simp only [hl_n, hl_wI, hl_wL, hl_cp, em_s, em_n, em_g, em_i, em_l, em_b, em_v, emv_s, emv_n, emv_g, emv_i, emv_l, emv_b, emv_v, hb_em, hv_em, hg_T, ne_eq, not_false_eq_true, nz_c, S0_c, S0_lw, S0_h, isHold_36, hc, hc.d, hc.l, hc.d.l, nz_1, nz_2, nz_3, nz_4, nz_5, nz_6, nz_7, nz_8, S0_2, q_Reader_take hc, q_Reader_takeNumber hc, q_Reader_takeOnce hc, rT_2_1]) <;> rfl
set_option maxRecDepth 100000 in
set_option maxHeartbeats 4000000 in
theorem q_Reader_readFloor_1 {c : Nat} (hc : isChap c) {v1 : Int32} {N : hn} : b_Reader_readFloor_1 S0 2 v1 (N.1, N.2, rT c) = em c (B_Reader_readFloor_1 c v1 N) := by
  unfold b_Reader_readFloor_1 B_Reader_readFloor_1
  (simp only [hl_n, hl_wI, hl_wL, hl_cp, em_s, em_n, em_g, em_i, em_l, em_b, em_v, emv_s, emv_n, emv_g, emv_i, emv_l, emv_b, emv_v, hb_em, hv_em, hg_T, ne_eq, not_false_eq_true, nz_c, S0_c, S0_lw, S0_h, isHold_36, hc, hc.d, hc.l, hc.d.l, nz_1, nz_2, nz_3, nz_4, nz_5, nz_6, nz_7, nz_8, S0_2, q_Reader_take hc, q_Reader_takeNumber hc, q_Reader_takeOnce hc, rT_2_1, q_Reader_readFloor_2 hc]) <;> rfl
set_option maxRecDepth 100000 in
set_option maxHeartbeats 4000000 in
theorem q_Reader_readFloor {c : Nat} (hc : isChap c) {N : hn} : f_Reader_readFloor S0 2 (N.1, N.2, rT c) = em c (F_Reader_readFloor c N) := by
  unfold f_Reader_readFloor F_Reader_readFloor
  (simp only [hl_n, hl_wI, hl_wL, hl_cp, em_s, em_n, em_g, em_i, em_l, em_b, em_v, emv_s, emv_n, emv_g, emv_i, emv_l, emv_b, emv_v, hb_em, hv_em, hg_T, ne_eq, not_false_eq_true, nz_c, S0_c, S0_lw, S0_h, isHold_36, hc, hc.d, hc.l, hc.d.l, nz_1, nz_2, nz_3, nz_4, nz_5, nz_6, nz_7, nz_8, S0_2, q_Reader_take hc, q_Reader_takeNumber hc, q_Reader_takeOnce hc, rT_2_1, q_Reader_readFloor_1 hc, q_Reader_readFloor_2 hc]) <;> rfl
set_option maxRecDepth 100000 in
set_option maxHeartbeats 4000000 in
theorem q_Tape_isName {c : Nat} (hc : isChap c) {N : hn} : f_Tape_isName S0 3 (N.1, N.2, rT c) = em c (F_Tape_isName c N) := by
  unfold f_Tape_isName F_Tape_isName
  (simp only [hl_n, hl_wI, hl_wL, hl_cp, em_s, em_n, em_g, em_i, em_l, em_b, em_v, emv_s, emv_n, emv_g, emv_i, emv_l, emv_b, emv_v, hb_em, hv_em, hg_T, ne_eq, not_false_eq_true, nz_c, S0_c, S0_lw, S0_h, isHold_36, hc, hc.d, hc.l, hc.d.l, nz_1, nz_2, nz_3, nz_4, nz_5, nz_6, nz_7, nz_8, S0_3]) <;> rfl
set_option maxRecDepth 100000 in
set_option maxHeartbeats 4000000 in
theorem q_Reader_takeNewName {c : Nat} (hc : isChap c) {v1 : Int32} {N : hn} : f_Reader_takeNewName S0 2 v1 (N.1, N.2, rT c) = em c (F_Reader_takeNewName c v1 N) := by
  unfold f_Reader_takeNewName F_Reader_takeNewName
  (simp only [hl_n, hl_wI, hl_wL, hl_cp, em_s, em_n, em_g, em_i, em_l, em_b, em_v, emv_s, emv_n, emv_g, emv_i, emv_l, emv_b, emv_v, hb_em, hv_em, hg_T, ne_eq, not_false_eq_true, nz_c, S0_c, S0_lw, S0_h, isHold_36, hc, hc.d, hc.l, hc.d.l, nz_1, nz_2, nz_3, nz_4, nz_5, nz_6, nz_7, nz_8, S0_2, S0_3, ib_c5, q_Chapel_guildNamed hc, q_Tape_isName hc, q_Tape_next hc, rT_2_0, rT_2_1, rT_c5]) <;> rfl
set_option maxRecDepth 100000 in
set_option maxHeartbeats 4000000 in
theorem q_Reader_readGuild_5 {c : Nat} (hc : isChap c) {v2 : Int32} {N : hn} : b_Reader_readGuild_5 S0 2 v2 (N.1, N.2, rT c) = em c (B_Reader_readGuild_5 c v2 N) := by
  unfold b_Reader_readGuild_5 B_Reader_readGuild_5
  (simp only [hl_n, hl_wI, hl_wL, hl_cp, em_s, em_n, em_g, em_i, em_l, em_b, em_v, emv_s, emv_n, emv_g, emv_i, emv_l, emv_b, emv_v, hb_em, hv_em, hg_T, ne_eq, not_false_eq_true, nz_c, S0_c, S0_lw, S0_h, isHold_36, hc, hc.d, hc.l, hc.d.l, nz_1, nz_2, nz_3, nz_4, nz_5, nz_6, nz_7, nz_8, S0_2, S0_3, ib_c6, ib_c7, q_Reader_take hc, q_Reader_takeNewName hc, q_Reader_takeNumber hc, q_Tape_next hc, rT_2_0, rT_2_1, rT_c6, rT_c7]) <;> rfl
set_option maxRecDepth 100000 in
set_option maxHeartbeats 4000000 in
theorem q_Reader_readGuild_4 {c : Nat} (hc : isChap c) {v1 : Int32} {v2 : Int32} {N : hn} : b_Reader_readGuild_4 S0 2 v1 v2 (N.1, N.2, rT c) = em c (B_Reader_readGuild_4 c v1 v2 N) := by
  unfold b_Reader_readGuild_4 B_Reader_readGuild_4
  (simp only [hl_n, hl_wI, hl_wL, hl_cp, em_s, em_n, em_g, em_i, em_l, em_b, em_v, emv_s, emv_n, emv_g, emv_i, emv_l, emv_b, emv_v, hb_em, hv_em, hg_T, ne_eq, not_false_eq_true, nz_c, S0_c, S0_lw, S0_h, isHold_36, hc, hc.d, hc.l, hc.d.l, nz_1, nz_2, nz_3, nz_4, nz_5, nz_6, nz_7, nz_8, S0_2, S0_3, ib_c6, ib_c7, q_Reader_take hc, q_Reader_takeNewName hc, q_Reader_takeNumber hc, q_Tape_next hc, rT_2_0, rT_2_1, rT_c6, rT_c7, q_Reader_readGuild_5 hc]) <;> rfl
set_option maxRecDepth 100000 in
set_option maxHeartbeats 4000000 in
theorem q_Reader_readGuild_3 {c : Nat} (hc : isChap c) {v1 : Int32} {v2 : Int32} {N : hn} : b_Reader_readGuild_3 S0 2 v1 v2 (N.1, N.2, rT c) = em c (B_Reader_readGuild_3 c v1 v2 N) := by
  unfold b_Reader_readGuild_3 B_Reader_readGuild_3
  (simp only [hl_n, hl_wI, hl_wL, hl_cp, em_s, em_n, em_g, em_i, em_l, em_b, em_v, emv_s, emv_n, emv_g, emv_i, emv_l, emv_b, emv_v, hb_em, hv_em, hg_T, ne_eq, not_false_eq_true, nz_c, S0_c, S0_lw, S0_h, isHold_36, hc, hc.d, hc.l, hc.d.l, nz_1, nz_2, nz_3, nz_4, nz_5, nz_6, nz_7, nz_8, S0_2, S0_3, ib_c6, ib_c7, q_Reader_take hc, q_Reader_takeNewName hc, q_Reader_takeNumber hc, q_Tape_next hc, rT_2_0, rT_2_1, rT_c6, rT_c7, q_Reader_readGuild_5 hc, q_Reader_readGuild_4 hc]) <;> rfl
set_option maxRecDepth 100000 in
set_option maxHeartbeats 4000000 in
theorem q_Reader_readGuild_2 {c : Nat} (hc : isChap c) {v1 : Int32} {v2 : Int32} {N : hn} : b_Reader_readGuild_2 S0 2 v1 v2 (N.1, N.2, rT c) = em c (B_Reader_readGuild_2 c v1 v2 N) := by
  unfold b_Reader_readGuild_2 B_Reader_readGuild_2
  (simp only [hl_n, hl_wI, hl_wL, hl_cp, em_s, em_n, em_g, em_i, em_l, em_b, em_v, emv_s, emv_n, emv_g, emv_i, emv_l, emv_b, emv_v, hb_em, hv_em, hg_T, ne_eq, not_false_eq_true, nz_c, S0_c, S0_lw, S0_h, isHold_36, hc, hc.d, hc.l, hc.d.l, nz_1, nz_2, nz_3, nz_4, nz_5, nz_6, nz_7, nz_8, S0_2, S0_3, ib_c6, ib_c7, q_Reader_take hc, q_Reader_takeNewName hc, q_Reader_takeNumber hc, q_Tape_next hc, rT_2_0, rT_2_1, rT_c6, rT_c7, q_Reader_readGuild_5 hc, q_Reader_readGuild_4 hc, q_Reader_readGuild_3 hc]) <;> rfl
set_option maxRecDepth 100000 in
set_option maxHeartbeats 4000000 in
theorem q_Reader_readGuild_1 {c : Nat} (hc : isChap c) {v1 : Int32} {v2 : Int32} {N : hn} : b_Reader_readGuild_1 S0 2 v1 v2 (N.1, N.2, rT c) = em c (B_Reader_readGuild_1 c v1 v2 N) := by
  unfold b_Reader_readGuild_1 B_Reader_readGuild_1
  (simp only [hl_n, hl_wI, hl_wL, hl_cp, em_s, em_n, em_g, em_i, em_l, em_b, em_v, emv_s, emv_n, emv_g, emv_i, emv_l, emv_b, emv_v, hb_em, hv_em, hg_T, ne_eq, not_false_eq_true, nz_c, S0_c, S0_lw, S0_h, isHold_36, hc, hc.d, hc.l, hc.d.l, nz_1, nz_2, nz_3, nz_4, nz_5, nz_6, nz_7, nz_8, S0_2, S0_3, ib_c6, ib_c7, q_Reader_take hc, q_Reader_takeNewName hc, q_Reader_takeNumber hc, q_Tape_next hc, rT_2_0, rT_2_1, rT_c6, rT_c7, q_Reader_readGuild_5 hc, q_Reader_readGuild_4 hc, q_Reader_readGuild_3 hc, q_Reader_readGuild_2 hc]) <;> rfl
set_option maxRecDepth 100000 in
set_option maxHeartbeats 4000000 in
theorem q_Reader_readGuild {c : Nat} (hc : isChap c) {N : hn} : f_Reader_readGuild S0 2 (N.1, N.2, rT c) = em c (F_Reader_readGuild c N) := by
  unfold f_Reader_readGuild F_Reader_readGuild
  (simp only [hl_n, hl_wI, hl_wL, hl_cp, em_s, em_n, em_g, em_i, em_l, em_b, em_v, emv_s, emv_n, emv_g, emv_i, emv_l, emv_b, emv_v, hb_em, hv_em, hg_T, ne_eq, not_false_eq_true, nz_c, S0_c, S0_lw, S0_h, isHold_36, hc, hc.d, hc.l, hc.d.l, nz_1, nz_2, nz_3, nz_4, nz_5, nz_6, nz_7, nz_8, S0_2, S0_3, ib_c6, ib_c7, q_Reader_take hc, q_Reader_takeNewName hc, q_Reader_takeNumber hc, q_Tape_next hc, rT_2_0, rT_2_1, rT_c6, rT_c7, q_Reader_readGuild_1 hc, q_Reader_readGuild_2 hc, q_Reader_readGuild_3 hc, q_Reader_readGuild_4 hc, q_Reader_readGuild_5 hc]) <;> rfl
set_option maxRecDepth 100000 in
set_option maxHeartbeats 4000000 in
theorem q_Reader_takeRow_1 {c : Nat} (hc : isChap c) {v1 : Int32} {N : hn} : b_Reader_takeRow_1 S0 2 v1 (N.1, N.2, rT c) = em c (B_Reader_takeRow_1 c v1 N) := by
  unfold b_Reader_takeRow_1 B_Reader_takeRow_1
  (simp only [hl_n, hl_wI, hl_wL, hl_cp, em_s, em_n, em_g, em_i, em_l, em_b, em_v, emv_s, emv_n, emv_g, emv_i, emv_l, emv_b, emv_v, hb_em, hv_em, hg_T, ne_eq, not_false_eq_true, nz_c, S0_c, S0_lw, S0_h, isHold_36, hc, hc.d, hc.l, hc.d.l, nz_1, nz_2, nz_3, nz_4, nz_5, nz_6, nz_7, nz_8, S0_2, S0_3, ib_c8, ib_c9, q_Chapel_hasPaneAt hc, q_Reader_takeNumber hc, rT_2_0, rT_2_1, rT_c8, rT_c9]) <;> rfl
set_option maxRecDepth 100000 in
set_option maxHeartbeats 4000000 in
theorem q_Reader_takeRow {c : Nat} (hc : isChap c) {v1 : Int32} {N : hn} : f_Reader_takeRow S0 2 v1 (N.1, N.2, rT c) = em c (F_Reader_takeRow c v1 N) := by
  unfold f_Reader_takeRow F_Reader_takeRow
  (simp only [hl_n, hl_wI, hl_wL, hl_cp, em_s, em_n, em_g, em_i, em_l, em_b, em_v, emv_s, emv_n, emv_g, emv_i, emv_l, emv_b, emv_v, hb_em, hv_em, hg_T, ne_eq, not_false_eq_true, nz_c, S0_c, S0_lw, S0_h, isHold_36, hc, hc.d, hc.l, hc.d.l, nz_1, nz_2, nz_3, nz_4, nz_5, nz_6, nz_7, nz_8, S0_2, S0_3, ib_c8, ib_c9, q_Chapel_hasPaneAt hc, q_Reader_takeNumber hc, rT_2_0, rT_2_1, rT_c8, rT_c9, q_Reader_takeRow_1 hc]) <;> rfl
set_option maxRecDepth 100000 in
set_option maxHeartbeats 4000000 in
theorem q_Reader_takeGiver {c : Nat} (hc : isChap c) {v1 : Int32} {N : hn} : f_Reader_takeGiver S0 2 v1 (N.1, N.2, rT c) = em c (F_Reader_takeGiver c v1 N) := by
  unfold f_Reader_takeGiver F_Reader_takeGiver
  (simp only [hl_n, hl_wI, hl_wL, hl_cp, em_s, em_n, em_g, em_i, em_l, em_b, em_v, emv_s, emv_n, emv_g, emv_i, emv_l, emv_b, emv_v, hb_em, hv_em, hg_T, ne_eq, not_false_eq_true, nz_c, S0_c, S0_lw, S0_h, isHold_36, hc, hc.d, hc.l, hc.d.l, nz_1, nz_2, nz_3, nz_4, nz_5, nz_6, nz_7, nz_8, S0_2, S0_3, ib_c10, q_Chapel_guildNamed hc, q_Tape_isName hc, q_Tape_next hc, rT_2_0, rT_2_1, rT_c10]) <;> rfl
set_option maxRecDepth 100000 in
set_option maxHeartbeats 4000000 in
theorem q_Reader_readPane_6 {c : Nat} (hc : isChap c) {v2 : Int32} {N : hn} : b_Reader_readPane_6 S0 2 v2 (N.1, N.2, rT c) = em c (B_Reader_readPane_6 c v2 N) := by
  unfold b_Reader_readPane_6 B_Reader_readPane_6
  (simp only [hl_n, hl_wI, hl_wL, hl_cp, em_s, em_n, em_g, em_i, em_l, em_b, em_v, emv_s, emv_n, emv_g, emv_i, emv_l, emv_b, emv_v, hb_em, hv_em, hg_T, ne_eq, not_false_eq_true, nz_c, S0_c, S0_lw, S0_h, isHold_36, hc, hc.d, hc.l, hc.d.l, nz_1, nz_2, nz_3, nz_4, nz_5, nz_6, nz_7, nz_8, S0_2, S0_3, ib_c11, ib_c8, q_Reader_take hc, q_Reader_takeGiver hc, q_Reader_takeNumber hc, q_Reader_takeRow hc, q_Tape_next hc, rT_2_0, rT_2_1, rT_c11, rT_c8]) <;> rfl
set_option maxRecDepth 100000 in
set_option maxHeartbeats 4000000 in
theorem q_Reader_readPane_5 {c : Nat} (hc : isChap c) {v1 : Int32} {v2 : Int32} {N : hn} : b_Reader_readPane_5 S0 2 v1 v2 (N.1, N.2, rT c) = em c (B_Reader_readPane_5 c v1 v2 N) := by
  unfold b_Reader_readPane_5 B_Reader_readPane_5
  (simp only [hl_n, hl_wI, hl_wL, hl_cp, em_s, em_n, em_g, em_i, em_l, em_b, em_v, emv_s, emv_n, emv_g, emv_i, emv_l, emv_b, emv_v, hb_em, hv_em, hg_T, ne_eq, not_false_eq_true, nz_c, S0_c, S0_lw, S0_h, isHold_36, hc, hc.d, hc.l, hc.d.l, nz_1, nz_2, nz_3, nz_4, nz_5, nz_6, nz_7, nz_8, S0_2, S0_3, ib_c11, ib_c8, q_Reader_take hc, q_Reader_takeGiver hc, q_Reader_takeNumber hc, q_Reader_takeRow hc, q_Tape_next hc, rT_2_0, rT_2_1, rT_c11, rT_c8, q_Reader_readPane_6 hc]) <;> rfl
set_option maxRecDepth 100000 in
set_option maxHeartbeats 4000000 in
theorem q_Reader_readPane_4 {c : Nat} (hc : isChap c) {v1 : Int32} {v2 : Int32} {N : hn} : b_Reader_readPane_4 S0 2 v1 v2 (N.1, N.2, rT c) = em c (B_Reader_readPane_4 c v1 v2 N) := by
  unfold b_Reader_readPane_4 B_Reader_readPane_4
  (simp only [hl_n, hl_wI, hl_wL, hl_cp, em_s, em_n, em_g, em_i, em_l, em_b, em_v, emv_s, emv_n, emv_g, emv_i, emv_l, emv_b, emv_v, hb_em, hv_em, hg_T, ne_eq, not_false_eq_true, nz_c, S0_c, S0_lw, S0_h, isHold_36, hc, hc.d, hc.l, hc.d.l, nz_1, nz_2, nz_3, nz_4, nz_5, nz_6, nz_7, nz_8, S0_2, S0_3, ib_c11, ib_c8, q_Reader_take hc, q_Reader_takeGiver hc, q_Reader_takeNumber hc, q_Reader_takeRow hc, q_Tape_next hc, rT_2_0, rT_2_1, rT_c11, rT_c8, q_Reader_readPane_6 hc, q_Reader_readPane_5 hc]) <;> rfl
set_option maxRecDepth 100000 in
set_option maxHeartbeats 4000000 in
theorem q_Reader_readPane_3 {c : Nat} (hc : isChap c) {v1 : Int32} {v2 : Int32} {N : hn} : b_Reader_readPane_3 S0 2 v1 v2 (N.1, N.2, rT c) = em c (B_Reader_readPane_3 c v1 v2 N) := by
  unfold b_Reader_readPane_3 B_Reader_readPane_3
  (simp only [hl_n, hl_wI, hl_wL, hl_cp, em_s, em_n, em_g, em_i, em_l, em_b, em_v, emv_s, emv_n, emv_g, emv_i, emv_l, emv_b, emv_v, hb_em, hv_em, hg_T, ne_eq, not_false_eq_true, nz_c, S0_c, S0_lw, S0_h, isHold_36, hc, hc.d, hc.l, hc.d.l, nz_1, nz_2, nz_3, nz_4, nz_5, nz_6, nz_7, nz_8, S0_2, S0_3, ib_c11, ib_c8, q_Reader_take hc, q_Reader_takeGiver hc, q_Reader_takeNumber hc, q_Reader_takeRow hc, q_Tape_next hc, rT_2_0, rT_2_1, rT_c11, rT_c8, q_Reader_readPane_6 hc, q_Reader_readPane_5 hc, q_Reader_readPane_4 hc]) <;> rfl
set_option maxRecDepth 100000 in
set_option maxHeartbeats 4000000 in
theorem q_Reader_readPane_2 {c : Nat} (hc : isChap c) {v1 : Int32} {v2 : Int32} {N : hn} : b_Reader_readPane_2 S0 2 v1 v2 (N.1, N.2, rT c) = em c (B_Reader_readPane_2 c v1 v2 N) := by
  unfold b_Reader_readPane_2 B_Reader_readPane_2
  (simp only [hl_n, hl_wI, hl_wL, hl_cp, em_s, em_n, em_g, em_i, em_l, em_b, em_v, emv_s, emv_n, emv_g, emv_i, emv_l, emv_b, emv_v, hb_em, hv_em, hg_T, ne_eq, not_false_eq_true, nz_c, S0_c, S0_lw, S0_h, isHold_36, hc, hc.d, hc.l, hc.d.l, nz_1, nz_2, nz_3, nz_4, nz_5, nz_6, nz_7, nz_8, S0_2, S0_3, ib_c11, ib_c8, q_Reader_take hc, q_Reader_takeGiver hc, q_Reader_takeNumber hc, q_Reader_takeRow hc, q_Tape_next hc, rT_2_0, rT_2_1, rT_c11, rT_c8, q_Reader_readPane_6 hc, q_Reader_readPane_5 hc, q_Reader_readPane_4 hc, q_Reader_readPane_3 hc]) <;> rfl
set_option maxRecDepth 100000 in
set_option maxHeartbeats 4000000 in
theorem q_Reader_readPane_1 {c : Nat} (hc : isChap c) {v1 : Int32} {v2 : Int32} {N : hn} : b_Reader_readPane_1 S0 2 v1 v2 (N.1, N.2, rT c) = em c (B_Reader_readPane_1 c v1 v2 N) := by
  unfold b_Reader_readPane_1 B_Reader_readPane_1
  (simp only [hl_n, hl_wI, hl_wL, hl_cp, em_s, em_n, em_g, em_i, em_l, em_b, em_v, emv_s, emv_n, emv_g, emv_i, emv_l, emv_b, emv_v, hb_em, hv_em, hg_T, ne_eq, not_false_eq_true, nz_c, S0_c, S0_lw, S0_h, isHold_36, hc, hc.d, hc.l, hc.d.l, nz_1, nz_2, nz_3, nz_4, nz_5, nz_6, nz_7, nz_8, S0_2, S0_3, ib_c11, ib_c8, q_Reader_take hc, q_Reader_takeGiver hc, q_Reader_takeNumber hc, q_Reader_takeRow hc, q_Tape_next hc, rT_2_0, rT_2_1, rT_c11, rT_c8, q_Reader_readPane_6 hc, q_Reader_readPane_5 hc, q_Reader_readPane_4 hc, q_Reader_readPane_3 hc, q_Reader_readPane_2 hc]) <;> rfl
set_option maxRecDepth 100000 in
set_option maxHeartbeats 4000000 in
theorem q_Reader_readPane {c : Nat} (hc : isChap c) {N : hn} : f_Reader_readPane S0 2 (N.1, N.2, rT c) = em c (F_Reader_readPane c N) := by
  unfold f_Reader_readPane F_Reader_readPane
  (simp only [hl_n, hl_wI, hl_wL, hl_cp, em_s, em_n, em_g, em_i, em_l, em_b, em_v, emv_s, emv_n, emv_g, emv_i, emv_l, emv_b, emv_v, hb_em, hv_em, hg_T, ne_eq, not_false_eq_true, nz_c, S0_c, S0_lw, S0_h, isHold_36, hc, hc.d, hc.l, hc.d.l, nz_1, nz_2, nz_3, nz_4, nz_5, nz_6, nz_7, nz_8, S0_2, S0_3, ib_c11, ib_c8, q_Reader_take hc, q_Reader_takeGiver hc, q_Reader_takeNumber hc, q_Reader_takeRow hc, q_Tape_next hc, rT_2_0, rT_2_1, rT_c11, rT_c8, q_Reader_readPane_1 hc, q_Reader_readPane_2 hc, q_Reader_readPane_3 hc, q_Reader_readPane_4 hc, q_Reader_readPane_5 hc, q_Reader_readPane_6 hc]) <;> rfl
set_option maxRecDepth 100000 in
set_option maxHeartbeats 4000000 in
theorem q_Laws_open {c : Nat} (hc : isChap c) {v0 : Nat} {v1 : Int32} (hv0 : isLaws v0) {N : hn} : f_Laws_open S0 v0 v1 (N.1, N.2, rT c) = emv c (F_Laws_open c v0 v1 N) := by
  unfold f_Laws_open F_Laws_open
  (simp only [hl_n, hl_wI, hl_wL, hl_cp, em_s, em_n, em_g, em_i, em_l, em_b, em_v, emv_s, emv_n, emv_g, emv_i, emv_l, emv_b, emv_v, hb_em, hv_em, hg_T, ne_eq, not_false_eq_true, nz_c, S0_c, S0_lw, S0_h, isHold_36, hc, hc.d, hc.l, hc.d.l, nz_1, nz_2, nz_3, nz_4, nz_5, nz_6, nz_7, nz_8, hv0, ib_w2, q_Laws_isLaw hc, rT_w2]) <;> rfl
set_option maxRecDepth 100000 in
set_option maxHeartbeats 4000000 in
theorem q_Laws_add {c : Nat} (hc : isChap c) {v0 : Nat} {v1 : Int32} (hv0 : isLaws v0) {N : hn} : f_Laws_add S0 v0 v1 (N.1, N.2, rT c) = emv c (F_Laws_add c v0 v1 N) := by
  unfold f_Laws_add F_Laws_add
  (simp only [hl_n, hl_wI, hl_wL, hl_cp, em_s, em_n, em_g, em_i, em_l, em_b, em_v, emv_s, emv_n, emv_g, emv_i, emv_l, emv_b, emv_v, hb_em, hv_em, hg_T, ne_eq, not_false_eq_true, nz_c, S0_c, S0_lw, S0_h, isHold_36, hc, hc.d, hc.l, hc.d.l, nz_1, nz_2, nz_3, nz_4, nz_5, nz_6, nz_7, nz_8, hv0, ib_w0, rT_w0]) <;> rfl
set_option maxRecDepth 100000 in
set_option maxHeartbeats 4000000 in
theorem q_Laws_close {c : Nat} (hc : isChap c) {v0 : Nat} {v1 : Int32} (hv0 : isLaws v0) {N : hn} : f_Laws_close S0 v0 v1 (N.1, N.2, rT c) = emv c (F_Laws_close c v0 v1 N) := by
  unfold f_Laws_close F_Laws_close
  (simp only [hl_n, hl_wI, hl_wL, hl_cp, em_s, em_n, em_g, em_i, em_l, em_b, em_v, emv_s, emv_n, emv_g, emv_i, emv_l, emv_b, emv_v, hb_em, hv_em, hg_T, ne_eq, not_false_eq_true, nz_c, S0_c, S0_lw, S0_h, isHold_36, hc, hc.d, hc.l, hc.d.l, nz_1, nz_2, nz_3, nz_4, nz_5, nz_6, nz_7, nz_8, hv0, ib_w3, q_Laws_isLaw hc, rT_w3]) <;> rfl
set_option maxRecDepth 100000 in
set_option maxHeartbeats 4000000 in
theorem q_Tape_isFact {c : Nat} (hc : isChap c) {N : hn} : f_Tape_isFact S0 3 (N.1, N.2, rT c) = em c (F_Tape_isFact c N) := by
  unfold f_Tape_isFact F_Tape_isFact
  (simp only [hl_n, hl_wI, hl_wL, hl_cp, em_s, em_n, em_g, em_i, em_l, em_b, em_v, emv_s, emv_n, emv_g, emv_i, emv_l, emv_b, emv_v, hb_em, hv_em, hg_T, ne_eq, not_false_eq_true, nz_c, S0_c, S0_lw, S0_h, isHold_36, hc, hc.d, hc.l, hc.d.l, nz_1, nz_2, nz_3, nz_4, nz_5, nz_6, nz_7, nz_8, S0_3]) <;> rfl
set_option maxRecDepth 100000 in
set_option maxHeartbeats 4000000 in
theorem q_Reader_isFactOf_1 {c : Nat} (hc : isChap c) {v0 : Int32} {N : hn} : b_Reader_isFactOf_1 S0 v0 (N.1, N.2, rT c) = em c (B_Reader_isFactOf_1 c v0 N) := by
  unfold b_Reader_isFactOf_1 B_Reader_isFactOf_1
  (simp only [hl_n, hl_wI, hl_wL, hl_cp, em_s, em_n, em_g, em_i, em_l, em_b, em_v, emv_s, emv_n, emv_g, emv_i, emv_l, emv_b, emv_v, hb_em, hv_em, hg_T, ne_eq, not_false_eq_true, nz_c, S0_c, S0_lw, S0_h, isHold_36, hc, hc.d, hc.l, hc.d.l, nz_1, nz_2, nz_3, nz_4, nz_5, nz_6, nz_7, nz_8, S0_2]) <;> rfl
set_option maxRecDepth 100000 in
set_option maxHeartbeats 4000000 in
theorem q_Reader_isFactOf {c : Nat} (hc : isChap c) {v0 : Int32} {v1 : Int32} {N : hn} : f_Reader_isFactOf S0 v0 v1 (N.1, N.2, rT c) = em c (F_Reader_isFactOf c v0 v1 N) := by
  unfold f_Reader_isFactOf F_Reader_isFactOf
  (simp only [hl_n, hl_wI, hl_wL, hl_cp, em_s, em_n, em_g, em_i, em_l, em_b, em_v, emv_s, emv_n, emv_g, emv_i, emv_l, emv_b, emv_v, hb_em, hv_em, hg_T, ne_eq, not_false_eq_true, nz_c, S0_c, S0_lw, S0_h, isHold_36, hc, hc.d, hc.l, hc.d.l, nz_1, nz_2, nz_3, nz_4, nz_5, nz_6, nz_7, nz_8, S0_2, q_Reader_isFactOf_1 hc]) <;> rfl
set_option maxRecDepth 100000 in
set_option maxHeartbeats 4000000 in
theorem q_Reader_startsPart {c : Nat} (hc : isChap c) {N : hn} : f_Reader_startsPart S0 2 (N.1, N.2, rT c) = em c (F_Reader_startsPart c N) := by
  unfold f_Reader_startsPart F_Reader_startsPart
  (simp only [hl_n, hl_wI, hl_wL, hl_cp, em_s, em_n, em_g, em_i, em_l, em_b, em_v, emv_s, emv_n, emv_g, emv_i, emv_l, emv_b, emv_v, hb_em, hv_em, hg_T, ne_eq, not_false_eq_true, nz_c, S0_c, S0_lw, S0_h, isHold_36, hc, hc.d, hc.l, hc.d.l, nz_1, nz_2, nz_3, nz_4, nz_5, nz_6, nz_7, nz_8, S0_2, S0_3, q_Reader_isFactOf hc, q_Tape_isFact hc, rT_2_0]) <;> rfl
set_option maxRecDepth 100000 in
set_option maxHeartbeats 4000000 in
theorem q_Reader_readLaw_1 {c : Nat} (hc : isChap c) {v1 : Int32} {N : hn} : b_Reader_readLaw_1 S0 2 v1 (N.1, N.2, rT c) = em c (B_Reader_readLaw_1 c v1 N) := by
  unfold b_Reader_readLaw_1 B_Reader_readLaw_1
  (simp only [hl_n, hl_wI, hl_wL, hl_cp, em_s, em_n, em_g, em_i, em_l, em_b, em_v, emv_s, emv_n, emv_g, emv_i, emv_l, emv_b, emv_v, hb_em, hv_em, hg_T, ne_eq, not_false_eq_true, nz_c, S0_c, S0_lw, S0_h, isHold_36, hc, hc.d, hc.l, hc.d.l, nz_1, nz_2, nz_3, nz_4, nz_5, nz_6, nz_7, nz_8, S0_2, S0_3, q_Laws_close hc, q_Laws_open hc, q_Reader_readE hc, q_Reader_take hc, q_Reader_takeOnce hc, rT_2_0, rT_2_1, rT_c12]) <;> rfl
set_option maxRecDepth 100000 in
set_option maxHeartbeats 4000000 in
theorem q_Reader_readLaw {c : Nat} (hc : isChap c) {N : hn} : f_Reader_readLaw S0 2 (N.1, N.2, rT c) = em c (F_Reader_readLaw c N) := by
  unfold f_Reader_readLaw F_Reader_readLaw
  (simp only [hl_n, hl_wI, hl_wL, hl_cp, em_s, em_n, em_g, em_i, em_l, em_b, em_v, emv_s, emv_n, emv_g, emv_i, emv_l, emv_b, emv_v, hb_em, hv_em, hg_T, ne_eq, not_false_eq_true, nz_c, S0_c, S0_lw, S0_h, isHold_36, hc, hc.d, hc.l, hc.d.l, nz_1, nz_2, nz_3, nz_4, nz_5, nz_6, nz_7, nz_8, S0_2, S0_3, q_Laws_close hc, q_Laws_open hc, q_Reader_readE hc, q_Reader_take hc, q_Reader_takeOnce hc, rT_2_0, rT_2_1, rT_c12, q_Reader_readLaw_1 hc]) <;> rfl
set_option maxRecDepth 100000 in
set_option maxHeartbeats 4000000 in
theorem q_Reader_readCloud_1 {c : Nat} (hc : isChap c) {v1 : Int32} {N : hn} : b_Reader_readCloud_1 S0 2 v1 (N.1, N.2, rT c) = em c (B_Reader_readCloud_1 c v1 N) := by
  unfold b_Reader_readCloud_1 B_Reader_readCloud_1
  (simp only [hl_n, hl_wI, hl_wL, hl_cp, em_s, em_n, em_g, em_i, em_l, em_b, em_v, emv_s, emv_n, emv_g, emv_i, emv_l, emv_b, emv_v, hb_em, hv_em, hg_T, ne_eq, not_false_eq_true, nz_c, S0_c, S0_lw, S0_h, isHold_36, hc, hc.d, hc.l, hc.d.l, nz_1, nz_2, nz_3, nz_4, nz_5, nz_6, nz_7, nz_8, S0_2, q_Reader_take hc, q_Reader_takeNumber hc, q_Reader_takeOnce hc, rT_2_1]) <;> rfl
set_option maxRecDepth 100000 in
set_option maxHeartbeats 4000000 in
theorem q_Reader_readCloud {c : Nat} (hc : isChap c) {N : hn} : f_Reader_readCloud S0 2 (N.1, N.2, rT c) = em c (F_Reader_readCloud c N) := by
  unfold f_Reader_readCloud F_Reader_readCloud
  (simp only [hl_n, hl_wI, hl_wL, hl_cp, em_s, em_n, em_g, em_i, em_l, em_b, em_v, emv_s, emv_n, emv_g, emv_i, emv_l, emv_b, emv_v, hb_em, hv_em, hg_T, ne_eq, not_false_eq_true, nz_c, S0_c, S0_lw, S0_h, isHold_36, hc, hc.d, hc.l, hc.d.l, nz_1, nz_2, nz_3, nz_4, nz_5, nz_6, nz_7, nz_8, S0_2, q_Reader_take hc, q_Reader_takeNumber hc, q_Reader_takeOnce hc, rT_2_1, q_Reader_readCloud_1 hc]) <;> rfl
set_option maxRecDepth 100000 in
set_option maxHeartbeats 4000000 in
theorem q_Reader_readLine_1 {c : Nat} (hc : isChap c) {N : hn} : b_Reader_readLine_1 S0 2 (N.1, N.2, rT c) = em c (B_Reader_readLine_1 c N) := by
  unfold b_Reader_readLine_1 B_Reader_readLine_1
  (simp only [hl_n, hl_wI, hl_wL, hl_cp, em_s, em_n, em_g, em_i, em_l, em_b, em_v, emv_s, emv_n, emv_g, emv_i, emv_l, emv_b, emv_v, hb_em, hv_em, hg_T, ne_eq, not_false_eq_true, nz_c, S0_c, S0_lw, S0_h, isHold_36, hc, hc.d, hc.l, hc.d.l, nz_1, nz_2, nz_3, nz_4, nz_5, nz_6, nz_7, nz_8, S0_2, S0_3, q_Reader_readCloud hc, q_Reader_readFloor hc, q_Reader_readGuild hc, q_Reader_readLaw hc, q_Reader_readPane hc, rT_2_0]) <;> rfl
set_option maxRecDepth 100000 in
set_option maxHeartbeats 4000000 in
theorem q_Reader_readLine {c : Nat} (hc : isChap c) {N : hn} : f_Reader_readLine S0 2 (N.1, N.2, rT c) = em c (F_Reader_readLine c N) := by
  unfold f_Reader_readLine F_Reader_readLine
  (simp only [hl_n, hl_wI, hl_wL, hl_cp, em_s, em_n, em_g, em_i, em_l, em_b, em_v, emv_s, emv_n, emv_g, emv_i, emv_l, emv_b, emv_v, hb_em, hv_em, hg_T, ne_eq, not_false_eq_true, nz_c, S0_c, S0_lw, S0_h, isHold_36, hc, hc.d, hc.l, hc.d.l, nz_1, nz_2, nz_3, nz_4, nz_5, nz_6, nz_7, nz_8, S0_2, S0_3, q_Reader_readCloud hc, q_Reader_readFloor hc, q_Reader_readGuild hc, q_Reader_readLaw hc, q_Reader_readPane hc, rT_2_0, q_Reader_readLine_1 hc]) <;> rfl
set_option maxRecDepth 100000 in
set_option maxHeartbeats 4000000 in
theorem q_Reader_readAll_2 {c : Nat} (hc : isChap c) {v1 : Int32} {N : hn} : b_Reader_readAll_2 S0 2 v1 (N.1, N.2, rT c) = em c (B_Reader_readAll_2 c v1 N) := by
  unfold b_Reader_readAll_2 B_Reader_readAll_2
  (simp only [hl_n, hl_wI, hl_wL, hl_cp, em_s, em_n, em_g, em_i, em_l, em_b, em_v, emv_s, emv_n, emv_g, emv_i, emv_l, emv_b, emv_v, hb_em, hv_em, hg_T, ne_eq, not_false_eq_true, nz_c, S0_c, S0_lw, S0_h, isHold_36, hc, hc.d, hc.l, hc.d.l, nz_1, nz_2, nz_3, nz_4, nz_5, nz_6, nz_7, nz_8, S0_2, S0_3, q_Chapel_begin hc, q_Reader_readLine hc, q_Tape_rewind hc, rT_2_0, rT_2_1]) <;> rfl
set_option maxRecDepth 100000 in
set_option maxHeartbeats 4000000 in
theorem r_Reader_readAll_1 {c : Nat} (hc : isChap c) {k23 : Nat → Int32 → Int32 → hm_M → Option (Int32 × hm_M)} {K23 : Int32 → Int32 → hn → Option (Int32 × hn)} (hk23 : ∀ (v1 : Int32) (v2 : Int32) (N : hn), k23 2 v1 v2 (N.1, N.2, rT c) = em c (K23 v1 v2 N)) {v1 : Int32} {v2 : Int32} {N : hn} : b_Reader_readAll_1 S0 k23 2 v1 v2 (N.1, N.2, rT c) = em c (B_Reader_readAll_1 c K23 v1 v2 N) := by
  unfold b_Reader_readAll_1 B_Reader_readAll_1
  (simp only [hl_n, hl_wI, hl_wL, hl_cp, em_s, em_n, em_g, em_i, em_l, em_b, em_v, emv_s, emv_n, emv_g, emv_i, emv_l, emv_b, emv_v, hb_em, hv_em, hg_T, ne_eq, not_false_eq_true, nz_c, S0_c, S0_lw, S0_h, isHold_36, hc, hc.d, hc.l, hc.d.l, nz_1, nz_2, nz_3, nz_4, nz_5, nz_6, nz_7, nz_8, S0_2, S0_3, q_Chapel_begin hc, q_Reader_readLine hc, q_Tape_rewind hc, rT_2_0, rT_2_1, hk23, q_Reader_readAll_2 hc]) <;> rfl
theorem q_Reader_readAll_1 {c : Nat} (hc : isChap c) : ∀ (n : Nat) (v1 : Int32) (v2 : Int32) (N : hn), f_Reader_readAll_1 S0 n 2 v1 v2 (N.1, N.2, rT c) = em c (F_Reader_readAll_1 c n v1 v2 N) := by
  intro n
  induction n with
  | zero => intros; rfl
  | succ n ih => intro v1 v2 N ; exact r_Reader_readAll_1 hc  ih 
set_option maxRecDepth 100000 in
set_option maxHeartbeats 4000000 in
theorem q_Reader_readAll {c : Nat} (hc : isChap c) {N : hn} : f_Reader_readAll S0 2 (N.1, N.2, rT c) = em c (F_Reader_readAll c N) := by
  unfold f_Reader_readAll F_Reader_readAll
  (simp only [hl_n, hl_wI, hl_wL, hl_cp, em_s, em_n, em_g, em_i, em_l, em_b, em_v, emv_s, emv_n, emv_g, emv_i, emv_l, emv_b, emv_v, hb_em, hv_em, hg_T, ne_eq, not_false_eq_true, nz_c, S0_c, S0_lw, S0_h, isHold_36, hc, hc.d, hc.l, hc.d.l, nz_1, nz_2, nz_3, nz_4, nz_5, nz_6, nz_7, nz_8, S0_2, S0_3, q_Chapel_begin hc, q_Reader_readLine hc, q_Tape_rewind hc, rT_2_0, rT_2_1, q_Reader_readAll_1 hc, q_Reader_readAll_2 hc]) <;> rfl
set_option maxRecDepth 100000 in
set_option maxHeartbeats 4000000 in
theorem q_Hold_begin_2 {c : Nat} (hc : isChap c) {k20 : Nat → Nat → Int32 → hm_M → Option hm_M} {K20 : Nat → Nat → Int32 → hn → Option hn} (hk20 : ∀ (v0 : Nat) (v1 : Nat) (v2 : Int32) (N : hn), isHold v0 → isChap v1 → k20 v0 v1 v2 (N.1, N.2, rT c) = emv c (K20 v0 v1 v2 N)) {v0 : Nat} {v1 : Nat} {v2 : Int32} {s0 : Int32} {s1 : Int32} {s2 : Nat} (hv0 : isHold v0) (hv1 : isChap v1) {N : hn} : b_Hold_begin_2 S0 k20 v0 v1 v2 s0 s1 s2 (N.1, N.2, rT c) = emv c (B_Hold_begin_2 c K20 v0 v1 v2 s0 s1 s2 N) := by
  unfold b_Hold_begin_2 B_Hold_begin_2
  (simp only [hl_n, hl_wI, hl_wL, hl_cp, em_s, em_n, em_g, em_i, em_l, em_b, em_v, emv_s, emv_n, emv_g, emv_i, emv_l, emv_b, emv_v, hb_em, hv_em, hg_T, ne_eq, not_false_eq_true, nz_c, S0_c, S0_lw, S0_h, isHold_36, hc, hc.d, hc.l, hc.d.l, nz_1, nz_2, nz_3, nz_4, nz_5, nz_6, nz_7, nz_8, hv0, hv1, hv1.l, ib_c10, ib_h0, rT_c10, rT_h0, hk20]) <;> rfl
set_option maxRecDepth 100000 in
set_option maxHeartbeats 4000000 in
theorem r_Hold_begin_1 {c : Nat} (hc : isChap c) {k20 : Nat → Nat → Int32 → hm_M → Option hm_M} {K20 : Nat → Nat → Int32 → hn → Option hn} (hk20 : ∀ (v0 : Nat) (v1 : Nat) (v2 : Int32) (N : hn), isHold v0 → isChap v1 → k20 v0 v1 v2 (N.1, N.2, rT c) = emv c (K20 v0 v1 v2 N)) {v0 : Nat} {v1 : Nat} {v2 : Int32} (hv0 : isHold v0) (hv1 : isChap v1) {N : hn} : b_Hold_begin_1 S0 k20 v0 v1 v2 (N.1, N.2, rT c) = emv c (B_Hold_begin_1 c K20 v0 v1 v2 N) := by
  unfold b_Hold_begin_1 B_Hold_begin_1
  (simp only [hl_n, hl_wI, hl_wL, hl_cp, em_s, em_n, em_g, em_i, em_l, em_b, em_v, emv_s, emv_n, emv_g, emv_i, emv_l, emv_b, emv_v, hb_em, hv_em, hg_T, ne_eq, not_false_eq_true, nz_c, S0_c, S0_lw, S0_h, isHold_36, hc, hc.d, hc.l, hc.d.l, nz_1, nz_2, nz_3, nz_4, nz_5, nz_6, nz_7, nz_8, hv0, hv1, hv1.l, ib_c10, ib_h0, rT_c10, rT_h0, hk20, q_Hold_begin_2 hc hk20]) <;> rfl
theorem q_Hold_begin_1 {c : Nat} (hc : isChap c) : ∀ (n : Nat) (v0 : Nat) (v1 : Nat) (v2 : Int32) (N : hn), isHold v0 → isChap v1 → f_Hold_begin_1 S0 n v0 v1 v2 (N.1, N.2, rT c) = emv c (F_Hold_begin_1 c n v0 v1 v2 N) := by
  intro n
  induction n with
  | zero => intros; rfl
  | succ n ih => intro v0 v1 v2 N hv0 hv1; exact r_Hold_begin_1 hc  ih hv0 hv1
set_option maxRecDepth 100000 in
set_option maxHeartbeats 4000000 in
theorem q_Hold_begin {c : Nat} (hc : isChap c) {v0 : Nat} {v1 : Nat} (hv0 : isHold v0) (hv1 : isChap v1) {N : hn} : f_Hold_begin S0 v0 v1 (N.1, N.2, rT c) = emv c (F_Hold_begin c v0 v1 N) := by
  unfold f_Hold_begin F_Hold_begin
  (simp only [hl_n, hl_wI, hl_wL, hl_cp, em_s, em_n, em_g, em_i, em_l, em_b, em_v, emv_s, emv_n, emv_g, emv_i, emv_l, emv_b, emv_v, hb_em, hv_em, hg_T, ne_eq, not_false_eq_true, nz_c, S0_c, S0_lw, S0_h, isHold_36, hc, hc.d, hc.l, hc.d.l, nz_1, nz_2, nz_3, nz_4, nz_5, nz_6, nz_7, nz_8, hv0, hv1, hv1.l, ib_c10, ib_h0, rT_c10, rT_h0, q_Hold_begin_1 hc]) <;> rfl
set_option maxRecDepth 100000 in
set_option maxHeartbeats 4000000 in
theorem q_History_forget {c : Nat} (hc : isChap c) {N : hn} : f_History_forget S0 40 (N.1, N.2, rT c) = emv c (F_History_forget c N) := by
  unfold f_History_forget F_History_forget
  (simp only [hl_n, hl_wI, hl_wL, hl_cp, em_s, em_n, em_g, em_i, em_l, em_b, em_v, emv_s, emv_n, emv_g, emv_i, emv_l, emv_b, emv_v, hb_em, hv_em, hg_T, ne_eq, not_false_eq_true, nz_c, S0_c, S0_lw, S0_h, isHold_36, hc, hc.d, hc.l, hc.d.l, nz_1, nz_2, nz_3, nz_4, nz_5, nz_6, nz_7, nz_8, S0_40]) <;> rfl
set_option maxRecDepth 100000 in
set_option maxHeartbeats 4000000 in
theorem q_Rents_forget {c : Nat} (hc : isChap c) {N : hn} : f_Rents_forget S0 43 (N.1, N.2, rT c) = emv c (F_Rents_forget c N) := by
  unfold f_Rents_forget F_Rents_forget
  (simp only [hl_n, hl_wI, hl_wL, hl_cp, em_s, em_n, em_g, em_i, em_l, em_b, em_v, emv_s, emv_n, emv_g, emv_i, emv_l, emv_b, emv_v, hb_em, hv_em, hg_T, ne_eq, not_false_eq_true, nz_c, S0_c, S0_lw, S0_h, isHold_36, hc, hc.d, hc.l, hc.d.l, nz_1, nz_2, nz_3, nz_4, nz_5, nz_6, nz_7, nz_8, S0_43]) <;> rfl
set_option maxRecDepth 100000 in
set_option maxHeartbeats 4000000 in
theorem q_Ps_clear {c : Nat} (hc : isChap c) {N : hn} : f_Ps_clear S0 1 (N.1, N.2, rT c) = em c (F_Ps_clear c N) := by
  unfold f_Ps_clear F_Ps_clear
  (simp only [hl_n, hl_wI, hl_wL, hl_cp, em_s, em_n, em_g, em_i, em_l, em_b, em_v, emv_s, emv_n, emv_g, emv_i, emv_l, emv_b, emv_v, hb_em, hv_em, hg_T, ne_eq, not_false_eq_true, nz_c, S0_c, S0_lw, S0_h, isHold_36, hc, hc.d, hc.l, hc.d.l, nz_1, nz_2, nz_3, nz_4, nz_5, nz_6, nz_7, nz_8, S0_1, S0_36, rT_1_2]) <;> rfl
set_option maxRecDepth 100000 in
set_option maxHeartbeats 4000000 in
theorem q_Ps_isGuild {c : Nat} (hc : isChap c) {v1 : Int32} {N : hn} : f_Ps_isGuild S0 1 v1 (N.1, N.2, rT c) = em c (F_Ps_isGuild c v1 N) := by
  unfold f_Ps_isGuild F_Ps_isGuild
  (simp only [hl_n, hl_wI, hl_wL, hl_cp, em_s, em_n, em_g, em_i, em_l, em_b, em_v, emv_s, emv_n, emv_g, emv_i, emv_l, emv_b, emv_v, hb_em, hv_em, hg_T, ne_eq, not_false_eq_true, nz_c, S0_c, S0_lw, S0_h, isHold_36, hc, hc.d, hc.l, hc.d.l, nz_1, nz_2, nz_3, nz_4, nz_5, nz_6, nz_7, nz_8, S0_1, S0_19, rT_19_0, rT_1_1]) <;> rfl
set_option maxRecDepth 100000 in
set_option maxHeartbeats 4000000 in
theorem q_Rents_cloudedYear {c : Nat} (hc : isChap c) {v2 : Int32} {v3 : Int32} {N : hn} : f_Rents_cloudedYear S0 43 19 v2 v3 (N.1, N.2, rT c) = em c (F_Rents_cloudedYear c v2 v3 N) := by
  unfold f_Rents_cloudedYear F_Rents_cloudedYear
  (simp only [hl_n, hl_wI, hl_wL, hl_cp, em_s, em_n, em_g, em_i, em_l, em_b, em_v, emv_s, emv_n, emv_g, emv_i, emv_l, emv_b, emv_v, hb_em, hv_em, hg_T, ne_eq, not_false_eq_true, nz_c, S0_c, S0_lw, S0_h, isHold_36, hc, hc.d, hc.l, hc.d.l, nz_1, nz_2, nz_3, nz_4, nz_5, nz_6, nz_7, nz_8, S0_19, S0_43, q_Rents_measure hc, rT_19_0]) <;> rfl
set_option maxRecDepth 100000 in
set_option maxHeartbeats 4000000 in
theorem r_Hold_panesOf_1 {c : Nat} (hc : isChap c) {k4 : Nat → Int32 → Int32 → Int32 → hm_M → Option (Int32 × hm_M)} {K4 : Nat → Int32 → Int32 → Int32 → hn → Option (Int32 × hn)} (hk4 : ∀ (v0 : Nat) (v1 : Int32) (v2 : Int32) (v3 : Int32) (N : hn), isHold v0 → k4 v0 v1 v2 v3 (N.1, N.2, rT c) = em c (K4 v0 v1 v2 v3 N)) {v0 : Nat} {v1 : Int32} {v2 : Int32} {v3 : Int32} (hv0 : isHold v0) {N : hn} : b_Hold_panesOf_1 S0 k4 v0 v1 v2 v3 (N.1, N.2, rT c) = em c (B_Hold_panesOf_1 c K4 v0 v1 v2 v3 N) := by
  unfold b_Hold_panesOf_1 B_Hold_panesOf_1
  (simp only [hl_n, hl_wI, hl_wL, hl_cp, em_s, em_n, em_g, em_i, em_l, em_b, em_v, emv_s, emv_n, emv_g, emv_i, emv_l, emv_b, emv_v, hb_em, hv_em, hg_T, ne_eq, not_false_eq_true, nz_c, S0_c, S0_lw, S0_h, isHold_36, hc, hc.d, hc.l, hc.d.l, nz_1, nz_2, nz_3, nz_4, nz_5, nz_6, nz_7, nz_8, hv0, ib_h0, rT_h0, hk4]) <;> rfl
theorem q_Hold_panesOf_1 {c : Nat} (hc : isChap c) : ∀ (n : Nat) (v0 : Nat) (v1 : Int32) (v2 : Int32) (v3 : Int32) (N : hn), isHold v0 → f_Hold_panesOf_1 S0 n v0 v1 v2 v3 (N.1, N.2, rT c) = em c (F_Hold_panesOf_1 c n v0 v1 v2 v3 N) := by
  intro n
  induction n with
  | zero => intros; rfl
  | succ n ih => intro v0 v1 v2 v3 N hv0; exact r_Hold_panesOf_1 hc  ih hv0
set_option maxRecDepth 100000 in
set_option maxHeartbeats 4000000 in
theorem q_Hold_panesOf {c : Nat} (hc : isChap c) {v0 : Nat} {v1 : Int32} (hv0 : isHold v0) {N : hn} : f_Hold_panesOf S0 v0 v1 (N.1, N.2, rT c) = em c (F_Hold_panesOf c v0 v1 N) := by
  unfold f_Hold_panesOf F_Hold_panesOf
  (simp only [hl_n, hl_wI, hl_wL, hl_cp, em_s, em_n, em_g, em_i, em_l, em_b, em_v, emv_s, emv_n, emv_g, emv_i, emv_l, emv_b, emv_v, hb_em, hv_em, hg_T, ne_eq, not_false_eq_true, nz_c, S0_c, S0_lw, S0_h, isHold_36, hc, hc.d, hc.l, hc.d.l, nz_1, nz_2, nz_3, nz_4, nz_5, nz_6, nz_7, nz_8, hv0, ib_h0, rT_h0, q_Hold_panesOf_1 hc]) <;> rfl
set_option maxRecDepth 100000 in
set_option maxHeartbeats 4000000 in
theorem r_Rents_givenBy_1 {c : Nat} (hc : isChap c) {k5 : Nat → Int32 → Int32 → Int32 → Int32 → hm_M → Option (Int32 × hm_M)} {K5 : Int32 → Int32 → Int32 → Int32 → hn → Option (Int32 × hn)} (hk5 : ∀ (v1 : Int32) (v2 : Int32) (v3 : Int32) (v4 : Int32) (N : hn), k5 43 v1 v2 v3 v4 (N.1, N.2, rT c) = em c (K5 v1 v2 v3 v4 N)) {v1 : Int32} {v2 : Int32} {v3 : Int32} {v4 : Int32} {N : hn} : b_Rents_givenBy_1 S0 k5 43 v1 v2 v3 v4 (N.1, N.2, rT c) = em c (B_Rents_givenBy_1 c K5 v1 v2 v3 v4 N) := by
  unfold b_Rents_givenBy_1 B_Rents_givenBy_1
  (simp only [hl_n, hl_wI, hl_wL, hl_cp, em_s, em_n, em_g, em_i, em_l, em_b, em_v, emv_s, emv_n, emv_g, emv_i, emv_l, emv_b, emv_v, hb_em, hv_em, hg_T, ne_eq, not_false_eq_true, nz_c, S0_c, S0_lw, S0_h, isHold_36, hc, hc.d, hc.l, hc.d.l, nz_1, nz_2, nz_3, nz_4, nz_5, nz_6, nz_7, nz_8, S0_43, q_Rents_given hc, hk5]) <;> rfl
theorem q_Rents_givenBy_1 {c : Nat} (hc : isChap c) : ∀ (n : Nat) (v1 : Int32) (v2 : Int32) (v3 : Int32) (v4 : Int32) (N : hn), f_Rents_givenBy_1 S0 n 43 v1 v2 v3 v4 (N.1, N.2, rT c) = em c (F_Rents_givenBy_1 c n v1 v2 v3 v4 N) := by
  intro n
  induction n with
  | zero => intros; rfl
  | succ n ih => intro v1 v2 v3 v4 N ; exact r_Rents_givenBy_1 hc  ih 
set_option maxRecDepth 100000 in
set_option maxHeartbeats 4000000 in
theorem q_Rents_givenBy {c : Nat} (hc : isChap c) {v1 : Int32} {v2 : Int32} {N : hn} : f_Rents_givenBy S0 43 v1 v2 (N.1, N.2, rT c) = em c (F_Rents_givenBy c v1 v2 N) := by
  unfold f_Rents_givenBy F_Rents_givenBy
  (simp only [hl_n, hl_wI, hl_wL, hl_cp, em_s, em_n, em_g, em_i, em_l, em_b, em_v, emv_s, emv_n, emv_g, emv_i, emv_l, emv_b, emv_v, hb_em, hv_em, hg_T, ne_eq, not_false_eq_true, nz_c, S0_c, S0_lw, S0_h, isHold_36, hc, hc.d, hc.l, hc.d.l, nz_1, nz_2, nz_3, nz_4, nz_5, nz_6, nz_7, nz_8, S0_43, q_Rents_given hc, q_Rents_givenBy_1 hc]) <;> rfl
set_option maxRecDepth 100000 in
set_option maxHeartbeats 4000000 in
theorem r_Ps_clouded_3 {c : Nat} (hc : isChap c) {k83 : Nat → Int32 → Int32 → Int32 → hm_M → Option (Int32 × hm_M)} {K83 : Int32 → Int32 → Int32 → hn → Option (Int32 × hn)} (hk83 : ∀ (v3 : Int32) (v4 : Int32) (v5 : Int32) (N : hn), k83 1 v3 v4 v5 (N.1, N.2, rT c) = em c (K83 v3 v4 v5 N)) {v3 : Int32} {v4 : Int32} {v5 : Int32} {N : hn} : b_Ps_clouded_3 S0 k83 1 v3 v4 v5 (N.1, N.2, rT c) = em c (B_Ps_clouded_3 c K83 v3 v4 v5 N) := by
  unfold b_Ps_clouded_3 B_Ps_clouded_3
  (simp only [hl_n, hl_wI, hl_wL, hl_cp, em_s, em_n, em_g, em_i, em_l, em_b, em_v, emv_s, emv_n, emv_g, emv_i, emv_l, emv_b, emv_v, hb_em, hv_em, hg_T, ne_eq, not_false_eq_true, nz_c, S0_c, S0_lw, S0_h, isHold_36, hc, hc.d, hc.l, hc.d.l, nz_1, nz_2, nz_3, nz_4, nz_5, nz_6, nz_7, nz_8, S0_1, S0_19, S0_36, S0_43, ib_c7, q_Hold_lit hc, q_Hold_panesOf hc, q_Ps_isGuild hc, q_Rents_cloudedYear hc, q_Rents_givenBy hc, rT_19_0, rT_1_1, rT_1_2, rT_1_4, rT_c7, hk83]) <;> rfl
theorem q_Ps_clouded_3 {c : Nat} (hc : isChap c) : ∀ (n : Nat) (v3 : Int32) (v4 : Int32) (v5 : Int32) (N : hn), f_Ps_clouded_3 S0 n 1 v3 v4 v5 (N.1, N.2, rT c) = em c (F_Ps_clouded_3 c n v3 v4 v5 N) := by
  intro n
  induction n with
  | zero => intros; rfl
  | succ n ih => intro v3 v4 v5 N ; exact r_Ps_clouded_3 hc  ih 
set_option maxRecDepth 100000 in
set_option maxHeartbeats 4000000 in
theorem q_Ps_clouded_2 {c : Nat} (hc : isChap c) {v1 : Int32} {v2 : Int32} {N : hn} : b_Ps_clouded_2 S0 1 v1 v2 (N.1, N.2, rT c) = em c (B_Ps_clouded_2 c v1 v2 N) := by
  unfold b_Ps_clouded_2 B_Ps_clouded_2
  (simp only [hl_n, hl_wI, hl_wL, hl_cp, em_s, em_n, em_g, em_i, em_l, em_b, em_v, emv_s, emv_n, emv_g, emv_i, emv_l, emv_b, emv_v, hb_em, hv_em, hg_T, ne_eq, not_false_eq_true, nz_c, S0_c, S0_lw, S0_h, isHold_36, hc, hc.d, hc.l, hc.d.l, nz_1, nz_2, nz_3, nz_4, nz_5, nz_6, nz_7, nz_8, S0_1, S0_19, S0_36, S0_43, ib_c7, q_Hold_lit hc, q_Hold_panesOf hc, q_Ps_isGuild hc, q_Rents_cloudedYear hc, q_Rents_givenBy hc, rT_19_0, rT_1_1, rT_1_2, rT_1_4, rT_c7, q_Ps_clouded_3 hc]) <;> rfl
set_option maxRecDepth 100000 in
set_option maxHeartbeats 4000000 in
theorem q_Ps_clouded_1 {c : Nat} (hc : isChap c) {N : hn} : b_Ps_clouded_1 S0 (N.1, N.2, rT c) = em c (B_Ps_clouded_1 c N) := by
  unfold b_Ps_clouded_1 B_Ps_clouded_1
  (simp only [hl_n, hl_wI, hl_wL, hl_cp, em_s, em_n, em_g, em_i, em_l, em_b, em_v, emv_s, emv_n, emv_g, emv_i, emv_l, emv_b, emv_v, hb_em, hv_em, hg_T, ne_eq, not_false_eq_true, nz_c, S0_c, S0_lw, S0_h, isHold_36, hc, hc.d, hc.l, hc.d.l, nz_1, nz_2, nz_3, nz_4, nz_5, nz_6, nz_7, nz_8, S0_1, S0_19, S0_36, S0_43, ib_c7, q_Hold_lit hc, q_Hold_panesOf hc, q_Ps_isGuild hc, q_Rents_cloudedYear hc, q_Rents_givenBy hc, rT_19_0, rT_1_1, rT_1_2, rT_1_4, rT_c7, q_Ps_clouded_3 hc, q_Ps_clouded_2 hc]) <;> rfl
set_option maxRecDepth 100000 in
set_option maxHeartbeats 4000000 in
theorem q_Ps_clouded {c : Nat} (hc : isChap c) {v1 : Int32} {v2 : Int32} {N : hn} : f_Ps_clouded S0 1 v1 v2 (N.1, N.2, rT c) = em c (F_Ps_clouded c v1 v2 N) := by
  unfold f_Ps_clouded F_Ps_clouded
  (simp only [hl_n, hl_wI, hl_wL, hl_cp, em_s, em_n, em_g, em_i, em_l, em_b, em_v, emv_s, emv_n, emv_g, emv_i, emv_l, emv_b, emv_v, hb_em, hv_em, hg_T, ne_eq, not_false_eq_true, nz_c, S0_c, S0_lw, S0_h, isHold_36, hc, hc.d, hc.l, hc.d.l, nz_1, nz_2, nz_3, nz_4, nz_5, nz_6, nz_7, nz_8, S0_1, S0_19, S0_36, S0_43, ib_c7, q_Hold_lit hc, q_Hold_panesOf hc, q_Ps_isGuild hc, q_Rents_cloudedYear hc, q_Rents_givenBy hc, rT_19_0, rT_1_1, rT_1_2, rT_1_4, rT_c7, q_Ps_clouded_1 hc, q_Ps_clouded_2 hc, q_Ps_clouded_3 hc]) <;> rfl
set_option maxRecDepth 100000 in
set_option maxHeartbeats 4000000 in
theorem q_Ps_count {c : Nat} (hc : isChap c) {v1 : Int32} {N : hn} : f_Ps_count S0 1 v1 (N.1, N.2, rT c) = em c (F_Ps_count c v1 N) := by
  unfold f_Ps_count F_Ps_count
  (simp only [hl_n, hl_wI, hl_wL, hl_cp, em_s, em_n, em_g, em_i, em_l, em_b, em_v, emv_s, emv_n, emv_g, emv_i, emv_l, emv_b, emv_v, hb_em, hv_em, hg_T, ne_eq, not_false_eq_true, nz_c, S0_c, S0_lw, S0_h, isHold_36, hc, hc.d, hc.l, hc.d.l, nz_1, nz_2, nz_3, nz_4, nz_5, nz_6, nz_7, nz_8, S0_1, S0_19, S0_2, S0_3, S0_36, S0_40, q_J6_bitCount_0f7a4 hc, rT_19_0, rT_1_0, rT_1_1, rT_1_2, rT_1_3, rT_2_0]) <;> rfl
set_option maxRecDepth 100000 in
set_option maxHeartbeats 4000000 in
theorem q_Hold_swap {c : Nat} (hc : isChap c) {v0 : Nat} {v1 : Int32} {v2 : Int32} (hv0 : isHold v0) {N : hn} : f_Hold_swap S0 v0 v1 v2 (N.1, N.2, rT c) = emv c (F_Hold_swap c v0 v1 v2 N) := by
  unfold f_Hold_swap F_Hold_swap
  (simp only [hl_n, hl_wI, hl_wL, hl_cp, em_s, em_n, em_g, em_i, em_l, em_b, em_v, emv_s, emv_n, emv_g, emv_i, emv_l, emv_b, emv_v, hb_em, hv_em, hg_T, ne_eq, not_false_eq_true, nz_c, S0_c, S0_lw, S0_h, isHold_36, hc, hc.d, hc.l, hc.d.l, nz_1, nz_2, nz_3, nz_4, nz_5, nz_6, nz_7, nz_8, hv0, ib_h0, rT_h0]) <;> rfl
set_option maxRecDepth 100000 in
set_option maxHeartbeats 4000000 in
theorem q_Ps_exchange {c : Nat} (hc : isChap c) {v1 : Int32} {v2 : Int32} {N : hn} : f_Ps_exchange S0 1 v1 v2 (N.1, N.2, rT c) = em c (F_Ps_exchange c v1 v2 N) := by
  unfold f_Ps_exchange F_Ps_exchange
  (simp only [hl_n, hl_wI, hl_wL, hl_cp, em_s, em_n, em_g, em_i, em_l, em_b, em_v, emv_s, emv_n, emv_g, emv_i, emv_l, emv_b, emv_v, hb_em, hv_em, hg_T, ne_eq, not_false_eq_true, nz_c, S0_c, S0_lw, S0_h, isHold_36, hc, hc.d, hc.l, hc.d.l, nz_1, nz_2, nz_3, nz_4, nz_5, nz_6, nz_7, nz_8, S0_1, S0_36, S0_40, q_History_note hc, q_Hold_swap hc, q_Ps_canExchange hc, rT_1_2, rT_1_3]) <;> rfl
set_option maxRecDepth 100000 in
set_option maxHeartbeats 4000000 in
theorem q_Rents_fall_3 {c : Nat} (hc : isChap c) {k16 : Nat → Nat → Nat → Int32 → Int32 → hm_M → Option hm_M} {K16 : Nat → Int32 → Int32 → hn → Option hn} (hk16 : ∀ (v2 : Nat) (v3 : Int32) (v4 : Int32) (N : hn), isHold v2 → k16 43 19 v2 v3 v4 (N.1, N.2, rT c) = emv c (K16 v2 v3 v4 N)) {v2 : Nat} {v3 : Int32} {v4 : Int32} {v6 : Int32} (hv2 : isHold v2) {N : hn} : b_Rents_fall_3 S0 k16 43 19 v2 v3 v4 v6 (N.1, N.2, rT c) = emv c (B_Rents_fall_3 c K16 v2 v3 v4 v6 N) := by
  unfold b_Rents_fall_3 B_Rents_fall_3
  (simp only [hl_n, hl_wI, hl_wL, hl_cp, em_s, em_n, em_g, em_i, em_l, em_b, em_v, emv_s, emv_n, emv_g, emv_i, emv_l, emv_b, emv_v, hb_em, hv_em, hg_T, ne_eq, not_false_eq_true, nz_c, S0_c, S0_lw, S0_h, isHold_36, hc, hc.d, hc.l, hc.d.l, nz_1, nz_2, nz_3, nz_4, nz_5, nz_6, nz_7, nz_8, hv2, S0_19, S0_43, ib_46, ib_c7, q_Hold_lit hc, q_Hold_panesOf hc, q_J7_fill_53178 hc, q_Rents_givenBy hc, q_Rents_yearOf hc, rT_19_0, rT_43_4, rT_c7, hk16]) <;> rfl
set_option maxRecDepth 100000 in
set_option maxHeartbeats 4000000 in
theorem r_Rents_fall_2 {c : Nat} (hc : isChap c) {k16 : Nat → Nat → Nat → Int32 → Int32 → hm_M → Option hm_M} {K16 : Nat → Int32 → Int32 → hn → Option hn} (hk16 : ∀ (v2 : Nat) (v3 : Int32) (v4 : Int32) (N : hn), isHold v2 → k16 43 19 v2 v3 v4 (N.1, N.2, rT c) = emv c (K16 v2 v3 v4 N)) {k37 : Nat → Nat → Nat → Int32 → Int32 → Int32 → Int32 → Int32 → hm_M → Option hm_M} {K37 : Nat → Int32 → Int32 → Int32 → Int32 → Int32 → hn → Option hn} (hk37 : ∀ (v2 : Nat) (v3 : Int32) (v4 : Int32) (v5 : Int32) (v6 : Int32) (v7 : Int32) (N : hn), isHold v2 → k37 43 19 v2 v3 v4 v5 v6 v7 (N.1, N.2, rT c) = emv c (K37 v2 v3 v4 v5 v6 v7 N)) {v2 : Nat} {v3 : Int32} {v4 : Int32} {v5 : Int32} {v6 : Int32} {v7 : Int32} (hv2 : isHold v2) {N : hn} : b_Rents_fall_2 S0 k16 k37 43 19 v2 v3 v4 v5 v6 v7 (N.1, N.2, rT c) = emv c (B_Rents_fall_2 c K16 K37 v2 v3 v4 v5 v6 v7 N) := by
  unfold b_Rents_fall_2 B_Rents_fall_2
  (simp only [hl_n, hl_wI, hl_wL, hl_cp, em_s, em_n, em_g, em_i, em_l, em_b, em_v, emv_s, emv_n, emv_g, emv_i, emv_l, emv_b, emv_v, hb_em, hv_em, hg_T, ne_eq, not_false_eq_true, nz_c, S0_c, S0_lw, S0_h, isHold_36, hc, hc.d, hc.l, hc.d.l, nz_1, nz_2, nz_3, nz_4, nz_5, nz_6, nz_7, nz_8, hv2, S0_19, S0_43, ib_46, ib_c7, q_Hold_lit hc, q_Hold_panesOf hc, q_J7_fill_53178 hc, q_Rents_givenBy hc, q_Rents_yearOf hc, rT_19_0, rT_43_4, rT_c7, hk16, hk37, q_Rents_fall_3 hc hk16]) <;> rfl
theorem q_Rents_fall_2 {c : Nat} (hc : isChap c) {k16 : Nat → Nat → Nat → Int32 → Int32 → hm_M → Option hm_M} {K16 : Nat → Int32 → Int32 → hn → Option hn} (hk16 : ∀ (v2 : Nat) (v3 : Int32) (v4 : Int32) (N : hn), isHold v2 → k16 43 19 v2 v3 v4 (N.1, N.2, rT c) = emv c (K16 v2 v3 v4 N)) : ∀ (n : Nat) (v2 : Nat) (v3 : Int32) (v4 : Int32) (v5 : Int32) (v6 : Int32) (v7 : Int32) (N : hn), isHold v2 → f_Rents_fall_2 S0 k16 n 43 19 v2 v3 v4 v5 v6 v7 (N.1, N.2, rT c) = emv c (F_Rents_fall_2 c K16 n v2 v3 v4 v5 v6 v7 N) := by
  intro n
  induction n with
  | zero => intros; rfl
  | succ n ih => intro v2 v3 v4 v5 v6 v7 N hv2; exact r_Rents_fall_2 hc hk16 ih hv2
set_option maxRecDepth 100000 in
set_option maxHeartbeats 4000000 in
theorem r_Rents_fall_1 {c : Nat} (hc : isChap c) {k16 : Nat → Nat → Nat → Int32 → Int32 → hm_M → Option hm_M} {K16 : Nat → Int32 → Int32 → hn → Option hn} (hk16 : ∀ (v2 : Nat) (v3 : Int32) (v4 : Int32) (N : hn), isHold v2 → k16 43 19 v2 v3 v4 (N.1, N.2, rT c) = emv c (K16 v2 v3 v4 N)) {v2 : Nat} {v3 : Int32} {v4 : Int32} (hv2 : isHold v2) {N : hn} : b_Rents_fall_1 S0 k16 43 19 v2 v3 v4 (N.1, N.2, rT c) = emv c (B_Rents_fall_1 c K16 v2 v3 v4 N) := by
  unfold b_Rents_fall_1 B_Rents_fall_1
  (simp only [hl_n, hl_wI, hl_wL, hl_cp, em_s, em_n, em_g, em_i, em_l, em_b, em_v, emv_s, emv_n, emv_g, emv_i, emv_l, emv_b, emv_v, hb_em, hv_em, hg_T, ne_eq, not_false_eq_true, nz_c, S0_c, S0_lw, S0_h, isHold_36, hc, hc.d, hc.l, hc.d.l, nz_1, nz_2, nz_3, nz_4, nz_5, nz_6, nz_7, nz_8, hv2, S0_19, S0_43, ib_46, ib_c7, q_Hold_lit hc, q_Hold_panesOf hc, q_J7_fill_53178 hc, q_Rents_givenBy hc, q_Rents_yearOf hc, rT_19_0, rT_43_4, rT_c7, hk16, q_Rents_fall_3 hc hk16, q_Rents_fall_2 hc hk16]) <;> rfl
theorem q_Rents_fall_1 {c : Nat} (hc : isChap c) : ∀ (n : Nat) (v2 : Nat) (v3 : Int32) (v4 : Int32) (N : hn), isHold v2 → f_Rents_fall_1 S0 n 43 19 v2 v3 v4 (N.1, N.2, rT c) = emv c (F_Rents_fall_1 c n v2 v3 v4 N) := by
  intro n
  induction n with
  | zero => intros; rfl
  | succ n ih => intro v2 v3 v4 N hv2; exact r_Rents_fall_1 hc  ih hv2
set_option maxRecDepth 100000 in
set_option maxHeartbeats 4000000 in
theorem q_Rents_fall {c : Nat} (hc : isChap c) {v2 : Nat} (hv2 : isHold v2) {N : hn} : f_Rents_fall S0 43 19 v2 (N.1, N.2, rT c) = emv c (F_Rents_fall c v2 N) := by
  unfold f_Rents_fall F_Rents_fall
  (simp only [hl_n, hl_wI, hl_wL, hl_cp, em_s, em_n, em_g, em_i, em_l, em_b, em_v, emv_s, emv_n, emv_g, emv_i, emv_l, emv_b, emv_v, hb_em, hv_em, hg_T, ne_eq, not_false_eq_true, nz_c, S0_c, S0_lw, S0_h, isHold_36, hc, hc.d, hc.l, hc.d.l, nz_1, nz_2, nz_3, nz_4, nz_5, nz_6, nz_7, nz_8, hv2, S0_19, S0_43, ib_46, ib_c7, q_Hold_lit hc, q_Hold_panesOf hc, q_J7_fill_53178 hc, q_Rents_givenBy hc, q_Rents_yearOf hc, rT_19_0, rT_43_4, rT_c7, q_Rents_fall_1 hc]) <;> rfl
set_option maxRecDepth 100000 in
set_option maxHeartbeats 4000000 in
theorem r_Ps_fallen_1 {c : Nat} (hc : isChap c) {k19 : Nat → Int32 → Int32 → hm_M → Option (Int32 × hm_M)} {K19 : Int32 → Int32 → hn → Option (Int32 × hn)} (hk19 : ∀ (v1 : Int32) (v2 : Int32) (N : hn), k19 1 v1 v2 (N.1, N.2, rT c) = em c (K19 v1 v2 N)) {v1 : Int32} {v2 : Int32} {N : hn} : b_Ps_fallen_1 S0 k19 1 v1 v2 (N.1, N.2, rT c) = em c (B_Ps_fallen_1 c K19 v1 v2 N) := by
  unfold b_Ps_fallen_1 B_Ps_fallen_1
  (simp only [hl_n, hl_wI, hl_wL, hl_cp, em_s, em_n, em_g, em_i, em_l, em_b, em_v, emv_s, emv_n, emv_g, emv_i, emv_l, emv_b, emv_v, hb_em, hv_em, hg_T, ne_eq, not_false_eq_true, nz_c, S0_c, S0_lw, S0_h, isHold_36, hc, hc.d, hc.l, hc.d.l, nz_1, nz_2, nz_3, nz_4, nz_5, nz_6, nz_7, nz_8, S0_1, S0_19, S0_36, S0_43, ib_46, q_Rents_fall hc, rT_1_1, rT_1_2, rT_1_4, rT_43_4, hk19]) <;> rfl
theorem q_Ps_fallen_1 {c : Nat} (hc : isChap c) : ∀ (n : Nat) (v1 : Int32) (v2 : Int32) (N : hn), f_Ps_fallen_1 S0 n 1 v1 v2 (N.1, N.2, rT c) = em c (F_Ps_fallen_1 c n v1 v2 N) := by
  intro n
  induction n with
  | zero => intros; rfl
  | succ n ih => intro v1 v2 N ; exact r_Ps_fallen_1 hc  ih 
set_option maxRecDepth 100000 in
set_option maxHeartbeats 4000000 in
theorem q_Ps_fallen {c : Nat} (hc : isChap c) {N : hn} : f_Ps_fallen S0 1 (N.1, N.2, rT c) = em c (F_Ps_fallen c N) := by
  unfold f_Ps_fallen F_Ps_fallen
  (simp only [hl_n, hl_wI, hl_wL, hl_cp, em_s, em_n, em_g, em_i, em_l, em_b, em_v, emv_s, emv_n, emv_g, emv_i, emv_l, emv_b, emv_v, hb_em, hv_em, hg_T, ne_eq, not_false_eq_true, nz_c, S0_c, S0_lw, S0_h, isHold_36, hc, hc.d, hc.l, hc.d.l, nz_1, nz_2, nz_3, nz_4, nz_5, nz_6, nz_7, nz_8, S0_1, S0_19, S0_36, S0_43, ib_46, q_Rents_fall hc, rT_1_1, rT_1_2, rT_1_4, rT_43_4, q_Ps_fallen_1 hc]) <;> rfl
set_option maxRecDepth 100000 in
set_option maxHeartbeats 4000000 in
theorem q_Ps_falls {c : Nat} (hc : isChap c) {v1 : Int32} {N : hn} : f_Ps_falls S0 1 v1 (N.1, N.2, rT c) = em c (F_Ps_falls c v1 N) := by
  unfold f_Ps_falls F_Ps_falls
  (simp only [hl_n, hl_wI, hl_wL, hl_cp, em_s, em_n, em_g, em_i, em_l, em_b, em_v, emv_s, emv_n, emv_g, emv_i, emv_l, emv_b, emv_v, hb_em, hv_em, hg_T, ne_eq, not_false_eq_true, nz_c, S0_c, S0_lw, S0_h, isHold_36, hc, hc.d, hc.l, hc.d.l, nz_1, nz_2, nz_3, nz_4, nz_5, nz_6, nz_7, nz_8, S0_1, S0_19, S0_36, S0_43, ib_46, q_Ps_isGuild hc, q_Rents_fall hc, rT_1_1, rT_1_2, rT_1_4, rT_43_4]) <;> rfl
set_option maxRecDepth 100000 in
set_option maxHeartbeats 4000000 in
theorem q_Tape_isFed {c : Nat} (hc : isChap c) {v0 : Int32} {N : hn} : f_Tape_isFed S0 v0 (N.1, N.2, rT c) = em c (F_Tape_isFed c v0 N) := by
  unfold f_Tape_isFed F_Tape_isFed
  (simp only [hl_n, hl_wI, hl_wL, hl_cp, em_s, em_n, em_g, em_i, em_l, em_b, em_v, emv_s, emv_n, emv_g, emv_i, emv_l, emv_b, emv_v, hb_em, hv_em, hg_T, ne_eq, not_false_eq_true, nz_c, S0_c, S0_lw, S0_h, isHold_36, hc, hc.d, hc.l, hc.d.l, nz_1, nz_2, nz_3, nz_4, nz_5, nz_6, nz_7, nz_8, S0_3]) <;> rfl
set_option maxRecDepth 100000 in
set_option maxHeartbeats 4000000 in
theorem r_Tape_add_1 {c : Nat} (hc : isChap c) {k3 : Nat → Int64 → Int32 → hm_M → Option hm_M} {K3 : Int64 → Int32 → hn → Option hn} (hk3 : ∀ (v1 : Int64) (v3 : Int32) (N : hn), k3 3 v1 v3 (N.1, N.2, rT c) = emv c (K3 v1 v3 N)) {v1 : Int64} {v3 : Int32} {N : hn} : b_Tape_add_1 S0 k3 3 v1 v3 (N.1, N.2, rT c) = emv c (B_Tape_add_1 c K3 v1 v3 N) := by
  unfold b_Tape_add_1 B_Tape_add_1
  (simp only [hl_n, hl_wI, hl_wL, hl_cp, em_s, em_n, em_g, em_i, em_l, em_b, em_v, emv_s, emv_n, emv_g, emv_i, emv_l, emv_b, emv_v, hb_em, hv_em, hg_T, ne_eq, not_false_eq_true, nz_c, S0_c, S0_lw, S0_h, isHold_36, hc, hc.d, hc.l, hc.d.l, nz_1, nz_2, nz_3, nz_4, nz_5, nz_6, nz_7, nz_8, S0_3, ib_4, q_Tape_isFed hc, rT_3_0, hk3]) <;> rfl
theorem q_Tape_add_1 {c : Nat} (hc : isChap c) : ∀ (n : Nat) (v1 : Int64) (v3 : Int32) (N : hn), f_Tape_add_1 S0 n 3 v1 v3 (N.1, N.2, rT c) = emv c (F_Tape_add_1 c n v1 v3 N) := by
  intro n
  induction n with
  | zero => intros; rfl
  | succ n ih => intro v1 v3 N ; exact r_Tape_add_1 hc  ih 
set_option maxRecDepth 100000 in
set_option maxHeartbeats 4000000 in
theorem q_Tape_add {c : Nat} (hc : isChap c) {v1 : Int64} {N : hn} : f_Tape_add S0 3 v1 (N.1, N.2, rT c) = emv c (F_Tape_add c v1 N) := by
  unfold f_Tape_add F_Tape_add
  (simp only [hl_n, hl_wI, hl_wL, hl_cp, em_s, em_n, em_g, em_i, em_l, em_b, em_v, emv_s, emv_n, emv_g, emv_i, emv_l, emv_b, emv_v, hb_em, hv_em, hg_T, ne_eq, not_false_eq_true, nz_c, S0_c, S0_lw, S0_h, isHold_36, hc, hc.d, hc.l, hc.d.l, nz_1, nz_2, nz_3, nz_4, nz_5, nz_6, nz_7, nz_8, S0_3, ib_4, q_Tape_isFed hc, rT_3_0, q_Tape_add_1 hc]) <;> rfl
set_option maxRecDepth 100000 in
set_option maxHeartbeats 4000000 in
theorem q_Ps_feed {c : Nat} (hc : isChap c) {v1 : Int64} {v3 : Int64} {v5 : Int64} {N : hn} : f_Ps_feed S0 1 v1 v3 v5 (N.1, N.2, rT c) = em c (F_Ps_feed c v1 v3 v5 N) := by
  unfold f_Ps_feed F_Ps_feed
  (simp only [hl_n, hl_wI, hl_wL, hl_cp, em_s, em_n, em_g, em_i, em_l, em_b, em_v, emv_s, emv_n, emv_g, emv_i, emv_l, emv_b, emv_v, hb_em, hv_em, hg_T, ne_eq, not_false_eq_true, nz_c, S0_c, S0_lw, S0_h, isHold_36, hc, hc.d, hc.l, hc.d.l, nz_1, nz_2, nz_3, nz_4, nz_5, nz_6, nz_7, nz_8, S0_1, S0_2, S0_3, q_Tape_add hc, rT_1_0, rT_2_0]) <;> rfl
set_option maxRecDepth 100000 in
set_option maxHeartbeats 4000000 in
theorem q_Ps_gain {c : Nat} (hc : isChap c) {v1 : Int32} {v2 : Int32} {N : hn} : f_Ps_gain S0 1 v1 v2 (N.1, N.2, rT c) = em c (F_Ps_gain c v1 v2 N) := by
  unfold f_Ps_gain F_Ps_gain
  (simp only [hl_n, hl_wI, hl_wL, hl_cp, em_s, em_n, em_g, em_i, em_l, em_b, em_v, emv_s, emv_n, emv_g, emv_i, emv_l, emv_b, emv_v, hb_em, hv_em, hg_T, ne_eq, not_false_eq_true, nz_c, S0_c, S0_lw, S0_h, isHold_36, hc, hc.d, hc.l, hc.d.l, nz_1, nz_2, nz_3, nz_4, nz_5, nz_6, nz_7, nz_8, S0_1, S0_19, S0_36, S0_43, q_Ps_canExchange hc, q_Ps_yearNow hc, q_Rents_gainOf hc, rT_19_0, rT_1_1, rT_1_2, rT_1_4]) <;> rfl
set_option maxRecDepth 100000 in
set_option maxHeartbeats 4000000 in
theorem q_Ps_guild {c : Nat} (hc : isChap c) {v1 : Int32} {v2 : Int32} {N : hn} : f_Ps_guild S0 1 v1 v2 (N.1, N.2, rT c) = em c (F_Ps_guild c v1 v2 N) := by
  unfold f_Ps_guild F_Ps_guild
  (simp only [hl_n, hl_wI, hl_wL, hl_cp, em_s, em_n, em_g, em_i, em_l, em_b, em_v, emv_s, emv_n, emv_g, emv_i, emv_l, emv_b, emv_v, hb_em, hv_em, hg_T, ne_eq, not_false_eq_true, nz_c, S0_c, S0_lw, S0_h, isHold_36, hc, hc.d, hc.l, hc.d.l, nz_1, nz_2, nz_3, nz_4, nz_5, nz_6, nz_7, nz_8, S0_1, S0_19, S0_36, ib_c6, ib_c7, q_Hold_panesOf hc, q_Ps_isGuild hc, rT_19_0, rT_1_1, rT_1_2, rT_c6, rT_c7]) <;> rfl
set_option maxRecDepth 100000 in
set_option maxHeartbeats 4000000 in
theorem q_Ps_isStained {c : Nat} (hc : isChap c) {v1 : Int32} {v2 : Int32} {v3 : Int32} {v4 : Int32} {N : hn} : f_Ps_isStained S0 1 v1 v2 v3 v4 (N.1, N.2, rT c) = em c (F_Ps_isStained c v1 v2 v3 v4 N) := by
  unfold f_Ps_isStained F_Ps_isStained
  (simp only [hl_n, hl_wI, hl_wL, hl_cp, em_s, em_n, em_g, em_i, em_l, em_b, em_v, emv_s, emv_n, emv_g, emv_i, emv_l, emv_b, emv_v, hb_em, hv_em, hg_T, ne_eq, not_false_eq_true, nz_c, S0_c, S0_lw, S0_h, isHold_36, hc, hc.d, hc.l, hc.d.l, nz_1, nz_2, nz_3, nz_4, nz_5, nz_6, nz_7, nz_8, S0_1, q_Ps_isTime hc]) <;> rfl
set_option maxRecDepth 100000 in
set_option maxHeartbeats 4000000 in
theorem r_Hold_copy_2 {c : Nat} (hc : isChap c) {k52 : Nat → Nat → Int32 → hm_M → Option hm_M} {K52 : Nat → Nat → Int32 → hn → Option hn} (hk52 : ∀ (v0 : Nat) (v1 : Nat) (v2 : Int32) (N : hn), isHold v0 → isHold v1 → k52 v0 v1 v2 (N.1, N.2, rT c) = emv c (K52 v0 v1 v2 N)) {v0 : Nat} {v1 : Nat} {v2 : Int32} (hv0 : isHold v0) (hv1 : isHold v1) {N : hn} : b_Hold_copy_2 S0 k52 v0 v1 v2 (N.1, N.2, rT c) = emv c (B_Hold_copy_2 c K52 v0 v1 v2 N) := by
  unfold b_Hold_copy_2 B_Hold_copy_2
  (simp only [hl_n, hl_wI, hl_wL, hl_cp, em_s, em_n, em_g, em_i, em_l, em_b, em_v, emv_s, emv_n, emv_g, emv_i, emv_l, emv_b, emv_v, hb_em, hv_em, hg_T, ne_eq, not_false_eq_true, nz_c, S0_c, S0_lw, S0_h, isHold_36, hc, hc.d, hc.l, hc.d.l, nz_1, nz_2, nz_3, nz_4, nz_5, nz_6, nz_7, nz_8, hv0, hv1, ib_h0, ib_h3, ib_h4, rT_h0, rT_h3, rT_h4, hk52]) <;> rfl
theorem q_Hold_copy_2 {c : Nat} (hc : isChap c) : ∀ (n : Nat) (v0 : Nat) (v1 : Nat) (v2 : Int32) (N : hn), isHold v0 → isHold v1 → f_Hold_copy_2 S0 n v0 v1 v2 (N.1, N.2, rT c) = emv c (F_Hold_copy_2 c n v0 v1 v2 N) := by
  intro n
  induction n with
  | zero => intros; rfl
  | succ n ih => intro v0 v1 v2 N hv0 hv1; exact r_Hold_copy_2 hc  ih hv0 hv1
set_option maxRecDepth 100000 in
set_option maxHeartbeats 4000000 in
theorem r_Hold_copy_1 {c : Nat} (hc : isChap c) {k26 : Nat → Nat → Int32 → hm_M → Option hm_M} {K26 : Nat → Nat → Int32 → hn → Option hn} (hk26 : ∀ (v0 : Nat) (v1 : Nat) (v2 : Int32) (N : hn), isHold v0 → isHold v1 → k26 v0 v1 v2 (N.1, N.2, rT c) = emv c (K26 v0 v1 v2 N)) {v0 : Nat} {v1 : Nat} {v2 : Int32} (hv0 : isHold v0) (hv1 : isHold v1) {N : hn} : b_Hold_copy_1 S0 k26 v0 v1 v2 (N.1, N.2, rT c) = emv c (B_Hold_copy_1 c K26 v0 v1 v2 N) := by
  unfold b_Hold_copy_1 B_Hold_copy_1
  (simp only [hl_n, hl_wI, hl_wL, hl_cp, em_s, em_n, em_g, em_i, em_l, em_b, em_v, emv_s, emv_n, emv_g, emv_i, emv_l, emv_b, emv_v, hb_em, hv_em, hg_T, ne_eq, not_false_eq_true, nz_c, S0_c, S0_lw, S0_h, isHold_36, hc, hc.d, hc.l, hc.d.l, nz_1, nz_2, nz_3, nz_4, nz_5, nz_6, nz_7, nz_8, hv0, hv1, ib_h0, ib_h3, ib_h4, rT_h0, rT_h3, rT_h4, hk26, q_Hold_copy_2 hc]) <;> rfl
theorem q_Hold_copy_1 {c : Nat} (hc : isChap c) : ∀ (n : Nat) (v0 : Nat) (v1 : Nat) (v2 : Int32) (N : hn), isHold v0 → isHold v1 → f_Hold_copy_1 S0 n v0 v1 v2 (N.1, N.2, rT c) = emv c (F_Hold_copy_1 c n v0 v1 v2 N) := by
  intro n
  induction n with
  | zero => intros; rfl
  | succ n ih => intro v0 v1 v2 N hv0 hv1; exact r_Hold_copy_1 hc  ih hv0 hv1
set_option maxRecDepth 100000 in
set_option maxHeartbeats 4000000 in
theorem q_Hold_copy {c : Nat} (hc : isChap c) {v0 : Nat} {v1 : Nat} (hv0 : isHold v0) (hv1 : isHold v1) {N : hn} : f_Hold_copy S0 v0 v1 (N.1, N.2, rT c) = emv c (F_Hold_copy c v0 v1 N) := by
  unfold f_Hold_copy F_Hold_copy
  (simp only [hl_n, hl_wI, hl_wL, hl_cp, em_s, em_n, em_g, em_i, em_l, em_b, em_v, emv_s, emv_n, emv_g, emv_i, emv_l, emv_b, emv_v, hb_em, hv_em, hg_T, ne_eq, not_false_eq_true, nz_c, S0_c, S0_lw, S0_h, isHold_36, hc, hc.d, hc.l, hc.d.l, nz_1, nz_2, nz_3, nz_4, nz_5, nz_6, nz_7, nz_8, hv0, hv1, ib_h0, ib_h3, ib_h4, rT_h0, rT_h3, rT_h4, q_Hold_copy_1 hc, q_Hold_copy_2 hc]) <;> rfl
set_option maxRecDepth 100000 in
set_option maxHeartbeats 4000000 in
theorem q_Walk_passes {c : Nat} (hc : isChap c) {v1 : Int32} {N : hn} : f_Walk_passes S0 55 v1 (N.1, N.2, rT c) = em c (F_Walk_passes c v1 N) := by
  unfold f_Walk_passes F_Walk_passes
  (simp only [hl_n, hl_wI, hl_wL, hl_cp, em_s, em_n, em_g, em_i, em_l, em_b, em_v, emv_s, emv_n, emv_g, emv_i, emv_l, emv_b, emv_v, hb_em, hv_em, hg_T, ne_eq, not_false_eq_true, nz_c, S0_c, S0_lw, S0_h, isHold_36, hc, hc.d, hc.l, hc.d.l, nz_1, nz_2, nz_3, nz_4, nz_5, nz_6, nz_7, nz_8, S0_55, ib_56, ib_57, rT_55_0, rT_55_1]) <;> rfl
set_option maxRecDepth 100000 in
set_option maxHeartbeats 4000000 in
theorem r_Hold_ownersOf_1 {c : Nat} (hc : isChap c) {k4 : Nat → Int32 → Int32 → Int32 → hm_M → Option (Int32 × hm_M)} {K4 : Nat → Int32 → Int32 → Int32 → hn → Option (Int32 × hn)} (hk4 : ∀ (v0 : Nat) (v1 : Int32) (v2 : Int32) (v3 : Int32) (N : hn), isHold v0 → k4 v0 v1 v2 v3 (N.1, N.2, rT c) = em c (K4 v0 v1 v2 v3 N)) {v0 : Nat} {v1 : Int32} {v2 : Int32} {v3 : Int32} (hv0 : isHold v0) {N : hn} : b_Hold_ownersOf_1 S0 k4 v0 v1 v2 v3 (N.1, N.2, rT c) = em c (B_Hold_ownersOf_1 c K4 v0 v1 v2 v3 N) := by
  unfold b_Hold_ownersOf_1 B_Hold_ownersOf_1
  (simp only [hl_n, hl_wI, hl_wL, hl_cp, em_s, em_n, em_g, em_i, em_l, em_b, em_v, emv_s, emv_n, emv_g, emv_i, emv_l, emv_b, emv_v, hb_em, hv_em, hg_T, ne_eq, not_false_eq_true, nz_c, S0_c, S0_lw, S0_h, isHold_36, hc, hc.d, hc.l, hc.d.l, nz_1, nz_2, nz_3, nz_4, nz_5, nz_6, nz_7, nz_8, hv0, ib_h0, rT_h0, hk4]) <;> rfl
theorem q_Hold_ownersOf_1 {c : Nat} (hc : isChap c) : ∀ (n : Nat) (v0 : Nat) (v1 : Int32) (v2 : Int32) (v3 : Int32) (N : hn), isHold v0 → f_Hold_ownersOf_1 S0 n v0 v1 v2 v3 (N.1, N.2, rT c) = em c (F_Hold_ownersOf_1 c n v0 v1 v2 v3 N) := by
  intro n
  induction n with
  | zero => intros; rfl
  | succ n ih => intro v0 v1 v2 v3 N hv0; exact r_Hold_ownersOf_1 hc  ih hv0
set_option maxRecDepth 100000 in
set_option maxHeartbeats 4000000 in
theorem q_Hold_ownersOf {c : Nat} (hc : isChap c) {v0 : Nat} {v1 : Int32} (hv0 : isHold v0) {N : hn} : f_Hold_ownersOf S0 v0 v1 (N.1, N.2, rT c) = em c (F_Hold_ownersOf c v0 v1 N) := by
  unfold f_Hold_ownersOf F_Hold_ownersOf
  (simp only [hl_n, hl_wI, hl_wL, hl_cp, em_s, em_n, em_g, em_i, em_l, em_b, em_v, emv_s, emv_n, emv_g, emv_i, emv_l, emv_b, emv_v, hb_em, hv_em, hg_T, ne_eq, not_false_eq_true, nz_c, S0_c, S0_lw, S0_h, isHold_36, hc, hc.d, hc.l, hc.d.l, nz_1, nz_2, nz_3, nz_4, nz_5, nz_6, nz_7, nz_8, hv0, ib_h0, rT_h0, q_Hold_ownersOf_1 hc]) <;> rfl
set_option maxRecDepth 100000 in
set_option maxHeartbeats 4000000 in
theorem r_Ps_ownersOnAll_1 {c : Nat} (hc : isChap c) {k4 : Nat → Int32 → Int32 → hm_M → Option (Int32 × hm_M)} {K4 : Int32 → Int32 → hn → Option (Int32 × hn)} (hk4 : ∀ (v1 : Int32) (v2 : Int32) (N : hn), k4 1 v1 v2 (N.1, N.2, rT c) = em c (K4 v1 v2 N)) {v1 : Int32} {v2 : Int32} {N : hn} : b_Ps_ownersOnAll_1 S0 k4 1 v1 v2 (N.1, N.2, rT c) = em c (B_Ps_ownersOnAll_1 c K4 v1 v2 N) := by
  unfold b_Ps_ownersOnAll_1 B_Ps_ownersOnAll_1
  (simp only [hl_n, hl_wI, hl_wL, hl_cp, em_s, em_n, em_g, em_i, em_l, em_b, em_v, emv_s, emv_n, emv_g, emv_i, emv_l, emv_b, emv_v, hb_em, hv_em, hg_T, ne_eq, not_false_eq_true, nz_c, S0_c, S0_lw, S0_h, isHold_36, hc, hc.d, hc.l, hc.d.l, nz_1, nz_2, nz_3, nz_4, nz_5, nz_6, nz_7, nz_8, S0_1, S0_19, S0_36, S0_55, q_Hold_lit hc, q_Hold_ownersOf hc, q_Light_panesOn hc, q_Walk_passes hc, rT_1_1, rT_1_2, rT_1_7, hk4]) <;> rfl
theorem q_Ps_ownersOnAll_1 {c : Nat} (hc : isChap c) : ∀ (n : Nat) (v1 : Int32) (v2 : Int32) (N : hn), f_Ps_ownersOnAll_1 S0 n 1 v1 v2 (N.1, N.2, rT c) = em c (F_Ps_ownersOnAll_1 c n v1 v2 N) := by
  intro n
  induction n with
  | zero => intros; rfl
  | succ n ih => intro v1 v2 N ; exact r_Ps_ownersOnAll_1 hc  ih 
set_option maxRecDepth 100000 in
set_option maxHeartbeats 4000000 in
theorem q_Ps_ownersOnAll {c : Nat} (hc : isChap c) {N : hn} : f_Ps_ownersOnAll S0 1 (N.1, N.2, rT c) = em c (F_Ps_ownersOnAll c N) := by
  unfold f_Ps_ownersOnAll F_Ps_ownersOnAll
  (simp only [hl_n, hl_wI, hl_wL, hl_cp, em_s, em_n, em_g, em_i, em_l, em_b, em_v, emv_s, emv_n, emv_g, emv_i, emv_l, emv_b, emv_v, hb_em, hv_em, hg_T, ne_eq, not_false_eq_true, nz_c, S0_c, S0_lw, S0_h, isHold_36, hc, hc.d, hc.l, hc.d.l, nz_1, nz_2, nz_3, nz_4, nz_5, nz_6, nz_7, nz_8, S0_1, S0_19, S0_36, S0_55, q_Hold_lit hc, q_Hold_ownersOf hc, q_Light_panesOn hc, q_Walk_passes hc, rT_1_1, rT_1_2, rT_1_7, q_Ps_ownersOnAll_1 hc]) <;> rfl
set_option maxRecDepth 100000 in
set_option maxHeartbeats 4000000 in
theorem q_Ps_ownersOnSome_2 {c : Nat} (hc : isChap c) {k4 : Nat → Int32 → Int32 → hm_M → Option (Int32 × hm_M)} {K4 : Int32 → Int32 → hn → Option (Int32 × hn)} (hk4 : ∀ (v1 : Int32) (v2 : Int32) (N : hn), k4 1 v1 v2 (N.1, N.2, rT c) = em c (K4 v1 v2 N)) {v2 : Int32} {s0 : Int32} {N : hn} : b_Ps_ownersOnSome_2 S0 k4 1 v2 s0 (N.1, N.2, rT c) = em c (B_Ps_ownersOnSome_2 c K4 v2 s0 N) := by
  unfold b_Ps_ownersOnSome_2 B_Ps_ownersOnSome_2
  (simp only [hl_n, hl_wI, hl_wL, hl_cp, em_s, em_n, em_g, em_i, em_l, em_b, em_v, emv_s, emv_n, emv_g, emv_i, emv_l, emv_b, emv_v, hb_em, hv_em, hg_T, ne_eq, not_false_eq_true, nz_c, S0_c, S0_lw, S0_h, isHold_36, hc, hc.d, hc.l, hc.d.l, nz_1, nz_2, nz_3, nz_4, nz_5, nz_6, nz_7, nz_8, S0_1, S0_19, S0_36, S0_55, q_Hold_lit hc, q_Hold_ownersOf hc, q_Light_panesOn hc, q_Walk_passes hc, rT_1_1, rT_1_2, rT_1_7, hk4]) <;> rfl
set_option maxRecDepth 100000 in
set_option maxHeartbeats 4000000 in
theorem r_Ps_ownersOnSome_1 {c : Nat} (hc : isChap c) {k4 : Nat → Int32 → Int32 → hm_M → Option (Int32 × hm_M)} {K4 : Int32 → Int32 → hn → Option (Int32 × hn)} (hk4 : ∀ (v1 : Int32) (v2 : Int32) (N : hn), k4 1 v1 v2 (N.1, N.2, rT c) = em c (K4 v1 v2 N)) {v1 : Int32} {v2 : Int32} {N : hn} : b_Ps_ownersOnSome_1 S0 k4 1 v1 v2 (N.1, N.2, rT c) = em c (B_Ps_ownersOnSome_1 c K4 v1 v2 N) := by
  unfold b_Ps_ownersOnSome_1 B_Ps_ownersOnSome_1
  (simp only [hl_n, hl_wI, hl_wL, hl_cp, em_s, em_n, em_g, em_i, em_l, em_b, em_v, emv_s, emv_n, emv_g, emv_i, emv_l, emv_b, emv_v, hb_em, hv_em, hg_T, ne_eq, not_false_eq_true, nz_c, S0_c, S0_lw, S0_h, isHold_36, hc, hc.d, hc.l, hc.d.l, nz_1, nz_2, nz_3, nz_4, nz_5, nz_6, nz_7, nz_8, S0_1, S0_19, S0_36, S0_55, q_Hold_lit hc, q_Hold_ownersOf hc, q_Light_panesOn hc, q_Walk_passes hc, rT_1_1, rT_1_2, rT_1_7, hk4, q_Ps_ownersOnSome_2 hc hk4]) <;> rfl
theorem q_Ps_ownersOnSome_1 {c : Nat} (hc : isChap c) : ∀ (n : Nat) (v1 : Int32) (v2 : Int32) (N : hn), f_Ps_ownersOnSome_1 S0 n 1 v1 v2 (N.1, N.2, rT c) = em c (F_Ps_ownersOnSome_1 c n v1 v2 N) := by
  intro n
  induction n with
  | zero => intros; rfl
  | succ n ih => intro v1 v2 N ; exact r_Ps_ownersOnSome_1 hc  ih 
set_option maxRecDepth 100000 in
set_option maxHeartbeats 4000000 in
theorem q_Ps_ownersOnSome {c : Nat} (hc : isChap c) {N : hn} : f_Ps_ownersOnSome S0 1 (N.1, N.2, rT c) = em c (F_Ps_ownersOnSome c N) := by
  unfold f_Ps_ownersOnSome F_Ps_ownersOnSome
  (simp only [hl_n, hl_wI, hl_wL, hl_cp, em_s, em_n, em_g, em_i, em_l, em_b, em_v, emv_s, emv_n, emv_g, emv_i, emv_l, emv_b, emv_v, hb_em, hv_em, hg_T, ne_eq, not_false_eq_true, nz_c, S0_c, S0_lw, S0_h, isHold_36, hc, hc.d, hc.l, hc.d.l, nz_1, nz_2, nz_3, nz_4, nz_5, nz_6, nz_7, nz_8, S0_1, S0_19, S0_36, S0_55, q_Hold_lit hc, q_Hold_ownersOf hc, q_Light_panesOn hc, q_Walk_passes hc, rT_1_1, rT_1_2, rT_1_7, q_Ps_ownersOnSome_1 hc]) <;> rfl
set_option maxRecDepth 100000 in
set_option maxHeartbeats 4000000 in
theorem q_Ps_pane {c : Nat} (hc : isChap c) {v1 : Int32} {v2 : Int32} {N : hn} : f_Ps_pane S0 1 v1 v2 (N.1, N.2, rT c) = em c (F_Ps_pane c v1 v2 N) := by
  unfold f_Ps_pane F_Ps_pane
  (simp only [hl_n, hl_wI, hl_wL, hl_cp, em_s, em_n, em_g, em_i, em_l, em_b, em_v, emv_s, emv_n, emv_g, emv_i, emv_l, emv_b, emv_v, hb_em, hv_em, hg_T, ne_eq, not_false_eq_true, nz_c, S0_c, S0_lw, S0_h, isHold_36, hc, hc.d, hc.l, hc.d.l, nz_1, nz_2, nz_3, nz_4, nz_5, nz_6, nz_7, nz_8, S0_1, S0_19, S0_36, ib_c11, ib_c8, ib_c9, ib_h0, q_Hold_isBroken hc, q_Ps_isPane hc, rT_19_0, rT_1_1, rT_1_2, rT_c11, rT_c8, rT_c9, rT_h0]) <;> rfl
set_option maxRecDepth 100000 in
set_option maxHeartbeats 4000000 in
theorem q_Ps_place {c : Nat} (hc : isChap c) {v1 : Int32} {v2 : Int32} {v3 : Int32} {v4 : Int32} {v5 : Int32} {N : hn} : f_Ps_place S0 1 v1 v2 v3 v4 v5 (N.1, N.2, rT c) = em c (F_Ps_place c v1 v2 v3 v4 v5 N) := by
  unfold f_Ps_place F_Ps_place
  (simp only [hl_n, hl_wI, hl_wL, hl_cp, em_s, em_n, em_g, em_i, em_l, em_b, em_v, emv_s, emv_n, emv_g, emv_i, emv_l, emv_b, emv_v, hb_em, hv_em, hg_T, ne_eq, not_false_eq_true, nz_c, S0_c, S0_lw, S0_h, isHold_36, hc, hc.d, hc.l, hc.d.l, nz_1, nz_2, nz_3, nz_4, nz_5, nz_6, nz_7, nz_8, S0_1, S0_19, S0_36, q_Chapel_colourOf hc, q_Chapel_hasPlace hc, q_Hold_lit hc, q_Hold_ownersOf hc, q_J6_bitCount_0f7a4 hc, q_Light_panesOn hc, q_Light_turnTo hc, q_Ps_isTime hc, q_Ps_placeOf hc, q_Ps_timeOf hc, rT_19_0, rT_1_1, rT_1_2]) <;> rfl
set_option maxRecDepth 100000 in
set_option maxHeartbeats 4000000 in
theorem q_Ps_rents {c : Nat} (hc : isChap c) {v1 : Int32} {N : hn} : f_Ps_rents S0 1 v1 (N.1, N.2, rT c) = em c (F_Ps_rents c v1 N) := by
  unfold f_Ps_rents F_Ps_rents
  (simp only [hl_n, hl_wI, hl_wL, hl_cp, em_s, em_n, em_g, em_i, em_l, em_b, em_v, emv_s, emv_n, emv_g, emv_i, emv_l, emv_b, emv_v, hb_em, hv_em, hg_T, ne_eq, not_false_eq_true, nz_c, S0_c, S0_lw, S0_h, isHold_36, hc, hc.d, hc.l, hc.d.l, nz_1, nz_2, nz_3, nz_4, nz_5, nz_6, nz_7, nz_8, S0_1, S0_36, S0_43, q_Hold_panesOf hc, q_Ps_isGuild hc, q_Ps_yearNow hc, q_Rents_givenBy hc, rT_1_2, rT_1_4]) <;> rfl
set_option maxRecDepth 100000 in
set_option maxHeartbeats 4000000 in
theorem q_Hold_keepSeen {c : Nat} (hc : isChap c) {v0 : Nat} {v1 : Int32} {v2 : Int32} (hv0 : isHold v0) {N : hn} : f_Hold_keepSeen S0 v0 v1 v2 (N.1, N.2, rT c) = em c (F_Hold_keepSeen c v0 v1 v2 N) := by
  unfold f_Hold_keepSeen F_Hold_keepSeen
  (simp only [hl_n, hl_wI, hl_wL, hl_cp, em_s, em_n, em_g, em_i, em_l, em_b, em_v, emv_s, emv_n, emv_g, emv_i, emv_l, emv_b, emv_v, hb_em, hv_em, hg_T, ne_eq, not_false_eq_true, nz_c, S0_c, S0_lw, S0_h, isHold_36, hc, hc.d, hc.l, hc.d.l, nz_1, nz_2, nz_3, nz_4, nz_5, nz_6, nz_7, nz_8, hv0, ib_h3, ib_h4, rT_h3, rT_h4]) <;> rfl
set_option maxRecDepth 100000 in
set_option maxHeartbeats 4000000 in
theorem q_Ps_see {c : Nat} (hc : isChap c) {v1 : Int32} {v2 : Int32} {v3 : Int32} {N : hn} : f_Ps_see S0 1 v1 v2 v3 (N.1, N.2, rT c) = em c (F_Ps_see c v1 v2 v3 N) := by
  unfold f_Ps_see F_Ps_see
  (simp only [hl_n, hl_wI, hl_wL, hl_cp, em_s, em_n, em_g, em_i, em_l, em_b, em_v, emv_s, emv_n, emv_g, emv_i, emv_l, emv_b, emv_v, hb_em, hv_em, hg_T, ne_eq, not_false_eq_true, nz_c, S0_c, S0_lw, S0_h, isHold_36, hc, hc.d, hc.l, hc.d.l, nz_1, nz_2, nz_3, nz_4, nz_5, nz_6, nz_7, nz_8, S0_1, S0_19, S0_36, q_Chapel_hasPlace hc, q_Hold_keepSeen hc, q_Ps_placeOf hc, rT_19_0, rT_1_1, rT_1_2]) <;> rfl
set_option maxRecDepth 100000 in
set_option maxHeartbeats 4000000 in
theorem q_Ps_spot {c : Nat} (hc : isChap c) {v1 : Int32} {v2 : Int32} {v3 : Int32} {N : hn} : f_Ps_spot S0 1 v1 v2 v3 (N.1, N.2, rT c) = em c (F_Ps_spot c v1 v2 v3 N) := by
  unfold f_Ps_spot F_Ps_spot
  (simp only [hl_n, hl_wI, hl_wL, hl_cp, em_s, em_n, em_g, em_i, em_l, em_b, em_v, emv_s, emv_n, emv_g, emv_i, emv_l, emv_b, emv_v, hb_em, hv_em, hg_T, ne_eq, not_false_eq_true, nz_c, S0_c, S0_lw, S0_h, isHold_36, hc, hc.d, hc.l, hc.d.l, nz_1, nz_2, nz_3, nz_4, nz_5, nz_6, nz_7, nz_8, S0_1, S0_19, S0_36, ib_34, q_Hold_isBroken hc, q_Light_turnTo hc, q_Ps_isPane hc, q_Ps_isTime hc, q_Ps_timeOf hc, rT_19_1, rT_1_1, rT_1_2]) <;> rfl
set_option maxRecDepth 100000 in
set_option maxHeartbeats 4000000 in
theorem q_Walk_keepColoured_2 {c : Nat} (hc : isChap c) {k22 : Nat → Int32 → Nat → Int32 → Int32 → hm_M → Option hm_M} {K22 : Int32 → Nat → Int32 → Int32 → hn → Option hn} (hk22 : ∀ (v1 : Int32) (v5 : Nat) (v6 : Int32) (v7 : Int32) (N : hn), k22 19 v1 v5 v6 v7 (N.1, N.2, rT c) = emv c (K22 v1 v5 v6 v7 N)) {v1 : Int32} {v5 : Nat} {v6 : Int32} {v7 : Int32} {N : hn} : b_Walk_keepColoured_2 S0 k22 19 v1 v5 v6 v7 (N.1, N.2, rT c) = emv c (B_Walk_keepColoured_2 c K22 v1 v5 v6 v7 N) := by
  unfold b_Walk_keepColoured_2 B_Walk_keepColoured_2
  (simp only [hl_n, hl_wI, hl_wL, hl_cp, em_s, em_n, em_g, em_i, em_l, em_b, em_v, emv_s, emv_n, emv_g, emv_i, emv_l, emv_b, emv_v, hb_em, hv_em, hg_T, ne_eq, not_false_eq_true, nz_c, S0_c, S0_lw, S0_h, isHold_36, hc, hc.d, hc.l, hc.d.l, nz_1, nz_2, nz_3, nz_4, nz_5, nz_6, nz_7, nz_8, S0_19, S0_55, q_Chapel_hasPlace hc, q_Light_colourOn hc, q_Light_turnTo hc, rT_19_0, hk22]) <;> rfl
set_option maxRecDepth 100000 in
set_option maxHeartbeats 4000000 in
theorem r_Walk_keepColoured_1 {c : Nat} (hc : isChap c) {k22 : Nat → Int32 → Nat → Int32 → Int32 → hm_M → Option hm_M} {K22 : Int32 → Nat → Int32 → Int32 → hn → Option hn} (hk22 : ∀ (v1 : Int32) (v5 : Nat) (v6 : Int32) (v7 : Int32) (N : hn), k22 19 v1 v5 v6 v7 (N.1, N.2, rT c) = emv c (K22 v1 v5 v6 v7 N)) {v1 : Int32} {v5 : Nat} {v6 : Int32} {v7 : Int32} {N : hn} : b_Walk_keepColoured_1 S0 k22 19 v1 v5 v6 v7 (N.1, N.2, rT c) = emv c (B_Walk_keepColoured_1 c K22 v1 v5 v6 v7 N) := by
  unfold b_Walk_keepColoured_1 B_Walk_keepColoured_1
  (simp only [hl_n, hl_wI, hl_wL, hl_cp, em_s, em_n, em_g, em_i, em_l, em_b, em_v, emv_s, emv_n, emv_g, emv_i, emv_l, emv_b, emv_v, hb_em, hv_em, hg_T, ne_eq, not_false_eq_true, nz_c, S0_c, S0_lw, S0_h, isHold_36, hc, hc.d, hc.l, hc.d.l, nz_1, nz_2, nz_3, nz_4, nz_5, nz_6, nz_7, nz_8, S0_19, S0_55, q_Chapel_hasPlace hc, q_Light_colourOn hc, q_Light_turnTo hc, rT_19_0, hk22, q_Walk_keepColoured_2 hc hk22]) <;> rfl
theorem q_Walk_keepColoured_1 {c : Nat} (hc : isChap c) : ∀ (n : Nat) (v1 : Int32) (v5 : Nat) (v6 : Int32) (v7 : Int32) (N : hn), f_Walk_keepColoured_1 S0 n 19 v1 v5 v6 v7 (N.1, N.2, rT c) = emv c (F_Walk_keepColoured_1 c n v1 v5 v6 v7 N) := by
  intro n
  induction n with
  | zero => intros; rfl
  | succ n ih => intro v1 v5 v6 v7 N ; exact r_Walk_keepColoured_1 hc  ih 
set_option maxRecDepth 100000 in
set_option maxHeartbeats 4000000 in
theorem q_Walk_keepColoured {c : Nat} (hc : isChap c) {v1 : Int32} {v2 : Int32} {v3 : Int32} {v4 : Int32} {v5 : Nat} {N : hn} : f_Walk_keepColoured S0 19 v1 v2 v3 v4 v5 (N.1, N.2, rT c) = emv c (F_Walk_keepColoured c v1 v2 v3 v4 v5 N) := by
  unfold f_Walk_keepColoured F_Walk_keepColoured
  (simp only [hl_n, hl_wI, hl_wL, hl_cp, em_s, em_n, em_g, em_i, em_l, em_b, em_v, emv_s, emv_n, emv_g, emv_i, emv_l, emv_b, emv_v, hb_em, hv_em, hg_T, ne_eq, not_false_eq_true, nz_c, S0_c, S0_lw, S0_h, isHold_36, hc, hc.d, hc.l, hc.d.l, nz_1, nz_2, nz_3, nz_4, nz_5, nz_6, nz_7, nz_8, S0_19, S0_55, q_Chapel_hasPlace hc, q_Light_colourOn hc, q_Light_turnTo hc, rT_19_0, q_Walk_keepColoured_1 hc]) <;> rfl
set_option maxRecDepth 100000 in
set_option maxHeartbeats 4000000 in
theorem q_Walk_waysAround_4 {c : Nat} (hc : isChap c) {s0 : Int32} {s1 : Int32} {N : hn} : b_Walk_waysAround_4 S0 s0 s1 (N.1, N.2, rT c) = em c (B_Walk_waysAround_4 c s0 s1 N) := by
  unfold b_Walk_waysAround_4 B_Walk_waysAround_4
  (simp only [hl_n, hl_wI, hl_wL, hl_cp, em_s, em_n, em_g, em_i, em_l, em_b, em_v, emv_s, emv_n, emv_g, emv_i, emv_l, emv_b, emv_v, hb_em, hv_em, hg_T, ne_eq, not_false_eq_true, nz_c, S0_c, S0_lw, S0_h, isHold_36, hc, hc.d, hc.l, hc.d.l, nz_1, nz_2, nz_3, nz_4, nz_5, nz_6, nz_7, nz_8, S0_55]) <;> rfl
set_option maxRecDepth 100000 in
set_option maxHeartbeats 4000000 in
theorem q_Walk_waysAround_3 {c : Nat} (hc : isChap c) {v0 : Nat} {v1 : Int32} {s0 : Int32} {s1 : Int32} {N : hn} : b_Walk_waysAround_3 S0 v0 v1 s0 s1 (N.1, N.2, rT c) = em c (B_Walk_waysAround_3 c v0 v1 s0 s1 N) := by
  unfold b_Walk_waysAround_3 B_Walk_waysAround_3
  (simp only [hl_n, hl_wI, hl_wL, hl_cp, em_s, em_n, em_g, em_i, em_l, em_b, em_v, emv_s, emv_n, emv_g, emv_i, emv_l, emv_b, emv_v, hb_em, hv_em, hg_T, ne_eq, not_false_eq_true, nz_c, S0_c, S0_lw, S0_h, isHold_36, hc, hc.d, hc.l, hc.d.l, nz_1, nz_2, nz_3, nz_4, nz_5, nz_6, nz_7, nz_8, S0_55, q_Walk_waysAround_4 hc]) <;> rfl
set_option maxRecDepth 100000 in
set_option maxHeartbeats 4000000 in
theorem q_Walk_waysAround_2 {c : Nat} (hc : isChap c) {v0 : Nat} {v1 : Int32} {s0 : Int32} {s1 : Int32} {N : hn} : b_Walk_waysAround_2 S0 v0 v1 s0 s1 (N.1, N.2, rT c) = em c (B_Walk_waysAround_2 c v0 v1 s0 s1 N) := by
  unfold b_Walk_waysAround_2 B_Walk_waysAround_2
  (simp only [hl_n, hl_wI, hl_wL, hl_cp, em_s, em_n, em_g, em_i, em_l, em_b, em_v, emv_s, emv_n, emv_g, emv_i, emv_l, emv_b, emv_v, hb_em, hv_em, hg_T, ne_eq, not_false_eq_true, nz_c, S0_c, S0_lw, S0_h, isHold_36, hc, hc.d, hc.l, hc.d.l, nz_1, nz_2, nz_3, nz_4, nz_5, nz_6, nz_7, nz_8, S0_55, q_Walk_waysAround_4 hc, q_Walk_waysAround_3 hc]) <;> rfl
set_option maxRecDepth 100000 in
set_option maxHeartbeats 4000000 in
theorem q_Walk_waysAround_1 {c : Nat} (hc : isChap c) {v0 : Nat} {v1 : Int32} {s0 : Int32} {s1 : Int32} {N : hn} : b_Walk_waysAround_1 S0 v0 v1 s0 s1 (N.1, N.2, rT c) = em c (B_Walk_waysAround_1 c v0 v1 s0 s1 N) := by
  unfold b_Walk_waysAround_1 B_Walk_waysAround_1
  (simp only [hl_n, hl_wI, hl_wL, hl_cp, em_s, em_n, em_g, em_i, em_l, em_b, em_v, emv_s, emv_n, emv_g, emv_i, emv_l, emv_b, emv_v, hb_em, hv_em, hg_T, ne_eq, not_false_eq_true, nz_c, S0_c, S0_lw, S0_h, isHold_36, hc, hc.d, hc.l, hc.d.l, nz_1, nz_2, nz_3, nz_4, nz_5, nz_6, nz_7, nz_8, S0_55, q_Walk_waysAround_4 hc, q_Walk_waysAround_3 hc, q_Walk_waysAround_2 hc]) <;> rfl
set_option maxRecDepth 100000 in
set_option maxHeartbeats 4000000 in
theorem q_Walk_waysAround {c : Nat} (hc : isChap c) {v0 : Nat} {v1 : Int32} {N : hn} : f_Walk_waysAround S0 v0 v1 (N.1, N.2, rT c) = em c (F_Walk_waysAround c v0 v1 N) := by
  unfold f_Walk_waysAround F_Walk_waysAround
  (simp only [hl_n, hl_wI, hl_wL, hl_cp, em_s, em_n, em_g, em_i, em_l, em_b, em_v, emv_s, emv_n, emv_g, emv_i, emv_l, emv_b, emv_v, hb_em, hv_em, hg_T, ne_eq, not_false_eq_true, nz_c, S0_c, S0_lw, S0_h, isHold_36, hc, hc.d, hc.l, hc.d.l, nz_1, nz_2, nz_3, nz_4, nz_5, nz_6, nz_7, nz_8, S0_55, q_Walk_waysAround_1 hc, q_Walk_waysAround_2 hc, q_Walk_waysAround_3 hc, q_Walk_waysAround_4 hc]) <;> rfl
set_option maxRecDepth 100000 in
set_option maxHeartbeats 4000000 in
theorem r_Walk_go_3 {c : Nat} (hc : isChap c) {k35 : Nat → Nat → Int32 → Int32 → Int32 → Int32 → Int32 → Nat → Int32 → Int32 → hm_M → Option hm_M} {K35 : Int32 → Int32 → Int32 → Int32 → Int32 → Nat → Int32 → Int32 → hn → Option hn} (hk35 : ∀ (v2 : Int32) (v3 : Int32) (v4 : Int32) (v5 : Int32) (v6 : Int32) (v7 : Nat) (v8 : Int32) (v9 : Int32) (N : hn), k35 55 19 v2 v3 v4 v5 v6 v7 v8 v9 (N.1, N.2, rT c) = emv c (K35 v2 v3 v4 v5 v6 v7 v8 v9 N)) {k51 : Nat → Nat → Int32 → Int32 → Int32 → Int32 → Int32 → Nat → Int32 → Int32 → Int32 → hm_M → Option hm_M} {K51 : Int32 → Int32 → Int32 → Int32 → Int32 → Nat → Int32 → Int32 → Int32 → hn → Option hn} (hk51 : ∀ (v2 : Int32) (v3 : Int32) (v4 : Int32) (v5 : Int32) (v6 : Int32) (v7 : Nat) (v8 : Int32) (v9 : Int32) (v10 : Int32) (N : hn), k51 55 19 v2 v3 v4 v5 v6 v7 v8 v9 v10 (N.1, N.2, rT c) = emv c (K51 v2 v3 v4 v5 v6 v7 v8 v9 v10 N)) {v2 : Int32} {v3 : Int32} {v4 : Int32} {v5 : Int32} {v6 : Int32} {v7 : Nat} {v8 : Int32} {v9 : Int32} {v10 : Int32} {N : hn} : b_Walk_go_3 S0 k35 k51 55 19 v2 v3 v4 v5 v6 v7 v8 v9 v10 (N.1, N.2, rT c) = emv c (B_Walk_go_3 c K35 K51 v2 v3 v4 v5 v6 v7 v8 v9 v10 N) := by
  unfold b_Walk_go_3 B_Walk_go_3
  (simp only [hl_n, hl_wI, hl_wL, hl_cp, em_s, em_n, em_g, em_i, em_l, em_b, em_v, emv_s, emv_n, emv_g, emv_i, emv_l, emv_b, emv_v, hb_em, hv_em, hg_T, ne_eq, not_false_eq_true, nz_c, S0_c, S0_lw, S0_h, isHold_36, hc, hc.d, hc.l, hc.d.l, nz_1, nz_2, nz_3, nz_4, nz_5, nz_6, nz_7, nz_8, S0_55, ib_58, q_J7_fill_53178 hc, q_Walk_keepColoured hc, q_Walk_waysAround hc, rT_55_2, hk35, hk51]) <;> rfl
theorem q_Walk_go_3 {c : Nat} (hc : isChap c) {k35 : Nat → Nat → Int32 → Int32 → Int32 → Int32 → Int32 → Nat → Int32 → Int32 → hm_M → Option hm_M} {K35 : Int32 → Int32 → Int32 → Int32 → Int32 → Nat → Int32 → Int32 → hn → Option hn} (hk35 : ∀ (v2 : Int32) (v3 : Int32) (v4 : Int32) (v5 : Int32) (v6 : Int32) (v7 : Nat) (v8 : Int32) (v9 : Int32) (N : hn), k35 55 19 v2 v3 v4 v5 v6 v7 v8 v9 (N.1, N.2, rT c) = emv c (K35 v2 v3 v4 v5 v6 v7 v8 v9 N)) : ∀ (n : Nat) (v2 : Int32) (v3 : Int32) (v4 : Int32) (v5 : Int32) (v6 : Int32) (v7 : Nat) (v8 : Int32) (v9 : Int32) (v10 : Int32) (N : hn), f_Walk_go_3 S0 k35 n 55 19 v2 v3 v4 v5 v6 v7 v8 v9 v10 (N.1, N.2, rT c) = emv c (F_Walk_go_3 c K35 n v2 v3 v4 v5 v6 v7 v8 v9 v10 N) := by
  intro n
  induction n with
  | zero => intros; rfl
  | succ n ih => intro v2 v3 v4 v5 v6 v7 v8 v9 v10 N ; exact r_Walk_go_3 hc hk35 ih 
set_option maxRecDepth 100000 in
set_option maxHeartbeats 4000000 in
theorem r_Walk_go_2 {c : Nat} (hc : isChap c) {k35 : Nat → Nat → Int32 → Int32 → Int32 → Int32 → Int32 → Nat → Int32 → Int32 → hm_M → Option hm_M} {K35 : Int32 → Int32 → Int32 → Int32 → Int32 → Nat → Int32 → Int32 → hn → Option hn} (hk35 : ∀ (v2 : Int32) (v3 : Int32) (v4 : Int32) (v5 : Int32) (v6 : Int32) (v7 : Nat) (v8 : Int32) (v9 : Int32) (N : hn), k35 55 19 v2 v3 v4 v5 v6 v7 v8 v9 (N.1, N.2, rT c) = emv c (K35 v2 v3 v4 v5 v6 v7 v8 v9 N)) {v2 : Int32} {v3 : Int32} {v4 : Int32} {v5 : Int32} {v6 : Int32} {v7 : Nat} {v8 : Int32} {v9 : Int32} {N : hn} : b_Walk_go_2 S0 k35 55 19 v2 v3 v4 v5 v6 v7 v8 v9 (N.1, N.2, rT c) = emv c (B_Walk_go_2 c K35 v2 v3 v4 v5 v6 v7 v8 v9 N) := by
  unfold b_Walk_go_2 B_Walk_go_2
  (simp only [hl_n, hl_wI, hl_wL, hl_cp, em_s, em_n, em_g, em_i, em_l, em_b, em_v, emv_s, emv_n, emv_g, emv_i, emv_l, emv_b, emv_v, hb_em, hv_em, hg_T, ne_eq, not_false_eq_true, nz_c, S0_c, S0_lw, S0_h, isHold_36, hc, hc.d, hc.l, hc.d.l, nz_1, nz_2, nz_3, nz_4, nz_5, nz_6, nz_7, nz_8, S0_55, ib_58, q_J7_fill_53178 hc, q_Walk_keepColoured hc, q_Walk_waysAround hc, rT_55_2, hk35, q_Walk_go_3 hc hk35]) <;> rfl
theorem q_Walk_go_2 {c : Nat} (hc : isChap c) : ∀ (n : Nat) (v2 : Int32) (v3 : Int32) (v4 : Int32) (v5 : Int32) (v6 : Int32) (v7 : Nat) (v8 : Int32) (v9 : Int32) (N : hn), f_Walk_go_2 S0 n 55 19 v2 v3 v4 v5 v6 v7 v8 v9 (N.1, N.2, rT c) = emv c (F_Walk_go_2 c n v2 v3 v4 v5 v6 v7 v8 v9 N) := by
  intro n
  induction n with
  | zero => intros; rfl
  | succ n ih => intro v2 v3 v4 v5 v6 v7 v8 v9 N ; exact r_Walk_go_2 hc  ih 
set_option maxRecDepth 100000 in
set_option maxHeartbeats 4000000 in
theorem q_Walk_go_1 {c : Nat} (hc : isChap c) {v2 : Int32} {v3 : Int32} {v4 : Int32} {v5 : Int32} {v6 : Int32} {v7 : Nat} {s0 : Int32} {N : hn} : b_Walk_go_1 S0 55 19 v2 v3 v4 v5 v6 v7 s0 (N.1, N.2, rT c) = emv c (B_Walk_go_1 c v2 v3 v4 v5 v6 v7 s0 N) := by
  unfold b_Walk_go_1 B_Walk_go_1
  (simp only [hl_n, hl_wI, hl_wL, hl_cp, em_s, em_n, em_g, em_i, em_l, em_b, em_v, emv_s, emv_n, emv_g, emv_i, emv_l, emv_b, emv_v, hb_em, hv_em, hg_T, ne_eq, not_false_eq_true, nz_c, S0_c, S0_lw, S0_h, isHold_36, hc, hc.d, hc.l, hc.d.l, nz_1, nz_2, nz_3, nz_4, nz_5, nz_6, nz_7, nz_8, S0_55, ib_58, q_J7_fill_53178 hc, q_Walk_keepColoured hc, q_Walk_waysAround hc, rT_55_2, q_Walk_go_2 hc]) <;> rfl
set_option maxRecDepth 100000 in
set_option maxHeartbeats 4000000 in
theorem q_Walk_go {c : Nat} (hc : isChap c) {v2 : Int32} {v3 : Int32} {v4 : Int32} {v5 : Int32} {v6 : Int32} {v7 : Nat} {N : hn} : f_Walk_go S0 55 19 v2 v3 v4 v5 v6 v7 (N.1, N.2, rT c) = emv c (F_Walk_go c v2 v3 v4 v5 v6 v7 N) := by
  unfold f_Walk_go F_Walk_go
  (simp only [hl_n, hl_wI, hl_wL, hl_cp, em_s, em_n, em_g, em_i, em_l, em_b, em_v, emv_s, emv_n, emv_g, emv_i, emv_l, emv_b, emv_v, hb_em, hv_em, hg_T, ne_eq, not_false_eq_true, nz_c, S0_c, S0_lw, S0_h, isHold_36, hc, hc.d, hc.l, hc.d.l, nz_1, nz_2, nz_3, nz_4, nz_5, nz_6, nz_7, nz_8, S0_55, ib_58, q_J7_fill_53178 hc, q_Walk_keepColoured hc, q_Walk_waysAround hc, rT_55_2, q_Walk_go_1 hc, q_Walk_go_2 hc]) <;> rfl
set_option maxRecDepth 100000 in
set_option maxHeartbeats 4000000 in
theorem r_Walk_rowsOf_1 {c : Nat} (hc : isChap c) {k24 : Nat → Int32 → Int32 → hm_M → Option (Int32 × hm_M)} {K24 : Int32 → Int32 → hn → Option (Int32 × hn)} (hk24 : ∀ (v6 : Int32) (v7 : Int32) (N : hn), k24 55 v6 v7 (N.1, N.2, rT c) = em c (K24 v6 v7 N)) {v6 : Int32} {v7 : Int32} {N : hn} : b_Walk_rowsOf_1 S0 k24 55 v6 v7 (N.1, N.2, rT c) = em c (B_Walk_rowsOf_1 c K24 v6 v7 N) := by
  unfold b_Walk_rowsOf_1 B_Walk_rowsOf_1
  (simp only [hl_n, hl_wI, hl_wL, hl_cp, em_s, em_n, em_g, em_i, em_l, em_b, em_v, emv_s, emv_n, emv_g, emv_i, emv_l, emv_b, emv_v, hb_em, hv_em, hg_T, ne_eq, not_false_eq_true, nz_c, S0_c, S0_lw, S0_h, isHold_36, hc, hc.d, hc.l, hc.d.l, nz_1, nz_2, nz_3, nz_4, nz_5, nz_6, nz_7, nz_8, S0_55, ib_56, q_Walk_go hc, rT_55_0, hk24]) <;> rfl
theorem q_Walk_rowsOf_1 {c : Nat} (hc : isChap c) : ∀ (n : Nat) (v6 : Int32) (v7 : Int32) (N : hn), f_Walk_rowsOf_1 S0 n 55 v6 v7 (N.1, N.2, rT c) = em c (F_Walk_rowsOf_1 c n v6 v7 N) := by
  intro n
  induction n with
  | zero => intros; rfl
  | succ n ih => intro v6 v7 N ; exact r_Walk_rowsOf_1 hc  ih 
set_option maxRecDepth 100000 in
set_option maxHeartbeats 4000000 in
theorem q_Walk_rowsOf {c : Nat} (hc : isChap c) {v2 : Int32} {v3 : Int32} {v4 : Int32} {v5 : Int32} {N : hn} : f_Walk_rowsOf S0 55 19 v2 v3 v4 v5 (N.1, N.2, rT c) = em c (F_Walk_rowsOf c v2 v3 v4 v5 N) := by
  unfold f_Walk_rowsOf F_Walk_rowsOf
  (simp only [hl_n, hl_wI, hl_wL, hl_cp, em_s, em_n, em_g, em_i, em_l, em_b, em_v, emv_s, emv_n, emv_g, emv_i, emv_l, emv_b, emv_v, hb_em, hv_em, hg_T, ne_eq, not_false_eq_true, nz_c, S0_c, S0_lw, S0_h, isHold_36, hc, hc.d, hc.l, hc.d.l, nz_1, nz_2, nz_3, nz_4, nz_5, nz_6, nz_7, nz_8, S0_55, ib_56, q_Walk_go hc, rT_55_0, q_Walk_rowsOf_1 hc]) <;> rfl
set_option maxRecDepth 100000 in
set_option maxHeartbeats 4000000 in
theorem q_Ps_stains {c : Nat} (hc : isChap c) {v1 : Int32} {v2 : Int32} {v3 : Int32} {v4 : Int32} {N : hn} : f_Ps_stains S0 1 v1 v2 v3 v4 (N.1, N.2, rT c) = em c (F_Ps_stains c v1 v2 v3 v4 N) := by
  unfold f_Ps_stains F_Ps_stains
  (simp only [hl_n, hl_wI, hl_wL, hl_cp, em_s, em_n, em_g, em_i, em_l, em_b, em_v, emv_s, emv_n, emv_g, emv_i, emv_l, emv_b, emv_v, hb_em, hv_em, hg_T, ne_eq, not_false_eq_true, nz_c, S0_c, S0_lw, S0_h, isHold_36, hc, hc.d, hc.l, hc.d.l, nz_1, nz_2, nz_3, nz_4, nz_5, nz_6, nz_7, nz_8, S0_1, S0_19, S0_36, S0_55, q_Hold_lit hc, q_Ps_isStained hc, q_Ps_timeOf hc, q_Walk_rowsOf hc, rT_1_1, rT_1_2, rT_1_7]) <;> rfl
set_option maxRecDepth 100000 in
set_option maxHeartbeats 4000000 in
theorem q_Ps_stall {c : Nat} (hc : isChap c) {v1 : Int32} {v2 : Int32} {v3 : Int32} {v4 : Int32} {v5 : Int32} {N : hn} : f_Ps_stall S0 1 v1 v2 v3 v4 v5 (N.1, N.2, rT c) = em c (F_Ps_stall c v1 v2 v3 v4 v5 N) := by
  unfold f_Ps_stall F_Ps_stall
  (simp only [hl_n, hl_wI, hl_wL, hl_cp, em_s, em_n, em_g, em_i, em_l, em_b, em_v, emv_s, emv_n, emv_g, emv_i, emv_l, emv_b, emv_v, hb_em, hv_em, hg_T, ne_eq, not_false_eq_true, nz_c, S0_c, S0_lw, S0_h, isHold_36, hc, hc.d, hc.l, hc.d.l, nz_1, nz_2, nz_3, nz_4, nz_5, nz_6, nz_7, nz_8, S0_1, S0_19, S0_36, S0_51, ib_54, q_Hold_lit hc, q_Hold_panesOf hc, q_Ps_isGuild hc, q_Ps_isTime hc, q_Ps_timeOf hc, q_Way_find hc, rT_1_1, rT_1_2, rT_1_6, rT_51_2]) <;> rfl
set_option maxRecDepth 100000 in
set_option maxHeartbeats 4000000 in
theorem q_Walk_meet {c : Nat} (hc : isChap c) {v2 : Int32} {v3 : Int32} {v4 : Int32} {v5 : Int32} {v6 : Int32} {N : hn} : f_Walk_meet S0 55 19 v2 v3 v4 v5 v6 (N.1, N.2, rT c) = emv c (F_Walk_meet c v2 v3 v4 v5 v6 N) := by
  unfold f_Walk_meet F_Walk_meet
  (simp only [hl_n, hl_wI, hl_wL, hl_cp, em_s, em_n, em_g, em_i, em_l, em_b, em_v, emv_s, emv_n, emv_g, emv_i, emv_l, emv_b, emv_v, hb_em, hv_em, hg_T, ne_eq, not_false_eq_true, nz_c, S0_c, S0_lw, S0_h, isHold_36, hc, hc.d, hc.l, hc.d.l, nz_1, nz_2, nz_3, nz_4, nz_5, nz_6, nz_7, nz_8, S0_55, ib_56, ib_57, q_Walk_go hc, rT_55_0, rT_55_1]) <;> rfl
set_option maxRecDepth 100000 in
set_option maxHeartbeats 4000000 in
theorem q_Ps_stood {c : Nat} (hc : isChap c) {v1 : Int32} {v2 : Int32} {v3 : Int32} {v4 : Int32} {v5 : Int32} {v6 : Int32} {N : hn} : f_Ps_stood S0 1 v1 v2 v3 v4 v5 v6 (N.1, N.2, rT c) = em c (F_Ps_stood c v1 v2 v3 v4 v5 v6 N) := by
  unfold f_Ps_stood F_Ps_stood
  (simp only [hl_n, hl_wI, hl_wL, hl_cp, em_s, em_n, em_g, em_i, em_l, em_b, em_v, emv_s, emv_n, emv_g, emv_i, emv_l, emv_b, emv_v, hb_em, hv_em, hg_T, ne_eq, not_false_eq_true, nz_c, S0_c, S0_lw, S0_h, isHold_36, hc, hc.d, hc.l, hc.d.l, nz_1, nz_2, nz_3, nz_4, nz_5, nz_6, nz_7, nz_8, S0_1, S0_19, S0_36, S0_55, q_Hold_lit hc, q_Ps_isStained hc, q_Ps_ownersOnAll hc, q_Ps_ownersOnSome hc, q_Ps_timeOf hc, q_Walk_meet hc, rT_1_1, rT_1_2, rT_1_7]) <;> rfl
set_option maxRecDepth 100000 in
set_option maxHeartbeats 4000000 in
theorem q_History_takeBack {c : Nat} (hc : isChap c) {v1 : Nat} (hv1 : isHold v1) {N : hn} : f_History_takeBack S0 40 v1 (N.1, N.2, rT c) = em c (F_History_takeBack c v1 N) := by
  unfold f_History_takeBack F_History_takeBack
  (simp only [hl_n, hl_wI, hl_wL, hl_cp, em_s, em_n, em_g, em_i, em_l, em_b, em_v, emv_s, emv_n, emv_g, emv_i, emv_l, emv_b, emv_v, hb_em, hv_em, hg_T, ne_eq, not_false_eq_true, nz_c, S0_c, S0_lw, S0_h, isHold_36, hc, hc.d, hc.l, hc.d.l, nz_1, nz_2, nz_3, nz_4, nz_5, nz_6, nz_7, nz_8, hv1, S0_40, ib_41, ib_42, q_Hold_swap hc, q_Hold_turn hc, rT_40_0, rT_40_1]) <;> rfl
set_option maxRecDepth 100000 in
set_option maxHeartbeats 4000000 in
theorem q_Ps_undo {c : Nat} (hc : isChap c) {N : hn} : f_Ps_undo S0 1 (N.1, N.2, rT c) = em c (F_Ps_undo c N) := by
  unfold f_Ps_undo F_Ps_undo
  (simp only [hl_n, hl_wI, hl_wL, hl_cp, em_s, em_n, em_g, em_i, em_l, em_b, em_v, emv_s, emv_n, emv_g, emv_i, emv_l, emv_b, emv_v, hb_em, hv_em, hg_T, ne_eq, not_false_eq_true, nz_c, S0_c, S0_lw, S0_h, isHold_36, hc, hc.d, hc.l, hc.d.l, nz_1, nz_2, nz_3, nz_4, nz_5, nz_6, nz_7, nz_8, S0_1, S0_36, S0_40, q_History_takeBack hc, rT_1_2, rT_1_3]) <;> rfl
set_option maxRecDepth 100000 in
set_option maxHeartbeats 4000000 in
theorem q_Ps_when_2 {c : Nat} (hc : isChap c) {k22 : Nat → Int32 → Int32 → Int32 → Int32 → Int32 → hm_M → Option (Int32 × hm_M)} {K22 : Int32 → Int32 → Int32 → Int32 → Int32 → hn → Option (Int32 × hn)} (hk22 : ∀ (v1 : Int32) (v2 : Int32) (v3 : Int32) (v4 : Int32) (v5 : Int32) (N : hn), k22 1 v1 v2 v3 v4 v5 (N.1, N.2, rT c) = em c (K22 v1 v2 v3 v4 v5 N)) {v1 : Int32} {v2 : Int32} {v3 : Int32} {v4 : Int32} {v5 : Int32} {v6 : Int32} {N : hn} : b_Ps_when_2 S0 k22 1 v1 v2 v3 v4 v5 v6 (N.1, N.2, rT c) = em c (B_Ps_when_2 c K22 v1 v2 v3 v4 v5 v6 N) := by
  unfold b_Ps_when_2 B_Ps_when_2
  (simp only [hl_n, hl_wI, hl_wL, hl_cp, em_s, em_n, em_g, em_i, em_l, em_b, em_v, emv_s, emv_n, emv_g, emv_i, emv_l, emv_b, emv_v, hb_em, hv_em, hg_T, ne_eq, not_false_eq_true, nz_c, S0_c, S0_lw, S0_h, isHold_36, hc, hc.d, hc.l, hc.d.l, nz_1, nz_2, nz_3, nz_4, nz_5, nz_6, nz_7, nz_8, S0_1, q_Ps_candlesAt hc, hk22]) <;> rfl
set_option maxRecDepth 100000 in
set_option maxHeartbeats 4000000 in
theorem r_Ps_when_1 {c : Nat} (hc : isChap c) {k22 : Nat → Int32 → Int32 → Int32 → Int32 → Int32 → hm_M → Option (Int32 × hm_M)} {K22 : Int32 → Int32 → Int32 → Int32 → Int32 → hn → Option (Int32 × hn)} (hk22 : ∀ (v1 : Int32) (v2 : Int32) (v3 : Int32) (v4 : Int32) (v5 : Int32) (N : hn), k22 1 v1 v2 v3 v4 v5 (N.1, N.2, rT c) = em c (K22 v1 v2 v3 v4 v5 N)) {v1 : Int32} {v2 : Int32} {v3 : Int32} {v4 : Int32} {v5 : Int32} {N : hn} : b_Ps_when_1 S0 k22 1 v1 v2 v3 v4 v5 (N.1, N.2, rT c) = em c (B_Ps_when_1 c K22 v1 v2 v3 v4 v5 N) := by
  unfold b_Ps_when_1 B_Ps_when_1
  (simp only [hl_n, hl_wI, hl_wL, hl_cp, em_s, em_n, em_g, em_i, em_l, em_b, em_v, emv_s, emv_n, emv_g, emv_i, emv_l, emv_b, emv_v, hb_em, hv_em, hg_T, ne_eq, not_false_eq_true, nz_c, S0_c, S0_lw, S0_h, isHold_36, hc, hc.d, hc.l, hc.d.l, nz_1, nz_2, nz_3, nz_4, nz_5, nz_6, nz_7, nz_8, S0_1, q_Ps_candlesAt hc, hk22, q_Ps_when_2 hc hk22]) <;> rfl
