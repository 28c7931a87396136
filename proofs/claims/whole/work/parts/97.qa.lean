/-! the resolved layer is right (by program) -/
set_option maxRecDepth 100000 in
set_option maxHeartbeats 400000 in
theorem q_J6_bitCount_0f7a4 {c : Nat} (hc : isChap c) {v0 : Int32} {N : hn} : f_J6_bitCount_0f7a4 S0 v0 (N.1, N.2, rT c) = em c (F_J6_bitCount_0f7a4 c v0 N) := by
  unfold f_J6_bitCount_0f7a4 F_J6_bitCount_0f7a4
  try simp only [my_ite, my_hg]
  simp only [hl_n', hl_wI', hl_wL', hl_cp', em_s', em_n', em_my, em_l', em_b, em_v, emv_s', emv_n', emv_my, emv_l', emv_b, emv_v, hb_em, hv_em, my_T, my_F, ne_eq, not_false_eq_true, nz_c, S0_c, S0_lw, S0_h, isHold_36, hc, hc.d, hc.l, hc.d.l, nz_1, nz_2, nz_3, nz_4, nz_5, nz_6, nz_7, nz_8]
set_option maxRecDepth 100000 in
set_option maxHeartbeats 400000 in
theorem r_J7_fill_53178_1 {c : Nat} (hc : isChap c) {k5 : Nat → Int32 → Int32 → Int32 → hm_M → Option hm_M} {K5 : Nat → Int32 → Int32 → Int32 → hn → Option hn} (hk5 : ∀ (v0 : Nat) (v1 : Int32) (v2 : Int32) (v3 : Int32) (N : hn), k5 v0 v1 v2 v3 (N.1, N.2, rT c) = emv c (K5 v0 v1 v2 v3 N)) {v0 : Nat} {v1 : Int32} {v2 : Int32} {v3 : Int32} {N : hn} : b_J7_fill_53178_1 S0 k5 v0 v1 v2 v3 (N.1, N.2, rT c) = emv c (B_J7_fill_53178_1 c K5 v0 v1 v2 v3 N) := by
  unfold b_J7_fill_53178_1 B_J7_fill_53178_1
  try simp only [my_ite, my_hg]
  simp only [hl_n', hl_wI', hl_wL', hl_cp', em_s', em_n', em_my, em_l', em_b, em_v, emv_s', emv_n', emv_my, emv_l', emv_b, emv_v, hb_em, hv_em, my_T, my_F, ne_eq, not_false_eq_true, nz_c, S0_c, S0_lw, S0_h, isHold_36, hc, hc.d, hc.l, hc.d.l, nz_1, nz_2, nz_3, nz_4, nz_5, nz_6, nz_7, nz_8, hk5]
theorem q_J7_fill_53178_1 {c : Nat} (hc : isChap c) : ∀ (n : Nat) (v0 : Nat) (v1 : Int32) (v2 : Int32) (v3 : Int32) (N : hn), f_J7_fill_53178_1 S0 n v0 v1 v2 v3 (N.1, N.2, rT c) = emv c (F_J7_fill_53178_1 c n v0 v1 v2 v3 N) := by
  intro n
  induction n with
  | zero => intros; rfl
  | succ n ih => intro v0 v1 v2 v3 N ; exact r_J7_fill_53178_1 hc  ih
set_option maxRecDepth 100000 in
set_option maxHeartbeats 400000 in
theorem q_J7_fill_53178 {c : Nat} (hc : isChap c) {v0 : Nat} {v1 : Int32} {N : hn} : f_J7_fill_53178 S0 v0 v1 (N.1, N.2, rT c) = emv c (F_J7_fill_53178 c v0 v1 N) := by
  unfold f_J7_fill_53178 F_J7_fill_53178
  try simp only [my_ite, my_hg]
  simp only [hl_n', hl_wI', hl_wL', hl_cp', em_s', em_n', em_my, em_l', em_b, em_v, emv_s', emv_n', emv_my, emv_l', emv_b, emv_v, hb_em, hv_em, my_T, my_F, ne_eq, not_false_eq_true, nz_c, S0_c, S0_lw, S0_h, isHold_36, hc, hc.d, hc.l, hc.d.l, nz_1, nz_2, nz_3, nz_4, nz_5, nz_6, nz_7, nz_8, q_J7_fill_53178_1 hc]
set_option maxRecDepth 100000 in
set_option maxHeartbeats 400000 in
theorem r_J7_fill_d0a16_1 {c : Nat} (hc : isChap c) {k6 : Nat → Int64 → Int32 → Int32 → hm_M → Option hm_M} {K6 : Nat → Int64 → Int32 → Int32 → hn → Option hn} (hk6 : ∀ (v0 : Nat) (v1 : Int64) (v3 : Int32) (v4 : Int32) (N : hn), k6 v0 v1 v3 v4 (N.1, N.2, rT c) = emv c (K6 v0 v1 v3 v4 N)) {v0 : Nat} {v1 : Int64} {v3 : Int32} {v4 : Int32} {N : hn} : b_J7_fill_d0a16_1 S0 k6 v0 v1 v3 v4 (N.1, N.2, rT c) = emv c (B_J7_fill_d0a16_1 c K6 v0 v1 v3 v4 N) := by
  unfold b_J7_fill_d0a16_1 B_J7_fill_d0a16_1
  try simp only [my_ite, my_hg]
  simp only [hl_n', hl_wI', hl_wL', hl_cp', em_s', em_n', em_my, em_l', em_b, em_v, emv_s', emv_n', emv_my, emv_l', emv_b, emv_v, hb_em, hv_em, my_T, my_F, ne_eq, not_false_eq_true, nz_c, S0_c, S0_lw, S0_h, isHold_36, hc, hc.d, hc.l, hc.d.l, nz_1, nz_2, nz_3, nz_4, nz_5, nz_6, nz_7, nz_8, hk6]
theorem q_J7_fill_d0a16_1 {c : Nat} (hc : isChap c) : ∀ (n : Nat) (v0 : Nat) (v1 : Int64) (v3 : Int32) (v4 : Int32) (N : hn), f_J7_fill_d0a16_1 S0 n v0 v1 v3 v4 (N.1, N.2, rT c) = emv c (F_J7_fill_d0a16_1 c n v0 v1 v3 v4 N) := by
  intro n
  induction n with
  | zero => intros; rfl
  | succ n ih => intro v0 v1 v3 v4 N ; exact r_J7_fill_d0a16_1 hc  ih
set_option maxRecDepth 100000 in
set_option maxHeartbeats 400000 in
theorem q_J7_fill_d0a16 {c : Nat} (hc : isChap c) {v0 : Nat} {v1 : Int64} {N : hn} : f_J7_fill_d0a16 S0 v0 v1 (N.1, N.2, rT c) = emv c (F_J7_fill_d0a16 c v0 v1 N) := by
  unfold f_J7_fill_d0a16 F_J7_fill_d0a16
  try simp only [my_ite, my_hg]
  simp only [hl_n', hl_wI', hl_wL', hl_cp', em_s', em_n', em_my, em_l', em_b, em_v, emv_s', emv_n', emv_my, emv_l', emv_b, emv_v, hb_em, hv_em, my_T, my_F, ne_eq, not_false_eq_true, nz_c, S0_c, S0_lw, S0_h, isHold_36, hc, hc.d, hc.l, hc.d.l, nz_1, nz_2, nz_3, nz_4, nz_5, nz_6, nz_7, nz_8, q_J7_fill_d0a16_1 hc]
set_option maxRecDepth 100000 in
set_option maxHeartbeats 400000 in
theorem r_Laws_begin_1 {c : Nat} (hc : isChap c) {k7 : Nat → Int32 → hm_M → Option hm_M} {K7 : Nat → Int32 → hn → Option hn} (hk7 : ∀ (v0 : Nat) (v1 : Int32) (N : hn), isLaws v0 → k7 v0 v1 (N.1, N.2, rT c) = emv c (K7 v0 v1 N)) {v0 : Nat} {v1 : Int32} (hv0 : isLaws v0) {N : hn} : b_Laws_begin_1 S0 k7 v0 v1 (N.1, N.2, rT c) = emv c (B_Laws_begin_1 c K7 v0 v1 N) := by
  unfold b_Laws_begin_1 B_Laws_begin_1
  try simp only [my_ite, my_hg]
  simp only [hl_n', hl_wI', hl_wL', hl_cp', em_s', em_n', em_my, em_l', em_b, em_v, emv_s', emv_n', emv_my, emv_l', emv_b, emv_v, hb_em, hv_em, my_T, my_F, ne_eq, not_false_eq_true, nz_c, S0_c, S0_lw, S0_h, isHold_36, hc, hc.d, hc.l, hc.d.l, nz_1, nz_2, nz_3, nz_4, nz_5, nz_6, nz_7, nz_8, hv0, ib_w2, ib_w3, rT_w2, rT_w3, hk7]
theorem q_Laws_begin_1 {c : Nat} (hc : isChap c) : ∀ (n : Nat) (v0 : Nat) (v1 : Int32) (N : hn), isLaws v0 → f_Laws_begin_1 S0 n v0 v1 (N.1, N.2, rT c) = emv c (F_Laws_begin_1 c n v0 v1 N) := by
  intro n
  induction n with
  | zero => intros; rfl
  | succ n ih => intro v0 v1 N hv0; exact r_Laws_begin_1 hc  ih hv0
set_option maxRecDepth 100000 in
set_option maxHeartbeats 400000 in
theorem q_Laws_begin {c : Nat} (hc : isChap c) {v0 : Nat} (hv0 : isLaws v0) {N : hn} : f_Laws_begin S0 v0 (N.1, N.2, rT c) = emv c (F_Laws_begin c v0 N) := by
  unfold f_Laws_begin F_Laws_begin
  try simp only [my_ite, my_hg]
  simp only [hl_n', hl_wI', hl_wL', hl_cp', em_s', em_n', em_my, em_l', em_b, em_v, emv_s', emv_n', emv_my, emv_l', emv_b, emv_v, hb_em, hv_em, my_T, my_F, ne_eq, not_false_eq_true, nz_c, S0_c, S0_lw, S0_h, isHold_36, hc, hc.d, hc.l, hc.d.l, nz_1, nz_2, nz_3, nz_4, nz_5, nz_6, nz_7, nz_8, hv0, ib_w2, ib_w3, rT_w2, rT_w3, q_Laws_begin_1 hc]
set_option maxRecDepth 100000 in
set_option maxHeartbeats 400000 in
theorem q_Chapel_begin {c : Nat} (hc : isChap c) {v0 : Nat} (hv0 : isChap v0) {N : hn} : f_Chapel_begin S0 v0 (N.1, N.2, rT c) = emv c (F_Chapel_begin c v0 N) := by
  unfold f_Chapel_begin F_Chapel_begin
  try simp only [my_ite, my_hg]
  simp only [hl_n', hl_wI', hl_wL', hl_cp', em_s', em_n', em_my, em_l', em_b, em_v, emv_s', emv_n', emv_my, emv_l', emv_b, emv_v, hb_em, hv_em, my_T, my_F, ne_eq, not_false_eq_true, nz_c, S0_c, S0_lw, S0_h, isHold_36, hc, hc.d, hc.l, hc.d.l, nz_1, nz_2, nz_3, nz_4, nz_5, nz_6, nz_7, nz_8, hv0, hv0.l, q_Laws_begin hc, rT_c12]
set_option maxRecDepth 100000 in
set_option maxHeartbeats 400000 in
theorem r_Chapel_colourOf_1 {c : Nat} (hc : isChap c) {k4 : Nat → Int32 → Int32 → Int32 → hm_M → Option (Int32 × hm_M)} {K4 : Nat → Int32 → Int32 → Int32 → hn → Option (Int32 × hn)} (hk4 : ∀ (v0 : Nat) (v1 : Int32) (v2 : Int32) (v3 : Int32) (N : hn), isChap v0 → k4 v0 v1 v2 v3 (N.1, N.2, rT c) = em c (K4 v0 v1 v2 v3 N)) {v0 : Nat} {v1 : Int32} {v2 : Int32} {v3 : Int32} (hv0 : isChap v0) {N : hn} : b_Chapel_colourOf_1 S0 k4 v0 v1 v2 v3 (N.1, N.2, rT c) = em c (B_Chapel_colourOf_1 c K4 v0 v1 v2 v3 N) := by
  unfold b_Chapel_colourOf_1 B_Chapel_colourOf_1
  try simp only [my_ite, my_hg]
  simp only [hl_n', hl_wI', hl_wL', hl_cp', em_s', em_n', em_my, em_l', em_b, em_v, emv_s', emv_n', emv_my, emv_l', emv_b, emv_v, hb_em, hv_em, my_T, my_F, ne_eq, not_false_eq_true, nz_c, S0_c, S0_lw, S0_h, isHold_36, hc, hc.d, hc.l, hc.d.l, nz_1, nz_2, nz_3, nz_4, nz_5, nz_6, nz_7, nz_8, hv0, hv0.l, ib_c11, rT_c11, hk4]
theorem q_Chapel_colourOf_1 {c : Nat} (hc : isChap c) : ∀ (n : Nat) (v0 : Nat) (v1 : Int32) (v2 : Int32) (v3 : Int32) (N : hn), isChap v0 → f_Chapel_colourOf_1 S0 n v0 v1 v2 v3 (N.1, N.2, rT c) = em c (F_Chapel_colourOf_1 c n v0 v1 v2 v3 N) := by
  intro n
  induction n with
  | zero => intros; rfl
  | succ n ih => intro v0 v1 v2 v3 N hv0; exact r_Chapel_colourOf_1 hc  ih hv0
set_option maxRecDepth 100000 in
set_option maxHeartbeats 400000 in
theorem q_Chapel_colourOf {c : Nat} (hc : isChap c) {v0 : Nat} {v1 : Int32} (hv0 : isChap v0) {N : hn} : f_Chapel_colourOf S0 v0 v1 (N.1, N.2, rT c) = em c (F_Chapel_colourOf c v0 v1 N) := by
  unfold f_Chapel_colourOf F_Chapel_colourOf
  try simp only [my_ite, my_hg]
  simp only [hl_n', hl_wI', hl_wL', hl_cp', em_s', em_n', em_my, em_l', em_b, em_v, emv_s', emv_n', emv_my, emv_l', emv_b, emv_v, hb_em, hv_em, my_T, my_F, ne_eq, not_false_eq_true, nz_c, S0_c, S0_lw, S0_h, isHold_36, hc, hc.d, hc.l, hc.d.l, nz_1, nz_2, nz_3, nz_4, nz_5, nz_6, nz_7, nz_8, hv0, hv0.l, ib_c11, rT_c11, q_Chapel_colourOf_1 hc]
set_option maxRecDepth 100000 in
set_option maxHeartbeats 400000 in
theorem r_Chapel_guildNamed_1 {c : Nat} (hc : isChap c) {k2 : Nat → Int64 → Int32 → hm_M → Option (Int32 × hm_M)} {K2 : Nat → Int64 → Int32 → hn → Option (Int32 × hn)} (hk2 : ∀ (v0 : Nat) (v1 : Int64) (v3 : Int32) (N : hn), isChap v0 → k2 v0 v1 v3 (N.1, N.2, rT c) = em c (K2 v0 v1 v3 N)) {v0 : Nat} {v1 : Int64} {v3 : Int32} (hv0 : isChap v0) {N : hn} : b_Chapel_guildNamed_1 S0 k2 v0 v1 v3 (N.1, N.2, rT c) = em c (B_Chapel_guildNamed_1 c K2 v0 v1 v3 N) := by
  unfold b_Chapel_guildNamed_1 B_Chapel_guildNamed_1
  try simp only [my_ite, my_hg]
  simp only [hl_n', hl_wI', hl_wL', hl_cp', em_s', em_n', em_my, em_l', em_b, em_v, emv_s', emv_n', emv_my, emv_l', emv_b, emv_v, hb_em, hv_em, my_T, my_F, ne_eq, not_false_eq_true, nz_c, S0_c, S0_lw, S0_h, isHold_36, hc, hc.d, hc.l, hc.d.l, nz_1, nz_2, nz_3, nz_4, nz_5, nz_6, nz_7, nz_8, hv0, hv0.l, ib_c5, rT_c5, hk2]
theorem q_Chapel_guildNamed_1 {c : Nat} (hc : isChap c) : ∀ (n : Nat) (v0 : Nat) (v1 : Int64) (v3 : Int32) (N : hn), isChap v0 → f_Chapel_guildNamed_1 S0 n v0 v1 v3 (N.1, N.2, rT c) = em c (F_Chapel_guildNamed_1 c n v0 v1 v3 N) := by
  intro n
  induction n with
  | zero => intros; rfl
  | succ n ih => intro v0 v1 v3 N hv0; exact r_Chapel_guildNamed_1 hc  ih hv0
set_option maxRecDepth 100000 in
set_option maxHeartbeats 400000 in
theorem q_Chapel_guildNamed {c : Nat} (hc : isChap c) {v0 : Nat} {v1 : Int64} (hv0 : isChap v0) {N : hn} : f_Chapel_guildNamed S0 v0 v1 (N.1, N.2, rT c) = em c (F_Chapel_guildNamed c v0 v1 N) := by
  unfold f_Chapel_guildNamed F_Chapel_guildNamed
  try simp only [my_ite, my_hg]
  simp only [hl_n', hl_wI', hl_wL', hl_cp', em_s', em_n', em_my, em_l', em_b, em_v, emv_s', emv_n', emv_my, emv_l', emv_b, emv_v, hb_em, hv_em, my_T, my_F, ne_eq, not_false_eq_true, nz_c, S0_c, S0_lw, S0_h, isHold_36, hc, hc.d, hc.l, hc.d.l, nz_1, nz_2, nz_3, nz_4, nz_5, nz_6, nz_7, nz_8, hv0, hv0.l, ib_c5, rT_c5, q_Chapel_guildNamed_1 hc]
set_option maxRecDepth 100000 in
set_option maxHeartbeats 400000 in
theorem r_Chapel_hasPaneAt_1 {c : Nat} (hc : isChap c) {k2 : Nat → Int32 → Int32 → Int32 → hm_M → Option (Int32 × hm_M)} {K2 : Nat → Int32 → Int32 → Int32 → hn → Option (Int32 × hn)} (hk2 : ∀ (v0 : Nat) (v1 : Int32) (v2 : Int32) (v3 : Int32) (N : hn), isChap v0 → k2 v0 v1 v2 v3 (N.1, N.2, rT c) = em c (K2 v0 v1 v2 v3 N)) {v0 : Nat} {v1 : Int32} {v2 : Int32} {v3 : Int32} (hv0 : isChap v0) {N : hn} : b_Chapel_hasPaneAt_1 S0 k2 v0 v1 v2 v3 (N.1, N.2, rT c) = em c (B_Chapel_hasPaneAt_1 c K2 v0 v1 v2 v3 N) := by
  unfold b_Chapel_hasPaneAt_1 B_Chapel_hasPaneAt_1
  try simp only [my_ite, my_hg]
  simp only [hl_n', hl_wI', hl_wL', hl_cp', em_s', em_n', em_my, em_l', em_b, em_v, emv_s', emv_n', emv_my, emv_l', emv_b, emv_v, hb_em, hv_em, my_T, my_F, ne_eq, not_false_eq_true, nz_c, S0_c, S0_lw, S0_h, isHold_36, hc, hc.d, hc.l, hc.d.l, nz_1, nz_2, nz_3, nz_4, nz_5, nz_6, nz_7, nz_8, hv0, hv0.l, ib_c8, ib_c9, rT_c8, rT_c9, hk2]
theorem q_Chapel_hasPaneAt_1 {c : Nat} (hc : isChap c) : ∀ (n : Nat) (v0 : Nat) (v1 : Int32) (v2 : Int32) (v3 : Int32) (N : hn), isChap v0 → f_Chapel_hasPaneAt_1 S0 n v0 v1 v2 v3 (N.1, N.2, rT c) = em c (F_Chapel_hasPaneAt_1 c n v0 v1 v2 v3 N) := by
  intro n
  induction n with
  | zero => intros; rfl
  | succ n ih => intro v0 v1 v2 v3 N hv0; exact r_Chapel_hasPaneAt_1 hc  ih hv0
set_option maxRecDepth 100000 in
set_option maxHeartbeats 400000 in
theorem q_Chapel_hasPaneAt {c : Nat} (hc : isChap c) {v0 : Nat} {v1 : Int32} {v2 : Int32} (hv0 : isChap v0) {N : hn} : f_Chapel_hasPaneAt S0 v0 v1 v2 (N.1, N.2, rT c) = em c (F_Chapel_hasPaneAt c v0 v1 v2 N) := by
  unfold f_Chapel_hasPaneAt F_Chapel_hasPaneAt
  try simp only [my_ite, my_hg]
  simp only [hl_n', hl_wI', hl_wL', hl_cp', em_s', em_n', em_my, em_l', em_b, em_v, emv_s', emv_n', emv_my, emv_l', emv_b, emv_v, hb_em, hv_em, my_T, my_F, ne_eq, not_false_eq_true, nz_c, S0_c, S0_lw, S0_h, isHold_36, hc, hc.d, hc.l, hc.d.l, nz_1, nz_2, nz_3, nz_4, nz_5, nz_6, nz_7, nz_8, hv0, hv0.l, ib_c8, ib_c9, rT_c8, rT_c9, q_Chapel_hasPaneAt_1 hc]
set_option maxRecDepth 100000 in
set_option maxHeartbeats 400000 in
theorem q_Chapel_hasPlace {c : Nat} (hc : isChap c) {v0 : Nat} {v1 : Int32} {v2 : Int32} (hv0 : isChap v0) {N : hn} : f_Chapel_hasPlace S0 v0 v1 v2 (N.1, N.2, rT c) = em c (F_Chapel_hasPlace c v0 v1 v2 N) := by
  unfold f_Chapel_hasPlace F_Chapel_hasPlace
  try simp only [my_ite, my_hg]
  simp only [hl_n', hl_wI', hl_wL', hl_cp', em_s', em_n', em_my, em_l', em_b, em_v, emv_s', emv_n', emv_my, emv_l', emv_b, emv_v, hb_em, hv_em, my_T, my_F, ne_eq, not_false_eq_true, nz_c, S0_c, S0_lw, S0_h, isHold_36, hc, hc.d, hc.l, hc.d.l, nz_1, nz_2, nz_3, nz_4, nz_5, nz_6, nz_7, nz_8, hv0, hv0.l]
set_option maxRecDepth 100000 in
set_option maxHeartbeats 400000 in
theorem r_Way_floorOf_1 {c : Nat} (hc : isChap c) {k4 : Nat → Int64 → Int32 → hm_M → Option (Int64 × hm_M)} {K4 : Nat → Int64 → Int32 → hn → Option (Int64 × hn)} (hk4 : ∀ (v0 : Nat) (v1 : Int64) (v3 : Int32) (N : hn), isChap v0 → k4 v0 v1 v3 (N.1, N.2, rT c) = em c (K4 v0 v1 v3 N)) {v0 : Nat} {v1 : Int64} {v3 : Int32} (hv0 : isChap v0) {N : hn} : b_Way_floorOf_1 S0 k4 v0 v1 v3 (N.1, N.2, rT c) = em c (B_Way_floorOf_1 c K4 v0 v1 v3 N) := by
  unfold b_Way_floorOf_1 B_Way_floorOf_1
  try simp only [my_ite, my_hg]
  simp only [hl_n', hl_wI', hl_wL', hl_cp', em_s', em_n', em_my, em_l', em_b, em_v, emv_s', emv_n', emv_my, emv_l', emv_b, emv_v, hb_em, hv_em, my_T, my_F, ne_eq, not_false_eq_true, nz_c, S0_c, S0_lw, S0_h, isHold_36, hc, hc.d, hc.l, hc.d.l, nz_1, nz_2, nz_3, nz_4, nz_5, nz_6, nz_7, nz_8, hv0, hv0.l, S0_51, q_Chapel_hasPlace hc, hk4]
theorem q_Way_floorOf_1 {c : Nat} (hc : isChap c) : ∀ (n : Nat) (v0 : Nat) (v1 : Int64) (v3 : Int32) (N : hn), isChap v0 → f_Way_floorOf_1 S0 n v0 v1 v3 (N.1, N.2, rT c) = em c (F_Way_floorOf_1 c n v0 v1 v3 N) := by
  intro n
  induction n with
  | zero => intros; rfl
  | succ n ih => intro v0 v1 v3 N hv0; exact r_Way_floorOf_1 hc  ih hv0
set_option maxRecDepth 100000 in
set_option maxHeartbeats 400000 in
theorem q_Way_floorOf {c : Nat} (hc : isChap c) {v0 : Nat} (hv0 : isChap v0) {N : hn} : f_Way_floorOf S0 v0 (N.1, N.2, rT c) = em c (F_Way_floorOf c v0 N) := by
  unfold f_Way_floorOf F_Way_floorOf
  try simp only [my_ite, my_hg]
  simp only [hl_n', hl_wI', hl_wL', hl_cp', em_s', em_n', em_my, em_l', em_b, em_v, emv_s', emv_n', emv_my, emv_l', emv_b, emv_v, hb_em, hv_em, my_T, my_F, ne_eq, not_false_eq_true, nz_c, S0_c, S0_lw, S0_h, isHold_36, hc, hc.d, hc.l, hc.d.l, nz_1, nz_2, nz_3, nz_4, nz_5, nz_6, nz_7, nz_8, hv0, hv0.l, S0_51, q_Chapel_hasPlace hc, q_Way_floorOf_1 hc]
set_option maxRecDepth 100000 in
set_option maxHeartbeats 400000 in
theorem q_Laws_turnTo {c : Nat} (hc : isChap c) {v0 : Nat} {v1 : Int32} (hv0 : isLaws v0) {N : hn} : f_Laws_turnTo S0 v0 v1 (N.1, N.2, rT c) = emv c (F_Laws_turnTo c v0 v1 N) := by
  unfold f_Laws_turnTo F_Laws_turnTo
  try simp only [my_ite, my_hg]
  simp only [hl_n', hl_wI', hl_wL', hl_cp', em_s', em_n', em_my, em_l', em_b, em_v, emv_s', emv_n', emv_my, emv_l', emv_b, emv_v, hb_em, hv_em, my_T, my_F, ne_eq, not_false_eq_true, nz_c, S0_c, S0_lw, S0_h, isHold_36, hc, hc.d, hc.l, hc.d.l, nz_1, nz_2, nz_3, nz_4, nz_5, nz_6, nz_7, nz_8, hv0, ib_w5, rT_w5]
set_option maxRecDepth 100000 in
set_option maxHeartbeats 400000 in
theorem q_Laws_isLaw {c : Nat} (hc : isChap c) {v0 : Int32} {N : hn} : f_Laws_isLaw S0 v0 (N.1, N.2, rT c) = em c (F_Laws_isLaw c v0 N) := by
  unfold f_Laws_isLaw F_Laws_isLaw
  try simp only [my_ite, my_hg]
  simp only [hl_n', hl_wI', hl_wL', hl_cp', em_s', em_n', em_my, em_l', em_b, em_v, emv_s', emv_n', emv_my, emv_l', emv_b, emv_v, hb_em, hv_em, my_T, my_F, ne_eq, not_false_eq_true, nz_c, S0_c, S0_lw, S0_h, isHold_36, hc, hc.d, hc.l, hc.d.l, nz_1, nz_2, nz_3, nz_4, nz_5, nz_6, nz_7, nz_8]
set_option maxRecDepth 100000 in
set_option maxHeartbeats 400000 in
theorem q_Laws_valueUntold {c : Nat} (hc : isChap c) {v0 : Nat} {v1 : Int32} (hv0 : isLaws v0) {N : hn} : f_Laws_valueUntold S0 v0 v1 (N.1, N.2, rT c) = em c (F_Laws_valueUntold c v0 v1 N) := by
  unfold f_Laws_valueUntold F_Laws_valueUntold
  try simp only [my_ite, my_hg]
  simp only [hl_n', hl_wI', hl_wL', hl_cp', em_s', em_n', em_my, em_l', em_b, em_v, emv_s', emv_n', emv_my, emv_l', emv_b, emv_v, hb_em, hv_em, my_T, my_F, ne_eq, not_false_eq_true, nz_c, S0_c, S0_lw, S0_h, isHold_36, hc, hc.d, hc.l, hc.d.l, nz_1, nz_2, nz_3, nz_4, nz_5, nz_6, nz_7, nz_8, hv0, ib_w5, rT_w5]
set_option maxRecDepth 100000 in
set_option maxHeartbeats 400000 in
theorem q_Laws_isFact {c : Nat} (hc : isChap c) {v0 : Int32} {N : hn} : f_Laws_isFact S0 v0 (N.1, N.2, rT c) = em c (F_Laws_isFact c v0 N) := by
  unfold f_Laws_isFact F_Laws_isFact
  try simp only [my_ite, my_hg]
  simp only [hl_n', hl_wI', hl_wL', hl_cp', em_s', em_n', em_my, em_l', em_b, em_v, emv_s', emv_n', emv_my, emv_l', emv_b, emv_v, hb_em, hv_em, my_T, my_F, ne_eq, not_false_eq_true, nz_c, S0_c, S0_lw, S0_h, isHold_36, hc, hc.d, hc.l, hc.d.l, nz_1, nz_2, nz_3, nz_4, nz_5, nz_6, nz_7, nz_8]
set_option maxRecDepth 100000 in
set_option maxHeartbeats 400000 in
theorem q_Laws_joined {c : Nat} (hc : isChap c) {v0 : Int32} {v1 : Int32} {v2 : Int32} {N : hn} : f_Laws_joined S0 v0 v1 v2 (N.1, N.2, rT c) = em c (F_Laws_joined c v0 v1 v2 N) := by
  unfold f_Laws_joined F_Laws_joined
  try simp only [my_ite, my_hg]
  simp only [hl_n', hl_wI', hl_wL', hl_cp', em_s', em_n', em_my, em_l', em_b, em_v, emv_s', emv_n', emv_my, emv_l', emv_b, emv_v, hb_em, hv_em, my_T, my_F, ne_eq, not_false_eq_true, nz_c, S0_c, S0_lw, S0_h, isHold_36, hc, hc.d, hc.l, hc.d.l, nz_1, nz_2, nz_3, nz_4, nz_5, nz_6, nz_7, nz_8]
set_option maxRecDepth 100000 in
set_option maxHeartbeats 400000 in
theorem q_Laws_valueOf_5 {c : Nat} (hc : isChap c) {v0 : Nat} (hv0 : isLaws v0) {N : hn} : b_Laws_valueOf_5 S0 v0 (N.1, N.2, rT c) = em c (B_Laws_valueOf_5 c v0 N) := by
  unfold b_Laws_valueOf_5 B_Laws_valueOf_5
  try simp only [my_ite, my_hg]
  simp only [hl_n', hl_wI', hl_wL', hl_cp', em_s', em_n', em_my, em_l', em_b, em_v, emv_s', emv_n', emv_my, emv_l', emv_b, emv_v, hb_em, hv_em, my_T, my_F, ne_eq, not_false_eq_true, nz_c, S0_c, S0_lw, S0_h, isHold_36, hc, hc.d, hc.l, hc.d.l, nz_1, nz_2, nz_3, nz_4, nz_5, nz_6, nz_7, nz_8, hv0, ib_w0, ib_w2, ib_w3, ib_w4, ib_w5, q_Laws_isFact hc, q_Laws_isLaw hc, q_Laws_joined hc, q_Laws_valueUntold hc, rT_w0, rT_w2, rT_w3, rT_w4, rT_w5]
set_option maxRecDepth 100000 in
set_option maxHeartbeats 400000 in
theorem q_Laws_valueOf_4 {c : Nat} (hc : isChap c) {k48 : Nat → Int32 → Int32 → Int32 → hm_M → Option (Int32 × hm_M)} {K48 : Nat → Int32 → Int32 → Int32 → hn → Option (Int32 × hn)} (hk48 : ∀ (v0 : Nat) (v2 : Int32) (v4 : Int32) (v5 : Int32) (N : hn), isLaws v0 → k48 v0 v2 v4 v5 (N.1, N.2, rT c) = em c (K48 v0 v2 v4 v5 N)) {v0 : Nat} {v2 : Int32} {v4 : Int32} {v5 : Int32} {s0 : Int32} {s1 : Int32} {s2 : Nat} (hv0 : isLaws v0) {N : hn} : b_Laws_valueOf_4 S0 k48 v0 v2 v4 v5 s0 s1 s2 (N.1, N.2, rT c) = em c (B_Laws_valueOf_4 c K48 v0 v2 v4 v5 s0 s1 s2 N) := by
  unfold b_Laws_valueOf_4 B_Laws_valueOf_4
  try simp only [my_ite, my_hg]
  simp only [hl_n', hl_wI', hl_wL', hl_cp', em_s', em_n', em_my, em_l', em_b, em_v, emv_s', emv_n', emv_my, emv_l', emv_b, emv_v, hb_em, hv_em, my_T, my_F, ne_eq, not_false_eq_true, nz_c, S0_c, S0_lw, S0_h, isHold_36, hc, hc.d, hc.l, hc.d.l, nz_1, nz_2, nz_3, nz_4, nz_5, nz_6, nz_7, nz_8, hv0, ib_w0, ib_w2, ib_w3, ib_w4, ib_w5, q_Laws_isFact hc, q_Laws_isLaw hc, q_Laws_joined hc, q_Laws_valueUntold hc, rT_w0, rT_w2, rT_w3, rT_w4, rT_w5, hk48, q_Laws_valueOf_5 hc]
set_option maxRecDepth 100000 in
set_option maxHeartbeats 400000 in
theorem q_Laws_valueOf_3 {c : Nat} (hc : isChap c) {k48 : Nat → Int32 → Int32 → Int32 → hm_M → Option (Int32 × hm_M)} {K48 : Nat → Int32 → Int32 → Int32 → hn → Option (Int32 × hn)} (hk48 : ∀ (v0 : Nat) (v2 : Int32) (v4 : Int32) (v5 : Int32) (N : hn), isLaws v0 → k48 v0 v2 v4 v5 (N.1, N.2, rT c) = em c (K48 v0 v2 v4 v5 N)) {v0 : Nat} {v2 : Int32} {v4 : Int32} {v5 : Int32} {s0 : Int32} {s1 : Int32} {s2 : Nat} (hv0 : isLaws v0) {N : hn} : b_Laws_valueOf_3 S0 k48 v0 v2 v4 v5 s0 s1 s2 (N.1, N.2, rT c) = em c (B_Laws_valueOf_3 c K48 v0 v2 v4 v5 s0 s1 s2 N) := by
  unfold b_Laws_valueOf_3 B_Laws_valueOf_3
  try simp only [my_ite, my_hg]
  simp only [hl_n', hl_wI', hl_wL', hl_cp', em_s', em_n', em_my, em_l', em_b, em_v, emv_s', emv_n', emv_my, emv_l', emv_b, emv_v, hb_em, hv_em, my_T, my_F, ne_eq, not_false_eq_true, nz_c, S0_c, S0_lw, S0_h, isHold_36, hc, hc.d, hc.l, hc.d.l, nz_1, nz_2, nz_3, nz_4, nz_5, nz_6, nz_7, nz_8, hv0, ib_w0, ib_w2, ib_w3, ib_w4, ib_w5, q_Laws_isFact hc, q_Laws_isLaw hc, q_Laws_joined hc, q_Laws_valueUntold hc, rT_w0, rT_w2, rT_w3, rT_w4, rT_w5, hk48, q_Laws_valueOf_5 hc, q_Laws_valueOf_4 hc hk48]
set_option maxRecDepth 100000 in
set_option maxHeartbeats 400000 in
theorem q_Laws_valueOf_2 {c : Nat} (hc : isChap c) {k48 : Nat → Int32 → Int32 → Int32 → hm_M → Option (Int32 × hm_M)} {K48 : Nat → Int32 → Int32 → Int32 → hn → Option (Int32 × hn)} (hk48 : ∀ (v0 : Nat) (v2 : Int32) (v4 : Int32) (v5 : Int32) (N : hn), isLaws v0 → k48 v0 v2 v4 v5 (N.1, N.2, rT c) = em c (K48 v0 v2 v4 v5 N)) {v0 : Nat} {v2 : Int32} {v4 : Int32} {v5 : Int32} {v6 : Int32} (hv0 : isLaws v0) {N : hn} : b_Laws_valueOf_2 S0 k48 v0 v2 v4 v5 v6 (N.1, N.2, rT c) = em c (B_Laws_valueOf_2 c K48 v0 v2 v4 v5 v6 N) := by
  unfold b_Laws_valueOf_2 B_Laws_valueOf_2
  try simp only [my_ite, my_hg]
  simp only [hl_n', hl_wI', hl_wL', hl_cp', em_s', em_n', em_my, em_l', em_b, em_v, emv_s', emv_n', emv_my, emv_l', emv_b, emv_v, hb_em, hv_em, my_T, my_F, ne_eq, not_false_eq_true, nz_c, S0_c, S0_lw, S0_h, isHold_36, hc, hc.d, hc.l, hc.d.l, nz_1, nz_2, nz_3, nz_4, nz_5, nz_6, nz_7, nz_8, hv0, ib_w0, ib_w2, ib_w3, ib_w4, ib_w5, q_Laws_isFact hc, q_Laws_isLaw hc, q_Laws_joined hc, q_Laws_valueUntold hc, rT_w0, rT_w2, rT_w3, rT_w4, rT_w5, hk48, q_Laws_valueOf_5 hc, q_Laws_valueOf_4 hc hk48, q_Laws_valueOf_3 hc hk48]
set_option maxRecDepth 100000 in
set_option maxHeartbeats 400000 in
theorem r_Laws_valueOf_1 {c : Nat} (hc : isChap c) {k48 : Nat → Int32 → Int32 → Int32 → hm_M → Option (Int32 × hm_M)} {K48 : Nat → Int32 → Int32 → Int32 → hn → Option (Int32 × hn)} (hk48 : ∀ (v0 : Nat) (v2 : Int32) (v4 : Int32) (v5 : Int32) (N : hn), isLaws v0 → k48 v0 v2 v4 v5 (N.1, N.2, rT c) = em c (K48 v0 v2 v4 v5 N)) {v0 : Nat} {v2 : Int32} {v4 : Int32} {v5 : Int32} (hv0 : isLaws v0) {N : hn} : b_Laws_valueOf_1 S0 k48 v0 v2 v4 v5 (N.1, N.2, rT c) = em c (B_Laws_valueOf_1 c K48 v0 v2 v4 v5 N) := by
  unfold b_Laws_valueOf_1 B_Laws_valueOf_1
  try simp only [my_ite, my_hg]
  simp only [hl_n', hl_wI', hl_wL', hl_cp', em_s', em_n', em_my, em_l', em_b, em_v, emv_s', emv_n', emv_my, emv_l', emv_b, emv_v, hb_em, hv_em, my_T, my_F, ne_eq, not_false_eq_true, nz_c, S0_c, S0_lw, S0_h, isHold_36, hc, hc.d, hc.l, hc.d.l, nz_1, nz_2, nz_3, nz_4, nz_5, nz_6, nz_7, nz_8, hv0, ib_w0, ib_w2, ib_w3, ib_w4, ib_w5, q_Laws_isFact hc, q_Laws_isLaw hc, q_Laws_joined hc, q_Laws_valueUntold hc, rT_w0, rT_w2, rT_w3, rT_w4, rT_w5, hk48, q_Laws_valueOf_5 hc, q_Laws_valueOf_4 hc hk48, q_Laws_valueOf_3 hc hk48, q_Laws_valueOf_2 hc hk48]
theorem q_Laws_valueOf_1 {c : Nat} (hc : isChap c) : ∀ (n : Nat) (v0 : Nat) (v2 : Int32) (v4 : Int32) (v5 : Int32) (N : hn), isLaws v0 → f_Laws_valueOf_1 S0 n v0 v2 v4 v5 (N.1, N.2, rT c) = em c (F_Laws_valueOf_1 c n v0 v2 v4 v5 N) := by
  intro n
  induction n with
  | zero => intros; rfl
  | succ n ih => intro v0 v2 v4 v5 N hv0; exact r_Laws_valueOf_1 hc  ih hv0
set_option maxRecDepth 100000 in
set_option maxHeartbeats 400000 in
theorem q_Laws_valueOf {c : Nat} (hc : isChap c) {v0 : Nat} {v1 : Int32} (hv0 : isLaws v0) {N : hn} : f_Laws_valueOf S0 v0 v1 (N.1, N.2, rT c) = em c (F_Laws_valueOf c v0 v1 N) := by
  unfold f_Laws_valueOf F_Laws_valueOf
  try simp only [my_ite, my_hg]
  simp only [hl_n', hl_wI', hl_wL', hl_cp', em_s', em_n', em_my, em_l', em_b, em_v, emv_s', emv_n', emv_my, emv_l', emv_b, emv_v, hb_em, hv_em, my_T, my_F, ne_eq, not_false_eq_true, nz_c, S0_c, S0_lw, S0_h, isHold_36, hc, hc.d, hc.l, hc.d.l, nz_1, nz_2, nz_3, nz_4, nz_5, nz_6, nz_7, nz_8, hv0, ib_w0, ib_w2, ib_w3, ib_w4, ib_w5, q_Laws_isFact hc, q_Laws_isLaw hc, q_Laws_joined hc, q_Laws_valueUntold hc, rT_w0, rT_w2, rT_w3, rT_w4, rT_w5, q_Laws_valueOf_1 hc, q_Laws_valueOf_5 hc]
set_option maxRecDepth 100000 in
set_option maxHeartbeats 400000 in
theorem q_Laws_lookAtPane {c : Nat} (hc : isChap c) {v0 : Nat} {v1 : Int32} {v2 : Int32} (hv0 : isLaws v0) {N : hn} : f_Laws_lookAtPane S0 v0 v1 v2 (N.1, N.2, rT c) = emv c (F_Laws_lookAtPane c v0 v1 v2 N) := by
  unfold f_Laws_lookAtPane F_Laws_lookAtPane
  try simp only [my_ite, my_hg]
  simp only [hl_n', hl_wI', hl_wL', hl_cp', em_s', em_n', em_my, em_l', em_b, em_v, emv_s', emv_n', emv_my, emv_l', emv_b, emv_v, hb_em, hv_em, my_T, my_F, ne_eq, not_false_eq_true, nz_c, S0_c, S0_lw, S0_h, isHold_36, hc, hc.d, hc.l, hc.d.l, nz_1, nz_2, nz_3, nz_4, nz_5, nz_6, nz_7, nz_8, hv0, ib_w5, rT_w5]
set_option maxRecDepth 100000 in
set_option maxHeartbeats 400000 in
theorem q_Ps_placeOf {c : Nat} (hc : isChap c) {v0 : Int32} {v1 : Int32} {N : hn} : f_Ps_placeOf S0 v0 v1 (N.1, N.2, rT c) = em c (F_Ps_placeOf c v0 v1 N) := by
  unfold f_Ps_placeOf F_Ps_placeOf
  try simp only [my_ite, my_hg]
  simp only [hl_n', hl_wI', hl_wL', hl_cp', em_s', em_n', em_my, em_l', em_b, em_v, emv_s', emv_n', emv_my, emv_l', emv_b, emv_v, hb_em, hv_em, my_T, my_F, ne_eq, not_false_eq_true, nz_c, S0_c, S0_lw, S0_h, isHold_36, hc, hc.d, hc.l, hc.d.l, nz_1, nz_2, nz_3, nz_4, nz_5, nz_6, nz_7, nz_8, S0_1]
set_option maxRecDepth 100000 in
set_option maxHeartbeats 400000 in
theorem q_Light_shine_4 {c : Nat} (hc : isChap c) {v1 : Int32} {v3 : Int64} {v5 : Int64} {N : hn} : b_Light_shine_4 S0 19 v1 v3 v5 (N.1, N.2, rT c) = emv c (B_Light_shine_4 c v1 v3 v5 N) := by
  unfold b_Light_shine_4 B_Light_shine_4
  try simp only [my_ite, my_hg]
  simp only [hl_n', hl_wI', hl_wL', hl_cp', em_s', em_n', em_my, em_l', em_b, em_v, emv_s', emv_n', emv_my, emv_l', emv_b, emv_v, hb_em, hv_em, my_T, my_F, ne_eq, not_false_eq_true, nz_c, S0_c, S0_lw, S0_h, isHold_36, hc, hc.d, hc.l, hc.d.l, nz_1, nz_2, nz_3, nz_4, nz_5, nz_6, nz_7, nz_8, S0_19, ib_35, ib_c8, ib_c9, q_Chapel_hasPlace hc, q_Laws_lookAtPane hc, q_Laws_valueOf hc, q_Ps_placeOf hc, rT_19_0, rT_19_2, rT_c12, rT_c8, rT_c9]
set_option maxRecDepth 100000 in
set_option maxHeartbeats 400000 in
theorem q_Light_shine_3 {c : Nat} (hc : isChap c) {k41 : Nat → Int32 → Nat → Int64 → Int64 → Int32 → Int32 → hm_M → Option hm_M} {K41 : Int32 → Nat → Int64 → Int64 → Int32 → Int32 → hn → Option hn} (hk41 : ∀ (v1 : Int32) (v2 : Nat) (v3 : Int64) (v5 : Int64) (v7 : Int32) (v8 : Int32) (N : hn), isLaws v2 → k41 19 v1 v2 v3 v5 v7 v8 (N.1, N.2, rT c) = emv c (K41 v1 v2 v3 v5 v7 v8 N)) {v1 : Int32} {v2 : Nat} {v3 : Int64} {v5 : Int64} {v7 : Int32} {v8 : Int32} {s0 : Int64} (hv2 : isLaws v2) {N : hn} : b_Light_shine_3 S0 k41 19 v1 v2 v3 v5 v7 v8 s0 (N.1, N.2, rT c) = emv c (B_Light_shine_3 c K41 v1 v2 v3 v5 v7 v8 s0 N) := by
  unfold b_Light_shine_3 B_Light_shine_3
  try simp only [my_ite, my_hg]
  simp only [hl_n', hl_wI', hl_wL', hl_cp', em_s', em_n', em_my, em_l', em_b, em_v, emv_s', emv_n', emv_my, emv_l', emv_b, emv_v, hb_em, hv_em, my_T, my_F, ne_eq, not_false_eq_true, nz_c, S0_c, S0_lw, S0_h, isHold_36, hc, hc.d, hc.l, hc.d.l, nz_1, nz_2, nz_3, nz_4, nz_5, nz_6, nz_7, nz_8, hv2, S0_19, ib_35, ib_c8, ib_c9, q_Chapel_hasPlace hc, q_Laws_lookAtPane hc, q_Laws_valueOf hc, q_Ps_placeOf hc, rT_19_0, rT_19_2, rT_c12, rT_c8, rT_c9, hk41, q_Light_shine_4 hc]
set_option maxRecDepth 100000 in
set_option maxHeartbeats 400000 in
theorem r_Light_shine_2 {c : Nat} (hc : isChap c) {k41 : Nat → Int32 → Nat → Int64 → Int64 → Int32 → Int32 → hm_M → Option hm_M} {K41 : Int32 → Nat → Int64 → Int64 → Int32 → Int32 → hn → Option hn} (hk41 : ∀ (v1 : Int32) (v2 : Nat) (v3 : Int64) (v5 : Int64) (v7 : Int32) (v8 : Int32) (N : hn), isLaws v2 → k41 19 v1 v2 v3 v5 v7 v8 (N.1, N.2, rT c) = emv c (K41 v1 v2 v3 v5 v7 v8 N)) {v1 : Int32} {v2 : Nat} {v3 : Int64} {v5 : Int64} {v7 : Int32} {v8 : Int32} (hv2 : isLaws v2) {N : hn} : b_Light_shine_2 S0 k41 19 v1 v2 v3 v5 v7 v8 (N.1, N.2, rT c) = emv c (B_Light_shine_2 c K41 v1 v2 v3 v5 v7 v8 N) := by
  unfold b_Light_shine_2 B_Light_shine_2
  try simp only [my_ite, my_hg]
  simp only [hl_n', hl_wI', hl_wL', hl_cp', em_s', em_n', em_my, em_l', em_b, em_v, emv_s', emv_n', emv_my, emv_l', emv_b, emv_v, hb_em, hv_em, my_T, my_F, ne_eq, not_false_eq_true, nz_c, S0_c, S0_lw, S0_h, isHold_36, hc, hc.d, hc.l, hc.d.l, nz_1, nz_2, nz_3, nz_4, nz_5, nz_6, nz_7, nz_8, hv2, S0_19, ib_35, ib_c8, ib_c9, q_Chapel_hasPlace hc, q_Laws_lookAtPane hc, q_Laws_valueOf hc, q_Ps_placeOf hc, rT_19_0, rT_19_2, rT_c12, rT_c8, rT_c9, hk41, q_Light_shine_4 hc, q_Light_shine_3 hc hk41]
theorem q_Light_shine_2 {c : Nat} (hc : isChap c) : ∀ (n : Nat) (v1 : Int32) (v2 : Nat) (v3 : Int64) (v5 : Int64) (v7 : Int32) (v8 : Int32) (N : hn), isLaws v2 → f_Light_shine_2 S0 n 19 v1 v2 v3 v5 v7 v8 (N.1, N.2, rT c) = emv c (F_Light_shine_2 c n v1 v2 v3 v5 v7 v8 N) := by
  intro n
  induction n with
  | zero => intros; rfl
  | succ n ih => intro v1 v2 v3 v5 v7 v8 N hv2; exact r_Light_shine_2 hc  ih hv2
set_option maxRecDepth 100000 in
set_option maxHeartbeats 400000 in
theorem q_Light_shine_1 {c : Nat} (hc : isChap c) {v1 : Int32} {v2 : Nat} {v3 : Int64} {v5 : Int64} {s0 : Int32} (hv2 : isLaws v2) {N : hn} : b_Light_shine_1 S0 19 v1 v2 v3 v5 s0 (N.1, N.2, rT c) = emv c (B_Light_shine_1 c v1 v2 v3 v5 s0 N) := by
  unfold b_Light_shine_1 B_Light_shine_1
  try simp only [my_ite, my_hg]
  simp only [hl_n', hl_wI', hl_wL', hl_cp', em_s', em_n', em_my, em_l', em_b, em_v, emv_s', emv_n', emv_my, emv_l', emv_b, emv_v, hb_em, hv_em, my_T, my_F, ne_eq, not_false_eq_true, nz_c, S0_c, S0_lw, S0_h, isHold_36, hc, hc.d, hc.l, hc.d.l, nz_1, nz_2, nz_3, nz_4, nz_5, nz_6, nz_7, nz_8, hv2, S0_19, ib_35, ib_c8, ib_c9, q_Chapel_hasPlace hc, q_Laws_lookAtPane hc, q_Laws_valueOf hc, q_Ps_placeOf hc, rT_19_0, rT_19_2, rT_c12, rT_c8, rT_c9, q_Light_shine_4 hc, q_Light_shine_2 hc]
set_option maxRecDepth 100000 in
set_option maxHeartbeats 400000 in
theorem q_Light_shine {c : Nat} (hc : isChap c) {v1 : Int32} {N : hn} : f_Light_shine S0 19 v1 (N.1, N.2, rT c) = emv c (F_Light_shine c v1 N) := by
  unfold f_Light_shine F_Light_shine
  try simp only [my_ite, my_hg]
  simp only [hl_n', hl_wI', hl_wL', hl_cp', em_s', em_n', em_my, em_l', em_b, em_v, emv_s', emv_n', emv_my, emv_l', emv_b, emv_v, hb_em, hv_em, my_T, my_F, ne_eq, not_false_eq_true, nz_c, S0_c, S0_lw, S0_h, isHold_36, hc, hc.d, hc.l, hc.d.l, nz_1, nz_2, nz_3, nz_4, nz_5, nz_6, nz_7, nz_8, S0_19, ib_35, ib_c8, ib_c9, q_Chapel_hasPlace hc, q_Laws_lookAtPane hc, q_Laws_valueOf hc, q_Ps_placeOf hc, rT_19_0, rT_19_2, rT_c12, rT_c8, rT_c9, q_Light_shine_1 hc, q_Light_shine_2 hc, q_Light_shine_4 hc]
set_option maxRecDepth 100000 in
set_option maxHeartbeats 400000 in
theorem r_Light_turnTo_2 {c : Nat} (hc : isChap c) {k82 : Nat → Int64 → Int64 → Int32 → hm_M → Option hm_M} {K82 : Int64 → Int64 → Int32 → hn → Option hn} (hk82 : ∀ (v2 : Int64) (v4 : Int64) (v6 : Int32) (N : hn), k82 19 v2 v4 v6 (N.1, N.2, rT c) = emv c (K82 v2 v4 v6 N)) {v2 : Int64} {v4 : Int64} {v6 : Int32} {N : hn} : b_Light_turnTo_2 S0 k82 19 v2 v4 v6 (N.1, N.2, rT c) = emv c (B_Light_turnTo_2 c K82 v2 v4 v6 N) := by
  unfold b_Light_turnTo_2 B_Light_turnTo_2
  try simp only [my_ite, my_hg]
  simp only [hl_n', hl_wI', hl_wL', hl_cp', em_s', em_n', em_my, em_l', em_b, em_v, emv_s', emv_n', emv_my, emv_l', emv_b, emv_v, hb_em, hv_em, my_T, my_F, ne_eq, not_false_eq_true, nz_c, S0_c, S0_lw, S0_h, isHold_36, hc, hc.d, hc.l, hc.d.l, nz_1, nz_2, nz_3, nz_4, nz_5, nz_6, nz_7, nz_8, S0_19, ib_34, ib_35, q_Laws_turnTo hc, q_Light_shine hc, rT_19_0, rT_19_1, rT_19_2, rT_c12, hk82]
theorem q_Light_turnTo_2 {c : Nat} (hc : isChap c) : ∀ (n : Nat) (v2 : Int64) (v4 : Int64) (v6 : Int32) (N : hn), f_Light_turnTo_2 S0 n 19 v2 v4 v6 (N.1, N.2, rT c) = emv c (F_Light_turnTo_2 c n v2 v4 v6 N) := by
  intro n
  induction n with
  | zero => intros; rfl
  | succ n ih => intro v2 v4 v6 N ; exact r_Light_turnTo_2 hc  ih
set_option maxRecDepth 100000 in
set_option maxHeartbeats 400000 in
theorem q_Light_turnTo_1 {c : Nat} (hc : isChap c) {v1 : Int32} {N : hn} : b_Light_turnTo_1 S0 19 v1 (N.1, N.2, rT c) = emv c (B_Light_turnTo_1 c v1 N) := by
  unfold b_Light_turnTo_1 B_Light_turnTo_1
  try simp only [my_ite, my_hg]
  simp only [hl_n', hl_wI', hl_wL', hl_cp', em_s', em_n', em_my, em_l', em_b, em_v, emv_s', emv_n', emv_my, emv_l', emv_b, emv_v, hb_em, hv_em, my_T, my_F, ne_eq, not_false_eq_true, nz_c, S0_c, S0_lw, S0_h, isHold_36, hc, hc.d, hc.l, hc.d.l, nz_1, nz_2, nz_3, nz_4, nz_5, nz_6, nz_7, nz_8, S0_19, ib_34, ib_35, q_Laws_turnTo hc, q_Light_shine hc, rT_19_0, rT_19_1, rT_19_2, rT_c12, q_Light_turnTo_2 hc]
set_option maxRecDepth 100000 in
set_option maxHeartbeats 400000 in
theorem q_Light_turnTo {c : Nat} (hc : isChap c) {v1 : Int32} {N : hn} : f_Light_turnTo S0 19 v1 (N.1, N.2, rT c) = emv c (F_Light_turnTo c v1 N) := by
  unfold f_Light_turnTo F_Light_turnTo
  try simp only [my_ite, my_hg]
  simp only [hl_n', hl_wI', hl_wL', hl_cp', em_s', em_n', em_my, em_l', em_b, em_v, emv_s', emv_n', emv_my, emv_l', emv_b, emv_v, hb_em, hv_em, my_T, my_F, ne_eq, not_false_eq_true, nz_c, S0_c, S0_lw, S0_h, isHold_36, hc, hc.d, hc.l, hc.d.l, nz_1, nz_2, nz_3, nz_4, nz_5, nz_6, nz_7, nz_8, S0_19, ib_34, ib_35, q_Laws_turnTo hc, q_Light_shine hc, rT_19_0, rT_19_1, rT_19_2, rT_c12, q_Light_turnTo_1 hc, q_Light_turnTo_2 hc]
set_option maxRecDepth 100000 in
set_option maxHeartbeats 400000 in
theorem r_Light_placesOf_1 {c : Nat} (hc : isChap c) {k5 : Nat → Int32 → Int64 → Int32 → hm_M → Option (Int64 × hm_M)} {K5 : Int32 → Int64 → Int32 → hn → Option (Int64 × hn)} (hk5 : ∀ (v1 : Int32) (v2 : Int64) (v4 : Int32) (N : hn), k5 19 v1 v2 v4 (N.1, N.2, rT c) = em c (K5 v1 v2 v4 N)) {v1 : Int32} {v2 : Int64} {v4 : Int32} {N : hn} : b_Light_placesOf_1 S0 k5 19 v1 v2 v4 (N.1, N.2, rT c) = em c (B_Light_placesOf_1 c K5 v1 v2 v4 N) := by
  unfold b_Light_placesOf_1 B_Light_placesOf_1
  try simp only [my_ite, my_hg]
  simp only [hl_n', hl_wI', hl_wL', hl_cp', em_s', em_n', em_my, em_l', em_b, em_v, emv_s', emv_n', emv_my, emv_l', emv_b, emv_v, hb_em, hv_em, my_T, my_F, ne_eq, not_false_eq_true, nz_c, S0_c, S0_lw, S0_h, isHold_36, hc, hc.d, hc.l, hc.d.l, nz_1, nz_2, nz_3, nz_4, nz_5, nz_6, nz_7, nz_8, S0_19, ib_34, rT_19_1, hk5]
theorem q_Light_placesOf_1 {c : Nat} (hc : isChap c) : ∀ (n : Nat) (v1 : Int32) (v2 : Int64) (v4 : Int32) (N : hn), f_Light_placesOf_1 S0 n 19 v1 v2 v4 (N.1, N.2, rT c) = em c (F_Light_placesOf_1 c n v1 v2 v4 N) := by
  intro n
  induction n with
  | zero => intros; rfl
  | succ n ih => intro v1 v2 v4 N ; exact r_Light_placesOf_1 hc  ih
set_option maxRecDepth 100000 in
set_option maxHeartbeats 400000 in
theorem q_Light_placesOf {c : Nat} (hc : isChap c) {v1 : Int32} {N : hn} : f_Light_placesOf S0 19 v1 (N.1, N.2, rT c) = em c (F_Light_placesOf c v1 N) := by
  unfold f_Light_placesOf F_Light_placesOf
  try simp only [my_ite, my_hg]
  simp only [hl_n', hl_wI', hl_wL', hl_cp', em_s', em_n', em_my, em_l', em_b, em_v, emv_s', emv_n', emv_my, emv_l', emv_b, emv_v, hb_em, hv_em, my_T, my_F, ne_eq, not_false_eq_true, nz_c, S0_c, S0_lw, S0_h, isHold_36, hc, hc.d, hc.l, hc.d.l, nz_1, nz_2, nz_3, nz_4, nz_5, nz_6, nz_7, nz_8, S0_19, ib_34, rT_19_1, q_Light_placesOf_1 hc]
set_option maxRecDepth 100000 in
set_option maxHeartbeats 400000 in
theorem q_Ps_stepsBetween {c : Nat} (hc : isChap c) {v0 : Int32} {v1 : Int32} {N : hn} : f_Ps_stepsBetween S0 v0 v1 (N.1, N.2, rT c) = em c (F_Ps_stepsBetween c v0 v1 N) := by
  unfold f_Ps_stepsBetween F_Ps_stepsBetween
  try simp only [my_ite, my_hg]
  simp only [hl_n', hl_wI', hl_wL', hl_cp', em_s', em_n', em_my, em_l', em_b, em_v, emv_s', emv_n', emv_my, emv_l', emv_b, emv_v, hb_em, hv_em, my_T, my_F, ne_eq, not_false_eq_true, nz_c, S0_c, S0_lw, S0_h, isHold_36, hc, hc.d, hc.l, hc.d.l, nz_1, nz_2, nz_3, nz_4, nz_5, nz_6, nz_7, nz_8, S0_1]
set_option maxRecDepth 100000 in
set_option maxHeartbeats 400000 in
theorem q_Way_stepsOver_1 {c : Nat} (hc : isChap c) {v2 : Int32} {v3 : Int32} {s0 : Int32} {N : hn} : b_Way_stepsOver_1 S0 51 v2 v3 s0 (N.1, N.2, rT c) = em c (B_Way_stepsOver_1 c v2 v3 s0 N) := by
  unfold b_Way_stepsOver_1 B_Way_stepsOver_1
  try simp only [my_ite, my_hg]
  simp only [hl_n', hl_wI', hl_wL', hl_cp', em_s', em_n', em_my, em_l', em_b, em_v, emv_s', emv_n', emv_my, emv_l', emv_b, emv_v, hb_em, hv_em, my_T, my_F, ne_eq, not_false_eq_true, nz_c, S0_c, S0_lw, S0_h, isHold_36, hc, hc.d, hc.l, hc.d.l, nz_1, nz_2, nz_3, nz_4, nz_5, nz_6, nz_7, nz_8, S0_51, ib_53, q_Ps_stepsBetween hc, rT_51_1]
set_option maxRecDepth 100000 in
set_option maxHeartbeats 400000 in
theorem q_Way_stepsOver {c : Nat} (hc : isChap c) {v1 : Int32} {v2 : Int32} {v3 : Int32} {N : hn} : f_Way_stepsOver S0 51 v1 v2 v3 (N.1, N.2, rT c) = em c (F_Way_stepsOver c v1 v2 v3 N) := by
  unfold f_Way_stepsOver F_Way_stepsOver
  try simp only [my_ite, my_hg]
  simp only [hl_n', hl_wI', hl_wL', hl_cp', em_s', em_n', em_my, em_l', em_b, em_v, emv_s', emv_n', emv_my, emv_l', emv_b, emv_v, hb_em, hv_em, my_T, my_F, ne_eq, not_false_eq_true, nz_c, S0_c, S0_lw, S0_h, isHold_36, hc, hc.d, hc.l, hc.d.l, nz_1, nz_2, nz_3, nz_4, nz_5, nz_6, nz_7, nz_8, S0_51, ib_53, q_Ps_stepsBetween hc, rT_51_1, q_Way_stepsOver_1 hc]
set_option maxRecDepth 100000 in
set_option maxHeartbeats 400000 in
theorem r_Way_nextFrom_1 {c : Nat} (hc : isChap c) {k9 : Nat → Int32 → Int32 → Int32 → Int32 → Int32 → hm_M → Option (Int32 × hm_M)} {K9 : Int32 → Int32 → Int32 → Int32 → Int32 → hn → Option (Int32 × hn)} (hk9 : ∀ (v1 : Int32) (v2 : Int32) (v3 : Int32) (v4 : Int32) (v5 : Int32) (N : hn), k9 51 v1 v2 v3 v4 v5 (N.1, N.2, rT c) = em c (K9 v1 v2 v3 v4 v5 N)) {v1 : Int32} {v2 : Int32} {v3 : Int32} {v4 : Int32} {v5 : Int32} {N : hn} : b_Way_nextFrom_1 S0 k9 51 v1 v2 v3 v4 v5 (N.1, N.2, rT c) = em c (B_Way_nextFrom_1 c K9 v1 v2 v3 v4 v5 N) := by
  unfold b_Way_nextFrom_1 B_Way_nextFrom_1
  try simp only [my_ite, my_hg]
  simp only [hl_n', hl_wI', hl_wL', hl_cp', em_s', em_n', em_my, em_l', em_b, em_v, emv_s', emv_n', emv_my, emv_l', emv_b, emv_v, hb_em, hv_em, my_T, my_F, ne_eq, not_false_eq_true, nz_c, S0_c, S0_lw, S0_h, isHold_36, hc, hc.d, hc.l, hc.d.l, nz_1, nz_2, nz_3, nz_4, nz_5, nz_6, nz_7, nz_8, S0_51, ib_52, q_Way_stepsOver hc, rT_51_0, hk9]
theorem q_Way_nextFrom_1 {c : Nat} (hc : isChap c) : ∀ (n : Nat) (v1 : Int32) (v2 : Int32) (v3 : Int32) (v4 : Int32) (v5 : Int32) (N : hn), f_Way_nextFrom_1 S0 n 51 v1 v2 v3 v4 v5 (N.1, N.2, rT c) = em c (F_Way_nextFrom_1 c n v1 v2 v3 v4 v5 N) := by
  intro n
  induction n with
  | zero => intros; rfl
  | succ n ih => intro v1 v2 v3 v4 v5 N ; exact r_Way_nextFrom_1 hc  ih
set_option maxRecDepth 100000 in
set_option maxHeartbeats 400000 in
theorem q_Way_nextFrom {c : Nat} (hc : isChap c) {v1 : Int32} {v2 : Int32} {N : hn} : f_Way_nextFrom S0 51 v1 v2 (N.1, N.2, rT c) = em c (F_Way_nextFrom c v1 v2 N) := by
  unfold f_Way_nextFrom F_Way_nextFrom
  try simp only [my_ite, my_hg]
  simp only [hl_n', hl_wI', hl_wL', hl_cp', em_s', em_n', em_my, em_l', em_b, em_v, emv_s', emv_n', emv_my, emv_l', emv_b, emv_v, hb_em, hv_em, my_T, my_F, ne_eq, not_false_eq_true, nz_c, S0_c, S0_lw, S0_h, isHold_36, hc, hc.d, hc.l, hc.d.l, nz_1, nz_2, nz_3, nz_4, nz_5, nz_6, nz_7, nz_8, S0_51, ib_52, q_Way_stepsOver hc, rT_51_0, q_Way_nextFrom_1 hc]
set_option maxRecDepth 100000 in
set_option maxHeartbeats 400000 in
theorem q_Way_lookAhead_3 {c : Nat} (hc : isChap c) {k3 : Nat → Int32 → Int32 → Int64 → Int32 → hm_M → Option hm_M} {K3 : Int32 → Int32 → Int64 → Int32 → hn → Option hn} (hk3 : ∀ (v1 : Int32) (v2 : Int32) (v3 : Int64) (v5 : Int32) (N : hn), k3 51 v1 v2 v3 v5 (N.1, N.2, rT c) = emv c (K3 v1 v2 v3 v5 N)) {v1 : Int32} {v2 : Int32} {v3 : Int64} {v5 : Int32} {v6 : Int32} {N : hn} : b_Way_lookAhead_3 S0 k3 51 v1 v2 v3 v5 v6 (N.1, N.2, rT c) = emv c (B_Way_lookAhead_3 c K3 v1 v2 v3 v5 v6 N) := by
  unfold b_Way_lookAhead_3 B_Way_lookAhead_3
  try simp only [my_ite, my_hg]
  simp only [hl_n', hl_wI', hl_wL', hl_cp', em_s', em_n', em_my, em_l', em_b, em_v, emv_s', emv_n', emv_my, emv_l', emv_b, emv_v, hb_em, hv_em, my_T, my_F, ne_eq, not_false_eq_true, nz_c, S0_c, S0_lw, S0_h, isHold_36, hc, hc.d, hc.l, hc.d.l, nz_1, nz_2, nz_3, nz_4, nz_5, nz_6, nz_7, nz_8, S0_51, ib_52, ib_53, q_Way_nextFrom hc, q_Way_stepsOver hc, rT_51_0, rT_51_1, hk3]
set_option maxRecDepth 100000 in
set_option maxHeartbeats 400000 in
theorem q_Way_lookAhead_2 {c : Nat} (hc : isChap c) {k3 : Nat → Int32 → Int32 → Int64 → Int32 → hm_M → Option hm_M} {K3 : Int32 → Int32 → Int64 → Int32 → hn → Option hn} (hk3 : ∀ (v1 : Int32) (v2 : Int32) (v3 : Int64) (v5 : Int32) (N : hn), k3 51 v1 v2 v3 v5 (N.1, N.2, rT c) = emv c (K3 v1 v2 v3 v5 N)) {v1 : Int32} {v2 : Int32} {v3 : Int64} {v5 : Int32} {s0 : Int32} {N : hn} : b_Way_lookAhead_2 S0 k3 51 v1 v2 v3 v5 s0 (N.1, N.2, rT c) = emv c (B_Way_lookAhead_2 c K3 v1 v2 v3 v5 s0 N) := by
  unfold b_Way_lookAhead_2 B_Way_lookAhead_2
  try simp only [my_ite, my_hg]
  simp only [hl_n', hl_wI', hl_wL', hl_cp', em_s', em_n', em_my, em_l', em_b, em_v, emv_s', emv_n', emv_my, emv_l', emv_b, emv_v, hb_em, hv_em, my_T, my_F, ne_eq, not_false_eq_true, nz_c, S0_c, S0_lw, S0_h, isHold_36, hc, hc.d, hc.l, hc.d.l, nz_1, nz_2, nz_3, nz_4, nz_5, nz_6, nz_7, nz_8, S0_51, ib_52, ib_53, q_Way_nextFrom hc, q_Way_stepsOver hc, rT_51_0, rT_51_1, hk3, q_Way_lookAhead_3 hc hk3]
set_option maxRecDepth 100000 in
set_option maxHeartbeats 400000 in
theorem r_Way_lookAhead_1 {c : Nat} (hc : isChap c) {k3 : Nat → Int32 → Int32 → Int64 → Int32 → hm_M → Option hm_M} {K3 : Int32 → Int32 → Int64 → Int32 → hn → Option hn} (hk3 : ∀ (v1 : Int32) (v2 : Int32) (v3 : Int64) (v5 : Int32) (N : hn), k3 51 v1 v2 v3 v5 (N.1, N.2, rT c) = emv c (K3 v1 v2 v3 v5 N)) {v1 : Int32} {v2 : Int32} {v3 : Int64} {v5 : Int32} {N : hn} : b_Way_lookAhead_1 S0 k3 51 v1 v2 v3 v5 (N.1, N.2, rT c) = emv c (B_Way_lookAhead_1 c K3 v1 v2 v3 v5 N) := by
  unfold b_Way_lookAhead_1 B_Way_lookAhead_1
  try simp only [my_ite, my_hg]
  simp only [hl_n', hl_wI', hl_wL', hl_cp', em_s', em_n', em_my, em_l', em_b, em_v, emv_s', emv_n', emv_my, emv_l', emv_b, emv_v, hb_em, hv_em, my_T, my_F, ne_eq, not_false_eq_true, nz_c, S0_c, S0_lw, S0_h, isHold_36, hc, hc.d, hc.l, hc.d.l, nz_1, nz_2, nz_3, nz_4, nz_5, nz_6, nz_7, nz_8, S0_51, ib_52, ib_53, q_Way_nextFrom hc, q_Way_stepsOver hc, rT_51_0, rT_51_1, hk3, q_Way_lookAhead_3 hc hk3, q_Way_lookAhead_2 hc hk3]
