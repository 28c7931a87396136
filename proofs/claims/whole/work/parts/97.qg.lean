/-! the resolved layer is right (by program) -/
set_option maxRecDepth 100000 in
set_option maxHeartbeats 400000 in
theorem q_Hold_ownersOf {c : Nat} (hc : isChap c) {v0 : Nat} {v1 : Int32} (hv0 : isHold v0) {N : hn} : f_Hold_ownersOf S0 v0 v1 (N.1, N.2, rT c) = em c (F_Hold_ownersOf c v0 v1 N) := by
  unfold f_Hold_ownersOf F_Hold_ownersOf
  try simp only [my_ite, my_hg]
  simp only [hl_n', hl_wI', hl_wL', hl_cp', em_s', em_n', em_my, em_l', em_b, em_v, emv_s', emv_n', emv_my, emv_l', emv_b, emv_v, hb_em, hv_em, my_T, my_F, ne_eq, not_false_eq_true, nz_c, S0_c, S0_lw, S0_h, isHold_36, hc, hc.d, hc.l, hc.d.l, nz_1, nz_2, nz_3, nz_4, nz_5, nz_6, nz_7, nz_8, hv0, ib_h0, rT_h0, q_Hold_ownersOf_1 hc]
set_option maxRecDepth 100000 in
set_option maxHeartbeats 400000 in
theorem r_Ps_ownersOnAll_1 {c : Nat} (hc : isChap c) {k4 : Nat → Int32 → Int32 → hm_M → Option (Int32 × hm_M)} {K4 : Int32 → Int32 → hn → Option (Int32 × hn)} (hk4 : ∀ (v1 : Int32) (v2 : Int32) (N : hn), k4 1 v1 v2 (N.1, N.2, rT c) = em c (K4 v1 v2 N)) {v1 : Int32} {v2 : Int32} {N : hn} : b_Ps_ownersOnAll_1 S0 k4 1 v1 v2 (N.1, N.2, rT c) = em c (B_Ps_ownersOnAll_1 c K4 v1 v2 N) := by
  unfold b_Ps_ownersOnAll_1 B_Ps_ownersOnAll_1
  try simp only [my_ite, my_hg]
  simp only [hl_n', hl_wI', hl_wL', hl_cp', em_s', em_n', em_my, em_l', em_b, em_v, emv_s', emv_n', emv_my, emv_l', emv_b, emv_v, hb_em, hv_em, my_T, my_F, ne_eq, not_false_eq_true, nz_c, S0_c, S0_lw, S0_h, isHold_36, hc, hc.d, hc.l, hc.d.l, nz_1, nz_2, nz_3, nz_4, nz_5, nz_6, nz_7, nz_8, S0_1, S0_19, S0_36, S0_55, q_Hold_lit hc, q_Hold_ownersOf hc, q_Light_panesOn hc, q_Walk_passes hc, rT_1_1, rT_1_2, rT_1_7, hk4]
theorem q_Ps_ownersOnAll_1 {c : Nat} (hc : isChap c) : ∀ (n : Nat) (v1 : Int32) (v2 : Int32) (N : hn), f_Ps_ownersOnAll_1 S0 n 1 v1 v2 (N.1, N.2, rT c) = em c (F_Ps_ownersOnAll_1 c n v1 v2 N) := by
  intro n
  induction n with
  | zero => intros; rfl
  | succ n ih => intro v1 v2 N ; exact r_Ps_ownersOnAll_1 hc  ih
set_option maxRecDepth 100000 in
set_option maxHeartbeats 400000 in
theorem q_Ps_ownersOnAll {c : Nat} (hc : isChap c) {N : hn} : f_Ps_ownersOnAll S0 1 (N.1, N.2, rT c) = em c (F_Ps_ownersOnAll c N) := by
  unfold f_Ps_ownersOnAll F_Ps_ownersOnAll
  try simp only [my_ite, my_hg]
  simp only [hl_n', hl_wI', hl_wL', hl_cp', em_s', em_n', em_my, em_l', em_b, em_v, emv_s', emv_n', emv_my, emv_l', emv_b, emv_v, hb_em, hv_em, my_T, my_F, ne_eq, not_false_eq_true, nz_c, S0_c, S0_lw, S0_h, isHold_36, hc, hc.d, hc.l, hc.d.l, nz_1, nz_2, nz_3, nz_4, nz_5, nz_6, nz_7, nz_8, S0_1, S0_19, S0_36, S0_55, q_Hold_lit hc, q_Hold_ownersOf hc, q_Light_panesOn hc, q_Walk_passes hc, rT_1_1, rT_1_2, rT_1_7, q_Ps_ownersOnAll_1 hc]
set_option maxRecDepth 100000 in
set_option maxHeartbeats 400000 in
theorem q_Ps_ownersOnSome_2 {c : Nat} (hc : isChap c) {k4 : Nat → Int32 → Int32 → hm_M → Option (Int32 × hm_M)} {K4 : Int32 → Int32 → hn → Option (Int32 × hn)} (hk4 : ∀ (v1 : Int32) (v2 : Int32) (N : hn), k4 1 v1 v2 (N.1, N.2, rT c) = em c (K4 v1 v2 N)) {v2 : Int32} {s0 : Int32} {N : hn} : b_Ps_ownersOnSome_2 S0 k4 1 v2 s0 (N.1, N.2, rT c) = em c (B_Ps_ownersOnSome_2 c K4 v2 s0 N) := by
  unfold b_Ps_ownersOnSome_2 B_Ps_ownersOnSome_2
  try simp only [my_ite, my_hg]
  simp only [hl_n', hl_wI', hl_wL', hl_cp', em_s', em_n', em_my, em_l', em_b, em_v, emv_s', emv_n', emv_my, emv_l', emv_b, emv_v, hb_em, hv_em, my_T, my_F, ne_eq, not_false_eq_true, nz_c, S0_c, S0_lw, S0_h, isHold_36, hc, hc.d, hc.l, hc.d.l, nz_1, nz_2, nz_3, nz_4, nz_5, nz_6, nz_7, nz_8, S0_1, S0_19, S0_36, S0_55, q_Hold_lit hc, q_Hold_ownersOf hc, q_Light_panesOn hc, q_Walk_passes hc, rT_1_1, rT_1_2, rT_1_7, hk4]
set_option maxRecDepth 100000 in
set_option maxHeartbeats 400000 in
theorem r_Ps_ownersOnSome_1 {c : Nat} (hc : isChap c) {k4 : Nat → Int32 → Int32 → hm_M → Option (Int32 × hm_M)} {K4 : Int32 → Int32 → hn → Option (Int32 × hn)} (hk4 : ∀ (v1 : Int32) (v2 : Int32) (N : hn), k4 1 v1 v2 (N.1, N.2, rT c) = em c (K4 v1 v2 N)) {v1 : Int32} {v2 : Int32} {N : hn} : b_Ps_ownersOnSome_1 S0 k4 1 v1 v2 (N.1, N.2, rT c) = em c (B_Ps_ownersOnSome_1 c K4 v1 v2 N) := by
  unfold b_Ps_ownersOnSome_1 B_Ps_ownersOnSome_1
  try simp only [my_ite, my_hg]
  simp only [hl_n', hl_wI', hl_wL', hl_cp', em_s', em_n', em_my, em_l', em_b, em_v, emv_s', emv_n', emv_my, emv_l', emv_b, emv_v, hb_em, hv_em, my_T, my_F, ne_eq, not_false_eq_true, nz_c, S0_c, S0_lw, S0_h, isHold_36, hc, hc.d, hc.l, hc.d.l, nz_1, nz_2, nz_3, nz_4, nz_5, nz_6, nz_7, nz_8, S0_1, S0_19, S0_36, S0_55, q_Hold_lit hc, q_Hold_ownersOf hc, q_Light_panesOn hc, q_Walk_passes hc, rT_1_1, rT_1_2, rT_1_7, hk4, q_Ps_ownersOnSome_2 hc hk4]
theorem q_Ps_ownersOnSome_1 {c : Nat} (hc : isChap c) : ∀ (n : Nat) (v1 : Int32) (v2 : Int32) (N : hn), f_Ps_ownersOnSome_1 S0 n 1 v1 v2 (N.1, N.2, rT c) = em c (F_Ps_ownersOnSome_1 c n v1 v2 N) := by
  intro n
  induction n with
  | zero => intros; rfl
  | succ n ih => intro v1 v2 N ; exact r_Ps_ownersOnSome_1 hc  ih
set_option maxRecDepth 100000 in
set_option maxHeartbeats 400000 in
theorem q_Ps_ownersOnSome {c : Nat} (hc : isChap c) {N : hn} : f_Ps_ownersOnSome S0 1 (N.1, N.2, rT c) = em c (F_Ps_ownersOnSome c N) := by
  unfold f_Ps_ownersOnSome F_Ps_ownersOnSome
  try simp only [my_ite, my_hg]
  simp only [hl_n', hl_wI', hl_wL', hl_cp', em_s', em_n', em_my, em_l', em_b, em_v, emv_s', emv_n', emv_my, emv_l', emv_b, emv_v, hb_em, hv_em, my_T, my_F, ne_eq, not_false_eq_true, nz_c, S0_c, S0_lw, S0_h, isHold_36, hc, hc.d, hc.l, hc.d.l, nz_1, nz_2, nz_3, nz_4, nz_5, nz_6, nz_7, nz_8, S0_1, S0_19, S0_36, S0_55, q_Hold_lit hc, q_Hold_ownersOf hc, q_Light_panesOn hc, q_Walk_passes hc, rT_1_1, rT_1_2, rT_1_7, q_Ps_ownersOnSome_1 hc]
set_option maxRecDepth 100000 in
set_option maxHeartbeats 400000 in
theorem q_Ps_pane {c : Nat} (hc : isChap c) {v1 : Int32} {v2 : Int32} {N : hn} : f_Ps_pane S0 1 v1 v2 (N.1, N.2, rT c) = em c (F_Ps_pane c v1 v2 N) := by
  unfold f_Ps_pane F_Ps_pane
  try simp only [my_ite, my_hg]
  simp only [hl_n', hl_wI', hl_wL', hl_cp', em_s', em_n', em_my, em_l', em_b, em_v, emv_s', emv_n', emv_my, emv_l', emv_b, emv_v, hb_em, hv_em, my_T, my_F, ne_eq, not_false_eq_true, nz_c, S0_c, S0_lw, S0_h, isHold_36, hc, hc.d, hc.l, hc.d.l, nz_1, nz_2, nz_3, nz_4, nz_5, nz_6, nz_7, nz_8, S0_1, S0_19, S0_36, ib_c11, ib_c8, ib_c9, ib_h0, q_Hold_isBroken hc, q_Ps_isPane hc, rT_19_0, rT_1_1, rT_1_2, rT_c11, rT_c8, rT_c9, rT_h0]
set_option maxRecDepth 100000 in
set_option maxHeartbeats 400000 in
theorem q_Ps_place {c : Nat} (hc : isChap c) {v1 : Int32} {v2 : Int32} {v3 : Int32} {v4 : Int32} {v5 : Int32} {N : hn} : f_Ps_place S0 1 v1 v2 v3 v4 v5 (N.1, N.2, rT c) = em c (F_Ps_place c v1 v2 v3 v4 v5 N) := by
  unfold f_Ps_place F_Ps_place
  try simp only [my_ite, my_hg]
  simp only [hl_n', hl_wI', hl_wL', hl_cp', em_s', em_n', em_my, em_l', em_b, em_v, emv_s', emv_n', emv_my, emv_l', emv_b, emv_v, hb_em, hv_em, my_T, my_F, ne_eq, not_false_eq_true, nz_c, S0_c, S0_lw, S0_h, isHold_36, hc, hc.d, hc.l, hc.d.l, nz_1, nz_2, nz_3, nz_4, nz_5, nz_6, nz_7, nz_8, S0_1, S0_19, S0_36, q_Chapel_colourOf hc, q_Chapel_hasPlace hc, q_Hold_lit hc, q_Hold_ownersOf hc, q_J6_bitCount_0f7a4 hc, q_Light_panesOn hc, q_Light_turnTo hc, q_Ps_isTime hc, q_Ps_placeOf hc, q_Ps_timeOf hc, rT_19_0, rT_1_1, rT_1_2]
set_option maxRecDepth 100000 in
set_option maxHeartbeats 400000 in
theorem q_Ps_rents {c : Nat} (hc : isChap c) {v1 : Int32} {N : hn} : f_Ps_rents S0 1 v1 (N.1, N.2, rT c) = em c (F_Ps_rents c v1 N) := by
  unfold f_Ps_rents F_Ps_rents
  try simp only [my_ite, my_hg]
  simp only [hl_n', hl_wI', hl_wL', hl_cp', em_s', em_n', em_my, em_l', em_b, em_v, emv_s', emv_n', emv_my, emv_l', emv_b, emv_v, hb_em, hv_em, my_T, my_F, ne_eq, not_false_eq_true, nz_c, S0_c, S0_lw, S0_h, isHold_36, hc, hc.d, hc.l, hc.d.l, nz_1, nz_2, nz_3, nz_4, nz_5, nz_6, nz_7, nz_8, S0_1, S0_36, S0_43, q_Hold_panesOf hc, q_Ps_isGuild hc, q_Ps_yearNow hc, q_Rents_givenBy hc, rT_1_2, rT_1_4]
set_option maxRecDepth 100000 in
set_option maxHeartbeats 400000 in
theorem q_Hold_keepSeen {c : Nat} (hc : isChap c) {v0 : Nat} {v1 : Int32} {v2 : Int32} (hv0 : isHold v0) {N : hn} : f_Hold_keepSeen S0 v0 v1 v2 (N.1, N.2, rT c) = em c (F_Hold_keepSeen c v0 v1 v2 N) := by
  unfold f_Hold_keepSeen F_Hold_keepSeen
  try simp only [my_ite, my_hg]
  simp only [hl_n', hl_wI', hl_wL', hl_cp', em_s', em_n', em_my, em_l', em_b, em_v, emv_s', emv_n', emv_my, emv_l', emv_b, emv_v, hb_em, hv_em, my_T, my_F, ne_eq, not_false_eq_true, nz_c, S0_c, S0_lw, S0_h, isHold_36, hc, hc.d, hc.l, hc.d.l, nz_1, nz_2, nz_3, nz_4, nz_5, nz_6, nz_7, nz_8, hv0, ib_h3, ib_h4, rT_h3, rT_h4]
set_option maxRecDepth 100000 in
set_option maxHeartbeats 400000 in
theorem q_Ps_see {c : Nat} (hc : isChap c) {v1 : Int32} {v2 : Int32} {v3 : Int32} {N : hn} : f_Ps_see S0 1 v1 v2 v3 (N.1, N.2, rT c) = em c (F_Ps_see c v1 v2 v3 N) := by
  unfold f_Ps_see F_Ps_see
  try simp only [my_ite, my_hg]
  simp only [hl_n', hl_wI', hl_wL', hl_cp', em_s', em_n', em_my, em_l', em_b, em_v, emv_s', emv_n', emv_my, emv_l', emv_b, emv_v, hb_em, hv_em, my_T, my_F, ne_eq, not_false_eq_true, nz_c, S0_c, S0_lw, S0_h, isHold_36, hc, hc.d, hc.l, hc.d.l, nz_1, nz_2, nz_3, nz_4, nz_5, nz_6, nz_7, nz_8, S0_1, S0_19, S0_36, q_Chapel_hasPlace hc, q_Hold_keepSeen hc, q_Ps_placeOf hc, rT_19_0, rT_1_1, rT_1_2]
set_option maxRecDepth 100000 in
set_option maxHeartbeats 400000 in
theorem q_Ps_spot {c : Nat} (hc : isChap c) {v1 : Int32} {v2 : Int32} {v3 : Int32} {N : hn} : f_Ps_spot S0 1 v1 v2 v3 (N.1, N.2, rT c) = em c (F_Ps_spot c v1 v2 v3 N) := by
  unfold f_Ps_spot F_Ps_spot
  try simp only [my_ite, my_hg]
  simp only [hl_n', hl_wI', hl_wL', hl_cp', em_s', em_n', em_my, em_l', em_b, em_v, emv_s', emv_n', emv_my, emv_l', emv_b, emv_v, hb_em, hv_em, my_T, my_F, ne_eq, not_false_eq_true, nz_c, S0_c, S0_lw, S0_h, isHold_36, hc, hc.d, hc.l, hc.d.l, nz_1, nz_2, nz_3, nz_4, nz_5, nz_6, nz_7, nz_8, S0_1, S0_19, S0_36, ib_34, q_Hold_isBroken hc, q_Light_turnTo hc, q_Ps_isPane hc, q_Ps_isTime hc, q_Ps_timeOf hc, rT_19_1, rT_1_1, rT_1_2]
set_option maxRecDepth 100000 in
set_option maxHeartbeats 400000 in
theorem q_Walk_keepColoured_2 {c : Nat} (hc : isChap c) {k22 : Nat → Int32 → Nat → Int32 → Int32 → hm_M → Option hm_M} {K22 : Int32 → Nat → Int32 → Int32 → hn → Option hn} (hk22 : ∀ (v1 : Int32) (v5 : Nat) (v6 : Int32) (v7 : Int32) (N : hn), k22 19 v1 v5 v6 v7 (N.1, N.2, rT c) = emv c (K22 v1 v5 v6 v7 N)) {v1 : Int32} {v5 : Nat} {v6 : Int32} {v7 : Int32} {N : hn} : b_Walk_keepColoured_2 S0 k22 19 v1 v5 v6 v7 (N.1, N.2, rT c) = emv c (B_Walk_keepColoured_2 c K22 v1 v5 v6 v7 N) := by
  unfold b_Walk_keepColoured_2 B_Walk_keepColoured_2
  try simp only [my_ite, my_hg]
  simp only [hl_n', hl_wI', hl_wL', hl_cp', em_s', em_n', em_my, em_l', em_b, em_v, emv_s', emv_n', emv_my, emv_l', emv_b, emv_v, hb_em, hv_em, my_T, my_F, ne_eq, not_false_eq_true, nz_c, S0_c, S0_lw, S0_h, isHold_36, hc, hc.d, hc.l, hc.d.l, nz_1, nz_2, nz_3, nz_4, nz_5, nz_6, nz_7, nz_8, S0_19, S0_55, q_Chapel_hasPlace hc, q_Light_colourOn hc, q_Light_turnTo hc, rT_19_0, hk22]
set_option maxRecDepth 100000 in
set_option maxHeartbeats 400000 in
theorem r_Walk_keepColoured_1 {c : Nat} (hc : isChap c) {k22 : Nat → Int32 → Nat → Int32 → Int32 → hm_M → Option hm_M} {K22 : Int32 → Nat → Int32 → Int32 → hn → Option hn} (hk22 : ∀ (v1 : Int32) (v5 : Nat) (v6 : Int32) (v7 : Int32) (N : hn), k22 19 v1 v5 v6 v7 (N.1, N.2, rT c) = emv c (K22 v1 v5 v6 v7 N)) {v1 : Int32} {v5 : Nat} {v6 : Int32} {v7 : Int32} {N : hn} : b_Walk_keepColoured_1 S0 k22 19 v1 v5 v6 v7 (N.1, N.2, rT c) = emv c (B_Walk_keepColoured_1 c K22 v1 v5 v6 v7 N) := by
  unfold b_Walk_keepColoured_1 B_Walk_keepColoured_1
  try simp only [my_ite, my_hg]
  simp only [hl_n', hl_wI', hl_wL', hl_cp', em_s', em_n', em_my, em_l', em_b, em_v, emv_s', emv_n', emv_my, emv_l', emv_b, emv_v, hb_em, hv_em, my_T, my_F, ne_eq, not_false_eq_true, nz_c, S0_c, S0_lw, S0_h, isHold_36, hc, hc.d, hc.l, hc.d.l, nz_1, nz_2, nz_3, nz_4, nz_5, nz_6, nz_7, nz_8, S0_19, S0_55, q_Chapel_hasPlace hc, q_Light_colourOn hc, q_Light_turnTo hc, rT_19_0, hk22, q_Walk_keepColoured_2 hc hk22]
theorem q_Walk_keepColoured_1 {c : Nat} (hc : isChap c) : ∀ (n : Nat) (v1 : Int32) (v5 : Nat) (v6 : Int32) (v7 : Int32) (N : hn), f_Walk_keepColoured_1 S0 n 19 v1 v5 v6 v7 (N.1, N.2, rT c) = emv c (F_Walk_keepColoured_1 c n v1 v5 v6 v7 N) := by
  intro n
  induction n with
  | zero => intros; rfl
  | succ n ih => intro v1 v5 v6 v7 N ; exact r_Walk_keepColoured_1 hc  ih
set_option maxRecDepth 100000 in
set_option maxHeartbeats 400000 in
theorem q_Walk_keepColoured {c : Nat} (hc : isChap c) {v1 : Int32} {v2 : Int32} {v3 : Int32} {v4 : Int32} {v5 : Nat} {N : hn} : f_Walk_keepColoured S0 19 v1 v2 v3 v4 v5 (N.1, N.2, rT c) = emv c (F_Walk_keepColoured c v1 v2 v3 v4 v5 N) := by
  unfold f_Walk_keepColoured F_Walk_keepColoured
  try simp only [my_ite, my_hg]
  simp only [hl_n', hl_wI', hl_wL', hl_cp', em_s', em_n', em_my, em_l', em_b, em_v, emv_s', emv_n', emv_my, emv_l', emv_b, emv_v, hb_em, hv_em, my_T, my_F, ne_eq, not_false_eq_true, nz_c, S0_c, S0_lw, S0_h, isHold_36, hc, hc.d, hc.l, hc.d.l, nz_1, nz_2, nz_3, nz_4, nz_5, nz_6, nz_7, nz_8, S0_19, S0_55, q_Chapel_hasPlace hc, q_Light_colourOn hc, q_Light_turnTo hc, rT_19_0, q_Walk_keepColoured_1 hc]
set_option maxRecDepth 100000 in
set_option maxHeartbeats 400000 in
theorem q_Walk_waysAround_4 {c : Nat} (hc : isChap c) {s0 : Int32} {s1 : Int32} {N : hn} : b_Walk_waysAround_4 S0 s0 s1 (N.1, N.2, rT c) = em c (B_Walk_waysAround_4 c s0 s1 N) := by
  unfold b_Walk_waysAround_4 B_Walk_waysAround_4
  try simp only [my_ite, my_hg]
  simp only [hl_n', hl_wI', hl_wL', hl_cp', em_s', em_n', em_my, em_l', em_b, em_v, emv_s', emv_n', emv_my, emv_l', emv_b, emv_v, hb_em, hv_em, my_T, my_F, ne_eq, not_false_eq_true, nz_c, S0_c, S0_lw, S0_h, isHold_36, hc, hc.d, hc.l, hc.d.l, nz_1, nz_2, nz_3, nz_4, nz_5, nz_6, nz_7, nz_8, S0_55]
set_option maxRecDepth 100000 in
set_option maxHeartbeats 400000 in
theorem q_Walk_waysAround_3 {c : Nat} (hc : isChap c) {v0 : Nat} {v1 : Int32} {s0 : Int32} {s1 : Int32} {N : hn} : b_Walk_waysAround_3 S0 v0 v1 s0 s1 (N.1, N.2, rT c) = em c (B_Walk_waysAround_3 c v0 v1 s0 s1 N) := by
  unfold b_Walk_waysAround_3 B_Walk_waysAround_3
  try simp only [my_ite, my_hg]
  simp only [hl_n', hl_wI', hl_wL', hl_cp', em_s', em_n', em_my, em_l', em_b, em_v, emv_s', emv_n', emv_my, emv_l', emv_b, emv_v, hb_em, hv_em, my_T, my_F, ne_eq, not_false_eq_true, nz_c, S0_c, S0_lw, S0_h, isHold_36, hc, hc.d, hc.l, hc.d.l, nz_1, nz_2, nz_3, nz_4, nz_5, nz_6, nz_7, nz_8, S0_55, q_Walk_waysAround_4 hc]
set_option maxRecDepth 100000 in
set_option maxHeartbeats 400000 in
theorem q_Walk_waysAround_2 {c : Nat} (hc : isChap c) {v0 : Nat} {v1 : Int32} {s0 : Int32} {s1 : Int32} {N : hn} : b_Walk_waysAround_2 S0 v0 v1 s0 s1 (N.1, N.2, rT c) = em c (B_Walk_waysAround_2 c v0 v1 s0 s1 N) := by
  unfold b_Walk_waysAround_2 B_Walk_waysAround_2
  try simp only [my_ite, my_hg]
  simp only [hl_n', hl_wI', hl_wL', hl_cp', em_s', em_n', em_my, em_l', em_b, em_v, emv_s', emv_n', emv_my, emv_l', emv_b, emv_v, hb_em, hv_em, my_T, my_F, ne_eq, not_false_eq_true, nz_c, S0_c, S0_lw, S0_h, isHold_36, hc, hc.d, hc.l, hc.d.l, nz_1, nz_2, nz_3, nz_4, nz_5, nz_6, nz_7, nz_8, S0_55, q_Walk_waysAround_4 hc, q_Walk_waysAround_3 hc]
set_option maxRecDepth 100000 in
set_option maxHeartbeats 400000 in
theorem q_Walk_waysAround_1 {c : Nat} (hc : isChap c) {v0 : Nat} {v1 : Int32} {s0 : Int32} {s1 : Int32} {N : hn} : b_Walk_waysAround_1 S0 v0 v1 s0 s1 (N.1, N.2, rT c) = em c (B_Walk_waysAround_1 c v0 v1 s0 s1 N) := by
  unfold b_Walk_waysAround_1 B_Walk_waysAround_1
  try simp only [my_ite, my_hg]
  simp only [hl_n', hl_wI', hl_wL', hl_cp', em_s', em_n', em_my, em_l', em_b, em_v, emv_s', emv_n', emv_my, emv_l', emv_b, emv_v, hb_em, hv_em, my_T, my_F, ne_eq, not_false_eq_true, nz_c, S0_c, S0_lw, S0_h, isHold_36, hc, hc.d, hc.l, hc.d.l, nz_1, nz_2, nz_3, nz_4, nz_5, nz_6, nz_7, nz_8, S0_55, q_Walk_waysAround_4 hc, q_Walk_waysAround_3 hc, q_Walk_waysAround_2 hc]
set_option maxRecDepth 100000 in
set_option maxHeartbeats 400000 in
theorem q_Walk_waysAround {c : Nat} (hc : isChap c) {v0 : Nat} {v1 : Int32} {N : hn} : f_Walk_waysAround S0 v0 v1 (N.1, N.2, rT c) = em c (F_Walk_waysAround c v0 v1 N) := by
  unfold f_Walk_waysAround F_Walk_waysAround
  try simp only [my_ite, my_hg]
  simp only [hl_n', hl_wI', hl_wL', hl_cp', em_s', em_n', em_my, em_l', em_b, em_v, emv_s', emv_n', emv_my, emv_l', emv_b, emv_v, hb_em, hv_em, my_T, my_F, ne_eq, not_false_eq_true, nz_c, S0_c, S0_lw, S0_h, isHold_36, hc, hc.d, hc.l, hc.d.l, nz_1, nz_2, nz_3, nz_4, nz_5, nz_6, nz_7, nz_8, S0_55, q_Walk_waysAround_1 hc, q_Walk_waysAround_2 hc, q_Walk_waysAround_3 hc, q_Walk_waysAround_4 hc]
set_option maxRecDepth 100000 in
set_option maxHeartbeats 400000 in
theorem r_Walk_go_3 {c : Nat} (hc : isChap c) {k35 : Nat → Nat → Int32 → Int32 → Int32 → Int32 → Int32 → Nat → Int32 → Int32 → hm_M → Option hm_M} {K35 : Int32 → Int32 → Int32 → Int32 → Int32 → Nat → Int32 → Int32 → hn → Option hn} (hk35 : ∀ (v2 : Int32) (v3 : Int32) (v4 : Int32) (v5 : Int32) (v6 : Int32) (v7 : Nat) (v8 : Int32) (v9 : Int32) (N : hn), k35 55 19 v2 v3 v4 v5 v6 v7 v8 v9 (N.1, N.2, rT c) = emv c (K35 v2 v3 v4 v5 v6 v7 v8 v9 N)) {k51 : Nat → Nat → Int32 → Int32 → Int32 → Int32 → Int32 → Nat → Int32 → Int32 → Int32 → hm_M → Option hm_M} {K51 : Int32 → Int32 → Int32 → Int32 → Int32 → Nat → Int32 → Int32 → Int32 → hn → Option hn} (hk51 : ∀ (v2 : Int32) (v3 : Int32) (v4 : Int32) (v5 : Int32) (v6 : Int32) (v7 : Nat) (v8 : Int32) (v9 : Int32) (v10 : Int32) (N : hn), k51 55 19 v2 v3 v4 v5 v6 v7 v8 v9 v10 (N.1, N.2, rT c) = emv c (K51 v2 v3 v4 v5 v6 v7 v8 v9 v10 N)) {v2 : Int32} {v3 : Int32} {v4 : Int32} {v5 : Int32} {v6 : Int32} {v7 : Nat} {v8 : Int32} {v9 : Int32} {v10 : Int32} {N : hn} : b_Walk_go_3 S0 k35 k51 55 19 v2 v3 v4 v5 v6 v7 v8 v9 v10 (N.1, N.2, rT c) = emv c (B_Walk_go_3 c K35 K51 v2 v3 v4 v5 v6 v7 v8 v9 v10 N) := by
  unfold b_Walk_go_3 B_Walk_go_3
  try simp only [my_ite, my_hg]
  simp only [hl_n', hl_wI', hl_wL', hl_cp', em_s', em_n', em_my, em_l', em_b, em_v, emv_s', emv_n', emv_my, emv_l', emv_b, emv_v, hb_em, hv_em, my_T, my_F, ne_eq, not_false_eq_true, nz_c, S0_c, S0_lw, S0_h, isHold_36, hc, hc.d, hc.l, hc.d.l, nz_1, nz_2, nz_3, nz_4, nz_5, nz_6, nz_7, nz_8, S0_55, ib_58, q_J7_fill_53178 hc, q_Walk_keepColoured hc, q_Walk_waysAround hc, rT_55_2, hk35, hk51]
theorem q_Walk_go_3 {c : Nat} (hc : isChap c) {k35 : Nat → Nat → Int32 → Int32 → Int32 → Int32 → Int32 → Nat → Int32 → Int32 → hm_M → Option hm_M} {K35 : Int32 → Int32 → Int32 → Int32 → Int32 → Nat → Int32 → Int32 → hn → Option hn} (hk35 : ∀ (v2 : Int32) (v3 : Int32) (v4 : Int32) (v5 : Int32) (v6 : Int32) (v7 : Nat) (v8 : Int32) (v9 : Int32) (N : hn), k35 55 19 v2 v3 v4 v5 v6 v7 v8 v9 (N.1, N.2, rT c) = emv c (K35 v2 v3 v4 v5 v6 v7 v8 v9 N)) : ∀ (n : Nat) (v2 : Int32) (v3 : Int32) (v4 : Int32) (v5 : Int32) (v6 : Int32) (v7 : Nat) (v8 : Int32) (v9 : Int32) (v10 : Int32) (N : hn), f_Walk_go_3 S0 k35 n 55 19 v2 v3 v4 v5 v6 v7 v8 v9 v10 (N.1, N.2, rT c) = emv c (F_Walk_go_3 c K35 n v2 v3 v4 v5 v6 v7 v8 v9 v10 N) := by
  intro n
  induction n with
  | zero => intros; rfl
  | succ n ih => intro v2 v3 v4 v5 v6 v7 v8 v9 v10 N ; exact r_Walk_go_3 hc hk35 ih
set_option maxRecDepth 100000 in
set_option maxHeartbeats 400000 in
theorem r_Walk_go_2 {c : Nat} (hc : isChap c) {k35 : Nat → Nat → Int32 → Int32 → Int32 → Int32 → Int32 → Nat → Int32 → Int32 → hm_M → Option hm_M} {K35 : Int32 → Int32 → Int32 → Int32 → Int32 → Nat → Int32 → Int32 → hn → Option hn} (hk35 : ∀ (v2 : Int32) (v3 : Int32) (v4 : Int32) (v5 : Int32) (v6 : Int32) (v7 : Nat) (v8 : Int32) (v9 : Int32) (N : hn), k35 55 19 v2 v3 v4 v5 v6 v7 v8 v9 (N.1, N.2, rT c) = emv c (K35 v2 v3 v4 v5 v6 v7 v8 v9 N)) {v2 : Int32} {v3 : Int32} {v4 : Int32} {v5 : Int32} {v6 : Int32} {v7 : Nat} {v8 : Int32} {v9 : Int32} {N : hn} : b_Walk_go_2 S0 k35 55 19 v2 v3 v4 v5 v6 v7 v8 v9 (N.1, N.2, rT c) = emv c (B_Walk_go_2 c K35 v2 v3 v4 v5 v6 v7 v8 v9 N) := by
  unfold b_Walk_go_2 B_Walk_go_2
  try simp only [my_ite, my_hg]
  simp only [hl_n', hl_wI', hl_wL', hl_cp', em_s', em_n', em_my, em_l', em_b, em_v, emv_s', emv_n', emv_my, emv_l', emv_b, emv_v, hb_em, hv_em, my_T, my_F, ne_eq, not_false_eq_true, nz_c, S0_c, S0_lw, S0_h, isHold_36, hc, hc.d, hc.l, hc.d.l, nz_1, nz_2, nz_3, nz_4, nz_5, nz_6, nz_7, nz_8, S0_55, ib_58, q_J7_fill_53178 hc, q_Walk_keepColoured hc, q_Walk_waysAround hc, rT_55_2, hk35, q_Walk_go_3 hc hk35]
theorem q_Walk_go_2 {c : Nat} (hc : isChap c) : ∀ (n : Nat) (v2 : Int32) (v3 : Int32) (v4 : Int32) (v5 : Int32) (v6 : Int32) (v7 : Nat) (v8 : Int32) (v9 : Int32) (N : hn), f_Walk_go_2 S0 n 55 19 v2 v3 v4 v5 v6 v7 v8 v9 (N.1, N.2, rT c) = emv c (F_Walk_go_2 c n v2 v3 v4 v5 v6 v7 v8 v9 N) := by
  intro n
  induction n with
  | zero => intros; rfl
  | succ n ih => intro v2 v3 v4 v5 v6 v7 v8 v9 N ; exact r_Walk_go_2 hc  ih
set_option maxRecDepth 100000 in
set_option maxHeartbeats 400000 in
theorem q_Walk_go_1 {c : Nat} (hc : isChap c) {v2 : Int32} {v3 : Int32} {v4 : Int32} {v5 : Int32} {v6 : Int32} {v7 : Nat} {s0 : Int32} {N : hn} : b_Walk_go_1 S0 55 19 v2 v3 v4 v5 v6 v7 s0 (N.1, N.2, rT c) = emv c (B_Walk_go_1 c v2 v3 v4 v5 v6 v7 s0 N) := by
  unfold b_Walk_go_1 B_Walk_go_1
  try simp only [my_ite, my_hg]
  simp only [hl_n', hl_wI', hl_wL', hl_cp', em_s', em_n', em_my, em_l', em_b, em_v, emv_s', emv_n', emv_my, emv_l', emv_b, emv_v, hb_em, hv_em, my_T, my_F, ne_eq, not_false_eq_true, nz_c, S0_c, S0_lw, S0_h, isHold_36, hc, hc.d, hc.l, hc.d.l, nz_1, nz_2, nz_3, nz_4, nz_5, nz_6, nz_7, nz_8, S0_55, ib_58, q_J7_fill_53178 hc, q_Walk_keepColoured hc, q_Walk_waysAround hc, rT_55_2, q_Walk_go_2 hc]
set_option maxRecDepth 100000 in
set_option maxHeartbeats 400000 in
theorem q_Walk_go {c : Nat} (hc : isChap c) {v2 : Int32} {v3 : Int32} {v4 : Int32} {v5 : Int32} {v6 : Int32} {v7 : Nat} {N : hn} : f_Walk_go S0 55 19 v2 v3 v4 v5 v6 v7 (N.1, N.2, rT c) = emv c (F_Walk_go c v2 v3 v4 v5 v6 v7 N) := by
  unfold f_Walk_go F_Walk_go
  try simp only [my_ite, my_hg]
  simp only [hl_n', hl_wI', hl_wL', hl_cp', em_s', em_n', em_my, em_l', em_b, em_v, emv_s', emv_n', emv_my, emv_l', emv_b, emv_v, hb_em, hv_em, my_T, my_F, ne_eq, not_false_eq_true, nz_c, S0_c, S0_lw, S0_h, isHold_36, hc, hc.d, hc.l, hc.d.l, nz_1, nz_2, nz_3, nz_4, nz_5, nz_6, nz_7, nz_8, S0_55, ib_58, q_J7_fill_53178 hc, q_Walk_keepColoured hc, q_Walk_waysAround hc, rT_55_2, q_Walk_go_1 hc, q_Walk_go_2 hc]
set_option maxRecDepth 100000 in
set_option maxHeartbeats 400000 in
theorem r_Walk_rowsOf_1 {c : Nat} (hc : isChap c) {k24 : Nat → Int32 → Int32 → hm_M → Option (Int32 × hm_M)} {K24 : Int32 → Int32 → hn → Option (Int32 × hn)} (hk24 : ∀ (v6 : Int32) (v7 : Int32) (N : hn), k24 55 v6 v7 (N.1, N.2, rT c) = em c (K24 v6 v7 N)) {v6 : Int32} {v7 : Int32} {N : hn} : b_Walk_rowsOf_1 S0 k24 55 v6 v7 (N.1, N.2, rT c) = em c (B_Walk_rowsOf_1 c K24 v6 v7 N) := by
  unfold b_Walk_rowsOf_1 B_Walk_rowsOf_1
  try simp only [my_ite, my_hg]
  simp only [hl_n', hl_wI', hl_wL', hl_cp', em_s', em_n', em_my, em_l', em_b, em_v, emv_s', emv_n', emv_my, emv_l', emv_b, emv_v, hb_em, hv_em, my_T, my_F, ne_eq, not_false_eq_true, nz_c, S0_c, S0_lw, S0_h, isHold_36, hc, hc.d, hc.l, hc.d.l, nz_1, nz_2, nz_3, nz_4, nz_5, nz_6, nz_7, nz_8, S0_55, ib_56, q_Walk_go hc, rT_55_0, hk24]
theorem q_Walk_rowsOf_1 {c : Nat} (hc : isChap c) : ∀ (n : Nat) (v6 : Int32) (v7 : Int32) (N : hn), f_Walk_rowsOf_1 S0 n 55 v6 v7 (N.1, N.2, rT c) = em c (F_Walk_rowsOf_1 c n v6 v7 N) := by
  intro n
  induction n with
  | zero => intros; rfl
  | succ n ih => intro v6 v7 N ; exact r_Walk_rowsOf_1 hc  ih
set_option maxRecDepth 100000 in
set_option maxHeartbeats 400000 in
theorem q_Walk_rowsOf {c : Nat} (hc : isChap c) {v2 : Int32} {v3 : Int32} {v4 : Int32} {v5 : Int32} {N : hn} : f_Walk_rowsOf S0 55 19 v2 v3 v4 v5 (N.1, N.2, rT c) = em c (F_Walk_rowsOf c v2 v3 v4 v5 N) := by
  unfold f_Walk_rowsOf F_Walk_rowsOf
  try simp only [my_ite, my_hg]
  simp only [hl_n', hl_wI', hl_wL', hl_cp', em_s', em_n', em_my, em_l', em_b, em_v, emv_s', emv_n', emv_my, emv_l', emv_b, emv_v, hb_em, hv_em, my_T, my_F, ne_eq, not_false_eq_true, nz_c, S0_c, S0_lw, S0_h, isHold_36, hc, hc.d, hc.l, hc.d.l, nz_1, nz_2, nz_3, nz_4, nz_5, nz_6, nz_7, nz_8, S0_55, ib_56, q_Walk_go hc, rT_55_0, q_Walk_rowsOf_1 hc]
set_option maxRecDepth 100000 in
set_option maxHeartbeats 400000 in
theorem q_Ps_stains {c : Nat} (hc : isChap c) {v1 : Int32} {v2 : Int32} {v3 : Int32} {v4 : Int32} {N : hn} : f_Ps_stains S0 1 v1 v2 v3 v4 (N.1, N.2, rT c) = em c (F_Ps_stains c v1 v2 v3 v4 N) := by
  unfold f_Ps_stains F_Ps_stains
  try simp only [my_ite, my_hg]
  simp only [hl_n', hl_wI', hl_wL', hl_cp', em_s', em_n', em_my, em_l', em_b, em_v, emv_s', emv_n', emv_my, emv_l', emv_b, emv_v, hb_em, hv_em, my_T, my_F, ne_eq, not_false_eq_true, nz_c, S0_c, S0_lw, S0_h, isHold_36, hc, hc.d, hc.l, hc.d.l, nz_1, nz_2, nz_3, nz_4, nz_5, nz_6, nz_7, nz_8, S0_1, S0_19, S0_36, S0_55, q_Hold_lit hc, q_Ps_isStained hc, q_Ps_timeOf hc, q_Walk_rowsOf hc, rT_1_1, rT_1_2, rT_1_7]
set_option maxRecDepth 100000 in
set_option maxHeartbeats 400000 in
theorem q_Ps_stall {c : Nat} (hc : isChap c) {v1 : Int32} {v2 : Int32} {v3 : Int32} {v4 : Int32} {v5 : Int32} {N : hn} : f_Ps_stall S0 1 v1 v2 v3 v4 v5 (N.1, N.2, rT c) = em c (F_Ps_stall c v1 v2 v3 v4 v5 N) := by
  unfold f_Ps_stall F_Ps_stall
  try simp only [my_ite, my_hg]
  simp only [hl_n', hl_wI', hl_wL', hl_cp', em_s', em_n', em_my, em_l', em_b, em_v, emv_s', emv_n', emv_my, emv_l', emv_b, emv_v, hb_em, hv_em, my_T, my_F, ne_eq, not_false_eq_true, nz_c, S0_c, S0_lw, S0_h, isHold_36, hc, hc.d, hc.l, hc.d.l, nz_1, nz_2, nz_3, nz_4, nz_5, nz_6, nz_7, nz_8, S0_1, S0_19, S0_36, S0_51, ib_54, q_Hold_lit hc, q_Hold_panesOf hc, q_Ps_isGuild hc, q_Ps_isTime hc, q_Ps_timeOf hc, q_Way_find hc, rT_1_1, rT_1_2, rT_1_6, rT_51_2]
set_option maxRecDepth 100000 in
set_option maxHeartbeats 400000 in
theorem q_Walk_meet {c : Nat} (hc : isChap c) {v2 : Int32} {v3 : Int32} {v4 : Int32} {v5 : Int32} {v6 : Int32} {N : hn} : f_Walk_meet S0 55 19 v2 v3 v4 v5 v6 (N.1, N.2, rT c) = emv c (F_Walk_meet c v2 v3 v4 v5 v6 N) := by
  unfold f_Walk_meet F_Walk_meet
  try simp only [my_ite, my_hg]
  simp only [hl_n', hl_wI', hl_wL', hl_cp', em_s', em_n', em_my, em_l', em_b, em_v, emv_s', emv_n', emv_my, emv_l', emv_b, emv_v, hb_em, hv_em, my_T, my_F, ne_eq, not_false_eq_true, nz_c, S0_c, S0_lw, S0_h, isHold_36, hc, hc.d, hc.l, hc.d.l, nz_1, nz_2, nz_3, nz_4, nz_5, nz_6, nz_7, nz_8, S0_55, ib_56, ib_57, q_Walk_go hc, rT_55_0, rT_55_1]
set_option maxRecDepth 100000 in
set_option maxHeartbeats 400000 in
theorem q_Ps_stood {c : Nat} (hc : isChap c) {v1 : Int32} {v2 : Int32} {v3 : Int32} {v4 : Int32} {v5 : Int32} {v6 : Int32} {N : hn} : f_Ps_stood S0 1 v1 v2 v3 v4 v5 v6 (N.1, N.2, rT c) = em c (F_Ps_stood c v1 v2 v3 v4 v5 v6 N) := by
  unfold f_Ps_stood F_Ps_stood
  try simp only [my_ite, my_hg]
  simp only [hl_n', hl_wI', hl_wL', hl_cp', em_s', em_n', em_my, em_l', em_b, em_v, emv_s', emv_n', emv_my, emv_l', emv_b, emv_v, hb_em, hv_em, my_T, my_F, ne_eq, not_false_eq_true, nz_c, S0_c, S0_lw, S0_h, isHold_36, hc, hc.d, hc.l, hc.d.l, nz_1, nz_2, nz_3, nz_4, nz_5, nz_6, nz_7, nz_8, S0_1, S0_19, S0_36, S0_55, q_Hold_lit hc, q_Ps_isStained hc, q_Ps_ownersOnAll hc, q_Ps_ownersOnSome hc, q_Ps_timeOf hc, q_Walk_meet hc, rT_1_1, rT_1_2, rT_1_7]
set_option maxRecDepth 100000 in
set_option maxHeartbeats 400000 in
theorem q_History_takeBack {c : Nat} (hc : isChap c) {v1 : Nat} (hv1 : isHold v1) {N : hn} : f_History_takeBack S0 40 v1 (N.1, N.2, rT c) = em c (F_History_takeBack c v1 N) := by
  unfold f_History_takeBack F_History_takeBack
  try simp only [my_ite, my_hg]
  simp only [hl_n', hl_wI', hl_wL', hl_cp', em_s', em_n', em_my, em_l', em_b, em_v, emv_s', emv_n', emv_my, emv_l', emv_b, emv_v, hb_em, hv_em, my_T, my_F, ne_eq, not_false_eq_true, nz_c, S0_c, S0_lw, S0_h, isHold_36, hc, hc.d, hc.l, hc.d.l, nz_1, nz_2, nz_3, nz_4, nz_5, nz_6, nz_7, nz_8, hv1, S0_40, ib_41, ib_42, q_Hold_swap hc, q_Hold_turn hc, rT_40_0, rT_40_1]
set_option maxRecDepth 100000 in
set_option maxHeartbeats 400000 in
theorem q_Ps_undo {c : Nat} (hc : isChap c) {N : hn} : f_Ps_undo S0 1 (N.1, N.2, rT c) = em c (F_Ps_undo c N) := by
  unfold f_Ps_undo F_Ps_undo
  try simp only [my_ite, my_hg]
  simp only [hl_n', hl_wI', hl_wL', hl_cp', em_s', em_n', em_my, em_l', em_b, em_v, emv_s', emv_n', emv_my, emv_l', emv_b, emv_v, hb_em, hv_em, my_T, my_F, ne_eq, not_false_eq_true, nz_c, S0_c, S0_lw, S0_h, isHold_36, hc, hc.d, hc.l, hc.d.l, nz_1, nz_2, nz_3, nz_4, nz_5, nz_6, nz_7, nz_8, S0_1, S0_36, S0_40, q_History_takeBack hc, rT_1_2, rT_1_3]
set_option maxRecDepth 100000 in
set_option maxHeartbeats 400000 in
theorem q_Ps_when_2 {c : Nat} (hc : isChap c) {k22 : Nat → Int32 → Int32 → Int32 → Int32 → Int32 → hm_M → Option (Int32 × hm_M)} {K22 : Int32 → Int32 → Int32 → Int32 → Int32 → hn → Option (Int32 × hn)} (hk22 : ∀ (v1 : Int32) (v2 : Int32) (v3 : Int32) (v4 : Int32) (v5 : Int32) (N : hn), k22 1 v1 v2 v3 v4 v5 (N.1, N.2, rT c) = em c (K22 v1 v2 v3 v4 v5 N)) {v1 : Int32} {v2 : Int32} {v3 : Int32} {v4 : Int32} {v5 : Int32} {v6 : Int32} {N : hn} : b_Ps_when_2 S0 k22 1 v1 v2 v3 v4 v5 v6 (N.1, N.2, rT c) = em c (B_Ps_when_2 c K22 v1 v2 v3 v4 v5 v6 N) := by
  unfold b_Ps_when_2 B_Ps_when_2
  try simp only [my_ite, my_hg]
  simp only [hl_n', hl_wI', hl_wL', hl_cp', em_s', em_n', em_my, em_l', em_b, em_v, emv_s', emv_n', emv_my, emv_l', emv_b, emv_v, hb_em, hv_em, my_T, my_F, ne_eq, not_false_eq_true, nz_c, S0_c, S0_lw, S0_h, isHold_36, hc, hc.d, hc.l, hc.d.l, nz_1, nz_2, nz_3, nz_4, nz_5, nz_6, nz_7, nz_8, S0_1, q_Ps_candlesAt hc, hk22]
set_option maxRecDepth 100000 in
set_option maxHeartbeats 400000 in
theorem r_Ps_when_1 {c : Nat} (hc : isChap c) {k22 : Nat → Int32 → Int32 → Int32 → Int32 → Int32 → hm_M → Option (Int32 × hm_M)} {K22 : Int32 → Int32 → Int32 → Int32 → Int32 → hn → Option (Int32 × hn)} (hk22 : ∀ (v1 : Int32) (v2 : Int32) (v3 : Int32) (v4 : Int32) (v5 : Int32) (N : hn), k22 1 v1 v2 v3 v4 v5 (N.1, N.2, rT c) = em c (K22 v1 v2 v3 v4 v5 N)) {v1 : Int32} {v2 : Int32} {v3 : Int32} {v4 : Int32} {v5 : Int32} {N : hn} : b_Ps_when_1 S0 k22 1 v1 v2 v3 v4 v5 (N.1, N.2, rT c) = em c (B_Ps_when_1 c K22 v1 v2 v3 v4 v5 N) := by
  unfold b_Ps_when_1 B_Ps_when_1
  try simp only [my_ite, my_hg]
  simp only [hl_n', hl_wI', hl_wL', hl_cp', em_s', em_n', em_my, em_l', em_b, em_v, emv_s', emv_n', emv_my, emv_l', emv_b, emv_v, hb_em, hv_em, my_T, my_F, ne_eq, not_false_eq_true, nz_c, S0_c, S0_lw, S0_h, isHold_36, hc, hc.d, hc.l, hc.d.l, nz_1, nz_2, nz_3, nz_4, nz_5, nz_6, nz_7, nz_8, S0_1, q_Ps_candlesAt hc, hk22, q_Ps_when_2 hc hk22]
theorem q_Ps_when_1 {c : Nat} (hc : isChap c) : ∀ (n : Nat) (v1 : Int32) (v2 : Int32) (v3 : Int32) (v4 : Int32) (v5 : Int32) (N : hn), f_Ps_when_1 S0 n 1 v1 v2 v3 v4 v5 (N.1, N.2, rT c) = em c (F_Ps_when_1 c n v1 v2 v3 v4 v5 N) := by
  intro n
  induction n with
  | zero => intros; rfl
  | succ n ih => intro v1 v2 v3 v4 v5 N ; exact r_Ps_when_1 hc  ih
set_option maxRecDepth 100000 in
set_option maxHeartbeats 400000 in
theorem q_Ps_when {c : Nat} (hc : isChap c) {v1 : Int32} {N : hn} : f_Ps_when S0 1 v1 (N.1, N.2, rT c) = em c (F_Ps_when c v1 N) := by
  unfold f_Ps_when F_Ps_when
  try simp only [my_ite, my_hg]
  simp only [hl_n', hl_wI', hl_wL', hl_cp', em_s', em_n', em_my, em_l', em_b, em_v, emv_s', emv_n', emv_my, emv_l', emv_b, emv_v, hb_em, hv_em, my_T, my_F, ne_eq, not_false_eq_true, nz_c, S0_c, S0_lw, S0_h, isHold_36, hc, hc.d, hc.l, hc.d.l, nz_1, nz_2, nz_3, nz_4, nz_5, nz_6, nz_7, nz_8, S0_1, q_Ps_candlesAt hc, q_Ps_when_1 hc]
set_option maxRecDepth 100000 in
set_option maxHeartbeats 400000 in
theorem q_Ps_worth {c : Nat} (hc : isChap c) {v1 : Int32} {v2 : Int32} {N : hn} : f_Ps_worth S0 1 v1 v2 (N.1, N.2, rT c) = em c (F_Ps_worth c v1 v2 N) := by
  unfold f_Ps_worth F_Ps_worth
  try simp only [my_ite, my_hg]
  simp only [hl_n', hl_wI', hl_wL', hl_cp', em_s', em_n', em_my, em_l', em_b, em_v, emv_s', emv_n', emv_my, emv_l', emv_b, emv_v, hb_em, hv_em, my_T, my_F, ne_eq, not_false_eq_true, nz_c, S0_c, S0_lw, S0_h, isHold_36, hc, hc.d, hc.l, hc.d.l, nz_1, nz_2, nz_3, nz_4, nz_5, nz_6, nz_7, nz_8, S0_1, S0_19, S0_43, q_Ps_isGuild hc, q_Ps_isPane hc, q_Ps_yearNow hc, q_Rents_worthTo hc, rT_19_0, rT_1_1, rT_1_4]
set_option maxRecDepth 100000 in
set_option maxHeartbeats 400000 in
theorem q_Ps_yields {c : Nat} (hc : isChap c) {v1 : Int32} {N : hn} : f_Ps_yields S0 1 v1 (N.1, N.2, rT c) = em c (F_Ps_yields c v1 N) := by
  unfold f_Ps_yields F_Ps_yields
  try simp only [my_ite, my_hg]
  simp only [hl_n', hl_wI', hl_wL', hl_cp', em_s', em_n', em_my, em_l', em_b, em_v, emv_s', emv_n', emv_my, emv_l', emv_b, emv_v, hb_em, hv_em, my_T, my_F, ne_eq, not_false_eq_true, nz_c, S0_c, S0_lw, S0_h, isHold_36, hc, hc.d, hc.l, hc.d.l, nz_1, nz_2, nz_3, nz_4, nz_5, nz_6, nz_7, nz_8, S0_1, S0_43, q_Ps_isPane hc, q_Ps_yearNow hc, q_Rents_given hc, rT_1_4]
set_option maxRecDepth 100000 in
set_option maxHeartbeats 400000 in
theorem q_Md_both {c : Nat} (hc : isChap c) {v0 : Int32} {v1 : Int32} {v2 : Int32} {N : hn} : f_Md_both S0 v0 v1 v2 (N.1, N.2, rT c) = em c (F_Md_both c v0 v1 v2 N) := by
  unfold f_Md_both F_Md_both
  try simp only [my_ite, my_hg]
  simp only [hl_n', hl_wI', hl_wL', hl_cp', em_s', em_n', em_my, em_l', em_b, em_v, emv_s', emv_n', emv_my, emv_l', emv_b, emv_v, hb_em, hv_em, my_T, my_F, ne_eq, not_false_eq_true, nz_c, S0_c, S0_lw, S0_h, isHold_36, hc, hc.d, hc.l, hc.d.l, nz_1, nz_2, nz_3, nz_4, nz_5, nz_6, nz_7, nz_8, S0_76]
set_option maxRecDepth 100000 in
set_option maxHeartbeats 400000 in
theorem q_Md_worthAt_4 {c : Nat} (hc : isChap c) {k4 : Nat → Int32 → Int32 → hm_M → Option (Int32 × hm_M)} {K4 : Int32 → Int32 → hn → Option (Int32 × hn)} (hk4 : ∀ (v2 : Int32) (v3 : Int32) (N : hn), k4 76 v2 v3 (N.1, N.2, rT c) = em c (K4 v2 v3 N)) {v2 : Int32} {v3 : Int32} {s0 : Int32} {s1 : Int32} {N : hn} : b_Md_worthAt_4 S0 k4 76 v2 v3 s0 s1 87 (N.1, N.2, rT c) = em c (B_Md_worthAt_4 c K4 v2 v3 s0 s1 N) := by
  unfold b_Md_worthAt_4 B_Md_worthAt_4
  try simp only [my_ite, my_hg]
  simp only [hl_n', hl_wI', hl_wL', hl_cp', em_s', em_n', em_my, em_l', em_b, em_v, emv_s', emv_n', emv_my, emv_l', emv_b, emv_v, hb_em, hv_em, my_T, my_F, ne_eq, not_false_eq_true, nz_c, S0_c, S0_lw, S0_h, isHold_36, hc, hc.d, hc.l, hc.d.l, nz_1, nz_2, nz_3, nz_4, nz_5, nz_6, nz_7, nz_8, S0_76, ib_83, ib_84, ib_86, ib_87, q_Md_both hc, rT_76_11, rT_76_12, rT_76_18, rT_76_19, hk4]
set_option maxRecDepth 100000 in
set_option maxHeartbeats 400000 in
theorem q_Md_worthAt_3 {c : Nat} (hc : isChap c) {k4 : Nat → Int32 → Int32 → hm_M → Option (Int32 × hm_M)} {K4 : Int32 → Int32 → hn → Option (Int32 × hn)} (hk4 : ∀ (v2 : Int32) (v3 : Int32) (N : hn), k4 76 v2 v3 (N.1, N.2, rT c) = em c (K4 v2 v3 N)) {v2 : Int32} {v3 : Int32} {s0 : Int32} {s1 : Int32} {N : hn} : b_Md_worthAt_3 S0 k4 76 v2 v3 s0 s1 87 (N.1, N.2, rT c) = em c (B_Md_worthAt_3 c K4 v2 v3 s0 s1 N) := by
  unfold b_Md_worthAt_3 B_Md_worthAt_3
  try simp only [my_ite, my_hg]
  simp only [hl_n', hl_wI', hl_wL', hl_cp', em_s', em_n', em_my, em_l', em_b, em_v, emv_s', emv_n', emv_my, emv_l', emv_b, emv_v, hb_em, hv_em, my_T, my_F, ne_eq, not_false_eq_true, nz_c, S0_c, S0_lw, S0_h, isHold_36, hc, hc.d, hc.l, hc.d.l, nz_1, nz_2, nz_3, nz_4, nz_5, nz_6, nz_7, nz_8, S0_76, ib_83, ib_84, ib_86, ib_87, q_Md_both hc, rT_76_11, rT_76_12, rT_76_18, rT_76_19, hk4, q_Md_worthAt_4 hc hk4]
set_option maxRecDepth 100000 in
set_option maxHeartbeats 400000 in
theorem q_Md_worthAt_2 {c : Nat} (hc : isChap c) {k4 : Nat → Int32 → Int32 → hm_M → Option (Int32 × hm_M)} {K4 : Int32 → Int32 → hn → Option (Int32 × hn)} (hk4 : ∀ (v2 : Int32) (v3 : Int32) (N : hn), k4 76 v2 v3 (N.1, N.2, rT c) = em c (K4 v2 v3 N)) {v2 : Int32} {v3 : Int32} {v4 : Int32} {N : hn} : b_Md_worthAt_2 S0 k4 76 v2 v3 v4 (N.1, N.2, rT c) = em c (B_Md_worthAt_2 c K4 v2 v3 v4 N) := by
  unfold b_Md_worthAt_2 B_Md_worthAt_2
  try simp only [my_ite, my_hg]
  simp only [hl_n', hl_wI', hl_wL', hl_cp', em_s', em_n', em_my, em_l', em_b, em_v, emv_s', emv_n', emv_my, emv_l', emv_b, emv_v, hb_em, hv_em, my_T, my_F, ne_eq, not_false_eq_true, nz_c, S0_c, S0_lw, S0_h, isHold_36, hc, hc.d, hc.l, hc.d.l, nz_1, nz_2, nz_3, nz_4, nz_5, nz_6, nz_7, nz_8, S0_76, ib_83, ib_84, ib_86, ib_87, q_Md_both hc, rT_76_11, rT_76_12, rT_76_18, rT_76_19, hk4, q_Md_worthAt_4 hc hk4, q_Md_worthAt_3 hc hk4]
set_option maxRecDepth 100000 in
set_option maxHeartbeats 400000 in
theorem r_Md_worthAt_1 {c : Nat} (hc : isChap c) {k4 : Nat → Int32 → Int32 → hm_M → Option (Int32 × hm_M)} {K4 : Int32 → Int32 → hn → Option (Int32 × hn)} (hk4 : ∀ (v2 : Int32) (v3 : Int32) (N : hn), k4 76 v2 v3 (N.1, N.2, rT c) = em c (K4 v2 v3 N)) {v2 : Int32} {v3 : Int32} {N : hn} : b_Md_worthAt_1 S0 k4 76 v2 v3 (N.1, N.2, rT c) = em c (B_Md_worthAt_1 c K4 v2 v3 N) := by
  unfold b_Md_worthAt_1 B_Md_worthAt_1
  try simp only [my_ite, my_hg]
  simp only [hl_n', hl_wI', hl_wL', hl_cp', em_s', em_n', em_my, em_l', em_b, em_v, emv_s', emv_n', emv_my, emv_l', emv_b, emv_v, hb_em, hv_em, my_T, my_F, ne_eq, not_false_eq_true, nz_c, S0_c, S0_lw, S0_h, isHold_36, hc, hc.d, hc.l, hc.d.l, nz_1, nz_2, nz_3, nz_4, nz_5, nz_6, nz_7, nz_8, S0_76, ib_83, ib_84, ib_86, ib_87, q_Md_both hc, rT_76_11, rT_76_12, rT_76_18, rT_76_19, hk4, q_Md_worthAt_4 hc hk4, q_Md_worthAt_3 hc hk4, q_Md_worthAt_2 hc hk4]
theorem q_Md_worthAt_1 {c : Nat} (hc : isChap c) : ∀ (n : Nat) (v2 : Int32) (v3 : Int32) (N : hn), f_Md_worthAt_1 S0 n 76 v2 v3 (N.1, N.2, rT c) = em c (F_Md_worthAt_1 c n v2 v3 N) := by
  intro n
  induction n with
  | zero => intros; rfl
  | succ n ih => intro v2 v3 N ; exact r_Md_worthAt_1 hc  ih
set_option maxRecDepth 100000 in
set_option maxHeartbeats 400000 in
theorem q_Md_worthAt {c : Nat} (hc : isChap c) {v1 : Int32} {N : hn} : f_Md_worthAt S0 76 v1 (N.1, N.2, rT c) = em c (F_Md_worthAt c v1 N) := by
  unfold f_Md_worthAt F_Md_worthAt
  try simp only [my_ite, my_hg]
  simp only [hl_n', hl_wI', hl_wL', hl_cp', em_s', em_n', em_my, em_l', em_b, em_v, emv_s', emv_n', emv_my, emv_l', emv_b, emv_v, hb_em, hv_em, my_T, my_F, ne_eq, not_false_eq_true, nz_c, S0_c, S0_lw, S0_h, isHold_36, hc, hc.d, hc.l, hc.d.l, nz_1, nz_2, nz_3, nz_4, nz_5, nz_6, nz_7, nz_8, S0_76, ib_83, ib_84, ib_86, ib_87, q_Md_both hc, rT_76_11, rT_76_12, rT_76_18, rT_76_19, q_Md_worthAt_1 hc]
set_option maxRecDepth 100000 in
set_option maxHeartbeats 400000 in
theorem q_Md_isDark {c : Nat} (hc : isChap c) {v1 : Int32} {v2 : Int32} {N : hn} : f_Md_isDark S0 76 v1 v2 (N.1, N.2, rT c) = em c (F_Md_isDark c v1 v2 N) := by
  unfold f_Md_isDark F_Md_isDark
  try simp only [my_ite, my_hg]
  simp only [hl_n', hl_wI', hl_wL', hl_cp', em_s', em_n', em_my, em_l', em_b, em_v, emv_s', emv_n', emv_my, emv_l', emv_b, emv_v, hb_em, hv_em, my_T, my_F, ne_eq, not_false_eq_true, nz_c, S0_c, S0_lw, S0_h, isHold_36, hc, hc.d, hc.l, hc.d.l, nz_1, nz_2, nz_3, nz_4, nz_5, nz_6, nz_7, nz_8, S0_76, ib_82, ib_86, q_Md_worthAt hc, rT_76_10, rT_76_18]
set_option maxRecDepth 100000 in
set_option maxHeartbeats 400000 in
theorem q_Md_panes {c : Nat} (hc : isChap c) {N : hn} : f_Md_panes S0 76 (N.1, N.2, rT c) = em c (F_Md_panes c N) := by
  unfold f_Md_panes F_Md_panes
  try simp only [my_ite, my_hg]
  simp only [hl_n', hl_wI', hl_wL', hl_cp', em_s', em_n', em_my, em_l', em_b, em_v, emv_s', emv_n', emv_my, emv_l', emv_b, emv_v, hb_em, hv_em, my_T, my_F, ne_eq, not_false_eq_true, nz_c, S0_c, S0_lw, S0_h, isHold_36, hc, hc.d, hc.l, hc.d.l, nz_1, nz_2, nz_3, nz_4, nz_5, nz_6, nz_7, nz_8, S0_76, ib_82, rT_76_10]
set_option maxRecDepth 100000 in
set_option maxHeartbeats 400000 in
theorem q_Md_isBroken {c : Nat} (hc : isChap c) {v1 : Int32} {N : hn} : f_Md_isBroken S0 76 v1 (N.1, N.2, rT c) = em c (F_Md_isBroken c v1 N) := by
  unfold f_Md_isBroken F_Md_isBroken
  try simp only [my_ite, my_hg]
  simp only [hl_n', hl_wI', hl_wL', hl_cp', em_s', em_n', em_my, em_l', em_b, em_v, emv_s', emv_n', emv_my, emv_l', emv_b, emv_v, hb_em, hv_em, my_T, my_F, ne_eq, not_false_eq_true, nz_c, S0_c, S0_lw, S0_h, isHold_36, hc, hc.d, hc.l, hc.d.l, nz_1, nz_2, nz_3, nz_4, nz_5, nz_6, nz_7, nz_8, S0_76, ib_88, rT_76_20]
set_option maxRecDepth 100000 in
set_option maxHeartbeats 400000 in
theorem q_Md_ownerOf {c : Nat} (hc : isChap c) {v1 : Int32} {N : hn} : f_Md_ownerOf S0 76 v1 (N.1, N.2, rT c) = em c (F_Md_ownerOf c v1 N) := by
  unfold f_Md_ownerOf F_Md_ownerOf
  try simp only [my_ite, my_hg]
  simp only [hl_n', hl_wI', hl_wL', hl_cp', em_s', em_n', em_my, em_l', em_b, em_v, emv_s', emv_n', emv_my, emv_l', emv_b, emv_v, hb_em, hv_em, my_T, my_F, ne_eq, not_false_eq_true, nz_c, S0_c, S0_lw, S0_h, isHold_36, hc, hc.d, hc.l, hc.d.l, nz_1, nz_2, nz_3, nz_4, nz_5, nz_6, nz_7, nz_8, S0_76, ib_88, rT_76_20]
set_option maxRecDepth 100000 in
set_option maxHeartbeats 400000 in
theorem q_Md_paneOf {c : Nat} (hc : isChap c) {v1 : Int32} {v2 : Int32} {N : hn} : f_Md_paneOf S0 76 v1 v2 (N.1, N.2, rT c) = em c (F_Md_paneOf c v1 v2 N) := by
  unfold f_Md_paneOf F_Md_paneOf
  try simp only [my_ite, my_hg]
  simp only [hl_n', hl_wI', hl_wL', hl_cp', em_s', em_n', em_my, em_l', em_b, em_v, emv_s', emv_n', emv_my, emv_l', emv_b, emv_v, hb_em, hv_em, my_T, my_F, ne_eq, not_false_eq_true, nz_c, S0_c, S0_lw, S0_h, isHold_36, hc, hc.d, hc.l, hc.d.l, nz_1, nz_2, nz_3, nz_4, nz_5, nz_6, nz_7, nz_8, S0_76, ib_82, rT_76_10]
set_option maxRecDepth 100000 in
set_option maxHeartbeats 400000 in
theorem q_Md_isOn {c : Nat} (hc : isChap c) {v1 : Int32} {v2 : Int32} {N : hn} : f_Md_isOn S0 76 v1 v2 (N.1, N.2, rT c) = em c (F_Md_isOn c v1 v2 N) := by
  unfold f_Md_isOn F_Md_isOn
  try simp only [my_ite, my_hg]
  simp only [hl_n', hl_wI', hl_wL', hl_cp', em_s', em_n', em_my, em_l', em_b, em_v, emv_s', emv_n', emv_my, emv_l', emv_b, emv_v, hb_em, hv_em, my_T, my_F, ne_eq, not_false_eq_true, nz_c, S0_c, S0_lw, S0_h, isHold_36, hc, hc.d, hc.l, hc.d.l, nz_1, nz_2, nz_3, nz_4, nz_5, nz_6, nz_7, nz_8, S0_76, ib_82, rT_76_10]
set_option maxRecDepth 100000 in
set_option maxHeartbeats 400000 in
theorem q_Md_findLight_4 {c : Nat} (hc : isChap c) {k10 : Nat → Int32 → Int32 → Int32 → Int32 → hm_M → Option hm_M} {K10 : Int32 → Int32 → Int32 → Int32 → hn → Option hn} (hk10 : ∀ (v1 : Int32) (v2 : Int32) (v3 : Int32) (v4 : Int32) (N : hn), k10 76 v1 v2 v3 v4 (N.1, N.2, rT c) = emv c (K10 v1 v2 v3 v4 N)) {v1 : Int32} {v2 : Int32} {v3 : Int32} {v4 : Int32} {s0 : Int32} {s1 : Int32} {N : hn} : b_Md_findLight_4 S0 k10 76 v1 v2 v3 v4 s0 s1 90 (N.1, N.2, rT c) = emv c (B_Md_findLight_4 c K10 v1 v2 v3 v4 s0 s1 N) := by
  unfold b_Md_findLight_4 B_Md_findLight_4
  try simp only [my_ite, my_hg]
  simp only [hl_n', hl_wI', hl_wL', hl_cp', em_s', em_n', em_my, em_l', em_b, em_v, emv_s', emv_n', emv_my, emv_l', emv_b, emv_v, hb_em, hv_em, my_T, my_F, ne_eq, not_false_eq_true, nz_c, S0_c, S0_lw, S0_h, isHold_36, hc, hc.d, hc.l, hc.d.l, nz_1, nz_2, nz_3, nz_4, nz_5, nz_6, nz_7, nz_8, S0_76, ib_82, ib_86, ib_90, q_Md_isBroken hc, q_Md_isDark hc, q_Md_isOn hc, q_Md_ownerOf hc, q_Md_paneOf hc, q_Md_panes hc, q_Md_worthAt hc, rT_76_10, rT_76_18, rT_76_24, hk10]
set_option maxRecDepth 100000 in
set_option maxHeartbeats 400000 in
theorem q_Md_findLight_3 {c : Nat} (hc : isChap c) {k10 : Nat → Int32 → Int32 → Int32 → Int32 → hm_M → Option hm_M} {K10 : Int32 → Int32 → Int32 → Int32 → hn → Option hn} (hk10 : ∀ (v1 : Int32) (v2 : Int32) (v3 : Int32) (v4 : Int32) (N : hn), k10 76 v1 v2 v3 v4 (N.1, N.2, rT c) = emv c (K10 v1 v2 v3 v4 N)) {v1 : Int32} {v2 : Int32} {v3 : Int32} {v4 : Int32} {v5 : Int32} {s0 : Int32} {N : hn} : b_Md_findLight_3 S0 k10 76 v1 v2 v3 v4 v5 s0 (N.1, N.2, rT c) = emv c (B_Md_findLight_3 c K10 v1 v2 v3 v4 v5 s0 N) := by
  unfold b_Md_findLight_3 B_Md_findLight_3
  try simp only [my_ite, my_hg]
  simp only [hl_n', hl_wI', hl_wL', hl_cp', em_s', em_n', em_my, em_l', em_b, em_v, emv_s', emv_n', emv_my, emv_l', emv_b, emv_v, hb_em, hv_em, my_T, my_F, ne_eq, not_false_eq_true, nz_c, S0_c, S0_lw, S0_h, isHold_36, hc, hc.d, hc.l, hc.d.l, nz_1, nz_2, nz_3, nz_4, nz_5, nz_6, nz_7, nz_8, S0_76, ib_82, ib_86, ib_90, q_Md_isBroken hc, q_Md_isDark hc, q_Md_isOn hc, q_Md_ownerOf hc, q_Md_paneOf hc, q_Md_panes hc, q_Md_worthAt hc, rT_76_10, rT_76_18, rT_76_24, hk10, q_Md_findLight_4 hc hk10]
set_option maxRecDepth 100000 in
set_option maxHeartbeats 400000 in
theorem q_Md_findLight_2 {c : Nat} (hc : isChap c) {k10 : Nat → Int32 → Int32 → Int32 → Int32 → hm_M → Option hm_M} {K10 : Int32 → Int32 → Int32 → Int32 → hn → Option hn} (hk10 : ∀ (v1 : Int32) (v2 : Int32) (v3 : Int32) (v4 : Int32) (N : hn), k10 76 v1 v2 v3 v4 (N.1, N.2, rT c) = emv c (K10 v1 v2 v3 v4 N)) {v1 : Int32} {v2 : Int32} {v3 : Int32} {v4 : Int32} {s0 : Int32} {s1 : Int32} {N : hn} : b_Md_findLight_2 S0 k10 76 v1 v2 v3 v4 s0 s1 (N.1, N.2, rT c) = emv c (B_Md_findLight_2 c K10 v1 v2 v3 v4 s0 s1 N) := by
  unfold b_Md_findLight_2 B_Md_findLight_2
  try simp only [my_ite, my_hg]
  simp only [hl_n', hl_wI', hl_wL', hl_cp', em_s', em_n', em_my, em_l', em_b, em_v, emv_s', emv_n', emv_my, emv_l', emv_b, emv_v, hb_em, hv_em, my_T, my_F, ne_eq, not_false_eq_true, nz_c, S0_c, S0_lw, S0_h, isHold_36, hc, hc.d, hc.l, hc.d.l, nz_1, nz_2, nz_3, nz_4, nz_5, nz_6, nz_7, nz_8, S0_76, ib_82, ib_86, ib_90, q_Md_isBroken hc, q_Md_isDark hc, q_Md_isOn hc, q_Md_ownerOf hc, q_Md_paneOf hc, q_Md_panes hc, q_Md_worthAt hc, rT_76_10, rT_76_18, rT_76_24, hk10, q_Md_findLight_4 hc hk10, q_Md_findLight_3 hc hk10]
set_option maxRecDepth 100000 in
set_option maxHeartbeats 400000 in
theorem r_Md_findLight_1 {c : Nat} (hc : isChap c) {k10 : Nat → Int32 → Int32 → Int32 → Int32 → hm_M → Option hm_M} {K10 : Int32 → Int32 → Int32 → Int32 → hn → Option hn} (hk10 : ∀ (v1 : Int32) (v2 : Int32) (v3 : Int32) (v4 : Int32) (N : hn), k10 76 v1 v2 v3 v4 (N.1, N.2, rT c) = emv c (K10 v1 v2 v3 v4 N)) {v1 : Int32} {v2 : Int32} {v3 : Int32} {v4 : Int32} {N : hn} : b_Md_findLight_1 S0 k10 76 v1 v2 v3 v4 (N.1, N.2, rT c) = emv c (B_Md_findLight_1 c K10 v1 v2 v3 v4 N) := by
  unfold b_Md_findLight_1 B_Md_findLight_1
  try simp only [my_ite, my_hg]
  simp only [hl_n', hl_wI', hl_wL', hl_cp', em_s', em_n', em_my, em_l', em_b, em_v, emv_s', emv_n', emv_my, emv_l', emv_b, emv_v, hb_em, hv_em, my_T, my_F, ne_eq, not_false_eq_true, nz_c, S0_c, S0_lw, S0_h, isHold_36, hc, hc.d, hc.l, hc.d.l, nz_1, nz_2, nz_3, nz_4, nz_5, nz_6, nz_7, nz_8, S0_76, ib_82, ib_86, ib_90, q_Md_isBroken hc, q_Md_isDark hc, q_Md_isOn hc, q_Md_ownerOf hc, q_Md_paneOf hc, q_Md_panes hc, q_Md_worthAt hc, rT_76_10, rT_76_18, rT_76_24, hk10, q_Md_findLight_4 hc hk10, q_Md_findLight_3 hc hk10, q_Md_findLight_2 hc hk10]
theorem q_Md_findLight_1 {c : Nat} (hc : isChap c) : ∀ (n : Nat) (v1 : Int32) (v2 : Int32) (v3 : Int32) (v4 : Int32) (N : hn), f_Md_findLight_1 S0 n 76 v1 v2 v3 v4 (N.1, N.2, rT c) = emv c (F_Md_findLight_1 c n v1 v2 v3 v4 N) := by
  intro n
  induction n with
  | zero => intros; rfl
  | succ n ih => intro v1 v2 v3 v4 N ; exact r_Md_findLight_1 hc  ih
set_option maxRecDepth 100000 in
set_option maxHeartbeats 400000 in
theorem q_Md_findLight {c : Nat} (hc : isChap c) {v1 : Int32} {v2 : Int32} {N : hn} : f_Md_findLight S0 76 v1 v2 (N.1, N.2, rT c) = emv c (F_Md_findLight c v1 v2 N) := by
  unfold f_Md_findLight F_Md_findLight
  try simp only [my_ite, my_hg]
  simp only [hl_n', hl_wI', hl_wL', hl_cp', em_s', em_n', em_my, em_l', em_b, em_v, emv_s', emv_n', emv_my, emv_l', emv_b, emv_v, hb_em, hv_em, my_T, my_F, ne_eq, not_false_eq_true, nz_c, S0_c, S0_lw, S0_h, isHold_36, hc, hc.d, hc.l, hc.d.l, nz_1, nz_2, nz_3, nz_4, nz_5, nz_6, nz_7, nz_8, S0_76, ib_82, ib_86, ib_90, q_Md_isBroken hc, q_Md_isDark hc, q_Md_isOn hc, q_Md_ownerOf hc, q_Md_paneOf hc, q_Md_panes hc, q_Md_worthAt hc, rT_76_10, rT_76_18, rT_76_24, q_Md_findLight_1 hc]
set_option maxRecDepth 100000 in
set_option maxHeartbeats 400000 in
theorem r_Md_lightAt_1 {c : Nat} (hc : isChap c) {k11 : Nat → Int32 → Int32 → Int32 → Int32 → Int32 → Int32 → hm_M → Option (Int32 × hm_M)} {K11 : Int32 → Int32 → Int32 → Int32 → Int32 → Int32 → hn → Option (Int32 × hn)} (hk11 : ∀ (v1 : Int32) (v2 : Int32) (v3 : Int32) (v4 : Int32) (v5 : Int32) (v6 : Int32) (N : hn), k11 76 v1 v2 v3 v4 v5 v6 (N.1, N.2, rT c) = em c (K11 v1 v2 v3 v4 v5 v6 N)) {v1 : Int32} {v2 : Int32} {v3 : Int32} {v4 : Int32} {v5 : Int32} {v6 : Int32} {N : hn} : b_Md_lightAt_1 S0 k11 76 v1 v2 v3 v4 v5 v6 (N.1, N.2, rT c) = em c (B_Md_lightAt_1 c K11 v1 v2 v3 v4 v5 v6 N) := by
  unfold b_Md_lightAt_1 B_Md_lightAt_1
  try simp only [my_ite, my_hg]
  simp only [hl_n', hl_wI', hl_wL', hl_cp', em_s', em_n', em_my, em_l', em_b, em_v, emv_s', emv_n', emv_my, emv_l', emv_b, emv_v, hb_em, hv_em, my_T, my_F, ne_eq, not_false_eq_true, nz_c, S0_c, S0_lw, S0_h, isHold_36, hc, hc.d, hc.l, hc.d.l, nz_1, nz_2, nz_3, nz_4, nz_5, nz_6, nz_7, nz_8, S0_76, ib_90, q_Md_ownerOf hc, q_Md_paneOf hc, q_Md_panes hc, rT_76_24, hk11]
theorem q_Md_lightAt_1 {c : Nat} (hc : isChap c) : ∀ (n : Nat) (v1 : Int32) (v2 : Int32) (v3 : Int32) (v4 : Int32) (v5 : Int32) (v6 : Int32) (N : hn), f_Md_lightAt_1 S0 n 76 v1 v2 v3 v4 v5 v6 (N.1, N.2, rT c) = em c (F_Md_lightAt_1 c n v1 v2 v3 v4 v5 v6 N) := by
  intro n
  induction n with
  | zero => intros; rfl
  | succ n ih => intro v1 v2 v3 v4 v5 v6 N ; exact r_Md_lightAt_1 hc  ih
set_option maxRecDepth 100000 in
set_option maxHeartbeats 400000 in
theorem q_Md_lightAt {c : Nat} (hc : isChap c) {v1 : Int32} {v2 : Int32} {N : hn} : f_Md_lightAt S0 76 v1 v2 (N.1, N.2, rT c) = em c (F_Md_lightAt c v1 v2 N) := by
  unfold f_Md_lightAt F_Md_lightAt
  try simp only [my_ite, my_hg]
  simp only [hl_n', hl_wI', hl_wL', hl_cp', em_s', em_n', em_my, em_l', em_b, em_v, emv_s', emv_n', emv_my, emv_l', emv_b, emv_v, hb_em, hv_em, my_T, my_F, ne_eq, not_false_eq_true, nz_c, S0_c, S0_lw, S0_h, isHold_36, hc, hc.d, hc.l, hc.d.l, nz_1, nz_2, nz_3, nz_4, nz_5, nz_6, nz_7, nz_8, S0_76, ib_90, q_Md_ownerOf hc, q_Md_paneOf hc, q_Md_panes hc, rT_76_24, q_Md_lightAt_1 hc]
set_option maxRecDepth 100000 in
set_option maxHeartbeats 400000 in
theorem q_Md_rentAt {c : Nat} (hc : isChap c) {v1 : Int32} {v2 : Int32} {v3 : Int32} {v4 : Int32} {N : hn} : f_Md_rentAt S0 76 v1 v2 v3 v4 (N.1, N.2, rT c) = em c (F_Md_rentAt c v1 v2 v3 v4 N) := by
  unfold f_Md_rentAt F_Md_rentAt
  try simp only [my_ite, my_hg]
  simp only [hl_n', hl_wI', hl_wL', hl_cp', em_s', em_n', em_my, em_l', em_b, em_v, emv_s', emv_n', emv_my, emv_l', emv_b, emv_v, hb_em, hv_em, my_T, my_F, ne_eq, not_false_eq_true, nz_c, S0_c, S0_lw, S0_h, isHold_36, hc, hc.d, hc.l, hc.d.l, nz_1, nz_2, nz_3, nz_4, nz_5, nz_6, nz_7, nz_8, S0_76, ib_82, ib_86, q_Md_worthAt hc, rT_76_10, rT_76_18]
set_option maxRecDepth 100000 in
set_option maxHeartbeats 400000 in
theorem r_Md_addsYields_1 {c : Nat} (hc : isChap c) {k8 : Nat → Int32 → Int32 → Int32 → hm_M → Option hm_M} {K8 : Int32 → Int32 → Int32 → hn → Option hn} (hk8 : ∀ (v1 : Int32) (v2 : Int32) (v3 : Int32) (N : hn), k8 76 v1 v2 v3 (N.1, N.2, rT c) = emv c (K8 v1 v2 v3 N)) {v1 : Int32} {v2 : Int32} {v3 : Int32} {N : hn} : b_Md_addsYields_1 S0 k8 76 v1 v2 v3 (N.1, N.2, rT c) = emv c (B_Md_addsYields_1 c K8 v1 v2 v3 N) := by
  unfold b_Md_addsYields_1 B_Md_addsYields_1
  try simp only [my_ite, my_hg]
  simp only [hl_n', hl_wI', hl_wL', hl_cp', em_s', em_n', em_my, em_l', em_b, em_v, emv_s', emv_n', emv_my, emv_l', emv_b, emv_v, hb_em, hv_em, my_T, my_F, ne_eq, not_false_eq_true, nz_c, S0_c, S0_lw, S0_h, isHold_36, hc, hc.d, hc.l, hc.d.l, nz_1, nz_2, nz_3, nz_4, nz_5, nz_6, nz_7, nz_8, S0_76, ib_90, ib_91, q_Md_findLight hc, q_Md_lightAt hc, q_Md_panes hc, q_Md_rentAt hc, rT_76_24, rT_76_25, hk8]
theorem q_Md_addsYields_1 {c : Nat} (hc : isChap c) : ∀ (n : Nat) (v1 : Int32) (v2 : Int32) (v3 : Int32) (N : hn), f_Md_addsYields_1 S0 n 76 v1 v2 v3 (N.1, N.2, rT c) = emv c (F_Md_addsYields_1 c n v1 v2 v3 N) := by
  intro n
  induction n with
  | zero => intros; rfl
  | succ n ih => intro v1 v2 v3 N ; exact r_Md_addsYields_1 hc  ih
set_option maxRecDepth 100000 in
set_option maxHeartbeats 400000 in
theorem q_Md_addsYields {c : Nat} (hc : isChap c) {v1 : Int32} {v2 : Int32} {N : hn} : f_Md_addsYields S0 76 v1 v2 (N.1, N.2, rT c) = emv c (F_Md_addsYields c v1 v2 N) := by
  unfold f_Md_addsYields F_Md_addsYields
  try simp only [my_ite, my_hg]
  simp only [hl_n', hl_wI', hl_wL', hl_cp', em_s', em_n', em_my, em_l', em_b, em_v, emv_s', emv_n', emv_my, emv_l', emv_b, emv_v, hb_em, hv_em, my_T, my_F, ne_eq, not_false_eq_true, nz_c, S0_c, S0_lw, S0_h, isHold_36, hc, hc.d, hc.l, hc.d.l, nz_1, nz_2, nz_3, nz_4, nz_5, nz_6, nz_7, nz_8, S0_76, ib_90, ib_91, q_Md_findLight hc, q_Md_lightAt hc, q_Md_panes hc, q_Md_rentAt hc, rT_76_24, rT_76_25, q_Md_addsYields_1 hc]
set_option maxRecDepth 100000 in
set_option maxHeartbeats 400000 in
theorem q_Md_isSign {c : Nat} (hc : isChap c) {v1 : Int32} {N : hn} : f_Md_isSign S0 76 v1 (N.1, N.2, rT c) = em c (F_Md_isSign c v1 N) := by
  unfold f_Md_isSign F_Md_isSign
  try simp only [my_ite, my_hg]
  simp only [hl_n', hl_wI', hl_wL', hl_cp', em_s', em_n', em_my, em_l', em_b, em_v, emv_s', emv_n', emv_my, emv_l', emv_b, emv_v, hb_em, hv_em, my_T, my_F, ne_eq, not_false_eq_true, nz_c, S0_c, S0_lw, S0_h, isHold_36, hc, hc.d, hc.l, hc.d.l, nz_1, nz_2, nz_3, nz_4, nz_5, nz_6, nz_7, nz_8, S0_76, ib_78, ib_80, rT_76_4, rT_76_6]
set_option maxRecDepth 100000 in
set_option maxHeartbeats 400000 in
theorem q_Md_hasSign_1 {c : Nat} (hc : isChap c) {v2 : Int32} {s0 : Int32} {s1 : Int32} {N : hn} : b_Md_hasSign_1 S0 v2 s0 s1 76 (N.1, N.2, rT c) = em c (B_Md_hasSign_1 c v2 s0 s1 N) := by
  unfold b_Md_hasSign_1 B_Md_hasSign_1
  try simp only [my_ite, my_hg]
  simp only [hl_n', hl_wI', hl_wL', hl_cp', em_s', em_n', em_my, em_l', em_b, em_v, emv_s', emv_n', emv_my, emv_l', emv_b, emv_v, hb_em, hv_em, my_T, my_F, ne_eq, not_false_eq_true, nz_c, S0_c, S0_lw, S0_h, isHold_36, hc, hc.d, hc.l, hc.d.l, nz_1, nz_2, nz_3, nz_4, nz_5, nz_6, nz_7, nz_8, S0_76, q_Md_isSign hc]
set_option maxRecDepth 100000 in
set_option maxHeartbeats 400000 in
theorem q_Md_hasSign {c : Nat} (hc : isChap c) {v1 : Int32} {N : hn} : f_Md_hasSign S0 76 v1 (N.1, N.2, rT c) = em c (F_Md_hasSign c v1 N) := by
  unfold f_Md_hasSign F_Md_hasSign
  try simp only [my_ite, my_hg]
  simp only [hl_n', hl_wI', hl_wL', hl_cp', em_s', em_n', em_my, em_l', em_b, em_v, emv_s', emv_n', emv_my, emv_l', emv_b, emv_v, hb_em, hv_em, my_T, my_F, ne_eq, not_false_eq_true, nz_c, S0_c, S0_lw, S0_h, isHold_36, hc, hc.d, hc.l, hc.d.l, nz_1, nz_2, nz_3, nz_4, nz_5, nz_6, nz_7, nz_8, S0_76, q_Md_isSign hc, q_Md_hasSign_1 hc]
set_option maxRecDepth 100000 in
set_option maxHeartbeats 400000 in
theorem q_Md_emit {c : Nat} (hc : isChap c) {v1 : Int32} {v2 : Int32} {N : hn} : f_Md_emit S0 76 v1 v2 (N.1, N.2, rT c) = emv c (F_Md_emit c v1 v2 N) := by
  unfold f_Md_emit F_Md_emit
  try simp only [my_ite, my_hg]
  simp only [hl_n', hl_wI', hl_wL', hl_cp', em_s', em_n', em_my, em_l', em_b, em_v, emv_s', emv_n', emv_my, emv_l', emv_b, emv_v, hb_em, hv_em, my_T, my_F, ne_eq, not_false_eq_true, nz_c, S0_c, S0_lw, S0_h, isHold_36, hc, hc.d, hc.l, hc.d.l, nz_1, nz_2, nz_3, nz_4, nz_5, nz_6, nz_7, nz_8, S0_76, ib_83, ib_84, rT_76_11, rT_76_12]
set_option maxRecDepth 100000 in
set_option maxHeartbeats 400000 in
theorem q_Md_isWord {c : Nat} (hc : isChap c) {v1 : Int32} {N : hn} : f_Md_isWord S0 76 v1 (N.1, N.2, rT c) = em c (F_Md_isWord c v1 N) := by
  unfold f_Md_isWord F_Md_isWord
  try simp only [my_ite, my_hg]
  simp only [hl_n', hl_wI', hl_wL', hl_cp', em_s', em_n', em_my, em_l', em_b, em_v, emv_s', emv_n', emv_my, emv_l', emv_b, emv_v, hb_em, hv_em, my_T, my_F, ne_eq, not_false_eq_true, nz_c, S0_c, S0_lw, S0_h, isHold_36, hc, hc.d, hc.l, hc.d.l, nz_1, nz_2, nz_3, nz_4, nz_5, nz_6, nz_7, nz_8, S0_76, ib_78, ib_80, ib_81, rT_76_4, rT_76_6, rT_76_9]
set_option maxRecDepth 100000 in
set_option maxHeartbeats 400000 in
theorem q_Md_isPane {c : Nat} (hc : isChap c) {v1 : Int32} {N : hn} : f_Md_isPane S0 76 v1 (N.1, N.2, rT c) = em c (F_Md_isPane c v1 N) := by
  unfold f_Md_isPane F_Md_isPane
  try simp only [my_ite, my_hg]
  simp only [hl_n', hl_wI', hl_wL', hl_cp', em_s', em_n', em_my, em_l', em_b, em_v, emv_s', emv_n', emv_my, emv_l', emv_b, emv_v, hb_em, hv_em, my_T, my_F, ne_eq, not_false_eq_true, nz_c, S0_c, S0_lw, S0_h, isHold_36, hc, hc.d, hc.l, hc.d.l, nz_1, nz_2, nz_3, nz_4, nz_5, nz_6, nz_7, nz_8, S0_76, q_Md_panes hc]
set_option maxRecDepth 100000 in
set_option maxHeartbeats 400000 in
theorem q_Md_areUnlike {c : Nat} (hc : isChap c) {v1 : Int32} {v2 : Int32} {N : hn} : f_Md_areUnlike S0 76 v1 v2 (N.1, N.2, rT c) = em c (F_Md_areUnlike c v1 v2 N) := by
  unfold f_Md_areUnlike F_Md_areUnlike
  try simp only [my_ite, my_hg]
  simp only [hl_n', hl_wI', hl_wL', hl_cp', em_s', em_n', em_my, em_l', em_b, em_v, emv_s', emv_n', emv_my, emv_l', emv_b, emv_v, hb_em, hv_em, my_T, my_F, ne_eq, not_false_eq_true, nz_c, S0_c, S0_lw, S0_h, isHold_36, hc, hc.d, hc.l, hc.d.l, nz_1, nz_2, nz_3, nz_4, nz_5, nz_6, nz_7, nz_8, S0_76, q_Md_isPane hc, q_Md_ownerOf hc]
set_option maxRecDepth 100000 in
set_option maxHeartbeats 400000 in
theorem r_Md_findYields_2 {c : Nat} (hc : isChap c) {k23 : Nat → Int32 → hm_M → Option hm_M} {K23 : Int32 → hn → Option hn} (hk23 : ∀ (v1 : Int32) (N : hn), k23 76 v1 (N.1, N.2, rT c) = emv c (K23 v1 N)) {v1 : Int32} {N : hn} : b_Md_findYields_2 S0 k23 76 v1 (N.1, N.2, rT c) = emv c (B_Md_findYields_2 c K23 v1 N) := by
  unfold b_Md_findYields_2 B_Md_findYields_2
  try simp only [my_ite, my_hg]
  simp only [hl_n', hl_wI', hl_wL', hl_cp', em_s', em_n', em_my, em_l', em_b, em_v, emv_s', emv_n', emv_my, emv_l', emv_b, emv_v, hb_em, hv_em, my_T, my_F, ne_eq, not_false_eq_true, nz_c, S0_c, S0_lw, S0_h, isHold_36, hc, hc.d, hc.l, hc.d.l, nz_1, nz_2, nz_3, nz_4, nz_5, nz_6, nz_7, nz_8, S0_76, ib_91, q_Md_addsYields hc, rT_76_25, hk23]
theorem q_Md_findYields_2 {c : Nat} (hc : isChap c) : ∀ (n : Nat) (v1 : Int32) (N : hn), f_Md_findYields_2 S0 n 76 v1 (N.1, N.2, rT c) = emv c (F_Md_findYields_2 c n v1 N) := by
  intro n
  induction n with
  | zero => intros; rfl
  | succ n ih => intro v1 N ; exact r_Md_findYields_2 hc  ih
set_option maxRecDepth 100000 in
set_option maxHeartbeats 400000 in
theorem r_Md_findYields_1 {c : Nat} (hc : isChap c) {k2 : Nat → Int32 → hm_M → Option hm_M} {K2 : Int32 → hn → Option hn} (hk2 : ∀ (v1 : Int32) (N : hn), k2 76 v1 (N.1, N.2, rT c) = emv c (K2 v1 N)) {v1 : Int32} {N : hn} : b_Md_findYields_1 S0 k2 76 v1 (N.1, N.2, rT c) = emv c (B_Md_findYields_1 c K2 v1 N) := by
  unfold b_Md_findYields_1 B_Md_findYields_1
  try simp only [my_ite, my_hg]
  simp only [hl_n', hl_wI', hl_wL', hl_cp', em_s', em_n', em_my, em_l', em_b, em_v, emv_s', emv_n', emv_my, emv_l', emv_b, emv_v, hb_em, hv_em, my_T, my_F, ne_eq, not_false_eq_true, nz_c, S0_c, S0_lw, S0_h, isHold_36, hc, hc.d, hc.l, hc.d.l, nz_1, nz_2, nz_3, nz_4, nz_5, nz_6, nz_7, nz_8, S0_76, ib_91, q_Md_addsYields hc, rT_76_25, hk2, q_Md_findYields_2 hc]
theorem q_Md_findYields_1 {c : Nat} (hc : isChap c) : ∀ (n : Nat) (v1 : Int32) (N : hn), f_Md_findYields_1 S0 n 76 v1 (N.1, N.2, rT c) = emv c (F_Md_findYields_1 c n v1 N) := by
  intro n
  induction n with
  | zero => intros; rfl
  | succ n ih => intro v1 N ; exact r_Md_findYields_1 hc  ih
set_option maxRecDepth 100000 in
set_option maxHeartbeats 400000 in
theorem q_Md_findYields {c : Nat} (hc : isChap c) {N : hn} : f_Md_findYields S0 76 (N.1, N.2, rT c) = emv c (F_Md_findYields c N) := by
  unfold f_Md_findYields F_Md_findYields
  try simp only [my_ite, my_hg]
  simp only [hl_n', hl_wI', hl_wL', hl_cp', em_s', em_n', em_my, em_l', em_b, em_v, emv_s', emv_n', emv_my, emv_l', emv_b, emv_v, hb_em, hv_em, my_T, my_F, ne_eq, not_false_eq_true, nz_c, S0_c, S0_lw, S0_h, isHold_36, hc, hc.d, hc.l, hc.d.l, nz_1, nz_2, nz_3, nz_4, nz_5, nz_6, nz_7, nz_8, S0_76, ib_91, q_Md_addsYields hc, rT_76_25, q_Md_findYields_1 hc, q_Md_findYields_2 hc]
set_option maxRecDepth 100000 in
set_option maxHeartbeats 400000 in
theorem r_Md_bits_1 {c : Nat} (hc : isChap c) {k4 : Int32 → Int32 → Int32 → hm_M → Option (Int32 × hm_M)} {K4 : Int32 → Int32 → Int32 → hn → Option (Int32 × hn)} (hk4 : ∀ (v0 : Int32) (v1 : Int32) (v2 : Int32) (N : hn), k4 v0 v1 v2 (N.1, N.2, rT c) = em c (K4 v0 v1 v2 N)) {v0 : Int32} {v1 : Int32} {v2 : Int32} {N : hn} : b_Md_bits_1 S0 k4 v0 v1 v2 (N.1, N.2, rT c) = em c (B_Md_bits_1 c K4 v0 v1 v2 N) := by
  unfold b_Md_bits_1 B_Md_bits_1
  try simp only [my_ite, my_hg]
  simp only [hl_n', hl_wI', hl_wL', hl_cp', em_s', em_n', em_my, em_l', em_b, em_v, emv_s', emv_n', emv_my, emv_l', emv_b, emv_v, hb_em, hv_em, my_T, my_F, ne_eq, not_false_eq_true, nz_c, S0_c, S0_lw, S0_h, isHold_36, hc, hc.d, hc.l, hc.d.l, nz_1, nz_2, nz_3, nz_4, nz_5, nz_6, nz_7, nz_8, S0_76, hk4]
theorem q_Md_bits_1 {c : Nat} (hc : isChap c) : ∀ (n : Nat) (v0 : Int32) (v1 : Int32) (v2 : Int32) (N : hn), f_Md_bits_1 S0 n v0 v1 v2 (N.1, N.2, rT c) = em c (F_Md_bits_1 c n v0 v1 v2 N) := by
  intro n
  induction n with
  | zero => intros; rfl
  | succ n ih => intro v0 v1 v2 N ; exact r_Md_bits_1 hc  ih
set_option maxRecDepth 100000 in
set_option maxHeartbeats 400000 in
theorem q_Md_bits {c : Nat} (hc : isChap c) {v0 : Int32} {N : hn} : f_Md_bits S0 v0 (N.1, N.2, rT c) = em c (F_Md_bits c v0 N) := by
  unfold f_Md_bits F_Md_bits
  try simp only [my_ite, my_hg]
  simp only [hl_n', hl_wI', hl_wL', hl_cp', em_s', em_n', em_my, em_l', em_b, em_v, emv_s', emv_n', emv_my, emv_l', emv_b, emv_v, hb_em, hv_em, my_T, my_F, ne_eq, not_false_eq_true, nz_c, S0_c, S0_lw, S0_h, isHold_36, hc, hc.d, hc.l, hc.d.l, nz_1, nz_2, nz_3, nz_4, nz_5, nz_6, nz_7, nz_8, S0_76, q_Md_bits_1 hc]
set_option maxRecDepth 100000 in
set_option maxHeartbeats 400000 in
theorem q_Md_worthOf {c : Nat} (hc : isChap c) {v1 : Int32} {v2 : Int32} {N : hn} : f_Md_worthOf S0 76 v1 v2 (N.1, N.2, rT c) = em c (F_Md_worthOf c v1 v2 N) := by
  unfold f_Md_worthOf F_Md_worthOf
  try simp only [my_ite, my_hg]
  simp only [hl_n', hl_wI', hl_wL', hl_cp', em_s', em_n', em_my, em_l', em_b, em_v, emv_s', emv_n', emv_my, emv_l', emv_b, emv_v, hb_em, hv_em, my_T, my_F, ne_eq, not_false_eq_true, nz_c, S0_c, S0_lw, S0_h, isHold_36, hc, hc.d, hc.l, hc.d.l, nz_1, nz_2, nz_3, nz_4, nz_5, nz_6, nz_7, nz_8, S0_76, ib_82, ib_91, q_Md_bits hc, q_Md_paneOf hc, rT_76_10, rT_76_25]
set_option maxRecDepth 100000 in
set_option maxHeartbeats 400000 in
theorem q_Md_gainOf {c : Nat} (hc : isChap c) {v1 : Int32} {v2 : Int32} {N : hn} : f_Md_gainOf S0 76 v1 v2 (N.1, N.2, rT c) = em c (F_Md_gainOf c v1 v2 N) := by
  unfold f_Md_gainOf F_Md_gainOf
  try simp only [my_ite, my_hg]
  simp only [hl_n', hl_wI', hl_wL', hl_cp', em_s', em_n', em_my, em_l', em_b, em_v, emv_s', emv_n', emv_my, emv_l', emv_b, emv_v, hb_em, hv_em, my_T, my_F, ne_eq, not_false_eq_true, nz_c, S0_c, S0_lw, S0_h, isHold_36, hc, hc.d, hc.l, hc.d.l, nz_1, nz_2, nz_3, nz_4, nz_5, nz_6, nz_7, nz_8, S0_76, q_Md_ownerOf hc, q_Md_worthOf hc]
