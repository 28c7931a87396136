/-! the resolved layer is right (by program) -/
theorem q_Way_lookAhead_1 {c : Nat} (hc : isChap c) : ∀ (n : Nat) (v1 : Int32) (v2 : Int32) (v3 : Int64) (v5 : Int32) (N : hn), f_Way_lookAhead_1 S0 n 51 v1 v2 v3 v5 (N.1, N.2, rT c) = emv c (F_Way_lookAhead_1 c n v1 v2 v3 v5 N) := by
  intro n
  induction n with
  | zero => intros; rfl
  | succ n ih => intro v1 v2 v3 v5 N ; exact r_Way_lookAhead_1 hc  ih
set_option maxRecDepth 100000 in
set_option maxHeartbeats 400000 in
theorem q_Way_lookAhead {c : Nat} (hc : isChap c) {v1 : Int32} {v2 : Int32} {v3 : Int64} {N : hn} : f_Way_lookAhead S0 51 v1 v2 v3 (N.1, N.2, rT c) = emv c (F_Way_lookAhead c v1 v2 v3 N) := by
  unfold f_Way_lookAhead F_Way_lookAhead
  try simp only [my_ite, my_hg]
  simp only [hl_n', hl_wI', hl_wL', hl_cp', em_s', em_n', em_my, em_l', em_b, em_v, emv_s', emv_n', emv_my, emv_l', emv_b, emv_v, hb_em, hv_em, my_T, my_F, ne_eq, not_false_eq_true, nz_c, S0_c, S0_lw, S0_h, isHold_36, hc, hc.d, hc.l, hc.d.l, nz_1, nz_2, nz_3, nz_4, nz_5, nz_6, nz_7, nz_8, S0_51, ib_52, ib_53, q_Way_nextFrom hc, q_Way_stepsOver hc, rT_51_0, rT_51_1, q_Way_lookAhead_1 hc]
set_option maxRecDepth 100000 in
set_option maxHeartbeats 400000 in
theorem q_Way_find_5 {c : Nat} (hc : isChap c) {s0 : Int32} {N : hn} : b_Way_find_5 S0 s0 51 (N.1, N.2, rT c) = emv c (B_Way_find_5 c s0 N) := by
  unfold b_Way_find_5 B_Way_find_5
  try simp only [my_ite, my_hg]
  simp only [hl_n', hl_wI', hl_wL', hl_cp', em_s', em_n', em_my, em_l', em_b, em_v, emv_s', emv_n', emv_my, emv_l', emv_b, emv_v, hb_em, hv_em, my_T, my_F, ne_eq, not_false_eq_true, nz_c, S0_c, S0_lw, S0_h, isHold_36, hc, hc.d, hc.l, hc.d.l, nz_1, nz_2, nz_3, nz_4, nz_5, nz_6, nz_7, nz_8, S0_19, S0_51, ib_52, ib_53, ib_54, q_Light_placesOf hc, q_Light_turnTo hc, q_Way_floorOf hc, q_Way_lookAhead hc, q_Way_nextFrom hc, rT_19_0, rT_51_0, rT_51_1, rT_51_2]
set_option maxRecDepth 100000 in
set_option maxHeartbeats 400000 in
theorem r_Way_find_4 {c : Nat} (hc : isChap c) {k105 : Nat → Int32 → Int32 → Int32 → hm_M → Option hm_M} {K105 : Int32 → Int32 → Int32 → hn → Option hn} (hk105 : ∀ (v5 : Int32) (v8 : Int32) (v9 : Int32) (N : hn), k105 51 v5 v8 v9 (N.1, N.2, rT c) = emv c (K105 v5 v8 v9 N)) {v5 : Int32} {v8 : Int32} {v9 : Int32} {N : hn} : b_Way_find_4 S0 k105 51 v5 v8 v9 (N.1, N.2, rT c) = emv c (B_Way_find_4 c K105 v5 v8 v9 N) := by
  unfold b_Way_find_4 B_Way_find_4
  try simp only [my_ite, my_hg]
  simp only [hl_n', hl_wI', hl_wL', hl_cp', em_s', em_n', em_my, em_l', em_b, em_v, emv_s', emv_n', emv_my, emv_l', emv_b, emv_v, hb_em, hv_em, my_T, my_F, ne_eq, not_false_eq_true, nz_c, S0_c, S0_lw, S0_h, isHold_36, hc, hc.d, hc.l, hc.d.l, nz_1, nz_2, nz_3, nz_4, nz_5, nz_6, nz_7, nz_8, S0_19, S0_51, ib_52, ib_53, ib_54, q_Light_placesOf hc, q_Light_turnTo hc, q_Way_floorOf hc, q_Way_lookAhead hc, q_Way_nextFrom hc, rT_19_0, rT_51_0, rT_51_1, rT_51_2, hk105, q_Way_find_5 hc]
theorem q_Way_find_4 {c : Nat} (hc : isChap c) : ∀ (n : Nat) (v5 : Int32) (v8 : Int32) (v9 : Int32) (N : hn), f_Way_find_4 S0 n 51 v5 v8 v9 (N.1, N.2, rT c) = emv c (F_Way_find_4 c n v5 v8 v9 N) := by
  intro n
  induction n with
  | zero => intros; rfl
  | succ n ih => intro v5 v8 v9 N ; exact r_Way_find_4 hc  ih
set_option maxRecDepth 100000 in
set_option maxHeartbeats 400000 in
theorem r_Way_find_3 {c : Nat} (hc : isChap c) {k76 : Nat → Int32 → Int64 → Int32 → hm_M → Option hm_M} {K76 : Int32 → Int64 → Int32 → hn → Option hn} (hk76 : ∀ (v5 : Int32) (v6 : Int64) (v8 : Int32) (N : hn), k76 51 v5 v6 v8 (N.1, N.2, rT c) = emv c (K76 v5 v6 v8 N)) {v5 : Int32} {v6 : Int64} {v8 : Int32} {N : hn} : b_Way_find_3 S0 k76 51 v5 v6 v8 (N.1, N.2, rT c) = emv c (B_Way_find_3 c K76 v5 v6 v8 N) := by
  unfold b_Way_find_3 B_Way_find_3
  try simp only [my_ite, my_hg]
  simp only [hl_n', hl_wI', hl_wL', hl_cp', em_s', em_n', em_my, em_l', em_b, em_v, emv_s', emv_n', emv_my, emv_l', emv_b, emv_v, hb_em, hv_em, my_T, my_F, ne_eq, not_false_eq_true, nz_c, S0_c, S0_lw, S0_h, isHold_36, hc, hc.d, hc.l, hc.d.l, nz_1, nz_2, nz_3, nz_4, nz_5, nz_6, nz_7, nz_8, S0_19, S0_51, ib_52, ib_53, ib_54, q_Light_placesOf hc, q_Light_turnTo hc, q_Way_floorOf hc, q_Way_lookAhead hc, q_Way_nextFrom hc, rT_19_0, rT_51_0, rT_51_1, rT_51_2, hk76, q_Way_find_5 hc, q_Way_find_4 hc]
theorem q_Way_find_3 {c : Nat} (hc : isChap c) : ∀ (n : Nat) (v5 : Int32) (v6 : Int64) (v8 : Int32) (N : hn), f_Way_find_3 S0 n 51 v5 v6 v8 (N.1, N.2, rT c) = emv c (F_Way_find_3 c n v5 v6 v8 N) := by
  intro n
  induction n with
  | zero => intros; rfl
  | succ n ih => intro v5 v6 v8 N ; exact r_Way_find_3 hc  ih
set_option maxRecDepth 100000 in
set_option maxHeartbeats 400000 in
theorem q_Way_find_2 {c : Nat} (hc : isChap c) {k21 : Nat → Nat → Int32 → Int32 → Int32 → Int64 → Int32 → hm_M → Option hm_M} {K21 : Int32 → Int32 → Int32 → Int64 → Int32 → hn → Option hn} (hk21 : ∀ (v2 : Int32) (v3 : Int32) (v5 : Int32) (v6 : Int64) (v8 : Int32) (N : hn), k21 51 19 v2 v3 v5 v6 v8 (N.1, N.2, rT c) = emv c (K21 v2 v3 v5 v6 v8 N)) {v2 : Int32} {v3 : Int32} {v5 : Int32} {v6 : Int64} {v8 : Int32} {s0 : Int64} {s1 : Int32} {N : hn} : b_Way_find_2 S0 k21 51 19 v2 v3 v5 v6 v8 s0 s1 52 (N.1, N.2, rT c) = emv c (B_Way_find_2 c K21 v2 v3 v5 v6 v8 s0 s1 N) := by
  unfold b_Way_find_2 B_Way_find_2
  try simp only [my_ite, my_hg]
  simp only [hl_n', hl_wI', hl_wL', hl_cp', em_s', em_n', em_my, em_l', em_b, em_v, emv_s', emv_n', emv_my, emv_l', emv_b, emv_v, hb_em, hv_em, my_T, my_F, ne_eq, not_false_eq_true, nz_c, S0_c, S0_lw, S0_h, isHold_36, hc, hc.d, hc.l, hc.d.l, nz_1, nz_2, nz_3, nz_4, nz_5, nz_6, nz_7, nz_8, S0_19, S0_51, ib_52, ib_53, ib_54, q_Light_placesOf hc, q_Light_turnTo hc, q_Way_floorOf hc, q_Way_lookAhead hc, q_Way_nextFrom hc, rT_19_0, rT_51_0, rT_51_1, rT_51_2, hk21, q_Way_find_5 hc, q_Way_find_4 hc, q_Way_find_3 hc]
set_option maxRecDepth 100000 in
set_option maxHeartbeats 400000 in
theorem r_Way_find_1 {c : Nat} (hc : isChap c) {k21 : Nat → Nat → Int32 → Int32 → Int32 → Int64 → Int32 → hm_M → Option hm_M} {K21 : Int32 → Int32 → Int32 → Int64 → Int32 → hn → Option hn} (hk21 : ∀ (v2 : Int32) (v3 : Int32) (v5 : Int32) (v6 : Int64) (v8 : Int32) (N : hn), k21 51 19 v2 v3 v5 v6 v8 (N.1, N.2, rT c) = emv c (K21 v2 v3 v5 v6 v8 N)) {v2 : Int32} {v3 : Int32} {v5 : Int32} {v6 : Int64} {v8 : Int32} {N : hn} : b_Way_find_1 S0 k21 51 19 v2 v3 v5 v6 v8 (N.1, N.2, rT c) = emv c (B_Way_find_1 c K21 v2 v3 v5 v6 v8 N) := by
  unfold b_Way_find_1 B_Way_find_1
  try simp only [my_ite, my_hg]
  simp only [hl_n', hl_wI', hl_wL', hl_cp', em_s', em_n', em_my, em_l', em_b, em_v, emv_s', emv_n', emv_my, emv_l', emv_b, emv_v, hb_em, hv_em, my_T, my_F, ne_eq, not_false_eq_true, nz_c, S0_c, S0_lw, S0_h, isHold_36, hc, hc.d, hc.l, hc.d.l, nz_1, nz_2, nz_3, nz_4, nz_5, nz_6, nz_7, nz_8, S0_19, S0_51, ib_52, ib_53, ib_54, q_Light_placesOf hc, q_Light_turnTo hc, q_Way_floorOf hc, q_Way_lookAhead hc, q_Way_nextFrom hc, rT_19_0, rT_51_0, rT_51_1, rT_51_2, hk21, q_Way_find_5 hc, q_Way_find_4 hc, q_Way_find_3 hc, q_Way_find_2 hc hk21]
theorem q_Way_find_1 {c : Nat} (hc : isChap c) : ∀ (n : Nat) (v2 : Int32) (v3 : Int32) (v5 : Int32) (v6 : Int64) (v8 : Int32) (N : hn), f_Way_find_1 S0 n 51 19 v2 v3 v5 v6 v8 (N.1, N.2, rT c) = emv c (F_Way_find_1 c n v2 v3 v5 v6 v8 N) := by
  intro n
  induction n with
  | zero => intros; rfl
  | succ n ih => intro v2 v3 v5 v6 v8 N ; exact r_Way_find_1 hc  ih
set_option maxRecDepth 100000 in
set_option maxHeartbeats 400000 in
theorem q_Way_find {c : Nat} (hc : isChap c) {v2 : Int32} {v3 : Int32} {v4 : Int32} {N : hn} : f_Way_find S0 51 19 v2 v3 v4 (N.1, N.2, rT c) = emv c (F_Way_find c v2 v3 v4 N) := by
  unfold f_Way_find F_Way_find
  try simp only [my_ite, my_hg]
  simp only [hl_n', hl_wI', hl_wL', hl_cp', em_s', em_n', em_my, em_l', em_b, em_v, emv_s', emv_n', emv_my, emv_l', emv_b, emv_v, hb_em, hv_em, my_T, my_F, ne_eq, not_false_eq_true, nz_c, S0_c, S0_lw, S0_h, isHold_36, hc, hc.d, hc.l, hc.d.l, nz_1, nz_2, nz_3, nz_4, nz_5, nz_6, nz_7, nz_8, S0_19, S0_51, ib_52, ib_53, ib_54, q_Light_placesOf hc, q_Light_turnTo hc, q_Way_floorOf hc, q_Way_lookAhead hc, q_Way_nextFrom hc, rT_19_0, rT_51_0, rT_51_1, rT_51_2, q_Way_find_1 hc, q_Way_find_3 hc, q_Way_find_4 hc, q_Way_find_5 hc]
set_option maxRecDepth 100000 in
set_option maxHeartbeats 400000 in
theorem q_Ps_isPane {c : Nat} (hc : isChap c) {v1 : Int32} {N : hn} : f_Ps_isPane S0 1 v1 (N.1, N.2, rT c) = em c (F_Ps_isPane c v1 N) := by
  unfold f_Ps_isPane F_Ps_isPane
  try simp only [my_ite, my_hg]
  simp only [hl_n', hl_wI', hl_wL', hl_cp', em_s', em_n', em_my, em_l', em_b, em_v, emv_s', emv_n', emv_my, emv_l', emv_b, emv_v, hb_em, hv_em, my_T, my_F, ne_eq, not_false_eq_true, nz_c, S0_c, S0_lw, S0_h, isHold_36, hc, hc.d, hc.l, hc.d.l, nz_1, nz_2, nz_3, nz_4, nz_5, nz_6, nz_7, nz_8, S0_1, S0_19, rT_19_0, rT_1_1]
set_option maxRecDepth 100000 in
set_option maxHeartbeats 400000 in
theorem q_Hold_lit {c : Nat} (hc : isChap c) {v0 : Nat} (hv0 : isHold v0) {N : hn} : f_Hold_lit S0 v0 (N.1, N.2, rT c) = em c (F_Hold_lit c v0 N) := by
  unfold f_Hold_lit F_Hold_lit
  try simp only [my_ite, my_hg]
  simp only [hl_n', hl_wI', hl_wL', hl_cp', em_s', em_n', em_my, em_l', em_b, em_v, emv_s', emv_n', emv_my, emv_l', emv_b, emv_v, hb_em, hv_em, my_T, my_F, ne_eq, not_false_eq_true, nz_c, S0_c, S0_lw, S0_h, isHold_36, hc, hc.d, hc.l, hc.d.l, nz_1, nz_2, nz_3, nz_4, nz_5, nz_6, nz_7, nz_8, hv0]
set_option maxRecDepth 100000 in
set_option maxHeartbeats 400000 in
theorem r_Light_panesOn_1 {c : Nat} (hc : isChap c) {k5 : Nat → Int32 → Int32 → Int32 → Int32 → hm_M → Option (Int32 × hm_M)} {K5 : Int32 → Int32 → Int32 → Int32 → hn → Option (Int32 × hn)} (hk5 : ∀ (v1 : Int32) (v2 : Int32) (v3 : Int32) (v4 : Int32) (N : hn), k5 19 v1 v2 v3 v4 (N.1, N.2, rT c) = em c (K5 v1 v2 v3 v4 N)) {v1 : Int32} {v2 : Int32} {v3 : Int32} {v4 : Int32} {N : hn} : b_Light_panesOn_1 S0 k5 19 v1 v2 v3 v4 (N.1, N.2, rT c) = em c (B_Light_panesOn_1 c K5 v1 v2 v3 v4 N) := by
  unfold b_Light_panesOn_1 B_Light_panesOn_1
  try simp only [my_ite, my_hg]
  simp only [hl_n', hl_wI', hl_wL', hl_cp', em_s', em_n', em_my, em_l', em_b, em_v, emv_s', emv_n', emv_my, emv_l', emv_b, emv_v, hb_em, hv_em, my_T, my_F, ne_eq, not_false_eq_true, nz_c, S0_c, S0_lw, S0_h, isHold_36, hc, hc.d, hc.l, hc.d.l, nz_1, nz_2, nz_3, nz_4, nz_5, nz_6, nz_7, nz_8, S0_19, ib_34, rT_19_1, hk5]
theorem q_Light_panesOn_1 {c : Nat} (hc : isChap c) : ∀ (n : Nat) (v1 : Int32) (v2 : Int32) (v3 : Int32) (v4 : Int32) (N : hn), f_Light_panesOn_1 S0 n 19 v1 v2 v3 v4 (N.1, N.2, rT c) = em c (F_Light_panesOn_1 c n v1 v2 v3 v4 N) := by
  intro n
  induction n with
  | zero => intros; rfl
  | succ n ih => intro v1 v2 v3 v4 N ; exact r_Light_panesOn_1 hc  ih
set_option maxRecDepth 100000 in
set_option maxHeartbeats 400000 in
theorem q_Light_panesOn {c : Nat} (hc : isChap c) {v1 : Int32} {v2 : Int32} {N : hn} : f_Light_panesOn S0 19 v1 v2 (N.1, N.2, rT c) = em c (F_Light_panesOn c v1 v2 N) := by
  unfold f_Light_panesOn F_Light_panesOn
  try simp only [my_ite, my_hg]
  simp only [hl_n', hl_wI', hl_wL', hl_cp', em_s', em_n', em_my, em_l', em_b, em_v, emv_s', emv_n', emv_my, emv_l', emv_b, emv_v, hb_em, hv_em, my_T, my_F, ne_eq, not_false_eq_true, nz_c, S0_c, S0_lw, S0_h, isHold_36, hc, hc.d, hc.l, hc.d.l, nz_1, nz_2, nz_3, nz_4, nz_5, nz_6, nz_7, nz_8, S0_19, ib_34, rT_19_1, q_Light_panesOn_1 hc]
set_option maxRecDepth 100000 in
set_option maxHeartbeats 400000 in
theorem q_Laws_lookAtSpot {c : Nat} (hc : isChap c) {v0 : Nat} {v1 : Int32} {v2 : Int32} (hv0 : isLaws v0) {N : hn} : f_Laws_lookAtSpot S0 v0 v1 v2 (N.1, N.2, rT c) = emv c (F_Laws_lookAtSpot c v0 v1 v2 N) := by
  unfold f_Laws_lookAtSpot F_Laws_lookAtSpot
  try simp only [my_ite, my_hg]
  simp only [hl_n', hl_wI', hl_wL', hl_cp', em_s', em_n', em_my, em_l', em_b, em_v, emv_s', emv_n', emv_my, emv_l', emv_b, emv_v, hb_em, hv_em, my_T, my_F, ne_eq, not_false_eq_true, nz_c, S0_c, S0_lw, S0_h, isHold_36, hc, hc.d, hc.l, hc.d.l, nz_1, nz_2, nz_3, nz_4, nz_5, nz_6, nz_7, nz_8, hv0, ib_w5, rT_w5]
set_option maxRecDepth 100000 in
set_option maxHeartbeats 400000 in
theorem q_Rents_partOf {c : Nat} (hc : isChap c) {v0 : Nat} {v1 : Int32} {v2 : Int32} (hv0 : isLaws v0) {N : hn} : f_Rents_partOf S0 v0 v1 v2 (N.1, N.2, rT c) = em c (F_Rents_partOf c v0 v1 v2 N) := by
  unfold f_Rents_partOf F_Rents_partOf
  try simp only [my_ite, my_hg]
  simp only [hl_n', hl_wI', hl_wL', hl_cp', em_s', em_n', em_my, em_l', em_b, em_v, emv_s', emv_n', emv_my, emv_l', emv_b, emv_v, hb_em, hv_em, my_T, my_F, ne_eq, not_false_eq_true, nz_c, S0_c, S0_lw, S0_h, isHold_36, hc, hc.d, hc.l, hc.d.l, nz_1, nz_2, nz_3, nz_4, nz_5, nz_6, nz_7, nz_8, hv0, S0_43, q_Laws_lookAtSpot hc, q_Laws_valueOf hc]
set_option maxRecDepth 100000 in
set_option maxHeartbeats 400000 in
theorem r_Rents_shareOut_2 {c : Nat} (hc : isChap c) {k6 : Nat → Nat → Int32 → Int32 → Int32 → Int32 → hm_M → Option hm_M} {K6 : Int32 → Int32 → Int32 → Int32 → hn → Option hn} (hk6 : ∀ (v2 : Int32) (v3 : Int32) (v4 : Int32) (v5 : Int32) (N : hn), k6 43 19 v2 v3 v4 v5 (N.1, N.2, rT c) = emv c (K6 v2 v3 v4 v5 N)) {k82 : Nat → Nat → Int32 → Int32 → Int32 → Int32 → Int32 → Int32 → Int32 → hm_M → Option hm_M} {K82 : Int32 → Int32 → Int32 → Int32 → Int32 → Int32 → Int32 → hn → Option hn} (hk82 : ∀ (v2 : Int32) (v3 : Int32) (v4 : Int32) (v5 : Int32) (v6 : Int32) (v7 : Int32) (v8 : Int32) (N : hn), k82 43 19 v2 v3 v4 v5 v6 v7 v8 (N.1, N.2, rT c) = emv c (K82 v2 v3 v4 v5 v6 v7 v8 N)) {v2 : Int32} {v3 : Int32} {v4 : Int32} {v5 : Int32} {v6 : Int32} {v7 : Int32} {v8 : Int32} {N : hn} : b_Rents_shareOut_2 S0 k6 k82 43 19 v2 v3 v4 v5 v6 v7 v8 (N.1, N.2, rT c) = emv c (B_Rents_shareOut_2 c K6 K82 v2 v3 v4 v5 v6 v7 v8 N) := by
  unfold b_Rents_shareOut_2 B_Rents_shareOut_2
  try simp only [my_ite, my_hg]
  simp only [hl_n', hl_wI', hl_wL', hl_cp', em_s', em_n', em_my, em_l', em_b, em_v, emv_s', emv_n', emv_my, emv_l', emv_b, emv_v, hb_em, hv_em, my_T, my_F, ne_eq, not_false_eq_true, nz_c, S0_c, S0_lw, S0_h, isHold_36, hc, hc.d, hc.l, hc.d.l, nz_1, nz_2, nz_3, nz_4, nz_5, nz_6, nz_7, nz_8, S0_19, S0_43, ib_34, ib_44, q_J6_bitCount_0f7a4 hc, q_Light_panesOn hc, q_Rents_partOf hc, rT_19_0, rT_19_1, rT_43_0, rT_c12, hk6, hk82]
theorem q_Rents_shareOut_2 {c : Nat} (hc : isChap c) {k6 : Nat → Nat → Int32 → Int32 → Int32 → Int32 → hm_M → Option hm_M} {K6 : Int32 → Int32 → Int32 → Int32 → hn → Option hn} (hk6 : ∀ (v2 : Int32) (v3 : Int32) (v4 : Int32) (v5 : Int32) (N : hn), k6 43 19 v2 v3 v4 v5 (N.1, N.2, rT c) = emv c (K6 v2 v3 v4 v5 N)) : ∀ (n : Nat) (v2 : Int32) (v3 : Int32) (v4 : Int32) (v5 : Int32) (v6 : Int32) (v7 : Int32) (v8 : Int32) (N : hn), f_Rents_shareOut_2 S0 k6 n 43 19 v2 v3 v4 v5 v6 v7 v8 (N.1, N.2, rT c) = emv c (F_Rents_shareOut_2 c K6 n v2 v3 v4 v5 v6 v7 v8 N) := by
  intro n
  induction n with
  | zero => intros; rfl
  | succ n ih => intro v2 v3 v4 v5 v6 v7 v8 N ; exact r_Rents_shareOut_2 hc hk6 ih
set_option maxRecDepth 100000 in
set_option maxHeartbeats 400000 in
theorem r_Rents_shareOut_1 {c : Nat} (hc : isChap c) {k6 : Nat → Nat → Int32 → Int32 → Int32 → Int32 → hm_M → Option hm_M} {K6 : Int32 → Int32 → Int32 → Int32 → hn → Option hn} (hk6 : ∀ (v2 : Int32) (v3 : Int32) (v4 : Int32) (v5 : Int32) (N : hn), k6 43 19 v2 v3 v4 v5 (N.1, N.2, rT c) = emv c (K6 v2 v3 v4 v5 N)) {v2 : Int32} {v3 : Int32} {v4 : Int32} {v5 : Int32} {N : hn} : b_Rents_shareOut_1 S0 k6 43 19 v2 v3 v4 v5 (N.1, N.2, rT c) = emv c (B_Rents_shareOut_1 c K6 v2 v3 v4 v5 N) := by
  unfold b_Rents_shareOut_1 B_Rents_shareOut_1
  try simp only [my_ite, my_hg]
  simp only [hl_n', hl_wI', hl_wL', hl_cp', em_s', em_n', em_my, em_l', em_b, em_v, emv_s', emv_n', emv_my, emv_l', emv_b, emv_v, hb_em, hv_em, my_T, my_F, ne_eq, not_false_eq_true, nz_c, S0_c, S0_lw, S0_h, isHold_36, hc, hc.d, hc.l, hc.d.l, nz_1, nz_2, nz_3, nz_4, nz_5, nz_6, nz_7, nz_8, S0_19, S0_43, ib_34, ib_44, q_J6_bitCount_0f7a4 hc, q_Light_panesOn hc, q_Rents_partOf hc, rT_19_0, rT_19_1, rT_43_0, rT_c12, hk6, q_Rents_shareOut_2 hc hk6]
theorem q_Rents_shareOut_1 {c : Nat} (hc : isChap c) : ∀ (n : Nat) (v2 : Int32) (v3 : Int32) (v4 : Int32) (v5 : Int32) (N : hn), f_Rents_shareOut_1 S0 n 43 19 v2 v3 v4 v5 (N.1, N.2, rT c) = emv c (F_Rents_shareOut_1 c n v2 v3 v4 v5 N) := by
  intro n
  induction n with
  | zero => intros; rfl
  | succ n ih => intro v2 v3 v4 v5 N ; exact r_Rents_shareOut_1 hc  ih
set_option maxRecDepth 100000 in
set_option maxHeartbeats 400000 in
theorem q_Rents_shareOut {c : Nat} (hc : isChap c) {v2 : Int32} {v3 : Int32} {N : hn} : f_Rents_shareOut S0 43 19 v2 v3 (N.1, N.2, rT c) = emv c (F_Rents_shareOut c v2 v3 N) := by
  unfold f_Rents_shareOut F_Rents_shareOut
  try simp only [my_ite, my_hg]
  simp only [hl_n', hl_wI', hl_wL', hl_cp', em_s', em_n', em_my, em_l', em_b, em_v, emv_s', emv_n', emv_my, emv_l', emv_b, emv_v, hb_em, hv_em, my_T, my_F, ne_eq, not_false_eq_true, nz_c, S0_c, S0_lw, S0_h, isHold_36, hc, hc.d, hc.l, hc.d.l, nz_1, nz_2, nz_3, nz_4, nz_5, nz_6, nz_7, nz_8, S0_19, S0_43, ib_34, ib_44, q_J6_bitCount_0f7a4 hc, q_Light_panesOn hc, q_Rents_partOf hc, rT_19_0, rT_19_1, rT_43_0, rT_c12, q_Rents_shareOut_1 hc]
set_option maxRecDepth 100000 in
set_option maxHeartbeats 400000 in
theorem r_Rents_measure_2 {c : Nat} (hc : isChap c) {k37 : Nat → Nat → Int32 → Int32 → Int32 → Int64 → Int32 → hm_M → Option hm_M} {K37 : Int32 → Int32 → Int32 → Int64 → Int32 → hn → Option hn} (hk37 : ∀ (v2 : Int32) (v4 : Int32) (v5 : Int32) (v6 : Int64) (v8 : Int32) (N : hn), k37 43 19 v2 v4 v5 v6 v8 (N.1, N.2, rT c) = emv c (K37 v2 v4 v5 v6 v8 N)) {v2 : Int32} {v4 : Int32} {v5 : Int32} {v6 : Int64} {v8 : Int32} {N : hn} : b_Rents_measure_2 S0 k37 43 19 v2 v4 v5 v6 v8 (N.1, N.2, rT c) = emv c (B_Rents_measure_2 c K37 v2 v4 v5 v6 v8 N) := by
  unfold b_Rents_measure_2 B_Rents_measure_2
  try simp only [my_ite, my_hg]
  simp only [hl_n', hl_wI', hl_wL', hl_cp', em_s', em_n', em_my, em_l', em_b, em_v, emv_s', emv_n', emv_my, emv_l', emv_b, emv_v, hb_em, hv_em, my_T, my_F, ne_eq, not_false_eq_true, nz_c, S0_c, S0_lw, S0_h, isHold_36, hc, hc.d, hc.l, hc.d.l, nz_1, nz_2, nz_3, nz_4, nz_5, nz_6, nz_7, nz_8, S0_19, S0_43, ib_44, q_Light_turnTo hc, q_Rents_shareOut hc, rT_43_0, hk37]
theorem q_Rents_measure_2 {c : Nat} (hc : isChap c) : ∀ (n : Nat) (v2 : Int32) (v4 : Int32) (v5 : Int32) (v6 : Int64) (v8 : Int32) (N : hn), f_Rents_measure_2 S0 n 43 19 v2 v4 v5 v6 v8 (N.1, N.2, rT c) = emv c (F_Rents_measure_2 c n v2 v4 v5 v6 v8 N) := by
  intro n
  induction n with
  | zero => intros; rfl
  | succ n ih => intro v2 v4 v5 v6 v8 N ; exact r_Rents_measure_2 hc  ih
set_option maxRecDepth 100000 in
set_option maxHeartbeats 400000 in
theorem r_Rents_measure_1 {c : Nat} (hc : isChap c) {k3 : Nat → Nat → Int32 → Int32 → Int32 → Int32 → Int32 → hm_M → Option hm_M} {K3 : Int32 → Int32 → Int32 → Int32 → Int32 → hn → Option hn} (hk3 : ∀ (v2 : Int32) (v3 : Int32) (v4 : Int32) (v5 : Int32) (v6 : Int32) (N : hn), k3 43 19 v2 v3 v4 v5 v6 (N.1, N.2, rT c) = emv c (K3 v2 v3 v4 v5 v6 N)) {v2 : Int32} {v3 : Int32} {v4 : Int32} {v5 : Int32} {v6 : Int32} {N : hn} : b_Rents_measure_1 S0 k3 43 19 v2 v3 v4 v5 v6 (N.1, N.2, rT c) = emv c (B_Rents_measure_1 c K3 v2 v3 v4 v5 v6 N) := by
  unfold b_Rents_measure_1 B_Rents_measure_1
  try simp only [my_ite, my_hg]
  simp only [hl_n', hl_wI', hl_wL', hl_cp', em_s', em_n', em_my, em_l', em_b, em_v, emv_s', emv_n', emv_my, emv_l', emv_b, emv_v, hb_em, hv_em, my_T, my_F, ne_eq, not_false_eq_true, nz_c, S0_c, S0_lw, S0_h, isHold_36, hc, hc.d, hc.l, hc.d.l, nz_1, nz_2, nz_3, nz_4, nz_5, nz_6, nz_7, nz_8, S0_19, S0_43, ib_44, q_Light_turnTo hc, q_Rents_shareOut hc, rT_43_0, hk3, q_Rents_measure_2 hc]
theorem q_Rents_measure_1 {c : Nat} (hc : isChap c) : ∀ (n : Nat) (v2 : Int32) (v3 : Int32) (v4 : Int32) (v5 : Int32) (v6 : Int32) (N : hn), f_Rents_measure_1 S0 n 43 19 v2 v3 v4 v5 v6 (N.1, N.2, rT c) = emv c (F_Rents_measure_1 c n v2 v3 v4 v5 v6 N) := by
  intro n
  induction n with
  | zero => intros; rfl
  | succ n ih => intro v2 v3 v4 v5 v6 N ; exact r_Rents_measure_1 hc  ih
set_option maxRecDepth 100000 in
set_option maxHeartbeats 400000 in
theorem q_Rents_measure {c : Nat} (hc : isChap c) {v2 : Int32} {v3 : Int32} {v4 : Int32} {v5 : Int32} {N : hn} : f_Rents_measure S0 43 19 v2 v3 v4 v5 (N.1, N.2, rT c) = emv c (F_Rents_measure c v2 v3 v4 v5 N) := by
  unfold f_Rents_measure F_Rents_measure
  try simp only [my_ite, my_hg]
  simp only [hl_n', hl_wI', hl_wL', hl_cp', em_s', em_n', em_my, em_l', em_b, em_v, emv_s', emv_n', emv_my, emv_l', emv_b, emv_v, hb_em, hv_em, my_T, my_F, ne_eq, not_false_eq_true, nz_c, S0_c, S0_lw, S0_h, isHold_36, hc, hc.d, hc.l, hc.d.l, nz_1, nz_2, nz_3, nz_4, nz_5, nz_6, nz_7, nz_8, S0_19, S0_43, ib_44, q_Light_turnTo hc, q_Rents_shareOut hc, rT_43_0, q_Rents_measure_1 hc, q_Rents_measure_2 hc]
set_option maxRecDepth 100000 in
set_option maxHeartbeats 400000 in
theorem q_Rents_yearOf_2 {c : Nat} (hc : isChap c) {v2 : Int32} {N : hn} : b_Rents_yearOf_2 S0 43 19 v2 (N.1, N.2, rT c) = em c (B_Rents_yearOf_2 c v2 N) := by
  unfold b_Rents_yearOf_2 B_Rents_yearOf_2
  try simp only [my_ite, my_hg]
  simp only [hl_n', hl_wI', hl_wL', hl_cp', em_s', em_n', em_my, em_l', em_b, em_v, emv_s', emv_n', emv_my, emv_l', emv_b, emv_v, hb_em, hv_em, my_T, my_F, ne_eq, not_false_eq_true, nz_c, S0_c, S0_lw, S0_h, isHold_36, hc, hc.d, hc.l, hc.d.l, nz_1, nz_2, nz_3, nz_4, nz_5, nz_6, nz_7, nz_8, S0_43, ib_45, q_Rents_measure hc, rT_43_1]
set_option maxRecDepth 100000 in
set_option maxHeartbeats 400000 in
theorem r_Rents_yearOf_1 {c : Nat} (hc : isChap c) {k2 : Nat → Nat → Int32 → Int32 → hm_M → Option (Int32 × hm_M)} {K2 : Int32 → Int32 → hn → Option (Int32 × hn)} (hk2 : ∀ (v2 : Int32) (v3 : Int32) (N : hn), k2 43 19 v2 v3 (N.1, N.2, rT c) = em c (K2 v2 v3 N)) {v2 : Int32} {v3 : Int32} {N : hn} : b_Rents_yearOf_1 S0 k2 43 19 v2 v3 (N.1, N.2, rT c) = em c (B_Rents_yearOf_1 c K2 v2 v3 N) := by
  unfold b_Rents_yearOf_1 B_Rents_yearOf_1
  try simp only [my_ite, my_hg]
  simp only [hl_n', hl_wI', hl_wL', hl_cp', em_s', em_n', em_my, em_l', em_b, em_v, emv_s', emv_n', emv_my, emv_l', emv_b, emv_v, hb_em, hv_em, my_T, my_F, ne_eq, not_false_eq_true, nz_c, S0_c, S0_lw, S0_h, isHold_36, hc, hc.d, hc.l, hc.d.l, nz_1, nz_2, nz_3, nz_4, nz_5, nz_6, nz_7, nz_8, S0_43, ib_45, q_Rents_measure hc, rT_43_1, hk2, q_Rents_yearOf_2 hc]
