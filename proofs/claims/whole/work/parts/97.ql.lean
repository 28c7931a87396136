/-! the resolved layer is right (by program) -/
theorem q_Md_findMay_1 {c : Nat} (hc : isChap c) : ∀ (n : Nat) (v1 : Int32) (v4 : Int32) (v5 : Int32) (v6 : Int32) (N : hn), f_Md_findMay_1 S0 n 76 v1 v4 v5 v6 (N.1, N.2, rT c) = emv c (F_Md_findMay_1 c n v1 v4 v5 v6 N) := by
  intro n
  induction n with
  | zero => intros; rfl
  | succ n ih => intro v1 v4 v5 v6 N ; exact r_Md_findMay_1 hc  ih
set_option maxRecDepth 100000 in
set_option maxHeartbeats 400000 in
theorem q_Md_findMay {c : Nat} (hc : isChap c) {v1 : Int32} {v2 : Int32} {v3 : Int32} {v4 : Int32} {N : hn} : f_Md_findMay S0 76 v1 v2 v3 v4 (N.1, N.2, rT c) = emv c (F_Md_findMay c v1 v2 v3 v4 N) := by
  unfold f_Md_findMay F_Md_findMay
  try simp only [my_ite, my_hg]
  simp only [hl_n', hl_wI', hl_wL', hl_cp', em_s', em_n', em_my, em_l', em_b, em_v, emv_s', emv_n', emv_my, emv_l', emv_b, emv_v, hb_em, hv_em, my_T, my_F, ne_eq, not_false_eq_true, nz_c, S0_c, S0_lw, S0_h, isHold_36, hc, hc.d, hc.l, hc.d.l, nz_1, nz_2, nz_3, nz_4, nz_5, nz_6, nz_7, nz_8, S0_76, ib_95, q_Md_findLight hc, q_Md_isPlace hc, q_Md_lightAt hc, rT_76_30, q_Md_findMay_1 hc, q_Md_findMay_6 hc]
set_option maxRecDepth 100000 in
set_option maxHeartbeats 400000 in
theorem q_Md_steps_2 {c : Nat} (hc : isChap c) {s0 : Int32} {s1 : Int32} {N : hn} : b_Md_steps_2 S0 s0 s1 (N.1, N.2, rT c) = em c (B_Md_steps_2 c s0 s1 N) := by
  unfold b_Md_steps_2 B_Md_steps_2
  try simp only [my_ite, my_hg]
  simp only [hl_n', hl_wI', hl_wL', hl_cp', em_s', em_n', em_my, em_l', em_b, em_v, emv_s', emv_n', emv_my, emv_l', emv_b, emv_v, hb_em, hv_em, my_T, my_F, ne_eq, not_false_eq_true, nz_c, S0_c, S0_lw, S0_h, isHold_36, hc, hc.d, hc.l, hc.d.l, nz_1, nz_2, nz_3, nz_4, nz_5, nz_6, nz_7, nz_8, S0_76]
set_option maxRecDepth 100000 in
set_option maxHeartbeats 400000 in
theorem q_Md_steps_1 {c : Nat} (hc : isChap c) {v3 : Int32} {s0 : Int32} {N : hn} : b_Md_steps_1 S0 v3 s0 (N.1, N.2, rT c) = em c (B_Md_steps_1 c v3 s0 N) := by
  unfold b_Md_steps_1 B_Md_steps_1
  try simp only [my_ite, my_hg]
  simp only [hl_n', hl_wI', hl_wL', hl_cp', em_s', em_n', em_my, em_l', em_b, em_v, emv_s', emv_n', emv_my, emv_l', emv_b, emv_v, hb_em, hv_em, my_T, my_F, ne_eq, not_false_eq_true, nz_c, S0_c, S0_lw, S0_h, isHold_36, hc, hc.d, hc.l, hc.d.l, nz_1, nz_2, nz_3, nz_4, nz_5, nz_6, nz_7, nz_8, S0_76, q_Md_steps_2 hc]
set_option maxRecDepth 100000 in
set_option maxHeartbeats 400000 in
theorem q_Md_steps {c : Nat} (hc : isChap c) {v0 : Int32} {v1 : Int32} {N : hn} : f_Md_steps S0 v0 v1 (N.1, N.2, rT c) = em c (F_Md_steps c v0 v1 N) := by
  unfold f_Md_steps F_Md_steps
  try simp only [my_ite, my_hg]
  simp only [hl_n', hl_wI', hl_wL', hl_cp', em_s', em_n', em_my, em_l', em_b, em_v, emv_s', emv_n', emv_my, emv_l', emv_b, emv_v, hb_em, hv_em, my_T, my_F, ne_eq, not_false_eq_true, nz_c, S0_c, S0_lw, S0_h, isHold_36, hc, hc.d, hc.l, hc.d.l, nz_1, nz_2, nz_3, nz_4, nz_5, nz_6, nz_7, nz_8, S0_76, q_Md_steps_1 hc, q_Md_steps_2 hc]
set_option maxRecDepth 100000 in
set_option maxHeartbeats 400000 in
theorem q_Md_near_2 {c : Nat} (hc : isChap c) {k6 : Nat → Int32 → Int32 → Int32 → Int32 → hm_M → Option (Int32 × hm_M)} {K6 : Nat → Int32 → Int32 → Int32 → Int32 → hn → Option (Int32 × hn)} (hk6 : ∀ (v1 : Nat) (v2 : Int32) (v3 : Int32) (v4 : Int32) (v5 : Int32) (N : hn), k6 v1 v2 v3 v4 v5 (N.1, N.2, rT c) = em c (K6 v1 v2 v3 v4 v5 N)) {v1 : Nat} {v2 : Int32} {v3 : Int32} {v5 : Int32} {s0 : Int32} {s1 : Int32} {N : hn} : b_Md_near_2 S0 k6 v1 v2 v3 v5 s0 s1 (N.1, N.2, rT c) = em c (B_Md_near_2 c K6 v1 v2 v3 v5 s0 s1 N) := by
  unfold b_Md_near_2 B_Md_near_2
  try simp only [my_ite, my_hg]
  simp only [hl_n', hl_wI', hl_wL', hl_cp', em_s', em_n', em_my, em_l', em_b, em_v, emv_s', emv_n', emv_my, emv_l', emv_b, emv_v, hb_em, hv_em, my_T, my_F, ne_eq, not_false_eq_true, nz_c, S0_c, S0_lw, S0_h, isHold_36, hc, hc.d, hc.l, hc.d.l, nz_1, nz_2, nz_3, nz_4, nz_5, nz_6, nz_7, nz_8, S0_76, q_Md_steps hc, hk6]
set_option maxRecDepth 100000 in
set_option maxHeartbeats 400000 in
theorem r_Md_near_1 {c : Nat} (hc : isChap c) {k6 : Nat → Int32 → Int32 → Int32 → Int32 → hm_M → Option (Int32 × hm_M)} {K6 : Nat → Int32 → Int32 → Int32 → Int32 → hn → Option (Int32 × hn)} (hk6 : ∀ (v1 : Nat) (v2 : Int32) (v3 : Int32) (v4 : Int32) (v5 : Int32) (N : hn), k6 v1 v2 v3 v4 v5 (N.1, N.2, rT c) = em c (K6 v1 v2 v3 v4 v5 N)) {v1 : Nat} {v2 : Int32} {v3 : Int32} {v4 : Int32} {v5 : Int32} {N : hn} : b_Md_near_1 S0 k6 v1 v2 v3 v4 v5 (N.1, N.2, rT c) = em c (B_Md_near_1 c K6 v1 v2 v3 v4 v5 N) := by
  unfold b_Md_near_1 B_Md_near_1
  try simp only [my_ite, my_hg]
  simp only [hl_n', hl_wI', hl_wL', hl_cp', em_s', em_n', em_my, em_l', em_b, em_v, emv_s', emv_n', emv_my, emv_l', emv_b, emv_v, hb_em, hv_em, my_T, my_F, ne_eq, not_false_eq_true, nz_c, S0_c, S0_lw, S0_h, isHold_36, hc, hc.d, hc.l, hc.d.l, nz_1, nz_2, nz_3, nz_4, nz_5, nz_6, nz_7, nz_8, S0_76, q_Md_steps hc, hk6, q_Md_near_2 hc hk6]
theorem q_Md_near_1 {c : Nat} (hc : isChap c) : ∀ (n : Nat) (v1 : Nat) (v2 : Int32) (v3 : Int32) (v4 : Int32) (v5 : Int32) (N : hn), f_Md_near_1 S0 n v1 v2 v3 v4 v5 (N.1, N.2, rT c) = em c (F_Md_near_1 c n v1 v2 v3 v4 v5 N) := by
  intro n
  induction n with
  | zero => intros; rfl
  | succ n ih => intro v1 v2 v3 v4 v5 N ; exact r_Md_near_1 hc  ih
set_option maxRecDepth 100000 in
set_option maxHeartbeats 400000 in
theorem q_Md_near {c : Nat} (hc : isChap c) {v1 : Nat} {v2 : Int32} {v3 : Int32} {N : hn} : f_Md_near S0 76 v1 v2 v3 (N.1, N.2, rT c) = em c (F_Md_near c v1 v2 v3 N) := by
  unfold f_Md_near F_Md_near
  try simp only [my_ite, my_hg]
  simp only [hl_n', hl_wI', hl_wL', hl_cp', em_s', em_n', em_my, em_l', em_b, em_v, emv_s', emv_n', emv_my, emv_l', emv_b, emv_v, hb_em, hv_em, my_T, my_F, ne_eq, not_false_eq_true, nz_c, S0_c, S0_lw, S0_h, isHold_36, hc, hc.d, hc.l, hc.d.l, nz_1, nz_2, nz_3, nz_4, nz_5, nz_6, nz_7, nz_8, S0_76, q_Md_steps hc, q_Md_near_1 hc]
set_option maxRecDepth 100000 in
set_option maxHeartbeats 400000 in
theorem r_Md_findStains_11 {c : Nat} (hc : isChap c) {k258 : Nat → Int32 → Int32 → hm_M → Option (Int32 × hm_M)} {K258 : Int32 → Int32 → hn → Option (Int32 × hn)} (hk258 : ∀ (v5 : Int32) (v6 : Int32) (N : hn), k258 76 v5 v6 (N.1, N.2, rT c) = em c (K258 v5 v6 N)) {v5 : Int32} {v6 : Int32} {N : hn} : b_Md_findStains_11 S0 k258 76 v5 v6 (N.1, N.2, rT c) = em c (B_Md_findStains_11 c K258 v5 v6 N) := by
  unfold b_Md_findStains_11 B_Md_findStains_11
  try simp only [my_ite, my_hg]
  simp only [hl_n', hl_wI', hl_wL', hl_cp', em_s', em_n', em_my, em_l', em_b, em_v, emv_s', emv_n', emv_my, emv_l', emv_b, emv_v, hb_em, hv_em, my_T, my_F, ne_eq, not_false_eq_true, nz_c, S0_c, S0_lw, S0_h, isHold_36, hc, hc.d, hc.l, hc.d.l, nz_1, nz_2, nz_3, nz_4, nz_5, nz_6, nz_7, nz_8, S0_76, ib_96, ib_97, ib_98, q_Md_findLight hc, q_Md_isPlace hc, q_Md_lightAt hc, q_Md_near hc, rT_76_31, rT_76_32, rT_76_33, hk258]
theorem q_Md_findStains_11 {c : Nat} (hc : isChap c) : ∀ (n : Nat) (v5 : Int32) (v6 : Int32) (N : hn), f_Md_findStains_11 S0 n 76 v5 v6 (N.1, N.2, rT c) = em c (F_Md_findStains_11 c n v5 v6 N) := by
  intro n
  induction n with
  | zero => intros; rfl
  | succ n ih => intro v5 v6 N ; exact r_Md_findStains_11 hc  ih
set_option maxRecDepth 100000 in
set_option maxHeartbeats 400000 in
theorem q_Md_findStains_10 {c : Nat} (hc : isChap c) {k178 : Nat → Int32 → hm_M → Option (Int32 × hm_M)} {K178 : Int32 → hn → Option (Int32 × hn)} (hk178 : ∀ (v5 : Int32) (N : hn), k178 76 v5 (N.1, N.2, rT c) = em c (K178 v5 N)) {k186 : Nat → Int32 → Int32 → hm_M → Option (Int32 × hm_M)} {K186 : Int32 → Int32 → hn → Option (Int32 × hn)} (hk186 : ∀ (v5 : Int32) (v6 : Int32) (N : hn), k186 76 v5 v6 (N.1, N.2, rT c) = em c (K186 v5 v6 N)) {v5 : Int32} {v6 : Int32} {s0 : Int32} {s1 : Int32} {N : hn} : b_Md_findStains_10 S0 k178 k186 76 v5 v6 s0 s1 97 (N.1, N.2, rT c) = em c (B_Md_findStains_10 c K178 K186 v5 v6 s0 s1 N) := by
  unfold b_Md_findStains_10 B_Md_findStains_10
  try simp only [my_ite, my_hg]
  simp only [hl_n', hl_wI', hl_wL', hl_cp', em_s', em_n', em_my, em_l', em_b, em_v, emv_s', emv_n', emv_my, emv_l', emv_b, emv_v, hb_em, hv_em, my_T, my_F, ne_eq, not_false_eq_true, nz_c, S0_c, S0_lw, S0_h, isHold_36, hc, hc.d, hc.l, hc.d.l, nz_1, nz_2, nz_3, nz_4, nz_5, nz_6, nz_7, nz_8, S0_76, ib_96, ib_97, ib_98, q_Md_findLight hc, q_Md_isPlace hc, q_Md_lightAt hc, q_Md_near hc, rT_76_31, rT_76_32, rT_76_33, hk178, hk186, q_Md_findStains_11 hc]
set_option maxRecDepth 100000 in
set_option maxHeartbeats 400000 in
theorem r_Md_findStains_9 {c : Nat} (hc : isChap c) {k178 : Nat → Int32 → hm_M → Option (Int32 × hm_M)} {K178 : Int32 → hn → Option (Int32 × hn)} (hk178 : ∀ (v5 : Int32) (N : hn), k178 76 v5 (N.1, N.2, rT c) = em c (K178 v5 N)) {k186 : Nat → Int32 → Int32 → hm_M → Option (Int32 × hm_M)} {K186 : Int32 → Int32 → hn → Option (Int32 × hn)} (hk186 : ∀ (v5 : Int32) (v6 : Int32) (N : hn), k186 76 v5 v6 (N.1, N.2, rT c) = em c (K186 v5 v6 N)) {v5 : Int32} {v6 : Int32} {N : hn} : b_Md_findStains_9 S0 k178 k186 76 v5 v6 (N.1, N.2, rT c) = em c (B_Md_findStains_9 c K178 K186 v5 v6 N) := by
  unfold b_Md_findStains_9 B_Md_findStains_9
  try simp only [my_ite, my_hg]
  simp only [hl_n', hl_wI', hl_wL', hl_cp', em_s', em_n', em_my, em_l', em_b, em_v, emv_s', emv_n', emv_my, emv_l', emv_b, emv_v, hb_em, hv_em, my_T, my_F, ne_eq, not_false_eq_true, nz_c, S0_c, S0_lw, S0_h, isHold_36, hc, hc.d, hc.l, hc.d.l, nz_1, nz_2, nz_3, nz_4, nz_5, nz_6, nz_7, nz_8, S0_76, ib_96, ib_97, ib_98, q_Md_findLight hc, q_Md_isPlace hc, q_Md_lightAt hc, q_Md_near hc, rT_76_31, rT_76_32, rT_76_33, hk178, hk186, q_Md_findStains_11 hc, q_Md_findStains_10 hc hk178 hk186]
theorem q_Md_findStains_9 {c : Nat} (hc : isChap c) {k178 : Nat → Int32 → hm_M → Option (Int32 × hm_M)} {K178 : Int32 → hn → Option (Int32 × hn)} (hk178 : ∀ (v5 : Int32) (N : hn), k178 76 v5 (N.1, N.2, rT c) = em c (K178 v5 N)) : ∀ (n : Nat) (v5 : Int32) (v6 : Int32) (N : hn), f_Md_findStains_9 S0 k178 n 76 v5 v6 (N.1, N.2, rT c) = em c (F_Md_findStains_9 c K178 n v5 v6 N) := by
  intro n
  induction n with
  | zero => intros; rfl
  | succ n ih => intro v5 v6 N ; exact r_Md_findStains_9 hc hk178 ih
set_option maxRecDepth 100000 in
set_option maxHeartbeats 400000 in
theorem r_Md_findStains_8 {c : Nat} (hc : isChap c) {k178 : Nat → Int32 → hm_M → Option (Int32 × hm_M)} {K178 : Int32 → hn → Option (Int32 × hn)} (hk178 : ∀ (v5 : Int32) (N : hn), k178 76 v5 (N.1, N.2, rT c) = em c (K178 v5 N)) {v5 : Int32} {N : hn} : b_Md_findStains_8 S0 k178 76 v5 (N.1, N.2, rT c) = em c (B_Md_findStains_8 c K178 v5 N) := by
  unfold b_Md_findStains_8 B_Md_findStains_8
  try simp only [my_ite, my_hg]
  simp only [hl_n', hl_wI', hl_wL', hl_cp', em_s', em_n', em_my, em_l', em_b, em_v, emv_s', emv_n', emv_my, emv_l', emv_b, emv_v, hb_em, hv_em, my_T, my_F, ne_eq, not_false_eq_true, nz_c, S0_c, S0_lw, S0_h, isHold_36, hc, hc.d, hc.l, hc.d.l, nz_1, nz_2, nz_3, nz_4, nz_5, nz_6, nz_7, nz_8, S0_76, ib_96, ib_97, ib_98, q_Md_findLight hc, q_Md_isPlace hc, q_Md_lightAt hc, q_Md_near hc, rT_76_31, rT_76_32, rT_76_33, hk178, q_Md_findStains_11 hc, q_Md_findStains_9 hc hk178]
theorem q_Md_findStains_8 {c : Nat} (hc : isChap c) : ∀ (n : Nat) (v5 : Int32) (N : hn), f_Md_findStains_8 S0 n 76 v5 (N.1, N.2, rT c) = em c (F_Md_findStains_8 c n v5 N) := by
  intro n
  induction n with
  | zero => intros; rfl
  | succ n ih => intro v5 N ; exact r_Md_findStains_8 hc  ih
set_option maxRecDepth 100000 in
set_option maxHeartbeats 400000 in
theorem q_Md_findStains_7 {c : Nat} (hc : isChap c) {k3 : Nat → Int32 → Int32 → Int32 → Int32 → Int32 → hm_M → Option (Int32 × hm_M)} {K3 : Int32 → Int32 → Int32 → Int32 → Int32 → hn → Option (Int32 × hn)} (hk3 : ∀ (v1 : Int32) (v2 : Int32) (v3 : Int32) (v4 : Int32) (v5 : Int32) (N : hn), k3 76 v1 v2 v3 v4 v5 (N.1, N.2, rT c) = em c (K3 v1 v2 v3 v4 v5 N)) {k21 : Nat → Int32 → Int32 → Int32 → Int32 → Int32 → Int32 → hm_M → Option (Int32 × hm_M)} {K21 : Int32 → Int32 → Int32 → Int32 → Int32 → Int32 → hn → Option (Int32 × hn)} (hk21 : ∀ (v1 : Int32) (v2 : Int32) (v3 : Int32) (v4 : Int32) (v5 : Int32) (v6 : Int32) (N : hn), k21 76 v1 v2 v3 v4 v5 v6 (N.1, N.2, rT c) = em c (K21 v1 v2 v3 v4 v5 v6 N)) {v1 : Int32} {v2 : Int32} {v3 : Int32} {v4 : Int32} {v5 : Int32} {v6 : Int32} {s0 : Int32} {s1 : Int32} {N : hn} : b_Md_findStains_7 S0 k3 k21 76 v1 v2 v3 v4 v5 v6 s0 s1 97 (N.1, N.2, rT c) = em c (B_Md_findStains_7 c K3 K21 v1 v2 v3 v4 v5 v6 s0 s1 N) := by
  unfold b_Md_findStains_7 B_Md_findStains_7
  try simp only [my_ite, my_hg]
  simp only [hl_n', hl_wI', hl_wL', hl_cp', em_s', em_n', em_my, em_l', em_b, em_v, emv_s', emv_n', emv_my, emv_l', emv_b, emv_v, hb_em, hv_em, my_T, my_F, ne_eq, not_false_eq_true, nz_c, S0_c, S0_lw, S0_h, isHold_36, hc, hc.d, hc.l, hc.d.l, nz_1, nz_2, nz_3, nz_4, nz_5, nz_6, nz_7, nz_8, S0_76, ib_96, ib_97, ib_98, q_Md_findLight hc, q_Md_isPlace hc, q_Md_lightAt hc, q_Md_near hc, rT_76_31, rT_76_32, rT_76_33, hk3, hk21, q_Md_findStains_11 hc, q_Md_findStains_8 hc]
set_option maxRecDepth 100000 in
set_option maxHeartbeats 400000 in
theorem q_Md_findStains_6 {c : Nat} (hc : isChap c) {k3 : Nat → Int32 → Int32 → Int32 → Int32 → Int32 → hm_M → Option (Int32 × hm_M)} {K3 : Int32 → Int32 → Int32 → Int32 → Int32 → hn → Option (Int32 × hn)} (hk3 : ∀ (v1 : Int32) (v2 : Int32) (v3 : Int32) (v4 : Int32) (v5 : Int32) (N : hn), k3 76 v1 v2 v3 v4 v5 (N.1, N.2, rT c) = em c (K3 v1 v2 v3 v4 v5 N)) {k21 : Nat → Int32 → Int32 → Int32 → Int32 → Int32 → Int32 → hm_M → Option (Int32 × hm_M)} {K21 : Int32 → Int32 → Int32 → Int32 → Int32 → Int32 → hn → Option (Int32 × hn)} (hk21 : ∀ (v1 : Int32) (v2 : Int32) (v3 : Int32) (v4 : Int32) (v5 : Int32) (v6 : Int32) (N : hn), k21 76 v1 v2 v3 v4 v5 v6 (N.1, N.2, rT c) = em c (K21 v1 v2 v3 v4 v5 v6 N)) {v1 : Int32} {v2 : Int32} {v3 : Int32} {v4 : Int32} {v5 : Int32} {v6 : Int32} {v7 : Int32} {s0 : Int32} {s1 : Int32} {N : hn} : b_Md_findStains_6 S0 k3 k21 76 v1 v2 v3 v4 v5 v6 v7 s0 s1 96 (N.1, N.2, rT c) = em c (B_Md_findStains_6 c K3 K21 v1 v2 v3 v4 v5 v6 v7 s0 s1 N) := by
  unfold b_Md_findStains_6 B_Md_findStains_6
  try simp only [my_ite, my_hg]
  simp only [hl_n', hl_wI', hl_wL', hl_cp', em_s', em_n', em_my, em_l', em_b, em_v, emv_s', emv_n', emv_my, emv_l', emv_b, emv_v, hb_em, hv_em, my_T, my_F, ne_eq, not_false_eq_true, nz_c, S0_c, S0_lw, S0_h, isHold_36, hc, hc.d, hc.l, hc.d.l, nz_1, nz_2, nz_3, nz_4, nz_5, nz_6, nz_7, nz_8, S0_76, ib_96, ib_97, ib_98, q_Md_findLight hc, q_Md_isPlace hc, q_Md_lightAt hc, q_Md_near hc, rT_76_31, rT_76_32, rT_76_33, hk3, hk21, q_Md_findStains_11 hc, q_Md_findStains_8 hc, q_Md_findStains_7 hc hk3 hk21]
set_option maxRecDepth 100000 in
set_option maxHeartbeats 400000 in
theorem q_Md_findStains_5 {c : Nat} (hc : isChap c) {k3 : Nat → Int32 → Int32 → Int32 → Int32 → Int32 → hm_M → Option (Int32 × hm_M)} {K3 : Int32 → Int32 → Int32 → Int32 → Int32 → hn → Option (Int32 × hn)} (hk3 : ∀ (v1 : Int32) (v2 : Int32) (v3 : Int32) (v4 : Int32) (v5 : Int32) (N : hn), k3 76 v1 v2 v3 v4 v5 (N.1, N.2, rT c) = em c (K3 v1 v2 v3 v4 v5 N)) {k21 : Nat → Int32 → Int32 → Int32 → Int32 → Int32 → Int32 → hm_M → Option (Int32 × hm_M)} {K21 : Int32 → Int32 → Int32 → Int32 → Int32 → Int32 → hn → Option (Int32 × hn)} (hk21 : ∀ (v1 : Int32) (v2 : Int32) (v3 : Int32) (v4 : Int32) (v5 : Int32) (v6 : Int32) (N : hn), k21 76 v1 v2 v3 v4 v5 v6 (N.1, N.2, rT c) = em c (K21 v1 v2 v3 v4 v5 v6 N)) {v1 : Int32} {v2 : Int32} {v3 : Int32} {v4 : Int32} {v5 : Int32} {v6 : Int32} {v7 : Int32} {s0 : Int32} {s1 : Int32} {N : hn} : b_Md_findStains_5 S0 k3 k21 76 v1 v2 v3 v4 v5 v6 v7 s0 s1 98 (N.1, N.2, rT c) = em c (B_Md_findStains_5 c K3 K21 v1 v2 v3 v4 v5 v6 v7 s0 s1 N) := by
  unfold b_Md_findStains_5 B_Md_findStains_5
  try simp only [my_ite, my_hg]
  simp only [hl_n', hl_wI', hl_wL', hl_cp', em_s', em_n', em_my, em_l', em_b, em_v, emv_s', emv_n', emv_my, emv_l', emv_b, emv_v, hb_em, hv_em, my_T, my_F, ne_eq, not_false_eq_true, nz_c, S0_c, S0_lw, S0_h, isHold_36, hc, hc.d, hc.l, hc.d.l, nz_1, nz_2, nz_3, nz_4, nz_5, nz_6, nz_7, nz_8, S0_76, ib_96, ib_97, ib_98, q_Md_findLight hc, q_Md_isPlace hc, q_Md_lightAt hc, q_Md_near hc, rT_76_31, rT_76_32, rT_76_33, hk3, hk21, q_Md_findStains_11 hc, q_Md_findStains_8 hc, q_Md_findStains_7 hc hk3 hk21, q_Md_findStains_6 hc hk3 hk21]
set_option maxRecDepth 100000 in
set_option maxHeartbeats 400000 in
theorem q_Md_findStains_4 {c : Nat} (hc : isChap c) {k3 : Nat → Int32 → Int32 → Int32 → Int32 → Int32 → hm_M → Option (Int32 × hm_M)} {K3 : Int32 → Int32 → Int32 → Int32 → Int32 → hn → Option (Int32 × hn)} (hk3 : ∀ (v1 : Int32) (v2 : Int32) (v3 : Int32) (v4 : Int32) (v5 : Int32) (N : hn), k3 76 v1 v2 v3 v4 v5 (N.1, N.2, rT c) = em c (K3 v1 v2 v3 v4 v5 N)) {k21 : Nat → Int32 → Int32 → Int32 → Int32 → Int32 → Int32 → hm_M → Option (Int32 × hm_M)} {K21 : Int32 → Int32 → Int32 → Int32 → Int32 → Int32 → hn → Option (Int32 × hn)} (hk21 : ∀ (v1 : Int32) (v2 : Int32) (v3 : Int32) (v4 : Int32) (v5 : Int32) (v6 : Int32) (N : hn), k21 76 v1 v2 v3 v4 v5 v6 (N.1, N.2, rT c) = em c (K21 v1 v2 v3 v4 v5 v6 N)) {v1 : Int32} {v2 : Int32} {v3 : Int32} {v4 : Int32} {v5 : Int32} {v6 : Int32} {s0 : Int32} {N : hn} : b_Md_findStains_4 S0 k3 k21 76 v1 v2 v3 v4 v5 v6 s0 (N.1, N.2, rT c) = em c (B_Md_findStains_4 c K3 K21 v1 v2 v3 v4 v5 v6 s0 N) := by
  unfold b_Md_findStains_4 B_Md_findStains_4
  try simp only [my_ite, my_hg]
  simp only [hl_n', hl_wI', hl_wL', hl_cp', em_s', em_n', em_my, em_l', em_b, em_v, emv_s', emv_n', emv_my, emv_l', emv_b, emv_v, hb_em, hv_em, my_T, my_F, ne_eq, not_false_eq_true, nz_c, S0_c, S0_lw, S0_h, isHold_36, hc, hc.d, hc.l, hc.d.l, nz_1, nz_2, nz_3, nz_4, nz_5, nz_6, nz_7, nz_8, S0_76, ib_96, ib_97, ib_98, q_Md_findLight hc, q_Md_isPlace hc, q_Md_lightAt hc, q_Md_near hc, rT_76_31, rT_76_32, rT_76_33, hk3, hk21, q_Md_findStains_11 hc, q_Md_findStains_8 hc, q_Md_findStains_7 hc hk3 hk21, q_Md_findStains_6 hc hk3 hk21, q_Md_findStains_5 hc hk3 hk21]
set_option maxRecDepth 100000 in
set_option maxHeartbeats 400000 in
theorem q_Md_findStains_3 {c : Nat} (hc : isChap c) {k3 : Nat → Int32 → Int32 → Int32 → Int32 → Int32 → hm_M → Option (Int32 × hm_M)} {K3 : Int32 → Int32 → Int32 → Int32 → Int32 → hn → Option (Int32 × hn)} (hk3 : ∀ (v1 : Int32) (v2 : Int32) (v3 : Int32) (v4 : Int32) (v5 : Int32) (N : hn), k3 76 v1 v2 v3 v4 v5 (N.1, N.2, rT c) = em c (K3 v1 v2 v3 v4 v5 N)) {k21 : Nat → Int32 → Int32 → Int32 → Int32 → Int32 → Int32 → hm_M → Option (Int32 × hm_M)} {K21 : Int32 → Int32 → Int32 → Int32 → Int32 → Int32 → hn → Option (Int32 × hn)} (hk21 : ∀ (v1 : Int32) (v2 : Int32) (v3 : Int32) (v4 : Int32) (v5 : Int32) (v6 : Int32) (N : hn), k21 76 v1 v2 v3 v4 v5 v6 (N.1, N.2, rT c) = em c (K21 v1 v2 v3 v4 v5 v6 N)) {v1 : Int32} {v2 : Int32} {v3 : Int32} {v4 : Int32} {v5 : Int32} {v6 : Int32} {N : hn} : b_Md_findStains_3 S0 k3 k21 76 v1 v2 v3 v4 v5 v6 (N.1, N.2, rT c) = em c (B_Md_findStains_3 c K3 K21 v1 v2 v3 v4 v5 v6 N) := by
  unfold b_Md_findStains_3 B_Md_findStains_3
  try simp only [my_ite, my_hg]
  simp only [hl_n', hl_wI', hl_wL', hl_cp', em_s', em_n', em_my, em_l', em_b, em_v, emv_s', emv_n', emv_my, emv_l', emv_b, emv_v, hb_em, hv_em, my_T, my_F, ne_eq, not_false_eq_true, nz_c, S0_c, S0_lw, S0_h, isHold_36, hc, hc.d, hc.l, hc.d.l, nz_1, nz_2, nz_3, nz_4, nz_5, nz_6, nz_7, nz_8, S0_76, ib_96, ib_97, ib_98, q_Md_findLight hc, q_Md_isPlace hc, q_Md_lightAt hc, q_Md_near hc, rT_76_31, rT_76_32, rT_76_33, hk3, hk21, q_Md_findStains_11 hc, q_Md_findStains_8 hc, q_Md_findStains_7 hc hk3 hk21, q_Md_findStains_6 hc hk3 hk21, q_Md_findStains_5 hc hk3 hk21, q_Md_findStains_4 hc hk3 hk21]
set_option maxRecDepth 100000 in
set_option maxHeartbeats 400000 in
theorem r_Md_findStains_2 {c : Nat} (hc : isChap c) {k3 : Nat → Int32 → Int32 → Int32 → Int32 → Int32 → hm_M → Option (Int32 × hm_M)} {K3 : Int32 → Int32 → Int32 → Int32 → Int32 → hn → Option (Int32 × hn)} (hk3 : ∀ (v1 : Int32) (v2 : Int32) (v3 : Int32) (v4 : Int32) (v5 : Int32) (N : hn), k3 76 v1 v2 v3 v4 v5 (N.1, N.2, rT c) = em c (K3 v1 v2 v3 v4 v5 N)) {k21 : Nat → Int32 → Int32 → Int32 → Int32 → Int32 → Int32 → hm_M → Option (Int32 × hm_M)} {K21 : Int32 → Int32 → Int32 → Int32 → Int32 → Int32 → hn → Option (Int32 × hn)} (hk21 : ∀ (v1 : Int32) (v2 : Int32) (v3 : Int32) (v4 : Int32) (v5 : Int32) (v6 : Int32) (N : hn), k21 76 v1 v2 v3 v4 v5 v6 (N.1, N.2, rT c) = em c (K21 v1 v2 v3 v4 v5 v6 N)) {v1 : Int32} {v2 : Int32} {v3 : Int32} {v4 : Int32} {v5 : Int32} {v6 : Int32} {N : hn} : b_Md_findStains_2 S0 k3 k21 76 v1 v2 v3 v4 v5 v6 (N.1, N.2, rT c) = em c (B_Md_findStains_2 c K3 K21 v1 v2 v3 v4 v5 v6 N) := by
  unfold b_Md_findStains_2 B_Md_findStains_2
  try simp only [my_ite, my_hg]
  simp only [hl_n', hl_wI', hl_wL', hl_cp', em_s', em_n', em_my, em_l', em_b, em_v, emv_s', emv_n', emv_my, emv_l', emv_b, emv_v, hb_em, hv_em, my_T, my_F, ne_eq, not_false_eq_true, nz_c, S0_c, S0_lw, S0_h, isHold_36, hc, hc.d, hc.l, hc.d.l, nz_1, nz_2, nz_3, nz_4, nz_5, nz_6, nz_7, nz_8, S0_76, ib_96, ib_97, ib_98, q_Md_findLight hc, q_Md_isPlace hc, q_Md_lightAt hc, q_Md_near hc, rT_76_31, rT_76_32, rT_76_33, hk3, hk21, q_Md_findStains_11 hc, q_Md_findStains_8 hc, q_Md_findStains_7 hc hk3 hk21, q_Md_findStains_6 hc hk3 hk21, q_Md_findStains_5 hc hk3 hk21, q_Md_findStains_4 hc hk3 hk21, q_Md_findStains_3 hc hk3 hk21]
theorem q_Md_findStains_2 {c : Nat} (hc : isChap c) {k3 : Nat → Int32 → Int32 → Int32 → Int32 → Int32 → hm_M → Option (Int32 × hm_M)} {K3 : Int32 → Int32 → Int32 → Int32 → Int32 → hn → Option (Int32 × hn)} (hk3 : ∀ (v1 : Int32) (v2 : Int32) (v3 : Int32) (v4 : Int32) (v5 : Int32) (N : hn), k3 76 v1 v2 v3 v4 v5 (N.1, N.2, rT c) = em c (K3 v1 v2 v3 v4 v5 N)) : ∀ (n : Nat) (v1 : Int32) (v2 : Int32) (v3 : Int32) (v4 : Int32) (v5 : Int32) (v6 : Int32) (N : hn), f_Md_findStains_2 S0 k3 n 76 v1 v2 v3 v4 v5 v6 (N.1, N.2, rT c) = em c (F_Md_findStains_2 c K3 n v1 v2 v3 v4 v5 v6 N) := by
  intro n
  induction n with
  | zero => intros; rfl
  | succ n ih => intro v1 v2 v3 v4 v5 v6 N ; exact r_Md_findStains_2 hc hk3 ih
set_option maxRecDepth 100000 in
set_option maxHeartbeats 400000 in
theorem r_Md_findStains_1 {c : Nat} (hc : isChap c) {k3 : Nat → Int32 → Int32 → Int32 → Int32 → Int32 → hm_M → Option (Int32 × hm_M)} {K3 : Int32 → Int32 → Int32 → Int32 → Int32 → hn → Option (Int32 × hn)} (hk3 : ∀ (v1 : Int32) (v2 : Int32) (v3 : Int32) (v4 : Int32) (v5 : Int32) (N : hn), k3 76 v1 v2 v3 v4 v5 (N.1, N.2, rT c) = em c (K3 v1 v2 v3 v4 v5 N)) {v1 : Int32} {v2 : Int32} {v3 : Int32} {v4 : Int32} {v5 : Int32} {N : hn} : b_Md_findStains_1 S0 k3 76 v1 v2 v3 v4 v5 (N.1, N.2, rT c) = em c (B_Md_findStains_1 c K3 v1 v2 v3 v4 v5 N) := by
  unfold b_Md_findStains_1 B_Md_findStains_1
  try simp only [my_ite, my_hg]
  simp only [hl_n', hl_wI', hl_wL', hl_cp', em_s', em_n', em_my, em_l', em_b, em_v, emv_s', emv_n', emv_my, emv_l', emv_b, emv_v, hb_em, hv_em, my_T, my_F, ne_eq, not_false_eq_true, nz_c, S0_c, S0_lw, S0_h, isHold_36, hc, hc.d, hc.l, hc.d.l, nz_1, nz_2, nz_3, nz_4, nz_5, nz_6, nz_7, nz_8, S0_76, ib_96, ib_97, ib_98, q_Md_findLight hc, q_Md_isPlace hc, q_Md_lightAt hc, q_Md_near hc, rT_76_31, rT_76_32, rT_76_33, hk3, q_Md_findStains_11 hc, q_Md_findStains_8 hc, q_Md_findStains_2 hc hk3]
theorem q_Md_findStains_1 {c : Nat} (hc : isChap c) : ∀ (n : Nat) (v1 : Int32) (v2 : Int32) (v3 : Int32) (v4 : Int32) (v5 : Int32) (N : hn), f_Md_findStains_1 S0 n 76 v1 v2 v3 v4 v5 (N.1, N.2, rT c) = em c (F_Md_findStains_1 c n v1 v2 v3 v4 v5 N) := by
  intro n
  induction n with
  | zero => intros; rfl
  | succ n ih => intro v1 v2 v3 v4 v5 N ; exact r_Md_findStains_1 hc  ih
set_option maxRecDepth 100000 in
set_option maxHeartbeats 400000 in
theorem q_Md_findStains {c : Nat} (hc : isChap c) {v1 : Int32} {v2 : Int32} {v3 : Int32} {v4 : Int32} {N : hn} : f_Md_findStains S0 76 v1 v2 v3 v4 (N.1, N.2, rT c) = em c (F_Md_findStains c v1 v2 v3 v4 N) := by
  unfold f_Md_findStains F_Md_findStains
  try simp only [my_ite, my_hg]
  simp only [hl_n', hl_wI', hl_wL', hl_cp', em_s', em_n', em_my, em_l', em_b, em_v, emv_s', emv_n', emv_my, emv_l', emv_b, emv_v, hb_em, hv_em, my_T, my_F, ne_eq, not_false_eq_true, nz_c, S0_c, S0_lw, S0_h, isHold_36, hc, hc.d, hc.l, hc.d.l, nz_1, nz_2, nz_3, nz_4, nz_5, nz_6, nz_7, nz_8, S0_76, ib_96, ib_97, ib_98, q_Md_findLight hc, q_Md_isPlace hc, q_Md_lightAt hc, q_Md_near hc, rT_76_31, rT_76_32, rT_76_33, q_Md_findStains_1 hc, q_Md_findStains_8 hc, q_Md_findStains_11 hc]
set_option maxRecDepth 100000 in
set_option maxHeartbeats 400000 in
theorem q_Md_gain {c : Nat} (hc : isChap c) {v1 : Int32} {v2 : Int32} {N : hn} : f_Md_gain S0 76 v1 v2 (N.1, N.2, rT c) = em c (F_Md_gain c v1 v2 N) := by
  unfold f_Md_gain F_Md_gain
  try simp only [my_ite, my_hg]
  simp only [hl_n', hl_wI', hl_wL', hl_cp', em_s', em_n', em_my, em_l', em_b, em_v, emv_s', emv_n', emv_my, emv_l', emv_b, emv_v, hb_em, hv_em, my_T, my_F, ne_eq, not_false_eq_true, nz_c, S0_c, S0_lw, S0_h, isHold_36, hc, hc.d, hc.l, hc.d.l, nz_1, nz_2, nz_3, nz_4, nz_5, nz_6, nz_7, nz_8, S0_76, q_Md_areUnlike hc, q_Md_findYields hc, q_Md_gainOf hc]
set_option maxRecDepth 100000 in
set_option maxHeartbeats 400000 in
theorem q_Md_guild_2 {c : Nat} (hc : isChap c) {k29 : Nat → Int32 → Int32 → Int32 → Int32 → hm_M → Option (Int32 × hm_M)} {K29 : Int32 → Int32 → Int32 → Int32 → hn → Option (Int32 × hn)} (hk29 : ∀ (v1 : Int32) (v2 : Int32) (v3 : Int32) (v4 : Int32) (N : hn), k29 76 v1 v2 v3 v4 (N.1, N.2, rT c) = em c (K29 v1 v2 v3 v4 N)) {v1 : Int32} {v2 : Int32} {v4 : Int32} {s0 : Int32} {s1 : Int32} {N : hn} : b_Md_guild_2 S0 k29 76 v1 v2 v4 s0 s1 (N.1, N.2, rT c) = em c (B_Md_guild_2 c K29 v1 v2 v4 s0 s1 N) := by
  unfold b_Md_guild_2 B_Md_guild_2
  try simp only [my_ite, my_hg]
  simp only [hl_n', hl_wI', hl_wL', hl_cp', em_s', em_n', em_my, em_l', em_b, em_v, emv_s', emv_n', emv_my, emv_l', emv_b, emv_v, hb_em, hv_em, my_T, my_F, ne_eq, not_false_eq_true, nz_c, S0_c, S0_lw, S0_h, isHold_36, hc, hc.d, hc.l, hc.d.l, nz_1, nz_2, nz_3, nz_4, nz_5, nz_6, nz_7, nz_8, S0_76, ib_82, q_Md_isGuild hc, q_Md_ownerOf hc, q_Md_panes hc, q_Md_within hc, rT_76_10, hk29]
set_option maxRecDepth 100000 in
set_option maxHeartbeats 400000 in
theorem r_Md_guild_1 {c : Nat} (hc : isChap c) {k29 : Nat → Int32 → Int32 → Int32 → Int32 → hm_M → Option (Int32 × hm_M)} {K29 : Int32 → Int32 → Int32 → Int32 → hn → Option (Int32 × hn)} (hk29 : ∀ (v1 : Int32) (v2 : Int32) (v3 : Int32) (v4 : Int32) (N : hn), k29 76 v1 v2 v3 v4 (N.1, N.2, rT c) = em c (K29 v1 v2 v3 v4 N)) {v1 : Int32} {v2 : Int32} {v3 : Int32} {v4 : Int32} {N : hn} : b_Md_guild_1 S0 k29 76 v1 v2 v3 v4 (N.1, N.2, rT c) = em c (B_Md_guild_1 c K29 v1 v2 v3 v4 N) := by
  unfold b_Md_guild_1 B_Md_guild_1
  try simp only [my_ite, my_hg]
  simp only [hl_n', hl_wI', hl_wL', hl_cp', em_s', em_n', em_my, em_l', em_b, em_v, emv_s', emv_n', emv_my, emv_l', emv_b, emv_v, hb_em, hv_em, my_T, my_F, ne_eq, not_false_eq_true, nz_c, S0_c, S0_lw, S0_h, isHold_36, hc, hc.d, hc.l, hc.d.l, nz_1, nz_2, nz_3, nz_4, nz_5, nz_6, nz_7, nz_8, S0_76, ib_82, q_Md_isGuild hc, q_Md_ownerOf hc, q_Md_panes hc, q_Md_within hc, rT_76_10, hk29, q_Md_guild_2 hc hk29]
theorem q_Md_guild_1 {c : Nat} (hc : isChap c) : ∀ (n : Nat) (v1 : Int32) (v2 : Int32) (v3 : Int32) (v4 : Int32) (N : hn), f_Md_guild_1 S0 n 76 v1 v2 v3 v4 (N.1, N.2, rT c) = em c (F_Md_guild_1 c n v1 v2 v3 v4 N) := by
  intro n
  induction n with
  | zero => intros; rfl
  | succ n ih => intro v1 v2 v3 v4 N ; exact r_Md_guild_1 hc  ih
set_option maxRecDepth 100000 in
set_option maxHeartbeats 400000 in
theorem q_Md_guild {c : Nat} (hc : isChap c) {v1 : Int32} {v2 : Int32} {N : hn} : f_Md_guild S0 76 v1 v2 (N.1, N.2, rT c) = em c (F_Md_guild c v1 v2 N) := by
  unfold f_Md_guild F_Md_guild
  try simp only [my_ite, my_hg]
  simp only [hl_n', hl_wI', hl_wL', hl_cp', em_s', em_n', em_my, em_l', em_b, em_v, emv_s', emv_n', emv_my, emv_l', emv_b, emv_v, hb_em, hv_em, my_T, my_F, ne_eq, not_false_eq_true, nz_c, S0_c, S0_lw, S0_h, isHold_36, hc, hc.d, hc.l, hc.d.l, nz_1, nz_2, nz_3, nz_4, nz_5, nz_6, nz_7, nz_8, S0_76, ib_82, q_Md_isGuild hc, q_Md_ownerOf hc, q_Md_panes hc, q_Md_within hc, rT_76_10, q_Md_guild_1 hc]
set_option maxRecDepth 100000 in
set_option maxHeartbeats 400000 in
theorem q_Md_leastFrom_3 {c : Nat} (hc : isChap c) {k7 : Nat → Int32 → Int32 → Int32 → Int32 → hm_M → Option (Int32 × hm_M)} {K7 : Int32 → Int32 → Int32 → Int32 → hn → Option (Int32 × hn)} (hk7 : ∀ (v1 : Int32) (v2 : Int32) (v3 : Int32) (v4 : Int32) (N : hn), k7 76 v1 v2 v3 v4 (N.1, N.2, rT c) = em c (K7 v1 v2 v3 v4 N)) {v1 : Int32} {v2 : Int32} {v4 : Int32} {s0 : Int32} {N : hn} : b_Md_leastFrom_3 S0 k7 76 v1 v2 v4 s0 (N.1, N.2, rT c) = em c (B_Md_leastFrom_3 c K7 v1 v2 v4 s0 N) := by
  unfold b_Md_leastFrom_3 B_Md_leastFrom_3
  try simp only [my_ite, my_hg]
  simp only [hl_n', hl_wI', hl_wL', hl_cp', em_s', em_n', em_my, em_l', em_b, em_v, emv_s', emv_n', emv_my, emv_l', emv_b, emv_v, hb_em, hv_em, my_T, my_F, ne_eq, not_false_eq_true, nz_c, S0_c, S0_lw, S0_h, isHold_36, hc, hc.d, hc.l, hc.d.l, nz_1, nz_2, nz_3, nz_4, nz_5, nz_6, nz_7, nz_8, S0_76, ib_95, q_Md_steps hc, rT_76_30, hk7]
set_option maxRecDepth 100000 in
set_option maxHeartbeats 400000 in
theorem q_Md_leastFrom_2 {c : Nat} (hc : isChap c) {k7 : Nat → Int32 → Int32 → Int32 → Int32 → hm_M → Option (Int32 × hm_M)} {K7 : Int32 → Int32 → Int32 → Int32 → hn → Option (Int32 × hn)} (hk7 : ∀ (v1 : Int32) (v2 : Int32) (v3 : Int32) (v4 : Int32) (N : hn), k7 76 v1 v2 v3 v4 (N.1, N.2, rT c) = em c (K7 v1 v2 v3 v4 N)) {v1 : Int32} {v2 : Int32} {v3 : Int32} {v4 : Int32} {s0 : Int32} {N : hn} : b_Md_leastFrom_2 S0 k7 76 v1 v2 v3 v4 s0 (N.1, N.2, rT c) = em c (B_Md_leastFrom_2 c K7 v1 v2 v3 v4 s0 N) := by
  unfold b_Md_leastFrom_2 B_Md_leastFrom_2
  try simp only [my_ite, my_hg]
  simp only [hl_n', hl_wI', hl_wL', hl_cp', em_s', em_n', em_my, em_l', em_b, em_v, emv_s', emv_n', emv_my, emv_l', emv_b, emv_v, hb_em, hv_em, my_T, my_F, ne_eq, not_false_eq_true, nz_c, S0_c, S0_lw, S0_h, isHold_36, hc, hc.d, hc.l, hc.d.l, nz_1, nz_2, nz_3, nz_4, nz_5, nz_6, nz_7, nz_8, S0_76, ib_95, q_Md_steps hc, rT_76_30, hk7, q_Md_leastFrom_3 hc hk7]
set_option maxRecDepth 100000 in
set_option maxHeartbeats 400000 in
theorem r_Md_leastFrom_1 {c : Nat} (hc : isChap c) {k7 : Nat → Int32 → Int32 → Int32 → Int32 → hm_M → Option (Int32 × hm_M)} {K7 : Int32 → Int32 → Int32 → Int32 → hn → Option (Int32 × hn)} (hk7 : ∀ (v1 : Int32) (v2 : Int32) (v3 : Int32) (v4 : Int32) (N : hn), k7 76 v1 v2 v3 v4 (N.1, N.2, rT c) = em c (K7 v1 v2 v3 v4 N)) {v1 : Int32} {v2 : Int32} {v3 : Int32} {v4 : Int32} {N : hn} : b_Md_leastFrom_1 S0 k7 76 v1 v2 v3 v4 (N.1, N.2, rT c) = em c (B_Md_leastFrom_1 c K7 v1 v2 v3 v4 N) := by
  unfold b_Md_leastFrom_1 B_Md_leastFrom_1
  try simp only [my_ite, my_hg]
  simp only [hl_n', hl_wI', hl_wL', hl_cp', em_s', em_n', em_my, em_l', em_b, em_v, emv_s', emv_n', emv_my, emv_l', emv_b, emv_v, hb_em, hv_em, my_T, my_F, ne_eq, not_false_eq_true, nz_c, S0_c, S0_lw, S0_h, isHold_36, hc, hc.d, hc.l, hc.d.l, nz_1, nz_2, nz_3, nz_4, nz_5, nz_6, nz_7, nz_8, S0_76, ib_95, q_Md_steps hc, rT_76_30, hk7, q_Md_leastFrom_3 hc hk7, q_Md_leastFrom_2 hc hk7]
theorem q_Md_leastFrom_1 {c : Nat} (hc : isChap c) : ∀ (n : Nat) (v1 : Int32) (v2 : Int32) (v3 : Int32) (v4 : Int32) (N : hn), f_Md_leastFrom_1 S0 n 76 v1 v2 v3 v4 (N.1, N.2, rT c) = em c (F_Md_leastFrom_1 c n v1 v2 v3 v4 N) := by
  intro n
  induction n with
  | zero => intros; rfl
  | succ n ih => intro v1 v2 v3 v4 N ; exact r_Md_leastFrom_1 hc  ih
set_option maxRecDepth 100000 in
set_option maxHeartbeats 400000 in
theorem q_Md_leastFrom {c : Nat} (hc : isChap c) {v1 : Int32} {v2 : Int32} {N : hn} : f_Md_leastFrom S0 76 v1 v2 (N.1, N.2, rT c) = em c (F_Md_leastFrom c v1 v2 N) := by
  unfold f_Md_leastFrom F_Md_leastFrom
  try simp only [my_ite, my_hg]
  simp only [hl_n', hl_wI', hl_wL', hl_cp', em_s', em_n', em_my, em_l', em_b, em_v, emv_s', emv_n', emv_my, emv_l', emv_b, emv_v, hb_em, hv_em, my_T, my_F, ne_eq, not_false_eq_true, nz_c, S0_c, S0_lw, S0_h, isHold_36, hc, hc.d, hc.l, hc.d.l, nz_1, nz_2, nz_3, nz_4, nz_5, nz_6, nz_7, nz_8, S0_76, ib_95, q_Md_steps hc, rT_76_30, q_Md_leastFrom_1 hc]
set_option maxRecDepth 100000 in
set_option maxHeartbeats 400000 in
theorem q_Md_mark_1 {c : Nat} (hc : isChap c) {v1 : Int32} {v2 : Int32} {N : hn} : b_Md_mark_1 S0 76 v1 v2 (N.1, N.2, rT c) = em c (B_Md_mark_1 c v1 v2 N) := by
  unfold b_Md_mark_1 B_Md_mark_1
  try simp only [my_ite, my_hg]
  simp only [hl_n', hl_wI', hl_wL', hl_cp', em_s', em_n', em_my, em_l', em_b, em_v, emv_s', emv_n', emv_my, emv_l', emv_b, emv_v, hb_em, hv_em, my_T, my_F, ne_eq, not_false_eq_true, nz_c, S0_c, S0_lw, S0_h, isHold_36, hc, hc.d, hc.l, hc.d.l, nz_1, nz_2, nz_3, nz_4, nz_5, nz_6, nz_7, nz_8, S0_76, ib_89, q_Md_copies hc, q_Md_within hc, rT_76_22]
set_option maxRecDepth 100000 in
set_option maxHeartbeats 400000 in
theorem q_Md_mark {c : Nat} (hc : isChap c) {v1 : Int32} {v2 : Int32} {N : hn} : f_Md_mark S0 76 v1 v2 (N.1, N.2, rT c) = em c (F_Md_mark c v1 v2 N) := by
  unfold f_Md_mark F_Md_mark
  try simp only [my_ite, my_hg]
  simp only [hl_n', hl_wI', hl_wL', hl_cp', em_s', em_n', em_my, em_l', em_b, em_v, emv_s', emv_n', emv_my, emv_l', emv_b, emv_v, hb_em, hv_em, my_T, my_F, ne_eq, not_false_eq_true, nz_c, S0_c, S0_lw, S0_h, isHold_36, hc, hc.d, hc.l, hc.d.l, nz_1, nz_2, nz_3, nz_4, nz_5, nz_6, nz_7, nz_8, S0_76, ib_89, q_Md_copies hc, q_Md_within hc, rT_76_22, q_Md_mark_1 hc]
set_option maxRecDepth 100000 in
set_option maxHeartbeats 400000 in
theorem q_Md_pane {c : Nat} (hc : isChap c) {v1 : Int32} {v2 : Int32} {N : hn} : f_Md_pane S0 76 v1 v2 (N.1, N.2, rT c) = em c (F_Md_pane c v1 v2 N) := by
  unfold f_Md_pane F_Md_pane
  try simp only [my_ite, my_hg]
  simp only [hl_n', hl_wI', hl_wL', hl_cp', em_s', em_n', em_my, em_l', em_b, em_v, emv_s', emv_n', emv_my, emv_l', emv_b, emv_v, hb_em, hv_em, my_T, my_F, ne_eq, not_false_eq_true, nz_c, S0_c, S0_lw, S0_h, isHold_36, hc, hc.d, hc.l, hc.d.l, nz_1, nz_2, nz_3, nz_4, nz_5, nz_6, nz_7, nz_8, S0_76, q_Md_isBroken hc, q_Md_isPane hc, q_Md_ownerOf hc, q_Md_paneOf hc, q_Md_within hc]
set_option maxRecDepth 100000 in
set_option maxHeartbeats 400000 in
theorem q_Md_place {c : Nat} (hc : isChap c) {v1 : Int32} {v2 : Int32} {v3 : Int32} {v4 : Int32} {v5 : Int32} {N : hn} : f_Md_place S0 76 v1 v2 v3 v4 v5 (N.1, N.2, rT c) = em c (F_Md_place c v1 v2 v3 v4 v5 N) := by
  unfold f_Md_place F_Md_place
  try simp only [my_ite, my_hg]
  simp only [hl_n', hl_wI', hl_wL', hl_cp', em_s', em_n', em_my, em_l', em_b, em_v, emv_s', emv_n', emv_my, emv_l', emv_b, emv_v, hb_em, hv_em, my_T, my_F, ne_eq, not_false_eq_true, nz_c, S0_c, S0_lw, S0_h, isHold_36, hc, hc.d, hc.l, hc.d.l, nz_1, nz_2, nz_3, nz_4, nz_5, nz_6, nz_7, nz_8, S0_76, q_Md_findLight hc, q_Md_isOn hc, q_Md_isTime hc, q_Md_lightAt hc, q_Md_within hc]
set_option maxRecDepth 100000 in
set_option maxHeartbeats 400000 in
theorem q_Md_rents {c : Nat} (hc : isChap c) {v1 : Int32} {N : hn} : f_Md_rents S0 76 v1 (N.1, N.2, rT c) = em c (F_Md_rents c v1 N) := by
  unfold f_Md_rents F_Md_rents
  try simp only [my_ite, my_hg]
  simp only [hl_n', hl_wI', hl_wL', hl_cp', em_s', em_n', em_my, em_l', em_b, em_v, emv_s', emv_n', emv_my, emv_l', emv_b, emv_v, hb_em, hv_em, my_T, my_F, ne_eq, not_false_eq_true, nz_c, S0_c, S0_lw, S0_h, isHold_36, hc, hc.d, hc.l, hc.d.l, nz_1, nz_2, nz_3, nz_4, nz_5, nz_6, nz_7, nz_8, S0_76, q_Md_findYields hc, q_Md_isGuild hc, q_Md_rentsOf hc]
set_option maxRecDepth 100000 in
set_option maxHeartbeats 400000 in
theorem q_Md_see {c : Nat} (hc : isChap c) {v1 : Int32} {v2 : Int32} {v3 : Int32} {N : hn} : f_Md_see S0 76 v1 v2 v3 (N.1, N.2, rT c) = em c (F_Md_see c v1 v2 v3 N) := by
  unfold f_Md_see F_Md_see
  try simp only [my_ite, my_hg]
  simp only [hl_n', hl_wI', hl_wL', hl_cp', em_s', em_n', em_my, em_l', em_b, em_v, emv_s', emv_n', emv_my, emv_l', emv_b, emv_v, hb_em, hv_em, my_T, my_F, ne_eq, not_false_eq_true, nz_c, S0_c, S0_lw, S0_h, isHold_36, hc, hc.d, hc.l, hc.d.l, nz_1, nz_2, nz_3, nz_4, nz_5, nz_6, nz_7, nz_8, S0_76, ib_88, q_Md_isOn hc, q_Md_seens hc, q_Md_within hc, rT_76_20]
set_option maxRecDepth 100000 in
set_option maxHeartbeats 400000 in
theorem q_Md_spot {c : Nat} (hc : isChap c) {v1 : Int32} {v2 : Int32} {v3 : Int32} {N : hn} : f_Md_spot S0 76 v1 v2 v3 (N.1, N.2, rT c) = em c (F_Md_spot c v1 v2 v3 N) := by
  unfold f_Md_spot F_Md_spot
  try simp only [my_ite, my_hg]
  simp only [hl_n', hl_wI', hl_wL', hl_cp', em_s', em_n', em_my, em_l', em_b, em_v, emv_s', emv_n', emv_my, emv_l', emv_b, emv_v, hb_em, hv_em, my_T, my_F, ne_eq, not_false_eq_true, nz_c, S0_c, S0_lw, S0_h, isHold_36, hc, hc.d, hc.l, hc.d.l, nz_1, nz_2, nz_3, nz_4, nz_5, nz_6, nz_7, nz_8, S0_76, ib_90, q_Md_findLight hc, q_Md_isPane hc, q_Md_isTime hc, rT_76_24]
set_option maxRecDepth 100000 in
set_option maxHeartbeats 400000 in
theorem q_Md_stains {c : Nat} (hc : isChap c) {v1 : Int32} {v2 : Int32} {v3 : Int32} {v4 : Int32} {N : hn} : f_Md_stains S0 76 v1 v2 v3 v4 (N.1, N.2, rT c) = em c (F_Md_stains c v1 v2 v3 v4 N) := by
  unfold f_Md_stains F_Md_stains
  try simp only [my_ite, my_hg]
  simp only [hl_n', hl_wI', hl_wL', hl_cp', em_s', em_n', em_my, em_l', em_b, em_v, emv_s', emv_n', emv_my, emv_l', emv_b, emv_v, hb_em, hv_em, my_T, my_F, ne_eq, not_false_eq_true, nz_c, S0_c, S0_lw, S0_h, isHold_36, hc, hc.d, hc.l, hc.d.l, nz_1, nz_2, nz_3, nz_4, nz_5, nz_6, nz_7, nz_8, S0_76, q_Md_canStain hc, q_Md_findStains hc]
set_option maxRecDepth 100000 in
set_option maxHeartbeats 400000 in
theorem r_Md_stall_10 {c : Nat} (hc : isChap c) {k251 : Nat → Int32 → Int32 → Int32 → hm_M → Option (Int32 × hm_M)} {K251 : Int32 → Int32 → Int32 → hn → Option (Int32 × hn)} (hk251 : ∀ (v5 : Int32) (v8 : Int32) (v9 : Int32) (N : hn), k251 76 v5 v8 v9 (N.1, N.2, rT c) = em c (K251 v5 v8 v9 N)) {k278 : Nat → Int32 → Int32 → Int32 → Int32 → Int32 → hm_M → Option (Int32 × hm_M)} {K278 : Int32 → Int32 → Int32 → Int32 → Int32 → hn → Option (Int32 × hn)} (hk278 : ∀ (v5 : Int32) (v8 : Int32) (v9 : Int32) (v10 : Int32) (v11 : Int32) (N : hn), k278 76 v5 v8 v9 v10 v11 (N.1, N.2, rT c) = em c (K278 v5 v8 v9 v10 v11 N)) {v5 : Int32} {v8 : Int32} {v9 : Int32} {v10 : Int32} {v11 : Int32} {N : hn} : b_Md_stall_10 S0 k251 k278 76 v5 v8 v9 v10 v11 (N.1, N.2, rT c) = em c (B_Md_stall_10 c K251 K278 v5 v8 v9 v10 v11 N) := by
  unfold b_Md_stall_10 B_Md_stall_10
  try simp only [my_ite, my_hg]
  simp only [hl_n', hl_wI', hl_wL', hl_cp', em_s', em_n', em_my, em_l', em_b, em_v, emv_s', emv_n', emv_my, emv_l', emv_b, emv_v, hb_em, hv_em, my_T, my_F, ne_eq, not_false_eq_true, nz_c, S0_c, S0_lw, S0_h, isHold_36, hc, hc.d, hc.l, hc.d.l, nz_1, nz_2, nz_3, nz_4, nz_5, nz_6, nz_7, nz_8, S0_76, ib_95, q_Md_findMay hc, q_Md_isGuild hc, q_Md_isTime hc, q_Md_leastFrom hc, q_Md_steps hc, q_Md_within hc, rT_76_30, hk251, hk278]
theorem q_Md_stall_10 {c : Nat} (hc : isChap c) {k251 : Nat → Int32 → Int32 → Int32 → hm_M → Option (Int32 × hm_M)} {K251 : Int32 → Int32 → Int32 → hn → Option (Int32 × hn)} (hk251 : ∀ (v5 : Int32) (v8 : Int32) (v9 : Int32) (N : hn), k251 76 v5 v8 v9 (N.1, N.2, rT c) = em c (K251 v5 v8 v9 N)) : ∀ (n : Nat) (v5 : Int32) (v8 : Int32) (v9 : Int32) (v10 : Int32) (v11 : Int32) (N : hn), f_Md_stall_10 S0 k251 n 76 v5 v8 v9 v10 v11 (N.1, N.2, rT c) = em c (F_Md_stall_10 c K251 n v5 v8 v9 v10 v11 N) := by
  intro n
  induction n with
  | zero => intros; rfl
  | succ n ih => intro v5 v8 v9 v10 v11 N ; exact r_Md_stall_10 hc hk251 ih
set_option maxRecDepth 100000 in
set_option maxHeartbeats 400000 in
theorem r_Md_stall_9 {c : Nat} (hc : isChap c) {k251 : Nat → Int32 → Int32 → Int32 → hm_M → Option (Int32 × hm_M)} {K251 : Int32 → Int32 → Int32 → hn → Option (Int32 × hn)} (hk251 : ∀ (v5 : Int32) (v8 : Int32) (v9 : Int32) (N : hn), k251 76 v5 v8 v9 (N.1, N.2, rT c) = em c (K251 v5 v8 v9 N)) {v5 : Int32} {v8 : Int32} {v9 : Int32} {N : hn} : b_Md_stall_9 S0 k251 76 v5 v8 v9 (N.1, N.2, rT c) = em c (B_Md_stall_9 c K251 v5 v8 v9 N) := by
  unfold b_Md_stall_9 B_Md_stall_9
  try simp only [my_ite, my_hg]
  simp only [hl_n', hl_wI', hl_wL', hl_cp', em_s', em_n', em_my, em_l', em_b, em_v, emv_s', emv_n', emv_my, emv_l', emv_b, emv_v, hb_em, hv_em, my_T, my_F, ne_eq, not_false_eq_true, nz_c, S0_c, S0_lw, S0_h, isHold_36, hc, hc.d, hc.l, hc.d.l, nz_1, nz_2, nz_3, nz_4, nz_5, nz_6, nz_7, nz_8, S0_76, ib_95, q_Md_findMay hc, q_Md_isGuild hc, q_Md_isTime hc, q_Md_leastFrom hc, q_Md_steps hc, q_Md_within hc, rT_76_30, hk251, q_Md_stall_10 hc hk251]
theorem q_Md_stall_9 {c : Nat} (hc : isChap c) : ∀ (n : Nat) (v5 : Int32) (v8 : Int32) (v9 : Int32) (N : hn), f_Md_stall_9 S0 n 76 v5 v8 v9 (N.1, N.2, rT c) = em c (F_Md_stall_9 c n v5 v8 v9 N) := by
  intro n
  induction n with
  | zero => intros; rfl
  | succ n ih => intro v5 v8 v9 N ; exact r_Md_stall_9 hc  ih
set_option maxRecDepth 100000 in
set_option maxHeartbeats 400000 in
theorem q_Md_stall_8 {c : Nat} (hc : isChap c) {k179 : Nat → Int32 → Int32 → Int32 → Int32 → hm_M → Option (Int32 × hm_M)} {K179 : Int32 → Int32 → Int32 → Int32 → hn → Option (Int32 × hn)} (hk179 : ∀ (v5 : Int32) (v7 : Int32) (v8 : Int32) (v9 : Int32) (N : hn), k179 76 v5 v7 v8 v9 (N.1, N.2, rT c) = em c (K179 v5 v7 v8 v9 N)) {v5 : Int32} {v8 : Int32} {v9 : Int32} {s0 : Int32} {N : hn} : b_Md_stall_8 S0 k179 76 v5 v8 v9 s0 (N.1, N.2, rT c) = em c (B_Md_stall_8 c K179 v5 v8 v9 s0 N) := by
  unfold b_Md_stall_8 B_Md_stall_8
  try simp only [my_ite, my_hg]
  simp only [hl_n', hl_wI', hl_wL', hl_cp', em_s', em_n', em_my, em_l', em_b, em_v, emv_s', emv_n', emv_my, emv_l', emv_b, emv_v, hb_em, hv_em, my_T, my_F, ne_eq, not_false_eq_true, nz_c, S0_c, S0_lw, S0_h, isHold_36, hc, hc.d, hc.l, hc.d.l, nz_1, nz_2, nz_3, nz_4, nz_5, nz_6, nz_7, nz_8, S0_76, ib_95, q_Md_findMay hc, q_Md_isGuild hc, q_Md_isTime hc, q_Md_leastFrom hc, q_Md_steps hc, q_Md_within hc, rT_76_30, hk179, q_Md_stall_9 hc]
set_option maxRecDepth 100000 in
set_option maxHeartbeats 400000 in
theorem q_Md_stall_7 {c : Nat} (hc : isChap c) {k179 : Nat → Int32 → Int32 → Int32 → Int32 → hm_M → Option (Int32 × hm_M)} {K179 : Int32 → Int32 → Int32 → Int32 → hn → Option (Int32 × hn)} (hk179 : ∀ (v5 : Int32) (v7 : Int32) (v8 : Int32) (v9 : Int32) (N : hn), k179 76 v5 v7 v8 v9 (N.1, N.2, rT c) = em c (K179 v5 v7 v8 v9 N)) {v5 : Int32} {v7 : Int32} {v9 : Int32} {s0 : Int32} {N : hn} : b_Md_stall_7 S0 k179 76 v5 v7 v9 s0 (N.1, N.2, rT c) = em c (B_Md_stall_7 c K179 v5 v7 v9 s0 N) := by
  unfold b_Md_stall_7 B_Md_stall_7
  try simp only [my_ite, my_hg]
  simp only [hl_n', hl_wI', hl_wL', hl_cp', em_s', em_n', em_my, em_l', em_b, em_v, emv_s', emv_n', emv_my, emv_l', emv_b, emv_v, hb_em, hv_em, my_T, my_F, ne_eq, not_false_eq_true, nz_c, S0_c, S0_lw, S0_h, isHold_36, hc, hc.d, hc.l, hc.d.l, nz_1, nz_2, nz_3, nz_4, nz_5, nz_6, nz_7, nz_8, S0_76, ib_95, q_Md_findMay hc, q_Md_isGuild hc, q_Md_isTime hc, q_Md_leastFrom hc, q_Md_steps hc, q_Md_within hc, rT_76_30, hk179, q_Md_stall_9 hc, q_Md_stall_8 hc hk179]
set_option maxRecDepth 100000 in
set_option maxHeartbeats 400000 in
theorem r_Md_stall_6 {c : Nat} (hc : isChap c) {k179 : Nat → Int32 → Int32 → Int32 → Int32 → hm_M → Option (Int32 × hm_M)} {K179 : Int32 → Int32 → Int32 → Int32 → hn → Option (Int32 × hn)} (hk179 : ∀ (v5 : Int32) (v7 : Int32) (v8 : Int32) (v9 : Int32) (N : hn), k179 76 v5 v7 v8 v9 (N.1, N.2, rT c) = em c (K179 v5 v7 v8 v9 N)) {v5 : Int32} {v7 : Int32} {v8 : Int32} {v9 : Int32} {N : hn} : b_Md_stall_6 S0 k179 76 v5 v7 v8 v9 (N.1, N.2, rT c) = em c (B_Md_stall_6 c K179 v5 v7 v8 v9 N) := by
  unfold b_Md_stall_6 B_Md_stall_6
  try simp only [my_ite, my_hg]
  simp only [hl_n', hl_wI', hl_wL', hl_cp', em_s', em_n', em_my, em_l', em_b, em_v, emv_s', emv_n', emv_my, emv_l', emv_b, emv_v, hb_em, hv_em, my_T, my_F, ne_eq, not_false_eq_true, nz_c, S0_c, S0_lw, S0_h, isHold_36, hc, hc.d, hc.l, hc.d.l, nz_1, nz_2, nz_3, nz_4, nz_5, nz_6, nz_7, nz_8, S0_76, ib_95, q_Md_findMay hc, q_Md_isGuild hc, q_Md_isTime hc, q_Md_leastFrom hc, q_Md_steps hc, q_Md_within hc, rT_76_30, hk179, q_Md_stall_9 hc, q_Md_stall_8 hc hk179, q_Md_stall_7 hc hk179]
theorem q_Md_stall_6 {c : Nat} (hc : isChap c) : ∀ (n : Nat) (v5 : Int32) (v7 : Int32) (v8 : Int32) (v9 : Int32) (N : hn), f_Md_stall_6 S0 n 76 v5 v7 v8 v9 (N.1, N.2, rT c) = em c (F_Md_stall_6 c n v5 v7 v8 v9 N) := by
  intro n
  induction n with
  | zero => intros; rfl
  | succ n ih => intro v5 v7 v8 v9 N ; exact r_Md_stall_6 hc  ih
set_option maxRecDepth 100000 in
set_option maxHeartbeats 400000 in
theorem q_Md_stall_5 {c : Nat} (hc : isChap c) {k95 : Nat → Int32 → Int32 → hm_M → Option (Int32 × hm_M)} {K95 : Int32 → Int32 → hn → Option (Int32 × hn)} (hk95 : ∀ (v5 : Int32) (v7 : Int32) (N : hn), k95 76 v5 v7 (N.1, N.2, rT c) = em c (K95 v5 v7 N)) {k103 : Nat → Int32 → Int32 → Int32 → hm_M → Option (Int32 × hm_M)} {K103 : Int32 → Int32 → Int32 → hn → Option (Int32 × hn)} (hk103 : ∀ (v5 : Int32) (v7 : Int32) (v8 : Int32) (N : hn), k103 76 v5 v7 v8 (N.1, N.2, rT c) = em c (K103 v5 v7 v8 N)) {v5 : Int32} {v7 : Int32} {v8 : Int32} {s0 : Int32} {s1 : Int32} {N : hn} : b_Md_stall_5 S0 k95 k103 76 v5 v7 v8 s0 s1 95 (N.1, N.2, rT c) = em c (B_Md_stall_5 c K95 K103 v5 v7 v8 s0 s1 N) := by
  unfold b_Md_stall_5 B_Md_stall_5
  try simp only [my_ite, my_hg]
  simp only [hl_n', hl_wI', hl_wL', hl_cp', em_s', em_n', em_my, em_l', em_b, em_v, emv_s', emv_n', emv_my, emv_l', emv_b, emv_v, hb_em, hv_em, my_T, my_F, ne_eq, not_false_eq_true, nz_c, S0_c, S0_lw, S0_h, isHold_36, hc, hc.d, hc.l, hc.d.l, nz_1, nz_2, nz_3, nz_4, nz_5, nz_6, nz_7, nz_8, S0_76, ib_95, q_Md_findMay hc, q_Md_isGuild hc, q_Md_isTime hc, q_Md_leastFrom hc, q_Md_steps hc, q_Md_within hc, rT_76_30, hk95, hk103, q_Md_stall_9 hc, q_Md_stall_6 hc]
set_option maxRecDepth 100000 in
set_option maxHeartbeats 400000 in
theorem r_Md_stall_4 {c : Nat} (hc : isChap c) {k95 : Nat → Int32 → Int32 → hm_M → Option (Int32 × hm_M)} {K95 : Int32 → Int32 → hn → Option (Int32 × hn)} (hk95 : ∀ (v5 : Int32) (v7 : Int32) (N : hn), k95 76 v5 v7 (N.1, N.2, rT c) = em c (K95 v5 v7 N)) {k103 : Nat → Int32 → Int32 → Int32 → hm_M → Option (Int32 × hm_M)} {K103 : Int32 → Int32 → Int32 → hn → Option (Int32 × hn)} (hk103 : ∀ (v5 : Int32) (v7 : Int32) (v8 : Int32) (N : hn), k103 76 v5 v7 v8 (N.1, N.2, rT c) = em c (K103 v5 v7 v8 N)) {v5 : Int32} {v7 : Int32} {v8 : Int32} {N : hn} : b_Md_stall_4 S0 k95 k103 76 v5 v7 v8 (N.1, N.2, rT c) = em c (B_Md_stall_4 c K95 K103 v5 v7 v8 N) := by
  unfold b_Md_stall_4 B_Md_stall_4
  try simp only [my_ite, my_hg]
  simp only [hl_n', hl_wI', hl_wL', hl_cp', em_s', em_n', em_my, em_l', em_b, em_v, emv_s', emv_n', emv_my, emv_l', emv_b, emv_v, hb_em, hv_em, my_T, my_F, ne_eq, not_false_eq_true, nz_c, S0_c, S0_lw, S0_h, isHold_36, hc, hc.d, hc.l, hc.d.l, nz_1, nz_2, nz_3, nz_4, nz_5, nz_6, nz_7, nz_8, S0_76, ib_95, q_Md_findMay hc, q_Md_isGuild hc, q_Md_isTime hc, q_Md_leastFrom hc, q_Md_steps hc, q_Md_within hc, rT_76_30, hk95, hk103, q_Md_stall_9 hc, q_Md_stall_6 hc, q_Md_stall_5 hc hk95 hk103]
theorem q_Md_stall_4 {c : Nat} (hc : isChap c) {k95 : Nat → Int32 → Int32 → hm_M → Option (Int32 × hm_M)} {K95 : Int32 → Int32 → hn → Option (Int32 × hn)} (hk95 : ∀ (v5 : Int32) (v7 : Int32) (N : hn), k95 76 v5 v7 (N.1, N.2, rT c) = em c (K95 v5 v7 N)) : ∀ (n : Nat) (v5 : Int32) (v7 : Int32) (v8 : Int32) (N : hn), f_Md_stall_4 S0 k95 n 76 v5 v7 v8 (N.1, N.2, rT c) = em c (F_Md_stall_4 c K95 n v5 v7 v8 N) := by
  intro n
  induction n with
  | zero => intros; rfl
  | succ n ih => intro v5 v7 v8 N ; exact r_Md_stall_4 hc hk95 ih
set_option maxRecDepth 100000 in
set_option maxHeartbeats 400000 in
theorem r_Md_stall_3 {c : Nat} (hc : isChap c) {k95 : Nat → Int32 → Int32 → hm_M → Option (Int32 × hm_M)} {K95 : Int32 → Int32 → hn → Option (Int32 × hn)} (hk95 : ∀ (v5 : Int32) (v7 : Int32) (N : hn), k95 76 v5 v7 (N.1, N.2, rT c) = em c (K95 v5 v7 N)) {v5 : Int32} {v7 : Int32} {N : hn} : b_Md_stall_3 S0 k95 76 v5 v7 (N.1, N.2, rT c) = em c (B_Md_stall_3 c K95 v5 v7 N) := by
  unfold b_Md_stall_3 B_Md_stall_3
  try simp only [my_ite, my_hg]
  simp only [hl_n', hl_wI', hl_wL', hl_cp', em_s', em_n', em_my, em_l', em_b, em_v, emv_s', emv_n', emv_my, emv_l', emv_b, emv_v, hb_em, hv_em, my_T, my_F, ne_eq, not_false_eq_true, nz_c, S0_c, S0_lw, S0_h, isHold_36, hc, hc.d, hc.l, hc.d.l, nz_1, nz_2, nz_3, nz_4, nz_5, nz_6, nz_7, nz_8, S0_76, ib_95, q_Md_findMay hc, q_Md_isGuild hc, q_Md_isTime hc, q_Md_leastFrom hc, q_Md_steps hc, q_Md_within hc, rT_76_30, hk95, q_Md_stall_9 hc, q_Md_stall_6 hc, q_Md_stall_4 hc hk95]
theorem q_Md_stall_3 {c : Nat} (hc : isChap c) : ∀ (n : Nat) (v5 : Int32) (v7 : Int32) (N : hn), f_Md_stall_3 S0 n 76 v5 v7 (N.1, N.2, rT c) = em c (F_Md_stall_3 c n v5 v7 N) := by
  intro n
  induction n with
  | zero => intros; rfl
  | succ n ih => intro v5 v7 N ; exact r_Md_stall_3 hc  ih
set_option maxRecDepth 100000 in
set_option maxHeartbeats 400000 in
theorem r_Md_stall_2 {c : Nat} (hc : isChap c) {k64 : Nat → Int32 → Int32 → Int32 → Int32 → Int32 → Int32 → hm_M → Option (Int32 × hm_M)} {K64 : Int32 → Int32 → Int32 → Int32 → Int32 → Int32 → hn → Option (Int32 × hn)} (hk64 : ∀ (v1 : Int32) (v2 : Int32) (v3 : Int32) (v5 : Int32) (v6 : Int32) (v7 : Int32) (N : hn), k64 76 v1 v2 v3 v5 v6 v7 (N.1, N.2, rT c) = em c (K64 v1 v2 v3 v5 v6 v7 N)) {v1 : Int32} {v2 : Int32} {v3 : Int32} {v5 : Int32} {v6 : Int32} {v7 : Int32} {N : hn} : b_Md_stall_2 S0 k64 76 v1 v2 v3 v5 v6 v7 (N.1, N.2, rT c) = em c (B_Md_stall_2 c K64 v1 v2 v3 v5 v6 v7 N) := by
  unfold b_Md_stall_2 B_Md_stall_2
  try simp only [my_ite, my_hg]
  simp only [hl_n', hl_wI', hl_wL', hl_cp', em_s', em_n', em_my, em_l', em_b, em_v, emv_s', emv_n', emv_my, emv_l', emv_b, emv_v, hb_em, hv_em, my_T, my_F, ne_eq, not_false_eq_true, nz_c, S0_c, S0_lw, S0_h, isHold_36, hc, hc.d, hc.l, hc.d.l, nz_1, nz_2, nz_3, nz_4, nz_5, nz_6, nz_7, nz_8, S0_76, ib_95, q_Md_findMay hc, q_Md_isGuild hc, q_Md_isTime hc, q_Md_leastFrom hc, q_Md_steps hc, q_Md_within hc, rT_76_30, hk64, q_Md_stall_9 hc, q_Md_stall_6 hc, q_Md_stall_3 hc]
theorem q_Md_stall_2 {c : Nat} (hc : isChap c) : ∀ (n : Nat) (v1 : Int32) (v2 : Int32) (v3 : Int32) (v5 : Int32) (v6 : Int32) (v7 : Int32) (N : hn), f_Md_stall_2 S0 n 76 v1 v2 v3 v5 v6 v7 (N.1, N.2, rT c) = em c (F_Md_stall_2 c n v1 v2 v3 v5 v6 v7 N) := by
  intro n
  induction n with
  | zero => intros; rfl
  | succ n ih => intro v1 v2 v3 v5 v6 v7 N ; exact r_Md_stall_2 hc  ih
set_option maxRecDepth 100000 in
set_option maxHeartbeats 400000 in
theorem q_Md_stall_1 {c : Nat} (hc : isChap c) {v1 : Int32} {v2 : Int32} {v3 : Int32} {v4 : Int32} {v5 : Int32} {N : hn} : b_Md_stall_1 S0 76 v1 v2 v3 v4 v5 (N.1, N.2, rT c) = em c (B_Md_stall_1 c v1 v2 v3 v4 v5 N) := by
  unfold b_Md_stall_1 B_Md_stall_1
  try simp only [my_ite, my_hg]
  simp only [hl_n', hl_wI', hl_wL', hl_cp', em_s', em_n', em_my, em_l', em_b, em_v, emv_s', emv_n', emv_my, emv_l', emv_b, emv_v, hb_em, hv_em, my_T, my_F, ne_eq, not_false_eq_true, nz_c, S0_c, S0_lw, S0_h, isHold_36, hc, hc.d, hc.l, hc.d.l, nz_1, nz_2, nz_3, nz_4, nz_5, nz_6, nz_7, nz_8, S0_76, ib_95, q_Md_findMay hc, q_Md_isGuild hc, q_Md_isTime hc, q_Md_leastFrom hc, q_Md_steps hc, q_Md_within hc, rT_76_30, q_Md_stall_9 hc, q_Md_stall_6 hc, q_Md_stall_3 hc, q_Md_stall_2 hc]
set_option maxRecDepth 100000 in
set_option maxHeartbeats 400000 in
theorem q_Md_stall {c : Nat} (hc : isChap c) {v1 : Int32} {v2 : Int32} {v3 : Int32} {v4 : Int32} {v5 : Int32} {N : hn} : f_Md_stall S0 76 v1 v2 v3 v4 v5 (N.1, N.2, rT c) = em c (F_Md_stall c v1 v2 v3 v4 v5 N) := by
  unfold f_Md_stall F_Md_stall
  try simp only [my_ite, my_hg]
  simp only [hl_n', hl_wI', hl_wL', hl_cp', em_s', em_n', em_my, em_l', em_b, em_v, emv_s', emv_n', emv_my, emv_l', emv_b, emv_v, hb_em, hv_em, my_T, my_F, ne_eq, not_false_eq_true, nz_c, S0_c, S0_lw, S0_h, isHold_36, hc, hc.d, hc.l, hc.d.l, nz_1, nz_2, nz_3, nz_4, nz_5, nz_6, nz_7, nz_8, S0_76, ib_95, q_Md_findMay hc, q_Md_isGuild hc, q_Md_isTime hc, q_Md_leastFrom hc, q_Md_steps hc, q_Md_within hc, rT_76_30, q_Md_stall_1 hc, q_Md_stall_2 hc, q_Md_stall_3 hc, q_Md_stall_6 hc, q_Md_stall_9 hc]
set_option maxRecDepth 100000 in
set_option maxHeartbeats 400000 in
theorem r_Md_stood_1 {c : Nat} (hc : isChap c) {k63 : Nat → Int32 → Int32 → Int32 → Int32 → Int32 → hm_M → Option (Int32 × hm_M)} {K63 : Int32 → Int32 → Int32 → Int32 → Int32 → hn → Option (Int32 × hn)} (hk63 : ∀ (v5 : Int32) (v6 : Int32) (v7 : Int32) (v8 : Int32) (v9 : Int32) (N : hn), k63 76 v5 v6 v7 v8 v9 (N.1, N.2, rT c) = em c (K63 v5 v6 v7 v8 v9 N)) {v5 : Int32} {v6 : Int32} {v7 : Int32} {v8 : Int32} {v9 : Int32} {N : hn} : b_Md_stood_1 S0 k63 76 v5 v6 v7 v8 v9 (N.1, N.2, rT c) = em c (B_Md_stood_1 c K63 v5 v6 v7 v8 v9 N) := by
  unfold b_Md_stood_1 B_Md_stood_1
  try simp only [my_ite, my_hg]
  simp only [hl_n', hl_wI', hl_wL', hl_cp', em_s', em_n', em_my, em_l', em_b, em_v, emv_s', emv_n', emv_my, emv_l', emv_b, emv_v, hb_em, hv_em, my_T, my_F, ne_eq, not_false_eq_true, nz_c, S0_c, S0_lw, S0_h, isHold_36, hc, hc.d, hc.l, hc.d.l, nz_1, nz_2, nz_3, nz_4, nz_5, nz_6, nz_7, nz_8, S0_76, ib_96, ib_97, ib_98, q_Md_canStain hc, q_Md_findStains hc, q_Md_guilds hc, q_Md_within hc, rT_76_31, rT_76_32, rT_76_33, hk63]
theorem q_Md_stood_1 {c : Nat} (hc : isChap c) : ∀ (n : Nat) (v5 : Int32) (v6 : Int32) (v7 : Int32) (v8 : Int32) (v9 : Int32) (N : hn), f_Md_stood_1 S0 n 76 v5 v6 v7 v8 v9 (N.1, N.2, rT c) = em c (F_Md_stood_1 c n v5 v6 v7 v8 v9 N) := by
  intro n
  induction n with
  | zero => intros; rfl
  | succ n ih => intro v5 v6 v7 v8 v9 N ; exact r_Md_stood_1 hc  ih
set_option maxRecDepth 100000 in
set_option maxHeartbeats 400000 in
theorem q_Md_stood {c : Nat} (hc : isChap c) {v1 : Int32} {v2 : Int32} {v3 : Int32} {v4 : Int32} {v5 : Int32} {v6 : Int32} {N : hn} : f_Md_stood S0 76 v1 v2 v3 v4 v5 v6 (N.1, N.2, rT c) = em c (F_Md_stood c v1 v2 v3 v4 v5 v6 N) := by
  unfold f_Md_stood F_Md_stood
  try simp only [my_ite, my_hg]
  simp only [hl_n', hl_wI', hl_wL', hl_cp', em_s', em_n', em_my, em_l', em_b, em_v, emv_s', emv_n', emv_my, emv_l', emv_b, emv_v, hb_em, hv_em, my_T, my_F, ne_eq, not_false_eq_true, nz_c, S0_c, S0_lw, S0_h, isHold_36, hc, hc.d, hc.l, hc.d.l, nz_1, nz_2, nz_3, nz_4, nz_5, nz_6, nz_7, nz_8, S0_76, ib_96, ib_97, ib_98, q_Md_canStain hc, q_Md_findStains hc, q_Md_guilds hc, q_Md_within hc, rT_76_31, rT_76_32, rT_76_33, q_Md_stood_1 hc]
set_option maxRecDepth 100000 in
set_option maxHeartbeats 400000 in
theorem q_Md_thrown {c : Nat} (hc : isChap c) {N : hn} : f_Md_thrown S0 76 (N.1, N.2, rT c) = em c (F_Md_thrown c N) := by
  unfold f_Md_thrown F_Md_thrown
  try simp only [my_ite, my_hg]
  simp only [hl_n', hl_wI', hl_wL', hl_cp', em_s', em_n', em_my, em_l', em_b, em_v, emv_s', emv_n', emv_my, emv_l', emv_b, emv_v, hb_em, hv_em, my_T, my_F, ne_eq, not_false_eq_true, nz_c, S0_c, S0_lw, S0_h, isHold_36, hc, hc.d, hc.l, hc.d.l, nz_1, nz_2, nz_3, nz_4, nz_5, nz_6, nz_7, nz_8, S0_76]
set_option maxRecDepth 100000 in
set_option maxHeartbeats 400000 in
theorem q_Md_undo {c : Nat} (hc : isChap c) {N : hn} : f_Md_undo S0 76 (N.1, N.2, rT c) = em c (F_Md_undo c N) := by
  unfold f_Md_undo F_Md_undo
  try simp only [my_ite, my_hg]
  simp only [hl_n', hl_wI', hl_wL', hl_cp', em_s', em_n', em_my, em_l', em_b, em_v, emv_s', emv_n', emv_my, emv_l', emv_b, emv_v, hb_em, hv_em, my_T, my_F, ne_eq, not_false_eq_true, nz_c, S0_c, S0_lw, S0_h, isHold_36, hc, hc.d, hc.l, hc.d.l, nz_1, nz_2, nz_3, nz_4, nz_5, nz_6, nz_7, nz_8, S0_76, q_Md_copies hc]
set_option maxRecDepth 100000 in
set_option maxHeartbeats 400000 in
theorem q_Md_when_4 {c : Nat} (hc : isChap c) {k28 : Nat → Int32 → Int32 → Int32 → Int32 → Int32 → hm_M → Option (Int32 × hm_M)} {K28 : Int32 → Int32 → Int32 → Int32 → Int32 → hn → Option (Int32 × hn)} (hk28 : ∀ (v1 : Int32) (v2 : Int32) (v3 : Int32) (v4 : Int32) (v5 : Int32) (N : hn), k28 76 v1 v2 v3 v4 v5 (N.1, N.2, rT c) = em c (K28 v1 v2 v3 v4 v5 N)) {v1 : Int32} {v3 : Int32} {v4 : Int32} {v5 : Int32} {s0 : Int32} {N : hn} : b_Md_when_4 S0 k28 76 v1 v3 v4 v5 s0 (N.1, N.2, rT c) = em c (B_Md_when_4 c K28 v1 v3 v4 v5 s0 N) := by
  unfold b_Md_when_4 B_Md_when_4
  try simp only [my_ite, my_hg]
  simp only [hl_n', hl_wI', hl_wL', hl_cp', em_s', em_n', em_my, em_l', em_b, em_v, emv_s', emv_n', emv_my, emv_l', emv_b, emv_v, hb_em, hv_em, my_T, my_F, ne_eq, not_false_eq_true, nz_c, S0_c, S0_lw, S0_h, isHold_36, hc, hc.d, hc.l, hc.d.l, nz_1, nz_2, nz_3, nz_4, nz_5, nz_6, nz_7, nz_8, S0_76, q_Md_candlesAt hc, q_Md_within hc, hk28]
set_option maxRecDepth 100000 in
set_option maxHeartbeats 400000 in
theorem q_Md_when_3 {c : Nat} (hc : isChap c) {k28 : Nat → Int32 → Int32 → Int32 → Int32 → Int32 → hm_M → Option (Int32 × hm_M)} {K28 : Int32 → Int32 → Int32 → Int32 → Int32 → hn → Option (Int32 × hn)} (hk28 : ∀ (v1 : Int32) (v2 : Int32) (v3 : Int32) (v4 : Int32) (v5 : Int32) (N : hn), k28 76 v1 v2 v3 v4 v5 (N.1, N.2, rT c) = em c (K28 v1 v2 v3 v4 v5 N)) {v1 : Int32} {v2 : Int32} {v3 : Int32} {v5 : Int32} {v6 : Int32} {s0 : Int32} {N : hn} : b_Md_when_3 S0 k28 76 v1 v2 v3 v5 v6 s0 (N.1, N.2, rT c) = em c (B_Md_when_3 c K28 v1 v2 v3 v5 v6 s0 N) := by
  unfold b_Md_when_3 B_Md_when_3
  try simp only [my_ite, my_hg]
  simp only [hl_n', hl_wI', hl_wL', hl_cp', em_s', em_n', em_my, em_l', em_b, em_v, emv_s', emv_n', emv_my, emv_l', emv_b, emv_v, hb_em, hv_em, my_T, my_F, ne_eq, not_false_eq_true, nz_c, S0_c, S0_lw, S0_h, isHold_36, hc, hc.d, hc.l, hc.d.l, nz_1, nz_2, nz_3, nz_4, nz_5, nz_6, nz_7, nz_8, S0_76, q_Md_candlesAt hc, q_Md_within hc, hk28, q_Md_when_4 hc hk28]
set_option maxRecDepth 100000 in
set_option maxHeartbeats 400000 in
theorem q_Md_when_2 {c : Nat} (hc : isChap c) {k28 : Nat → Int32 → Int32 → Int32 → Int32 → Int32 → hm_M → Option (Int32 × hm_M)} {K28 : Int32 → Int32 → Int32 → Int32 → Int32 → hn → Option (Int32 × hn)} (hk28 : ∀ (v1 : Int32) (v2 : Int32) (v3 : Int32) (v4 : Int32) (v5 : Int32) (N : hn), k28 76 v1 v2 v3 v4 v5 (N.1, N.2, rT c) = em c (K28 v1 v2 v3 v4 v5 N)) {v1 : Int32} {v2 : Int32} {v4 : Int32} {v5 : Int32} {v6 : Int32} {s0 : Int32} {N : hn} : b_Md_when_2 S0 k28 76 v1 v2 v4 v5 v6 s0 (N.1, N.2, rT c) = em c (B_Md_when_2 c K28 v1 v2 v4 v5 v6 s0 N) := by
  unfold b_Md_when_2 B_Md_when_2
  try simp only [my_ite, my_hg]
  simp only [hl_n', hl_wI', hl_wL', hl_cp', em_s', em_n', em_my, em_l', em_b, em_v, emv_s', emv_n', emv_my, emv_l', emv_b, emv_v, hb_em, hv_em, my_T, my_F, ne_eq, not_false_eq_true, nz_c, S0_c, S0_lw, S0_h, isHold_36, hc, hc.d, hc.l, hc.d.l, nz_1, nz_2, nz_3, nz_4, nz_5, nz_6, nz_7, nz_8, S0_76, q_Md_candlesAt hc, q_Md_within hc, hk28, q_Md_when_4 hc hk28, q_Md_when_3 hc hk28]
set_option maxRecDepth 100000 in
set_option maxHeartbeats 400000 in
theorem r_Md_when_1 {c : Nat} (hc : isChap c) {k28 : Nat → Int32 → Int32 → Int32 → Int32 → Int32 → hm_M → Option (Int32 × hm_M)} {K28 : Int32 → Int32 → Int32 → Int32 → Int32 → hn → Option (Int32 × hn)} (hk28 : ∀ (v1 : Int32) (v2 : Int32) (v3 : Int32) (v4 : Int32) (v5 : Int32) (N : hn), k28 76 v1 v2 v3 v4 v5 (N.1, N.2, rT c) = em c (K28 v1 v2 v3 v4 v5 N)) {v1 : Int32} {v2 : Int32} {v3 : Int32} {v4 : Int32} {v5 : Int32} {N : hn} : b_Md_when_1 S0 k28 76 v1 v2 v3 v4 v5 (N.1, N.2, rT c) = em c (B_Md_when_1 c K28 v1 v2 v3 v4 v5 N) := by
  unfold b_Md_when_1 B_Md_when_1
  try simp only [my_ite, my_hg]
  simp only [hl_n', hl_wI', hl_wL', hl_cp', em_s', em_n', em_my, em_l', em_b, em_v, emv_s', emv_n', emv_my, emv_l', emv_b, emv_v, hb_em, hv_em, my_T, my_F, ne_eq, not_false_eq_true, nz_c, S0_c, S0_lw, S0_h, isHold_36, hc, hc.d, hc.l, hc.d.l, nz_1, nz_2, nz_3, nz_4, nz_5, nz_6, nz_7, nz_8, S0_76, q_Md_candlesAt hc, q_Md_within hc, hk28, q_Md_when_4 hc hk28, q_Md_when_3 hc hk28, q_Md_when_2 hc hk28]
theorem q_Md_when_1 {c : Nat} (hc : isChap c) : ∀ (n : Nat) (v1 : Int32) (v2 : Int32) (v3 : Int32) (v4 : Int32) (v5 : Int32) (N : hn), f_Md_when_1 S0 n 76 v1 v2 v3 v4 v5 (N.1, N.2, rT c) = em c (F_Md_when_1 c n v1 v2 v3 v4 v5 N) := by
  intro n
  induction n with
  | zero => intros; rfl
  | succ n ih => intro v1 v2 v3 v4 v5 N ; exact r_Md_when_1 hc  ih
set_option maxRecDepth 100000 in
set_option maxHeartbeats 400000 in
theorem q_Md_when {c : Nat} (hc : isChap c) {v1 : Int32} {N : hn} : f_Md_when S0 76 v1 (N.1, N.2, rT c) = em c (F_Md_when c v1 N) := by
  unfold f_Md_when F_Md_when
  try simp only [my_ite, my_hg]
  simp only [hl_n', hl_wI', hl_wL', hl_cp', em_s', em_n', em_my, em_l', em_b, em_v, emv_s', emv_n', emv_my, emv_l', emv_b, emv_v, hb_em, hv_em, my_T, my_F, ne_eq, not_false_eq_true, nz_c, S0_c, S0_lw, S0_h, isHold_36, hc, hc.d, hc.l, hc.d.l, nz_1, nz_2, nz_3, nz_4, nz_5, nz_6, nz_7, nz_8, S0_76, q_Md_candlesAt hc, q_Md_within hc, q_Md_when_1 hc]
set_option maxRecDepth 100000 in
set_option maxHeartbeats 400000 in
theorem q_Md_worth {c : Nat} (hc : isChap c) {v1 : Int32} {v2 : Int32} {N : hn} : f_Md_worth S0 76 v1 v2 (N.1, N.2, rT c) = em c (F_Md_worth c v1 v2 N) := by
  unfold f_Md_worth F_Md_worth
  try simp only [my_ite, my_hg]
  simp only [hl_n', hl_wI', hl_wL', hl_cp', em_s', em_n', em_my, em_l', em_b, em_v, emv_s', emv_n', emv_my, emv_l', emv_b, emv_v, hb_em, hv_em, my_T, my_F, ne_eq, not_false_eq_true, nz_c, S0_c, S0_lw, S0_h, isHold_36, hc, hc.d, hc.l, hc.d.l, nz_1, nz_2, nz_3, nz_4, nz_5, nz_6, nz_7, nz_8, S0_76, q_Md_findYields hc, q_Md_isGuild hc, q_Md_isPane hc, q_Md_worthOf hc]
set_option maxRecDepth 100000 in
set_option maxHeartbeats 400000 in
theorem q_Md_yields {c : Nat} (hc : isChap c) {v1 : Int32} {N : hn} : f_Md_yields S0 76 v1 (N.1, N.2, rT c) = em c (F_Md_yields c v1 N) := by
  unfold f_Md_yields F_Md_yields
  try simp only [my_ite, my_hg]
  simp only [hl_n', hl_wI', hl_wL', hl_cp', em_s', em_n', em_my, em_l', em_b, em_v, emv_s', emv_n', emv_my, emv_l', emv_b, emv_v, hb_em, hv_em, my_T, my_F, ne_eq, not_false_eq_true, nz_c, S0_c, S0_lw, S0_h, isHold_36, hc, hc.d, hc.l, hc.d.l, nz_1, nz_2, nz_3, nz_4, nz_5, nz_6, nz_7, nz_8, S0_76, ib_91, q_Md_findYields hc, q_Md_isPane hc, rT_76_25]
