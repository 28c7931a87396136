/-! the resolved layer is right (by program) -/
set_option maxRecDepth 100000 in
set_option maxHeartbeats 400000 in
theorem r_Md_best_2 {c : Nat} (hc : isChap c) {k26 : Nat → Int32 → Int32 → hm_M → Option (Int32 × hm_M)} {K26 : Int32 → Int32 → hn → Option (Int32 × hn)} (hk26 : ∀ (v1 : Int32) (v2 : Int32) (N : hn), k26 76 v1 v2 (N.1, N.2, rT c) = em c (K26 v1 v2 N)) {v1 : Int32} {v2 : Int32} {N : hn} : b_Md_best_2 S0 k26 76 v1 v2 (N.1, N.2, rT c) = em c (B_Md_best_2 c K26 v1 v2 N) := by
  unfold b_Md_best_2 B_Md_best_2
  try simp only [my_ite, my_hg]
  simp only [hl_n', hl_wI', hl_wL', hl_cp', em_s', em_n', em_my, em_l', em_b, em_v, emv_s', emv_n', emv_my, emv_l', emv_b, emv_v, hb_em, hv_em, my_T, my_F, ne_eq, not_false_eq_true, nz_c, S0_c, S0_lw, S0_h, isHold_36, hc, hc.d, hc.l, hc.d.l, nz_1, nz_2, nz_3, nz_4, nz_5, nz_6, nz_7, nz_8, S0_76, ib_92, ib_93, q_Md_findYields hc, q_Md_isPane hc, q_Md_tries hc hD, rT_76_26, rT_76_27, hk26]
theorem q_Md_best_2 {c : Nat} (hc : isChap c) : ∀ (n : Nat) (v1 : Int32) (v2 : Int32) (N : hn), f_Md_best_2 S0 n 76 v1 v2 (N.1, N.2, rT c) = em c (F_Md_best_2 c n v1 v2 N) := by
  intro n
  induction n with
  | zero => intros; rfl
  | succ n ih => intro v1 v2 N ; exact r_Md_best_2 hc  ih
set_option maxRecDepth 100000 in
set_option maxHeartbeats 400000 in
theorem q_Md_best_1 {c : Nat} (hc : isChap c) {v1 : Int32} {N : hn} : b_Md_best_1 S0 76 v1 (N.1, N.2, rT c) = em c (B_Md_best_1 c v1 N) := by
  unfold b_Md_best_1 B_Md_best_1
  try simp only [my_ite, my_hg]
  simp only [hl_n', hl_wI', hl_wL', hl_cp', em_s', em_n', em_my, em_l', em_b, em_v, emv_s', emv_n', emv_my, emv_l', emv_b, emv_v, hb_em, hv_em, my_T, my_F, ne_eq, not_false_eq_true, nz_c, S0_c, S0_lw, S0_h, isHold_36, hc, hc.d, hc.l, hc.d.l, nz_1, nz_2, nz_3, nz_4, nz_5, nz_6, nz_7, nz_8, S0_76, ib_92, ib_93, q_Md_findYields hc, q_Md_isPane hc, q_Md_tries hc hD, rT_76_26, rT_76_27, q_Md_best_2 hc]
set_option maxRecDepth 100000 in
set_option maxHeartbeats 400000 in
theorem q_Md_best {c : Nat} (hc : isChap c) {v1 : Int32} {N : hn} : f_Md_best S0 76 v1 (N.1, N.2, rT c) = em c (F_Md_best c v1 N) := by
  unfold f_Md_best F_Md_best
  try simp only [my_ite, my_hg]
  simp only [hl_n', hl_wI', hl_wL', hl_cp', em_s', em_n', em_my, em_l', em_b, em_v, emv_s', emv_n', emv_my, emv_l', emv_b, emv_v, hb_em, hv_em, my_T, my_F, ne_eq, not_false_eq_true, nz_c, S0_c, S0_lw, S0_h, isHold_36, hc, hc.d, hc.l, hc.d.l, nz_1, nz_2, nz_3, nz_4, nz_5, nz_6, nz_7, nz_8, S0_76, ib_92, ib_93, q_Md_findYields hc, q_Md_isPane hc, q_Md_tries hc hD, rT_76_26, rT_76_27, q_Md_best_1 hc, q_Md_best_2 hc]
set_option maxRecDepth 100000 in
set_option maxHeartbeats 400000 in
theorem r_Md_copies_1 {c : Nat} (hc : isChap c) {k3 : Nat → Int32 → Int32 → Int32 → Int32 → hm_M → Option hm_M} {K3 : Int32 → Int32 → Int32 → Int32 → hn → Option hn} (hk3 : ∀ (v1 : Int32) (v2 : Int32) (v3 : Int32) (v4 : Int32) (N : hn), k3 76 v1 v2 v3 v4 (N.1, N.2, rT c) = emv c (K3 v1 v2 v3 v4 N)) {v1 : Int32} {v2 : Int32} {v3 : Int32} {v4 : Int32} {N : hn} : b_Md_copies_1 S0 k3 76 v1 v2 v3 v4 (N.1, N.2, rT c) = emv c (B_Md_copies_1 c K3 v1 v2 v3 v4 N) := by
  unfold b_Md_copies_1 B_Md_copies_1
  try simp only [my_ite, my_hg]
  simp only [hl_n', hl_wI', hl_wL', hl_cp', em_s', em_n', em_my, em_l', em_b, em_v, emv_s', emv_n', emv_my, emv_l', emv_b, emv_v, hb_em, hv_em, my_T, my_F, ne_eq, not_false_eq_true, nz_c, S0_c, S0_lw, S0_h, isHold_36, hc, hc.d, hc.l, hc.d.l, nz_1, nz_2, nz_3, nz_4, nz_5, nz_6, nz_7, nz_8, S0_76, ib_88, rT_76_20, hk3]
theorem q_Md_copies_1 {c : Nat} (hc : isChap c) : ∀ (n : Nat) (v1 : Int32) (v2 : Int32) (v3 : Int32) (v4 : Int32) (N : hn), f_Md_copies_1 S0 n 76 v1 v2 v3 v4 (N.1, N.2, rT c) = emv c (F_Md_copies_1 c n v1 v2 v3 v4 N) := by
  intro n
  induction n with
  | zero => intros; rfl
  | succ n ih => intro v1 v2 v3 v4 N ; exact r_Md_copies_1 hc  ih
set_option maxRecDepth 100000 in
set_option maxHeartbeats 400000 in
theorem q_Md_copies {c : Nat} (hc : isChap c) {v1 : Int32} {v2 : Int32} {v3 : Int32} {N : hn} : f_Md_copies S0 76 v1 v2 v3 (N.1, N.2, rT c) = emv c (F_Md_copies c v1 v2 v3 N) := by
  unfold f_Md_copies F_Md_copies
  try simp only [my_ite, my_hg]
  simp only [hl_n', hl_wI', hl_wL', hl_cp', em_s', em_n', em_my, em_l', em_b, em_v, emv_s', emv_n', emv_my, emv_l', emv_b, emv_v, hb_em, hv_em, my_T, my_F, ne_eq, not_false_eq_true, nz_c, S0_c, S0_lw, S0_h, isHold_36, hc, hc.d, hc.l, hc.d.l, nz_1, nz_2, nz_3, nz_4, nz_5, nz_6, nz_7, nz_8, S0_76, ib_88, rT_76_20, q_Md_copies_1 hc]
set_option maxRecDepth 100000 in
set_option maxHeartbeats 400000 in
theorem q_Md_keeps_2 {c : Nat} (hc : isChap c) {N : hn} : b_Md_keeps_2 S0 76 (N.1, N.2, rT c) = emv c (B_Md_keeps_2 c N) := by
  unfold b_Md_keeps_2 B_Md_keeps_2
  try simp only [my_ite, my_hg]
  simp only [hl_n', hl_wI', hl_wL', hl_cp', em_s', em_n', em_my, em_l', em_b, em_v, emv_s', emv_n', emv_my, emv_l', emv_b, emv_v, hb_em, hv_em, my_T, my_F, ne_eq, not_false_eq_true, nz_c, S0_c, S0_lw, S0_h, isHold_36, hc, hc.d, hc.l, hc.d.l, nz_1, nz_2, nz_3, nz_4, nz_5, nz_6, nz_7, nz_8, S0_76, q_Md_copies hc]
set_option maxRecDepth 100000 in
set_option maxHeartbeats 400000 in
theorem r_Md_keeps_1 {c : Nat} (hc : isChap c) {k11 : Nat → Int32 → hm_M → Option hm_M} {K11 : Int32 → hn → Option hn} (hk11 : ∀ (v1 : Int32) (N : hn), k11 76 v1 (N.1, N.2, rT c) = emv c (K11 v1 N)) {v1 : Int32} {N : hn} : b_Md_keeps_1 S0 k11 76 v1 (N.1, N.2, rT c) = emv c (B_Md_keeps_1 c K11 v1 N) := by
  unfold b_Md_keeps_1 B_Md_keeps_1
  try simp only [my_ite, my_hg]
  simp only [hl_n', hl_wI', hl_wL', hl_cp', em_s', em_n', em_my, em_l', em_b, em_v, emv_s', emv_n', emv_my, emv_l', emv_b, emv_v, hb_em, hv_em, my_T, my_F, ne_eq, not_false_eq_true, nz_c, S0_c, S0_lw, S0_h, isHold_36, hc, hc.d, hc.l, hc.d.l, nz_1, nz_2, nz_3, nz_4, nz_5, nz_6, nz_7, nz_8, S0_76, q_Md_copies hc, hk11, q_Md_keeps_2 hc]
theorem q_Md_keeps_1 {c : Nat} (hc : isChap c) : ∀ (n : Nat) (v1 : Int32) (N : hn), f_Md_keeps_1 S0 n 76 v1 (N.1, N.2, rT c) = emv c (F_Md_keeps_1 c n v1 N) := by
  intro n
  induction n with
  | zero => intros; rfl
  | succ n ih => intro v1 N ; exact r_Md_keeps_1 hc  ih
set_option maxRecDepth 100000 in
set_option maxHeartbeats 400000 in
theorem q_Md_keeps {c : Nat} (hc : isChap c) {N : hn} : f_Md_keeps S0 76 (N.1, N.2, rT c) = emv c (F_Md_keeps c N) := by
  unfold f_Md_keeps F_Md_keeps
  try simp only [my_ite, my_hg]
  simp only [hl_n', hl_wI', hl_wL', hl_cp', em_s', em_n', em_my, em_l', em_b, em_v, emv_s', emv_n', emv_my, emv_l', emv_b, emv_v, hb_em, hv_em, my_T, my_F, ne_eq, not_false_eq_true, nz_c, S0_c, S0_lw, S0_h, isHold_36, hc, hc.d, hc.l, hc.d.l, nz_1, nz_2, nz_3, nz_4, nz_5, nz_6, nz_7, nz_8, S0_76, q_Md_copies hc, q_Md_keeps_1 hc, q_Md_keeps_2 hc]
set_option maxRecDepth 100000 in
set_option maxHeartbeats 400000 in
theorem q_Md_breaks {c : Nat} (hc : isChap c) {v1 : Int32} {v2 : Int32} {N : hn} : f_Md_breaks S0 76 v1 v2 (N.1, N.2, rT c) = em c (F_Md_breaks c v1 v2 N) := by
  unfold f_Md_breaks F_Md_breaks
  try simp only [my_ite, my_hg]
  simp only [hl_n', hl_wI', hl_wL', hl_cp', em_s', em_n', em_my, em_l', em_b, em_v, emv_s', emv_n', emv_my, emv_l', emv_b, emv_v, hb_em, hv_em, my_T, my_F, ne_eq, not_false_eq_true, nz_c, S0_c, S0_lw, S0_h, isHold_36, hc, hc.d, hc.l, hc.d.l, nz_1, nz_2, nz_3, nz_4, nz_5, nz_6, nz_7, nz_8, S0_76, ib_88, q_Md_isBroken hc, q_Md_isPane hc, q_Md_keeps hc, rT_76_20]
set_option maxRecDepth 100000 in
set_option maxHeartbeats 400000 in
theorem q_Md_within {c : Nat} (hc : isChap c) {v0 : Int32} {v1 : Int32} {v2 : Int32} {N : hn} : f_Md_within S0 v0 v1 v2 (N.1, N.2, rT c) = em c (F_Md_within c v0 v1 v2 N) := by
  unfold f_Md_within F_Md_within
  try simp only [my_ite, my_hg]
  simp only [hl_n', hl_wI', hl_wL', hl_cp', em_s', em_n', em_my, em_l', em_b, em_v, emv_s', emv_n', emv_my, emv_l', emv_b, emv_v, hb_em, hv_em, my_T, my_F, ne_eq, not_false_eq_true, nz_c, S0_c, S0_lw, S0_h, isHold_36, hc, hc.d, hc.l, hc.d.l, nz_1, nz_2, nz_3, nz_4, nz_5, nz_6, nz_7, nz_8, S0_76]
set_option maxRecDepth 100000 in
set_option maxHeartbeats 400000 in
theorem q_Md_isTime {c : Nat} (hc : isChap c) {v0 : Int32} {v1 : Int32} {N : hn} : f_Md_isTime S0 v0 v1 (N.1, N.2, rT c) = em c (F_Md_isTime c v0 v1 N) := by
  unfold f_Md_isTime F_Md_isTime
  try simp only [my_ite, my_hg]
  simp only [hl_n', hl_wI', hl_wL', hl_cp', em_s', em_n', em_my, em_l', em_b, em_v, emv_s', emv_n', emv_my, emv_l', emv_b, emv_v, hb_em, hv_em, my_T, my_F, ne_eq, not_false_eq_true, nz_c, S0_c, S0_lw, S0_h, isHold_36, hc, hc.d, hc.l, hc.d.l, nz_1, nz_2, nz_3, nz_4, nz_5, nz_6, nz_7, nz_8, S0_76, q_Md_within hc]
set_option maxRecDepth 100000 in
set_option maxHeartbeats 400000 in
theorem q_Md_canStain {c : Nat} (hc : isChap c) {v1 : Int32} {v2 : Int32} {v3 : Int32} {v4 : Int32} {N : hn} : f_Md_canStain S0 76 v1 v2 v3 v4 (N.1, N.2, rT c) = em c (F_Md_canStain c v1 v2 v3 v4 N) := by
  unfold f_Md_canStain F_Md_canStain
  try simp only [my_ite, my_hg]
  simp only [hl_n', hl_wI', hl_wL', hl_cp', em_s', em_n', em_my, em_l', em_b, em_v, emv_s', emv_n', emv_my, emv_l', emv_b, emv_v, hb_em, hv_em, my_T, my_F, ne_eq, not_false_eq_true, nz_c, S0_c, S0_lw, S0_h, isHold_36, hc, hc.d, hc.l, hc.d.l, nz_1, nz_2, nz_3, nz_4, nz_5, nz_6, nz_7, nz_8, S0_76, q_Md_isTime hc, q_Md_within hc]
set_option maxRecDepth 100000 in
set_option maxHeartbeats 400000 in
theorem q_Md_seens {c : Nat} (hc : isChap c) {N : hn} : f_Md_seens S0 76 (N.1, N.2, rT c) = em c (F_Md_seens c N) := by
  unfold f_Md_seens F_Md_seens
  try simp only [my_ite, my_hg]
  simp only [hl_n', hl_wI', hl_wL', hl_cp', em_s', em_n', em_my, em_l', em_b, em_v, emv_s', emv_n', emv_my, emv_l', emv_b, emv_v, hb_em, hv_em, my_T, my_F, ne_eq, not_false_eq_true, nz_c, S0_c, S0_lw, S0_h, isHold_36, hc, hc.d, hc.l, hc.d.l, nz_1, nz_2, nz_3, nz_4, nz_5, nz_6, nz_7, nz_8, S0_76, ib_88, rT_76_20]
set_option maxRecDepth 100000 in
set_option maxHeartbeats 400000 in
theorem q_Md_candlesAt_2 {c : Nat} (hc : isChap c) {k11 : Nat → Int32 → Int32 → hm_M → Option (Int32 × hm_M)} {K11 : Int32 → Int32 → hn → Option (Int32 × hn)} (hk11 : ∀ (v3 : Int32) (v4 : Int32) (N : hn), k11 76 v3 v4 (N.1, N.2, rT c) = em c (K11 v3 v4 N)) {v4 : Int32} {s0 : Int32} {s1 : Int32} {N : hn} : b_Md_candlesAt_2 S0 k11 76 v4 s0 s1 (N.1, N.2, rT c) = em c (B_Md_candlesAt_2 c K11 v4 s0 s1 N) := by
  unfold b_Md_candlesAt_2 B_Md_candlesAt_2
  try simp only [my_ite, my_hg]
  simp only [hl_n', hl_wI', hl_wL', hl_cp', em_s', em_n', em_my, em_l', em_b, em_v, emv_s', emv_n', emv_my, emv_l', emv_b, emv_v, hb_em, hv_em, my_T, my_F, ne_eq, not_false_eq_true, nz_c, S0_c, S0_lw, S0_h, isHold_36, hc, hc.d, hc.l, hc.d.l, nz_1, nz_2, nz_3, nz_4, nz_5, nz_6, nz_7, nz_8, S0_76, ib_88, q_Md_findLight hc, q_Md_lightAt hc, q_Md_seens hc, rT_76_20, hk11]
set_option maxRecDepth 100000 in
set_option maxHeartbeats 400000 in
theorem r_Md_candlesAt_1 {c : Nat} (hc : isChap c) {k11 : Nat → Int32 → Int32 → hm_M → Option (Int32 × hm_M)} {K11 : Int32 → Int32 → hn → Option (Int32 × hn)} (hk11 : ∀ (v3 : Int32) (v4 : Int32) (N : hn), k11 76 v3 v4 (N.1, N.2, rT c) = em c (K11 v3 v4 N)) {v3 : Int32} {v4 : Int32} {N : hn} : b_Md_candlesAt_1 S0 k11 76 v3 v4 (N.1, N.2, rT c) = em c (B_Md_candlesAt_1 c K11 v3 v4 N) := by
  unfold b_Md_candlesAt_1 B_Md_candlesAt_1
  try simp only [my_ite, my_hg]
  simp only [hl_n', hl_wI', hl_wL', hl_cp', em_s', em_n', em_my, em_l', em_b, em_v, emv_s', emv_n', emv_my, emv_l', emv_b, emv_v, hb_em, hv_em, my_T, my_F, ne_eq, not_false_eq_true, nz_c, S0_c, S0_lw, S0_h, isHold_36, hc, hc.d, hc.l, hc.d.l, nz_1, nz_2, nz_3, nz_4, nz_5, nz_6, nz_7, nz_8, S0_76, ib_88, q_Md_findLight hc, q_Md_lightAt hc, q_Md_seens hc, rT_76_20, hk11, q_Md_candlesAt_2 hc hk11]
theorem q_Md_candlesAt_1 {c : Nat} (hc : isChap c) : ∀ (n : Nat) (v3 : Int32) (v4 : Int32) (N : hn), f_Md_candlesAt_1 S0 n 76 v3 v4 (N.1, N.2, rT c) = em c (F_Md_candlesAt_1 c n v3 v4 N) := by
  intro n
  induction n with
  | zero => intros; rfl
  | succ n ih => intro v3 v4 N ; exact r_Md_candlesAt_1 hc  ih
set_option maxRecDepth 100000 in
set_option maxHeartbeats 400000 in
theorem q_Md_candlesAt {c : Nat} (hc : isChap c) {v1 : Int32} {v2 : Int32} {N : hn} : f_Md_candlesAt S0 76 v1 v2 (N.1, N.2, rT c) = em c (F_Md_candlesAt c v1 v2 N) := by
  unfold f_Md_candlesAt F_Md_candlesAt
  try simp only [my_ite, my_hg]
  simp only [hl_n', hl_wI', hl_wL', hl_cp', em_s', em_n', em_my, em_l', em_b, em_v, emv_s', emv_n', emv_my, emv_l', emv_b, emv_v, hb_em, hv_em, my_T, my_F, ne_eq, not_false_eq_true, nz_c, S0_c, S0_lw, S0_h, isHold_36, hc, hc.d, hc.l, hc.d.l, nz_1, nz_2, nz_3, nz_4, nz_5, nz_6, nz_7, nz_8, S0_76, ib_88, q_Md_findLight hc, q_Md_lightAt hc, q_Md_seens hc, rT_76_20, q_Md_candlesAt_1 hc]
set_option maxRecDepth 100000 in
set_option maxHeartbeats 400000 in
theorem q_Md_candles {c : Nat} (hc : isChap c) {v1 : Int32} {v2 : Int32} {N : hn} : f_Md_candles S0 76 v1 v2 (N.1, N.2, rT c) = em c (F_Md_candles c v1 v2 N) := by
  unfold f_Md_candles F_Md_candles
  try simp only [my_ite, my_hg]
  simp only [hl_n', hl_wI', hl_wL', hl_cp', em_s', em_n', em_my, em_l', em_b, em_v, emv_s', emv_n', emv_my, emv_l', emv_b, emv_v, hb_em, hv_em, my_T, my_F, ne_eq, not_false_eq_true, nz_c, S0_c, S0_lw, S0_h, isHold_36, hc, hc.d, hc.l, hc.d.l, nz_1, nz_2, nz_3, nz_4, nz_5, nz_6, nz_7, nz_8, S0_76, q_Md_candlesAt hc, q_Md_isTime hc]
set_option maxRecDepth 100000 in
set_option maxHeartbeats 400000 in
theorem q_Md_isLetter {c : Nat} (hc : isChap c) {v0 : Int32} {N : hn} : f_Md_isLetter S0 v0 (N.1, N.2, rT c) = em c (F_Md_isLetter c v0 N) := by
  unfold f_Md_isLetter F_Md_isLetter
  try simp only [my_ite, my_hg]
  simp only [hl_n', hl_wI', hl_wL', hl_cp', em_s', em_n', em_my, em_l', em_b, em_v, emv_s', emv_n', emv_my, emv_l', emv_b, emv_v, hb_em, hv_em, my_T, my_F, ne_eq, not_false_eq_true, nz_c, S0_c, S0_lw, S0_h, isHold_36, hc, hc.d, hc.l, hc.d.l, nz_1, nz_2, nz_3, nz_4, nz_5, nz_6, nz_7, nz_8, S0_76]
set_option maxRecDepth 100000 in
set_option maxHeartbeats 400000 in
theorem q_Md_rank {c : Nat} (hc : isChap c) {v0 : Int32} {N : hn} : f_Md_rank S0 v0 (N.1, N.2, rT c) = em c (F_Md_rank c v0 N) := by
  unfold f_Md_rank F_Md_rank
  try simp only [my_ite, my_hg]
  simp only [hl_n', hl_wI', hl_wL', hl_cp', em_s', em_n', em_my, em_l', em_b, em_v, emv_s', emv_n', emv_my, emv_l', emv_b, emv_v, hb_em, hv_em, my_T, my_F, ne_eq, not_false_eq_true, nz_c, S0_c, S0_lw, S0_h, isHold_36, hc, hc.d, hc.l, hc.d.l, nz_1, nz_2, nz_3, nz_4, nz_5, nz_6, nz_7, nz_8, S0_76, q_Md_isLetter hc]
set_option maxRecDepth 100000 in
set_option maxHeartbeats 400000 in
theorem q_Md_isDigit {c : Nat} (hc : isChap c) {v0 : Int32} {N : hn} : f_Md_isDigit S0 v0 (N.1, N.2, rT c) = em c (F_Md_isDigit c v0 N) := by
  unfold f_Md_isDigit F_Md_isDigit
  try simp only [my_ite, my_hg]
  simp only [hl_n', hl_wI', hl_wL', hl_cp', em_s', em_n', em_my, em_l', em_b, em_v, emv_s', emv_n', emv_my, emv_l', emv_b, emv_v, hb_em, hv_em, my_T, my_F, ne_eq, not_false_eq_true, nz_c, S0_c, S0_lw, S0_h, isHold_36, hc, hc.d, hc.l, hc.d.l, nz_1, nz_2, nz_3, nz_4, nz_5, nz_6, nz_7, nz_8, S0_76]
set_option maxRecDepth 100000 in
set_option maxHeartbeats 400000 in
theorem q_Md_isSignOf {c : Nat} (hc : isChap c) {v0 : Int32} {N : hn} : f_Md_isSignOf S0 v0 (N.1, N.2, rT c) = em c (F_Md_isSignOf c v0 N) := by
  unfold f_Md_isSignOf F_Md_isSignOf
  try simp only [my_ite, my_hg]
  simp only [hl_n', hl_wI', hl_wL', hl_cp', em_s', em_n', em_my, em_l', em_b, em_v, emv_s', emv_n', emv_my, emv_l', emv_b, emv_v, hb_em, hv_em, my_T, my_F, ne_eq, not_false_eq_true, nz_c, S0_c, S0_lw, S0_h, isHold_36, hc, hc.d, hc.l, hc.d.l, nz_1, nz_2, nz_3, nz_4, nz_5, nz_6, nz_7, nz_8, S0_76]
set_option maxRecDepth 100000 in
set_option maxHeartbeats 400000 in
theorem q_Md_cutAll_11 {c : Nat} (hc : isChap c) {k17 : Nat → Int32 → Int32 → hm_M → Option hm_M} {K17 : Int32 → Int32 → hn → Option hn} (hk17 : ∀ (v1 : Int32) (v2 : Int32) (N : hn), k17 76 v1 v2 (N.1, N.2, rT c) = emv c (K17 v1 v2 N)) {v1 : Int32} {v2 : Int32} {v5 : Int64} {N : hn} : b_Md_cutAll_11 S0 k17 76 v1 v2 v5 (N.1, N.2, rT c) = emv c (B_Md_cutAll_11 c K17 v1 v2 v5 N) := by
  unfold b_Md_cutAll_11 B_Md_cutAll_11
  try simp only [my_ite, my_hg]
  simp only [hl_n', hl_wI', hl_wL', hl_cp', em_s', em_n', em_my, em_l', em_b, em_v, emv_s', emv_n', emv_my, emv_l', emv_b, emv_v, hb_em, hv_em, my_T, my_F, ne_eq, not_false_eq_true, nz_c, S0_c, S0_lw, S0_h, isHold_36, hc, hc.d, hc.l, hc.d.l, nz_1, nz_2, nz_3, nz_4, nz_5, nz_6, nz_7, nz_8, S0_76, ib_77, ib_78, ib_79, ib_80, q_Md_isDigit hc, q_Md_isLetter hc, q_Md_isSignOf hc, q_Md_rank hc, rT_76_1, rT_76_4, rT_76_5, rT_76_6, hk17]
set_option maxRecDepth 100000 in
set_option maxHeartbeats 400000 in
theorem q_Md_cutAll_10 {c : Nat} (hc : isChap c) {k17 : Nat → Int32 → Int32 → hm_M → Option hm_M} {K17 : Int32 → Int32 → hn → Option hn} (hk17 : ∀ (v1 : Int32) (v2 : Int32) (N : hn), k17 76 v1 v2 (N.1, N.2, rT c) = emv c (K17 v1 v2 N)) {v1 : Int32} {v2 : Int32} {v5 : Int64} {s0 : Int32} {s1 : Int32} {N : hn} : b_Md_cutAll_10 S0 k17 76 v1 v2 v5 s0 s1 78 (N.1, N.2, rT c) = emv c (B_Md_cutAll_10 c K17 v1 v2 v5 s0 s1 N) := by
  unfold b_Md_cutAll_10 B_Md_cutAll_10
  try simp only [my_ite, my_hg]
  simp only [hl_n', hl_wI', hl_wL', hl_cp', em_s', em_n', em_my, em_l', em_b, em_v, emv_s', emv_n', emv_my, emv_l', emv_b, emv_v, hb_em, hv_em, my_T, my_F, ne_eq, not_false_eq_true, nz_c, S0_c, S0_lw, S0_h, isHold_36, hc, hc.d, hc.l, hc.d.l, nz_1, nz_2, nz_3, nz_4, nz_5, nz_6, nz_7, nz_8, S0_76, ib_77, ib_78, ib_79, ib_80, q_Md_isDigit hc, q_Md_isLetter hc, q_Md_isSignOf hc, q_Md_rank hc, rT_76_1, rT_76_4, rT_76_5, rT_76_6, hk17, q_Md_cutAll_11 hc hk17]
set_option maxRecDepth 100000 in
set_option maxHeartbeats 400000 in
theorem q_Md_cutAll_9 {c : Nat} (hc : isChap c) {k17 : Nat → Int32 → Int32 → hm_M → Option hm_M} {K17 : Int32 → Int32 → hn → Option hn} (hk17 : ∀ (v1 : Int32) (v2 : Int32) (N : hn), k17 76 v1 v2 (N.1, N.2, rT c) = emv c (K17 v1 v2 N)) {v1 : Int32} {v2 : Int32} {v5 : Int64} {s0 : Int32} {s1 : Int32} {N : hn} : b_Md_cutAll_9 S0 k17 76 v1 v2 v5 s0 s1 78 (N.1, N.2, rT c) = emv c (B_Md_cutAll_9 c K17 v1 v2 v5 s0 s1 N) := by
  unfold b_Md_cutAll_9 B_Md_cutAll_9
  try simp only [my_ite, my_hg]
  simp only [hl_n', hl_wI', hl_wL', hl_cp', em_s', em_n', em_my, em_l', em_b, em_v, emv_s', emv_n', emv_my, emv_l', emv_b, emv_v, hb_em, hv_em, my_T, my_F, ne_eq, not_false_eq_true, nz_c, S0_c, S0_lw, S0_h, isHold_36, hc, hc.d, hc.l, hc.d.l, nz_1, nz_2, nz_3, nz_4, nz_5, nz_6, nz_7, nz_8, S0_76, ib_77, ib_78, ib_79, ib_80, q_Md_isDigit hc, q_Md_isLetter hc, q_Md_isSignOf hc, q_Md_rank hc, rT_76_1, rT_76_4, rT_76_5, rT_76_6, hk17, q_Md_cutAll_11 hc hk17, q_Md_cutAll_10 hc hk17]
set_option maxRecDepth 100000 in
set_option maxHeartbeats 400000 in
theorem q_Md_cutAll_8 {c : Nat} (hc : isChap c) {k17 : Nat → Int32 → Int32 → hm_M → Option hm_M} {K17 : Int32 → Int32 → hn → Option hn} (hk17 : ∀ (v1 : Int32) (v2 : Int32) (N : hn), k17 76 v1 v2 (N.1, N.2, rT c) = emv c (K17 v1 v2 N)) {v1 : Int32} {v2 : Int32} {v4 : Int32} {v5 : Int64} {N : hn} : b_Md_cutAll_8 S0 k17 76 v1 v2 v4 v5 (N.1, N.2, rT c) = emv c (B_Md_cutAll_8 c K17 v1 v2 v4 v5 N) := by
  unfold b_Md_cutAll_8 B_Md_cutAll_8
  try simp only [my_ite, my_hg]
  simp only [hl_n', hl_wI', hl_wL', hl_cp', em_s', em_n', em_my, em_l', em_b, em_v, emv_s', emv_n', emv_my, emv_l', emv_b, emv_v, hb_em, hv_em, my_T, my_F, ne_eq, not_false_eq_true, nz_c, S0_c, S0_lw, S0_h, isHold_36, hc, hc.d, hc.l, hc.d.l, nz_1, nz_2, nz_3, nz_4, nz_5, nz_6, nz_7, nz_8, S0_76, ib_77, ib_78, ib_79, ib_80, q_Md_isDigit hc, q_Md_isLetter hc, q_Md_isSignOf hc, q_Md_rank hc, rT_76_1, rT_76_4, rT_76_5, rT_76_6, hk17, q_Md_cutAll_11 hc hk17, q_Md_cutAll_10 hc hk17, q_Md_cutAll_9 hc hk17]
set_option maxRecDepth 100000 in
set_option maxHeartbeats 400000 in
theorem q_Md_cutAll_7 {c : Nat} (hc : isChap c) {k17 : Nat → Int32 → Int32 → hm_M → Option hm_M} {K17 : Int32 → Int32 → hn → Option hn} (hk17 : ∀ (v1 : Int32) (v2 : Int32) (N : hn), k17 76 v1 v2 (N.1, N.2, rT c) = emv c (K17 v1 v2 N)) {k159 : Nat → Int32 → Int32 → Int32 → Int64 → hm_M → Option hm_M} {K159 : Int32 → Int32 → Int32 → Int64 → hn → Option hn} (hk159 : ∀ (v1 : Int32) (v2 : Int32) (v4 : Int32) (v5 : Int64) (N : hn), k159 76 v1 v2 v4 v5 (N.1, N.2, rT c) = emv c (K159 v1 v2 v4 v5 N)) {v1 : Int32} {v2 : Int32} {v4 : Int32} {s0 : Int64} {N : hn} : b_Md_cutAll_7 S0 k17 k159 76 v1 v2 v4 s0 (N.1, N.2, rT c) = emv c (B_Md_cutAll_7 c K17 K159 v1 v2 v4 s0 N) := by
  unfold b_Md_cutAll_7 B_Md_cutAll_7
  try simp only [my_ite, my_hg]
  simp only [hl_n', hl_wI', hl_wL', hl_cp', em_s', em_n', em_my, em_l', em_b, em_v, emv_s', emv_n', emv_my, emv_l', emv_b, emv_v, hb_em, hv_em, my_T, my_F, ne_eq, not_false_eq_true, nz_c, S0_c, S0_lw, S0_h, isHold_36, hc, hc.d, hc.l, hc.d.l, nz_1, nz_2, nz_3, nz_4, nz_5, nz_6, nz_7, nz_8, S0_76, ib_77, ib_78, ib_79, ib_80, q_Md_isDigit hc, q_Md_isLetter hc, q_Md_isSignOf hc, q_Md_rank hc, rT_76_1, rT_76_4, rT_76_5, rT_76_6, hk17, hk159, q_Md_cutAll_11 hc hk17, q_Md_cutAll_10 hc hk17, q_Md_cutAll_9 hc hk17, q_Md_cutAll_8 hc hk17]
set_option maxRecDepth 100000 in
set_option maxHeartbeats 400000 in
theorem r_Md_cutAll_6 {c : Nat} (hc : isChap c) {k17 : Nat → Int32 → Int32 → hm_M → Option hm_M} {K17 : Int32 → Int32 → hn → Option hn} (hk17 : ∀ (v1 : Int32) (v2 : Int32) (N : hn), k17 76 v1 v2 (N.1, N.2, rT c) = emv c (K17 v1 v2 N)) {k159 : Nat → Int32 → Int32 → Int32 → Int64 → hm_M → Option hm_M} {K159 : Int32 → Int32 → Int32 → Int64 → hn → Option hn} (hk159 : ∀ (v1 : Int32) (v2 : Int32) (v4 : Int32) (v5 : Int64) (N : hn), k159 76 v1 v2 v4 v5 (N.1, N.2, rT c) = emv c (K159 v1 v2 v4 v5 N)) {v1 : Int32} {v2 : Int32} {v4 : Int32} {v5 : Int64} {N : hn} : b_Md_cutAll_6 S0 k17 k159 76 v1 v2 v4 v5 (N.1, N.2, rT c) = emv c (B_Md_cutAll_6 c K17 K159 v1 v2 v4 v5 N) := by
  unfold b_Md_cutAll_6 B_Md_cutAll_6
  try simp only [my_ite, my_hg]
  simp only [hl_n', hl_wI', hl_wL', hl_cp', em_s', em_n', em_my, em_l', em_b, em_v, emv_s', emv_n', emv_my, emv_l', emv_b, emv_v, hb_em, hv_em, my_T, my_F, ne_eq, not_false_eq_true, nz_c, S0_c, S0_lw, S0_h, isHold_36, hc, hc.d, hc.l, hc.d.l, nz_1, nz_2, nz_3, nz_4, nz_5, nz_6, nz_7, nz_8, S0_76, ib_77, ib_78, ib_79, ib_80, q_Md_isDigit hc, q_Md_isLetter hc, q_Md_isSignOf hc, q_Md_rank hc, rT_76_1, rT_76_4, rT_76_5, rT_76_6, hk17, hk159, q_Md_cutAll_11 hc hk17, q_Md_cutAll_10 hc hk17, q_Md_cutAll_9 hc hk17, q_Md_cutAll_8 hc hk17, q_Md_cutAll_7 hc hk17 hk159]
theorem q_Md_cutAll_6 {c : Nat} (hc : isChap c) {k17 : Nat → Int32 → Int32 → hm_M → Option hm_M} {K17 : Int32 → Int32 → hn → Option hn} (hk17 : ∀ (v1 : Int32) (v2 : Int32) (N : hn), k17 76 v1 v2 (N.1, N.2, rT c) = emv c (K17 v1 v2 N)) : ∀ (n : Nat) (v1 : Int32) (v2 : Int32) (v4 : Int32) (v5 : Int64) (N : hn), f_Md_cutAll_6 S0 k17 n 76 v1 v2 v4 v5 (N.1, N.2, rT c) = emv c (F_Md_cutAll_6 c K17 n v1 v2 v4 v5 N) := by
  intro n
  induction n with
  | zero => intros; rfl
  | succ n ih => intro v1 v2 v4 v5 N ; exact r_Md_cutAll_6 hc hk17 ih
set_option maxRecDepth 100000 in
set_option maxHeartbeats 400000 in
theorem q_Md_cutAll_5 {c : Nat} (hc : isChap c) {k17 : Nat → Int32 → Int32 → hm_M → Option hm_M} {K17 : Int32 → Int32 → hn → Option hn} (hk17 : ∀ (v1 : Int32) (v2 : Int32) (N : hn), k17 76 v1 v2 (N.1, N.2, rT c) = emv c (K17 v1 v2 N)) {v1 : Int32} {v2 : Int32} {v5 : Int64} {s0 : Int32} {s1 : Int32} {N : hn} : b_Md_cutAll_5 S0 k17 76 v1 v2 v5 s0 s1 78 (N.1, N.2, rT c) = emv c (B_Md_cutAll_5 c K17 v1 v2 v5 s0 s1 N) := by
  unfold b_Md_cutAll_5 B_Md_cutAll_5
  try simp only [my_ite, my_hg]
  simp only [hl_n', hl_wI', hl_wL', hl_cp', em_s', em_n', em_my, em_l', em_b, em_v, emv_s', emv_n', emv_my, emv_l', emv_b, emv_v, hb_em, hv_em, my_T, my_F, ne_eq, not_false_eq_true, nz_c, S0_c, S0_lw, S0_h, isHold_36, hc, hc.d, hc.l, hc.d.l, nz_1, nz_2, nz_3, nz_4, nz_5, nz_6, nz_7, nz_8, S0_76, ib_77, ib_78, ib_79, ib_80, q_Md_isDigit hc, q_Md_isLetter hc, q_Md_isSignOf hc, q_Md_rank hc, rT_76_1, rT_76_4, rT_76_5, rT_76_6, hk17, q_Md_cutAll_11 hc hk17, q_Md_cutAll_10 hc hk17, q_Md_cutAll_9 hc hk17, q_Md_cutAll_8 hc hk17, q_Md_cutAll_6 hc hk17]
set_option maxRecDepth 100000 in
set_option maxHeartbeats 400000 in
theorem q_Md_cutAll_4 {c : Nat} (hc : isChap c) {k17 : Nat → Int32 → Int32 → hm_M → Option hm_M} {K17 : Int32 → Int32 → hn → Option hn} (hk17 : ∀ (v1 : Int32) (v2 : Int32) (N : hn), k17 76 v1 v2 (N.1, N.2, rT c) = emv c (K17 v1 v2 N)) {v1 : Int32} {v2 : Int32} {v4 : Int32} {v5 : Int64} {N : hn} : b_Md_cutAll_4 S0 k17 76 v1 v2 v4 v5 (N.1, N.2, rT c) = emv c (B_Md_cutAll_4 c K17 v1 v2 v4 v5 N) := by
  unfold b_Md_cutAll_4 B_Md_cutAll_4
  try simp only [my_ite, my_hg]
  simp only [hl_n', hl_wI', hl_wL', hl_cp', em_s', em_n', em_my, em_l', em_b, em_v, emv_s', emv_n', emv_my, emv_l', emv_b, emv_v, hb_em, hv_em, my_T, my_F, ne_eq, not_false_eq_true, nz_c, S0_c, S0_lw, S0_h, isHold_36, hc, hc.d, hc.l, hc.d.l, nz_1, nz_2, nz_3, nz_4, nz_5, nz_6, nz_7, nz_8, S0_76, ib_77, ib_78, ib_79, ib_80, q_Md_isDigit hc, q_Md_isLetter hc, q_Md_isSignOf hc, q_Md_rank hc, rT_76_1, rT_76_4, rT_76_5, rT_76_6, hk17, q_Md_cutAll_11 hc hk17, q_Md_cutAll_10 hc hk17, q_Md_cutAll_9 hc hk17, q_Md_cutAll_8 hc hk17, q_Md_cutAll_6 hc hk17, q_Md_cutAll_5 hc hk17]
set_option maxRecDepth 100000 in
set_option maxHeartbeats 400000 in
theorem q_Md_cutAll_3 {c : Nat} (hc : isChap c) {k17 : Nat → Int32 → Int32 → hm_M → Option hm_M} {K17 : Int32 → Int32 → hn → Option hn} (hk17 : ∀ (v1 : Int32) (v2 : Int32) (N : hn), k17 76 v1 v2 (N.1, N.2, rT c) = emv c (K17 v1 v2 N)) {k70 : Nat → Int32 → Int32 → Int32 → Int64 → hm_M → Option hm_M} {K70 : Int32 → Int32 → Int32 → Int64 → hn → Option hn} (hk70 : ∀ (v1 : Int32) (v2 : Int32) (v4 : Int32) (v5 : Int64) (N : hn), k70 76 v1 v2 v4 v5 (N.1, N.2, rT c) = emv c (K70 v1 v2 v4 v5 N)) {v1 : Int32} {v2 : Int32} {v4 : Int32} {s0 : Int64} {N : hn} : b_Md_cutAll_3 S0 k17 k70 76 v1 v2 v4 s0 (N.1, N.2, rT c) = emv c (B_Md_cutAll_3 c K17 K70 v1 v2 v4 s0 N) := by
  unfold b_Md_cutAll_3 B_Md_cutAll_3
  try simp only [my_ite, my_hg]
  simp only [hl_n', hl_wI', hl_wL', hl_cp', em_s', em_n', em_my, em_l', em_b, em_v, emv_s', emv_n', emv_my, emv_l', emv_b, emv_v, hb_em, hv_em, my_T, my_F, ne_eq, not_false_eq_true, nz_c, S0_c, S0_lw, S0_h, isHold_36, hc, hc.d, hc.l, hc.d.l, nz_1, nz_2, nz_3, nz_4, nz_5, nz_6, nz_7, nz_8, S0_76, ib_77, ib_78, ib_79, ib_80, q_Md_isDigit hc, q_Md_isLetter hc, q_Md_isSignOf hc, q_Md_rank hc, rT_76_1, rT_76_4, rT_76_5, rT_76_6, hk17, hk70, q_Md_cutAll_11 hc hk17, q_Md_cutAll_10 hc hk17, q_Md_cutAll_9 hc hk17, q_Md_cutAll_8 hc hk17, q_Md_cutAll_6 hc hk17, q_Md_cutAll_5 hc hk17, q_Md_cutAll_4 hc hk17]
set_option maxRecDepth 100000 in
set_option maxHeartbeats 400000 in
theorem r_Md_cutAll_2 {c : Nat} (hc : isChap c) {k17 : Nat → Int32 → Int32 → hm_M → Option hm_M} {K17 : Int32 → Int32 → hn → Option hn} (hk17 : ∀ (v1 : Int32) (v2 : Int32) (N : hn), k17 76 v1 v2 (N.1, N.2, rT c) = emv c (K17 v1 v2 N)) {k70 : Nat → Int32 → Int32 → Int32 → Int64 → hm_M → Option hm_M} {K70 : Int32 → Int32 → Int32 → Int64 → hn → Option hn} (hk70 : ∀ (v1 : Int32) (v2 : Int32) (v4 : Int32) (v5 : Int64) (N : hn), k70 76 v1 v2 v4 v5 (N.1, N.2, rT c) = emv c (K70 v1 v2 v4 v5 N)) {v1 : Int32} {v2 : Int32} {v4 : Int32} {v5 : Int64} {N : hn} : b_Md_cutAll_2 S0 k17 k70 76 v1 v2 v4 v5 (N.1, N.2, rT c) = emv c (B_Md_cutAll_2 c K17 K70 v1 v2 v4 v5 N) := by
  unfold b_Md_cutAll_2 B_Md_cutAll_2
  try simp only [my_ite, my_hg]
  simp only [hl_n', hl_wI', hl_wL', hl_cp', em_s', em_n', em_my, em_l', em_b, em_v, emv_s', emv_n', emv_my, emv_l', emv_b, emv_v, hb_em, hv_em, my_T, my_F, ne_eq, not_false_eq_true, nz_c, S0_c, S0_lw, S0_h, isHold_36, hc, hc.d, hc.l, hc.d.l, nz_1, nz_2, nz_3, nz_4, nz_5, nz_6, nz_7, nz_8, S0_76, ib_77, ib_78, ib_79, ib_80, q_Md_isDigit hc, q_Md_isLetter hc, q_Md_isSignOf hc, q_Md_rank hc, rT_76_1, rT_76_4, rT_76_5, rT_76_6, hk17, hk70, q_Md_cutAll_11 hc hk17, q_Md_cutAll_10 hc hk17, q_Md_cutAll_9 hc hk17, q_Md_cutAll_8 hc hk17, q_Md_cutAll_6 hc hk17, q_Md_cutAll_5 hc hk17, q_Md_cutAll_4 hc hk17, q_Md_cutAll_3 hc hk17 hk70]
theorem q_Md_cutAll_2 {c : Nat} (hc : isChap c) {k17 : Nat → Int32 → Int32 → hm_M → Option hm_M} {K17 : Int32 → Int32 → hn → Option hn} (hk17 : ∀ (v1 : Int32) (v2 : Int32) (N : hn), k17 76 v1 v2 (N.1, N.2, rT c) = emv c (K17 v1 v2 N)) : ∀ (n : Nat) (v1 : Int32) (v2 : Int32) (v4 : Int32) (v5 : Int64) (N : hn), f_Md_cutAll_2 S0 k17 n 76 v1 v2 v4 v5 (N.1, N.2, rT c) = emv c (F_Md_cutAll_2 c K17 n v1 v2 v4 v5 N) := by
  intro n
  induction n with
  | zero => intros; rfl
  | succ n ih => intro v1 v2 v4 v5 N ; exact r_Md_cutAll_2 hc hk17 ih
set_option maxRecDepth 100000 in
set_option maxHeartbeats 400000 in
theorem r_Md_cutAll_1 {c : Nat} (hc : isChap c) {k17 : Nat → Int32 → Int32 → hm_M → Option hm_M} {K17 : Int32 → Int32 → hn → Option hn} (hk17 : ∀ (v1 : Int32) (v2 : Int32) (N : hn), k17 76 v1 v2 (N.1, N.2, rT c) = emv c (K17 v1 v2 N)) {v1 : Int32} {v2 : Int32} {N : hn} : b_Md_cutAll_1 S0 k17 76 v1 v2 (N.1, N.2, rT c) = emv c (B_Md_cutAll_1 c K17 v1 v2 N) := by
  unfold b_Md_cutAll_1 B_Md_cutAll_1
  try simp only [my_ite, my_hg]
  simp only [hl_n', hl_wI', hl_wL', hl_cp', em_s', em_n', em_my, em_l', em_b, em_v, emv_s', emv_n', emv_my, emv_l', emv_b, emv_v, hb_em, hv_em, my_T, my_F, ne_eq, not_false_eq_true, nz_c, S0_c, S0_lw, S0_h, isHold_36, hc, hc.d, hc.l, hc.d.l, nz_1, nz_2, nz_3, nz_4, nz_5, nz_6, nz_7, nz_8, S0_76, ib_77, ib_78, ib_79, ib_80, q_Md_isDigit hc, q_Md_isLetter hc, q_Md_isSignOf hc, q_Md_rank hc, rT_76_1, rT_76_4, rT_76_5, rT_76_6, hk17, q_Md_cutAll_11 hc hk17, q_Md_cutAll_10 hc hk17, q_Md_cutAll_9 hc hk17, q_Md_cutAll_8 hc hk17, q_Md_cutAll_6 hc hk17, q_Md_cutAll_5 hc hk17, q_Md_cutAll_4 hc hk17, q_Md_cutAll_2 hc hk17]
theorem q_Md_cutAll_1 {c : Nat} (hc : isChap c) : ∀ (n : Nat) (v1 : Int32) (v2 : Int32) (N : hn), f_Md_cutAll_1 S0 n 76 v1 v2 (N.1, N.2, rT c) = emv c (F_Md_cutAll_1 c n v1 v2 N) := by
  intro n
  induction n with
  | zero => intros; rfl
  | succ n ih => intro v1 v2 N ; exact r_Md_cutAll_1 hc  ih
set_option maxRecDepth 100000 in
set_option maxHeartbeats 400000 in
theorem q_Md_cutAll {c : Nat} (hc : isChap c) {N : hn} : f_Md_cutAll S0 76 (N.1, N.2, rT c) = emv c (F_Md_cutAll c N) := by
  unfold f_Md_cutAll F_Md_cutAll
  try simp only [my_ite, my_hg]
  simp only [hl_n', hl_wI', hl_wL', hl_cp', em_s', em_n', em_my, em_l', em_b, em_v, emv_s', emv_n', emv_my, emv_l', emv_b, emv_v, hb_em, hv_em, my_T, my_F, ne_eq, not_false_eq_true, nz_c, S0_c, S0_lw, S0_h, isHold_36, hc, hc.d, hc.l, hc.d.l, nz_1, nz_2, nz_3, nz_4, nz_5, nz_6, nz_7, nz_8, S0_76, ib_77, ib_78, ib_79, ib_80, q_Md_isDigit hc, q_Md_isLetter hc, q_Md_isSignOf hc, q_Md_rank hc, rT_76_1, rT_76_4, rT_76_5, rT_76_6, q_Md_cutAll_1 hc]
set_option maxRecDepth 100000 in
set_option maxHeartbeats 400000 in
theorem q_Md_wrong {c : Nat} (hc : isChap c) {v1 : Int32} {N : hn} : f_Md_wrong S0 76 v1 (N.1, N.2, rT c) = emv c (F_Md_wrong c v1 N) := by
  unfold f_Md_wrong F_Md_wrong
  try simp only [my_ite, my_hg]
  simp only [hl_n', hl_wI', hl_wL', hl_cp', em_s', em_n', em_my, em_l', em_b, em_v, emv_s', emv_n', emv_my, emv_l', emv_b, emv_v, hb_em, hv_em, my_T, my_F, ne_eq, not_false_eq_true, nz_c, S0_c, S0_lw, S0_h, isHold_36, hc, hc.d, hc.l, hc.d.l, nz_1, nz_2, nz_3, nz_4, nz_5, nz_6, nz_7, nz_8, S0_76, ib_79, rT_76_5]
set_option maxRecDepth 100000 in
set_option maxHeartbeats 400000 in
theorem q_Md_takeNumber_3 {c : Nat} (hc : isChap c) {N : hn} : b_Md_takeNumber_3 S0 76 (N.1, N.2, rT c) = em c (B_Md_takeNumber_3 c N) := by
  unfold b_Md_takeNumber_3 B_Md_takeNumber_3
  try simp only [my_ite, my_hg]
  simp only [hl_n', hl_wI', hl_wL', hl_cp', em_s', em_n', em_my, em_l', em_b, em_v, emv_s', emv_n', emv_my, emv_l', emv_b, emv_v, hb_em, hv_em, my_T, my_F, ne_eq, not_false_eq_true, nz_c, S0_c, S0_lw, S0_h, isHold_36, hc, hc.d, hc.l, hc.d.l, nz_1, nz_2, nz_3, nz_4, nz_5, nz_6, nz_7, nz_8, S0_76, ib_78, ib_80, q_Md_wrong hc, rT_76_4, rT_76_6]
set_option maxRecDepth 100000 in
set_option maxHeartbeats 400000 in
theorem q_Md_takeNumber_2 {c : Nat} (hc : isChap c) {N : hn} : b_Md_takeNumber_2 S0 76 (N.1, N.2, rT c) = em c (B_Md_takeNumber_2 c N) := by
  unfold b_Md_takeNumber_2 B_Md_takeNumber_2
  try simp only [my_ite, my_hg]
  simp only [hl_n', hl_wI', hl_wL', hl_cp', em_s', em_n', em_my, em_l', em_b, em_v, emv_s', emv_n', emv_my, emv_l', emv_b, emv_v, hb_em, hv_em, my_T, my_F, ne_eq, not_false_eq_true, nz_c, S0_c, S0_lw, S0_h, isHold_36, hc, hc.d, hc.l, hc.d.l, nz_1, nz_2, nz_3, nz_4, nz_5, nz_6, nz_7, nz_8, S0_76, ib_78, ib_80, q_Md_wrong hc, rT_76_4, rT_76_6, q_Md_takeNumber_3 hc]
set_option maxRecDepth 100000 in
set_option maxHeartbeats 400000 in
theorem q_Md_takeNumber_1 {c : Nat} (hc : isChap c) {v1 : Int32} {v2 : Int32} {N : hn} : b_Md_takeNumber_1 S0 76 v1 v2 (N.1, N.2, rT c) = em c (B_Md_takeNumber_1 c v1 v2 N) := by
  unfold b_Md_takeNumber_1 B_Md_takeNumber_1
  try simp only [my_ite, my_hg]
  simp only [hl_n', hl_wI', hl_wL', hl_cp', em_s', em_n', em_my, em_l', em_b, em_v, emv_s', emv_n', emv_my, emv_l', emv_b, emv_v, hb_em, hv_em, my_T, my_F, ne_eq, not_false_eq_true, nz_c, S0_c, S0_lw, S0_h, isHold_36, hc, hc.d, hc.l, hc.d.l, nz_1, nz_2, nz_3, nz_4, nz_5, nz_6, nz_7, nz_8, S0_76, ib_78, ib_80, q_Md_wrong hc, rT_76_4, rT_76_6, q_Md_takeNumber_3 hc, q_Md_takeNumber_2 hc]
set_option maxRecDepth 100000 in
set_option maxHeartbeats 400000 in
theorem q_Md_takeNumber {c : Nat} (hc : isChap c) {v1 : Int32} {v2 : Int32} {N : hn} : f_Md_takeNumber S0 76 v1 v2 (N.1, N.2, rT c) = em c (F_Md_takeNumber c v1 v2 N) := by
  unfold f_Md_takeNumber F_Md_takeNumber
  try simp only [my_ite, my_hg]
  simp only [hl_n', hl_wI', hl_wL', hl_cp', em_s', em_n', em_my, em_l', em_b, em_v, emv_s', emv_n', emv_my, emv_l', emv_b, emv_v, hb_em, hv_em, my_T, my_F, ne_eq, not_false_eq_true, nz_c, S0_c, S0_lw, S0_h, isHold_36, hc, hc.d, hc.l, hc.d.l, nz_1, nz_2, nz_3, nz_4, nz_5, nz_6, nz_7, nz_8, S0_76, ib_78, ib_80, q_Md_wrong hc, rT_76_4, rT_76_6, q_Md_takeNumber_1 hc, q_Md_takeNumber_2 hc, q_Md_takeNumber_3 hc]
set_option maxRecDepth 100000 in
set_option maxHeartbeats 400000 in
theorem q_Md_readFloor {c : Nat} (hc : isChap c) {N : hn} : f_Md_readFloor S0 76 (N.1, N.2, rT c) = emv c (F_Md_readFloor c N) := by
  unfold f_Md_readFloor F_Md_readFloor
  try simp only [my_ite, my_hg]
  simp only [hl_n', hl_wI', hl_wL', hl_cp', em_s', em_n', em_my, em_l', em_b, em_v, emv_s', emv_n', emv_my, emv_l', emv_b, emv_v, hb_em, hv_em, my_T, my_F, ne_eq, not_false_eq_true, nz_c, S0_c, S0_lw, S0_h, isHold_36, hc, hc.d, hc.l, hc.d.l, nz_1, nz_2, nz_3, nz_4, nz_5, nz_6, nz_7, nz_8, S0_76, ib_82, q_Md_takeNumber hc, q_Md_wrong hc, rT_76_10]
set_option maxRecDepth 100000 in
set_option maxHeartbeats 400000 in
theorem q_Md_isName_5 {c : Nat} (hc : isChap c) {k28 : Nat → Int32 → Int32 → hm_M → Option (Int32 × hm_M)} {K28 : Int32 → Int32 → hn → Option (Int32 × hn)} (hk28 : ∀ (v1 : Int32) (v2 : Int32) (N : hn), k28 76 v1 v2 (N.1, N.2, rT c) = em c (K28 v1 v2 N)) {v2 : Int32} {s0 : Int32} {N : hn} : b_Md_isName_5 S0 k28 76 v2 s0 (N.1, N.2, rT c) = em c (B_Md_isName_5 c K28 v2 s0 N) := by
  unfold b_Md_isName_5 B_Md_isName_5
  try simp only [my_ite, my_hg]
  simp only [hl_n', hl_wI', hl_wL', hl_cp', em_s', em_n', em_my, em_l', em_b, em_v, emv_s', emv_n', emv_my, emv_l', emv_b, emv_v, hb_em, hv_em, my_T, my_F, ne_eq, not_false_eq_true, nz_c, S0_c, S0_lw, S0_h, isHold_36, hc, hc.d, hc.l, hc.d.l, nz_1, nz_2, nz_3, nz_4, nz_5, nz_6, nz_7, nz_8, S0_76, ib_78, ib_80, ib_81, rT_76_4, rT_76_6, rT_76_9, hk28]
set_option maxRecDepth 100000 in
set_option maxHeartbeats 400000 in
theorem q_Md_isName_4 {c : Nat} (hc : isChap c) {k28 : Nat → Int32 → Int32 → hm_M → Option (Int32 × hm_M)} {K28 : Int32 → Int32 → hn → Option (Int32 × hn)} (hk28 : ∀ (v1 : Int32) (v2 : Int32) (N : hn), k28 76 v1 v2 (N.1, N.2, rT c) = em c (K28 v1 v2 N)) {v2 : Int32} {N : hn} : b_Md_isName_4 S0 k28 76 v2 (N.1, N.2, rT c) = em c (B_Md_isName_4 c K28 v2 N) := by
  unfold b_Md_isName_4 B_Md_isName_4
  try simp only [my_ite, my_hg]
  simp only [hl_n', hl_wI', hl_wL', hl_cp', em_s', em_n', em_my, em_l', em_b, em_v, emv_s', emv_n', emv_my, emv_l', emv_b, emv_v, hb_em, hv_em, my_T, my_F, ne_eq, not_false_eq_true, nz_c, S0_c, S0_lw, S0_h, isHold_36, hc, hc.d, hc.l, hc.d.l, nz_1, nz_2, nz_3, nz_4, nz_5, nz_6, nz_7, nz_8, S0_76, ib_78, ib_80, ib_81, rT_76_4, rT_76_6, rT_76_9, hk28, q_Md_isName_5 hc hk28]
set_option maxRecDepth 100000 in
set_option maxHeartbeats 400000 in
theorem r_Md_isName_3 {c : Nat} (hc : isChap c) {k28 : Nat → Int32 → Int32 → hm_M → Option (Int32 × hm_M)} {K28 : Int32 → Int32 → hn → Option (Int32 × hn)} (hk28 : ∀ (v1 : Int32) (v2 : Int32) (N : hn), k28 76 v1 v2 (N.1, N.2, rT c) = em c (K28 v1 v2 N)) {v1 : Int32} {v2 : Int32} {N : hn} : b_Md_isName_3 S0 k28 76 v1 v2 (N.1, N.2, rT c) = em c (B_Md_isName_3 c K28 v1 v2 N) := by
  unfold b_Md_isName_3 B_Md_isName_3
  try simp only [my_ite, my_hg]
  simp only [hl_n', hl_wI', hl_wL', hl_cp', em_s', em_n', em_my, em_l', em_b, em_v, emv_s', emv_n', emv_my, emv_l', emv_b, emv_v, hb_em, hv_em, my_T, my_F, ne_eq, not_false_eq_true, nz_c, S0_c, S0_lw, S0_h, isHold_36, hc, hc.d, hc.l, hc.d.l, nz_1, nz_2, nz_3, nz_4, nz_5, nz_6, nz_7, nz_8, S0_76, ib_78, ib_80, ib_81, rT_76_4, rT_76_6, rT_76_9, hk28, q_Md_isName_5 hc hk28, q_Md_isName_4 hc hk28]
theorem q_Md_isName_3 {c : Nat} (hc : isChap c) : ∀ (n : Nat) (v1 : Int32) (v2 : Int32) (N : hn), f_Md_isName_3 S0 n 76 v1 v2 (N.1, N.2, rT c) = em c (F_Md_isName_3 c n v1 v2 N) := by
  intro n
  induction n with
  | zero => intros; rfl
  | succ n ih => intro v1 v2 N ; exact r_Md_isName_3 hc  ih
set_option maxRecDepth 100000 in
set_option maxHeartbeats 400000 in
theorem q_Md_isName_2 {c : Nat} (hc : isChap c) {s0 : Int32} {N : hn} : b_Md_isName_2 S0 76 s0 (N.1, N.2, rT c) = em c (B_Md_isName_2 c s0 N) := by
  unfold b_Md_isName_2 B_Md_isName_2
  try simp only [my_ite, my_hg]
  simp only [hl_n', hl_wI', hl_wL', hl_cp', em_s', em_n', em_my, em_l', em_b, em_v, emv_s', emv_n', emv_my, emv_l', emv_b, emv_v, hb_em, hv_em, my_T, my_F, ne_eq, not_false_eq_true, nz_c, S0_c, S0_lw, S0_h, isHold_36, hc, hc.d, hc.l, hc.d.l, nz_1, nz_2, nz_3, nz_4, nz_5, nz_6, nz_7, nz_8, S0_76, ib_78, ib_80, ib_81, rT_76_4, rT_76_6, rT_76_9, q_Md_isName_3 hc]
set_option maxRecDepth 100000 in
set_option maxHeartbeats 400000 in
theorem q_Md_isName_1 {c : Nat} (hc : isChap c) {N : hn} : b_Md_isName_1 S0 76 (N.1, N.2, rT c) = em c (B_Md_isName_1 c N) := by
  unfold b_Md_isName_1 B_Md_isName_1
  try simp only [my_ite, my_hg]
  simp only [hl_n', hl_wI', hl_wL', hl_cp', em_s', em_n', em_my, em_l', em_b, em_v, emv_s', emv_n', emv_my, emv_l', emv_b, emv_v, hb_em, hv_em, my_T, my_F, ne_eq, not_false_eq_true, nz_c, S0_c, S0_lw, S0_h, isHold_36, hc, hc.d, hc.l, hc.d.l, nz_1, nz_2, nz_3, nz_4, nz_5, nz_6, nz_7, nz_8, S0_76, ib_78, ib_80, ib_81, rT_76_4, rT_76_6, rT_76_9, q_Md_isName_3 hc, q_Md_isName_2 hc]
set_option maxRecDepth 100000 in
set_option maxHeartbeats 400000 in
theorem q_Md_isName {c : Nat} (hc : isChap c) {N : hn} : f_Md_isName S0 76 (N.1, N.2, rT c) = em c (F_Md_isName c N) := by
  unfold f_Md_isName F_Md_isName
  try simp only [my_ite, my_hg]
  simp only [hl_n', hl_wI', hl_wL', hl_cp', em_s', em_n', em_my, em_l', em_b, em_v, emv_s', emv_n', emv_my, emv_l', emv_b, emv_v, hb_em, hv_em, my_T, my_F, ne_eq, not_false_eq_true, nz_c, S0_c, S0_lw, S0_h, isHold_36, hc, hc.d, hc.l, hc.d.l, nz_1, nz_2, nz_3, nz_4, nz_5, nz_6, nz_7, nz_8, S0_76, ib_78, ib_80, ib_81, rT_76_4, rT_76_6, rT_76_9, q_Md_isName_1 hc, q_Md_isName_2 hc, q_Md_isName_3 hc]
set_option maxRecDepth 100000 in
set_option maxHeartbeats 400000 in
theorem r_Md_find_1 {c : Nat} (hc : isChap c) {k2 : Nat → Int32 → hm_M → Option (Int32 × hm_M)} {K2 : Int32 → hn → Option (Int32 × hn)} (hk2 : ∀ (v1 : Int32) (N : hn), k2 76 v1 (N.1, N.2, rT c) = em c (K2 v1 N)) {v1 : Int32} {N : hn} : b_Md_find_1 S0 k2 76 v1 (N.1, N.2, rT c) = em c (B_Md_find_1 c K2 v1 N) := by
  unfold b_Md_find_1 B_Md_find_1
  try simp only [my_ite, my_hg]
  simp only [hl_n', hl_wI', hl_wL', hl_cp', em_s', em_n', em_my, em_l', em_b, em_v, emv_s', emv_n', emv_my, emv_l', emv_b, emv_v, hb_em, hv_em, my_T, my_F, ne_eq, not_false_eq_true, nz_c, S0_c, S0_lw, S0_h, isHold_36, hc, hc.d, hc.l, hc.d.l, nz_1, nz_2, nz_3, nz_4, nz_5, nz_6, nz_7, nz_8, S0_76, ib_80, ib_82, ib_85, rT_76_10, rT_76_14, rT_76_6, hk2]
theorem q_Md_find_1 {c : Nat} (hc : isChap c) : ∀ (n : Nat) (v1 : Int32) (N : hn), f_Md_find_1 S0 n 76 v1 (N.1, N.2, rT c) = em c (F_Md_find_1 c n v1 N) := by
  intro n
  induction n with
  | zero => intros; rfl
  | succ n ih => intro v1 N ; exact r_Md_find_1 hc  ih
set_option maxRecDepth 100000 in
set_option maxHeartbeats 400000 in
theorem q_Md_find {c : Nat} (hc : isChap c) {N : hn} : f_Md_find S0 76 (N.1, N.2, rT c) = em c (F_Md_find c N) := by
  unfold f_Md_find F_Md_find
  try simp only [my_ite, my_hg]
  simp only [hl_n', hl_wI', hl_wL', hl_cp', em_s', em_n', em_my, em_l', em_b, em_v, emv_s', emv_n', emv_my, emv_l', emv_b, emv_v, hb_em, hv_em, my_T, my_F, ne_eq, not_false_eq_true, nz_c, S0_c, S0_lw, S0_h, isHold_36, hc, hc.d, hc.l, hc.d.l, nz_1, nz_2, nz_3, nz_4, nz_5, nz_6, nz_7, nz_8, S0_76, ib_80, ib_82, ib_85, rT_76_10, rT_76_14, rT_76_6, q_Md_find_1 hc]
set_option maxRecDepth 100000 in
set_option maxHeartbeats 400000 in
theorem q_Md_hasWord_1 {c : Nat} (hc : isChap c) {v2 : Int32} {s0 : Int32} {s1 : Int32} {N : hn} : b_Md_hasWord_1 S0 v2 s0 s1 76 (N.1, N.2, rT c) = em c (B_Md_hasWord_1 c v2 s0 s1 N) := by
  unfold b_Md_hasWord_1 B_Md_hasWord_1
  try simp only [my_ite, my_hg]
  simp only [hl_n', hl_wI', hl_wL', hl_cp', em_s', em_n', em_my, em_l', em_b, em_v, emv_s', emv_n', emv_my, emv_l', emv_b, emv_v, hb_em, hv_em, my_T, my_F, ne_eq, not_false_eq_true, nz_c, S0_c, S0_lw, S0_h, isHold_36, hc, hc.d, hc.l, hc.d.l, nz_1, nz_2, nz_3, nz_4, nz_5, nz_6, nz_7, nz_8, S0_76, q_Md_isWord hc]
set_option maxRecDepth 100000 in
set_option maxHeartbeats 400000 in
theorem q_Md_hasWord {c : Nat} (hc : isChap c) {v1 : Int32} {N : hn} : f_Md_hasWord S0 76 v1 (N.1, N.2, rT c) = em c (F_Md_hasWord c v1 N) := by
  unfold f_Md_hasWord F_Md_hasWord
  try simp only [my_ite, my_hg]
  simp only [hl_n', hl_wI', hl_wL', hl_cp', em_s', em_n', em_my, em_l', em_b, em_v, emv_s', emv_n', emv_my, emv_l', emv_b, emv_v, hb_em, hv_em, my_T, my_F, ne_eq, not_false_eq_true, nz_c, S0_c, S0_lw, S0_h, isHold_36, hc, hc.d, hc.l, hc.d.l, nz_1, nz_2, nz_3, nz_4, nz_5, nz_6, nz_7, nz_8, S0_76, q_Md_isWord hc, q_Md_hasWord_1 hc]
set_option maxRecDepth 100000 in
set_option maxHeartbeats 400000 in
theorem q_Md_takeWord {c : Nat} (hc : isChap c) {v1 : Int32} {N : hn} : f_Md_takeWord S0 76 v1 (N.1, N.2, rT c) = emv c (F_Md_takeWord c v1 N) := by
  unfold f_Md_takeWord F_Md_takeWord
  try simp only [my_ite, my_hg]
  simp only [hl_n', hl_wI', hl_wL', hl_cp', em_s', em_n', em_my, em_l', em_b, em_v, emv_s', emv_n', emv_my, emv_l', emv_b, emv_v, hb_em, hv_em, my_T, my_F, ne_eq, not_false_eq_true, nz_c, S0_c, S0_lw, S0_h, isHold_36, hc, hc.d, hc.l, hc.d.l, nz_1, nz_2, nz_3, nz_4, nz_5, nz_6, nz_7, nz_8, S0_76, q_Md_hasWord hc, q_Md_wrong hc]
set_option maxRecDepth 100000 in
set_option maxHeartbeats 400000 in
theorem q_Md_takeAfter {c : Nat} (hc : isChap c) {v1 : Int32} {v2 : Int32} {v3 : Int32} {N : hn} : f_Md_takeAfter S0 76 v1 v2 v3 (N.1, N.2, rT c) = em c (F_Md_takeAfter c v1 v2 v3 N) := by
  unfold f_Md_takeAfter F_Md_takeAfter
  try simp only [my_ite, my_hg]
  simp only [hl_n', hl_wI', hl_wL', hl_cp', em_s', em_n', em_my, em_l', em_b, em_v, emv_s', emv_n', emv_my, emv_l', emv_b, emv_v, hb_em, hv_em, my_T, my_F, ne_eq, not_false_eq_true, nz_c, S0_c, S0_lw, S0_h, isHold_36, hc, hc.d, hc.l, hc.d.l, nz_1, nz_2, nz_3, nz_4, nz_5, nz_6, nz_7, nz_8, S0_76, q_Md_takeNumber hc, q_Md_takeWord hc]
set_option maxRecDepth 100000 in
set_option maxHeartbeats 400000 in
theorem q_Md_readGuild_1 {c : Nat} (hc : isChap c) {v1 : Int32} {N : hn} : b_Md_readGuild_1 S0 76 v1 (N.1, N.2, rT c) = emv c (B_Md_readGuild_1 c v1 N) := by
  unfold b_Md_readGuild_1 B_Md_readGuild_1
  try simp only [my_ite, my_hg]
  simp only [hl_n', hl_wI', hl_wL', hl_cp', em_s', em_n', em_my, em_l', em_b, em_v, emv_s', emv_n', emv_my, emv_l', emv_b, emv_v, hb_em, hv_em, my_T, my_F, ne_eq, not_false_eq_true, nz_c, S0_c, S0_lw, S0_h, isHold_36, hc, hc.d, hc.l, hc.d.l, nz_1, nz_2, nz_3, nz_4, nz_5, nz_6, nz_7, nz_8, S0_76, ib_80, ib_82, ib_85, q_Md_find hc, q_Md_isName hc, q_Md_takeAfter hc, q_Md_wrong hc, rT_76_10, rT_76_14, rT_76_6]
set_option maxRecDepth 100000 in
set_option maxHeartbeats 400000 in
theorem q_Md_readGuild {c : Nat} (hc : isChap c) {N : hn} : f_Md_readGuild S0 76 (N.1, N.2, rT c) = emv c (F_Md_readGuild c N) := by
  unfold f_Md_readGuild F_Md_readGuild
  try simp only [my_ite, my_hg]
  simp only [hl_n', hl_wI', hl_wL', hl_cp', em_s', em_n', em_my, em_l', em_b, em_v, emv_s', emv_n', emv_my, emv_l', emv_b, emv_v, hb_em, hv_em, my_T, my_F, ne_eq, not_false_eq_true, nz_c, S0_c, S0_lw, S0_h, isHold_36, hc, hc.d, hc.l, hc.d.l, nz_1, nz_2, nz_3, nz_4, nz_5, nz_6, nz_7, nz_8, S0_76, ib_80, ib_82, ib_85, q_Md_find hc, q_Md_isName hc, q_Md_takeAfter hc, q_Md_wrong hc, rT_76_10, rT_76_14, rT_76_6, q_Md_readGuild_1 hc]
set_option maxRecDepth 100000 in
set_option maxHeartbeats 400000 in
theorem q_Md_readPane_4 {c : Nat} (hc : isChap c) {v2 : Int32} {N : hn} : b_Md_readPane_4 S0 76 v2 (N.1, N.2, rT c) = emv c (B_Md_readPane_4 c v2 N) := by
  unfold b_Md_readPane_4 B_Md_readPane_4
  try simp only [my_ite, my_hg]
  simp only [hl_n', hl_wI', hl_wL', hl_cp', em_s', em_n', em_my, em_l', em_b, em_v, emv_s', emv_n', emv_my, emv_l', emv_b, emv_v, hb_em, hv_em, my_T, my_F, ne_eq, not_false_eq_true, nz_c, S0_c, S0_lw, S0_h, isHold_36, hc, hc.d, hc.l, hc.d.l, nz_1, nz_2, nz_3, nz_4, nz_5, nz_6, nz_7, nz_8, S0_76, ib_78, ib_80, ib_82, q_Md_find hc, q_Md_isName hc, q_Md_takeAfter hc, q_Md_takeNumber hc, q_Md_takeWord hc, q_Md_wrong hc, rT_76_10, rT_76_4, rT_76_6]
set_option maxRecDepth 100000 in
set_option maxHeartbeats 400000 in
theorem q_Md_readPane_3 {c : Nat} (hc : isChap c) {v2 : Int32} {N : hn} : b_Md_readPane_3 S0 76 v2 (N.1, N.2, rT c) = emv c (B_Md_readPane_3 c v2 N) := by
  unfold b_Md_readPane_3 B_Md_readPane_3
  try simp only [my_ite, my_hg]
  simp only [hl_n', hl_wI', hl_wL', hl_cp', em_s', em_n', em_my, em_l', em_b, em_v, emv_s', emv_n', emv_my, emv_l', emv_b, emv_v, hb_em, hv_em, my_T, my_F, ne_eq, not_false_eq_true, nz_c, S0_c, S0_lw, S0_h, isHold_36, hc, hc.d, hc.l, hc.d.l, nz_1, nz_2, nz_3, nz_4, nz_5, nz_6, nz_7, nz_8, S0_76, ib_78, ib_80, ib_82, q_Md_find hc, q_Md_isName hc, q_Md_takeAfter hc, q_Md_takeNumber hc, q_Md_takeWord hc, q_Md_wrong hc, rT_76_10, rT_76_4, rT_76_6, q_Md_readPane_4 hc]
set_option maxRecDepth 100000 in
set_option maxHeartbeats 400000 in
theorem q_Md_readPane_2 {c : Nat} (hc : isChap c) {v2 : Int32} {N : hn} : b_Md_readPane_2 S0 76 v2 (N.1, N.2, rT c) = emv c (B_Md_readPane_2 c v2 N) := by
  unfold b_Md_readPane_2 B_Md_readPane_2
  try simp only [my_ite, my_hg]
  simp only [hl_n', hl_wI', hl_wL', hl_cp', em_s', em_n', em_my, em_l', em_b, em_v, emv_s', emv_n', emv_my, emv_l', emv_b, emv_v, hb_em, hv_em, my_T, my_F, ne_eq, not_false_eq_true, nz_c, S0_c, S0_lw, S0_h, isHold_36, hc, hc.d, hc.l, hc.d.l, nz_1, nz_2, nz_3, nz_4, nz_5, nz_6, nz_7, nz_8, S0_76, ib_78, ib_80, ib_82, q_Md_find hc, q_Md_isName hc, q_Md_takeAfter hc, q_Md_takeNumber hc, q_Md_takeWord hc, q_Md_wrong hc, rT_76_10, rT_76_4, rT_76_6, q_Md_readPane_4 hc, q_Md_readPane_3 hc]
set_option maxRecDepth 100000 in
set_option maxHeartbeats 400000 in
theorem r_Md_readPane_1 {c : Nat} (hc : isChap c) {k52 : Nat → Int32 → Int32 → Int32 → hm_M → Option hm_M} {K52 : Int32 → Int32 → Int32 → hn → Option hn} (hk52 : ∀ (v1 : Int32) (v2 : Int32) (v3 : Int32) (N : hn), k52 76 v1 v2 v3 (N.1, N.2, rT c) = emv c (K52 v1 v2 v3 N)) {v1 : Int32} {v2 : Int32} {v3 : Int32} {N : hn} : b_Md_readPane_1 S0 k52 76 v1 v2 v3 (N.1, N.2, rT c) = emv c (B_Md_readPane_1 c K52 v1 v2 v3 N) := by
  unfold b_Md_readPane_1 B_Md_readPane_1
  try simp only [my_ite, my_hg]
  simp only [hl_n', hl_wI', hl_wL', hl_cp', em_s', em_n', em_my, em_l', em_b, em_v, emv_s', emv_n', emv_my, emv_l', emv_b, emv_v, hb_em, hv_em, my_T, my_F, ne_eq, not_false_eq_true, nz_c, S0_c, S0_lw, S0_h, isHold_36, hc, hc.d, hc.l, hc.d.l, nz_1, nz_2, nz_3, nz_4, nz_5, nz_6, nz_7, nz_8, S0_76, ib_78, ib_80, ib_82, q_Md_find hc, q_Md_isName hc, q_Md_takeAfter hc, q_Md_takeNumber hc, q_Md_takeWord hc, q_Md_wrong hc, rT_76_10, rT_76_4, rT_76_6, hk52, q_Md_readPane_4 hc, q_Md_readPane_3 hc, q_Md_readPane_2 hc]
theorem q_Md_readPane_1 {c : Nat} (hc : isChap c) : ∀ (n : Nat) (v1 : Int32) (v2 : Int32) (v3 : Int32) (N : hn), f_Md_readPane_1 S0 n 76 v1 v2 v3 (N.1, N.2, rT c) = emv c (F_Md_readPane_1 c n v1 v2 v3 N) := by
  intro n
  induction n with
  | zero => intros; rfl
  | succ n ih => intro v1 v2 v3 N ; exact r_Md_readPane_1 hc  ih
set_option maxRecDepth 100000 in
set_option maxHeartbeats 400000 in
theorem q_Md_readPane {c : Nat} (hc : isChap c) {N : hn} : f_Md_readPane S0 76 (N.1, N.2, rT c) = emv c (F_Md_readPane c N) := by
  unfold f_Md_readPane F_Md_readPane
  try simp only [my_ite, my_hg]
  simp only [hl_n', hl_wI', hl_wL', hl_cp', em_s', em_n', em_my, em_l', em_b, em_v, emv_s', emv_n', emv_my, emv_l', emv_b, emv_v, hb_em, hv_em, my_T, my_F, ne_eq, not_false_eq_true, nz_c, S0_c, S0_lw, S0_h, isHold_36, hc, hc.d, hc.l, hc.d.l, nz_1, nz_2, nz_3, nz_4, nz_5, nz_6, nz_7, nz_8, S0_76, ib_78, ib_80, ib_82, q_Md_find hc, q_Md_isName hc, q_Md_takeAfter hc, q_Md_takeNumber hc, q_Md_takeWord hc, q_Md_wrong hc, rT_76_10, rT_76_4, rT_76_6, q_Md_readPane_1 hc, q_Md_readPane_2 hc, q_Md_readPane_3 hc, q_Md_readPane_4 hc]
set_option maxRecDepth 100000 in
set_option maxHeartbeats 400000 in
theorem q_Md_readCloud {c : Nat} (hc : isChap c) {N : hn} : f_Md_readCloud S0 76 (N.1, N.2, rT c) = emv c (F_Md_readCloud c N) := by
  unfold f_Md_readCloud F_Md_readCloud
  try simp only [my_ite, my_hg]
  simp only [hl_n', hl_wI', hl_wL', hl_cp', em_s', em_n', em_my, em_l', em_b, em_v, emv_s', emv_n', emv_my, emv_l', emv_b, emv_v, hb_em, hv_em, my_T, my_F, ne_eq, not_false_eq_true, nz_c, S0_c, S0_lw, S0_h, isHold_36, hc, hc.d, hc.l, hc.d.l, nz_1, nz_2, nz_3, nz_4, nz_5, nz_6, nz_7, nz_8, S0_76, ib_82, q_Md_takeNumber hc, q_Md_wrong hc, rT_76_10]
set_option maxRecDepth 100000 in
set_option maxHeartbeats 400000 in
theorem q_Md_factHere_6 {c : Nat} (hc : isChap c) {k4 : Nat → Int32 → Int32 → hm_M → Option (Int32 × hm_M)} {K4 : Int32 → Int32 → hn → Option (Int32 × hn)} (hk4 : ∀ (v1 : Int32) (v2 : Int32) (N : hn), k4 76 v1 v2 (N.1, N.2, rT c) = em c (K4 v1 v2 N)) {v2 : Int32} {s0 : Int32} {N : hn} : b_Md_factHere_6 S0 k4 76 v2 s0 (N.1, N.2, rT c) = em c (B_Md_factHere_6 c K4 v2 s0 N) := by
  unfold b_Md_factHere_6 B_Md_factHere_6
  try simp only [my_ite, my_hg]
  simp only [hl_n', hl_wI', hl_wL', hl_cp', em_s', em_n', em_my, em_l', em_b, em_v, emv_s', emv_n', emv_my, emv_l', emv_b, emv_v, hb_em, hv_em, my_T, my_F, ne_eq, not_false_eq_true, nz_c, S0_c, S0_lw, S0_h, isHold_36, hc, hc.d, hc.l, hc.d.l, nz_1, nz_2, nz_3, nz_4, nz_5, nz_6, nz_7, nz_8, S0_76, q_Md_isWord hc, hk4]
set_option maxRecDepth 100000 in
set_option maxHeartbeats 400000 in
theorem q_Md_factHere_5 {c : Nat} (hc : isChap c) {k4 : Nat → Int32 → Int32 → hm_M → Option (Int32 × hm_M)} {K4 : Int32 → Int32 → hn → Option (Int32 × hn)} (hk4 : ∀ (v1 : Int32) (v2 : Int32) (N : hn), k4 76 v1 v2 (N.1, N.2, rT c) = em c (K4 v1 v2 N)) {v1 : Int32} {v2 : Int32} {N : hn} : b_Md_factHere_5 S0 k4 76 v1 v2 (N.1, N.2, rT c) = em c (B_Md_factHere_5 c K4 v1 v2 N) := by
  unfold b_Md_factHere_5 B_Md_factHere_5
  try simp only [my_ite, my_hg]
  simp only [hl_n', hl_wI', hl_wL', hl_cp', em_s', em_n', em_my, em_l', em_b, em_v, emv_s', emv_n', emv_my, emv_l', emv_b, emv_v, hb_em, hv_em, my_T, my_F, ne_eq, not_false_eq_true, nz_c, S0_c, S0_lw, S0_h, isHold_36, hc, hc.d, hc.l, hc.d.l, nz_1, nz_2, nz_3, nz_4, nz_5, nz_6, nz_7, nz_8, S0_76, q_Md_isWord hc, hk4, q_Md_factHere_6 hc hk4]
set_option maxRecDepth 100000 in
set_option maxHeartbeats 400000 in
theorem q_Md_factHere_4 {c : Nat} (hc : isChap c) {k4 : Nat → Int32 → Int32 → hm_M → Option (Int32 × hm_M)} {K4 : Int32 → Int32 → hn → Option (Int32 × hn)} (hk4 : ∀ (v1 : Int32) (v2 : Int32) (N : hn), k4 76 v1 v2 (N.1, N.2, rT c) = em c (K4 v1 v2 N)) {v1 : Int32} {v2 : Int32} {s0 : Int32} {N : hn} : b_Md_factHere_4 S0 k4 76 v1 v2 s0 (N.1, N.2, rT c) = em c (B_Md_factHere_4 c K4 v1 v2 s0 N) := by
  unfold b_Md_factHere_4 B_Md_factHere_4
  try simp only [my_ite, my_hg]
  simp only [hl_n', hl_wI', hl_wL', hl_cp', em_s', em_n', em_my, em_l', em_b, em_v, emv_s', emv_n', emv_my, emv_l', emv_b, emv_v, hb_em, hv_em, my_T, my_F, ne_eq, not_false_eq_true, nz_c, S0_c, S0_lw, S0_h, isHold_36, hc, hc.d, hc.l, hc.d.l, nz_1, nz_2, nz_3, nz_4, nz_5, nz_6, nz_7, nz_8, S0_76, q_Md_isWord hc, hk4, q_Md_factHere_6 hc hk4, q_Md_factHere_5 hc hk4]
set_option maxRecDepth 100000 in
set_option maxHeartbeats 400000 in
theorem q_Md_factHere_3 {c : Nat} (hc : isChap c) {k4 : Nat → Int32 → Int32 → hm_M → Option (Int32 × hm_M)} {K4 : Int32 → Int32 → hn → Option (Int32 × hn)} (hk4 : ∀ (v1 : Int32) (v2 : Int32) (N : hn), k4 76 v1 v2 (N.1, N.2, rT c) = em c (K4 v1 v2 N)) {v1 : Int32} {v2 : Int32} {N : hn} : b_Md_factHere_3 S0 k4 76 v1 v2 (N.1, N.2, rT c) = em c (B_Md_factHere_3 c K4 v1 v2 N) := by
  unfold b_Md_factHere_3 B_Md_factHere_3
  try simp only [my_ite, my_hg]
  simp only [hl_n', hl_wI', hl_wL', hl_cp', em_s', em_n', em_my, em_l', em_b, em_v, emv_s', emv_n', emv_my, emv_l', emv_b, emv_v, hb_em, hv_em, my_T, my_F, ne_eq, not_false_eq_true, nz_c, S0_c, S0_lw, S0_h, isHold_36, hc, hc.d, hc.l, hc.d.l, nz_1, nz_2, nz_3, nz_4, nz_5, nz_6, nz_7, nz_8, S0_76, q_Md_isWord hc, hk4, q_Md_factHere_6 hc hk4, q_Md_factHere_5 hc hk4, q_Md_factHere_4 hc hk4]
set_option maxRecDepth 100000 in
set_option maxHeartbeats 400000 in
theorem q_Md_factHere_2 {c : Nat} (hc : isChap c) {k4 : Nat → Int32 → Int32 → hm_M → Option (Int32 × hm_M)} {K4 : Int32 → Int32 → hn → Option (Int32 × hn)} (hk4 : ∀ (v1 : Int32) (v2 : Int32) (N : hn), k4 76 v1 v2 (N.1, N.2, rT c) = em c (K4 v1 v2 N)) {v1 : Int32} {v2 : Int32} {N : hn} : b_Md_factHere_2 S0 k4 76 v1 v2 (N.1, N.2, rT c) = em c (B_Md_factHere_2 c K4 v1 v2 N) := by
  unfold b_Md_factHere_2 B_Md_factHere_2
  try simp only [my_ite, my_hg]
  simp only [hl_n', hl_wI', hl_wL', hl_cp', em_s', em_n', em_my, em_l', em_b, em_v, emv_s', emv_n', emv_my, emv_l', emv_b, emv_v, hb_em, hv_em, my_T, my_F, ne_eq, not_false_eq_true, nz_c, S0_c, S0_lw, S0_h, isHold_36, hc, hc.d, hc.l, hc.d.l, nz_1, nz_2, nz_3, nz_4, nz_5, nz_6, nz_7, nz_8, S0_76, q_Md_isWord hc, hk4, q_Md_factHere_6 hc hk4, q_Md_factHere_5 hc hk4, q_Md_factHere_4 hc hk4, q_Md_factHere_3 hc hk4]
set_option maxRecDepth 100000 in
set_option maxHeartbeats 400000 in
theorem r_Md_factHere_1 {c : Nat} (hc : isChap c) {k4 : Nat → Int32 → Int32 → hm_M → Option (Int32 × hm_M)} {K4 : Int32 → Int32 → hn → Option (Int32 × hn)} (hk4 : ∀ (v1 : Int32) (v2 : Int32) (N : hn), k4 76 v1 v2 (N.1, N.2, rT c) = em c (K4 v1 v2 N)) {v1 : Int32} {v2 : Int32} {N : hn} : b_Md_factHere_1 S0 k4 76 v1 v2 (N.1, N.2, rT c) = em c (B_Md_factHere_1 c K4 v1 v2 N) := by
  unfold b_Md_factHere_1 B_Md_factHere_1
  try simp only [my_ite, my_hg]
  simp only [hl_n', hl_wI', hl_wL', hl_cp', em_s', em_n', em_my, em_l', em_b, em_v, emv_s', emv_n', emv_my, emv_l', emv_b, emv_v, hb_em, hv_em, my_T, my_F, ne_eq, not_false_eq_true, nz_c, S0_c, S0_lw, S0_h, isHold_36, hc, hc.d, hc.l, hc.d.l, nz_1, nz_2, nz_3, nz_4, nz_5, nz_6, nz_7, nz_8, S0_76, q_Md_isWord hc, hk4, q_Md_factHere_6 hc hk4, q_Md_factHere_5 hc hk4, q_Md_factHere_4 hc hk4, q_Md_factHere_3 hc hk4, q_Md_factHere_2 hc hk4]
theorem q_Md_factHere_1 {c : Nat} (hc : isChap c) : ∀ (n : Nat) (v1 : Int32) (v2 : Int32) (N : hn), f_Md_factHere_1 S0 n 76 v1 v2 (N.1, N.2, rT c) = em c (F_Md_factHere_1 c n v1 v2 N) := by
  intro n
  induction n with
  | zero => intros; rfl
  | succ n ih => intro v1 v2 N ; exact r_Md_factHere_1 hc  ih
set_option maxRecDepth 100000 in
set_option maxHeartbeats 400000 in
theorem q_Md_factHere {c : Nat} (hc : isChap c) {N : hn} : f_Md_factHere S0 76 (N.1, N.2, rT c) = em c (F_Md_factHere c N) := by
  unfold f_Md_factHere F_Md_factHere
  try simp only [my_ite, my_hg]
  simp only [hl_n', hl_wI', hl_wL', hl_cp', em_s', em_n', em_my, em_l', em_b, em_v, emv_s', emv_n', emv_my, emv_l', emv_b, emv_v, hb_em, hv_em, my_T, my_F, ne_eq, not_false_eq_true, nz_c, S0_c, S0_lw, S0_h, isHold_36, hc, hc.d, hc.l, hc.d.l, nz_1, nz_2, nz_3, nz_4, nz_5, nz_6, nz_7, nz_8, S0_76, q_Md_isWord hc, q_Md_factHere_1 hc]
set_option maxRecDepth 100000 in
set_option maxHeartbeats 400000 in
theorem q_Md_takeSign {c : Nat} (hc : isChap c) {v1 : Int32} {N : hn} : f_Md_takeSign S0 76 v1 (N.1, N.2, rT c) = emv c (F_Md_takeSign c v1 N) := by
  unfold f_Md_takeSign F_Md_takeSign
  try simp only [my_ite, my_hg]
  simp only [hl_n', hl_wI', hl_wL', hl_cp', em_s', em_n', em_my, em_l', em_b, em_v, emv_s', emv_n', emv_my, emv_l', emv_b, emv_v, hb_em, hv_em, my_T, my_F, ne_eq, not_false_eq_true, nz_c, S0_c, S0_lw, S0_h, isHold_36, hc, hc.d, hc.l, hc.d.l, nz_1, nz_2, nz_3, nz_4, nz_5, nz_6, nz_7, nz_8, S0_76, q_Md_isSign hc, q_Md_wrong hc]
