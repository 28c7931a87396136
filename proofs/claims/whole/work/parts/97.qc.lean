/-! the resolved layer is right (by program) -/
theorem q_Rents_yearOf_1 {c : Nat} (hc : isChap c) : ∀ (n : Nat) (v2 : Int32) (v3 : Int32) (N : hn), f_Rents_yearOf_1 S0 n 43 19 v2 v3 (N.1, N.2, rT c) = em c (F_Rents_yearOf_1 c n v2 v3 N) := by
  intro n
  induction n with
  | zero => intros; rfl
  | succ n ih => intro v2 v3 N ; exact r_Rents_yearOf_1 hc  ih
set_option maxRecDepth 100000 in
set_option maxHeartbeats 400000 in
theorem q_Rents_yearOf {c : Nat} (hc : isChap c) {v2 : Int32} {N : hn} : f_Rents_yearOf S0 43 19 v2 (N.1, N.2, rT c) = em c (F_Rents_yearOf c v2 N) := by
  unfold f_Rents_yearOf F_Rents_yearOf
  try simp only [my_ite, my_hg]
  simp only [hl_n', hl_wI', hl_wL', hl_cp', em_s', em_n', em_my, em_l', em_b, em_v, emv_s', emv_n', emv_my, emv_l', emv_b, emv_v, hb_em, hv_em, my_T, my_F, ne_eq, not_false_eq_true, nz_c, S0_c, S0_lw, S0_h, isHold_36, hc, hc.d, hc.l, hc.d.l, nz_1, nz_2, nz_3, nz_4, nz_5, nz_6, nz_7, nz_8, S0_43, ib_45, q_Rents_measure hc, rT_43_1, q_Rents_yearOf_1 hc, q_Rents_yearOf_2 hc]
set_option maxRecDepth 100000 in
set_option maxHeartbeats 400000 in
theorem q_Ps_yearNow {c : Nat} (hc : isChap c) {N : hn} : f_Ps_yearNow S0 1 (N.1, N.2, rT c) = em c (F_Ps_yearNow c N) := by
  unfold f_Ps_yearNow F_Ps_yearNow
  try simp only [my_ite, my_hg]
  simp only [hl_n', hl_wI', hl_wL', hl_cp', em_s', em_n', em_my, em_l', em_b, em_v, emv_s', emv_n', emv_my, emv_l', emv_b, emv_v, hb_em, hv_em, my_T, my_F, ne_eq, not_false_eq_true, nz_c, S0_c, S0_lw, S0_h, isHold_36, hc, hc.d, hc.l, hc.d.l, nz_1, nz_2, nz_3, nz_4, nz_5, nz_6, nz_7, nz_8, S0_1, S0_19, S0_36, S0_43, q_Hold_lit hc, q_Rents_yearOf hc, rT_1_1, rT_1_2, rT_1_4]
set_option maxRecDepth 100000 in
set_option maxHeartbeats 400000 in
theorem q_Rents_given {c : Nat} (hc : isChap c) {v1 : Int32} {v2 : Int32} {N : hn} : f_Rents_given S0 43 v1 v2 (N.1, N.2, rT c) = em c (F_Rents_given c v1 v2 N) := by
  unfold f_Rents_given F_Rents_given
  try simp only [my_ite, my_hg]
  simp only [hl_n', hl_wI', hl_wL', hl_cp', em_s', em_n', em_my, em_l', em_b, em_v, emv_s', emv_n', emv_my, emv_l', emv_b, emv_v, hb_em, hv_em, my_T, my_F, ne_eq, not_false_eq_true, nz_c, S0_c, S0_lw, S0_h, isHold_36, hc, hc.d, hc.l, hc.d.l, nz_1, nz_2, nz_3, nz_4, nz_5, nz_6, nz_7, nz_8, S0_43, ib_44, rT_43_0]
set_option maxRecDepth 100000 in
set_option maxHeartbeats 400000 in
theorem q_Rents_worthTo {c : Nat} (hc : isChap c) {v1 : Nat} {v2 : Int32} {v3 : Int32} {v4 : Int32} (hv1 : isChap v1) {N : hn} : f_Rents_worthTo S0 43 v1 v2 v3 v4 (N.1, N.2, rT c) = em c (F_Rents_worthTo c v1 v2 v3 v4 N) := by
  unfold f_Rents_worthTo F_Rents_worthTo
  try simp only [my_ite, my_hg]
  simp only [hl_n', hl_wI', hl_wL', hl_cp', em_s', em_n', em_my, em_l', em_b, em_v, emv_s', emv_n', emv_my, emv_l', emv_b, emv_v, hb_em, hv_em, my_T, my_F, ne_eq, not_false_eq_true, nz_c, S0_c, S0_lw, S0_h, isHold_36, hc, hc.d, hc.l, hc.d.l, nz_1, nz_2, nz_3, nz_4, nz_5, nz_6, nz_7, nz_8, hv1, hv1.l, S0_43, ib_c11, ib_c6, q_J6_bitCount_0f7a4 hc, q_Rents_given hc, rT_c11, rT_c6]
set_option maxRecDepth 100000 in
set_option maxHeartbeats 400000 in
theorem q_Rents_gainOf {c : Nat} (hc : isChap c) {v1 : Nat} {v2 : Nat} {v3 : Int32} {v4 : Int32} {v5 : Int32} (hv1 : isChap v1) (hv2 : isHold v2) {N : hn} : f_Rents_gainOf S0 43 v1 v2 v3 v4 v5 (N.1, N.2, rT c) = em c (F_Rents_gainOf c v1 v2 v3 v4 v5 N) := by
  unfold f_Rents_gainOf F_Rents_gainOf
  try simp only [my_ite, my_hg]
  simp only [hl_n', hl_wI', hl_wL', hl_cp', em_s', em_n', em_my, em_l', em_b, em_v, emv_s', emv_n', emv_my, emv_l', emv_b, emv_v, hb_em, hv_em, my_T, my_F, ne_eq, not_false_eq_true, nz_c, S0_c, S0_lw, S0_h, isHold_36, hc, hc.d, hc.l, hc.d.l, nz_1, nz_2, nz_3, nz_4, nz_5, nz_6, nz_7, nz_8, hv1, hv2, hv1.l, S0_43, ib_h0, q_Rents_worthTo hc, rT_h0]
set_option maxRecDepth 100000 in
set_option maxHeartbeats 400000 in
theorem r_Trade_mostWith_1 {c : Nat} (hc : isChap c) {k10 : Nat → Int32 → Int32 → Int32 → Int32 → hm_M → Option (Int32 × hm_M)} {K10 : Int32 → Int32 → Int32 → Int32 → hn → Option (Int32 × hn)} (hk10 : ∀ (v1 : Int32) (v2 : Int32) (v3 : Int32) (v4 : Int32) (N : hn), k10 47 v1 v2 v3 v4 (N.1, N.2, rT c) = em c (K10 v1 v2 v3 v4 N)) {v1 : Int32} {v2 : Int32} {v3 : Int32} {v4 : Int32} {N : hn} : b_Trade_mostWith_1 S0 k10 47 v1 v2 v3 v4 (N.1, N.2, rT c) = em c (B_Trade_mostWith_1 c K10 v1 v2 v3 v4 N) := by
  unfold b_Trade_mostWith_1 B_Trade_mostWith_1
  try simp only [my_ite, my_hg]
  simp only [hl_n', hl_wI', hl_wL', hl_cp', em_s', em_n', em_my, em_l', em_b, em_v, emv_s', emv_n', emv_my, emv_l', emv_b, emv_v, hb_em, hv_em, my_T, my_F, ne_eq, not_false_eq_true, nz_c, S0_c, S0_lw, S0_h, isHold_36, hc, hc.d, hc.l, hc.d.l, nz_1, nz_2, nz_3, nz_4, nz_5, nz_6, nz_7, nz_8, S0_47, ib_48, ib_49, rT_47_0, rT_47_1, hk10]
theorem q_Trade_mostWith_1 {c : Nat} (hc : isChap c) : ∀ (n : Nat) (v1 : Int32) (v2 : Int32) (v3 : Int32) (v4 : Int32) (N : hn), f_Trade_mostWith_1 S0 n 47 v1 v2 v3 v4 (N.1, N.2, rT c) = em c (F_Trade_mostWith_1 c n v1 v2 v3 v4 N) := by
  intro n
  induction n with
  | zero => intros; rfl
  | succ n ih => intro v1 v2 v3 v4 N ; exact r_Trade_mostWith_1 hc  ih
set_option maxRecDepth 100000 in
set_option maxHeartbeats 400000 in
theorem q_Trade_mostWith {c : Nat} (hc : isChap c) {v1 : Int32} {v2 : Int32} {N : hn} : f_Trade_mostWith S0 47 v1 v2 (N.1, N.2, rT c) = em c (F_Trade_mostWith c v1 v2 N) := by
  unfold f_Trade_mostWith F_Trade_mostWith
  try simp only [my_ite, my_hg]
  simp only [hl_n', hl_wI', hl_wL', hl_cp', em_s', em_n', em_my, em_l', em_b, em_v, emv_s', emv_n', emv_my, emv_l', emv_b, emv_v, hb_em, hv_em, my_T, my_F, ne_eq, not_false_eq_true, nz_c, S0_c, S0_lw, S0_h, isHold_36, hc, hc.d, hc.l, hc.d.l, nz_1, nz_2, nz_3, nz_4, nz_5, nz_6, nz_7, nz_8, S0_47, ib_48, ib_49, rT_47_0, rT_47_1, q_Trade_mostWith_1 hc]
set_option maxRecDepth 100000 in
set_option maxHeartbeats 400000 in
theorem r_Trade_leastPartner_1 {c : Nat} (hc : isChap c) {k17 : Nat → Int32 → Int32 → Int32 → Int32 → Int32 → hm_M → Option (Int32 × hm_M)} {K17 : Int32 → Int32 → Int32 → Int32 → Int32 → hn → Option (Int32 × hn)} (hk17 : ∀ (v1 : Int32) (v2 : Int32) (v3 : Int32) (v4 : Int32) (v5 : Int32) (N : hn), k17 47 v1 v2 v3 v4 v5 (N.1, N.2, rT c) = em c (K17 v1 v2 v3 v4 v5 N)) {v1 : Int32} {v2 : Int32} {v3 : Int32} {v4 : Int32} {v5 : Int32} {N : hn} : b_Trade_leastPartner_1 S0 k17 47 v1 v2 v3 v4 v5 (N.1, N.2, rT c) = em c (B_Trade_leastPartner_1 c K17 v1 v2 v3 v4 v5 N) := by
  unfold b_Trade_leastPartner_1 B_Trade_leastPartner_1
  try simp only [my_ite, my_hg]
  simp only [hl_n', hl_wI', hl_wL', hl_cp', em_s', em_n', em_my, em_l', em_b, em_v, emv_s', emv_n', emv_my, emv_l', emv_b, emv_v, hb_em, hv_em, my_T, my_F, ne_eq, not_false_eq_true, nz_c, S0_c, S0_lw, S0_h, isHold_36, hc, hc.d, hc.l, hc.d.l, nz_1, nz_2, nz_3, nz_4, nz_5, nz_6, nz_7, nz_8, S0_47, ib_48, ib_49, rT_47_0, rT_47_1, hk17]
theorem q_Trade_leastPartner_1 {c : Nat} (hc : isChap c) : ∀ (n : Nat) (v1 : Int32) (v2 : Int32) (v3 : Int32) (v4 : Int32) (v5 : Int32) (N : hn), f_Trade_leastPartner_1 S0 n 47 v1 v2 v3 v4 v5 (N.1, N.2, rT c) = em c (F_Trade_leastPartner_1 c n v1 v2 v3 v4 v5 N) := by
  intro n
  induction n with
  | zero => intros; rfl
  | succ n ih => intro v1 v2 v3 v4 v5 N ; exact r_Trade_leastPartner_1 hc  ih
set_option maxRecDepth 100000 in
set_option maxHeartbeats 400000 in
theorem q_Trade_leastPartner {c : Nat} (hc : isChap c) {v1 : Int32} {v2 : Int32} {v3 : Int32} {v4 : Int32} {N : hn} : f_Trade_leastPartner S0 47 v1 v2 v3 v4 (N.1, N.2, rT c) = em c (F_Trade_leastPartner c v1 v2 v3 v4 N) := by
  unfold f_Trade_leastPartner F_Trade_leastPartner
  try simp only [my_ite, my_hg]
  simp only [hl_n', hl_wI', hl_wL', hl_cp', em_s', em_n', em_my, em_l', em_b, em_v, emv_s', emv_n', emv_my, emv_l', emv_b, emv_v, hb_em, hv_em, my_T, my_F, ne_eq, not_false_eq_true, nz_c, S0_c, S0_lw, S0_h, isHold_36, hc, hc.d, hc.l, hc.d.l, nz_1, nz_2, nz_3, nz_4, nz_5, nz_6, nz_7, nz_8, S0_47, ib_48, ib_49, rT_47_0, rT_47_1, q_Trade_leastPartner_1 hc]
set_option maxRecDepth 100000 in
set_option maxHeartbeats 400000 in
theorem r_Trade_choose_1 {c : Nat} (hc : isChap c) {k8 : Nat → Int32 → Int32 → Int32 → hm_M → Option hm_M} {K8 : Int32 → Int32 → Int32 → hn → Option hn} (hk8 : ∀ (v1 : Int32) (v2 : Int32) (v3 : Int32) (N : hn), k8 47 v1 v2 v3 (N.1, N.2, rT c) = emv c (K8 v1 v2 v3 N)) {v1 : Int32} {v2 : Int32} {v3 : Int32} {N : hn} : b_Trade_choose_1 S0 k8 47 v1 v2 v3 (N.1, N.2, rT c) = emv c (B_Trade_choose_1 c K8 v1 v2 v3 N) := by
  unfold b_Trade_choose_1 B_Trade_choose_1
  try simp only [my_ite, my_hg]
  simp only [hl_n', hl_wI', hl_wL', hl_cp', em_s', em_n', em_my, em_l', em_b, em_v, emv_s', emv_n', emv_my, emv_l', emv_b, emv_v, hb_em, hv_em, my_T, my_F, ne_eq, not_false_eq_true, nz_c, S0_c, S0_lw, S0_h, isHold_36, hc, hc.d, hc.l, hc.d.l, nz_1, nz_2, nz_3, nz_4, nz_5, nz_6, nz_7, nz_8, S0_47, ib_49, ib_50, q_Trade_leastPartner hc, rT_47_1, rT_47_2, hk8]
theorem q_Trade_choose_1 {c : Nat} (hc : isChap c) : ∀ (n : Nat) (v1 : Int32) (v2 : Int32) (v3 : Int32) (N : hn), f_Trade_choose_1 S0 n 47 v1 v2 v3 (N.1, N.2, rT c) = emv c (F_Trade_choose_1 c n v1 v2 v3 N) := by
  intro n
  induction n with
  | zero => intros; rfl
  | succ n ih => intro v1 v2 v3 N ; exact r_Trade_choose_1 hc  ih
set_option maxRecDepth 100000 in
set_option maxHeartbeats 400000 in
theorem q_Trade_choose {c : Nat} (hc : isChap c) {v1 : Int32} {N : hn} : f_Trade_choose S0 47 v1 (N.1, N.2, rT c) = emv c (F_Trade_choose c v1 N) := by
  unfold f_Trade_choose F_Trade_choose
  try simp only [my_ite, my_hg]
  simp only [hl_n', hl_wI', hl_wL', hl_cp', em_s', em_n', em_my, em_l', em_b, em_v, emv_s', emv_n', emv_my, emv_l', emv_b, emv_v, hb_em, hv_em, my_T, my_F, ne_eq, not_false_eq_true, nz_c, S0_c, S0_lw, S0_h, isHold_36, hc, hc.d, hc.l, hc.d.l, nz_1, nz_2, nz_3, nz_4, nz_5, nz_6, nz_7, nz_8, S0_47, ib_49, ib_50, q_Trade_leastPartner hc, rT_47_1, rT_47_2, q_Trade_choose_1 hc]
set_option maxRecDepth 100000 in
set_option maxHeartbeats 400000 in
theorem r_Trade_settle_6 {c : Nat} (hc : isChap c) {k111 : Nat → Int32 → Int32 → hm_M → Option hm_M} {K111 : Int32 → Int32 → hn → Option hn} (hk111 : ∀ (v5 : Int32) (v6 : Int32) (N : hn), k111 47 v5 v6 (N.1, N.2, rT c) = emv c (K111 v5 v6 N)) {k121 : Nat → Int32 → Int32 → Int32 → hm_M → Option hm_M} {K121 : Int32 → Int32 → Int32 → hn → Option hn} (hk121 : ∀ (v5 : Int32) (v6 : Int32) (v7 : Int32) (N : hn), k121 47 v5 v6 v7 (N.1, N.2, rT c) = emv c (K121 v5 v6 v7 N)) {v5 : Int32} {v6 : Int32} {v7 : Int32} {N : hn} : b_Trade_settle_6 S0 k111 k121 47 v5 v6 v7 (N.1, N.2, rT c) = emv c (B_Trade_settle_6 c K111 K121 v5 v6 v7 N) := by
  unfold b_Trade_settle_6 B_Trade_settle_6
  try simp only [my_ite, my_hg]
  simp only [hl_n', hl_wI', hl_wL', hl_cp', em_s', em_n', em_my, em_l', em_b, em_v, emv_s', emv_n', emv_my, emv_l', emv_b, emv_v, hb_em, hv_em, my_T, my_F, ne_eq, not_false_eq_true, nz_c, S0_c, S0_lw, S0_h, isHold_36, hc, hc.d, hc.l, hc.d.l, nz_1, nz_2, nz_3, nz_4, nz_5, nz_6, nz_7, nz_8, S0_43, S0_47, ib_48, ib_49, ib_h0, q_Rents_gainOf hc, q_Trade_choose hc, q_Trade_mostWith hc, rT_47_0, rT_47_1, rT_h0, hk111, hk121]
theorem q_Trade_settle_6 {c : Nat} (hc : isChap c) {k111 : Nat → Int32 → Int32 → hm_M → Option hm_M} {K111 : Int32 → Int32 → hn → Option hn} (hk111 : ∀ (v5 : Int32) (v6 : Int32) (N : hn), k111 47 v5 v6 (N.1, N.2, rT c) = emv c (K111 v5 v6 N)) : ∀ (n : Nat) (v5 : Int32) (v6 : Int32) (v7 : Int32) (N : hn), f_Trade_settle_6 S0 k111 n 47 v5 v6 v7 (N.1, N.2, rT c) = emv c (F_Trade_settle_6 c K111 n v5 v6 v7 N) := by
  intro n
  induction n with
  | zero => intros; rfl
  | succ n ih => intro v5 v6 v7 N ; exact r_Trade_settle_6 hc hk111 ih
set_option maxRecDepth 100000 in
set_option maxHeartbeats 400000 in
theorem r_Trade_settle_5 {c : Nat} (hc : isChap c) {k111 : Nat → Int32 → Int32 → hm_M → Option hm_M} {K111 : Int32 → Int32 → hn → Option hn} (hk111 : ∀ (v5 : Int32) (v6 : Int32) (N : hn), k111 47 v5 v6 (N.1, N.2, rT c) = emv c (K111 v5 v6 N)) {v5 : Int32} {v6 : Int32} {N : hn} : b_Trade_settle_5 S0 k111 47 v5 v6 (N.1, N.2, rT c) = emv c (B_Trade_settle_5 c K111 v5 v6 N) := by
  unfold b_Trade_settle_5 B_Trade_settle_5
  try simp only [my_ite, my_hg]
  simp only [hl_n', hl_wI', hl_wL', hl_cp', em_s', em_n', em_my, em_l', em_b, em_v, emv_s', emv_n', emv_my, emv_l', emv_b, emv_v, hb_em, hv_em, my_T, my_F, ne_eq, not_false_eq_true, nz_c, S0_c, S0_lw, S0_h, isHold_36, hc, hc.d, hc.l, hc.d.l, nz_1, nz_2, nz_3, nz_4, nz_5, nz_6, nz_7, nz_8, S0_43, S0_47, ib_48, ib_49, ib_h0, q_Rents_gainOf hc, q_Trade_choose hc, q_Trade_mostWith hc, rT_47_0, rT_47_1, rT_h0, hk111, q_Trade_settle_6 hc hk111]
theorem q_Trade_settle_5 {c : Nat} (hc : isChap c) : ∀ (n : Nat) (v5 : Int32) (v6 : Int32) (N : hn), f_Trade_settle_5 S0 n 47 v5 v6 (N.1, N.2, rT c) = emv c (F_Trade_settle_5 c n v5 v6 N) := by
  intro n
  induction n with
  | zero => intros; rfl
  | succ n ih => intro v5 v6 N ; exact r_Trade_settle_5 hc  ih
set_option maxRecDepth 100000 in
set_option maxHeartbeats 400000 in
theorem q_Trade_settle_4 {c : Nat} (hc : isChap c) {k14 : Nat → Nat → Nat → Nat → Int32 → Int32 → Int32 → hm_M → Option hm_M} {K14 : Nat → Nat → Int32 → Int32 → Int32 → hn → Option hn} (hk14 : ∀ (v1 : Nat) (v2 : Nat) (v4 : Int32) (v5 : Int32) (v6 : Int32) (N : hn), isChap v1 → isHold v2 → k14 47 v1 v2 43 v4 v5 v6 (N.1, N.2, rT c) = emv c (K14 v1 v2 v4 v5 v6 N)) {k24 : Nat → Nat → Nat → Nat → Int32 → Int32 → Int32 → Int32 → hm_M → Option hm_M} {K24 : Nat → Nat → Int32 → Int32 → Int32 → Int32 → hn → Option hn} (hk24 : ∀ (v1 : Nat) (v2 : Nat) (v4 : Int32) (v5 : Int32) (v6 : Int32) (v7 : Int32) (N : hn), isChap v1 → isHold v2 → k24 47 v1 v2 43 v4 v5 v6 v7 (N.1, N.2, rT c) = emv c (K24 v1 v2 v4 v5 v6 v7 N)) {v1 : Nat} {v2 : Nat} {v4 : Int32} {v5 : Int32} {v6 : Int32} {v7 : Int32} {s0 : Int32} {s1 : Int32} (hv1 : isChap v1) (hv2 : isHold v2) {N : hn} : b_Trade_settle_4 S0 k14 k24 47 v1 v2 43 v4 v5 v6 v7 s0 s1 48 (N.1, N.2, rT c) = emv c (B_Trade_settle_4 c K14 K24 v1 v2 v4 v5 v6 v7 s0 s1 N) := by
  unfold b_Trade_settle_4 B_Trade_settle_4
  try simp only [my_ite, my_hg]
  simp only [hl_n', hl_wI', hl_wL', hl_cp', em_s', em_n', em_my, em_l', em_b, em_v, emv_s', emv_n', emv_my, emv_l', emv_b, emv_v, hb_em, hv_em, my_T, my_F, ne_eq, not_false_eq_true, nz_c, S0_c, S0_lw, S0_h, isHold_36, hc, hc.d, hc.l, hc.d.l, nz_1, nz_2, nz_3, nz_4, nz_5, nz_6, nz_7, nz_8, hv1, hv2, hv1.l, S0_43, S0_47, ib_48, ib_49, ib_h0, q_Rents_gainOf hc, q_Trade_choose hc, q_Trade_mostWith hc, rT_47_0, rT_47_1, rT_h0, hk14, hk24, q_Trade_settle_5 hc]
set_option maxRecDepth 100000 in
set_option maxHeartbeats 400000 in
theorem q_Trade_settle_3 {c : Nat} (hc : isChap c) {k14 : Nat → Nat → Nat → Nat → Int32 → Int32 → Int32 → hm_M → Option hm_M} {K14 : Nat → Nat → Int32 → Int32 → Int32 → hn → Option hn} (hk14 : ∀ (v1 : Nat) (v2 : Nat) (v4 : Int32) (v5 : Int32) (v6 : Int32) (N : hn), isChap v1 → isHold v2 → k14 47 v1 v2 43 v4 v5 v6 (N.1, N.2, rT c) = emv c (K14 v1 v2 v4 v5 v6 N)) {k24 : Nat → Nat → Nat → Nat → Int32 → Int32 → Int32 → Int32 → hm_M → Option hm_M} {K24 : Nat → Nat → Int32 → Int32 → Int32 → Int32 → hn → Option hn} (hk24 : ∀ (v1 : Nat) (v2 : Nat) (v4 : Int32) (v5 : Int32) (v6 : Int32) (v7 : Int32) (N : hn), isChap v1 → isHold v2 → k24 47 v1 v2 43 v4 v5 v6 v7 (N.1, N.2, rT c) = emv c (K24 v1 v2 v4 v5 v6 v7 N)) {v1 : Nat} {v2 : Nat} {v4 : Int32} {v5 : Int32} {v6 : Int32} {v7 : Int32} {s0 : Int32} (hv1 : isChap v1) (hv2 : isHold v2) {N : hn} : b_Trade_settle_3 S0 k14 k24 47 v1 v2 43 v4 v5 v6 v7 s0 (N.1, N.2, rT c) = emv c (B_Trade_settle_3 c K14 K24 v1 v2 v4 v5 v6 v7 s0 N) := by
  unfold b_Trade_settle_3 B_Trade_settle_3
  try simp only [my_ite, my_hg]
  simp only [hl_n', hl_wI', hl_wL', hl_cp', em_s', em_n', em_my, em_l', em_b, em_v, emv_s', emv_n', emv_my, emv_l', emv_b, emv_v, hb_em, hv_em, my_T, my_F, ne_eq, not_false_eq_true, nz_c, S0_c, S0_lw, S0_h, isHold_36, hc, hc.d, hc.l, hc.d.l, nz_1, nz_2, nz_3, nz_4, nz_5, nz_6, nz_7, nz_8, hv1, hv2, hv1.l, S0_43, S0_47, ib_48, ib_49, ib_h0, q_Rents_gainOf hc, q_Trade_choose hc, q_Trade_mostWith hc, rT_47_0, rT_47_1, rT_h0, hk14, hk24, q_Trade_settle_5 hc, q_Trade_settle_4 hc hk14 hk24]
set_option maxRecDepth 100000 in
set_option maxHeartbeats 400000 in
theorem r_Trade_settle_2 {c : Nat} (hc : isChap c) {k14 : Nat → Nat → Nat → Nat → Int32 → Int32 → Int32 → hm_M → Option hm_M} {K14 : Nat → Nat → Int32 → Int32 → Int32 → hn → Option hn} (hk14 : ∀ (v1 : Nat) (v2 : Nat) (v4 : Int32) (v5 : Int32) (v6 : Int32) (N : hn), isChap v1 → isHold v2 → k14 47 v1 v2 43 v4 v5 v6 (N.1, N.2, rT c) = emv c (K14 v1 v2 v4 v5 v6 N)) {k24 : Nat → Nat → Nat → Nat → Int32 → Int32 → Int32 → Int32 → hm_M → Option hm_M} {K24 : Nat → Nat → Int32 → Int32 → Int32 → Int32 → hn → Option hn} (hk24 : ∀ (v1 : Nat) (v2 : Nat) (v4 : Int32) (v5 : Int32) (v6 : Int32) (v7 : Int32) (N : hn), isChap v1 → isHold v2 → k24 47 v1 v2 43 v4 v5 v6 v7 (N.1, N.2, rT c) = emv c (K24 v1 v2 v4 v5 v6 v7 N)) {v1 : Nat} {v2 : Nat} {v4 : Int32} {v5 : Int32} {v6 : Int32} {v7 : Int32} (hv1 : isChap v1) (hv2 : isHold v2) {N : hn} : b_Trade_settle_2 S0 k14 k24 47 v1 v2 43 v4 v5 v6 v7 (N.1, N.2, rT c) = emv c (B_Trade_settle_2 c K14 K24 v1 v2 v4 v5 v6 v7 N) := by
  unfold b_Trade_settle_2 B_Trade_settle_2
  try simp only [my_ite, my_hg]
  simp only [hl_n', hl_wI', hl_wL', hl_cp', em_s', em_n', em_my, em_l', em_b, em_v, emv_s', emv_n', emv_my, emv_l', emv_b, emv_v, hb_em, hv_em, my_T, my_F, ne_eq, not_false_eq_true, nz_c, S0_c, S0_lw, S0_h, isHold_36, hc, hc.d, hc.l, hc.d.l, nz_1, nz_2, nz_3, nz_4, nz_5, nz_6, nz_7, nz_8, hv1, hv2, hv1.l, S0_43, S0_47, ib_48, ib_49, ib_h0, q_Rents_gainOf hc, q_Trade_choose hc, q_Trade_mostWith hc, rT_47_0, rT_47_1, rT_h0, hk14, hk24, q_Trade_settle_5 hc, q_Trade_settle_4 hc hk14 hk24, q_Trade_settle_3 hc hk14 hk24]
theorem q_Trade_settle_2 {c : Nat} (hc : isChap c) {k14 : Nat → Nat → Nat → Nat → Int32 → Int32 → Int32 → hm_M → Option hm_M} {K14 : Nat → Nat → Int32 → Int32 → Int32 → hn → Option hn} (hk14 : ∀ (v1 : Nat) (v2 : Nat) (v4 : Int32) (v5 : Int32) (v6 : Int32) (N : hn), isChap v1 → isHold v2 → k14 47 v1 v2 43 v4 v5 v6 (N.1, N.2, rT c) = emv c (K14 v1 v2 v4 v5 v6 N)) : ∀ (n : Nat) (v1 : Nat) (v2 : Nat) (v4 : Int32) (v5 : Int32) (v6 : Int32) (v7 : Int32) (N : hn), isChap v1 → isHold v2 → f_Trade_settle_2 S0 k14 n 47 v1 v2 43 v4 v5 v6 v7 (N.1, N.2, rT c) = emv c (F_Trade_settle_2 c K14 n v1 v2 v4 v5 v6 v7 N) := by
  intro n
  induction n with
  | zero => intros; rfl
  | succ n ih => intro v1 v2 v4 v5 v6 v7 N hv1 hv2; exact r_Trade_settle_2 hc hk14 ih hv1 hv2
set_option maxRecDepth 100000 in
set_option maxHeartbeats 400000 in
theorem r_Trade_settle_1 {c : Nat} (hc : isChap c) {k14 : Nat → Nat → Nat → Nat → Int32 → Int32 → Int32 → hm_M → Option hm_M} {K14 : Nat → Nat → Int32 → Int32 → Int32 → hn → Option hn} (hk14 : ∀ (v1 : Nat) (v2 : Nat) (v4 : Int32) (v5 : Int32) (v6 : Int32) (N : hn), isChap v1 → isHold v2 → k14 47 v1 v2 43 v4 v5 v6 (N.1, N.2, rT c) = emv c (K14 v1 v2 v4 v5 v6 N)) {v1 : Nat} {v2 : Nat} {v4 : Int32} {v5 : Int32} {v6 : Int32} (hv1 : isChap v1) (hv2 : isHold v2) {N : hn} : b_Trade_settle_1 S0 k14 47 v1 v2 43 v4 v5 v6 (N.1, N.2, rT c) = emv c (B_Trade_settle_1 c K14 v1 v2 v4 v5 v6 N) := by
  unfold b_Trade_settle_1 B_Trade_settle_1
  try simp only [my_ite, my_hg]
  simp only [hl_n', hl_wI', hl_wL', hl_cp', em_s', em_n', em_my, em_l', em_b, em_v, emv_s', emv_n', emv_my, emv_l', emv_b, emv_v, hb_em, hv_em, my_T, my_F, ne_eq, not_false_eq_true, nz_c, S0_c, S0_lw, S0_h, isHold_36, hc, hc.d, hc.l, hc.d.l, nz_1, nz_2, nz_3, nz_4, nz_5, nz_6, nz_7, nz_8, hv1, hv2, hv1.l, S0_43, S0_47, ib_48, ib_49, ib_h0, q_Rents_gainOf hc, q_Trade_choose hc, q_Trade_mostWith hc, rT_47_0, rT_47_1, rT_h0, hk14, q_Trade_settle_5 hc, q_Trade_settle_2 hc hk14]
theorem q_Trade_settle_1 {c : Nat} (hc : isChap c) : ∀ (n : Nat) (v1 : Nat) (v2 : Nat) (v4 : Int32) (v5 : Int32) (v6 : Int32) (N : hn), isChap v1 → isHold v2 → f_Trade_settle_1 S0 n 47 v1 v2 43 v4 v5 v6 (N.1, N.2, rT c) = emv c (F_Trade_settle_1 c n v1 v2 v4 v5 v6 N) := by
  intro n
  induction n with
  | zero => intros; rfl
  | succ n ih => intro v1 v2 v4 v5 v6 N hv1 hv2; exact r_Trade_settle_1 hc  ih hv1 hv2
set_option maxRecDepth 100000 in
set_option maxHeartbeats 400000 in
theorem q_Trade_settle {c : Nat} (hc : isChap c) {v1 : Nat} {v2 : Nat} {v4 : Int32} (hv1 : isChap v1) (hv2 : isHold v2) {N : hn} : f_Trade_settle S0 47 v1 v2 43 v4 (N.1, N.2, rT c) = emv c (F_Trade_settle c v1 v2 v4 N) := by
  unfold f_Trade_settle F_Trade_settle
  try simp only [my_ite, my_hg]
  simp only [hl_n', hl_wI', hl_wL', hl_cp', em_s', em_n', em_my, em_l', em_b, em_v, emv_s', emv_n', emv_my, emv_l', emv_b, emv_v, hb_em, hv_em, my_T, my_F, ne_eq, not_false_eq_true, nz_c, S0_c, S0_lw, S0_h, isHold_36, hc, hc.d, hc.l, hc.d.l, nz_1, nz_2, nz_3, nz_4, nz_5, nz_6, nz_7, nz_8, hv1, hv2, hv1.l, S0_43, S0_47, ib_48, ib_49, ib_h0, q_Rents_gainOf hc, q_Trade_choose hc, q_Trade_mostWith hc, rT_47_0, rT_47_1, rT_h0, q_Trade_settle_1 hc, q_Trade_settle_5 hc]
set_option maxRecDepth 100000 in
set_option maxHeartbeats 400000 in
theorem q_Ps_best_1 {c : Nat} (hc : isChap c) {v1 : Int32} {N : hn} : b_Ps_best_1 S0 1 v1 (N.1, N.2, rT c) = em c (B_Ps_best_1 c v1 N) := by
  unfold b_Ps_best_1 B_Ps_best_1
  try simp only [my_ite, my_hg]
  simp only [hl_n', hl_wI', hl_wL', hl_cp', em_s', em_n', em_my, em_l', em_b, em_v, emv_s', emv_n', emv_my, emv_l', emv_b, emv_v, hb_em, hv_em, my_T, my_F, ne_eq, not_false_eq_true, nz_c, S0_c, S0_lw, S0_h, isHold_36, hc, hc.d, hc.l, hc.d.l, nz_1, nz_2, nz_3, nz_4, nz_5, nz_6, nz_7, nz_8, S0_1, S0_19, S0_36, S0_43, S0_47, ib_50, q_Ps_isPane hc, q_Ps_yearNow hc, q_Trade_settle hc, rT_19_0, rT_1_1, rT_1_2, rT_1_4, rT_1_5, rT_47_2]
set_option maxRecDepth 100000 in
set_option maxHeartbeats 400000 in
theorem q_Ps_best {c : Nat} (hc : isChap c) {v1 : Int32} {N : hn} : f_Ps_best S0 1 v1 (N.1, N.2, rT c) = em c (F_Ps_best c v1 N) := by
  unfold f_Ps_best F_Ps_best
  try simp only [my_ite, my_hg]
  simp only [hl_n', hl_wI', hl_wL', hl_cp', em_s', em_n', em_my, em_l', em_b, em_v, emv_s', emv_n', emv_my, emv_l', emv_b, emv_v, hb_em, hv_em, my_T, my_F, ne_eq, not_false_eq_true, nz_c, S0_c, S0_lw, S0_h, isHold_36, hc, hc.d, hc.l, hc.d.l, nz_1, nz_2, nz_3, nz_4, nz_5, nz_6, nz_7, nz_8, S0_1, S0_19, S0_36, S0_43, S0_47, ib_50, q_Ps_isPane hc, q_Ps_yearNow hc, q_Trade_settle hc, rT_19_0, rT_1_1, rT_1_2, rT_1_4, rT_1_5, rT_47_2, q_Ps_best_1 hc]
set_option maxRecDepth 100000 in
set_option maxHeartbeats 400000 in
theorem q_Hold_isBroken {c : Nat} (hc : isChap c) {v0 : Nat} {v1 : Int32} (hv0 : isHold v0) {N : hn} : f_Hold_isBroken S0 v0 v1 (N.1, N.2, rT c) = em c (F_Hold_isBroken c v0 v1 N) := by
  unfold f_Hold_isBroken F_Hold_isBroken
  try simp only [my_ite, my_hg]
  simp only [hl_n', hl_wI', hl_wL', hl_cp', em_s', em_n', em_my, em_l', em_b, em_v, emv_s', emv_n', emv_my, emv_l', emv_b, emv_v, hb_em, hv_em, my_T, my_F, ne_eq, not_false_eq_true, nz_c, S0_c, S0_lw, S0_h, isHold_36, hc, hc.d, hc.l, hc.d.l, nz_1, nz_2, nz_3, nz_4, nz_5, nz_6, nz_7, nz_8, hv0]
set_option maxRecDepth 100000 in
set_option maxHeartbeats 400000 in
theorem q_Hold_turn {c : Nat} (hc : isChap c) {v0 : Nat} {v1 : Int32} (hv0 : isHold v0) {N : hn} : f_Hold_turn S0 v0 v1 (N.1, N.2, rT c) = emv c (F_Hold_turn c v0 v1 N) := by
  unfold f_Hold_turn F_Hold_turn
  try simp only [my_ite, my_hg]
  simp only [hl_n', hl_wI', hl_wL', hl_cp', em_s', em_n', em_my, em_l', em_b, em_v, emv_s', emv_n', emv_my, emv_l', emv_b, emv_v, hb_em, hv_em, my_T, my_F, ne_eq, not_false_eq_true, nz_c, S0_c, S0_lw, S0_h, isHold_36, hc, hc.d, hc.l, hc.d.l, nz_1, nz_2, nz_3, nz_4, nz_5, nz_6, nz_7, nz_8, hv0]
set_option maxRecDepth 100000 in
set_option maxHeartbeats 400000 in
theorem q_History_note {c : Nat} (hc : isChap c) {v1 : Int32} {v2 : Int32} {N : hn} : f_History_note S0 40 v1 v2 (N.1, N.2, rT c) = emv c (F_History_note c v1 v2 N) := by
  unfold f_History_note F_History_note
  try simp only [my_ite, my_hg]
  simp only [hl_n', hl_wI', hl_wL', hl_cp', em_s', em_n', em_my, em_l', em_b, em_v, emv_s', emv_n', emv_my, emv_l', emv_b, emv_v, hb_em, hv_em, my_T, my_F, ne_eq, not_false_eq_true, nz_c, S0_c, S0_lw, S0_h, isHold_36, hc, hc.d, hc.l, hc.d.l, nz_1, nz_2, nz_3, nz_4, nz_5, nz_6, nz_7, nz_8, S0_40, ib_41, ib_42, rT_40_0, rT_40_1]
set_option maxRecDepth 100000 in
set_option maxHeartbeats 400000 in
theorem q_Ps_breaks {c : Nat} (hc : isChap c) {v1 : Int32} {v2 : Int32} {N : hn} : f_Ps_breaks S0 1 v1 v2 (N.1, N.2, rT c) = em c (F_Ps_breaks c v1 v2 N) := by
  unfold f_Ps_breaks F_Ps_breaks
  try simp only [my_ite, my_hg]
  simp only [hl_n', hl_wI', hl_wL', hl_cp', em_s', em_n', em_my, em_l', em_b, em_v, emv_s', emv_n', emv_my, emv_l', emv_b, emv_v, hb_em, hv_em, my_T, my_F, ne_eq, not_false_eq_true, nz_c, S0_c, S0_lw, S0_h, isHold_36, hc, hc.d, hc.l, hc.d.l, nz_1, nz_2, nz_3, nz_4, nz_5, nz_6, nz_7, nz_8, S0_1, S0_36, S0_40, q_History_note hc, q_Hold_isBroken hc, q_Hold_turn hc, q_Ps_isPane hc, rT_1_2, rT_1_3]
set_option maxRecDepth 100000 in
set_option maxHeartbeats 400000 in
theorem q_Ps_canExchange {c : Nat} (hc : isChap c) {v1 : Int32} {v2 : Int32} {N : hn} : f_Ps_canExchange S0 1 v1 v2 (N.1, N.2, rT c) = em c (F_Ps_canExchange c v1 v2 N) := by
  unfold f_Ps_canExchange F_Ps_canExchange
  try simp only [my_ite, my_hg]
  simp only [hl_n', hl_wI', hl_wL', hl_cp', em_s', em_n', em_my, em_l', em_b, em_v, emv_s', emv_n', emv_my, emv_l', emv_b, emv_v, hb_em, hv_em, my_T, my_F, ne_eq, not_false_eq_true, nz_c, S0_c, S0_lw, S0_h, isHold_36, hc, hc.d, hc.l, hc.d.l, nz_1, nz_2, nz_3, nz_4, nz_5, nz_6, nz_7, nz_8, S0_1, S0_36, ib_h0, q_Ps_isPane hc, rT_1_2, rT_h0]
set_option maxRecDepth 100000 in
set_option maxHeartbeats 400000 in
theorem q_Ps_isTime {c : Nat} (hc : isChap c) {v0 : Int32} {v1 : Int32} {N : hn} : f_Ps_isTime S0 v0 v1 (N.1, N.2, rT c) = em c (F_Ps_isTime c v0 v1 N) := by
  unfold f_Ps_isTime F_Ps_isTime
  try simp only [my_ite, my_hg]
  simp only [hl_n', hl_wI', hl_wL', hl_cp', em_s', em_n', em_my, em_l', em_b, em_v, emv_s', emv_n', emv_my, emv_l', emv_b, emv_v, hb_em, hv_em, my_T, my_F, ne_eq, not_false_eq_true, nz_c, S0_c, S0_lw, S0_h, isHold_36, hc, hc.d, hc.l, hc.d.l, nz_1, nz_2, nz_3, nz_4, nz_5, nz_6, nz_7, nz_8, S0_1]
set_option maxRecDepth 100000 in
set_option maxHeartbeats 400000 in
theorem q_Ps_timeOf {c : Nat} (hc : isChap c) {v0 : Int32} {v1 : Int32} {N : hn} : f_Ps_timeOf S0 v0 v1 (N.1, N.2, rT c) = em c (F_Ps_timeOf c v0 v1 N) := by
  unfold f_Ps_timeOf F_Ps_timeOf
  try simp only [my_ite, my_hg]
  simp only [hl_n', hl_wI', hl_wL', hl_cp', em_s', em_n', em_my, em_l', em_b, em_v, emv_s', emv_n', emv_my, emv_l', emv_b, emv_v, hb_em, hv_em, my_T, my_F, ne_eq, not_false_eq_true, nz_c, S0_c, S0_lw, S0_h, isHold_36, hc, hc.d, hc.l, hc.d.l, nz_1, nz_2, nz_3, nz_4, nz_5, nz_6, nz_7, nz_8, S0_1]
set_option maxRecDepth 100000 in
set_option maxHeartbeats 400000 in
theorem q_Light_colourOn {c : Nat} (hc : isChap c) {v1 : Int32} {v2 : Int32} {N : hn} : f_Light_colourOn S0 19 v1 v2 (N.1, N.2, rT c) = em c (F_Light_colourOn c v1 v2 N) := by
  unfold f_Light_colourOn F_Light_colourOn
  try simp only [my_ite, my_hg]
  simp only [hl_n', hl_wI', hl_wL', hl_cp', em_s', em_n', em_my, em_l', em_b, em_v, emv_s', emv_n', emv_my, emv_l', emv_b, emv_v, hb_em, hv_em, my_T, my_F, ne_eq, not_false_eq_true, nz_c, S0_c, S0_lw, S0_h, isHold_36, hc, hc.d, hc.l, hc.d.l, nz_1, nz_2, nz_3, nz_4, nz_5, nz_6, nz_7, nz_8, S0_19, q_Chapel_colourOf hc, q_Light_panesOn hc, rT_19_0]
set_option maxRecDepth 100000 in
set_option maxHeartbeats 400000 in
theorem r_Ps_candlesAt_1 {c : Nat} (hc : isChap c) {k21 : Nat → Int32 → Int32 → Int32 → hm_M → Option (Int32 × hm_M)} {K21 : Int32 → Int32 → Int32 → hn → Option (Int32 × hn)} (hk21 : ∀ (v2 : Int32) (v3 : Int32) (v4 : Int32) (N : hn), k21 1 v2 v3 v4 (N.1, N.2, rT c) = em c (K21 v2 v3 v4 N)) {v2 : Int32} {v3 : Int32} {v4 : Int32} {N : hn} : b_Ps_candlesAt_1 S0 k21 1 v2 v3 v4 (N.1, N.2, rT c) = em c (B_Ps_candlesAt_1 c K21 v2 v3 v4 N) := by
  unfold b_Ps_candlesAt_1 B_Ps_candlesAt_1
  try simp only [my_ite, my_hg]
  simp only [hl_n', hl_wI', hl_wL', hl_cp', em_s', em_n', em_my, em_l', em_b, em_v, emv_s', emv_n', emv_my, emv_l', emv_b, emv_v, hb_em, hv_em, my_T, my_F, ne_eq, not_false_eq_true, nz_c, S0_c, S0_lw, S0_h, isHold_36, hc, hc.d, hc.l, hc.d.l, nz_1, nz_2, nz_3, nz_4, nz_5, nz_6, nz_7, nz_8, S0_1, S0_19, S0_36, ib_h3, ib_h4, q_Hold_lit hc, q_Light_colourOn hc, q_Light_turnTo hc, rT_1_1, rT_1_2, rT_h3, rT_h4, hk21]
theorem q_Ps_candlesAt_1 {c : Nat} (hc : isChap c) : ∀ (n : Nat) (v2 : Int32) (v3 : Int32) (v4 : Int32) (N : hn), f_Ps_candlesAt_1 S0 n 1 v2 v3 v4 (N.1, N.2, rT c) = em c (F_Ps_candlesAt_1 c n v2 v3 v4 N) := by
  intro n
  induction n with
  | zero => intros; rfl
  | succ n ih => intro v2 v3 v4 N ; exact r_Ps_candlesAt_1 hc  ih
set_option maxRecDepth 100000 in
set_option maxHeartbeats 400000 in
theorem q_Ps_candlesAt {c : Nat} (hc : isChap c) {v1 : Int32} {N : hn} : f_Ps_candlesAt S0 1 v1 (N.1, N.2, rT c) = em c (F_Ps_candlesAt c v1 N) := by
  unfold f_Ps_candlesAt F_Ps_candlesAt
  try simp only [my_ite, my_hg]
  simp only [hl_n', hl_wI', hl_wL', hl_cp', em_s', em_n', em_my, em_l', em_b, em_v, emv_s', emv_n', emv_my, emv_l', emv_b, emv_v, hb_em, hv_em, my_T, my_F, ne_eq, not_false_eq_true, nz_c, S0_c, S0_lw, S0_h, isHold_36, hc, hc.d, hc.l, hc.d.l, nz_1, nz_2, nz_3, nz_4, nz_5, nz_6, nz_7, nz_8, S0_1, S0_19, S0_36, ib_h3, ib_h4, q_Hold_lit hc, q_Light_colourOn hc, q_Light_turnTo hc, rT_1_1, rT_1_2, rT_h3, rT_h4, q_Ps_candlesAt_1 hc]
set_option maxRecDepth 100000 in
set_option maxHeartbeats 400000 in
theorem q_Ps_candles {c : Nat} (hc : isChap c) {v1 : Int32} {v2 : Int32} {N : hn} : f_Ps_candles S0 1 v1 v2 (N.1, N.2, rT c) = em c (F_Ps_candles c v1 v2 N) := by
  unfold f_Ps_candles F_Ps_candles
  try simp only [my_ite, my_hg]
  simp only [hl_n', hl_wI', hl_wL', hl_cp', em_s', em_n', em_my, em_l', em_b, em_v, emv_s', emv_n', emv_my, emv_l', emv_b, emv_v, hb_em, hv_em, my_T, my_F, ne_eq, not_false_eq_true, nz_c, S0_c, S0_lw, S0_h, isHold_36, hc, hc.d, hc.l, hc.d.l, nz_1, nz_2, nz_3, nz_4, nz_5, nz_6, nz_7, nz_8, S0_1, q_Ps_candlesAt hc, q_Ps_isTime hc, q_Ps_timeOf hc]
