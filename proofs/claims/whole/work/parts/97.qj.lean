/-! the resolved layer is right: texts of laws, the reference -/
set_option maxRecDepth 100000 in
set_option maxHeartbeats 400000 in
theorem r_Md_products_1 {c : Nat} (hc : isChap c) {rp : Nat → Int32 → hm_M → Option hm_M} {RP : Int32 → hn → Option hn} (hp : ∀ (v : Int32) (N : hn), rp 76 v (N.1, N.2, rT c) = emv c (RP v N)) {k5 : Nat → Int32 → hm_M → Option hm_M} {K5 : Int32 → hn → Option hn} (hk5 : ∀ (v1 : Int32) (N : hn), k5 76 v1 (N.1, N.2, rT c) = emv c (K5 v1 N)) {v1 : Int32} {N : hn} : b_Md_products_1 S0 rp k5 76 v1 (N.1, N.2, rT c) = emv c (B_Md_products_1 c RP K5 v1 N) := by
  unfold b_Md_products_1 B_Md_products_1
  try simp only [my_ite, my_hg]
  simp only [hl_n', hl_wI', hl_wL', hl_cp', em_s', em_n', em_my, em_l', em_b, em_v, emv_s', emv_n', emv_my, emv_l', emv_b, emv_v, hb_em, hv_em, my_T, my_F, ne_eq, not_false_eq_true, nz_c, S0_c, S0_lw, S0_h, isHold_36, hc, hc.d, hc.l, hc.d.l, nz_1, nz_2, nz_3, nz_4, nz_5, nz_6, nz_7, nz_8, S0_76, ib_78, ib_79, ib_80, rT_76_4, rT_76_5, rT_76_6, q_Md_isSign hc, q_Md_hasSign hc, q_Md_emit hc, q_Md_isWord hc, hp, hp, hk5]
theorem q_Md_products_1 {c : Nat} (hc : isChap c) {rp : Nat → Int32 → hm_M → Option hm_M} {RP : Int32 → hn → Option hn} (hp : ∀ (v : Int32) (N : hn), rp 76 v (N.1, N.2, rT c) = emv c (RP v N)) : ∀ (n : Nat) (v1 : Int32) (N : hn), f_Md_products_1 S0 rp n 76 v1 (N.1, N.2, rT c) = emv c (F_Md_products_1 c RP n v1 N) := by
  intro n
  induction n with
  | zero => intros; rfl
  | succ n ih => intro v1 N; exact r_Md_products_1 hc hp ih
set_option maxRecDepth 100000 in
set_option maxHeartbeats 400000 in
theorem q_Md_products {c : Nat} (hc : isChap c) {rp : Nat → Int32 → hm_M → Option hm_M} {RP : Int32 → hn → Option hn} (hp : ∀ (v : Int32) (N : hn), rp 76 v (N.1, N.2, rT c) = emv c (RP v N)) {v1 : Int32} {N : hn} : f_Md_products S0 rp 76 v1 (N.1, N.2, rT c) = emv c (F_Md_products c RP v1 N) := by
  unfold f_Md_products F_Md_products
  try simp only [my_ite, my_hg]
  simp only [hl_n', hl_wI', hl_wL', hl_cp', em_s', em_n', em_my, em_l', em_b, em_v, emv_s', emv_n', emv_my, emv_l', emv_b, emv_v, hb_em, hv_em, my_T, my_F, ne_eq, not_false_eq_true, nz_c, S0_c, S0_lw, S0_h, isHold_36, hc, hc.d, hc.l, hc.d.l, nz_1, nz_2, nz_3, nz_4, nz_5, nz_6, nz_7, nz_8, S0_76, ib_78, ib_79, ib_80, rT_76_4, rT_76_5, rT_76_6, q_Md_isSign hc, q_Md_hasSign hc, q_Md_emit hc, q_Md_isWord hc, hp, hp, q_Md_products_1 hc hp]
set_option maxRecDepth 100000 in
set_option maxHeartbeats 400000 in
theorem q_Md_sums_3 {c : Nat} (hc : isChap c) {rp : Nat → Int32 → hm_M → Option hm_M} {RP : Int32 → hn → Option hn} (hp : ∀ (v : Int32) (N : hn), rp 76 v (N.1, N.2, rT c) = emv c (RP v N)) {k5 : Nat → Int32 → hm_M → Option hm_M} {K5 : Int32 → hn → Option hn} (hk5 : ∀ (v1 : Int32) (N : hn), k5 76 v1 (N.1, N.2, rT c) = emv c (K5 v1 N)) {v1 : Int32} {s0 : Int32} {N : hn} : b_Md_sums_3 S0 rp k5 76 v1 s0 76 (N.1, N.2, rT c) = emv c (B_Md_sums_3 c RP K5 v1 s0 N) := by
  unfold b_Md_sums_3 B_Md_sums_3
  try simp only [my_ite, my_hg]
  simp only [hl_n', hl_wI', hl_wL', hl_cp', em_s', em_n', em_my, em_l', em_b, em_v, emv_s', emv_n', emv_my, emv_l', emv_b, emv_v, hb_em, hv_em, my_T, my_F, ne_eq, not_false_eq_true, nz_c, S0_c, S0_lw, S0_h, isHold_36, hc, hc.d, hc.l, hc.d.l, nz_1, nz_2, nz_3, nz_4, nz_5, nz_6, nz_7, nz_8, S0_76, ib_78, ib_79, ib_80, rT_76_4, rT_76_5, rT_76_6, q_Md_isSign hc, q_Md_hasSign hc, q_Md_emit hc, q_Md_isWord hc, hp, q_Md_products hc hp, hk5]
set_option maxRecDepth 100000 in
set_option maxHeartbeats 400000 in
theorem q_Md_sums_2 {c : Nat} (hc : isChap c) {rp : Nat → Int32 → hm_M → Option hm_M} {RP : Int32 → hn → Option hn} (hp : ∀ (v : Int32) (N : hn), rp 76 v (N.1, N.2, rT c) = emv c (RP v N)) {k5 : Nat → Int32 → hm_M → Option hm_M} {K5 : Int32 → hn → Option hn} (hk5 : ∀ (v1 : Int32) (N : hn), k5 76 v1 (N.1, N.2, rT c) = emv c (K5 v1 N)) {v1 : Int32} {N : hn} : b_Md_sums_2 S0 rp k5 76 v1 (N.1, N.2, rT c) = emv c (B_Md_sums_2 c RP K5 v1 N) := by
  unfold b_Md_sums_2 B_Md_sums_2
  try simp only [my_ite, my_hg]
  simp only [hl_n', hl_wI', hl_wL', hl_cp', em_s', em_n', em_my, em_l', em_b, em_v, emv_s', emv_n', emv_my, emv_l', emv_b, emv_v, hb_em, hv_em, my_T, my_F, ne_eq, not_false_eq_true, nz_c, S0_c, S0_lw, S0_h, isHold_36, hc, hc.d, hc.l, hc.d.l, nz_1, nz_2, nz_3, nz_4, nz_5, nz_6, nz_7, nz_8, S0_76, ib_78, ib_79, ib_80, rT_76_4, rT_76_5, rT_76_6, q_Md_isSign hc, q_Md_hasSign hc, q_Md_emit hc, q_Md_isWord hc, hp, q_Md_products hc hp, hk5, q_Md_sums_3 hc hp hk5]
set_option maxRecDepth 100000 in
set_option maxHeartbeats 400000 in
theorem r_Md_sums_1 {c : Nat} (hc : isChap c) {rp : Nat → Int32 → hm_M → Option hm_M} {RP : Int32 → hn → Option hn} (hp : ∀ (v : Int32) (N : hn), rp 76 v (N.1, N.2, rT c) = emv c (RP v N)) {k5 : Nat → Int32 → hm_M → Option hm_M} {K5 : Int32 → hn → Option hn} (hk5 : ∀ (v1 : Int32) (N : hn), k5 76 v1 (N.1, N.2, rT c) = emv c (K5 v1 N)) {v1 : Int32} {N : hn} : b_Md_sums_1 S0 rp k5 76 v1 (N.1, N.2, rT c) = emv c (B_Md_sums_1 c RP K5 v1 N) := by
  unfold b_Md_sums_1 B_Md_sums_1
  try simp only [my_ite, my_hg]
  simp only [hl_n', hl_wI', hl_wL', hl_cp', em_s', em_n', em_my, em_l', em_b, em_v, emv_s', emv_n', emv_my, emv_l', emv_b, emv_v, hb_em, hv_em, my_T, my_F, ne_eq, not_false_eq_true, nz_c, S0_c, S0_lw, S0_h, isHold_36, hc, hc.d, hc.l, hc.d.l, nz_1, nz_2, nz_3, nz_4, nz_5, nz_6, nz_7, nz_8, S0_76, ib_78, ib_79, ib_80, rT_76_4, rT_76_5, rT_76_6, q_Md_isSign hc, q_Md_hasSign hc, q_Md_emit hc, q_Md_isWord hc, hp, q_Md_products hc hp, hk5, q_Md_sums_2 hc hp hk5]
theorem q_Md_sums_1 {c : Nat} (hc : isChap c) {rp : Nat → Int32 → hm_M → Option hm_M} {RP : Int32 → hn → Option hn} (hp : ∀ (v : Int32) (N : hn), rp 76 v (N.1, N.2, rT c) = emv c (RP v N)) : ∀ (n : Nat) (v1 : Int32) (N : hn), f_Md_sums_1 S0 rp n 76 v1 (N.1, N.2, rT c) = emv c (F_Md_sums_1 c RP n v1 N) := by
  intro n
  induction n with
  | zero => intros; rfl
  | succ n ih => intro v1 N; exact r_Md_sums_1 hc hp ih
set_option maxRecDepth 100000 in
set_option maxHeartbeats 400000 in
theorem q_Md_sums {c : Nat} (hc : isChap c) {rp : Nat → Int32 → hm_M → Option hm_M} {RP : Int32 → hn → Option hn} (hp : ∀ (v : Int32) (N : hn), rp 76 v (N.1, N.2, rT c) = emv c (RP v N)) {v1 : Int32} {N : hn} : f_Md_sums S0 rp 76 v1 (N.1, N.2, rT c) = emv c (F_Md_sums c RP v1 N) := by
  unfold f_Md_sums F_Md_sums
  try simp only [my_ite, my_hg]
  simp only [hl_n', hl_wI', hl_wL', hl_cp', em_s', em_n', em_my, em_l', em_b, em_v, emv_s', emv_n', emv_my, emv_l', emv_b, emv_v, hb_em, hv_em, my_T, my_F, ne_eq, not_false_eq_true, nz_c, S0_c, S0_lw, S0_h, isHold_36, hc, hc.d, hc.l, hc.d.l, nz_1, nz_2, nz_3, nz_4, nz_5, nz_6, nz_7, nz_8, S0_76, ib_78, ib_79, ib_80, rT_76_4, rT_76_5, rT_76_6, q_Md_isSign hc, q_Md_hasSign hc, q_Md_emit hc, q_Md_isWord hc, hp, q_Md_products hc hp, q_Md_sums_1 hc hp]
set_option maxRecDepth 100000 in
set_option maxHeartbeats 400000 in
theorem q_Md_test_2 {c : Nat} (hc : isChap c) {rp : Nat → Int32 → hm_M → Option hm_M} {RP : Int32 → hn → Option hn} (hp : ∀ (v : Int32) (N : hn), rp 76 v (N.1, N.2, rT c) = emv c (RP v N)) {s0 : Int32} {N : hn} : b_Md_test_2 S0 rp s0 76 (N.1, N.2, rT c) = emv c (B_Md_test_2 c RP s0 N) := by
  unfold b_Md_test_2 B_Md_test_2
  try simp only [my_ite, my_hg]
  simp only [hl_n', hl_wI', hl_wL', hl_cp', em_s', em_n', em_my, em_l', em_b, em_v, emv_s', emv_n', emv_my, emv_l', emv_b, emv_v, hb_em, hv_em, my_T, my_F, ne_eq, not_false_eq_true, nz_c, S0_c, S0_lw, S0_h, isHold_36, hc, hc.d, hc.l, hc.d.l, nz_1, nz_2, nz_3, nz_4, nz_5, nz_6, nz_7, nz_8, S0_76, ib_78, ib_79, ib_80, rT_76_4, rT_76_5, rT_76_6, q_Md_isSign hc, q_Md_hasSign hc, q_Md_emit hc, q_Md_isWord hc, hp]
set_option maxRecDepth 100000 in
set_option maxHeartbeats 400000 in
theorem q_Md_test_1 {c : Nat} (hc : isChap c) {rp : Nat → Int32 → hm_M → Option hm_M} {RP : Int32 → hn → Option hn} (hp : ∀ (v : Int32) (N : hn), rp 76 v (N.1, N.2, rT c) = emv c (RP v N)) {v1 : Int32} {v2 : Int32} {N : hn} : b_Md_test_1 S0 rp 76 v1 v2 (N.1, N.2, rT c) = emv c (B_Md_test_1 c RP v1 v2 N) := by
  unfold b_Md_test_1 B_Md_test_1
  try simp only [my_ite, my_hg]
  simp only [hl_n', hl_wI', hl_wL', hl_cp', em_s', em_n', em_my, em_l', em_b, em_v, emv_s', emv_n', emv_my, emv_l', emv_b, emv_v, hb_em, hv_em, my_T, my_F, ne_eq, not_false_eq_true, nz_c, S0_c, S0_lw, S0_h, isHold_36, hc, hc.d, hc.l, hc.d.l, nz_1, nz_2, nz_3, nz_4, nz_5, nz_6, nz_7, nz_8, S0_76, ib_78, ib_79, ib_80, rT_76_4, rT_76_5, rT_76_6, q_Md_isSign hc, q_Md_hasSign hc, q_Md_emit hc, q_Md_isWord hc, hp, q_Md_sums hc hp, q_Md_test_2 hc hp]
set_option maxRecDepth 100000 in
set_option maxHeartbeats 400000 in
theorem q_Md_test {c : Nat} (hc : isChap c) {rp : Nat → Int32 → hm_M → Option hm_M} {RP : Int32 → hn → Option hn} (hp : ∀ (v : Int32) (N : hn), rp 76 v (N.1, N.2, rT c) = emv c (RP v N)) {v1 : Int32} {N : hn} : f_Md_test S0 rp 76 v1 (N.1, N.2, rT c) = emv c (F_Md_test c RP v1 N) := by
  unfold f_Md_test F_Md_test
  try simp only [my_ite, my_hg]
  simp only [hl_n', hl_wI', hl_wL', hl_cp', em_s', em_n', em_my, em_l', em_b, em_v, emv_s', emv_n', emv_my, emv_l', emv_b, emv_v, hb_em, hv_em, my_T, my_F, ne_eq, not_false_eq_true, nz_c, S0_c, S0_lw, S0_h, isHold_36, hc, hc.d, hc.l, hc.d.l, nz_1, nz_2, nz_3, nz_4, nz_5, nz_6, nz_7, nz_8, S0_76, ib_78, ib_79, ib_80, rT_76_4, rT_76_5, rT_76_6, q_Md_isSign hc, q_Md_hasSign hc, q_Md_emit hc, q_Md_isWord hc, hp, q_Md_sums hc hp, q_Md_test_1 hc hp]
set_option maxRecDepth 100000 in
set_option maxHeartbeats 400000 in
theorem q_Md_all_3 {c : Nat} (hc : isChap c) {rp : Nat → Int32 → hm_M → Option hm_M} {RP : Int32 → hn → Option hn} (hp : ∀ (v : Int32) (N : hn), rp 76 v (N.1, N.2, rT c) = emv c (RP v N)) {k5 : Nat → Int32 → hm_M → Option hm_M} {K5 : Int32 → hn → Option hn} (hk5 : ∀ (v1 : Int32) (N : hn), k5 76 v1 (N.1, N.2, rT c) = emv c (K5 v1 N)) {v1 : Int32} {s0 : Int32} {N : hn} : b_Md_all_3 S0 rp k5 76 v1 s0 76 (N.1, N.2, rT c) = emv c (B_Md_all_3 c RP K5 v1 s0 N) := by
  unfold b_Md_all_3 B_Md_all_3
  try simp only [my_ite, my_hg]
  simp only [hl_n', hl_wI', hl_wL', hl_cp', em_s', em_n', em_my, em_l', em_b, em_v, emv_s', emv_n', emv_my, emv_l', emv_b, emv_v, hb_em, hv_em, my_T, my_F, ne_eq, not_false_eq_true, nz_c, S0_c, S0_lw, S0_h, isHold_36, hc, hc.d, hc.l, hc.d.l, nz_1, nz_2, nz_3, nz_4, nz_5, nz_6, nz_7, nz_8, S0_76, ib_78, ib_79, ib_80, rT_76_4, rT_76_5, rT_76_6, q_Md_isSign hc, q_Md_hasSign hc, q_Md_emit hc, q_Md_isWord hc, hp, q_Md_test hc hp, hk5]
set_option maxRecDepth 100000 in
set_option maxHeartbeats 400000 in
theorem q_Md_all_2 {c : Nat} (hc : isChap c) {rp : Nat → Int32 → hm_M → Option hm_M} {RP : Int32 → hn → Option hn} (hp : ∀ (v : Int32) (N : hn), rp 76 v (N.1, N.2, rT c) = emv c (RP v N)) {k5 : Nat → Int32 → hm_M → Option hm_M} {K5 : Int32 → hn → Option hn} (hk5 : ∀ (v1 : Int32) (N : hn), k5 76 v1 (N.1, N.2, rT c) = emv c (K5 v1 N)) {v1 : Int32} {N : hn} : b_Md_all_2 S0 rp k5 76 v1 (N.1, N.2, rT c) = emv c (B_Md_all_2 c RP K5 v1 N) := by
  unfold b_Md_all_2 B_Md_all_2
  try simp only [my_ite, my_hg]
  simp only [hl_n', hl_wI', hl_wL', hl_cp', em_s', em_n', em_my, em_l', em_b, em_v, emv_s', emv_n', emv_my, emv_l', emv_b, emv_v, hb_em, hv_em, my_T, my_F, ne_eq, not_false_eq_true, nz_c, S0_c, S0_lw, S0_h, isHold_36, hc, hc.d, hc.l, hc.d.l, nz_1, nz_2, nz_3, nz_4, nz_5, nz_6, nz_7, nz_8, S0_76, ib_78, ib_79, ib_80, rT_76_4, rT_76_5, rT_76_6, q_Md_isSign hc, q_Md_hasSign hc, q_Md_emit hc, q_Md_isWord hc, hp, q_Md_test hc hp, hk5, q_Md_all_3 hc hp hk5]
set_option maxRecDepth 100000 in
set_option maxHeartbeats 400000 in
theorem r_Md_all_1 {c : Nat} (hc : isChap c) {rp : Nat → Int32 → hm_M → Option hm_M} {RP : Int32 → hn → Option hn} (hp : ∀ (v : Int32) (N : hn), rp 76 v (N.1, N.2, rT c) = emv c (RP v N)) {k5 : Nat → Int32 → hm_M → Option hm_M} {K5 : Int32 → hn → Option hn} (hk5 : ∀ (v1 : Int32) (N : hn), k5 76 v1 (N.1, N.2, rT c) = emv c (K5 v1 N)) {v1 : Int32} {N : hn} : b_Md_all_1 S0 rp k5 76 v1 (N.1, N.2, rT c) = emv c (B_Md_all_1 c RP K5 v1 N) := by
  unfold b_Md_all_1 B_Md_all_1
  try simp only [my_ite, my_hg]
  simp only [hl_n', hl_wI', hl_wL', hl_cp', em_s', em_n', em_my, em_l', em_b, em_v, emv_s', emv_n', emv_my, emv_l', emv_b, emv_v, hb_em, hv_em, my_T, my_F, ne_eq, not_false_eq_true, nz_c, S0_c, S0_lw, S0_h, isHold_36, hc, hc.d, hc.l, hc.d.l, nz_1, nz_2, nz_3, nz_4, nz_5, nz_6, nz_7, nz_8, S0_76, ib_78, ib_79, ib_80, rT_76_4, rT_76_5, rT_76_6, q_Md_isSign hc, q_Md_hasSign hc, q_Md_emit hc, q_Md_isWord hc, hp, q_Md_test hc hp, hk5, q_Md_all_2 hc hp hk5]
theorem q_Md_all_1 {c : Nat} (hc : isChap c) {rp : Nat → Int32 → hm_M → Option hm_M} {RP : Int32 → hn → Option hn} (hp : ∀ (v : Int32) (N : hn), rp 76 v (N.1, N.2, rT c) = emv c (RP v N)) : ∀ (n : Nat) (v1 : Int32) (N : hn), f_Md_all_1 S0 rp n 76 v1 (N.1, N.2, rT c) = emv c (F_Md_all_1 c RP n v1 N) := by
  intro n
  induction n with
  | zero => intros; rfl
  | succ n ih => intro v1 N; exact r_Md_all_1 hc hp ih
set_option maxRecDepth 100000 in
set_option maxHeartbeats 400000 in
theorem q_Md_all {c : Nat} (hc : isChap c) {rp : Nat → Int32 → hm_M → Option hm_M} {RP : Int32 → hn → Option hn} (hp : ∀ (v : Int32) (N : hn), rp 76 v (N.1, N.2, rT c) = emv c (RP v N)) {v1 : Int32} {N : hn} : f_Md_all S0 rp 76 v1 (N.1, N.2, rT c) = emv c (F_Md_all c RP v1 N) := by
  unfold f_Md_all F_Md_all
  try simp only [my_ite, my_hg]
  simp only [hl_n', hl_wI', hl_wL', hl_cp', em_s', em_n', em_my, em_l', em_b, em_v, emv_s', emv_n', emv_my, emv_l', emv_b, emv_v, hb_em, hv_em, my_T, my_F, ne_eq, not_false_eq_true, nz_c, S0_c, S0_lw, S0_h, isHold_36, hc, hc.d, hc.l, hc.d.l, nz_1, nz_2, nz_3, nz_4, nz_5, nz_6, nz_7, nz_8, S0_76, ib_78, ib_79, ib_80, rT_76_4, rT_76_5, rT_76_6, q_Md_isSign hc, q_Md_hasSign hc, q_Md_emit hc, q_Md_isWord hc, hp, q_Md_test hc hp, q_Md_all_1 hc hp]
set_option maxRecDepth 100000 in
set_option maxHeartbeats 400000 in
theorem q_Md_takePart_5 {c : Nat} (hc : isChap c) {rp : Nat → Int32 → hm_M → Option hm_M} {RP : Int32 → hn → Option hn} (hp : ∀ (v : Int32) (N : hn), rp 76 v (N.1, N.2, rT c) = emv c (RP v N)) {s0 : Int32} {s1 : Int32} {N : hn} : b_Md_takePart_5 S0 rp 76 s0 s1 76 (N.1, N.2, rT c) = emv c (B_Md_takePart_5 c RP s0 s1 N) := by
  unfold b_Md_takePart_5 B_Md_takePart_5
  try simp only [my_ite, my_hg]
  simp only [hl_n', hl_wI', hl_wL', hl_cp', em_s', em_n', em_my, em_l', em_b, em_v, emv_s', emv_n', emv_my, emv_l', emv_b, emv_v, hb_em, hv_em, my_T, my_F, ne_eq, not_false_eq_true, nz_c, S0_c, S0_lw, S0_h, isHold_36, hc, hc.d, hc.l, hc.d.l, nz_1, nz_2, nz_3, nz_4, nz_5, nz_6, nz_7, nz_8, S0_76, ib_78, ib_79, ib_80, rT_76_4, rT_76_5, rT_76_6, q_Md_isSign hc, q_Md_hasSign hc, q_Md_emit hc, q_Md_isWord hc, hp]
set_option maxRecDepth 100000 in
set_option maxHeartbeats 400000 in
theorem q_Md_takePart_4 {c : Nat} (hc : isChap c) {rp : Nat → Int32 → hm_M → Option hm_M} {RP : Int32 → hn → Option hn} (hp : ∀ (v : Int32) (N : hn), rp 76 v (N.1, N.2, rT c) = emv c (RP v N)) {v2 : Int32} {v3 : Int32} {s0 : Int32} {N : hn} : b_Md_takePart_4 S0 rp 76 v2 v3 s0 76 (N.1, N.2, rT c) = emv c (B_Md_takePart_4 c RP v2 v3 s0 N) := by
  unfold b_Md_takePart_4 B_Md_takePart_4
  try simp only [my_ite, my_hg]
  simp only [hl_n', hl_wI', hl_wL', hl_cp', em_s', em_n', em_my, em_l', em_b, em_v, emv_s', emv_n', emv_my, emv_l', emv_b, emv_v, hb_em, hv_em, my_T, my_F, ne_eq, not_false_eq_true, nz_c, S0_c, S0_lw, S0_h, isHold_36, hc, hc.d, hc.l, hc.d.l, nz_1, nz_2, nz_3, nz_4, nz_5, nz_6, nz_7, nz_8, S0_76, ib_78, ib_79, ib_80, rT_76_4, rT_76_5, rT_76_6, q_Md_isSign hc, q_Md_hasSign hc, q_Md_emit hc, q_Md_isWord hc, hp, q_Md_takePart_5 hc hp]
set_option maxRecDepth 100000 in
set_option maxHeartbeats 400000 in
theorem q_Md_takePart_3 {c : Nat} (hc : isChap c) {rp : Nat → Int32 → hm_M → Option hm_M} {RP : Int32 → hn → Option hn} (hp : ∀ (v : Int32) (N : hn), rp 76 v (N.1, N.2, rT c) = emv c (RP v N)) {v1 : Int32} {v2 : Int32} {v3 : Int32} {N : hn} : b_Md_takePart_3 S0 rp 76 v1 v2 v3 (N.1, N.2, rT c) = emv c (B_Md_takePart_3 c RP v1 v2 v3 N) := by
  unfold b_Md_takePart_3 B_Md_takePart_3
  try simp only [my_ite, my_hg]
  simp only [hl_n', hl_wI', hl_wL', hl_cp', em_s', em_n', em_my, em_l', em_b, em_v, emv_s', emv_n', emv_my, emv_l', emv_b, emv_v, hb_em, hv_em, my_T, my_F, ne_eq, not_false_eq_true, nz_c, S0_c, S0_lw, S0_h, isHold_36, hc, hc.d, hc.l, hc.d.l, nz_1, nz_2, nz_3, nz_4, nz_5, nz_6, nz_7, nz_8, S0_76, ib_78, ib_79, ib_80, rT_76_4, rT_76_5, rT_76_6, q_Md_isSign hc, q_Md_hasSign hc, q_Md_emit hc, q_Md_isWord hc, hp, q_Md_hasWord hc, q_Md_takeSign hc, q_Md_all hc hp, q_Md_takePart_4 hc hp]
set_option maxRecDepth 100000 in
set_option maxHeartbeats 400000 in
theorem q_Md_takePart_2 {c : Nat} (hc : isChap c) {rp : Nat → Int32 → hm_M → Option hm_M} {RP : Int32 → hn → Option hn} (hp : ∀ (v : Int32) (N : hn), rp 76 v (N.1, N.2, rT c) = emv c (RP v N)) {v1 : Int32} {v2 : Int32} {v3 : Int32} {N : hn} : b_Md_takePart_2 S0 rp 76 v1 v2 v3 (N.1, N.2, rT c) = emv c (B_Md_takePart_2 c RP v1 v2 v3 N) := by
  unfold b_Md_takePart_2 B_Md_takePart_2
  try simp only [my_ite, my_hg]
  simp only [hl_n', hl_wI', hl_wL', hl_cp', em_s', em_n', em_my, em_l', em_b, em_v, emv_s', emv_n', emv_my, emv_l', emv_b, emv_v, hb_em, hv_em, my_T, my_F, ne_eq, not_false_eq_true, nz_c, S0_c, S0_lw, S0_h, isHold_36, hc, hc.d, hc.l, hc.d.l, nz_1, nz_2, nz_3, nz_4, nz_5, nz_6, nz_7, nz_8, S0_76, ib_78, ib_79, ib_80, rT_76_4, rT_76_5, rT_76_6, q_Md_isSign hc, q_Md_hasSign hc, q_Md_emit hc, q_Md_isWord hc, hp, q_Md_wrong hc, q_Md_takePart_3 hc hp]
set_option maxRecDepth 100000 in
set_option maxHeartbeats 400000 in
theorem q_Md_takePart_1 {c : Nat} (hc : isChap c) {rp : Nat → Int32 → hm_M → Option hm_M} {RP : Int32 → hn → Option hn} (hp : ∀ (v : Int32) (N : hn), rp 76 v (N.1, N.2, rT c) = emv c (RP v N)) {v1 : Int32} {s0 : Int32} {N : hn} : b_Md_takePart_1 S0 rp 76 v1 s0 (N.1, N.2, rT c) = emv c (B_Md_takePart_1 c RP v1 s0 N) := by
  unfold b_Md_takePart_1 B_Md_takePart_1
  try simp only [my_ite, my_hg]
  simp only [hl_n', hl_wI', hl_wL', hl_cp', em_s', em_n', em_my, em_l', em_b, em_v, emv_s', emv_n', emv_my, emv_l', emv_b, emv_v, hb_em, hv_em, my_T, my_F, ne_eq, not_false_eq_true, nz_c, S0_c, S0_lw, S0_h, isHold_36, hc, hc.d, hc.l, hc.d.l, nz_1, nz_2, nz_3, nz_4, nz_5, nz_6, nz_7, nz_8, S0_76, ib_78, ib_79, ib_80, rT_76_4, rT_76_5, rT_76_6, q_Md_isSign hc, q_Md_hasSign hc, q_Md_emit hc, q_Md_isWord hc, hp, q_Md_wrong hc, q_Md_factHere hc, q_Md_takePart_2 hc hp, q_Md_takePart_3 hc hp]
set_option maxRecDepth 100000 in
set_option maxHeartbeats 400000 in
theorem r_Md_takePart {c : Nat} (hc : isChap c) {rp : Nat → Int32 → hm_M → Option hm_M} {RP : Int32 → hn → Option hn} (hp : ∀ (v : Int32) (N : hn), rp 76 v (N.1, N.2, rT c) = emv c (RP v N)) {v1 : Int32} {N : hn} : e_Md_takePart S0 rp 76 v1 (N.1, N.2, rT c) = emv c (E_Md_takePart c RP v1 N) := by
  unfold e_Md_takePart E_Md_takePart
  try simp only [my_ite, my_hg]
  simp only [hl_n', hl_wI', hl_wL', hl_cp', em_s', em_n', em_my, em_l', em_b, em_v, emv_s', emv_n', emv_my, emv_l', emv_b, emv_v, hb_em, hv_em, my_T, my_F, ne_eq, not_false_eq_true, nz_c, S0_c, S0_lw, S0_h, isHold_36, hc, hc.d, hc.l, hc.d.l, nz_1, nz_2, nz_3, nz_4, nz_5, nz_6, nz_7, nz_8, S0_76, ib_78, ib_79, ib_80, rT_76_4, rT_76_5, rT_76_6, q_Md_isSign hc, q_Md_hasSign hc, q_Md_emit hc, q_Md_isWord hc, hp, q_Md_takePart_1 hc hp]
theorem q_Md_takePart {c : Nat} (hc : isChap c) : ∀ (n : Nat) (v1 : Int32) (N : hn), f_Md_takePart S0 n 76 v1 (N.1, N.2, rT c) = emv c (F_Md_takePart c n v1 N) := by
  intro n
  induction n with
  | zero => intros; rfl
  | succ n ih => intro v1 N; exact r_Md_takePart hc ih
