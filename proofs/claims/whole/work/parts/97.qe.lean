/-! the resolved layer is right: texts of laws, the class -/
set_option maxRecDepth 100000 in
set_option maxHeartbeats 400000 in
theorem r_Reader_readProduct_1 {c : Nat} (hc : isChap c) {rp : Nat → Int32 → hm_M → Option (Int32 × hm_M)} {RP : Int32 → hn → Option (Int32 × hn)} (hp : ∀ (v : Int32) (N : hn), rp 2 v (N.1, N.2, rT c) = em c (RP v N)) {k8 : Nat → Int32 → Int32 → Int32 → hm_M → Option (Int32 × hm_M)} {K8 : Int32 → Int32 → Int32 → hn → Option (Int32 × hn)} (hk8 : ∀ (v1 : Int32) (v2 : Int32) (v3 : Int32) (N : hn), k8 2 v1 v2 v3 (N.1, N.2, rT c) = em c (K8 v1 v2 v3 N)) {v1 : Int32} {v2 : Int32} {v3 : Int32} {N : hn} : b_Reader_readProduct_1 S0 rp k8 2 v1 v2 v3 (N.1, N.2, rT c) = em c (B_Reader_readProduct_1 c RP K8 v1 v2 v3 N) := by
  unfold b_Reader_readProduct_1 B_Reader_readProduct_1
  try simp only [my_ite, my_hg]
  simp only [hl_n', hl_wI', hl_wL', hl_cp', em_s', em_n', em_my, em_l', em_b, em_v, emv_s', emv_n', emv_my, emv_l', emv_b, emv_v, hb_em, hv_em, my_T, my_F, ne_eq, not_false_eq_true, nz_c, S0_c, S0_lw, S0_h, isHold_36, hc, hc.d, hc.l, hc.d.l, nz_1, nz_2, nz_3, nz_4, nz_5, nz_6, nz_7, nz_8, S0_2, S0_3, rT_2_0, rT_2_1, rT_c12, q_Tape_next hc, q_Laws_add hc, hp, hp, hk8]
theorem q_Reader_readProduct_1 {c : Nat} (hc : isChap c) {rp : Nat → Int32 → hm_M → Option (Int32 × hm_M)} {RP : Int32 → hn → Option (Int32 × hn)} (hp : ∀ (v : Int32) (N : hn), rp 2 v (N.1, N.2, rT c) = em c (RP v N)) : ∀ (n : Nat) (v1 : Int32) (v2 : Int32) (v3 : Int32) (N : hn), f_Reader_readProduct_1 S0 rp n 2 v1 v2 v3 (N.1, N.2, rT c) = em c (F_Reader_readProduct_1 c RP n v1 v2 v3 N) := by
  intro n
  induction n with
  | zero => intros; rfl
  | succ n ih => intro v1 v2 v3 N; exact r_Reader_readProduct_1 hc hp ih
set_option maxRecDepth 100000 in
set_option maxHeartbeats 400000 in
theorem q_Reader_readProduct {c : Nat} (hc : isChap c) {rp : Nat → Int32 → hm_M → Option (Int32 × hm_M)} {RP : Int32 → hn → Option (Int32 × hn)} (hp : ∀ (v : Int32) (N : hn), rp 2 v (N.1, N.2, rT c) = em c (RP v N)) {v1 : Int32} {N : hn} : f_Reader_readProduct S0 rp 2 v1 (N.1, N.2, rT c) = em c (F_Reader_readProduct c RP v1 N) := by
  unfold f_Reader_readProduct F_Reader_readProduct
  try simp only [my_ite, my_hg]
  simp only [hl_n', hl_wI', hl_wL', hl_cp', em_s', em_n', em_my, em_l', em_b, em_v, emv_s', emv_n', emv_my, emv_l', emv_b, emv_v, hb_em, hv_em, my_T, my_F, ne_eq, not_false_eq_true, nz_c, S0_c, S0_lw, S0_h, isHold_36, hc, hc.d, hc.l, hc.d.l, nz_1, nz_2, nz_3, nz_4, nz_5, nz_6, nz_7, nz_8, S0_2, S0_3, rT_2_0, rT_2_1, rT_c12, q_Tape_next hc, q_Laws_add hc, hp, hp, q_Reader_readProduct_1 hc hp]
set_option maxRecDepth 100000 in
set_option maxHeartbeats 400000 in
theorem q_Reader_readSum_2 {c : Nat} (hc : isChap c) {rp : Nat → Int32 → hm_M → Option (Int32 × hm_M)} {RP : Int32 → hn → Option (Int32 × hn)} (hp : ∀ (v : Int32) (N : hn), rp 2 v (N.1, N.2, rT c) = em c (RP v N)) {k8 : Nat → Int32 → Int32 → Int32 → hm_M → Option (Int32 × hm_M)} {K8 : Int32 → Int32 → Int32 → hn → Option (Int32 × hn)} (hk8 : ∀ (v1 : Int32) (v2 : Int32) (v3 : Int32) (N : hn), k8 2 v1 v2 v3 (N.1, N.2, rT c) = em c (K8 v1 v2 v3 N)) {v1 : Int32} {v3 : Int32} {N : hn} : b_Reader_readSum_2 S0 rp k8 2 v1 v3 (N.1, N.2, rT c) = em c (B_Reader_readSum_2 c RP K8 v1 v3 N) := by
  unfold b_Reader_readSum_2 B_Reader_readSum_2
  try simp only [my_ite, my_hg]
  simp only [hl_n', hl_wI', hl_wL', hl_cp', em_s', em_n', em_my, em_l', em_b, em_v, emv_s', emv_n', emv_my, emv_l', emv_b, emv_v, hb_em, hv_em, my_T, my_F, ne_eq, not_false_eq_true, nz_c, S0_c, S0_lw, S0_h, isHold_36, hc, hc.d, hc.l, hc.d.l, nz_1, nz_2, nz_3, nz_4, nz_5, nz_6, nz_7, nz_8, S0_2, S0_3, rT_2_0, rT_2_1, rT_c12, q_Tape_next hc, q_Laws_add hc, hp, q_Reader_readProduct hc hp, hk8]
set_option maxRecDepth 100000 in
set_option maxHeartbeats 400000 in
theorem r_Reader_readSum_1 {c : Nat} (hc : isChap c) {rp : Nat → Int32 → hm_M → Option (Int32 × hm_M)} {RP : Int32 → hn → Option (Int32 × hn)} (hp : ∀ (v : Int32) (N : hn), rp 2 v (N.1, N.2, rT c) = em c (RP v N)) {k8 : Nat → Int32 → Int32 → Int32 → hm_M → Option (Int32 × hm_M)} {K8 : Int32 → Int32 → Int32 → hn → Option (Int32 × hn)} (hk8 : ∀ (v1 : Int32) (v2 : Int32) (v3 : Int32) (N : hn), k8 2 v1 v2 v3 (N.1, N.2, rT c) = em c (K8 v1 v2 v3 N)) {v1 : Int32} {v2 : Int32} {v3 : Int32} {N : hn} : b_Reader_readSum_1 S0 rp k8 2 v1 v2 v3 (N.1, N.2, rT c) = em c (B_Reader_readSum_1 c RP K8 v1 v2 v3 N) := by
  unfold b_Reader_readSum_1 B_Reader_readSum_1
  try simp only [my_ite, my_hg]
  simp only [hl_n', hl_wI', hl_wL', hl_cp', em_s', em_n', em_my, em_l', em_b, em_v, emv_s', emv_n', emv_my, emv_l', emv_b, emv_v, hb_em, hv_em, my_T, my_F, ne_eq, not_false_eq_true, nz_c, S0_c, S0_lw, S0_h, isHold_36, hc, hc.d, hc.l, hc.d.l, nz_1, nz_2, nz_3, nz_4, nz_5, nz_6, nz_7, nz_8, S0_2, S0_3, rT_2_0, rT_2_1, rT_c12, q_Tape_next hc, q_Laws_add hc, hp, q_Reader_readProduct hc hp, hk8, q_Reader_readSum_2 hc hp hk8]
theorem q_Reader_readSum_1 {c : Nat} (hc : isChap c) {rp : Nat → Int32 → hm_M → Option (Int32 × hm_M)} {RP : Int32 → hn → Option (Int32 × hn)} (hp : ∀ (v : Int32) (N : hn), rp 2 v (N.1, N.2, rT c) = em c (RP v N)) : ∀ (n : Nat) (v1 : Int32) (v2 : Int32) (v3 : Int32) (N : hn), f_Reader_readSum_1 S0 rp n 2 v1 v2 v3 (N.1, N.2, rT c) = em c (F_Reader_readSum_1 c RP n v1 v2 v3 N) := by
  intro n
  induction n with
  | zero => intros; rfl
  | succ n ih => intro v1 v2 v3 N; exact r_Reader_readSum_1 hc hp ih
set_option maxRecDepth 100000 in
set_option maxHeartbeats 400000 in
theorem q_Reader_readSum {c : Nat} (hc : isChap c) {rp : Nat → Int32 → hm_M → Option (Int32 × hm_M)} {RP : Int32 → hn → Option (Int32 × hn)} (hp : ∀ (v : Int32) (N : hn), rp 2 v (N.1, N.2, rT c) = em c (RP v N)) {v1 : Int32} {N : hn} : f_Reader_readSum S0 rp 2 v1 (N.1, N.2, rT c) = em c (F_Reader_readSum c RP v1 N) := by
  unfold f_Reader_readSum F_Reader_readSum
  try simp only [my_ite, my_hg]
  simp only [hl_n', hl_wI', hl_wL', hl_cp', em_s', em_n', em_my, em_l', em_b, em_v, emv_s', emv_n', emv_my, emv_l', emv_b, emv_v, hb_em, hv_em, my_T, my_F, ne_eq, not_false_eq_true, nz_c, S0_c, S0_lw, S0_h, isHold_36, hc, hc.d, hc.l, hc.d.l, nz_1, nz_2, nz_3, nz_4, nz_5, nz_6, nz_7, nz_8, S0_2, S0_3, rT_2_0, rT_2_1, rT_c12, q_Tape_next hc, q_Laws_add hc, hp, q_Reader_readProduct hc hp, q_Reader_readSum_1 hc hp]
set_option maxRecDepth 100000 in
set_option maxHeartbeats 400000 in
theorem q_Reader_readTest_1 {c : Nat} (hc : isChap c) {rp : Nat → Int32 → hm_M → Option (Int32 × hm_M)} {RP : Int32 → hn → Option (Int32 × hn)} (hp : ∀ (v : Int32) (N : hn), rp 2 v (N.1, N.2, rT c) = em c (RP v N)) {v1 : Int32} {N : hn} : b_Reader_readTest_1 S0 rp 2 v1 (N.1, N.2, rT c) = em c (B_Reader_readTest_1 c RP v1 N) := by
  unfold b_Reader_readTest_1 B_Reader_readTest_1
  try simp only [my_ite, my_hg]
  simp only [hl_n', hl_wI', hl_wL', hl_cp', em_s', em_n', em_my, em_l', em_b, em_v, emv_s', emv_n', emv_my, emv_l', emv_b, emv_v, hb_em, hv_em, my_T, my_F, ne_eq, not_false_eq_true, nz_c, S0_c, S0_lw, S0_h, isHold_36, hc, hc.d, hc.l, hc.d.l, nz_1, nz_2, nz_3, nz_4, nz_5, nz_6, nz_7, nz_8, S0_2, S0_3, rT_2_0, rT_2_1, rT_c12, q_Tape_next hc, q_Laws_add hc, hp, q_Reader_readSum hc hp]
set_option maxRecDepth 100000 in
set_option maxHeartbeats 400000 in
theorem q_Reader_readTest {c : Nat} (hc : isChap c) {rp : Nat → Int32 → hm_M → Option (Int32 × hm_M)} {RP : Int32 → hn → Option (Int32 × hn)} (hp : ∀ (v : Int32) (N : hn), rp 2 v (N.1, N.2, rT c) = em c (RP v N)) {v1 : Int32} {N : hn} : f_Reader_readTest S0 rp 2 v1 (N.1, N.2, rT c) = em c (F_Reader_readTest c RP v1 N) := by
  unfold f_Reader_readTest F_Reader_readTest
  try simp only [my_ite, my_hg]
  simp only [hl_n', hl_wI', hl_wL', hl_cp', em_s', em_n', em_my, em_l', em_b, em_v, emv_s', emv_n', emv_my, emv_l', emv_b, emv_v, hb_em, hv_em, my_T, my_F, ne_eq, not_false_eq_true, nz_c, S0_c, S0_lw, S0_h, isHold_36, hc, hc.d, hc.l, hc.d.l, nz_1, nz_2, nz_3, nz_4, nz_5, nz_6, nz_7, nz_8, S0_2, S0_3, rT_2_0, rT_2_1, rT_c12, q_Tape_next hc, q_Laws_add hc, hp, q_Reader_readSum hc hp, q_Reader_readTest_1 hc hp]
set_option maxRecDepth 100000 in
set_option maxHeartbeats 400000 in
theorem q_Reader_readE_2 {c : Nat} (hc : isChap c) {rp : Nat → Int32 → hm_M → Option (Int32 × hm_M)} {RP : Int32 → hn → Option (Int32 × hn)} (hp : ∀ (v : Int32) (N : hn), rp 2 v (N.1, N.2, rT c) = em c (RP v N)) {k8 : Nat → Int32 → Int32 → Int32 → hm_M → Option (Int32 × hm_M)} {K8 : Int32 → Int32 → Int32 → hn → Option (Int32 × hn)} (hk8 : ∀ (v1 : Int32) (v2 : Int32) (v3 : Int32) (N : hn), k8 2 v1 v2 v3 (N.1, N.2, rT c) = em c (K8 v1 v2 v3 N)) {v1 : Int32} {v3 : Int32} {N : hn} : b_Reader_readE_2 S0 rp k8 2 v1 v3 (N.1, N.2, rT c) = em c (B_Reader_readE_2 c RP K8 v1 v3 N) := by
  unfold b_Reader_readE_2 B_Reader_readE_2
  try simp only [my_ite, my_hg]
  simp only [hl_n', hl_wI', hl_wL', hl_cp', em_s', em_n', em_my, em_l', em_b, em_v, emv_s', emv_n', emv_my, emv_l', emv_b, emv_v, hb_em, hv_em, my_T, my_F, ne_eq, not_false_eq_true, nz_c, S0_c, S0_lw, S0_h, isHold_36, hc, hc.d, hc.l, hc.d.l, nz_1, nz_2, nz_3, nz_4, nz_5, nz_6, nz_7, nz_8, S0_2, S0_3, rT_2_0, rT_2_1, rT_c12, q_Tape_next hc, q_Laws_add hc, hp, q_Reader_readTest hc hp, hk8]
set_option maxRecDepth 100000 in
set_option maxHeartbeats 400000 in
theorem r_Reader_readE_1 {c : Nat} (hc : isChap c) {rp : Nat → Int32 → hm_M → Option (Int32 × hm_M)} {RP : Int32 → hn → Option (Int32 × hn)} (hp : ∀ (v : Int32) (N : hn), rp 2 v (N.1, N.2, rT c) = em c (RP v N)) {k8 : Nat → Int32 → Int32 → Int32 → hm_M → Option (Int32 × hm_M)} {K8 : Int32 → Int32 → Int32 → hn → Option (Int32 × hn)} (hk8 : ∀ (v1 : Int32) (v2 : Int32) (v3 : Int32) (N : hn), k8 2 v1 v2 v3 (N.1, N.2, rT c) = em c (K8 v1 v2 v3 N)) {v1 : Int32} {v2 : Int32} {v3 : Int32} {N : hn} : b_Reader_readE_1 S0 rp k8 2 v1 v2 v3 (N.1, N.2, rT c) = em c (B_Reader_readE_1 c RP K8 v1 v2 v3 N) := by
  unfold b_Reader_readE_1 B_Reader_readE_1
  try simp only [my_ite, my_hg]
  simp only [hl_n', hl_wI', hl_wL', hl_cp', em_s', em_n', em_my, em_l', em_b, em_v, emv_s', emv_n', emv_my, emv_l', emv_b, emv_v, hb_em, hv_em, my_T, my_F, ne_eq, not_false_eq_true, nz_c, S0_c, S0_lw, S0_h, isHold_36, hc, hc.d, hc.l, hc.d.l, nz_1, nz_2, nz_3, nz_4, nz_5, nz_6, nz_7, nz_8, S0_2, S0_3, rT_2_0, rT_2_1, rT_c12, q_Tape_next hc, q_Laws_add hc, hp, q_Reader_readTest hc hp, hk8, q_Reader_readE_2 hc hp hk8]
theorem q_Reader_readE_1 {c : Nat} (hc : isChap c) {rp : Nat → Int32 → hm_M → Option (Int32 × hm_M)} {RP : Int32 → hn → Option (Int32 × hn)} (hp : ∀ (v : Int32) (N : hn), rp 2 v (N.1, N.2, rT c) = em c (RP v N)) : ∀ (n : Nat) (v1 : Int32) (v2 : Int32) (v3 : Int32) (N : hn), f_Reader_readE_1 S0 rp n 2 v1 v2 v3 (N.1, N.2, rT c) = em c (F_Reader_readE_1 c RP n v1 v2 v3 N) := by
  intro n
  induction n with
  | zero => intros; rfl
  | succ n ih => intro v1 v2 v3 N; exact r_Reader_readE_1 hc hp ih
set_option maxRecDepth 100000 in
set_option maxHeartbeats 400000 in
theorem q_Reader_readE {c : Nat} (hc : isChap c) {rp : Nat → Int32 → hm_M → Option (Int32 × hm_M)} {RP : Int32 → hn → Option (Int32 × hn)} (hp : ∀ (v : Int32) (N : hn), rp 2 v (N.1, N.2, rT c) = em c (RP v N)) {v1 : Int32} {N : hn} : f_Reader_readE S0 rp 2 v1 (N.1, N.2, rT c) = em c (F_Reader_readE c RP v1 N) := by
  unfold f_Reader_readE F_Reader_readE
  try simp only [my_ite, my_hg]
  simp only [hl_n', hl_wI', hl_wL', hl_cp', em_s', em_n', em_my, em_l', em_b, em_v, emv_s', emv_n', emv_my, emv_l', emv_b, emv_v, hb_em, hv_em, my_T, my_F, ne_eq, not_false_eq_true, nz_c, S0_c, S0_lw, S0_h, isHold_36, hc, hc.d, hc.l, hc.d.l, nz_1, nz_2, nz_3, nz_4, nz_5, nz_6, nz_7, nz_8, S0_2, S0_3, rT_2_0, rT_2_1, rT_c12, q_Tape_next hc, q_Laws_add hc, hp, q_Reader_readTest hc hp, q_Reader_readE_1 hc hp]
set_option maxRecDepth 100000 in
set_option maxHeartbeats 400000 in
theorem q_Reader_readPart_3 {c : Nat} (hc : isChap c) {rp : Nat → Int32 → hm_M → Option (Int32 × hm_M)} {RP : Int32 → hn → Option (Int32 × hn)} (hp : ∀ (v : Int32) (N : hn), rp 2 v (N.1, N.2, rT c) = em c (RP v N)) {v4 : Int32} {s0 : Int32} {s1 : Nat} (hs1 : isLaws s1) {N : hn} : b_Reader_readPart_3 S0 rp v4 s0 s1 (N.1, N.2, rT c) = em c (B_Reader_readPart_3 c RP v4 s0 s1 N) := by
  unfold b_Reader_readPart_3 B_Reader_readPart_3
  try simp only [my_ite, my_hg]
  simp only [hl_n', hl_wI', hl_wL', hl_cp', em_s', em_n', em_my, em_l', em_b, em_v, emv_s', emv_n', emv_my, emv_l', emv_b, emv_v, hb_em, hv_em, my_T, my_F, ne_eq, not_false_eq_true, nz_c, S0_c, S0_lw, S0_h, isHold_36, hc, hc.d, hc.l, hc.d.l, nz_1, nz_2, nz_3, nz_4, nz_5, nz_6, nz_7, nz_8, S0_2, S0_3, rT_2_0, rT_2_1, rT_c12, q_Tape_next hc, q_Laws_add hc, hp, hs1]
set_option maxRecDepth 100000 in
set_option maxHeartbeats 400000 in
theorem q_Reader_readPart_2 {c : Nat} (hc : isChap c) {rp : Nat → Int32 → hm_M → Option (Int32 × hm_M)} {RP : Int32 → hn → Option (Int32 × hn)} (hp : ∀ (v : Int32) (N : hn), rp 2 v (N.1, N.2, rT c) = em c (RP v N)) {v2 : Int32} {v3 : Int32} {s0 : Int32} {N : hn} : b_Reader_readPart_2 S0 rp 2 v2 v3 s0 (N.1, N.2, rT c) = em c (B_Reader_readPart_2 c RP v2 v3 s0 N) := by
  unfold b_Reader_readPart_2 B_Reader_readPart_2
  try simp only [my_ite, my_hg]
  simp only [hl_n', hl_wI', hl_wL', hl_cp', em_s', em_n', em_my, em_l', em_b, em_v, emv_s', emv_n', emv_my, emv_l', emv_b, emv_v, hb_em, hv_em, my_T, my_F, ne_eq, not_false_eq_true, nz_c, S0_c, S0_lw, S0_h, isHold_36, hc, hc.d, hc.l, hc.d.l, nz_1, nz_2, nz_3, nz_4, nz_5, nz_6, nz_7, nz_8, S0_2, S0_3, rT_2_0, rT_2_1, rT_c12, q_Tape_next hc, q_Laws_add hc, hp, q_Reader_readPart_3 hc hp]
set_option maxRecDepth 100000 in
set_option maxHeartbeats 400000 in
theorem q_Reader_readPart_1 {c : Nat} (hc : isChap c) {rp : Nat → Int32 → hm_M → Option (Int32 × hm_M)} {RP : Int32 → hn → Option (Int32 × hn)} (hp : ∀ (v : Int32) (N : hn), rp 2 v (N.1, N.2, rT c) = em c (RP v N)) {v4 : Int32} {N : hn} : b_Reader_readPart_1 S0 rp v4 (N.1, N.2, rT c) = em c (B_Reader_readPart_1 c RP v4 N) := by
  unfold b_Reader_readPart_1 B_Reader_readPart_1
  try simp only [my_ite, my_hg]
  simp only [hl_n', hl_wI', hl_wL', hl_cp', em_s', em_n', em_my, em_l', em_b, em_v, emv_s', emv_n', emv_my, emv_l', emv_b, emv_v, hb_em, hv_em, my_T, my_F, ne_eq, not_false_eq_true, nz_c, S0_c, S0_lw, S0_h, isHold_36, hc, hc.d, hc.l, hc.d.l, nz_1, nz_2, nz_3, nz_4, nz_5, nz_6, nz_7, nz_8, S0_2, S0_3, rT_2_0, rT_2_1, rT_c12, q_Tape_next hc, q_Laws_add hc, hp]
set_option maxRecDepth 100000 in
set_option maxHeartbeats 400000 in
theorem r_Reader_readPart {c : Nat} (hc : isChap c) {rp : Nat → Int32 → hm_M → Option (Int32 × hm_M)} {RP : Int32 → hn → Option (Int32 × hn)} (hp : ∀ (v : Int32) (N : hn), rp 2 v (N.1, N.2, rT c) = em c (RP v N)) {v1 : Int32} {N : hn} : e_Reader_readPart S0 rp 2 v1 (N.1, N.2, rT c) = em c (E_Reader_readPart c RP v1 N) := by
  unfold e_Reader_readPart E_Reader_readPart
  try simp only [my_ite, my_hg]
  simp only [hl_n', hl_wI', hl_wL', hl_cp', em_s', em_n', em_my, em_l', em_b, em_v, emv_s', emv_n', emv_my, emv_l', emv_b, emv_v, hb_em, hv_em, my_T, my_F, ne_eq, not_false_eq_true, nz_c, S0_c, S0_lw, S0_h, isHold_36, hc, hc.d, hc.l, hc.d.l, nz_1, nz_2, nz_3, nz_4, nz_5, nz_6, nz_7, nz_8, S0_2, S0_3, rT_2_0, rT_2_1, rT_c12, q_Tape_next hc, q_Laws_add hc, hp, q_Reader_startsPart hc, q_Reader_readE hc hp, q_Reader_readPart_1 hc hp, q_Reader_readPart_2 hc hp]
theorem q_Reader_readPart {c : Nat} (hc : isChap c) : ∀ (n : Nat) (v1 : Int32) (N : hn), f_Reader_readPart S0 n 2 v1 (N.1, N.2, rT c) = em c (F_Reader_readPart c n v1 N) := by
  intro n
  induction n with
  | zero => intros; rfl
  | succ n ih => intro v1 N; exact r_Reader_readPart hc ih
