/-! the resolved layer is right (by program) -/
set_option maxRecDepth 100000 in
set_option maxHeartbeats 400000 in
theorem q_Reader_readLaw_1 {c : Nat} (hc : isChap c) {v1 : Int32} {N : hn} : b_Reader_readLaw_1 S0 2 v1 (N.1, N.2, rT c) = em c (B_Reader_readLaw_1 c v1 N) := by
  unfold b_Reader_readLaw_1 B_Reader_readLaw_1
  try simp only [my_ite, my_hg]
  simp only [hl_n', hl_wI', hl_wL', hl_cp', em_s', em_n', em_my, em_l', em_b, em_v, emv_s', emv_n', emv_my, emv_l', emv_b, emv_v, hb_em, hv_em, my_T, my_F, ne_eq, not_false_eq_true, nz_c, S0_c, S0_lw, S0_h, isHold_36, hc, hc.d, hc.l, hc.d.l, nz_1, nz_2, nz_3, nz_4, nz_5, nz_6, nz_7, nz_8, S0_2, S0_3, q_Laws_close hc, q_Laws_open hc, q_Reader_readE hc (q_Reader_readPart hc hD), q_Reader_take hc, q_Reader_takeOnce hc, rT_2_0, rT_2_1, rT_c12]
set_option maxRecDepth 100000 in
set_option maxHeartbeats 400000 in
theorem q_Reader_readLaw {c : Nat} (hc : isChap c) {N : hn} : f_Reader_readLaw S0 2 (N.1, N.2, rT c) = em c (F_Reader_readLaw c N) := by
  unfold f_Reader_readLaw F_Reader_readLaw
  try simp only [my_ite, my_hg]
  simp only [hl_n', hl_wI', hl_wL', hl_cp', em_s', em_n', em_my, em_l', em_b, em_v, emv_s', emv_n', emv_my, emv_l', emv_b, emv_v, hb_em, hv_em, my_T, my_F, ne_eq, not_false_eq_true, nz_c, S0_c, S0_lw, S0_h, isHold_36, hc, hc.d, hc.l, hc.d.l, nz_1, nz_2, nz_3, nz_4, nz_5, nz_6, nz_7, nz_8, S0_2, S0_3, q_Laws_close hc, q_Laws_open hc, q_Reader_readE hc (q_Reader_readPart hc hD), q_Reader_take hc, q_Reader_takeOnce hc, rT_2_0, rT_2_1, rT_c12, q_Reader_readLaw_1 hc]
set_option maxRecDepth 100000 in
set_option maxHeartbeats 400000 in
theorem q_Reader_readCloud_1 {c : Nat} (hc : isChap c) {v1 : Int32} {N : hn} : b_Reader_readCloud_1 S0 2 v1 (N.1, N.2, rT c) = em c (B_Reader_readCloud_1 c v1 N) := by
  unfold b_Reader_readCloud_1 B_Reader_readCloud_1
  try simp only [my_ite, my_hg]
  simp only [hl_n', hl_wI', hl_wL', hl_cp', em_s', em_n', em_my, em_l', em_b, em_v, emv_s', emv_n', emv_my, emv_l', emv_b, emv_v, hb_em, hv_em, my_T, my_F, ne_eq, not_false_eq_true, nz_c, S0_c, S0_lw, S0_h, isHold_36, hc, hc.d, hc.l, hc.d.l, nz_1, nz_2, nz_3, nz_4, nz_5, nz_6, nz_7, nz_8, S0_2, q_Reader_take hc, q_Reader_takeNumber hc, q_Reader_takeOnce hc, rT_2_1]
set_option maxRecDepth 100000 in
set_option maxHeartbeats 400000 in
theorem q_Reader_readCloud {c : Nat} (hc : isChap c) {N : hn} : f_Reader_readCloud S0 2 (N.1, N.2, rT c) = em c (F_Reader_readCloud c N) := by
  unfold f_Reader_readCloud F_Reader_readCloud
  try simp only [my_ite, my_hg]
  simp only [hl_n', hl_wI', hl_wL', hl_cp', em_s', em_n', em_my, em_l', em_b, em_v, emv_s', emv_n', emv_my, emv_l', emv_b, emv_v, hb_em, hv_em, my_T, my_F, ne_eq, not_false_eq_true, nz_c, S0_c, S0_lw, S0_h, isHold_36, hc, hc.d, hc.l, hc.d.l, nz_1, nz_2, nz_3, nz_4, nz_5, nz_6, nz_7, nz_8, S0_2, q_Reader_take hc, q_Reader_takeNumber hc, q_Reader_takeOnce hc, rT_2_1, q_Reader_readCloud_1 hc]
set_option maxRecDepth 100000 in
set_option maxHeartbeats 400000 in
theorem q_Reader_readLine_1 {c : Nat} (hc : isChap c) {N : hn} : b_Reader_readLine_1 S0 2 (N.1, N.2, rT c) = em c (B_Reader_readLine_1 c N) := by
  unfold b_Reader_readLine_1 B_Reader_readLine_1
  try simp only [my_ite, my_hg]
  simp only [hl_n', hl_wI', hl_wL', hl_cp', em_s', em_n', em_my, em_l', em_b, em_v, emv_s', emv_n', emv_my, emv_l', emv_b, emv_v, hb_em, hv_em, my_T, my_F, ne_eq, not_false_eq_true, nz_c, S0_c, S0_lw, S0_h, isHold_36, hc, hc.d, hc.l, hc.d.l, nz_1, nz_2, nz_3, nz_4, nz_5, nz_6, nz_7, nz_8, S0_2, S0_3, q_Reader_readCloud hc, q_Reader_readFloor hc, q_Reader_readGuild hc, q_Reader_readLaw hc, q_Reader_readPane hc, rT_2_0]
set_option maxRecDepth 100000 in
set_option maxHeartbeats 400000 in
theorem q_Reader_readLine {c : Nat} (hc : isChap c) {N : hn} : f_Reader_readLine S0 2 (N.1, N.2, rT c) = em c (F_Reader_readLine c N) := by
  unfold f_Reader_readLine F_Reader_readLine
  try simp only [my_ite, my_hg]
  simp only [hl_n', hl_wI', hl_wL', hl_cp', em_s', em_n', em_my, em_l', em_b, em_v, emv_s', emv_n', emv_my, emv_l', emv_b, emv_v, hb_em, hv_em, my_T, my_F, ne_eq, not_false_eq_true, nz_c, S0_c, S0_lw, S0_h, isHold_36, hc, hc.d, hc.l, hc.d.l, nz_1, nz_2, nz_3, nz_4, nz_5, nz_6, nz_7, nz_8, S0_2, S0_3, q_Reader_readCloud hc, q_Reader_readFloor hc, q_Reader_readGuild hc, q_Reader_readLaw hc, q_Reader_readPane hc, rT_2_0, q_Reader_readLine_1 hc]
set_option maxRecDepth 100000 in
set_option maxHeartbeats 400000 in
theorem q_Reader_readAll_2 {c : Nat} (hc : isChap c) {v1 : Int32} {N : hn} : b_Reader_readAll_2 S0 2 v1 (N.1, N.2, rT c) = em c (B_Reader_readAll_2 c v1 N) := by
  unfold b_Reader_readAll_2 B_Reader_readAll_2
  try simp only [my_ite, my_hg]
  simp only [hl_n', hl_wI', hl_wL', hl_cp', em_s', em_n', em_my, em_l', em_b, em_v, emv_s', emv_n', emv_my, emv_l', emv_b, emv_v, hb_em, hv_em, my_T, my_F, ne_eq, not_false_eq_true, nz_c, S0_c, S0_lw, S0_h, isHold_36, hc, hc.d, hc.l, hc.d.l, nz_1, nz_2, nz_3, nz_4, nz_5, nz_6, nz_7, nz_8, S0_2, S0_3, q_Chapel_begin hc, q_Reader_readLine hc, q_Tape_rewind hc, rT_2_0, rT_2_1]
set_option maxRecDepth 100000 in
set_option maxHeartbeats 400000 in
theorem r_Reader_readAll_1 {c : Nat} (hc : isChap c) {k23 : Nat → Int32 → Int32 → hm_M → Option (Int32 × hm_M)} {K23 : Int32 → Int32 → hn → Option (Int32 × hn)} (hk23 : ∀ (v1 : Int32) (v2 : Int32) (N : hn), k23 2 v1 v2 (N.1, N.2, rT c) = em c (K23 v1 v2 N)) {v1 : Int32} {v2 : Int32} {N : hn} : b_Reader_readAll_1 S0 k23 2 v1 v2 (N.1, N.2, rT c) = em c (B_Reader_readAll_1 c K23 v1 v2 N) := by
  unfold b_Reader_readAll_1 B_Reader_readAll_1
  try simp only [my_ite, my_hg]
  simp only [hl_n', hl_wI', hl_wL', hl_cp', em_s', em_n', em_my, em_l', em_b, em_v, emv_s', emv_n', emv_my, emv_l', emv_b, emv_v, hb_em, hv_em, my_T, my_F, ne_eq, not_false_eq_true, nz_c, S0_c, S0_lw, S0_h, isHold_36, hc, hc.d, hc.l, hc.d.l, nz_1, nz_2, nz_3, nz_4, nz_5, nz_6, nz_7, nz_8, S0_2, S0_3, q_Chapel_begin hc, q_Reader_readLine hc, q_Tape_rewind hc, rT_2_0, rT_2_1, hk23, q_Reader_readAll_2 hc]
theorem q_Reader_readAll_1 {c : Nat} (hc : isChap c) : ∀ (n : Nat) (v1 : Int32) (v2 : Int32) (N : hn), f_Reader_readAll_1 S0 n 2 v1 v2 (N.1, N.2, rT c) = em c (F_Reader_readAll_1 c n v1 v2 N) := by
  intro n
  induction n with
  | zero => intros; rfl
  | succ n ih => intro v1 v2 N ; exact r_Reader_readAll_1 hc  ih
set_option maxRecDepth 100000 in
set_option maxHeartbeats 400000 in
theorem q_Reader_readAll {c : Nat} (hc : isChap c) {N : hn} : f_Reader_readAll S0 2 (N.1, N.2, rT c) = em c (F_Reader_readAll c N) := by
  unfold f_Reader_readAll F_Reader_readAll
  try simp only [my_ite, my_hg]
  simp only [hl_n', hl_wI', hl_wL', hl_cp', em_s', em_n', em_my, em_l', em_b, em_v, emv_s', emv_n', emv_my, emv_l', emv_b, emv_v, hb_em, hv_em, my_T, my_F, ne_eq, not_false_eq_true, nz_c, S0_c, S0_lw, S0_h, isHold_36, hc, hc.d, hc.l, hc.d.l, nz_1, nz_2, nz_3, nz_4, nz_5, nz_6, nz_7, nz_8, S0_2, S0_3, q_Chapel_begin hc, q_Reader_readLine hc, q_Tape_rewind hc, rT_2_0, rT_2_1, q_Reader_readAll_1 hc, q_Reader_readAll_2 hc]
set_option maxRecDepth 100000 in
set_option maxHeartbeats 400000 in
theorem q_Hold_begin_2 {c : Nat} (hc : isChap c) {k20 : Nat → Nat → Int32 → hm_M → Option hm_M} {K20 : Nat → Nat → Int32 → hn → Option hn} (hk20 : ∀ (v0 : Nat) (v1 : Nat) (v2 : Int32) (N : hn), isHold v0 → isChap v1 → k20 v0 v1 v2 (N.1, N.2, rT c) = emv c (K20 v0 v1 v2 N)) {v0 : Nat} {v1 : Nat} {v2 : Int32} {s0 : Int32} {s1 : Int32} {s2 : Nat} (hv0 : isHold v0) (hv1 : isChap v1) {N : hn} : b_Hold_begin_2 S0 k20 v0 v1 v2 s0 s1 s2 (N.1, N.2, rT c) = emv c (B_Hold_begin_2 c K20 v0 v1 v2 s0 s1 s2 N) := by
  unfold b_Hold_begin_2 B_Hold_begin_2
  try simp only [my_ite, my_hg]
  simp only [hl_n', hl_wI', hl_wL', hl_cp', em_s', em_n', em_my, em_l', em_b, em_v, emv_s', emv_n', emv_my, emv_l', emv_b, emv_v, hb_em, hv_em, my_T, my_F, ne_eq, not_false_eq_true, nz_c, S0_c, S0_lw, S0_h, isHold_36, hc, hc.d, hc.l, hc.d.l, nz_1, nz_2, nz_3, nz_4, nz_5, nz_6, nz_7, nz_8, hv0, hv1, hv1.l, ib_c10, ib_h0, rT_c10, rT_h0, hk20]
set_option maxRecDepth 100000 in
set_option maxHeartbeats 400000 in
theorem r_Hold_begin_1 {c : Nat} (hc : isChap c) {k20 : Nat → Nat → Int32 → hm_M → Option hm_M} {K20 : Nat → Nat → Int32 → hn → Option hn} (hk20 : ∀ (v0 : Nat) (v1 : Nat) (v2 : Int32) (N : hn), isHold v0 → isChap v1 → k20 v0 v1 v2 (N.1, N.2, rT c) = emv c (K20 v0 v1 v2 N)) {v0 : Nat} {v1 : Nat} {v2 : Int32} (hv0 : isHold v0) (hv1 : isChap v1) {N : hn} : b_Hold_begin_1 S0 k20 v0 v1 v2 (N.1, N.2, rT c) = emv c (B_Hold_begin_1 c K20 v0 v1 v2 N) := by
  unfold b_Hold_begin_1 B_Hold_begin_1
  try simp only [my_ite, my_hg]
  simp only [hl_n', hl_wI', hl_wL', hl_cp', em_s', em_n', em_my, em_l', em_b, em_v, emv_s', emv_n', emv_my, emv_l', emv_b, emv_v, hb_em, hv_em, my_T, my_F, ne_eq, not_false_eq_true, nz_c, S0_c, S0_lw, S0_h, isHold_36, hc, hc.d, hc.l, hc.d.l, nz_1, nz_2, nz_3, nz_4, nz_5, nz_6, nz_7, nz_8, hv0, hv1, hv1.l, ib_c10, ib_h0, rT_c10, rT_h0, hk20, q_Hold_begin_2 hc hk20]
theorem q_Hold_begin_1 {c : Nat} (hc : isChap c) : ∀ (n : Nat) (v0 : Nat) (v1 : Nat) (v2 : Int32) (N : hn), isHold v0 → isChap v1 → f_Hold_begin_1 S0 n v0 v1 v2 (N.1, N.2, rT c) = emv c (F_Hold_begin_1 c n v0 v1 v2 N) := by
  intro n
  induction n with
  | zero => intros; rfl
  | succ n ih => intro v0 v1 v2 N hv0 hv1; exact r_Hold_begin_1 hc  ih hv0 hv1
set_option maxRecDepth 100000 in
set_option maxHeartbeats 400000 in
theorem q_Hold_begin {c : Nat} (hc : isChap c) {v0 : Nat} {v1 : Nat} (hv0 : isHold v0) (hv1 : isChap v1) {N : hn} : f_Hold_begin S0 v0 v1 (N.1, N.2, rT c) = emv c (F_Hold_begin c v0 v1 N) := by
  unfold f_Hold_begin F_Hold_begin
  try simp only [my_ite, my_hg]
  simp only [hl_n', hl_wI', hl_wL', hl_cp', em_s', em_n', em_my, em_l', em_b, em_v, emv_s', emv_n', emv_my, emv_l', emv_b, emv_v, hb_em, hv_em, my_T, my_F, ne_eq, not_false_eq_true, nz_c, S0_c, S0_lw, S0_h, isHold_36, hc, hc.d, hc.l, hc.d.l, nz_1, nz_2, nz_3, nz_4, nz_5, nz_6, nz_7, nz_8, hv0, hv1, hv1.l, ib_c10, ib_h0, rT_c10, rT_h0, q_Hold_begin_1 hc]
set_option maxRecDepth 100000 in
set_option maxHeartbeats 400000 in
theorem q_History_forget {c : Nat} (hc : isChap c) {N : hn} : f_History_forget S0 40 (N.1, N.2, rT c) = emv c (F_History_forget c N) := by
  unfold f_History_forget F_History_forget
  try simp only [my_ite, my_hg]
  simp only [hl_n', hl_wI', hl_wL', hl_cp', em_s', em_n', em_my, em_l', em_b, em_v, emv_s', emv_n', emv_my, emv_l', emv_b, emv_v, hb_em, hv_em, my_T, my_F, ne_eq, not_false_eq_true, nz_c, S0_c, S0_lw, S0_h, isHold_36, hc, hc.d, hc.l, hc.d.l, nz_1, nz_2, nz_3, nz_4, nz_5, nz_6, nz_7, nz_8, S0_40]
set_option maxRecDepth 100000 in
set_option maxHeartbeats 400000 in
theorem q_Rents_forget {c : Nat} (hc : isChap c) {N : hn} : f_Rents_forget S0 43 (N.1, N.2, rT c) = emv c (F_Rents_forget c N) := by
  unfold f_Rents_forget F_Rents_forget
  try simp only [my_ite, my_hg]
  simp only [hl_n', hl_wI', hl_wL', hl_cp', em_s', em_n', em_my, em_l', em_b, em_v, emv_s', emv_n', emv_my, emv_l', emv_b, emv_v, hb_em, hv_em, my_T, my_F, ne_eq, not_false_eq_true, nz_c, S0_c, S0_lw, S0_h, isHold_36, hc, hc.d, hc.l, hc.d.l, nz_1, nz_2, nz_3, nz_4, nz_5, nz_6, nz_7, nz_8, S0_43]
set_option maxRecDepth 100000 in
set_option maxHeartbeats 400000 in
theorem q_Ps_clear {c : Nat} (hc : isChap c) {N : hn} : f_Ps_clear S0 1 (N.1, N.2, rT c) = em c (F_Ps_clear c N) := by
  unfold f_Ps_clear F_Ps_clear
  try simp only [my_ite, my_hg]
  simp only [hl_n', hl_wI', hl_wL', hl_cp', em_s', em_n', em_my, em_l', em_b, em_v, emv_s', emv_n', emv_my, emv_l', emv_b, emv_v, hb_em, hv_em, my_T, my_F, ne_eq, not_false_eq_true, nz_c, S0_c, S0_lw, S0_h, isHold_36, hc, hc.d, hc.l, hc.d.l, nz_1, nz_2, nz_3, nz_4, nz_5, nz_6, nz_7, nz_8, S0_1, S0_36, rT_1_2]
set_option maxRecDepth 100000 in
set_option maxHeartbeats 400000 in
theorem q_Ps_isGuild {c : Nat} (hc : isChap c) {v1 : Int32} {N : hn} : f_Ps_isGuild S0 1 v1 (N.1, N.2, rT c) = em c (F_Ps_isGuild c v1 N) := by
  unfold f_Ps_isGuild F_Ps_isGuild
  try simp only [my_ite, my_hg]
  simp only [hl_n', hl_wI', hl_wL', hl_cp', em_s', em_n', em_my, em_l', em_b, em_v, emv_s', emv_n', emv_my, emv_l', emv_b, emv_v, hb_em, hv_em, my_T, my_F, ne_eq, not_false_eq_true, nz_c, S0_c, S0_lw, S0_h, isHold_36, hc, hc.d, hc.l, hc.d.l, nz_1, nz_2, nz_3, nz_4, nz_5, nz_6, nz_7, nz_8, S0_1, S0_19, rT_19_0, rT_1_1]
set_option maxRecDepth 100000 in
set_option maxHeartbeats 400000 in
theorem q_Rents_cloudedYear {c : Nat} (hc : isChap c) {v2 : Int32} {v3 : Int32} {N : hn} : f_Rents_cloudedYear S0 43 19 v2 v3 (N.1, N.2, rT c) = em c (F_Rents_cloudedYear c v2 v3 N) := by
  unfold f_Rents_cloudedYear F_Rents_cloudedYear
  try simp only [my_ite, my_hg]
  simp only [hl_n', hl_wI', hl_wL', hl_cp', em_s', em_n', em_my, em_l', em_b, em_v, emv_s', emv_n', emv_my, emv_l', emv_b, emv_v, hb_em, hv_em, my_T, my_F, ne_eq, not_false_eq_true, nz_c, S0_c, S0_lw, S0_h, isHold_36, hc, hc.d, hc.l, hc.d.l, nz_1, nz_2, nz_3, nz_4, nz_5, nz_6, nz_7, nz_8, S0_19, S0_43, q_Rents_measure hc, rT_19_0]
set_option maxRecDepth 100000 in
set_option maxHeartbeats 400000 in
theorem r_Hold_panesOf_1 {c : Nat} (hc : isChap c) {k4 : Nat → Int32 → Int32 → Int32 → hm_M → Option (Int32 × hm_M)} {K4 : Nat → Int32 → Int32 → Int32 → hn → Option (Int32 × hn)} (hk4 : ∀ (v0 : Nat) (v1 : Int32) (v2 : Int32) (v3 : Int32) (N : hn), isHold v0 → k4 v0 v1 v2 v3 (N.1, N.2, rT c) = em c (K4 v0 v1 v2 v3 N)) {v0 : Nat} {v1 : Int32} {v2 : Int32} {v3 : Int32} (hv0 : isHold v0) {N : hn} : b_Hold_panesOf_1 S0 k4 v0 v1 v2 v3 (N.1, N.2, rT c) = em c (B_Hold_panesOf_1 c K4 v0 v1 v2 v3 N) := by
  unfold b_Hold_panesOf_1 B_Hold_panesOf_1
  try simp only [my_ite, my_hg]
  simp only [hl_n', hl_wI', hl_wL', hl_cp', em_s', em_n', em_my, em_l', em_b, em_v, emv_s', emv_n', emv_my, emv_l', emv_b, emv_v, hb_em, hv_em, my_T, my_F, ne_eq, not_false_eq_true, nz_c, S0_c, S0_lw, S0_h, isHold_36, hc, hc.d, hc.l, hc.d.l, nz_1, nz_2, nz_3, nz_4, nz_5, nz_6, nz_7, nz_8, hv0, ib_h0, rT_h0, hk4]
theorem q_Hold_panesOf_1 {c : Nat} (hc : isChap c) : ∀ (n : Nat) (v0 : Nat) (v1 : Int32) (v2 : Int32) (v3 : Int32) (N : hn), isHold v0 → f_Hold_panesOf_1 S0 n v0 v1 v2 v3 (N.1, N.2, rT c) = em c (F_Hold_panesOf_1 c n v0 v1 v2 v3 N) := by
  intro n
  induction n with
  | zero => intros; rfl
  | succ n ih => intro v0 v1 v2 v3 N hv0; exact r_Hold_panesOf_1 hc  ih hv0
set_option maxRecDepth 100000 in
set_option maxHeartbeats 400000 in
theorem q_Hold_panesOf {c : Nat} (hc : isChap c) {v0 : Nat} {v1 : Int32} (hv0 : isHold v0) {N : hn} : f_Hold_panesOf S0 v0 v1 (N.1, N.2, rT c) = em c (F_Hold_panesOf c v0 v1 N) := by
  unfold f_Hold_panesOf F_Hold_panesOf
  try simp only [my_ite, my_hg]
  simp only [hl_n', hl_wI', hl_wL', hl_cp', em_s', em_n', em_my, em_l', em_b, em_v, emv_s', emv_n', emv_my, emv_l', emv_b, emv_v, hb_em, hv_em, my_T, my_F, ne_eq, not_false_eq_true, nz_c, S0_c, S0_lw, S0_h, isHold_36, hc, hc.d, hc.l, hc.d.l, nz_1, nz_2, nz_3, nz_4, nz_5, nz_6, nz_7, nz_8, hv0, ib_h0, rT_h0, q_Hold_panesOf_1 hc]
set_option maxRecDepth 100000 in
set_option maxHeartbeats 400000 in
theorem r_Rents_givenBy_1 {c : Nat} (hc : isChap c) {k5 : Nat → Int32 → Int32 → Int32 → Int32 → hm_M → Option (Int32 × hm_M)} {K5 : Int32 → Int32 → Int32 → Int32 → hn → Option (Int32 × hn)} (hk5 : ∀ (v1 : Int32) (v2 : Int32) (v3 : Int32) (v4 : Int32) (N : hn), k5 43 v1 v2 v3 v4 (N.1, N.2, rT c) = em c (K5 v1 v2 v3 v4 N)) {v1 : Int32} {v2 : Int32} {v3 : Int32} {v4 : Int32} {N : hn} : b_Rents_givenBy_1 S0 k5 43 v1 v2 v3 v4 (N.1, N.2, rT c) = em c (B_Rents_givenBy_1 c K5 v1 v2 v3 v4 N) := by
  unfold b_Rents_givenBy_1 B_Rents_givenBy_1
  try simp only [my_ite, my_hg]
  simp only [hl_n', hl_wI', hl_wL', hl_cp', em_s', em_n', em_my, em_l', em_b, em_v, emv_s', emv_n', emv_my, emv_l', emv_b, emv_v, hb_em, hv_em, my_T, my_F, ne_eq, not_false_eq_true, nz_c, S0_c, S0_lw, S0_h, isHold_36, hc, hc.d, hc.l, hc.d.l, nz_1, nz_2, nz_3, nz_4, nz_5, nz_6, nz_7, nz_8, S0_43, q_Rents_given hc, hk5]
theorem q_Rents_givenBy_1 {c : Nat} (hc : isChap c) : ∀ (n : Nat) (v1 : Int32) (v2 : Int32) (v3 : Int32) (v4 : Int32) (N : hn), f_Rents_givenBy_1 S0 n 43 v1 v2 v3 v4 (N.1, N.2, rT c) = em c (F_Rents_givenBy_1 c n v1 v2 v3 v4 N) := by
  intro n
  induction n with
  | zero => intros; rfl
  | succ n ih => intro v1 v2 v3 v4 N ; exact r_Rents_givenBy_1 hc  ih
set_option maxRecDepth 100000 in
set_option maxHeartbeats 400000 in
theorem q_Rents_givenBy {c : Nat} (hc : isChap c) {v1 : Int32} {v2 : Int32} {N : hn} : f_Rents_givenBy S0 43 v1 v2 (N.1, N.2, rT c) = em c (F_Rents_givenBy c v1 v2 N) := by
  unfold f_Rents_givenBy F_Rents_givenBy
  try simp only [my_ite, my_hg]
  simp only [hl_n', hl_wI', hl_wL', hl_cp', em_s', em_n', em_my, em_l', em_b, em_v, emv_s', emv_n', emv_my, emv_l', emv_b, emv_v, hb_em, hv_em, my_T, my_F, ne_eq, not_false_eq_true, nz_c, S0_c, S0_lw, S0_h, isHold_36, hc, hc.d, hc.l, hc.d.l, nz_1, nz_2, nz_3, nz_4, nz_5, nz_6, nz_7, nz_8, S0_43, q_Rents_given hc, q_Rents_givenBy_1 hc]
set_option maxRecDepth 100000 in
set_option maxHeartbeats 400000 in
theorem r_Ps_clouded_3 {c : Nat} (hc : isChap c) {k83 : Nat → Int32 → Int32 → Int32 → hm_M → Option (Int32 × hm_M)} {K83 : Int32 → Int32 → Int32 → hn → Option (Int32 × hn)} (hk83 : ∀ (v3 : Int32) (v4 : Int32) (v5 : Int32) (N : hn), k83 1 v3 v4 v5 (N.1, N.2, rT c) = em c (K83 v3 v4 v5 N)) {v3 : Int32} {v4 : Int32} {v5 : Int32} {N : hn} : b_Ps_clouded_3 S0 k83 1 v3 v4 v5 (N.1, N.2, rT c) = em c (B_Ps_clouded_3 c K83 v3 v4 v5 N) := by
  unfold b_Ps_clouded_3 B_Ps_clouded_3
  try simp only [my_ite, my_hg]
  simp only [hl_n', hl_wI', hl_wL', hl_cp', em_s', em_n', em_my, em_l', em_b, em_v, emv_s', emv_n', emv_my, emv_l', emv_b, emv_v, hb_em, hv_em, my_T, my_F, ne_eq, not_false_eq_true, nz_c, S0_c, S0_lw, S0_h, isHold_36, hc, hc.d, hc.l, hc.d.l, nz_1, nz_2, nz_3, nz_4, nz_5, nz_6, nz_7, nz_8, S0_1, S0_19, S0_36, S0_43, ib_c7, q_Hold_lit hc, q_Hold_panesOf hc, q_Ps_isGuild hc, q_Rents_cloudedYear hc, q_Rents_givenBy hc, rT_19_0, rT_1_1, rT_1_2, rT_1_4, rT_c7, hk83]
theorem q_Ps_clouded_3 {c : Nat} (hc : isChap c) : ∀ (n : Nat) (v3 : Int32) (v4 : Int32) (v5 : Int32) (N : hn), f_Ps_clouded_3 S0 n 1 v3 v4 v5 (N.1, N.2, rT c) = em c (F_Ps_clouded_3 c n v3 v4 v5 N) := by
  intro n
  induction n with
  | zero => intros; rfl
  | succ n ih => intro v3 v4 v5 N ; exact r_Ps_clouded_3 hc  ih
set_option maxRecDepth 100000 in
set_option maxHeartbeats 400000 in
theorem q_Ps_clouded_2 {c : Nat} (hc : isChap c) {v1 : Int32} {v2 : Int32} {N : hn} : b_Ps_clouded_2 S0 1 v1 v2 (N.1, N.2, rT c) = em c (B_Ps_clouded_2 c v1 v2 N) := by
  unfold b_Ps_clouded_2 B_Ps_clouded_2
  try simp only [my_ite, my_hg]
  simp only [hl_n', hl_wI', hl_wL', hl_cp', em_s', em_n', em_my, em_l', em_b, em_v, emv_s', emv_n', emv_my, emv_l', emv_b, emv_v, hb_em, hv_em, my_T, my_F, ne_eq, not_false_eq_true, nz_c, S0_c, S0_lw, S0_h, isHold_36, hc, hc.d, hc.l, hc.d.l, nz_1, nz_2, nz_3, nz_4, nz_5, nz_6, nz_7, nz_8, S0_1, S0_19, S0_36, S0_43, ib_c7, q_Hold_lit hc, q_Hold_panesOf hc, q_Ps_isGuild hc, q_Rents_cloudedYear hc, q_Rents_givenBy hc, rT_19_0, rT_1_1, rT_1_2, rT_1_4, rT_c7, q_Ps_clouded_3 hc]
set_option maxRecDepth 100000 in
set_option maxHeartbeats 400000 in
theorem q_Ps_clouded_1 {c : Nat} (hc : isChap c) {N : hn} : b_Ps_clouded_1 S0 (N.1, N.2, rT c) = em c (B_Ps_clouded_1 c N) := by
  unfold b_Ps_clouded_1 B_Ps_clouded_1
  try simp only [my_ite, my_hg]
  simp only [hl_n', hl_wI', hl_wL', hl_cp', em_s', em_n', em_my, em_l', em_b, em_v, emv_s', emv_n', emv_my, emv_l', emv_b, emv_v, hb_em, hv_em, my_T, my_F, ne_eq, not_false_eq_true, nz_c, S0_c, S0_lw, S0_h, isHold_36, hc, hc.d, hc.l, hc.d.l, nz_1, nz_2, nz_3, nz_4, nz_5, nz_6, nz_7, nz_8, S0_1, S0_19, S0_36, S0_43, ib_c7, q_Hold_lit hc, q_Hold_panesOf hc, q_Ps_isGuild hc, q_Rents_cloudedYear hc, q_Rents_givenBy hc, rT_19_0, rT_1_1, rT_1_2, rT_1_4, rT_c7, q_Ps_clouded_3 hc, q_Ps_clouded_2 hc]
set_option maxRecDepth 100000 in
set_option maxHeartbeats 400000 in
theorem q_Ps_clouded {c : Nat} (hc : isChap c) {v1 : Int32} {v2 : Int32} {N : hn} : f_Ps_clouded S0 1 v1 v2 (N.1, N.2, rT c) = em c (F_Ps_clouded c v1 v2 N) := by
  unfold f_Ps_clouded F_Ps_clouded
  try simp only [my_ite, my_hg]
  simp only [hl_n', hl_wI', hl_wL', hl_cp', em_s', em_n', em_my, em_l', em_b, em_v, emv_s', emv_n', emv_my, emv_l', emv_b, emv_v, hb_em, hv_em, my_T, my_F, ne_eq, not_false_eq_true, nz_c, S0_c, S0_lw, S0_h, isHold_36, hc, hc.d, hc.l, hc.d.l, nz_1, nz_2, nz_3, nz_4, nz_5, nz_6, nz_7, nz_8, S0_1, S0_19, S0_36, S0_43, ib_c7, q_Hold_lit hc, q_Hold_panesOf hc, q_Ps_isGuild hc, q_Rents_cloudedYear hc, q_Rents_givenBy hc, rT_19_0, rT_1_1, rT_1_2, rT_1_4, rT_c7, q_Ps_clouded_1 hc, q_Ps_clouded_2 hc, q_Ps_clouded_3 hc]
set_option maxRecDepth 100000 in
set_option maxHeartbeats 400000 in
theorem q_Ps_count {c : Nat} (hc : isChap c) {v1 : Int32} {N : hn} : f_Ps_count S0 1 v1 (N.1, N.2, rT c) = em c (F_Ps_count c v1 N) := by
  unfold f_Ps_count F_Ps_count
  try simp only [my_ite, my_hg]
  simp only [hl_n', hl_wI', hl_wL', hl_cp', em_s', em_n', em_my, em_l', em_b, em_v, emv_s', emv_n', emv_my, emv_l', emv_b, emv_v, hb_em, hv_em, my_T, my_F, ne_eq, not_false_eq_true, nz_c, S0_c, S0_lw, S0_h, isHold_36, hc, hc.d, hc.l, hc.d.l, nz_1, nz_2, nz_3, nz_4, nz_5, nz_6, nz_7, nz_8, S0_1, S0_19, S0_2, S0_3, S0_36, S0_40, q_J6_bitCount_0f7a4 hc, rT_19_0, rT_1_0, rT_1_1, rT_1_2, rT_1_3, rT_2_0]
set_option maxRecDepth 100000 in
set_option maxHeartbeats 400000 in
theorem q_Hold_swap {c : Nat} (hc : isChap c) {v0 : Nat} {v1 : Int32} {v2 : Int32} (hv0 : isHold v0) {N : hn} : f_Hold_swap S0 v0 v1 v2 (N.1, N.2, rT c) = emv c (F_Hold_swap c v0 v1 v2 N) := by
  unfold f_Hold_swap F_Hold_swap
  try simp only [my_ite, my_hg]
  simp only [hl_n', hl_wI', hl_wL', hl_cp', em_s', em_n', em_my, em_l', em_b, em_v, emv_s', emv_n', emv_my, emv_l', emv_b, emv_v, hb_em, hv_em, my_T, my_F, ne_eq, not_false_eq_true, nz_c, S0_c, S0_lw, S0_h, isHold_36, hc, hc.d, hc.l, hc.d.l, nz_1, nz_2, nz_3, nz_4, nz_5, nz_6, nz_7, nz_8, hv0, ib_h0, rT_h0]
set_option maxRecDepth 100000 in
set_option maxHeartbeats 400000 in
theorem q_Ps_exchange {c : Nat} (hc : isChap c) {v1 : Int32} {v2 : Int32} {N : hn} : f_Ps_exchange S0 1 v1 v2 (N.1, N.2, rT c) = em c (F_Ps_exchange c v1 v2 N) := by
  unfold f_Ps_exchange F_Ps_exchange
  try simp only [my_ite, my_hg]
  simp only [hl_n', hl_wI', hl_wL', hl_cp', em_s', em_n', em_my, em_l', em_b, em_v, emv_s', emv_n', emv_my, emv_l', emv_b, emv_v, hb_em, hv_em, my_T, my_F, ne_eq, not_false_eq_true, nz_c, S0_c, S0_lw, S0_h, isHold_36, hc, hc.d, hc.l, hc.d.l, nz_1, nz_2, nz_3, nz_4, nz_5, nz_6, nz_7, nz_8, S0_1, S0_36, S0_40, q_History_note hc, q_Hold_swap hc, q_Ps_canExchange hc, rT_1_2, rT_1_3]
set_option maxRecDepth 100000 in
set_option maxHeartbeats 400000 in
theorem q_Rents_fall_3 {c : Nat} (hc : isChap c) {k16 : Nat → Nat → Nat → Int32 → Int32 → hm_M → Option hm_M} {K16 : Nat → Int32 → Int32 → hn → Option hn} (hk16 : ∀ (v2 : Nat) (v3 : Int32) (v4 : Int32) (N : hn), isHold v2 → k16 43 19 v2 v3 v4 (N.1, N.2, rT c) = emv c (K16 v2 v3 v4 N)) {v2 : Nat} {v3 : Int32} {v4 : Int32} {v6 : Int32} (hv2 : isHold v2) {N : hn} : b_Rents_fall_3 S0 k16 43 19 v2 v3 v4 v6 (N.1, N.2, rT c) = emv c (B_Rents_fall_3 c K16 v2 v3 v4 v6 N) := by
  unfold b_Rents_fall_3 B_Rents_fall_3
  try simp only [my_ite, my_hg]
  simp only [hl_n', hl_wI', hl_wL', hl_cp', em_s', em_n', em_my, em_l', em_b, em_v, emv_s', emv_n', emv_my, emv_l', emv_b, emv_v, hb_em, hv_em, my_T, my_F, ne_eq, not_false_eq_true, nz_c, S0_c, S0_lw, S0_h, isHold_36, hc, hc.d, hc.l, hc.d.l, nz_1, nz_2, nz_3, nz_4, nz_5, nz_6, nz_7, nz_8, hv2, S0_19, S0_43, ib_46, ib_c7, q_Hold_lit hc, q_Hold_panesOf hc, q_J7_fill_53178 hc, q_Rents_givenBy hc, q_Rents_yearOf hc, rT_19_0, rT_43_4, rT_c7, hk16]
set_option maxRecDepth 100000 in
set_option maxHeartbeats 400000 in
theorem r_Rents_fall_2 {c : Nat} (hc : isChap c) {k16 : Nat → Nat → Nat → Int32 → Int32 → hm_M → Option hm_M} {K16 : Nat → Int32 → Int32 → hn → Option hn} (hk16 : ∀ (v2 : Nat) (v3 : Int32) (v4 : Int32) (N : hn), isHold v2 → k16 43 19 v2 v3 v4 (N.1, N.2, rT c) = emv c (K16 v2 v3 v4 N)) {k37 : Nat → Nat → Nat → Int32 → Int32 → Int32 → Int32 → Int32 → hm_M → Option hm_M} {K37 : Nat → Int32 → Int32 → Int32 → Int32 → Int32 → hn → Option hn} (hk37 : ∀ (v2 : Nat) (v3 : Int32) (v4 : Int32) (v5 : Int32) (v6 : Int32) (v7 : Int32) (N : hn), isHold v2 → k37 43 19 v2 v3 v4 v5 v6 v7 (N.1, N.2, rT c) = emv c (K37 v2 v3 v4 v5 v6 v7 N)) {v2 : Nat} {v3 : Int32} {v4 : Int32} {v5 : Int32} {v6 : Int32} {v7 : Int32} (hv2 : isHold v2) {N : hn} : b_Rents_fall_2 S0 k16 k37 43 19 v2 v3 v4 v5 v6 v7 (N.1, N.2, rT c) = emv c (B_Rents_fall_2 c K16 K37 v2 v3 v4 v5 v6 v7 N) := by
  unfold b_Rents_fall_2 B_Rents_fall_2
  try simp only [my_ite, my_hg]
  simp only [hl_n', hl_wI', hl_wL', hl_cp', em_s', em_n', em_my, em_l', em_b, em_v, emv_s', emv_n', emv_my, emv_l', emv_b, emv_v, hb_em, hv_em, my_T, my_F, ne_eq, not_false_eq_true, nz_c, S0_c, S0_lw, S0_h, isHold_36, hc, hc.d, hc.l, hc.d.l, nz_1, nz_2, nz_3, nz_4, nz_5, nz_6, nz_7, nz_8, hv2, S0_19, S0_43, ib_46, ib_c7, q_Hold_lit hc, q_Hold_panesOf hc, q_J7_fill_53178 hc, q_Rents_givenBy hc, q_Rents_yearOf hc, rT_19_0, rT_43_4, rT_c7, hk16, hk37, q_Rents_fall_3 hc hk16]
theorem q_Rents_fall_2 {c : Nat} (hc : isChap c) {k16 : Nat → Nat → Nat → Int32 → Int32 → hm_M → Option hm_M} {K16 : Nat → Int32 → Int32 → hn → Option hn} (hk16 : ∀ (v2 : Nat) (v3 : Int32) (v4 : Int32) (N : hn), isHold v2 → k16 43 19 v2 v3 v4 (N.1, N.2, rT c) = emv c (K16 v2 v3 v4 N)) : ∀ (n : Nat) (v2 : Nat) (v3 : Int32) (v4 : Int32) (v5 : Int32) (v6 : Int32) (v7 : Int32) (N : hn), isHold v2 → f_Rents_fall_2 S0 k16 n 43 19 v2 v3 v4 v5 v6 v7 (N.1, N.2, rT c) = emv c (F_Rents_fall_2 c K16 n v2 v3 v4 v5 v6 v7 N) := by
  intro n
  induction n with
  | zero => intros; rfl
  | succ n ih => intro v2 v3 v4 v5 v6 v7 N hv2; exact r_Rents_fall_2 hc hk16 ih hv2
set_option maxRecDepth 100000 in
set_option maxHeartbeats 400000 in
theorem r_Rents_fall_1 {c : Nat} (hc : isChap c) {k16 : Nat → Nat → Nat → Int32 → Int32 → hm_M → Option hm_M} {K16 : Nat → Int32 → Int32 → hn → Option hn} (hk16 : ∀ (v2 : Nat) (v3 : Int32) (v4 : Int32) (N : hn), isHold v2 → k16 43 19 v2 v3 v4 (N.1, N.2, rT c) = emv c (K16 v2 v3 v4 N)) {v2 : Nat} {v3 : Int32} {v4 : Int32} (hv2 : isHold v2) {N : hn} : b_Rents_fall_1 S0 k16 43 19 v2 v3 v4 (N.1, N.2, rT c) = emv c (B_Rents_fall_1 c K16 v2 v3 v4 N) := by
  unfold b_Rents_fall_1 B_Rents_fall_1
  try simp only [my_ite, my_hg]
  simp only [hl_n', hl_wI', hl_wL', hl_cp', em_s', em_n', em_my, em_l', em_b, em_v, emv_s', emv_n', emv_my, emv_l', emv_b, emv_v, hb_em, hv_em, my_T, my_F, ne_eq, not_false_eq_true, nz_c, S0_c, S0_lw, S0_h, isHold_36, hc, hc.d, hc.l, hc.d.l, nz_1, nz_2, nz_3, nz_4, nz_5, nz_6, nz_7, nz_8, hv2, S0_19, S0_43, ib_46, ib_c7, q_Hold_lit hc, q_Hold_panesOf hc, q_J7_fill_53178 hc, q_Rents_givenBy hc, q_Rents_yearOf hc, rT_19_0, rT_43_4, rT_c7, hk16, q_Rents_fall_3 hc hk16, q_Rents_fall_2 hc hk16]
theorem q_Rents_fall_1 {c : Nat} (hc : isChap c) : ∀ (n : Nat) (v2 : Nat) (v3 : Int32) (v4 : Int32) (N : hn), isHold v2 → f_Rents_fall_1 S0 n 43 19 v2 v3 v4 (N.1, N.2, rT c) = emv c (F_Rents_fall_1 c n v2 v3 v4 N) := by
  intro n
  induction n with
  | zero => intros; rfl
  | succ n ih => intro v2 v3 v4 N hv2; exact r_Rents_fall_1 hc  ih hv2
set_option maxRecDepth 100000 in
set_option maxHeartbeats 400000 in
theorem q_Rents_fall {c : Nat} (hc : isChap c) {v2 : Nat} (hv2 : isHold v2) {N : hn} : f_Rents_fall S0 43 19 v2 (N.1, N.2, rT c) = emv c (F_Rents_fall c v2 N) := by
  unfold f_Rents_fall F_Rents_fall
  try simp only [my_ite, my_hg]
  simp only [hl_n', hl_wI', hl_wL', hl_cp', em_s', em_n', em_my, em_l', em_b, em_v, emv_s', emv_n', emv_my, emv_l', emv_b, emv_v, hb_em, hv_em, my_T, my_F, ne_eq, not_false_eq_true, nz_c, S0_c, S0_lw, S0_h, isHold_36, hc, hc.d, hc.l, hc.d.l, nz_1, nz_2, nz_3, nz_4, nz_5, nz_6, nz_7, nz_8, hv2, S0_19, S0_43, ib_46, ib_c7, q_Hold_lit hc, q_Hold_panesOf hc, q_J7_fill_53178 hc, q_Rents_givenBy hc, q_Rents_yearOf hc, rT_19_0, rT_43_4, rT_c7, q_Rents_fall_1 hc]
set_option maxRecDepth 100000 in
set_option maxHeartbeats 400000 in
theorem r_Ps_fallen_1 {c : Nat} (hc : isChap c) {k19 : Nat → Int32 → Int32 → hm_M → Option (Int32 × hm_M)} {K19 : Int32 → Int32 → hn → Option (Int32 × hn)} (hk19 : ∀ (v1 : Int32) (v2 : Int32) (N : hn), k19 1 v1 v2 (N.1, N.2, rT c) = em c (K19 v1 v2 N)) {v1 : Int32} {v2 : Int32} {N : hn} : b_Ps_fallen_1 S0 k19 1 v1 v2 (N.1, N.2, rT c) = em c (B_Ps_fallen_1 c K19 v1 v2 N) := by
  unfold b_Ps_fallen_1 B_Ps_fallen_1
  try simp only [my_ite, my_hg]
  simp only [hl_n', hl_wI', hl_wL', hl_cp', em_s', em_n', em_my, em_l', em_b, em_v, emv_s', emv_n', emv_my, emv_l', emv_b, emv_v, hb_em, hv_em, my_T, my_F, ne_eq, not_false_eq_true, nz_c, S0_c, S0_lw, S0_h, isHold_36, hc, hc.d, hc.l, hc.d.l, nz_1, nz_2, nz_3, nz_4, nz_5, nz_6, nz_7, nz_8, S0_1, S0_19, S0_36, S0_43, ib_46, q_Rents_fall hc, rT_1_1, rT_1_2, rT_1_4, rT_43_4, hk19]
theorem q_Ps_fallen_1 {c : Nat} (hc : isChap c) : ∀ (n : Nat) (v1 : Int32) (v2 : Int32) (N : hn), f_Ps_fallen_1 S0 n 1 v1 v2 (N.1, N.2, rT c) = em c (F_Ps_fallen_1 c n v1 v2 N) := by
  intro n
  induction n with
  | zero => intros; rfl
  | succ n ih => intro v1 v2 N ; exact r_Ps_fallen_1 hc  ih
set_option maxRecDepth 100000 in
set_option maxHeartbeats 400000 in
theorem q_Ps_fallen {c : Nat} (hc : isChap c) {N : hn} : f_Ps_fallen S0 1 (N.1, N.2, rT c) = em c (F_Ps_fallen c N) := by
  unfold f_Ps_fallen F_Ps_fallen
  try simp only [my_ite, my_hg]
  simp only [hl_n', hl_wI', hl_wL', hl_cp', em_s', em_n', em_my, em_l', em_b, em_v, emv_s', emv_n', emv_my, emv_l', emv_b, emv_v, hb_em, hv_em, my_T, my_F, ne_eq, not_false_eq_true, nz_c, S0_c, S0_lw, S0_h, isHold_36, hc, hc.d, hc.l, hc.d.l, nz_1, nz_2, nz_3, nz_4, nz_5, nz_6, nz_7, nz_8, S0_1, S0_19, S0_36, S0_43, ib_46, q_Rents_fall hc, rT_1_1, rT_1_2, rT_1_4, rT_43_4, q_Ps_fallen_1 hc]
set_option maxRecDepth 100000 in
set_option maxHeartbeats 400000 in
theorem q_Ps_falls {c : Nat} (hc : isChap c) {v1 : Int32} {N : hn} : f_Ps_falls S0 1 v1 (N.1, N.2, rT c) = em c (F_Ps_falls c v1 N) := by
  unfold f_Ps_falls F_Ps_falls
  try simp only [my_ite, my_hg]
  simp only [hl_n', hl_wI', hl_wL', hl_cp', em_s', em_n', em_my, em_l', em_b, em_v, emv_s', emv_n', emv_my, emv_l', emv_b, emv_v, hb_em, hv_em, my_T, my_F, ne_eq, not_false_eq_true, nz_c, S0_c, S0_lw, S0_h, isHold_36, hc, hc.d, hc.l, hc.d.l, nz_1, nz_2, nz_3, nz_4, nz_5, nz_6, nz_7, nz_8, S0_1, S0_19, S0_36, S0_43, ib_46, q_Ps_isGuild hc, q_Rents_fall hc, rT_1_1, rT_1_2, rT_1_4, rT_43_4]
set_option maxRecDepth 100000 in
set_option maxHeartbeats 400000 in
theorem q_Tape_isFed {c : Nat} (hc : isChap c) {v0 : Int32} {N : hn} : f_Tape_isFed S0 v0 (N.1, N.2, rT c) = em c (F_Tape_isFed c v0 N) := by
  unfold f_Tape_isFed F_Tape_isFed
  try simp only [my_ite, my_hg]
  simp only [hl_n', hl_wI', hl_wL', hl_cp', em_s', em_n', em_my, em_l', em_b, em_v, emv_s', emv_n', emv_my, emv_l', emv_b, emv_v, hb_em, hv_em, my_T, my_F, ne_eq, not_false_eq_true, nz_c, S0_c, S0_lw, S0_h, isHold_36, hc, hc.d, hc.l, hc.d.l, nz_1, nz_2, nz_3, nz_4, nz_5, nz_6, nz_7, nz_8, S0_3]
set_option maxRecDepth 100000 in
set_option maxHeartbeats 400000 in
theorem r_Tape_add_1 {c : Nat} (hc : isChap c) {k3 : Nat → Int64 → Int32 → hm_M → Option hm_M} {K3 : Int64 → Int32 → hn → Option hn} (hk3 : ∀ (v1 : Int64) (v3 : Int32) (N : hn), k3 3 v1 v3 (N.1, N.2, rT c) = emv c (K3 v1 v3 N)) {v1 : Int64} {v3 : Int32} {N : hn} : b_Tape_add_1 S0 k3 3 v1 v3 (N.1, N.2, rT c) = emv c (B_Tape_add_1 c K3 v1 v3 N) := by
  unfold b_Tape_add_1 B_Tape_add_1
  try simp only [my_ite, my_hg]
  simp only [hl_n', hl_wI', hl_wL', hl_cp', em_s', em_n', em_my, em_l', em_b, em_v, emv_s', emv_n', emv_my, emv_l', emv_b, emv_v, hb_em, hv_em, my_T, my_F, ne_eq, not_false_eq_true, nz_c, S0_c, S0_lw, S0_h, isHold_36, hc, hc.d, hc.l, hc.d.l, nz_1, nz_2, nz_3, nz_4, nz_5, nz_6, nz_7, nz_8, S0_3, ib_4, q_Tape_isFed hc, rT_3_0, hk3]
theorem q_Tape_add_1 {c : Nat} (hc : isChap c) : ∀ (n : Nat) (v1 : Int64) (v3 : Int32) (N : hn), f_Tape_add_1 S0 n 3 v1 v3 (N.1, N.2, rT c) = emv c (F_Tape_add_1 c n v1 v3 N) := by
  intro n
  induction n with
  | zero => intros; rfl
  | succ n ih => intro v1 v3 N ; exact r_Tape_add_1 hc  ih
set_option maxRecDepth 100000 in
set_option maxHeartbeats 400000 in
theorem q_Tape_add {c : Nat} (hc : isChap c) {v1 : Int64} {N : hn} : f_Tape_add S0 3 v1 (N.1, N.2, rT c) = emv c (F_Tape_add c v1 N) := by
  unfold f_Tape_add F_Tape_add
  try simp only [my_ite, my_hg]
  simp only [hl_n', hl_wI', hl_wL', hl_cp', em_s', em_n', em_my, em_l', em_b, em_v, emv_s', emv_n', emv_my, emv_l', emv_b, emv_v, hb_em, hv_em, my_T, my_F, ne_eq, not_false_eq_true, nz_c, S0_c, S0_lw, S0_h, isHold_36, hc, hc.d, hc.l, hc.d.l, nz_1, nz_2, nz_3, nz_4, nz_5, nz_6, nz_7, nz_8, S0_3, ib_4, q_Tape_isFed hc, rT_3_0, q_Tape_add_1 hc]
set_option maxRecDepth 100000 in
set_option maxHeartbeats 400000 in
theorem q_Ps_feed {c : Nat} (hc : isChap c) {v1 : Int64} {v3 : Int64} {v5 : Int64} {N : hn} : f_Ps_feed S0 1 v1 v3 v5 (N.1, N.2, rT c) = em c (F_Ps_feed c v1 v3 v5 N) := by
  unfold f_Ps_feed F_Ps_feed
  try simp only [my_ite, my_hg]
  simp only [hl_n', hl_wI', hl_wL', hl_cp', em_s', em_n', em_my, em_l', em_b, em_v, emv_s', emv_n', emv_my, emv_l', emv_b, emv_v, hb_em, hv_em, my_T, my_F, ne_eq, not_false_eq_true, nz_c, S0_c, S0_lw, S0_h, isHold_36, hc, hc.d, hc.l, hc.d.l, nz_1, nz_2, nz_3, nz_4, nz_5, nz_6, nz_7, nz_8, S0_1, S0_2, S0_3, q_Tape_add hc, rT_1_0, rT_2_0]
set_option maxRecDepth 100000 in
set_option maxHeartbeats 400000 in
theorem q_Ps_gain {c : Nat} (hc : isChap c) {v1 : Int32} {v2 : Int32} {N : hn} : f_Ps_gain S0 1 v1 v2 (N.1, N.2, rT c) = em c (F_Ps_gain c v1 v2 N) := by
  unfold f_Ps_gain F_Ps_gain
  try simp only [my_ite, my_hg]
  simp only [hl_n', hl_wI', hl_wL', hl_cp', em_s', em_n', em_my, em_l', em_b, em_v, emv_s', emv_n', emv_my, emv_l', emv_b, emv_v, hb_em, hv_em, my_T, my_F, ne_eq, not_false_eq_true, nz_c, S0_c, S0_lw, S0_h, isHold_36, hc, hc.d, hc.l, hc.d.l, nz_1, nz_2, nz_3, nz_4, nz_5, nz_6, nz_7, nz_8, S0_1, S0_19, S0_36, S0_43, q_Ps_canExchange hc, q_Ps_yearNow hc, q_Rents_gainOf hc, rT_19_0, rT_1_1, rT_1_2, rT_1_4]
set_option maxRecDepth 100000 in
set_option maxHeartbeats 400000 in
theorem q_Ps_guild {c : Nat} (hc : isChap c) {v1 : Int32} {v2 : Int32} {N : hn} : f_Ps_guild S0 1 v1 v2 (N.1, N.2, rT c) = em c (F_Ps_guild c v1 v2 N) := by
  unfold f_Ps_guild F_Ps_guild
  try simp only [my_ite, my_hg]
  simp only [hl_n', hl_wI', hl_wL', hl_cp', em_s', em_n', em_my, em_l', em_b, em_v, emv_s', emv_n', emv_my, emv_l', emv_b, emv_v, hb_em, hv_em, my_T, my_F, ne_eq, not_false_eq_true, nz_c, S0_c, S0_lw, S0_h, isHold_36, hc, hc.d, hc.l, hc.d.l, nz_1, nz_2, nz_3, nz_4, nz_5, nz_6, nz_7, nz_8, S0_1, S0_19, S0_36, ib_c6, ib_c7, q_Hold_panesOf hc, q_Ps_isGuild hc, rT_19_0, rT_1_1, rT_1_2, rT_c6, rT_c7]
set_option maxRecDepth 100000 in
set_option maxHeartbeats 400000 in
theorem q_Ps_isStained {c : Nat} (hc : isChap c) {v1 : Int32} {v2 : Int32} {v3 : Int32} {v4 : Int32} {N : hn} : f_Ps_isStained S0 1 v1 v2 v3 v4 (N.1, N.2, rT c) = em c (F_Ps_isStained c v1 v2 v3 v4 N) := by
  unfold f_Ps_isStained F_Ps_isStained
  try simp only [my_ite, my_hg]
  simp only [hl_n', hl_wI', hl_wL', hl_cp', em_s', em_n', em_my, em_l', em_b, em_v, emv_s', emv_n', emv_my, emv_l', emv_b, emv_v, hb_em, hv_em, my_T, my_F, ne_eq, not_false_eq_true, nz_c, S0_c, S0_lw, S0_h, isHold_36, hc, hc.d, hc.l, hc.d.l, nz_1, nz_2, nz_3, nz_4, nz_5, nz_6, nz_7, nz_8, S0_1, q_Ps_isTime hc]
set_option maxRecDepth 100000 in
set_option maxHeartbeats 400000 in
theorem r_Hold_copy_2 {c : Nat} (hc : isChap c) {k52 : Nat → Nat → Int32 → hm_M → Option hm_M} {K52 : Nat → Nat → Int32 → hn → Option hn} (hk52 : ∀ (v0 : Nat) (v1 : Nat) (v2 : Int32) (N : hn), isHold v0 → isHold v1 → k52 v0 v1 v2 (N.1, N.2, rT c) = emv c (K52 v0 v1 v2 N)) {v0 : Nat} {v1 : Nat} {v2 : Int32} (hv0 : isHold v0) (hv1 : isHold v1) {N : hn} : b_Hold_copy_2 S0 k52 v0 v1 v2 (N.1, N.2, rT c) = emv c (B_Hold_copy_2 c K52 v0 v1 v2 N) := by
  unfold b_Hold_copy_2 B_Hold_copy_2
  try simp only [my_ite, my_hg]
  simp only [hl_n', hl_wI', hl_wL', hl_cp', em_s', em_n', em_my, em_l', em_b, em_v, emv_s', emv_n', emv_my, emv_l', emv_b, emv_v, hb_em, hv_em, my_T, my_F, ne_eq, not_false_eq_true, nz_c, S0_c, S0_lw, S0_h, isHold_36, hc, hc.d, hc.l, hc.d.l, nz_1, nz_2, nz_3, nz_4, nz_5, nz_6, nz_7, nz_8, hv0, hv1, ib_h0, ib_h3, ib_h4, rT_h0, rT_h3, rT_h4, hk52]
theorem q_Hold_copy_2 {c : Nat} (hc : isChap c) : ∀ (n : Nat) (v0 : Nat) (v1 : Nat) (v2 : Int32) (N : hn), isHold v0 → isHold v1 → f_Hold_copy_2 S0 n v0 v1 v2 (N.1, N.2, rT c) = emv c (F_Hold_copy_2 c n v0 v1 v2 N) := by
  intro n
  induction n with
  | zero => intros; rfl
  | succ n ih => intro v0 v1 v2 N hv0 hv1; exact r_Hold_copy_2 hc  ih hv0 hv1
set_option maxRecDepth 100000 in
set_option maxHeartbeats 400000 in
theorem r_Hold_copy_1 {c : Nat} (hc : isChap c) {k26 : Nat → Nat → Int32 → hm_M → Option hm_M} {K26 : Nat → Nat → Int32 → hn → Option hn} (hk26 : ∀ (v0 : Nat) (v1 : Nat) (v2 : Int32) (N : hn), isHold v0 → isHold v1 → k26 v0 v1 v2 (N.1, N.2, rT c) = emv c (K26 v0 v1 v2 N)) {v0 : Nat} {v1 : Nat} {v2 : Int32} (hv0 : isHold v0) (hv1 : isHold v1) {N : hn} : b_Hold_copy_1 S0 k26 v0 v1 v2 (N.1, N.2, rT c) = emv c (B_Hold_copy_1 c K26 v0 v1 v2 N) := by
  unfold b_Hold_copy_1 B_Hold_copy_1
  try simp only [my_ite, my_hg]
  simp only [hl_n', hl_wI', hl_wL', hl_cp', em_s', em_n', em_my, em_l', em_b, em_v, emv_s', emv_n', emv_my, emv_l', emv_b, emv_v, hb_em, hv_em, my_T, my_F, ne_eq, not_false_eq_true, nz_c, S0_c, S0_lw, S0_h, isHold_36, hc, hc.d, hc.l, hc.d.l, nz_1, nz_2, nz_3, nz_4, nz_5, nz_6, nz_7, nz_8, hv0, hv1, ib_h0, ib_h3, ib_h4, rT_h0, rT_h3, rT_h4, hk26, q_Hold_copy_2 hc]
theorem q_Hold_copy_1 {c : Nat} (hc : isChap c) : ∀ (n : Nat) (v0 : Nat) (v1 : Nat) (v2 : Int32) (N : hn), isHold v0 → isHold v1 → f_Hold_copy_1 S0 n v0 v1 v2 (N.1, N.2, rT c) = emv c (F_Hold_copy_1 c n v0 v1 v2 N) := by
  intro n
  induction n with
  | zero => intros; rfl
  | succ n ih => intro v0 v1 v2 N hv0 hv1; exact r_Hold_copy_1 hc  ih hv0 hv1
set_option maxRecDepth 100000 in
set_option maxHeartbeats 400000 in
theorem q_Hold_copy {c : Nat} (hc : isChap c) {v0 : Nat} {v1 : Nat} (hv0 : isHold v0) (hv1 : isHold v1) {N : hn} : f_Hold_copy S0 v0 v1 (N.1, N.2, rT c) = emv c (F_Hold_copy c v0 v1 N) := by
  unfold f_Hold_copy F_Hold_copy
  try simp only [my_ite, my_hg]
  simp only [hl_n', hl_wI', hl_wL', hl_cp', em_s', em_n', em_my, em_l', em_b, em_v, emv_s', emv_n', emv_my, emv_l', emv_b, emv_v, hb_em, hv_em, my_T, my_F, ne_eq, not_false_eq_true, nz_c, S0_c, S0_lw, S0_h, isHold_36, hc, hc.d, hc.l, hc.d.l, nz_1, nz_2, nz_3, nz_4, nz_5, nz_6, nz_7, nz_8, hv0, hv1, ib_h0, ib_h3, ib_h4, rT_h0, rT_h3, rT_h4, q_Hold_copy_1 hc, q_Hold_copy_2 hc]
set_option maxRecDepth 100000 in
set_option maxHeartbeats 400000 in
theorem q_Walk_passes {c : Nat} (hc : isChap c) {v1 : Int32} {N : hn} : f_Walk_passes S0 55 v1 (N.1, N.2, rT c) = em c (F_Walk_passes c v1 N) := by
  unfold f_Walk_passes F_Walk_passes
  try simp only [my_ite, my_hg]
  simp only [hl_n', hl_wI', hl_wL', hl_cp', em_s', em_n', em_my, em_l', em_b, em_v, emv_s', emv_n', emv_my, emv_l', emv_b, emv_v, hb_em, hv_em, my_T, my_F, ne_eq, not_false_eq_true, nz_c, S0_c, S0_lw, S0_h, isHold_36, hc, hc.d, hc.l, hc.d.l, nz_1, nz_2, nz_3, nz_4, nz_5, nz_6, nz_7, nz_8, S0_55, ib_56, ib_57, rT_55_0, rT_55_1]
set_option maxRecDepth 100000 in
set_option maxHeartbeats 400000 in
theorem r_Hold_ownersOf_1 {c : Nat} (hc : isChap c) {k4 : Nat → Int32 → Int32 → Int32 → hm_M → Option (Int32 × hm_M)} {K4 : Nat → Int32 → Int32 → Int32 → hn → Option (Int32 × hn)} (hk4 : ∀ (v0 : Nat) (v1 : Int32) (v2 : Int32) (v3 : Int32) (N : hn), isHold v0 → k4 v0 v1 v2 v3 (N.1, N.2, rT c) = em c (K4 v0 v1 v2 v3 N)) {v0 : Nat} {v1 : Int32} {v2 : Int32} {v3 : Int32} (hv0 : isHold v0) {N : hn} : b_Hold_ownersOf_1 S0 k4 v0 v1 v2 v3 (N.1, N.2, rT c) = em c (B_Hold_ownersOf_1 c K4 v0 v1 v2 v3 N) := by
  unfold b_Hold_ownersOf_1 B_Hold_ownersOf_1
  try simp only [my_ite, my_hg]
  simp only [hl_n', hl_wI', hl_wL', hl_cp', em_s', em_n', em_my, em_l', em_b, em_v, emv_s', emv_n', emv_my, emv_l', emv_b, emv_v, hb_em, hv_em, my_T, my_F, ne_eq, not_false_eq_true, nz_c, S0_c, S0_lw, S0_h, isHold_36, hc, hc.d, hc.l, hc.d.l, nz_1, nz_2, nz_3, nz_4, nz_5, nz_6, nz_7, nz_8, hv0, ib_h0, rT_h0, hk4]
theorem q_Hold_ownersOf_1 {c : Nat} (hc : isChap c) : ∀ (n : Nat) (v0 : Nat) (v1 : Int32) (v2 : Int32) (v3 : Int32) (N : hn), isHold v0 → f_Hold_ownersOf_1 S0 n v0 v1 v2 v3 (N.1, N.2, rT c) = em c (F_Hold_ownersOf_1 c n v0 v1 v2 v3 N) := by
  intro n
  induction n with
  | zero => intros; rfl
  | succ n ih => intro v0 v1 v2 v3 N hv0; exact r_Hold_ownersOf_1 hc  ih hv0
